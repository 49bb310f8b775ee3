def lp (F T : Nat → Nat) (w : Nat → Int32) (a v j : Nat) : Int := lapL F T (wZ w) a 0 v j
/-- what holds of the piles -/
def pI (n s : Nat) (lo B : Int) (L : Nat → Int64) : Prop := (∀ j, j < n → j ≠ s → 0 ≤ (L j).toInt) ∧ lo ≤ (L s).toInt ∧ mSum n (fun j => (L j).toInt) ≤ B ∧ -1000 ≤ lo ∧ B ≤ 200000
theorem pI.bd {n s : Nat} {lo B : Int} {L : Nat → Int64} (h : pI n s lo B L) (hs : s < n) {j : Nat} (hj : j < n) : -1000 ≤ (L j).toInt ∧ (L j).toInt ≤ 201000 := by
  obtain ⟨h1, h2, h3, h4, h5⟩ := h
  have lo' : -1000 ≤ (L j).toInt := by
    by_cases c : j = s
    · rw [c]; omega
    · have := h1 j hj c; omega
  refine ⟨lo', ?_⟩
  have e : mSum n (fun j => (L j).toInt + (if j = s then 1000 else 0)) = mSum n (fun j => (L j).toInt) + 1000 := by
    rw [mSum_add, mSum_one n s hs (fun i _ hne => if_neg hne), if_pos rfl]
  have := zs_one (f := fun j => (L j).toInt + (if j = s then 1000 else 0)) (j := j) n hj (fun i hi => by
    by_cases c : i = s
    · rw [if_pos c, c]; omega
    · rw [if_neg c]; have := h1 i hi c; omega)
  rw [e] at this
  by_cases c : j = s
  · rw [if_pos c] at this; omega
  · rw [if_neg c] at this; omega
theorem netOk.lpb {n a : Nat} {F T : Nat → Nat} {w : Nat → Int32} (h : netOk n a F T w) (v j : Nat) : -270 ≤ lp F T w a v j ∧ lp F T w a v j ≤ 270 := by
  have := lap_bd (F := F) (T := T) (W := wZ w) (v := v) (j := j) a 0 (fun i _ hi => h.wz i (by omega))
  have ha := h.2.1
  unfold lp
  omega
theorem netOk.lpn {n a : Nat} {F T : Nat → Nat} {w : Nat → Int32} (h : netOk n a F T w) {v j : Nat} (hne : j ≠ v) : lp F T w a v j ≤ 0 := lap_off hne a 0 (fun i _ hi => (h.wz i (by omega)).1)
theorem netOk.lps {n a : Nat} {F T : Nat → Nat} {w : Nat → Int32} (h : netOk n a F T w) {v : Nat} (hv : v < n) : mSum n (fun j => lp F T w a v j) = 0 := lap_row hv (fun j _ hj => h.2.2.1 j (by omega))
theorem dg_int {n a v : Nat} {F T : Nat → Nat} {w : Nat → Int32} (h : netOk n a F T w) : (dgV F T w a v).toInt = lp F T w a v v := by
  have b := h.lpb v v
  rw [dgV_ok]
  exact i64_oft (by unfold lp at b; omega) (by unfold lp at b; omega)
/-- one node fires -/
theorem fire_int {n a s v : Nat} {lo B : Int} {F T : Nat → Nat} {w : Nat → Int32} {L : Nat → Int64} (h : netOk n a F T w) (hs : s < n) (hv : v < n) (hvs : v ≠ s) (hd : 0 < lp F T w a v v) (hp : pI n s lo B L) : (L v / dgV F T w a v).toInt = (L v).toInt / lp F T w a v v ∧ (∀ j, j < n → (fnV F T w a v (L v / dgV F T w a v) L j).toInt = (L j).toInt - (L v).toInt / lp F T w a v v * lp F T w a v j) ∧ pI n s lo B (fnV F T w a v (L v / dgV F T w a v) L) := by
  have edg := dg_int (v := v) h
  have hv0 := hp.1 v hv hvs
  have hvb := (hp.bd hs hv).2
  have eq : (L v / dgV F T w a v).toInt = (L v).toInt / lp F T w a v v := by
    rw [i64_div (by rw [edg]; exact hd), edg, Int.tdiv_eq_ediv_of_nonneg hv0]
  have q0 : 0 ≤ (L v).toInt / lp F T w a v v := Int.ediv_nonneg hv0 (by omega)
  have q1 : (L v).toInt / lp F T w a v v ≤ 201000 := by
    have := Int.ediv_le_self (b := lp F T w a v v) hv0
    omega
  have qd : (L v).toInt / lp F T w a v v * lp F T w a v v ≤ (L v).toInt := Int.ediv_mul_le _ (by omega)
  have ej : ∀ j, j < n → (fnV F T w a v (L v / dgV F T w a v) L j).toInt = (L j).toInt - (L v).toInt / lp F T w a v v * lp F T w a v j := by
    intro j hj
    have b := h.lpb v j
    have bj := hp.bd hs hj
    have m1 : (L v).toInt / lp F T w a v v * lp F T w a v j ≤ 201000 * 270 := by
      by_cases c : 0 ≤ lp F T w a v j
      · exact Int.mul_le_mul q1 b.2 c (by decide)
      · have := Int.mul_nonneg q0 (show 0 ≤ - lp F T w a v j by omega)
        rw [Int.mul_neg] at this; omega
    have m2 : -(201000 * 270) ≤ (L v).toInt / lp F T w a v v * lp F T w a v j := by
      by_cases c : 0 ≤ lp F T w a v j
      · have := Int.mul_nonneg q0 c; omega
      · have := Int.mul_le_mul q1 (show - lp F T w a v j ≤ 270 by omega) (by omega) (by decide)
        rw [Int.mul_neg] at this; omega
    have e : fnV F T w a v (L v / dgV F T w a v) L j = Int64.ofInt ((L j).toInt - (L v).toInt / lp F T w a v v * lp F T w a v j) := by
      unfold fnV
      rw [fnL_ok, i64_ofs, i64_ofm, ← eq, i64_of, i64_of]
      rfl
    rw [e, i64_oft (by omega) (by omega)]
  refine ⟨eq, ej, ?_⟩
  obtain ⟨h1, h2, h3, h4, h5⟩ := hp
  have up : ∀ j, j < n → j ≠ v → (L j).toInt ≤ (fnV F T w a v (L v / dgV F T w a v) L j).toInt := by
    intro j hj hjv
    rw [ej j hj]
    have := Int.mul_nonneg q0 (show 0 ≤ - lp F T w a v j by have := h.lpn (v := v) (j := j) hjv; omega)
    rw [Int.mul_neg] at this; omega
  refine ⟨fun j hj hjs => ?_, ?_, ?_, h4, h5⟩
  · by_cases c : j = v
    · subst c; rw [ej j hj]; omega
    · have := up j hj c; have := h1 j hj hjs; omega
  · have := up s hs (fun z => hvs z.symm); omega
  · have e : mSum n (fun j => (fnV F T w a v (L v / dgV F T w a v) L j).toInt) = mSum n (fun j => (L j).toInt + (-((L v).toInt / lp F T w a v v)) * lp F T w a v j) := mSum_congr _ (fun j hj => by rw [ej j hj]; grind)
    rw [e, mSum_add, mSum_mul, h.lps hv]; omega
/-- one sweep -/
theorem sweep_ok {n a s : Nat} {lo B : Int} {F T : Nat → Nat} {w : Nat → Int32} (h : netOk n a F T w) (hs : s < n) (hdg : ∀ v, v < n → v ≠ s → 0 < lp F T w a v v) : ∀ (m v : Nat) (L G : Nat → Int64) (al : Int64) (go : Bool), v + m = n → pI n s lo B L → pI n s lo B (spI F T w a s m v L G al go).1 ∧ ∃ t : Nat → Int, (∀ u, 0 ≤ t u) ∧ t s = 0 ∧ (∀ u, u < v → t u = 0) ∧ (∀ j, j < n → ((spI F T w a s m v L G al go).1 j).toInt = (L j).toInt - mSum n (fun u => t u * lp F T w a u j)) ∧ ((spI F T w a s m v L G al go).2.2.2 = true → go = true ∨ ∃ u, u < n ∧ 1 ≤ t u) ∧ (∀ u, v ≤ u → u < n → u ≠ s → ∀ q : Int, q * lp F T w a u u ≤ (L u).toInt → q ≤ t u) := by
  intro m
  induction m with
  | zero =>
    intro v L G al go hv hp
    refine ⟨hp, fun _ => 0, fun _ => Int.le_refl _, rfl, fun _ _ => rfl, fun j _ => ?_, fun z => Or.inl z, fun u h1 h2 => by omega⟩
    rw [mSum_zero n (fun u _ => by grind)]
    show (L j).toInt = _
    omega
  | succ m ih =>
    intro v L G al go hv hp
    have hvn : v < n := by omega
    unfold spI
    by_cases c : v ≠ s ∧ ¬ L v < dgV F T w a v
    · rw [if_pos c]
      have hd := hdg v hvn c.1
      obtain ⟨f1, f2, f3⟩ := fire_int h hs hvn c.1 hd hp
      have hge : lp F T w a v v ≤ (L v).toInt := by
        have := Int64.le_iff_toInt_le.mp (Int64.not_lt.mp c.2)
        rw [dg_int h] at this; exact this
      have q1 : 1 ≤ (L v).toInt / lp F T w a v v := Int.le_ediv_of_mul_le hd (by omega)
      obtain ⟨i1, t, i2, i3, i4, i5, i6, i7⟩ := ih (v + 1) _ (vp_updL G v (G v + L v / dgV F T w a v)) (al + L v / dgV F T w a v) true (by omega) f3
      have up : ∀ j, j < n → j ≠ v → (L j).toInt ≤ (fnV F T w a v (L v / dgV F T w a v) L j).toInt := by
        intro j hj hjv
        rw [f2 j hj]
        have := Int.mul_nonneg (show 0 ≤ (L v).toInt / lp F T w a v v by omega) (show 0 ≤ - lp F T w a v j by have := h.lpn (v := v) (j := j) hjv; omega)
        rw [Int.mul_neg] at this; omega
      obtain ⟨t', ht'⟩ : ∃ t' : Nat → Int, ∀ u, t' u = t u + (if u = v then (L v).toInt / lp F T w a v v else 0) := ⟨_, fun _ => rfl⟩
      refine ⟨i1, t', fun u => ?_, ?_, fun u hu => ?_, fun j hj => ?_, fun _ => Or.inr ⟨v, hvn, ?_⟩, fun u h1 h2 h3 q hq => ?_⟩
      · rw [ht']; have := i2 u; split <;> omega
      · rw [ht', i3, if_neg (fun z => c.1 z.symm)]; rfl
      · rw [ht', i4 u (by omega), if_neg (by omega)]; rfl
      · rw [i5 j hj, f2 j hj]
        have e : mSum n (fun u => t' u * lp F T w a u j) = mSum n (fun u => t u * lp F T w a u j + (if u = v then (L v).toInt / lp F T w a v v * lp F T w a v j else 0)) := by
          refine mSum_congr _ (fun u _ => ?_)
          rw [ht']
          by_cases z : u = v
          · rw [if_pos z, if_pos z, z]; grind
          · rw [if_neg z, if_neg z]; grind
        rw [e, mSum_add, mSum_one n v hvn (fun i _ hne => if_neg hne), if_pos rfl]; omega
      · rw [ht', if_pos rfl]; have := i2 v; omega
      · by_cases z : u = v
        · subst z
          rw [ht', if_pos rfl]
          have := Int.le_ediv_of_mul_le hd hq
          have := i2 u; omega
        · rw [ht', if_neg z]
          have := i7 u (by omega) h2 h3 q (by have := up u h2 z; omega)
          omega
    · rw [if_neg c]
      obtain ⟨i1, t, i2, i3, i4, i5, i6, i7⟩ := ih (v + 1) L G al go (by omega) hp
      refine ⟨i1, t, i2, i3, fun u hu => i4 u (by omega), i5, i6, fun u h1 h2 h3 q hq => ?_⟩
      by_cases z : u = v
      · subst z
        have hlt : L u < dgV F T w a u := by
          false_or_by_contra
          rename_i hx
          exact c ⟨h3, hx⟩
        have hlt2 := Int64.lt_iff_toInt_lt.mp hlt
        rw [dg_int h] at hlt2
        have hd := hdg u hvn h3
        have : q < 1 := by
          false_or_by_contra
          rename_i hx
          have := Int.mul_le_mul_of_nonneg_right (show 1 ≤ q by omega) (show 0 ≤ lp F T w a u u by omega)
          omega
        have := i2 u; omega
      · exact i7 u (by omega) h2 h3 q hq
def oS (n s : Nat) (L : Nat → Int64) : Int := offS n s (fun j => (L j).toInt)
/-- many sweeps -/
theorem run_ok {n a s : Nat} {lo B : Int} {F T : Nat → Nat} {w : Nat → Int32} (h : netOk n a F T w) (hs : s < n) (hdg : ∀ v, v < n → v ≠ s → 0 < lp F T w a v v) : ∀ (D : Nat) (L G : Nat → Int64) (al : Int64), pI n s lo B L → (∃ val, spO F T w n a s D L G al = some val) ∨ ∃ (L' G' : Nat → Int64) (al' : Int64) (t : Nat → Int), pI n s lo B L' ∧ (∀ f, spO F T w n a s (D + f) L G al = spO F T w n a s f L' G' al') ∧ (∀ u, 0 ≤ t u) ∧ t s = 0 ∧ (∀ j, j < n → (L' j).toInt = (L j).toInt - mSum n (fun u => t u * lp F T w a u j)) ∧ oS n s L' ≤ oS n s L ∧ (∀ q : Int, 1 ≤ q → 540 * q ≤ oS n s L' → D * q ≤ mSum n t) ∧ (D : Int) ≤ mSum n t := by
  intro D
  induction D with
  | zero =>
    intro L G al hp
    right
    refine ⟨L, G, al, fun _ => 0, hp, fun f => by rw [Nat.zero_add], fun _ => Int.le_refl _, rfl, fun j _ => ?_, Int.le_refl _, fun q _ _ => ?_, ?_⟩
    · rw [mSum_zero n (fun u _ => by grind)]; omega
    · rw [mSum_zero n (fun _ _ => rfl)]; simp
    · rw [mSum_zero n (fun _ _ => rfl)]; decide
  | succ D ih =>
    intro L G al hp
    obtain ⟨p1, t1, a1, a2, _, a4, a5, a6⟩ := sweep_ok h hs hdg n 0 L G al false (by omega) hp
    by_cases go : (spI F T w a s n 0 L G al false).2.2.2 = true
    · -- the sweep fired
      have hmono : oS n s (spI F T w a s n 0 L G al false).1 ≤ oS n s L := by
        show mSum n (fun j => if j = s then 0 else ((spI F T w a s n 0 L G al false).1 j).toInt) ≤ mSum n (fun j => if j = s then 0 else (L j).toInt)
        have e : mSum n (fun j => if j = s then 0 else ((spI F T w a s n 0 L G al false).1 j).toInt) = mSum n (fun j => (if j = s then 0 else (L j).toInt) + (-1) * (if j = s then 0 else mSum n (fun u => t1 u * lp F T w a u j))) := by
          refine mSum_congr _ (fun j hj => ?_)
          by_cases z : j = s
          · rw [if_pos z, if_pos z, if_pos z]; rfl
          · rw [if_neg z, if_neg z, if_neg z, a4 j hj]; grind
        rw [e, mSum_add, mSum_mul]
        have hb := bil (W := wZ w) (F := F) (T := T) (t := t1) (f := fun j => if j = s then 0 else 1) a 0 (fun j _ hj => h.2.2.1 j (by omega)) (n := n)
        have e2 : mSum n (fun j => if j = s then 0 else mSum n (fun u => t1 u * lp F T w a u j)) = mSum n (fun j => (if j = s then (0 : Int) else 1) * mSum n (fun u => t1 u * lapL F T (wZ w) a 0 u j)) := by
          refine mSum_congr _ (fun j _ => ?_)
          by_cases z : j = s
          · rw [if_pos z, if_pos z]; grind
          · rw [if_neg z, if_neg z]; unfold lp; grind
        rw [e2, hb]
        have nn : ∀ m k, k + m = a → 0 ≤ arcS F T (wZ w) t1 (fun j => if j = s then 0 else 1) m k := by
          intro m
          induction m with
          | zero => intro k _; exact Int.le_refl _
          | succ m ihm =>
            intro k hk
            unfold arcS
            have h1 := ihm (k + 1) (by omega)
            have h2 := (h.wz k (by omega)).1
            have f1 := a1 (F k)
            have f2 := a1 (T k)
            have h3 : 0 ≤ (t1 (F k) - t1 (T k)) * ((if F k = s then (0 : Int) else 1) - (if T k = s then 0 else 1)) := by
              by_cases c1 : F k = s <;> by_cases c2 : T k = s
              · rw [if_pos c1, if_pos c2]; simp
              · rw [if_pos c1, if_neg c2, c1, a2]; omega
              · rw [if_neg c1, if_pos c2, c2, a2]; omega
              · rw [if_neg c1, if_neg c2]; simp
            have h4 := Int.mul_nonneg h2 h3
            rw [← Int.mul_assoc] at h4
            omega
        have := nn a 0 (by omega)
        omega
      have one : 1 ≤ mSum n t1 := by
        rcases a5 go with z | ⟨u, hu, h1⟩
        · exact absurd z (by decide)
        · have := zs_one (f := t1) (j := u) n hu (fun i _ => a1 i); omega
      have many : ∀ q : Int, 1 ≤ q → 540 * q ≤ oS n s L → q ≤ mSum n t1 := by
        intro q hq1 hq
        by_cases ex : ∃ u, u < n ∧ u ≠ s ∧ q * lp F T w a u u ≤ (L u).toInt
        · obtain ⟨u, hu, hus, hle⟩ := ex
          have h1 := a6 u (by omega) hu hus q hle
          have h2 := zs_one (f := t1) (j := u) n hu (fun i _ => a1 i)
          omega
        · exfalso
          have hlt : ∀ u, u < n → u ≠ s → (L u).toInt + 1 ≤ q * lp F T w a u u := by
            intro u hu hus
            false_or_by_contra
            rename_i hx
            exact ex ⟨u, hu, hus, by omega⟩
          have s1 : mSum n (fun u => (if u = s then 0 else (L u).toInt) + (if u = s then 0 else 1)) ≤ mSum n (fun u => q * lp F T w a u u) := by
            refine zs_le n (fun u hu => ?_)
            by_cases z : u = s
            · rw [if_pos z, if_pos z]
              have := Int.mul_nonneg (show 0 ≤ q by omega) (lap_nn (F := F) (T := T) (W := wZ w) (v := u) a 0 (fun i _ hi => (h.wz i (by omega)).1))
              exact this
            · rw [if_neg z, if_neg z]; exact hlt u hu z
          have s2 := lap_tr (F := F) (T := T) (W := wZ w) (n := n) a 0 (fun i _ hi => ⟨(h.wz i (by omega)).1, (h.wz i (by omega)).2, (h.2.2.1 i (by omega)).1, (h.2.2.1 i (by omega)).2⟩)
          have s3 : mSum n (fun u => q * lp F T w a u u) ≤ q * 540 := by
            rw [mSum_mul]
            have ha := h.2.1
            exact Int.mul_le_mul_of_nonneg_left (by unfold lp; omega) (by omega)
          rw [mSum_add] at s1
          have s4 : mSum n (fun u => if u = s then 0 else (L u).toInt) = oS n s L := rfl
          rw [s4] at s1
          have s5 : 0 ≤ mSum n (fun u => if u = s then (0 : Int) else 1) := zs_nn n (fun u _ => by split <;> decide)
          -- no other node
          by_cases alone : ∃ u, u < n ∧ u ≠ s
          · obtain ⟨u, hu, hus⟩ := alone
            have := zs_one (f := fun u => if u = s then (0 : Int) else 1) (j := u) n hu (fun i _ => by split <;> decide)
            rw [if_neg hus] at this
            omega
          · have z : oS n s L = 0 := by
              unfold oS offS
              refine mSum_zero n (fun u hu => ?_)
              by_cases c : u = s
              · rw [if_pos c]
              · exact absurd ⟨u, hu, c⟩ alone
            omega
      rcases ih (spI F T w a s n 0 L G al false).1 (spI F T w a s n 0 L G al false).2.1 (spI F T w a s n 0 L G al false).2.2.1 p1 with ⟨val, hval⟩ | ⟨L', G', al', t2, b1, b2, b3, b4, b5, b6, b7, b8⟩
      · left; exact ⟨val, by unfold spO; rw [if_pos go]; exact hval⟩
      · right
        obtain ⟨t', ht'⟩ : ∃ t' : Nat → Int, ∀ u, t' u = t1 u + t2 u := ⟨_, fun _ => rfl⟩
        have hts : mSum n t' = mSum n t1 + mSum n t2 := by rw [← mSum_add]; exact mSum_congr _ (fun u _ => ht' u)
        refine ⟨L', G', al', t', b1, fun f => ?_, fun u => by rw [ht']; have := a1 u; have := b3 u; omega, by rw [ht', a2, b4]; rfl, fun j hj => ?_, Int.le_trans b6 hmono, fun q hq1 hq => ?_, ?_⟩
        · rw [show D + 1 + f = (D + f) + 1 by omega]
          conv => lhs; unfold spO
          rw [if_pos go]; exact b2 f
        · rw [b5 j hj, a4 j hj]
          have e : mSum n (fun u => t' u * lp F T w a u j) = mSum n (fun u => t1 u * lp F T w a u j + t2 u * lp F T w a u j) := mSum_congr _ (fun u _ => by rw [ht']; grind)
          rw [e, mSum_add]; omega
        · rw [hts]
          have h1 := b7 q hq1 hq
          have h2 := many q hq1 (by omega)
          have e : ((D + 1 : Nat) : Int) * q = D * q + q := by grind
          omega
        · rw [hts]; omega
    · left; exact ⟨_, by unfold spO; rw [if_neg go]⟩
theorem tot_le {t : Nat → Int} {n s : Nat} {c : Int} (hn : n ≤ 10) (hs : s < n) (c0 : 0 ≤ c) (hts : t s = 0) (h : ∀ v, v < n → t v ≤ 9 * c) : mSum n t ≤ 81 * c := by
  have h1 : mSum n (fun v => t v + (if v = s then 9 * c else 0)) ≤ mSum n (fun _ => 9 * c) := by
    refine zs_le n (fun v hv => ?_)
    by_cases e : v = s
    · rw [if_pos e, e, hts]; omega
    · rw [if_neg e]; have := h v hv; omega
  rw [mSum_add, mSum_one n s hs (fun i _ hne => if_neg hne), if_pos rfl, zs_const] at h1
  have e2 : 9 * c * (n : Int) ≤ 9 * c * 10 := Int.mul_le_mul_of_nonneg_left (by omega) (by omega)
  omega
theorem stop_step {n a s : Nat} {lo B : Int} {F T : Nat → Nat} {w : Nat → Int32} (h : netOk n a F T w) (hs : s < n) (hdg : ∀ v, v < n → v ≠ s → 0 < lp F T w a v v) (hcon : ∀ h : Nat → Nat, (∀ j, j < a → h (F j) = h (T j)) → ∀ u v, u < n → v < n → h u = h v) {hh hl q : Int} {D f2 : Nat} (hq1 : 1 ≤ q) (hlow : 540 * q ≤ hl + 1) (hD : 81 * hh < D * q) (nxt : ∀ (L G : Nat → Int64) (al : Int64), pI n s lo B L → oS n s L ≤ hl → ∃ val, spO F T w n a s f2 L G al = some val) : ∀ (L G : Nat → Int64) (al : Int64), pI n s lo B L → oS n s L ≤ hh → ∃ val, spO F T w n a s (D + f2) L G al = some val := by
  intro L G al hp ho
  rcases run_ok h hs hdg D L G al hp with ⟨val, hval⟩ | ⟨L', G', al', t, b1, b2, b3, b4, b5, b6, b7, b8⟩
  · have mono : ∀ (f : Nat) (L G : Nat → Int64) (al : Int64) (val : (Nat → Int64) × (Nat → Int64) × Int64), spO F T w n a s f L G al = some val → ∀ g, spO F T w n a s (f + g) L G al = some val := by
      intro f
      induction f with
      | zero => intro L G al val hv; cases hv
      | succ f ih =>
        intro L G al val hv g
        rw [show f + 1 + g = f + g + 1 by omega]
        unfold spO at hv ⊢
        split at hv
        · rename_i e; rw [if_pos e]; exact ih _ _ _ _ hv g
        · rename_i e; rw [if_neg e]; exact hv
    exact ⟨val, mono D L G al val hval f2⟩
  · have bd := fire_bd (W := wZ w) (l := fun j => (L j).toInt) (l' := fun j => (L' j).toInt) h.2.2.1 (fun k hk => (h.2.2.2 k hk).1) hs hcon b3 b4 hp.1 b1.1 b5
    have o0 : 0 ≤ oS n s L := zs_nn n (fun j hj => by by_cases c : j = s; rw [if_pos c]; exact Int.le_refl _; rw [if_neg c]; exact hp.1 j hj c)
    have hn := h.1
    have tot : mSum n t ≤ 81 * oS n s L := tot_le hn hs o0 b4 (fun v hv => by
      have e1 := bd v hv
      have e2 : ((n - 1 : Nat) : Int) * oS n s L ≤ 9 * oS n s L := Int.mul_le_mul_of_nonneg_right (by omega) o0
      have e3 : offS n s (fun j => (L j).toInt) = oS n s L := rfl
      rw [e3] at e1
      omega)
    have hlt : oS n s L' ≤ hl := by
      false_or_by_contra
      rename_i hx
      have := b7 q hq1 (by omega)
      omega
    obtain ⟨val, hval⟩ := nxt L' G' al' b1 hlt
    exact ⟨val, by rw [b2 f2]; exact hval⟩
/-- settling ends -/
theorem stop_ok {n a s : Nat} {lo B : Int} {F T : Nat → Nat} {w : Nat → Int32} (h : netOk n a F T w) (hs : s < n) (hdg : ∀ v, v < n → v ≠ s → 0 < lp F T w a v v) (hcon : ∀ h : Nat → Nat, (∀ j, j < a → h (F j) = h (T j)) → ∀ u v, u < n → v < n → h u = h v) : ∀ (L G : Nat → Int64) (al : Int64), pI n s lo B L → oS n s L ≤ 103679 → ∃ val, spO F T w n a s 700000 L G al = some val := by
  have t0 : ∀ (L G : Nat → Int64) (al : Int64), pI n s lo B L → oS n s L ≤ 539 → ∃ val, spO F T w n a s 43660 L G al = some val := by
    intro L G al hp ho
    -- every sweep that goes on fires at least once
    rcases run_ok h hs hdg 43660 L G al hp with ⟨val, hval⟩ | ⟨L', G', al', t, b1, b2, b3, b4, b5, b6, b7, b8⟩
    · exact ⟨val, hval⟩
    · exfalso
      have bd := fire_bd (W := wZ w) (l := fun j => (L j).toInt) (l' := fun j => (L' j).toInt) h.2.2.1 (fun k hk => (h.2.2.2 k hk).1) hs hcon b3 b4 hp.1 b1.1 b5
      have o0 : 0 ≤ oS n s L := zs_nn n (fun j hj => by by_cases c : j = s; rw [if_pos c]; exact Int.le_refl _; rw [if_neg c]; exact hp.1 j hj c)
      have hn := h.1
      have tot : mSum n t ≤ 81 * oS n s L := tot_le hn hs o0 b4 (fun v hv => by
        have e1 := bd v hv
        have e2 : ((n - 1 : Nat) : Int) * oS n s L ≤ 9 * oS n s L := Int.mul_le_mul_of_nonneg_right (by omega) o0
        have e3 : offS n s (fun j => (L j).toInt) = oS n s L := rfl
        rw [e3] at e1
        omega)
      omega
  have t1 := stop_step h hs hdg hcon (hh := 1619) (hl := 539) (q := 1) (D := 131140) (f2 := 43660) (by decide) (by decide) (by decide) t0
  have t2 := stop_step h hs hdg hcon (hh := 3239) (hl := 1619) (q := 3) (D := 87454) (f2 := 131140 + 43660) (by decide) (by decide) (by decide) t1
  have t3 := stop_step h hs hdg hcon (hh := 6479) (hl := 3239) (q := 6) (D := 87467) (f2 := 87454 + (131140 + 43660)) (by decide) (by decide) (by decide) t2
  have t4 := stop_step h hs hdg hcon (hh := 12959) (hl := 6479) (q := 12) (D := 87474) (f2 := 87467 + (87454 + (131140 + 43660))) (by decide) (by decide) (by decide) t3
  have t5 := stop_step h hs hdg hcon (hh := 25919) (hl := 12959) (q := 24) (D := 87477) (f2 := 87474 + (87467 + (87454 + (131140 + 43660)))) (by decide) (by decide) (by decide) t4
  have t6 := stop_step h hs hdg hcon (hh := 51839) (hl := 25919) (q := 48) (D := 87479) (f2 := 87477 + (87474 + (87467 + (87454 + (131140 + 43660))))) (by decide) (by decide) (by decide) t5
  have t7 := stop_step h hs hdg hcon (hh := 103679) (hl := 51839) (q := 96) (D := 87849) (f2 := 87479 + (87477 + (87474 + (87467 + (87454 + (131140 + 43660)))))) (by decide) (by decide) (by decide) t6
  exact t7
