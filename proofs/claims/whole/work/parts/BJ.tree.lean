/-- the reference's with, drawn, place -/
def bset (X : Nat → Bool) (k : Nat) : Nat → Bool := fun j => if j = k then true else X j
def wiV (n a : Nat) (F T : Nat → Nat) (w : Nat → Int32) (k : Nat) (X : Nat → Bool) (P : Nat → Nat) : Int64 := if P (F k) = P (T k) then 0 else cnV n a F T w (bset X k) (jmP (F k) (T k) P) * (w k).toInt64
def drL (n a : Nat) (F T : Nat → Nat) (w : Nat → Int32) : Nat → Nat → (Nat → Bool) → (Nat → Nat) → Int64 → Int32 → Int64 → Int32
  | 0, _, _, _, _, t, _ => t
  | m + 1, k, X, P, f, t, r => if r < wiV n a F T w k X P * f then drL n a F T w m (k + 1) (bset X k) (jmP (F k) (T k) P) (f * (w k).toInt64) (t ||| (1 <<< (nI k &&& 31))) r else drL n a F T w m (k + 1) (bset X k) P f t (r - wiV n a F T w k X P * f)
def x0 : Nat → Bool := fun _ => false
def drV (n a : Nat) (F T : Nat → Nat) (w : Nat → Int32) (p : Int64) : Int32 := if p < 0 ∨ cnV n a F T w x0 (fun v => v) ≤ p then -1 else drL n a F T w a 0 x0 (fun v => v) 1 0 p
/-- what a net is -/
def netOk (n a : Nat) (F T : Nat → Nat) (w : Nat → Int32) : Prop := n ≤ 10 ∧ a ≤ 30 ∧ (∀ k, k < a → F k < n ∧ T k < n) ∧ (∀ k, k < a → 1 ≤ (w k).toInt ∧ (w k).toInt ≤ 9)
def wZ (w : Nat → Int32) : Nat → Int := fun k => (w k).toInt
theorem netOk.n0 {n a k : Nat} {F T : Nat → Nat} {w : Nat → Int32} (h : netOk n a F T w) (hk : k < a) : 0 < n := by have := (h.2.2.1 k hk).1; omega
theorem netOk.w0 {n a : Nat} {F T : Nat → Nat} {w : Nat → Int32} (h : netOk n a F T w) : ∀ k, k < a → 0 ≤ (w k).toInt ∧ (w k).toInt ≤ 9 := fun k hk => by have := h.2.2.2 k hk; omega
theorem tcN_s {F T : Nat → Nat} {w : Nat → Int} {m k c : Nat} {P : Nat → Nat} : tcN F T w (m + 1) k c P = tcN F T w m (k + 1) c P + (if P (F k) = P (T k) then 0 else w k * tcN F T w m (k + 1) (c - 1) (unP (F k) (T k) P)) := rfl
/-- one arc with, without: the class's sums -/
theorem sop_dc {n a c k : Nat} {F T : Nat → Nat} {w : Nat → Int32} {P : Nat → Nat} (h : netOk n a F T w) (hF : FO n c P) (hk : k < a) (hne : P (F k) ≠ P (T k)) : sopV c k a F T w P = sopV c (k + 1) a F T w P + (w k).toInt64 * sopV (c - 1) (k + 1) a F T w (unP (F k) (T k) P) := by
  have hk2 := h.2.2.1 k hk
  have hb : ∀ j, j < a → P (F j) < c ∧ P (T j) < c := fun j hj => ⟨hF.1 _ (h.2.2.1 j hj).1, hF.1 _ (h.2.2.1 j hj).2⟩
  have hF2 := hF.un hk2.1 hk2.2 hne
  have h1 := hb k hk
  have h2 := hF2.1 (F k) hk2.1
  rw [sopV_ok (by omega) (by omega) (fun j _ hj => hb j hj), sopV_ok (by omega) (by omega) (fun j _ hj => hb j hj), sopV_ok (by omega) (by omega) (fun j _ hj => ⟨hF2.1 _ (h.2.2.1 j hj).1, hF2.1 _ (h.2.2.1 j hj).2⟩), i32_64, ← i64_ofm, ← i64_ofa, show a - k = a - (k + 1) + 1 by omega, tcN_s, if_neg hne]
theorem wiV_ok {n a c k : Nat} {F T : Nat → Nat} {w : Nat → Int32} {P P' : Nat → Nat} {X : Nat → Bool} (h : netOk n a F T w) (hF : FO n c P) (hc : c ≤ 10) (hE : EqP n P P') (hk : k < a) (hX1 : ∀ j, j < k → X j = true) (hX2 : ∀ j, k ≤ j → j < a → X j = false) : wiV n a F T w k X P' = if P (F k) = P (T k) then 0 else sopV (c - 1) (k + 1) a F T w (unP (F k) (T k) P) * (w k).toInt64 := by
  have hk2 := h.2.2.1 k hk
  unfold wiV
  by_cases e : P (F k) = P (T k)
  · rw [if_pos e, if_pos ((hE _ _ hk2.1 hk2.2).mp e)]
  · rw [if_neg e, if_neg (fun q => e ((hE _ _ hk2.1 hk2.2).mpr q))]
    rw [(cnV_sop (f0 := k + 1) (h.n0 hk) h.1 h.2.1 h.2.2.1 h.w0 (hF.un hk2.1 hk2.2 e) (by omega) (hE.un hk2.1 hk2.2 e) (by omega) (fun j hj => by unfold bset; split; rfl; exact hX1 j (by omega)) (fun j h1 h2 => by unfold bset; rw [if_neg (by omega)]; exact hX2 j (by omega) h2)).1]
theorem FO.one {n : Nat} {P : Nat → Nat} {c : Nat} (h : FO n c P) (hc : c ≤ 1) {u v : Nat} (hu : u < n) (hv : v < n) : P u = P v := by
  have := h.1 u hu
  have := h.1 v hv
  omega
theorem drL_one {n a c : Nat} {F T : Nat → Nat} {w : Nat → Int32} {P P' : Nat → Nat} (h : netOk n a F T w) (hF : FO n c P) (hE : EqP n P P') (hc : c ≤ 1) (f : Int64) (t : Int32) (r : Int64) (hr : 0 ≤ r.toInt) : ∀ (m k : Nat) (X : Nat → Bool), k + m = a → drL n a F T w m k X P' f t r = t := by
  intro m
  induction m with
  | zero => intro k X _; rfl
  | succ m ih =>
    intro k X hk
    have hk2 := h.2.2.1 k (by omega)
    have e : wiV n a F T w k X P' = 0 := by unfold wiV; rw [if_pos ((hE _ _ hk2.1 hk2.2).mp (hF.one hc hk2.1 hk2.2))]
    unfold drL
    rw [e, Int64.zero_mul, if_neg (fun q => by
      have := Int64.lt_iff_toInt_lt.mp q
      have z : (0 : Int64).toInt = 0 := rfl
      omega), Int64.sub_zero, ih (k + 1) _ (by omega)]
theorem drL_ok {n a : Nat} {F T : Nat → Nat} {w : Nat → Int32} (h : netOk n a F T w) {B : Int} (hB : B < 9223372036854775808) : ∀ (m k c : Nat) (X : Nat → Bool) (P P' : Nat → Nat) (cs cp : Int64) (z : Int) (t : Int32) (r : Int64), k + m = a → FO n c P → c ≤ 10 → EqP n P P' → (∀ j, j < k → X j = true) → (∀ j, k ≤ j → j < a → X j = false) → 0 ≤ z → cp = Int64.ofInt z → z * tcN F T (wZ w) m k c P ≤ B → cs = cp * sopV c k a F T w P → 0 ≤ r.toInt → drL n a F T w m k X P' cp t r = taL a F T w m k c P cs cp t r := by
  intro m
  induction m with
  | zero => intro k c X P P' cs cp z t r _ _ _ _ _ _ _ _ _ _ _; rfl
  | succ m ih =>
    intro k c X P P' cs cp z t r hk hF hc hE hX1 hX2 hz hcp hzB hcs hr
    have hka : k < a := by omega
    have hk2 := h.2.2.1 k hka
    by_cases c1 : c ≤ 1
    · rw [drL_one h hF hE c1 cp t r hr (m + 1) k X hk]
      unfold taL
      rw [if_pos c1]
    · unfold drL taL
      rw [if_neg c1, wiV_ok h hF hc hE hka hX1 hX2]
      have n1 : ∀ j, j < k + 1 → bset X k j = true := fun j hj => by unfold bset; split; rfl; exact hX1 j (by omega)
      have n2 : ∀ j, k + 1 ≤ j → j < a → bset X k j = false := fun j h1 h2 => by unfold bset; rw [if_neg (by omega)]; exact hX2 j (by omega) h2
      have z0 : (0 : Int64).toInt = 0 := rfl
      have ak : a - (k + 1) = m := by omega
      by_cases e : P (F k) = P (T k)
      · have es : siV a F T w k cs cp c P = 0 := by unfold siV; rw [if_pos e]
        have nl : ¬ r < 0 := fun q => by have := Int64.lt_iff_toInt_lt.mp q; omega
        rw [if_pos e, es, Int64.zero_mul, if_neg nl, if_neg nl, Int64.sub_zero, Int64.sub_zero]
        refine ih (k + 1) c _ P P' cs cp z t r (by omega) hF hc hE n1 n2 hz hcp ?_ ?_ hr
        · rw [tcN_s, if_pos e, Int.add_zero] at hzB; exact hzB
        · rw [hcs]
          congr 1
          have hb : ∀ j, j < a → P (F j) < c ∧ P (T j) < c := fun j hj => ⟨hF.1 _ (h.2.2.1 j hj).1, hF.1 _ (h.2.2.1 j hj).2⟩
          have := hb k hka
          rw [sopV_ok (by omega) (by omega) (fun j _ hj => hb j hj), sopV_ok (by omega) (by omega) (fun j _ hj => hb j hj), show a - k = a - (k + 1) + 1 by omega, tcN_s, if_pos e, Int.add_zero]
      · have dc := sop_dc h hF hka e
        have hF2 := hF.un hk2.1 hk2.2 e
        have hE2 := hE.un hk2.1 hk2.2 e
        have es : siV a F T w k cs cp c P = sopV (c - 1) (k + 1) a F T w (unP (F k) (T k) P) * (w k).toInt64 * cp := by
          unfold siV; rw [if_neg e, hcs, dc]; grind
        rw [if_neg e, ← es]
        have hwk := h.2.2.2 k hka
        have p1 := tcN_pos m (k + 1) c (F := F) (T := T) (w := wZ w) P (fun j h1 h2 => by have := h.2.2.2 j (by omega); unfold wZ; omega)
        have p2 := tcN_pos m (k + 1) (c - 1) (F := F) (T := T) (w := wZ w) (unP (F k) (T k) P) (fun j h1 h2 => by have := h.2.2.2 j (by omega); unfold wZ; omega)
        rw [tcN_s, if_neg e, Int.mul_add] at hzB
        have q1 := Int.mul_nonneg hz p1
        have wk : wZ w k = (w k).toInt := rfl
        have q2 : 0 ≤ z * (wZ w k * tcN F T (wZ w) m (k + 1) (c - 1) (unP (F k) (T k) P)) := Int.mul_nonneg hz (Int.mul_nonneg (by omega) p2)
        have hb2 := hF2.1 (F k) hk2.1
        have esz : siV a F T w k cs cp c P = Int64.ofInt (z * (wZ w k * tcN F T (wZ w) m (k + 1) (c - 1) (unP (F k) (T k) P))) := by
          rw [es, sopV_ok (by omega) (by omega) (fun j _ hj => ⟨hF2.1 _ (h.2.2.1 j hj).1, hF2.1 _ (h.2.2.1 j hj).2⟩), ak, hcp, i32_64, i64_ofm, i64_ofm]
          have : tcN F T (fun k => (w k).toInt) m (k + 1) (c - 1) (unP (F k) (T k) P) = tcN F T (wZ w) m (k + 1) (c - 1) (unP (F k) (T k) P) := rfl
          rw [this, wk]; grind
        have est : (siV a F T w k cs cp c P).toInt = z * (wZ w k * tcN F T (wZ w) m (k + 1) (c - 1) (unP (F k) (T k) P)) := by
          rw [esz, i64_oft (by omega) (by omega)]
        by_cases lt : r < siV a F T w k cs cp c P
        · rw [if_pos lt, if_pos lt]
          have ej1 : jnC (F k) (T k) P c = c - 1 := by unfold jnC; rw [if_neg e]
          have ej2 : jnP (F k) (T k) P = unP (F k) (T k) P := by unfold jnP; rw [if_neg e]
          rw [ej1, ej2]
          refine ih (k + 1) (c - 1) _ _ _ _ _ (z * (w k).toInt) _ r (by omega) hF2 (by omega) hE2 n1 n2 (Int.mul_nonneg hz (by omega)) (by rw [hcp, i32_64, i64_ofm]) ?_ ?_ hr
          · rw [Int.mul_assoc, ← wk]; omega
          · rw [es]; grind
        · rw [if_neg lt, if_neg lt]
          have hge : siV a F T w k cs cp c P ≤ r := Int64.not_lt.mp lt
          have hge2 := Int64.le_iff_toInt_le.mp hge
          have rl := i64_lt r
          have es2 : (r - siV a F T w k cs cp c P).toInt = r.toInt - (siV a F T w k cs cp c P).toInt := i64_sub (by omega) (by omega)
          refine ih (k + 1) c _ P P' _ cp z t _ (by omega) hF hc hE n1 n2 hz hcp (by omega) ?_ (by rw [es2]; omega)
          rw [es, hcs, dc]; grind
theorem drV_ok {n a : Nat} {F T : Nat → Nat} {w : Nat → Int32} (h : netOk n a F T w) (p : Int64) : drV n a F T w p = taV n a F T w p := by
  unfold drV taV
  by_cases n0 : n = 0
  · subst n0
    have ha : a = 0 := by
      rcases Nat.eq_zero_or_pos a with q | q
      · exact q
      · have := h.n0 q; omega
    subst ha
    have e1 : cnV 0 0 F T w x0 (fun v => v) = 0 := rfl
    have e2 : sopV 0 0 0 F T w (fun v => v) = 0 := rfl
    rw [e1, e2]; rfl
  · have cs := cnV_sop (X := x0) (f0 := 0) (c := n) (by omega) h.1 h.2.1 h.2.2.1 h.w0 (FO.id n) h.1 (EqP.rf n _) (by omega) (fun k hk => by omega) (fun k _ _ => rfl)
    rw [cs.1]
    by_cases c : p < 0 ∨ sopV n 0 a F T w (fun v => v) ≤ p
    · rw [if_pos c, if_pos c]
    · rw [if_neg c, if_neg c]
      have hp : 0 ≤ p.toInt := by
        have : ¬ p < 0 := fun q => c (Or.inl q)
        have := Int64.le_iff_toInt_le.mp (Int64.not_lt.mp this)
        exact this
      have hl := tcN_lt (F := F) (T := T) (w := wZ w) (m := a) (k := 0) (c := n) (P := fun v => v) h.2.1 (by omega) h.1 (fun j _ hj => h.w0 j (by omega)) (fun j _ hj => h.2.2.1 j (by omega))
      exact drL_ok h (B := 4611685975477714963) (by decide) a 0 n x0 _ _ _ 1 1 0 p (by omega) (FO.id n) h.1 (EqP.rf n _) (fun k hk => by omega) (fun k _ _ => rfl) (by decide) rfl (by omega) (by grind) hp
