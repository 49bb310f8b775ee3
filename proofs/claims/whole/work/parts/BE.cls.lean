/-- the class's determinant -/
theorem i64_of (x : Int64) : Int64.ofInt x.toInt = x := Int64.ofInt_toInt x
theorem i64_and1 (x : Int64) : (x &&& 1 = 0) ↔ x.toInt % 2 = 0 := by
  have e1 : (x &&& 1).toBitVec.toNat = x.toBitVec.toNat % 2 := by
    rw [Int64.toBitVec_and, BitVec.toNat_and]
    exact Nat.and_one_is_mod _
  have e2 : x.toInt % 2 = (x.toBitVec.toNat : Int) % 2 := by
    show x.toBitVec.toInt % 2 = _
    rw [BitVec.toInt_eq_toNat_cond]
    split <;> omega
  constructor
  · intro h
    rw [h] at e1
    have : (0 : Nat) = x.toBitVec.toNat % 2 := e1
    omega
  · intro h
    apply Int64.toBitVec_inj.mp
    apply BitVec.eq_of_toNat_eq
    rw [e1]
    show x.toBitVec.toNat % 2 = 0
    omega
theorem i64_sh (v : Int64) {t : Nat} (h : t < 64) : (shL v t).toInt = v.toInt / 2 ^ t := by
  have e : (nI t).toInt64 &&& 63 = Int64.ofNat t := by
    have : ∀ t, t < 64 → (nI t).toInt64 &&& 63 = Int64.ofNat t := by decide +kernel
    exact this t h
  have e2 : ((Int64.ofNat t).toBitVec.smod 64).toNat = t := by
    have : ∀ t, t < 64 → ((Int64.ofNat t).toBitVec.smod 64).toNat = t := by decide +kernel
    exact this t h
  unfold shL
  rw [e]
  show (BitVec.sshiftRight' v.toBitVec ((Int64.ofNat t).toBitVec.smod 64)).toInt = v.toBitVec.toInt / 2 ^ t
  rw [BitVec.sshiftRight', e2, BitVec.toInt_sshiftRight, Int.shiftRight_eq_div_pow]
  rfl
theorem tbit_0 (v : Int64) {c : Nat} (h : c < 64) : tbit v c = 0 ↔ v.toInt / 2 ^ c % 2 = 0 := by
  have := i64_and1 (shL v c)
  rw [i64_sh v h] at this
  exact this
theorem pow2_dvd {V : Int} {c : Nat} (h : (2 ^ c : Int) ∣ V) (h2 : V / 2 ^ c % 2 = 0) : (2 ^ (c + 1) : Int) ∣ V := by
  obtain ⟨k, rfl⟩ := h
  have hp : (2 ^ c : Int) ≠ 0 := by have := Int.pow_pos (n := 2) (m := c) (by decide); omega
  rw [Int.mul_ediv_cancel_left _ hp] at h2
  refine ⟨k / 2, ?_⟩
  rw [Int.pow_succ]
  have : k = 2 * (k / 2) := by omega
  conv => lhs; rw [this]
  grind
theorem twL_ok (v : Int64) (h0 : v ≠ 0) : ∀ m c, c + m = 63 → (2 ^ c : Int) ∣ v.toInt → twL v m c < 64 ∧ (2 ^ twL v m c : Int) ∣ v.toInt ∧ (v.toInt / 2 ^ twL v m c) % 2 = 1 := by
  intro m
  induction m with
  | zero =>
    intro c h hd
    obtain rfl : c = 63 := by omega
    refine ⟨by show 63 < 64; omega, hd, ?_⟩
    show v.toInt / 2 ^ 63 % 2 = 1
    have h1 := i64_le v
    have h2 := i64_lt v
    have h3 : v.toInt ≠ 0 := fun q => h0 (i64_zero.mp q)
    omega
  | succ m ih =>
    intro c h hd
    unfold twL
    by_cases z : tbit v c = 0
    · rw [if_pos z]
      exact ih (c + 1) (by omega) (pow2_dvd hd ((tbit_0 v (by omega)).mp z))
    · rw [if_neg z]
      refine ⟨by omega, hd, ?_⟩
      have hz : ¬ v.toInt / 2 ^ c % 2 = 0 := fun q => z ((tbit_0 v (c := c) (by omega)).mpr q)
      generalize v.toInt / 2 ^ c = k at hz ⊢
      omega
theorem twN_ok {v : Int64} (h0 : v ≠ 0) : twN v < 64 ∧ (2 ^ twN v : Int) ∣ v.toInt ∧ (v.toInt / 2 ^ twN v) % 2 = 1 := by
  unfold twN
  rw [if_neg h0]
  exact twL_ok v h0 63 0 (by omega) ⟨v.toInt, by simp⟩
theorem i64_ofm (x y : Int) : Int64.ofInt (x * y) = Int64.ofInt x * Int64.ofInt y := Int64.ofInt_mul x y
theorem i64_ofa (x y : Int) : Int64.ofInt (x + y) = Int64.ofInt x + Int64.ofInt y := Int64.ofInt_add x y
theorem i64_par (x : Int64) : ∃ g, x = 2 * g ∨ x = 2 * g + 1 := by
  refine ⟨Int64.ofInt (x.toInt / 2), ?_⟩
  rcases (by omega : x.toInt % 2 = 0 ∨ x.toInt % 2 = 1) with q | q
  · left
    have : x.toInt = 2 * (x.toInt / 2) := by omega
    conv => lhs; rw [← i64_of x, this, i64_ofm]
    rfl
  · right
    have : x.toInt = 2 * (x.toInt / 2) + 1 := by omega
    conv => lhs; rw [← i64_of x, this, i64_ofa, i64_ofm]
    rfl
theorem ivN_ok {o : Int64} (h : o.toInt % 2 = 1) : ivN o * o = 1 := by
  obtain ⟨d, hd⟩ : ∃ d, 1 - o * o = 8 * d := by
    have e : o = 2 * Int64.ofInt (o.toInt / 2) + 1 := by
      have : o.toInt = 2 * (o.toInt / 2) + 1 := by omega
      conv => lhs; rw [← i64_of o, this, i64_ofa, i64_ofm]
      rfl
    generalize Int64.ofInt (o.toInt / 2) = k at e
    obtain ⟨g, hg⟩ := i64_par k
    rcases hg with rfl | rfl
    · exact ⟨-(g * (2 * g + 1)), by rw [e]; grind⟩
    · exact ⟨-((2 * g + 1) * (g + 1)), by rw [e]; grind⟩
  have st : ∀ i, 1 - ivS o i * o = (1 - i * o) * (1 - i * o) := by intro i; unfold ivS; grind
  have e5 : 1 - ivN o * o = 0 := by
    unfold ivN
    rw [st, st, st, st, st, hd]
    have z : (8 * 8 * 8 * 8 * 8 * 8 * 8 * 8 * 8 * 8 * 8 * 8 * 8 * 8 * 8 * 8 * 8 * 8 * 8 * 8 * 8 * 8 : Int64) = 0 := by decide +kernel
    generalize he : 8 * d * (8 * d) = u
    have h64 : u = 64 * (d * d) := by rw [← he]; grind
    rw [h64]
    have h4 : ∀ w : Int64, 64 * w * (64 * w) = 4096 * (w * w) := by intro w; grind
    have h5 : ∀ w : Int64, 4096 * w * (4096 * w) = 16777216 * (w * w) := by intro w; grind
    have h6 : ∀ w : Int64, 16777216 * w * (16777216 * w) = 281474976710656 * (w * w) := by intro w; grind
    have h7 : ∀ w : Int64, 281474976710656 * w * (281474976710656 * w) = 0 := by
      intro w
      have : (281474976710656 * 281474976710656 : Int64) = 0 := by decide +kernel
      have e : 281474976710656 * w * (281474976710656 * w) = (281474976710656 * 281474976710656) * (w * w) := by grind
      rw [e, this, Int64.zero_mul]
    rw [h4, h5, h6, h7]
  grind
/-- the multiple that clears -/
theorem clear_ok {u v : Int64} (hu : u ≠ 0) (hv : v ≠ 0) (hle : twN u ≤ twN v) : shL v (twN u) * ivN (shL u (twN u)) * u = v := by
  obtain ⟨a1, a2, a3⟩ := twN_ok hu
  obtain ⟨b1, b2, _⟩ := twN_ok hv
  have eu := i64_sh u a1
  have ev := i64_sh v a1
  have hi := ivN_ok (o := shL u (twN u)) (by rw [eu]; exact a3)
  have du : u = Int64.ofInt (2 ^ twN u) * shL u (twN u) := by
    conv => lhs; rw [← i64_of u]
    rw [← i64_of (shL u (twN u)), eu, ← i64_ofm, Int.mul_ediv_cancel' a2]
  have dv : v = Int64.ofInt (2 ^ twN u) * shL v (twN u) := by
    conv => lhs; rw [← i64_of v]
    have : (2 ^ twN u : Int) ∣ v.toInt := Int.dvd_trans ⟨2 ^ (twN v - twN u), by rw [← Int.pow_add]; congr 1; omega⟩ b2
    rw [← i64_of (shL v (twN u)), ev, ← i64_ofm, Int.mul_ediv_cancel' this]
  generalize ivN (shL u (twN u)) = i at hi ⊢
  generalize shL v (twN u) = sv at dv ⊢
  generalize shL u (twN u) = su at du hi ⊢
  generalize Int64.ofInt (2 ^ twN u) = w at du dv
  rw [du, dv]
  grind
theorem rlb_ok (M : Nat → Nat → Int64) (x n : Nat) : ∀ m row best few, row + m = n → x ≤ best → best < row → few = twN (M best x) → (∀ r, x ≤ r → r < row → twN (M best x) ≤ twN (M r x)) → x ≤ rlb M x m row best few ∧ rlb M x m row best few < n ∧ ∀ r, x ≤ r → r < n → twN (M (rlb M x m row best few) x) ≤ twN (M r x) := by
  intro m
  induction m with
  | zero => intro row best few h h1 h2 _ h4; exact ⟨h1, by unfold rlb; omega, fun r hr hn => h4 r hr (by omega)⟩
  | succ m ih =>
    intro row best few h h1 h2 h3 h4
    unfold rlb
    by_cases c : few = 0
    · rw [if_pos c]
      exact ⟨h1, by omega, fun r _ _ => by omega⟩
    · rw [if_neg c]
      by_cases c2 : twN (M row x) < few
      · rw [if_pos c2]
        refine ih _ _ _ (by omega) (by omega) (by omega) rfl (fun r hr hn => ?_)
        by_cases q : r = row
        · subst q; exact Nat.le_refl _
        · have := h4 r hr (by omega); omega
      · rw [if_neg c2]
        refine ih _ _ _ (by omega) h1 (by omega) h3 (fun r hr hn => ?_)
        by_cases q : r = row
        · subst q; omega
        · exact h4 r hr (by omega)
theorem cbC_ok {x row n : Nat} {t : Int64} (_ : x ≠ row) : ∀ m c M, c + m = n → (∀ p q, p ≠ row ∨ q < c → cbC x row t m c M p q = M p q) ∧ ∀ q, c ≤ q → q < n → cbC x row t m c M row q = M row q - t * M x q := by
  intro m
  induction m with
  | zero => intro c M h; exact ⟨fun _ _ _ => rfl, fun q h1 h2 => by omega⟩
  | succ m ih =>
    intro c M h
    obtain ⟨a, b⟩ := ih (c + 1) (mset M row c (M row c - t * M x c)) (by omega)
    unfold cbC
    refine ⟨fun p q hpq => ?_, fun q h1 h2 => ?_⟩
    · rw [a p q (by omega)]; unfold mset; rw [if_neg (by omega)]
    · by_cases e : q = c
      · subst e; rw [a row q (by omega)]; unfold mset; rw [if_pos ⟨rfl, rfl⟩]
      · rw [b q (by omega) h2]; unfold mset; rw [if_neg (by omega), if_neg (by omega)]
theorem cbR_ok {n x tw : Nat} {iv : Int64} (hx : x < n) : ∀ m row M, row + m = n → x < row → (∀ p q, p < row ∨ q < x → cbR n x tw iv m row M p q = M p q) ∧ ∀ p q, row ≤ p → p < n → x ≤ q → q < n → cbR n x tw iv m row M p q = M p q - (if M p x = 0 then 0 else shL (M p x) tw * iv) * M x q := by
  intro m
  induction m with
  | zero => intro row M h hr; exact ⟨fun _ _ _ => rfl, fun p q h1 h2 => by omega⟩
  | succ m ih =>
    intro row M h hr
    unfold cbR
    by_cases z : M row x = 0
    · rw [if_pos z]
      obtain ⟨a, b⟩ := ih (row + 1) M (by omega) (by omega)
      refine ⟨fun p q hpq => a p q (by omega), fun p q h1 h2 h3 h4 => ?_⟩
      by_cases e : p = row
      · subst e; rw [a p q (by omega), if_pos z]; grind
      · exact b p q (by omega) h2 h3 h4
    · rw [if_neg z]
      obtain ⟨s, t⟩ := cbC_ok (x := x) (row := row) (n := n) (t := shL (M row x) tw * iv) (by omega) (n - x) x M (by omega)
      obtain ⟨a, b⟩ := ih (row + 1) (cbC x row (shL (M row x) tw * iv) (n - x) x M) (by omega) (by omega)
      refine ⟨fun p q hpq => by rw [a p q (by omega), s p q (by omega)], fun p q h1 h2 h3 h4 => ?_⟩
      by_cases e : p = row
      · subst e; rw [a p q (by omega), t q h3 h4, if_neg z]
      · rw [b p q (by omega) h2 h3 h4, s p q (by omega), s p x (by omega), s x q (by omega)]
theorem dtL_ok {n : Nat} : ∀ m x M p, x + m = n → dtL n m x M p = p * mDet m (fun i j => M (x + i) (x + j)) := by
  intro m
  induction m with
  | zero => intro x M p _; simp [dtL, mDet]
  | succ m ih =>
    intro x M p h
    obtain ⟨q1, q2, q3⟩ := rlb_ok M x n (n - (x + 1)) (x + 1) x (twN (M x x)) (by omega) (by omega) (by omega) rfl (fun r h1 h2 => by rw [show r = x by omega]; exact Nat.le_refl _)
    have hrl : rlb M x (n - (x + 1)) (x + 1) x (twN (M x x)) = rlN M n x := rfl
    rw [hrl] at q1 q2 q3
    unfold dtL dtS
    generalize rlN M n x = r at q1 q2 q3 ⊢
    by_cases z : M r x = 0
    · rw [if_pos z]
      have hz : ∀ i, i < m + 1 → M (x + i) x = 0 := by
        intro i hi
        have := q3 (x + i) (by omega) (by omega)
        rw [z] at this
        have e : twN 0 = 64 := rfl
        rw [e] at this
        by_cases y : M (x + i) x = 0
        · exact y
        · have := (twN_ok y).1; omega
      rw [mDet_zcol (fun i hi => by rw [Nat.add_zero]; exact hz i hi)]
      grind
    · rw [if_neg z]
      have hsw : (if r = x then p else -p) * mDet (m + 1) (fun i j => (if r = x then M else swN r x M) (x + i) (x + j)) = p * mDet (m + 1) (fun i j => M (x + i) (x + j)) := by
        by_cases e : r = x
        · rw [if_pos e, if_pos e]
        · rw [if_neg e, if_neg e]
          have sw := mDet_swap (n := m + 1) (r := r - x) (s := 0) (by omega) (by omega) (by omega) (fun i j => M (x + i) (x + j))
          have e2 : mDet (m + 1) (fun i j => swN r x M (x + i) (x + j)) = - mDet (m + 1) (fun i j => M (x + i) (x + j)) := by
            rw [← sw]
            refine mDet_congr _ _ _ (fun i j hi hj => ?_)
            unfold mPut swN
            by_cases x0 : i = 0
            · subst x0
              rw [if_neg (by omega), if_pos (by omega), if_pos rfl, show x + (r - x) = r by omega]
            · rw [if_neg x0]
              by_cases x1 : i = r - x
              · rw [if_pos (by omega), if_pos x1, Nat.add_zero]
              · rw [if_neg (by omega), if_neg (by omega), if_neg x1]
          rw [e2]; grind
      have hpiv : (if r = x then M else swN r x M) x x = M r x := by
        by_cases e : r = x
        · rw [if_pos e, e]
        · rw [if_neg e]; unfold swN; rw [if_neg (fun q => e q.symm), if_pos rfl]
      have hmin : ∀ i, x ≤ i → i < n → twN (M r x) ≤ twN ((if r = x then M else swN r x M) i x) := by
        intro i h1 h2
        by_cases e : r = x
        · rw [if_pos e]; exact q3 i h1 h2
        · rw [if_neg e]; unfold swN
          split
          · exact q3 x (by omega) (by omega)
          · split
            · exact Nat.le_refl _
            · exact q3 i h1 h2
      generalize (if r = x then M else swN r x M) = M' at hsw hpiv hmin ⊢
      generalize (if r = x then p else -p) = p' at hsw ⊢
      obtain ⟨a, b⟩ := cbR_ok (n := n) (x := x) (tw := twN (M' x x)) (iv := ivN (shL (M' x x) (twN (M' x x)))) (by omega) (n - (x + 1)) (x + 1) M' (by omega) (by omega)
      have hcb : cbR n x (twN (M' x x)) (ivN (shL (M' x x) (twN (M' x x)))) (n - (x + 1)) (x + 1) M' = cbN n x M' := rfl
      rw [hcb] at a b
      rw [ih (x + 1) _ _ (by omega), ← hsw]
      have hel := mDet_elim (n := m) (fun i => - (if M' (x + i) x = 0 then 0 else shL (M' (x + i) x) (twN (M' x x)) * ivN (shL (M' x x) (twN (M' x x))))) (fun i j => M' (x + i) (x + j)) m (Nat.le_refl _)
      have hc0 : mDet (m + 1) (fun i j => cbN n x M' (x + i) (x + j)) = mDet (m + 1) (fun i j => M' (x + i) (x + j)) := by
        rw [← hel]
        refine mDet_congr _ _ _ (fun i j hi hj => ?_)
        by_cases x0 : i = 0
        · subst x0; rw [if_neg (by omega), a (x + 0) (x + j) (by omega)]
        · rw [if_pos (by omega), b (x + i) (x + j) (by omega) (by omega) (by omega) (by omega), Nat.add_zero]; grind
      have hz : ∀ i, 0 < i → i < m + 1 → cbN n x M' (x + i) (x + 0) = 0 := by
        intro i hi hi2
        rw [Nat.add_zero, b (x + i) x (by omega) (by omega) (by omega) (by omega)]
        by_cases z2 : M' (x + i) x = 0
        · rw [if_pos z2, z2]; grind
        · rw [if_neg z2, clear_ok (by rw [hpiv]; exact z) z2 (by have := hmin (x + i) (by omega) (by omega); rw [hpiv]; exact this)]; grind
      rw [← hc0, mDet_col0 hz]
      have hfin : mDet m (fun i j => cbN n x M' (x + 1 + i) (x + 1 + j)) = mDet m (fun i j => cbN n x M' (x + (i + 1)) (x + (j + 1))) := by
        refine mDet_congr _ _ _ (fun i j _ _ => ?_)
        rw [show x + 1 + i = x + (i + 1) by omega, show x + 1 + j = x + (j + 1) by omega]
      rw [hfin]
      have : cbN n x M' (x + 0) (x + 0) = M' x x := by rw [Nat.add_zero, a x x (by omega)]
      rw [this]; grind
theorem dtN_ok (n : Nat) (M : Nat → Nat → Int64) : dtN n M = mDet n M := by
  unfold dtN
  rw [dtL_ok n 0 M 1 (by omega)]
  have : (fun i j => M (0 + i) (0 + j)) = M := by funext i j; rw [Nat.zero_add, Nat.zero_add]
  rw [this]; grind
/-- from the integers to the longs -/
theorem mSum_of (f : Nat → Int) : ∀ n, mSum n (fun i => Int64.ofInt (f i)) = Int64.ofInt (mSum n f) := by
  intro n
  induction n with
  | zero => rfl
  | succ n ih => unfold mSum; rw [ih, i64_ofa]
theorem mSg_of (n : Nat) : (mSg n : Int64) = Int64.ofInt (mSg n) := by
  unfold mSg
  split <;> rfl
theorem mDet_of : ∀ (n : Nat) (M : Nat → Nat → Int), mDet n (fun p q => Int64.ofInt (M p q)) = Int64.ofInt (mDet n M) := by
  intro n
  induction n with
  | zero => intro M; rfl
  | succ n ih =>
    intro M
    unfold mDet
    rw [← mSum_of]
    refine mSum_congr _ (fun i _ => ?_)
    rw [ih, mSg_of, i64_ofm, i64_ofm]
theorem dtN_int (n : Nat) (M : Nat → Nat → Int64) : dtN n M = Int64.ofInt (mDet n (fun p q => (M p q).toInt)) := by
  rw [dtN_ok, ← mDet_of]
  congr 1
  funext p q
  rw [i64_of]
