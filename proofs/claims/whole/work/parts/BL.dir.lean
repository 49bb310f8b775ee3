/-- nets one way -/
def lapD (A B C : Nat → Nat) (w : Nat → Int) : Nat → Nat → Nat → Nat → Int
  | 0, _, _, _ => 0
  | m + 1, k, i, j => lapD A B C w m (k + 1) i j + w k * (if A k = i then 1 else 0) * ((if B k = j then 1 else 0) - (if C k = j then 1 else 0))
theorem lapD_s (A B C : Nat → Nat) (w : Nat → Int) (m k i j : Nat) : lapD A B C w (m + 1) k i j = lapD A B C w m (k + 1) i j + w k * (if A k = i then 1 else 0) * ((if B k = j then 1 else 0) - (if C k = j then 1 else 0)) := rfl
def shf (x z : Nat) : Nat := if x < z then z - 1 else z
def dcA (x : Nat) (A : Nat → Nat) : Nat → Nat := fun j => if A j = x then 0 else shf x (A j)
def dcB (x y : Nat) (B : Nat → Nat) : Nat → Nat := fun j => if B j = x then shf x y else shf x (B j)
theorem dcA_ok {x i : Nat} (hx : 0 < x) (z : Nat) : (if (if z = x then 0 else shf x z) = i + 1 then (1 : Int) else 0) = if z = mSk x (i + 1) then 1 else 0 := by
  unfold shf mSk
  repeat' split
  all_goals omega
theorem dcB_ok {x y j : Nat} (hne : y ≠ x) (z : Nat) : (if (if z = x then shf x y else shf x z) = j then (1 : Int) else 0) = (if z = mSk x j then 1 else 0) + (if y = mSk x j then (if z = x then 1 else 0) else 0) := by
  unfold shf mSk
  repeat' split
  all_goals omega
theorem lapD_con {A B C : Nat → Nat} {w : Nat → Int} {x y : Nat} (hx : 0 < x) (hne : y ≠ x) : ∀ (m k i j : Nat), lapD (dcA x A) (dcB x y B) (dcB x y C) w m k (i + 1) j = lapD A B C w m k (mSk x (i + 1)) (mSk x j) + (if y = mSk x j then lapD A B C w m k (mSk x (i + 1)) x else 0) := by
  intro m
  induction m with
  | zero => intro k i j; simp [lapD]
  | succ m ih =>
    intro k i j
    rw [lapD_s, lapD_s, lapD_s, ih]
    unfold dcA dcB
    rw [dcA_ok hx, dcB_ok hne, dcB_ok hne]
    split <;> grind
theorem lapD_dc {c x y : Nat} (hx : 0 < x) (hxc : x < c + 2) (hyc : y < c + 2) (hne : y ≠ x) (w : Int) (L : Nat → Nat → Int) : mDet (c + 1) (mDel0 (fun i j => L i j + w * (if x = i then 1 else 0) * ((if x = j then 1 else 0) - (if y = j then 1 else 0)))) = mDet (c + 1) (mDel0 L) + w * mDet c (fun i j => L (mSk x (i + 1)) (mSk x (j + 1)) + (if y = mSk x (j + 1) then L (mSk x (i + 1)) x else 0)) := by
  have e := mDet_put (n := c + 1) (r := x - 1) (by omega) w (mDel0 L) (mDel0 L (x - 1)) (fun q => (if q = x - 1 then 1 else 0) - (if q + 1 = y then 1 else 0))
  rw [mPut_id] at e
  have e1 : mDet (c + 1) (mDel0 (fun i j => L i j + w * (if x = i then 1 else 0) * ((if x = j then 1 else 0) - (if y = j then 1 else 0)))) = mDet (c + 1) (mPut (mDel0 L) (x - 1) (fun q => mDel0 L (x - 1) q + w * ((if q = x - 1 then 1 else 0) - (if q + 1 = y then 1 else 0)))) := by
    refine mDet_congr _ _ _ (fun p q _ _ => ?_)
    unfold mPut mDel0
    dsimp only
    by_cases z : p = x - 1
    · subst z
      rw [if_pos rfl, if_pos (show x = x - 1 + 1 by omega)]
      have a1 : (if x = q + 1 then (1 : Int) else 0) = if q = x - 1 then 1 else 0 := by
        by_cases u : q = x - 1
        · rw [if_pos u, if_pos (by omega)]
        · rw [if_neg u, if_neg (by omega)]
      have a2 : (if y = q + 1 then (1 : Int) else 0) = if q + 1 = y then 1 else 0 := by
        by_cases u : y = q + 1
        · rw [if_pos u, if_pos u.symm]
        · rw [if_neg u, if_neg (fun h => u h.symm)]
      rw [a1, a2]; grind
    · rw [if_neg z, if_neg (show ¬ x = p + 1 by omega)]; grind
  rw [e1, e]
  -- the row of the arc alone
  have e2 : mDet (c + 1) (mPut (mDel0 L) (x - 1) (fun q => (if q = x - 1 then 1 else 0) - (if q + 1 = y then 1 else 0))) = mDet c (fun i j => L (mSk x (i + 1)) (mSk x (j + 1)) + (if y = mSk x (j + 1) then L (mSk x (i + 1)) x else 0)) := by
    have sk1 : ∀ p : Nat, mSk (x - 1) p + 1 = mSk x (p + 1) := by intro p; unfold mSk; split <;> split <;> omega
    have sg1 : ∀ u : Nat, (mSg (u + u) : Int) = 1 := by intro u; rw [mSg_add, mSg_sq]
    by_cases y0 : y = 0
    · subst y0
      rw [mDet_unit c (x - 1) (x - 1) _ (by omega) (by omega) (fun q _ hq => by rw [mPut_s, if_neg hq, if_neg (by omega)]; rfl), mPut_s, if_pos rfl, if_neg (by omega), sg1, Int.sub_zero, Int.one_mul, Int.one_mul]
      refine mDet_congr _ _ _ (fun p q _ _ => ?_)
      rw [mPut_n (mSk_ne _ _)]
      unfold mDel0
      rw [sk1, sk1, if_neg (by unfold mSk; split <;> omega), Int.add_zero]
    · rw [← mDet_addcol (n := c + 1) (r := y - 1) (s := x - 1) (by omega) (by omega) (by omega) 1]
      rw [mDet_unit c (x - 1) (x - 1) _ (by omega) (by omega) (fun q _ hq => by
        rw [mPut_s, mPut_s, if_neg hq, if_pos rfl, if_neg (show ¬ x - 1 + 1 = y by omega)]
        by_cases u : q = y - 1
        · rw [if_pos u, if_pos (show q + 1 = y by omega)]; rfl
        · rw [if_neg u, if_neg (show ¬ q + 1 = y by omega)]; rfl)]
      rw [mPut_s, if_pos rfl, if_neg (show ¬ x - 1 + 1 = y by omega), if_neg (show ¬ x - 1 = y - 1 by omega), sg1]
      have : ((1 : Int) * (1 - 0 + 0)) = 1 := rfl
      rw [this, Int.one_mul]
      refine mDet_congr _ _ _ (fun p q _ _ => ?_)
      rw [mPut_n (mSk_ne _ _), mPut_n (mSk_ne _ _)]
      unfold mDel0
      rw [sk1, sk1, show x - 1 + 1 = x by omega]
      congr 1
      by_cases u : mSk (x - 1) q = y - 1
      · rw [if_pos u, if_pos (by have := sk1 q; omega)]; grind
      · rw [if_neg u, if_neg (by have := sk1 q; omega)]
  rw [e2]
/-- the sum over trees towards the root, arc by arc -/
def tdN (w : Nat → Int) : Nat → Nat → Nat → (Nat → Nat) → (Nat → Nat) → (Nat → Nat) → Int
  | 0, _, c, _, _, _ => if c = 1 then 1 else 0
  | m + 1, k, c, A, B, C => tdN w m (k + 1) c A B C + (if A k = 0 ∨ A k = C k then 0 else w k * tdN w m (k + 1) (c - 1) (dcA (A k) A) (dcB (A k) (C k) B) (dcB (A k) (C k) C))
theorem dc_lt {x y c z : Nat} (hx : x < c) (hy : y < c) (hne : y ≠ x) (hz : z < c) : (if z = x then shf x y else shf x z) < c - 1 := by
  unfold shf; repeat' split
  all_goals omega
theorem dcA_lt {x c z : Nat} (h1 : 1 < c) (_ : x < c) (hz : z < c) : (if z = x then 0 else shf x z) < c - 1 := by
  unfold shf; repeat' split
  all_goals omega
theorem lapD_td {w : Nat → Int} : ∀ (m k c : Nat) (A B C : Nat → Nat), 0 < c → (∀ j, k ≤ j → j < k + m → A j < c ∧ B j < c ∧ C j < c ∧ (A j = 0 ∨ A j = B j)) → mDet (c - 1) (mDel0 (lapD A B C w m k)) = tdN w m k c A B C := by
  intro m
  induction m with
  | zero =>
    intro k c A B C hc _
    unfold tdN
    by_cases c1 : c = 1
    · subst c1; simp [mDet]
    · rw [if_neg c1]
      exact mDet_zero (by omega)
  | succ m ih =>
    intro k c A B C hc h
    have ih1 := ih (k + 1) c A B C hc (fun j h1 h2 => h j (by omega) (by omega))
    obtain ⟨ka, kb, kc, kab⟩ := h k (by omega) (by omega)
    unfold tdN
    by_cases e : A k = 0 ∨ A k = C k
    · rw [if_pos e, Int.add_zero, ← ih1]
      refine mDet_congr _ _ _ (fun p q _ _ => ?_)
      unfold mDel0
      rw [lapD_s]
      by_cases z : A k = 0
      · rw [if_neg (show ¬ A k = p + 1 by omega)]; grind
      · have : B k = C k := by omega
        rw [this]; grind
    · rw [if_neg e]
      have ax : A k ≠ 0 := fun q => e (Or.inl q)
      have ac : C k ≠ A k := fun q => e (Or.inr q.symm)
      have ab : B k = A k := by omega
      have ih2 := ih (k + 1) (c - 1) (dcA (A k) A) (dcB (A k) (C k) B) (dcB (A k) (C k) C) (by omega) (fun j h1 h2 => by
        obtain ⟨ja, jb, jc, jab⟩ := h j (by omega) (by omega)
        refine ⟨dcA_lt (by omega) ka ja, dc_lt ka kc ac jb, dc_lt ka kc ac jc, ?_⟩
        unfold dcA dcB
        by_cases z : A j = A k
        · left; rw [if_pos z]
        · rw [if_neg z]
          rcases jab with q | q
          · left; rw [q]; unfold shf; split <;> omega
          · right; rw [← q, if_neg z])
      rw [← ih1, ← ih2]
      obtain ⟨d, rfl⟩ : ∃ d, c = d + 2 := ⟨c - 2, by omega⟩
      have dc := lapD_dc (c := d) (x := A k) (y := C k) (by omega) ka kc ac (w k) (lapD A B C w m (k + 1))
      have e0 : mDel0 (lapD A B C w (m + 1) k) = mDel0 (fun i j => lapD A B C w m (k + 1) i j + w k * (if A k = i then 1 else 0) * ((if A k = j then 1 else 0) - (if C k = j then 1 else 0))) := by
        funext p q
        unfold mDel0
        rw [lapD_s, ab]
      rw [e0]
      have ed : d + 2 - 1 = d + 1 := rfl
      have ed2 : d + 1 - 1 = d := rfl
      rw [ed, dc, ed2]
      congr 2
      refine mDet_congr _ _ _ (fun p q _ _ => ?_)
      unfold mDel0
      rw [lapD_con (by omega) ac]
theorem tdN_pos {w : Nat → Int} : ∀ (m k c : Nat) (A B C : Nat → Nat), (∀ j, k ≤ j → j < k + m → 0 ≤ w j) → 0 ≤ tdN w m k c A B C := by
  intro m
  induction m with
  | zero => intro k c A B C _; unfold tdN; split <;> decide
  | succ m ih =>
    intro k c A B C hw
    unfold tdN
    have h1 := ih (k + 1) c A B C (fun j h1 h2 => hw j (by omega) (by omega))
    split
    · omega
    · have h2 := ih (k + 1) (c - 1) (dcA (A k) A) (dcB (A k) (C k) B) (dcB (A k) (C k) C) (fun j h1 h2 => hw j (by omega) (by omega))
      have := Int.mul_nonneg (hw k (by omega) (by omega)) h2; omega
theorem tdN_le {w : Nat → Int} : ∀ (m k c : Nat) (A B C : Nat → Nat), 0 < c → (∀ j, k ≤ j → j < k + m → 0 ≤ w j ∧ w j ≤ 9) → (∀ j, k ≤ j → j < k + m → A j < c ∧ C j < c) → tdN w m k c A B C ≤ ch m (c - 1) * 9 ^ (c - 1) := by
  intro m
  induction m with
  | zero =>
    intro k c A B C hc _ _
    unfold tdN
    by_cases c1 : c = 1
    · subst c1; decide
    · rw [if_neg c1]
      exact Int.mul_nonneg (by omega) (Int.pow_nonneg (by decide))
  | succ m ih =>
    intro k c A B C hc hw hP
    unfold tdN
    have h1 := ih (k + 1) c A B C hc (fun j h1 h2 => hw j (by omega) (by omega)) (fun j h1 h2 => hP j (by omega) (by omega))
    obtain ⟨ka, kc⟩ := hP k (by omega) (by omega)
    by_cases e : A k = 0 ∨ A k = C k
    · rw [if_pos e]
      cases hcc : c - 1 with
      | zero => rw [hcc] at h1; simp [ch] at h1 ⊢; omega
      | succ d =>
        rw [hcc] at h1
        have : (0 : Int) ≤ ch m d * 9 ^ (d + 1) := Int.mul_nonneg (by omega) (Int.pow_nonneg (by decide))
        simp only [ch, Int.natCast_add, Int.add_mul]
        omega
    · rw [if_neg e]
      have ac : C k ≠ A k := fun q => e (Or.inr q.symm)
      have h2 := ih (k + 1) (c - 1) (dcA (A k) A) (dcB (A k) (C k) B) (dcB (A k) (C k) C) (by omega) (fun j h1 h2 => hw j (by omega) (by omega)) (fun j h1 h2 => by
        obtain ⟨ja, jc⟩ := hP j (by omega) (by omega)
        exact ⟨dcA_lt (by omega) ka ja, dc_lt ka kc ac jc⟩)
      have h3 := tdN_pos m (k + 1) (c - 1) (w := w) (dcA (A k) A) (dcB (A k) (C k) B) (dcB (A k) (C k) C) (fun j h1 h2 => (hw j (by omega) (by omega)).1)
      have hwk := hw k (by omega) (by omega)
      obtain ⟨d, rfl⟩ : ∃ d, c = d + 2 := ⟨c - 2, by omega⟩
      have e1 : d + 2 - 1 = d + 1 := rfl
      rw [e1] at h1 h2 h3 ⊢
      have e3 : d + 1 - 1 = d := rfl
      rw [e3] at h2
      generalize tdN w m (k + 1) (d + 1) (dcA (A k) A) (dcB (A k) (C k) B) (dcB (A k) (C k) C) = u at h2 h3 ⊢
      have h4 : w k * u ≤ 9 * (ch m d * 9 ^ d) := Int.mul_le_mul hwk.2 h2 h3 (by decide)
      simp only [ch, Int.natCast_add, Int.add_mul]
      rw [Int.pow_succ] at h1 ⊢
      grind
theorem tdN_lt {w : Nat → Int} {m k c : Nat} {A B C : Nat → Nat} (hm : m ≤ 30) (hc0 : 0 < c) (hc : c ≤ 10) (hw : ∀ j, k ≤ j → j < k + m → 0 ≤ w j ∧ w j ≤ 9) (hP : ∀ j, k ≤ j → j < k + m → A j < c ∧ C j < c) : tdN w m k c A B C < 4611685975477714963 := by
  have h := tdN_le m k c A B C hc0 hw hP
  have h1 : (ch m (c - 1) : Int) ≤ 1073741824 := by
    have := Nat.le_trans (ch_le2 m (c - 1)) (Nat.pow_le_pow_right (by decide) hm)
    omega
  have h2 : (9 : Int) ^ (c - 1) ≤ 387420489 := by
    have : (9 : Nat) ^ (c - 1) ≤ 9 ^ 9 := Nat.pow_le_pow_right (by decide) (by omega)
    have e : ((9 : Nat) ^ (c - 1) : Nat) = ((9 : Int) ^ (c - 1)) := by rw [Int.natCast_pow]; rfl
    omega
  have h3 : (ch m (c - 1) : Int) * 9 ^ (c - 1) ≤ 1073741824 * 387420489 := Int.mul_le_mul h1 h2 (Int.pow_nonneg (by decide)) (by decide)
  omega
