/-- a determinant is at most the product of its diagonal: the count of trees is below 2^50 -/
theorem mSum_0 (f : Nat → Int) : ∀ n, mSum (n + 1) f = f 0 + mSum n (fun i => f (i + 1)) := by
  intro n
  induction n with
  | zero => simp [mSum]
  | succ n ih =>
    show mSum (n + 1) f + f (n + 1) = f 0 + (mSum n (fun i => f (i + 1)) + f (n + 1))
    rw [ih]; omega
theorem prd_0 (f : Nat → Int) (n : Nat) : prd (n + 1) f = f 0 * prd n (fun i => f (i + 1)) := by
  rw [prd_sk n 0 f (by omega)]; rfl
theorem prd_nn {f : Nat → Int} : ∀ n, (∀ i, i < n → 0 ≤ f i) → 0 ≤ prd n f := by
  intro n
  induction n with
  | zero => intro _; exact Int.le_of_lt Int.zero_lt_one
  | succ n ih => intro h; exact Int.mul_nonneg (ih (fun i hi => h i (by omega))) (h n (by omega))
theorem prd_le {f g : Nat → Int} : ∀ n, (∀ i, i < n → 0 ≤ f i ∧ f i ≤ g i) → prd n f ≤ prd n g := by
  intro n
  induction n with
  | zero => intro _; exact Int.le_refl _
  | succ n ih =>
    intro h
    exact Int.mul_le_mul (ih (fun i hi => h i (by omega))) (h n (by omega)).2 (h n (by omega)).1 (prd_nn n (fun i hi => Int.le_trans (h i (by omega)).1 (h i (by omega)).2))
theorem prd_c (c : Int) (f : Nat → Int) : ∀ n, prd n (fun i => c * f i) = c ^ n * prd n f := by
  intro n
  induction n with
  | zero => simp [prd]
  | succ n ih => unfold prd; rw [ih, Int.pow_succ]; grind
theorem mDet_sc1 {n r : Nat} (hr : r < n) (c : Int) (M : Nat → Nat → Int) (u : Nat → Int) : mDet n (mPut M r (fun q => c * u q)) = c * mDet n (mPut M r u) := by
  have := mDet_sumrow hr M (fun _ => c) (fun _ => u) 1
  simp only [mSum] at this
  have e1 : (fun q => (0 : Int) + c * u q) = (fun q => c * u q) := by funext q; omega
  rw [e1] at this
  rw [this]; omega
/-- rows from 1 on to k scaled -/
theorem mDet_scr {n : Nat} (c : Int) (M : Nat → Nat → Int) : ∀ k, k ≤ n → mDet (n + 1) (fun p q => if 0 < p ∧ p < k + 1 then c * M p q else M p q) = c ^ k * mDet (n + 1) M := by
  intro k
  induction k with
  | zero => intro _; rw [Int.pow_zero, Int.one_mul]; refine mDet_congr _ _ _ (fun p q _ _ => ?_); rw [if_neg (by omega)]
  | succ k ih =>
    intro hk
    have h1 := mDet_sc1 (n := n + 1) (r := k + 1) (by omega) c (fun p q => if 0 < p ∧ p < k + 1 then c * M p q else M p q) (M (k + 1))
    rw [mDet_congr (n + 1) (mPut (fun p q => if 0 < p ∧ p < k + 1 then c * M p q else M p q) (k + 1) (fun q => c * M (k + 1) q)) (fun p q => if 0 < p ∧ p < k + 1 + 1 then c * M p q else M p q) (fun p q _ _ => ?_)] at h1
    · rw [h1, mDet_congr (n + 1) (mPut (fun p q => if 0 < p ∧ p < k + 1 then c * M p q else M p q) (k + 1) (M (k + 1))) (fun p q => if 0 < p ∧ p < k + 1 then c * M p q else M p q) (fun p q _ _ => ?_), ih (by omega), Int.pow_succ]
      · grind
      · unfold mPut
        by_cases e : p = k + 1
        · rw [if_pos e, if_neg (by omega), e]
        · rw [if_neg e]
    · unfold mPut
      by_cases e : p = k + 1
      · rw [if_pos e, if_pos (by omega), e]
      · rw [if_neg e]
        by_cases e2 : 0 < p ∧ p < k + 1
        · simp only [if_pos e2, if_pos (show 0 < p ∧ p < k + 1 + 1 by omega)]
        · simp only [if_neg e2, if_neg (show ¬ (0 < p ∧ p < k + 1 + 1) by omega)]
def Psd (n : Nat) (A : Nat → Nat → Int) : Prop := (∀ i j, A i j = A j i) ∧ ∀ v : Nat → Int, 0 ≤ bilS n A v v
theorem bilS_e {n : Nat} {A : Nat → Nat → Int} {i : Nat} (hi : i < n) : bilS n A (fun p => if p = i then 1 else 0) (fun p => if p = i then 1 else 0) = A i i := by
  unfold bilS
  rw [mSum_one n i hi (fun j _ hn => by simp only [if_neg hn]; simp)]
  simp only [if_true, Int.one_mul]
  rw [mSum_one n i hi (fun j _ hn => by simp only [if_neg hn]; simp)]
  simp
theorem bilS_0 (n : Nat) (A : Nat → Nat → Int) (hs : ∀ i j, A i j = A j i) (v : Nat → Int) : bilS (n + 1) A v v = A 0 0 * v 0 * v 0 + 2 * v 0 * mSum n (fun i => A 0 (i + 1) * v (i + 1)) + bilS n (fun p c => A (p + 1) (c + 1)) (fun i => v (i + 1)) (fun i => v (i + 1)) := by
  unfold bilS
  rw [mSum_0]
  have e1 : mSum (n + 1) (fun c => A 0 c * v c) = A 0 0 * v 0 + mSum n (fun i => A 0 (i + 1) * v (i + 1)) := mSum_0 _ n
  have e2 : mSum n (fun i => v (i + 1) * mSum (n + 1) (fun c => A (i + 1) c * v c)) = v 0 * mSum n (fun i => A 0 (i + 1) * v (i + 1)) + mSum n (fun i => v (i + 1) * mSum n (fun c => A (i + 1) (c + 1) * v (c + 1))) := by
    rw [← mSum_mul, ← mSum_add]
    refine mSum_congr n (fun i _ => ?_)
    rw [mSum_0, hs (i + 1) 0]; grind
  rw [e1, e2]; grind
theorem bilS_cc (n : Nat) (c : Int) (A : Nat → Nat → Int) (v : Nat → Int) : bilS n A (fun i => c * v i) (fun i => c * v i) = c * c * bilS n A v v := by
  unfold bilS
  rw [← mSum_mul]
  refine mSum_congr n (fun i _ => ?_)
  have : mSum n (fun j => A i j * (c * v j)) = c * mSum n (fun j => A i j * v j) := by
    rw [← mSum_mul]; exact mSum_congr n (fun j _ => by grind)
  rw [this]; grind
theorem bilS_sch (n : Nat) (a : Int) (b : Nat → Int) (A : Nat → Nat → Int) (v : Nat → Int) : bilS n (fun p c => a * A p c - b p * b c) v v = a * bilS n A v v - mSum n (fun i => b i * v i) * mSum n (fun i => b i * v i) := by
  unfold bilS
  have e : ∀ i, mSum n (fun c => (a * A i c - b i * b c) * v c) = a * mSum n (fun c => A i c * v c) + (- b i) * mSum n (fun c => b c * v c) := fun i => by
    rw [← mSum_mul, ← mSum_mul, ← mSum_add]; exact mSum_congr n (fun j _ => by grind)
  have e2 : mSum n (fun p => v p * mSum n (fun c => (a * A p c - b p * b c) * v c)) = mSum n (fun p => a * (v p * mSum n (fun c => A p c * v c)) + (- mSum n (fun c => b c * v c)) * (b p * v p)) := mSum_congr n (fun i _ => by rw [e]; grind)
  rw [e2, mSum_add, mSum_mul, mSum_mul]; grind
theorem Psd.dg {n : Nat} {A : Nat → Nat → Int} (h : Psd n A) {i : Nat} (hi : i < n) : 0 ≤ A i i := by
  have := h.2 (fun p => if p = i then 1 else 0)
  rwa [bilS_e hi] at this
theorem had : ∀ (n : Nat) (A : Nat → Nat → Int), Psd n A → mDet n A ≤ prd n (fun i => A i i) := by
  intro n
  induction n with
  | zero => intro A _; exact Int.le_refl _
  | succ n ih =>
    intro A h
    have nn : ∀ i, i < n + 1 → 0 ≤ A i i := fun i hi => h.dg hi
    have a0 := nn 0 (by omega)
    by_cases c : A 0 0 = 0
    · have z : ∀ q, q < n + 1 → A 0 q = 0 := by
        intro q hq
        by_cases q0 : q = 0
        · rw [q0]; exact c
        · obtain ⟨r, rfl⟩ : ∃ r, q = r + 1 := ⟨q - 1, by omega⟩
          have hv := h.2 (fun p => if p = 0 then - (A (r + 1) (r + 1) + 1) * A 0 (r + 1) else if p = r + 1 then 1 else 0)
          rw [bilS_0 n A h.1] at hv
          simp only [if_true, Nat.add_one_ne_zero, if_false] at hv
          rw [mSum_one n r (by omega) (fun i _ hn => by rw [if_neg (by omega)]; simp)] at hv
          have e := bilS_e (n := n) (A := fun p c => A (p + 1) (c + 1)) (i := r) (by omega)
          have e3 : (fun i => if i + 1 = r + 1 then (1 : Int) else 0) = (fun i => if i = r then 1 else 0) := by
            funext i
            by_cases k : i = r
            · rw [if_pos (by omega), if_pos k]
            · rw [if_neg (by omega), if_neg k]
          rw [e3, e, c] at hv
          simp only [if_true] at hv
          have nr := nn (r + 1) hq
          generalize A (r + 1) (r + 1) = x at *
          generalize A 0 (r + 1) = y at *
          have e4 : 0 * (-(x + 1) * y) * (-(x + 1) * y) + 2 * (-(x + 1) * y) * (y * 1) + x = x - 2 * ((x + 1) * (y * y)) := by grind
          rw [e4] at hv
          by_cases k : y = 0
          · exact k
          · exfalso
            have k1 : 1 ≤ y * y := by
              have : 0 < y * y := by
                rcases Int.lt_or_gt_of_ne k with q | q
                · exact Int.mul_pos_of_neg_of_neg q q
                · exact Int.mul_pos q q
              omega
            have : (x + 1) * 1 ≤ (x + 1) * (y * y) := Int.mul_le_mul_of_nonneg_left k1 (by omega)
            omega
      rw [mDet_zrow (by omega) A z]
      exact prd_nn _ nn
    · have ap : 0 < A 0 0 := by omega
      have hS : Psd n (fun p q => A 0 0 * A (p + 1) (q + 1) - A 0 (p + 1) * A 0 (q + 1)) := by
        refine ⟨fun i j => by
          show A 0 0 * A (i + 1) (j + 1) - A 0 (i + 1) * A 0 (j + 1) = A 0 0 * A (j + 1) (i + 1) - A 0 (j + 1) * A 0 (i + 1)
          rw [h.1 (i + 1) (j + 1)]; grind, fun v => ?_⟩
        rw [bilS_sch n (A 0 0) (fun i => A 0 (i + 1)) (fun p q => A (p + 1) (q + 1)) v]
        have hv := h.2 (fun p => if p = 0 then - mSum n (fun i => A 0 (i + 1) * v i) else A 0 0 * v (p - 1))
        rw [bilS_0 n A h.1] at hv
        simp only [if_true, Nat.add_one_ne_zero, if_false, Nat.add_sub_cancel] at hv
        rw [bilS_cc] at hv
        have e : mSum n (fun i => A 0 (i + 1) * (A 0 0 * v i)) = A 0 0 * mSum n (fun i => A 0 (i + 1) * v i) := by
          rw [← mSum_mul]; exact mSum_congr n (fun j _ => by grind)
        rw [e] at hv
        generalize mSum n (fun i => A 0 (i + 1) * v i) = s at *
        generalize bilS n (fun p q => A (p + 1) (q + 1)) v v = Q at *
        have e2 : A 0 0 * -s * -s + 2 * -s * (A 0 0 * s) + A 0 0 * A 0 0 * Q = A 0 0 * (A 0 0 * Q - s * s) := by grind
        rw [e2] at hv
        rcases Int.lt_or_le (A 0 0 * Q - s * s) 0 with q | q
        · have := Int.mul_neg_of_pos_of_neg ap q
          omega
        · exact q
      have i1 := ih _ hS
      have i2 : prd n (fun i => A 0 0 * A (i + 1) (i + 1) - A 0 (i + 1) * A 0 (i + 1)) ≤ prd n (fun i => A 0 0 * A (i + 1) (i + 1)) := prd_le n (fun i hi => ⟨hS.dg hi, by
        have : 0 ≤ A 0 (i + 1) * A 0 (i + 1) := by
          rcases Int.le_total 0 (A 0 (i + 1)) with q | q
          · exact Int.mul_nonneg q q
          · exact Int.mul_nonneg_of_nonpos_of_nonpos q q
        omega⟩)
      rw [prd_c] at i2
      have d1 : A 0 0 ^ n * mDet (n + 1) A = A 0 0 * mDet n (fun p q => A 0 0 * A (p + 1) (q + 1) - A 0 (p + 1) * A 0 (q + 1)) := by
        rw [← mDet_scr (A 0 0) A n (Nat.le_refl _)]
        rw [← mDet_elim (fun p => - A 0 p) (fun p q => if 0 < p ∧ p < n + 1 then A 0 0 * A p q else A p q) n (Nat.le_refl _)]
        rw [mDet_col0 (fun p hp hpn => ?_)]
        · simp only [Nat.lt_irrefl, false_and, if_false]
          congr 1
          refine mDet_congr _ _ _ (fun p q hp hq => ?_)
          have hc : 0 < p + 1 ∧ p + 1 < n + 1 := by omega
          simp only [if_pos hc]; grind
        · have hc : 0 < p ∧ p < n + 1 := ⟨hp, hpn⟩
          simp only [if_pos hc, Nat.lt_irrefl, false_and, if_false]
          rw [h.1 p 0]; grind
      rw [prd_0]
      generalize prd n (fun i => A (i + 1) (i + 1)) = R at *
      generalize mDet n (fun p q => A 0 0 * A (p + 1) (q + 1) - A 0 (p + 1) * A 0 (q + 1)) = S at *
      generalize mDet (n + 1) A = E at *
      have pp : 0 < A 0 0 ^ n := Int.pow_pos ap
      have i3 : A 0 0 * S ≤ A 0 0 * (A 0 0 ^ n * R) := Int.mul_le_mul_of_nonneg_left (by omega) (by omega)
      rw [← d1, show A 0 0 * (A 0 0 ^ n * R) = A 0 0 ^ n * (A 0 0 * R) by grind] at i3
      exact Int.le_of_mul_le_mul_left i3 pp
/-- the product of m numbers whose sum is at most m times c -/
theorem amgm (c : Int) (hc : 0 ≤ c) : ∀ (m : Nat) (f : Nat → Int), (∀ i, i < m → 0 ≤ f i) → mSum m f ≤ m * c → prd m f ≤ c ^ m := by
  intro m
  induction m with
  | zero => intro f _ _; rw [Int.pow_zero]; exact Int.le_refl _
  | succ m ih =>
    intro f h hs
    by_cases al : ∀ i, i < m + 1 → f i ≤ c
    · have := prd_le (f := f) (g := fun _ => c * 1) (m + 1) (fun i hi => ⟨h i hi, by have := al i hi; show f i ≤ c * 1; omega⟩)
      rw [prd_c] at this
      have e : ∀ k, prd k (fun _ => (1 : Int)) = 1 := by
        intro k
        induction k with
        | zero => rfl
        | succ k ik => unfold prd; rw [ik]; rfl
      rw [e] at this; omega
    · obtain ⟨j, hj⟩ : ∃ j, ¬ (j < m + 1 → f j ≤ c) := Classical.not_forall.mp al
      have hj1 : j < m + 1 := Classical.byContradiction (fun q => hj (fun z => absurd z q))
      have hj2 : c < f j := by
        rcases Int.lt_or_le c (f j) with q | q
        · exact q
        · exact absurd (fun _ => q) hj
      have lo : ∃ i, i < m + 1 ∧ f i < c := by
        apply Classical.byContradiction
        intro q
        have ge : ∀ i, i < m + 1 → c ≤ f i := fun i hi => by
          rcases Int.lt_or_le (f i) c with z | z
          · exact absurd ⟨i, hi, z⟩ q
          · exact z
        have : ∀ k (g : Nat → Int), (∀ i, i < k → c ≤ g i) → k * c ≤ mSum k g := by
          intro k
          induction k with
          | zero => intro g _; simp [mSum]
          | succ k ik =>
            intro g hg
            have := ik g (fun i hi => hg i (by omega))
            have := hg k (by omega)
            unfold mSum
            have e : ((k + 1 : Nat) : Int) * c = k * c + c := by rw [Int.natCast_add]; grind
            omega
        have s1 : mSum (m + 1) f = f j + mSum m (fun i => f (mSk j i)) := by
          have q1 := mSum_skip m j hj1 (f := fun i => if i = j then 0 else f i) (if_pos rfl)
          have q2 : mSum m (fun i => if mSk j i = j then 0 else f (mSk j i)) = mSum m (fun i => f (mSk j i)) := mSum_congr m (fun i _ => by rw [if_neg (mSk_ne j i)])
          have q3 := mSum_add (fun i => if i = j then 0 else f i) (fun i => if i = j then f j else 0) (m + 1)
          have q4 : mSum (m + 1) (fun i => (if i = j then 0 else f i) + (if i = j then f j else 0)) = mSum (m + 1) f := mSum_congr _ (fun i _ => by
            by_cases z : i = j
            · rw [if_pos z, if_pos z, z]; omega
            · rw [if_neg z, if_neg z]; omega)
          have q5 : mSum (m + 1) (fun i => if i = j then f j else 0) = f j := by
            rw [mSum_one (m + 1) j hj1 (fun i _ hn => if_neg hn), if_pos rfl]
          omega
        have s2 := this m (fun i => f (mSk j i)) (fun i hi => ge _ (mSk_lt hi))
        have e : ((m + 1 : Nat) : Int) * c = m * c + c := by rw [Int.natCast_add]; grind
        omega
      obtain ⟨i, hi1, hi2⟩ := lo
      have hne : i ≠ j := fun q => by rw [q] at hi2; omega
      -- what is at i goes to j
      have key : ∀ g : Nat → Int, mSum (m + 1) g = g i + mSum m (fun k => g (mSk i k)) := by
        intro g
        have q1 := mSum_skip m i hi1 (f := fun k => if k = i then 0 else g k) (if_pos rfl)
        have q2 : mSum m (fun k => if mSk i k = i then 0 else g (mSk i k)) = mSum m (fun k => g (mSk i k)) := mSum_congr m (fun k _ => by rw [if_neg (mSk_ne i k)])
        have q3 := mSum_add (fun k => if k = i then 0 else g k) (fun k => if k = i then g i else 0) (m + 1)
        have q4 : mSum (m + 1) (fun k => (if k = i then 0 else g k) + (if k = i then g i else 0)) = mSum (m + 1) g := mSum_congr _ (fun k _ => by
          by_cases z : k = i
          · rw [if_pos z, if_pos z, z]; omega
          · rw [if_neg z, if_neg z]; omega)
        have q5 : mSum (m + 1) (fun k => if k = i then g i else 0) = g i := by
          rw [mSum_one (m + 1) i hi1 (fun k _ hn => if_neg hn), if_pos rfl]
        omega
      have j' : ∃ k, k < m ∧ mSk i k = j := by
        refine ⟨if j < i then j else j - 1, by split <;> omega, mSk_back (fun q => hne q.symm)⟩
      obtain ⟨k, hk, ek⟩ := j'
      obtain ⟨m, rfl⟩ : ∃ m', m = m' + 1 := ⟨m - 1, by omega⟩
      have hf0 := h i hi1
      have r := ih (fun p => if p = k then f i + f j - c else f (mSk i p)) (fun p hp => by
        show 0 ≤ (if p = k then f i + f j - c else f (mSk i p))
        split
        · omega
        · exact h _ (mSk_lt hp)) (by
        have s1 := key f
        have s2 : mSum (m + 1) (fun p => if p = k then f i + f j - c else f (mSk i p)) = mSum (m + 1) (fun p => f (mSk i p)) + (f i - c) := by
          have q3 := mSum_add (fun p => f (mSk i p)) (fun p => if p = k then f i - c else 0) (m + 1)
          have q4 : mSum (m + 1) (fun p => f (mSk i p) + (if p = k then f i - c else 0)) = mSum (m + 1) (fun p => if p = k then f i + f j - c else f (mSk i p)) := mSum_congr _ (fun p _ => by
            by_cases z : p = k
            · rw [if_pos z, if_pos z, z, ek]; omega
            · rw [if_neg z, if_neg z]; omega)
          have q5 : mSum (m + 1) (fun p => if p = k then f i - c else 0) = f i - c := by
            rw [mSum_one (m + 1) k hk (fun p _ hn => if_neg hn), if_pos rfl]
          omega
        have e : ((m + 1 + 1 : Nat) : Int) * c = ((m + 1 : Nat) : Int) * c + c := by rw [Int.natCast_add (m + 1) 1]; grind
        omega)
      rw [prd_sk m k _ hk] at r
      rw [if_pos rfl] at r
      have e1 : prd m (fun p => if mSk k p = k then f i + f j - c else f (mSk i (mSk k p))) = prd m (fun p => f (mSk i (mSk k p))) := by
        congr 1; funext p; rw [if_neg (mSk_ne k p)]
      rw [e1] at r
      rw [prd_sk (m + 1) i f hi1, prd_sk m k (fun p => f (mSk i p)) hk, ek]
      have pn : 0 ≤ prd m (fun p => f (mSk i (mSk k p))) := prd_nn m (fun p hp => h _ (mSk_lt (mSk_lt hp)))
      generalize prd m (fun p => f (mSk i (mSk k p))) = R at *
      have w : 0 ≤ (c - f i) * (f j - c) := Int.mul_nonneg (by omega) (by omega)
      have w2 : f i * f j ≤ c * (f i + f j - c) := by
        have : (c - f i) * (f j - c) = c * (f i + f j - c) - f i * f j := by grind
        omega
      have w3 : f i * f j * R ≤ c * (f i + f j - c) * R := Int.mul_le_mul_of_nonneg_right w2 pn
      have w4 : c * ((f i + f j - c) * R) ≤ c * c ^ (m + 1) := Int.mul_le_mul_of_nonneg_left r hc
      have e5 : c ^ (m + 1 + 1) = c * c ^ (m + 1) := by rw [Int.pow_succ]; grind
      rw [e5]
      have e6 : f i * (f j * R) = f i * f j * R := by grind
      have e7 : c * (f i + f j - c) * R = c * ((f i + f j - c) * R) := by grind
      omega
/-- the Laplacian with t added everywhere -/
theorem lU_s {F T : Nat → Nat} {k n : Nat} (hF : F k < n) (hT : T k < n) : mSum n (fun i => lU F T k i) = 0 := by
  have e1 : mSum n (fun i => if F k = i then (1 : Int) else 0) = 1 := by
    rw [mSum_one n (F k) hF (fun i _ hn => if_neg (fun q => hn q.symm)), if_pos rfl]
  have e2 : mSum n (fun i => (-1 : Int) * (if T k = i then 1 else 0)) = -1 := by
    rw [mSum_one n (T k) hT (fun i _ hn => by rw [if_neg (fun q => hn q.symm)]; rfl), if_pos rfl]; rfl
  have e3 := mSum_add (fun i => if F k = i then (1 : Int) else 0) (fun i => (-1 : Int) * (if T k = i then 1 else 0)) n
  rw [e1, e2] at e3
  refine Eq.trans (mSum_congr n (fun i _ => ?_)) e3
  unfold lU; omega
theorem lap_s0 {F T : Nat → Nat} {w : Nat → Int} {n : Nat} (j : Nat) : ∀ m k, (∀ q, k ≤ q → q < k + m → F q < n ∧ T q < n) → mSum n (fun i => lapL F T w m k i j) = 0 := by
  intro m
  induction m with
  | zero => intro k _; exact mSum_zero n (fun _ _ => rfl)
  | succ m ih =>
    intro k h
    have e1 := ih (k + 1) (fun q a b => h q (by omega) (by omega))
    have e2 : mSum n (fun i => (w k * lU F T k j) * lU F T k i) = 0 := by
      rw [mSum_mul, lU_s (h k (by omega) (by omega)).1 (h k (by omega) (by omega)).2, Int.mul_zero]
    have e3 := mSum_add (fun i => lapL F T w m (k + 1) i j) (fun i => (w k * lU F T k j) * lU F T k i) n
    rw [e1, e2] at e3
    refine Eq.trans (mSum_congr n (fun i _ => ?_)) e3
    rw [lapL_s]; grind
theorem lap_sym {F T : Nat → Nat} {w : Nat → Int} (i j : Nat) : ∀ m k, lapL F T w m k i j = lapL F T w m k j i := by
  intro m
  induction m with
  | zero => intro k; rfl
  | succ m ih => intro k; rw [lapL_s, lapL_s, ih]; grind
theorem bilS_r1 (n : Nat) (c : Int) (u v : Nat → Int) (A : Nat → Nat → Int) : bilS n (fun i j => A i j + c * u i * u j) v v = bilS n A v v + c * (mSum n (fun i => u i * v i) * mSum n (fun i => u i * v i)) := by
  unfold bilS
  have e : ∀ i, mSum n (fun j => (A i j + c * u i * u j) * v j) = mSum n (fun j => A i j * v j) + c * u i * mSum n (fun j => u j * v j) := fun i => by
    rw [← mSum_mul, ← mSum_add]; exact mSum_congr n (fun j _ => by grind)
  have e2 : mSum n (fun p => v p * mSum n (fun j => (A p j + c * u p * u j) * v j)) = mSum n (fun p => v p * mSum n (fun j => A p j * v j) + (c * mSum n (fun j => u j * v j)) * (u p * v p)) := mSum_congr n (fun i _ => by rw [e]; grind)
  rw [e2, mSum_add, mSum_mul]; grind
theorem sq_nn (x : Int) : 0 ≤ x * x := by
  rcases Int.le_total 0 x with q | q
  · exact Int.mul_nonneg q q
  · exact Int.mul_nonneg_of_nonpos_of_nonpos q q
theorem lap_psd {F T : Nat → Nat} {w : Nat → Int} {n : Nat} (v : Nat → Int) : ∀ m k, (∀ q, k ≤ q → q < k + m → 0 ≤ w q) → 0 ≤ bilS n (fun i j => lapL F T w m k i j) v v := by
  intro m
  induction m with
  | zero => intro k _; unfold bilS; rw [mSum_zero n (fun i _ => by rw [mSum_zero n (fun j _ => by show (0 : Int) * v j = 0; simp)]; simp)]; exact Int.le_refl _
  | succ m ih =>
    intro k h
    have e := bilS_r1 n (w k) (fun i => lU F T k i) v (fun i j => lapL F T w m (k + 1) i j)
    have e2 : bilS n (fun i j => lapL F T w (m + 1) k i j) v v = bilS n (fun i j => lapL F T w m (k + 1) i j + w k * lU F T k i * lU F T k j) v v := rfl
    rw [e2, e]
    have := ih (k + 1) (fun q a b => h q (by omega) (by omega))
    have := Int.mul_nonneg (h k (by omega) (by omega)) (sq_nn (mSum n (fun i => lU F T k i * v i)))
    omega
theorem lJ_psd {F T : Nat → Nat} {w : Nat → Int} {n m k : Nat} {t : Int} (ht : 0 ≤ t) (h : ∀ q, k ≤ q → q < k + m → 0 ≤ w q) : Psd n (fun i j => lapL F T w m k i j + t) := by
  refine ⟨fun i j => by show lapL F T w m k i j + t = lapL F T w m k j i + t; rw [lap_sym], fun v => ?_⟩
  have e := bilS_r1 n t (fun _ => 1) v (fun i j => lapL F T w m k i j)
  have e2 : (fun i j => lapL F T w m k i j + t * (fun _ : Nat => (1 : Int)) i * (fun _ : Nat => (1 : Int)) j) = (fun i j => lapL F T w m k i j + t) := by
    funext i j; show lapL F T w m k i j + t * 1 * 1 = _; omega
  rw [e2] at e
  rw [e]
  have := lap_psd (F := F) (T := T) (w := w) (n := n) v m k h
  have := Int.mul_nonneg ht (sq_nn (mSum n (fun i => (1 : Int) * v i)))
  omega
theorem lap_dsum {F T : Nat → Nat} {w : Nat → Int} {n : Nat} : ∀ m k, (∀ q, k ≤ q → q < k + m → F q < n ∧ T q < n ∧ 0 ≤ w q ∧ w q ≤ 9) → mSum n (fun i => lapL F T w m k i i) ≤ 18 * m := by
  intro m
  induction m with
  | zero => intro k _; have e : mSum n (fun i => lapL F T w 0 k i i) = 0 := mSum_zero n (fun i _ => rfl)
            rw [e]; simp
  | succ m ih =>
    intro k h
    have e1 := ih (k + 1) (fun q a b => h q (by omega) (by omega))
    obtain ⟨h1, h2, h3, h4⟩ := h k (by omega) (by omega)
    have e2 : mSum n (fun i => w k * (lU F T k i * lU F T k i)) ≤ 18 := by
      have f1 : mSum n (fun i => if F k = i then (1 : Int) else 0) = 1 := by
        rw [mSum_one n (F k) h1 (fun i _ hn => if_neg (fun q => hn q.symm)), if_pos rfl]
      have f2 : mSum n (fun i => if T k = i then (1 : Int) else 0) = 1 := by
        rw [mSum_one n (T k) h2 (fun i _ hn => if_neg (fun q => hn q.symm)), if_pos rfl]
      have f3 := mSum_add (fun i => if F k = i then (1 : Int) else 0) (fun i => if T k = i then (1 : Int) else 0) n
      have le : ∀ n, mSum n (fun i => lU F T k i * lU F T k i) ≤ mSum n (fun i => (if F k = i then (1 : Int) else 0) + (if T k = i then (1 : Int) else 0)) := by
        intro n
        induction n with
        | zero => exact Int.le_refl _
        | succ n ih =>
          show mSum n (fun i => lU F T k i * lU F T k i) + lU F T k n * lU F T k n ≤ mSum n (fun i => (if F k = i then (1 : Int) else 0) + (if T k = i then (1 : Int) else 0)) + ((if F k = n then (1 : Int) else 0) + (if T k = n then (1 : Int) else 0))
          have : lU F T k n * lU F T k n ≤ (if F k = n then (1 : Int) else 0) + (if T k = n then (1 : Int) else 0) := by
            unfold lU
            split <;> split <;> decide
          omega
      have := le n
      rw [mSum_mul]
      have p0 : ∀ n, 0 ≤ mSum n (fun i => lU F T k i * lU F T k i) := by
        intro n
        induction n with
        | zero => exact Int.le_refl _
        | succ n ih =>
          show 0 ≤ mSum n (fun i => lU F T k i * lU F T k i) + lU F T k n * lU F T k n
          have := sq_nn (lU F T k n); omega
      have := p0 n
      have : w k * mSum n (fun i => lU F T k i * lU F T k i) ≤ 9 * 2 := Int.mul_le_mul h4 (by omega) (by omega) (by omega)
      omega
    have e3 := mSum_add (fun i => lapL F T w m (k + 1) i i) (fun i => w k * (lU F T k i * lU F T k i)) n
    have e4 : mSum n (fun i => lapL F T w (m + 1) k i i) = mSum n (fun i => lapL F T w m (k + 1) i i + w k * (lU F T k i * lU F T k i)) := mSum_congr n (fun i _ => by rw [lapL_s]; grind)
    rw [e4, e3]
    have e5 : ((m + 1 : Nat) : Int) = m + 1 := by omega
    rw [e5]; omega
theorem mDet_allrows {n : Nat} (M : Nat → Nat → Int) : mDet (n + 1) (mPut M 0 (fun q => mSum (n + 1) (fun i => M i q))) = mDet (n + 1) M := by
  have := mDet_sumrow (k := n + 1) (j := 0) (by omega) M (fun _ => 1) M (n + 1)
  simp only [Int.one_mul] at this
  rw [this, mSum_one (n + 1) 0 (by omega) (fun i hi hn => mDet_same (by omega : 0 < n + 1) hi (fun q => hn q.symm) _ (fun q _ => by rw [mPut_s, mPut_n hn])), mPut_id]
theorem lJ_det {F T : Nat → Nat} {w : Nat → Int} {n m k : Nat} {t : Int} (h : ∀ q, k ≤ q → q < k + m → F q < n + 1 ∧ T q < n + 1) : mDet (n + 1) (fun i j => lapL F T w m k i j + t) = ((n + 1 : Nat) : Int) * (((n + 1 : Nat) : Int) * t) * mDet n (mDel0 (lapL F T w m k)) := by
  have cs : ∀ (c : Int) k, mSum k (fun _ => c) = k * c := by
    intro c k
    induction k with
    | zero => simp [mSum]
    | succ k ih => unfold mSum; rw [ih, Int.natCast_add]; grind
  have s1 : ∀ j, mSum (n + 1) (fun i => lapL F T w m k i j + t) = ((n + 1 : Nat) : Int) * t := fun j => by
    rw [mSum_add (fun i => lapL F T w m k i j) (fun _ => t) (n + 1), lap_s0 j m k h, cs, Int.zero_add]
  rw [← mDet_allrows]
  have e1 : mPut (fun i j => lapL F T w m k i j + t) 0 (fun q => mSum (n + 1) (fun i => lapL F T w m k i q + t)) = mPut (fun i j => lapL F T w m k i j + t) 0 (fun q => ((n + 1 : Nat) : Int) * (fun _ => t) q) := by
    congr 1; funext q; exact s1 q
  rw [e1, mDet_sc1 (by omega), Int.mul_assoc]
  congr 1
  rw [← mDet_tr, ← mDet_allrows, ← mDet_tr]
  rw [← mDet_elim (fun _ => -1) _ n (Nat.le_refl _)]
  have col0 : ∀ p, p < n + 1 → mPut (fun p q => mPut (fun i j => lapL F T w m k i j + t) 0 (fun _ => t) q p) 0 (fun q => mSum (n + 1) (fun i => mPut (fun i j => lapL F T w m k i j + t) 0 (fun _ => t) q i)) 0 p = ((n + 1 : Nat) : Int) * t := by
    intro p hp
    rw [mPut_s]
    by_cases c : p = 0
    · rw [mSum_congr (n + 1) (g := fun _ => t) (fun i _ => by rw [c, mPut_s]), cs]
    · rw [mSum_congr (n + 1) (g := fun i => lapL F T w m k i p + t) (fun i _ => by rw [mPut_n c, lap_sym])]
      exact s1 p
  rw [mDet_col0 (fun p hp hpn => ?_)]
  · simp only [Nat.lt_irrefl, false_and, if_false]
    rw [col0 0 (by omega)]
    congr 1
    refine mDet_congr n _ _ (fun p q hp hq => ?_)
    have hc : 0 < p + 1 ∧ p + 1 < n + 1 := by omega
    simp only [if_pos hc]
    rw [mPut_n (by omega), mPut_n (by omega), mPut_n (by omega), mPut_s]
    unfold mDel0; omega
  · have hc : 0 < p ∧ p < n + 1 := ⟨hp, hpn⟩
    simp only [if_pos hc]
    rw [col0 p hpn, col0 0 (by omega)]; omega
theorem tcN_50 {F T : Nat → Nat} {w : Nat → Int} {n a : Nat} (hn0 : 0 < n) (hn : n ≤ 10) (ha : a ≤ 30) (h : ∀ q, q < a → F q < n ∧ T q < n ∧ 0 ≤ w q ∧ w q ≤ 9) : tcN F T w a 0 n (fun v => v) < 1125899906842624 := by
  by_cases c : n = 10
  · obtain rfl := c
    rw [← lap_tc a 0 10 (fun v => v) (by omega) (fun j _ q => ⟨(h j (by omega)).1, (h j (by omega)).2.1⟩)]
    show mDet 9 (mDel0 (lapL F T w a 0)) < _
    have d := lJ_det (F := F) (T := T) (w := w) (n := 9) (m := a) (k := 0) (t := 6) (fun q _ hq => ⟨(h q (by omega)).1, (h q (by omega)).2.1⟩)
    have p := lJ_psd (F := F) (T := T) (w := w) (n := 10) (m := a) (k := 0) (t := 6) (by omega) (fun q _ hq => (h q (by omega)).2.2.1)
    have hd := had 10 _ p
    have ds := lap_dsum (F := F) (T := T) (w := w) (n := 10) a 0 (fun q _ hq => h q (by omega))
    have cs : mSum 10 (fun _ => (6 : Int)) = 60 := by decide
    have s := mSum_add (fun i => lapL F T w a 0 i i) (fun _ => (6 : Int)) 10
    have am := amgm 60 (by omega) 10 (fun i => lapL F T w a 0 i i + 6) (fun i hi => p.dg hi) (by
      show mSum 10 (fun i => lapL F T w a 0 i i + 6) ≤ 10 * 60
      omega)
    have pw : (60 : Int) ^ 10 = 604661760000000000 := by decide
    have c1 : ((9 + 1 : Nat) : Int) * (((9 + 1 : Nat) : Int) * 6) = 600 := by decide
    rw [c1] at d
    have hd' : mDet (9 + 1) (fun i j => lapL F T w a 0 i j + 6) ≤ prd 10 (fun i => lapL F T w a 0 i i + 6) := hd
    rw [d] at hd'
    generalize mDet 9 (mDel0 (lapL F T w a 0)) = X at *
    generalize prd 10 (fun i => lapL F T w a 0 i i + 6) = Y at *
    omega
  · have l := tcN_le (F := F) (T := T) (w := w) a 0 n (fun v => v) hn0 (fun j _ q => ⟨(h j (by omega)).2.2.1, (h j (by omega)).2.2.2⟩) (fun j _ q => ⟨(h j (by omega)).1, (h j (by omega)).2.1⟩)
    have l2 : ∀ a, a ≤ 30 → ∀ n, n ≤ 8 → (ch a n : Int) * 9 ^ n < 1125899906842624 := by decide
    have := l2 a ha (n - 1) (by omega)
    omega
