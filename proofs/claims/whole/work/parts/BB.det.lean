section MP
variable {R : Type}
/-- a row put in -/
def mPut (M : Nat → Nat → R) (r : Nat) (v : Nat → R) : Nat → Nat → R := fun p q => if p = r then v q else M p q
theorem mPut_s (M : Nat → Nat → R) (r : Nat) (v : Nat → R) (q : Nat) : mPut M r v r q = v q := if_pos rfl
theorem mPut_n {M : Nat → Nat → R} {r p : Nat} {v : Nat → R} (h : p ≠ r) (q : Nat) : mPut M r v p q = M p q := if_neg h
theorem mPut_comm {M : Nat → Nat → R} {r s : Nat} {u v : Nat → R} (h : r ≠ s) : mPut (mPut M r u) s v = mPut (mPut M s v) r u := by
  funext p q
  unfold mPut
  by_cases c : p = s
  · subst c; rw [if_pos rfl, if_neg (fun e => h e.symm), if_pos rfl]
  · rw [if_neg c]; split <;> simp
theorem mPut_id (M : Nat → Nat → R) (r : Nat) : mPut M r (M r) = M := by
  funext p q
  unfold mPut
  by_cases c : p = r
  · subst c; rw [if_pos rfl]
  · rw [if_neg c]
end MP
section MD
/-- sums, signs, determinants over a ring -/
def mSum {R : Type} [Lean.Grind.CommRing R] : Nat → (Nat → R) → R
  | 0, _ => 0
  | n + 1, f => mSum n f + f n
def mSg {R : Type} [Lean.Grind.CommRing R] (n : Nat) : R := if n % 2 = 0 then 1 else -1
def mSk (i p : Nat) : Nat := if p < i then p else p + 1
def mDet {R : Type} [Lean.Grind.CommRing R] : Nat → (Nat → Nat → R) → R
  | 0, _ => 1
  | n + 1, M => mSum (n + 1) (fun i => mSg i * M i 0 * mDet n (fun p q => M (mSk i p) (q + 1)))
theorem mSg_s {R : Type} [Lean.Grind.CommRing R] (n : Nat) : (mSg (n + 1) : R) = - mSg n := by
  unfold mSg
  by_cases h : n % 2 = 0
  · rw [if_pos h, if_neg (by omega)]
  · rw [if_neg h, if_pos (by omega)]; grind
theorem mSg_2 {R : Type} [Lean.Grind.CommRing R] (n : Nat) : (mSg (n + 2) : R) = mSg n := by rw [mSg_s, mSg_s]; grind
theorem mSg_sq {R : Type} [Lean.Grind.CommRing R] (n : Nat) : (mSg n : R) * mSg n = 1 := by
  unfold mSg
  by_cases h : n % 2 = 0
  · rw [if_pos h]; grind
  · rw [if_neg h]; grind
theorem mSg_add {R : Type} [Lean.Grind.CommRing R] (m n : Nat) : (mSg (m + n) : R) = mSg m * mSg n := by
  induction n with
  | zero => simp [mSg]; grind
  | succ n ih => rw [← Nat.add_assoc, mSg_s, ih, mSg_s]; grind
theorem mSk_lt {i p n : Nat} (h : p < n) : mSk i p < n + 1 := by unfold mSk; split <;> omega
theorem mSk_ne (i p : Nat) : mSk i p ≠ i := by unfold mSk; split <;> omega
theorem mSum_congr {R : Type} [Lean.Grind.CommRing R] {f g : Nat → R} : ∀ n, (∀ i, i < n → f i = g i) → mSum n f = mSum n g := by
  intro n
  induction n with
  | zero => intro _; rfl
  | succ n ih => intro h; unfold mSum; rw [ih (fun i hi => h i (by omega)), h n (by omega)]
theorem mSum_zero {R : Type} [Lean.Grind.CommRing R] {f : Nat → R} : ∀ n, (∀ i, i < n → f i = 0) → mSum n f = 0 := by
  intro n
  induction n with
  | zero => intro _; rfl
  | succ n ih => intro h; unfold mSum; rw [ih (fun i hi => h i (by omega)), h n (by omega)]; grind
theorem mSum_add {R : Type} [Lean.Grind.CommRing R] (f g : Nat → R) : ∀ n, mSum n (fun i => f i + g i) = mSum n f + mSum n g := by
  intro n
  induction n with
  | zero => unfold mSum; grind
  | succ n ih => unfold mSum; rw [ih]; grind
theorem mSum_mul {R : Type} [Lean.Grind.CommRing R] (c : R) (f : Nat → R) : ∀ n, mSum n (fun i => c * f i) = c * mSum n f := by
  intro n
  induction n with
  | zero => unfold mSum; grind
  | succ n ih => unfold mSum; rw [ih]; grind
theorem mSum_one {R : Type} [Lean.Grind.CommRing R] {f : Nat → R} : ∀ n r, r < n → (∀ i, i < n → i ≠ r → f i = 0) → mSum n f = f r := by
  intro n
  induction n with
  | zero => intro r hr; omega
  | succ n ih =>
    intro r hr h
    unfold mSum
    by_cases e : r = n
    · subst e; rw [mSum_zero r (fun i hi => h i (by omega) (by omega))]; grind
    · rw [ih r (by omega) (fun i hi he => h i (by omega) he), h n (by omega) (by omega)]; grind
theorem mSum_two {R : Type} [Lean.Grind.CommRing R] {f : Nat → R} : ∀ n r, r + 1 < n → (∀ i, i < n → i ≠ r → i ≠ r + 1 → f i = 0) → mSum n f = f r + f (r + 1) := by
  intro n
  induction n with
  | zero => intro r hr; omega
  | succ n ih =>
    intro r hr h
    unfold mSum
    by_cases e : r + 1 = n
    · subst e; rw [mSum_one (r + 1) r (by omega) (fun i hi he => h i (by omega) he (by omega))]
    · rw [ih r (by omega) (fun i hi he => h i (by omega) he), h n (by omega) (by omega) (by omega)]; grind
theorem mSum_skip {R : Type} [Lean.Grind.CommRing R] {f : Nat → R} : ∀ n x, x < n + 1 → f x = 0 → mSum (n + 1) f = mSum n (fun i => f (mSk x i)) := by
  intro n
  induction n with
  | zero => intro x hx h; have : x = 0 := by omega
            subst this; unfold mSum; unfold mSum; rw [h]; grind
  | succ n ih =>
    intro x hx h
    by_cases e : x = n + 1
    · subst e
      rw [mSum, h]
      have : mSum (n + 1) f = mSum (n + 1) (fun i => f (mSk (n + 1) i)) := mSum_congr _ (fun i hi => by simp [mSk, hi])
      rw [this]; grind
    · rw [mSum, ih x (by omega) h]
      conv => rhs; unfold mSum
      have : mSk x n = n + 1 := by unfold mSk; rw [if_neg (by omega)]
      show _ = _ + f (mSk x n)
      rw [this]
theorem mDet_congr {R : Type} [Lean.Grind.CommRing R] : ∀ (n : Nat) (M M' : Nat → Nat → R), (∀ p q, p < n → q < n → M p q = M' p q) → mDet n M = mDet n M' := by
  intro n
  induction n with
  | zero => intro M M' _; rfl
  | succ n ih =>
    intro M M' h
    unfold mDet
    refine mSum_congr _ (fun i hi => ?_)
    rw [h i 0 hi (by omega), ih _ (fun p q => M' (mSk i p) (q + 1)) (fun p q hp hq => h _ _ (mSk_lt hp) (by omega))]
theorem mSk_back {i p : Nat} (h : p ≠ i) : mSk i (if p < i then p else p - 1) = p := by
  unfold mSk
  by_cases c : p < i
  · rw [if_pos c, if_pos c]
  · rw [if_neg c, if_neg (by omega)]; omega
/-- linear in a row -/
theorem mDet_lin {R : Type} [Lean.Grind.CommRing R] : ∀ (n : Nat) (r : Nat) (c : R) (M M' M'' : Nat → Nat → R), r < n → (∀ p q, p < n → q < n → p ≠ r → M p q = M'' p q ∧ M' p q = M'' p q) → (∀ q, q < n → M'' r q = M r q + c * M' r q) → mDet n M'' = mDet n M + c * mDet n M' := by
  intro n
  induction n with
  | zero => intro r c M M' M'' hr; omega
  | succ n ih =>
    intro r c M M' M'' hr h1 h2
    unfold mDet
    rw [← mSum_mul, ← mSum_add]
    refine mSum_congr _ (fun i hi => ?_)
    by_cases e : i = r
    · subst e
      have e1 : mDet n (fun p q => M (mSk i p) (q + 1)) = mDet n (fun p q => M'' (mSk i p) (q + 1)) := mDet_congr _ _ _ (fun p q hp hq => (h1 _ _ (mSk_lt hp) (by omega) (mSk_ne _ _)).1)
      have e2 : mDet n (fun p q => M' (mSk i p) (q + 1)) = mDet n (fun p q => M'' (mSk i p) (q + 1)) := mDet_congr _ _ _ (fun p q hp hq => (h1 _ _ (mSk_lt hp) (by omega) (mSk_ne _ _)).2)
      rw [e1, e2, h2 0 (by omega)]
      grind
    · have e0 := h1 i 0 hi (by omega) e
      rw [e0.1, e0.2]
      have hb := mSk_back (i := i) (p := r) (fun q => e q.symm)
      rw [ih (if r < i then r else r - 1) c (fun p q => M (mSk i p) (q + 1)) (fun p q => M' (mSk i p) (q + 1)) (fun p q => M'' (mSk i p) (q + 1)) (by split <;> omega)
        (fun p q hp hq hne => h1 _ _ (mSk_lt hp) (by omega) (by
          intro q; apply hne; unfold mSk at q; split at q <;> split <;> omega))
        (fun q hq => by simp only [hb]; exact h2 _ (by omega))]
      grind
/-- two neighbouring rows alike -/
theorem mDet_alt1 {R : Type} [Lean.Grind.CommRing R] : ∀ (n : Nat) (r : Nat) (M : Nat → Nat → R), r + 1 < n → (∀ q, q < n → M r q = M (r + 1) q) → mDet n M = 0 := by
  intro n
  induction n with
  | zero => intro r M hr; omega
  | succ n ih =>
    intro r M hr h
    unfold mDet
    rw [mSum_two (n + 1) r hr]
    · have e1 : mDet n (fun p q => M (mSk r p) (q + 1)) = mDet n (fun p q => M (mSk (r + 1) p) (q + 1)) := by
        refine mDet_congr _ _ _ (fun p q hp hq => ?_)
        by_cases c : p = r
        · subst c
          have := h (q + 1) (by omega)
          simp [mSk, this]
        · by_cases c2 : p < r
          · simp [mSk, c2, show p < r + 1 by omega]
          · simp [mSk, c2, show ¬ p < r + 1 by omega]
      rw [e1, h 0 (by omega), mSg_s]
      grind
    · intro i hi n1 n2
      rw [ih (if r < i then r else r - 1) _ (by split <;> omega) (fun q hq => ?_)]
      · grind
      · by_cases c : r < i
        · rw [if_pos c]
          simp only [mSk, if_pos c, if_pos (show r + 1 < i by omega)]
          exact h _ (by omega)
        · rw [if_neg c]
          have e : r - 1 + 1 = r := by omega
          simp only [mSk, if_neg (show ¬ r - 1 < i by omega), e, if_neg c]
          exact h _ (by omega)
theorem mDet_put {R : Type} [Lean.Grind.CommRing R] {n r : Nat} (hr : r < n) (c : R) (M : Nat → Nat → R) (u v : Nat → R) : mDet n (mPut M r (fun q => u q + c * v q)) = mDet n (mPut M r u) + c * mDet n (mPut M r v) :=
  mDet_lin n r c _ _ _ hr (fun p q _ _ hne => by rw [mPut_n hne, mPut_n hne, mPut_n hne]; exact ⟨rfl, rfl⟩) (fun q _ => by rw [mPut_s, mPut_s, mPut_s])
/-- from 'alike rows give 0' to 'an exchange of the two turns the sign' -/
theorem mDet_anti {R : Type} [Lean.Grind.CommRing R] {n r s : Nat} (hr : r < n) (hs : s < n) (hne : r ≠ s) (h0 : ∀ (M : Nat → Nat → R), (∀ q, q < n → M r q = M s q) → mDet n M = 0) (M : Nat → Nat → R) (u v : Nat → R) : mDet n (mPut (mPut M r u) s v) = - mDet n (mPut (mPut M r v) s u) := by
  have z : ∀ (x : Nat → R), mDet n (mPut (mPut M r x) s x) = 0 := fun x => h0 _ (fun q _ => by rw [mPut_n hne, mPut_s, mPut_s])
  have e1 := mDet_put hs 1 (mPut M r (fun q => u q + 1 * v q)) u v
  rw [z] at e1
  rw [mPut_comm hne, mPut_comm (M := M) (u := fun q => u q + 1 * v q) (v := v) hne] at e1
  rw [mDet_put hr 1, mDet_put hr 1] at e1
  rw [← mPut_comm hne, ← mPut_comm hne, ← mPut_comm hne, ← mPut_comm hne, z, z] at e1
  grind
theorem mDet_swap1 {R : Type} [Lean.Grind.CommRing R] {n r : Nat} (hr : r + 1 < n) (M : Nat → Nat → R) (u v : Nat → R) : mDet n (mPut (mPut M r u) (r + 1) v) = - mDet n (mPut (mPut M r v) (r + 1) u) :=
  mDet_anti (by omega) hr (by omega) (fun M h => mDet_alt1 n r M hr h) M u v
/-- any two rows alike -/
theorem mDet_alt {R : Type} [Lean.Grind.CommRing R] {n : Nat} : ∀ (d r : Nat) (M : Nat → Nat → R), r + 1 + d < n → (∀ q, q < n → M r q = M (r + 1 + d) q) → mDet n M = 0 := by
  intro d
  induction d with
  | zero => intro r M hr h; exact mDet_alt1 n r M hr h
  | succ d ih =>
    intro r M hr h
    have e := mDet_swap1 (n := n) (r := r + 1 + d) (by omega) M (M (r + 1 + d)) (M (r + 1 + (d + 1)))
    have e2 : mPut (mPut M (r + 1 + d) (M (r + 1 + d))) (r + 1 + d + 1) (M (r + 1 + (d + 1))) = M := by
      rw [mPut_id, show r + 1 + (d + 1) = r + 1 + d + 1 by omega, mPut_id]
    rw [e2] at e
    rw [e, ih r _ (by omega) (fun q hq => ?_)]
    · grind
    · rw [mPut_n (by omega), mPut_n (by omega), mPut_n (by omega), mPut_s]; exact h q hq
theorem mDet_same {R : Type} [Lean.Grind.CommRing R] {n r s : Nat} (hr : r < n) (hs : s < n) (hne : r ≠ s) (M : Nat → Nat → R) (h : ∀ q, q < n → M r q = M s q) : mDet n M = 0 := by
  rcases Nat.lt_or_gt_of_ne hne with c | c
  · exact mDet_alt (s - r - 1) r M (by omega) (fun q hq => by rw [show r + 1 + (s - r - 1) = s by omega]; exact h q hq)
  · exact mDet_alt (r - s - 1) s M (by omega) (fun q hq => by rw [show s + 1 + (r - s - 1) = r by omega]; exact (h q hq).symm)
theorem mDet_swap {R : Type} [Lean.Grind.CommRing R] {n r s : Nat} (hr : r < n) (hs : s < n) (hne : r ≠ s) (M : Nat → Nat → R) : mDet n (mPut (mPut M r (M s)) s (M r)) = - mDet n M := by
  have e := mDet_anti hr hs hne (fun M h => mDet_same hr hs hne M h) M (M s) (M r)
  rw [e, mPut_id, mPut_id]
/-- a multiple of a row to another -/
theorem mDet_addrow {R : Type} [Lean.Grind.CommRing R] {n r s : Nat} (hr : r < n) (hs : s < n) (hne : r ≠ s) (c : R) (M : Nat → Nat → R) : mDet n (mPut M r (fun q => M r q + c * M s q)) = mDet n M := by
  rw [mDet_put hr c M (M r) (M s), mPut_id, mDet_same hr hs hne (mPut M r (M s)) (fun q _ => by rw [mPut_s, mPut_n hne.symm])]
  grind
/-- a row of noughts -/
theorem mDet_zrow {R : Type} [Lean.Grind.CommRing R] {n r : Nat} (hr : r < n) (M : Nat → Nat → R) (h : ∀ q, q < n → M r q = 0) : mDet n M = 0 := by
  have e := mDet_lin n r (1 : R) M M M hr (fun p q _ _ _ => ⟨rfl, rfl⟩) (fun q hq => by rw [h q hq]; grind)
  grind
/-- a row with one entry -/
theorem mDet_unit {R : Type} [Lean.Grind.CommRing R] : ∀ (n x y : Nat) (M : Nat → Nat → R), x < n + 1 → y < n + 1 → (∀ q, q < n + 1 → q ≠ y → M x q = 0) → mDet (n + 1) M = mSg (x + y) * M x y * mDet n (fun p q => M (mSk x p) (mSk y q)) := by
  intro n
  induction n with
  | zero =>
    intro x y M hx hy h
    obtain rfl : x = 0 := by omega
    obtain rfl : y = 0 := by omega
    simp [mDet, mSum, mSg]; grind
  | succ n ih =>
    intro x y M hx hy h
    by_cases hy0 : y = 0
    · subst hy0
      conv => lhs; unfold mDet
      rw [mSum_one (n + 2) x hx (fun i hi hne => ?_)]
      · rfl
      · rw [mDet_zrow (r := if x < i then x else x - 1) (by split <;> omega) _ (fun q hq => by simp only [mSk_back (fun q => hne q.symm)]; exact h _ (by omega) (by omega))]
        grind
    · conv => lhs; unfold mDet
      rw [mSum_skip (n + 1) x hx (by rw [h 0 (by omega) (fun q => hy0 q.symm)]; grind)]
      conv => rhs; unfold mDet
      rw [← mSum_mul]
      refine mSum_congr _ (fun i hi => ?_)
      have h0 : mSk y 0 = 0 := by unfold mSk; rw [if_pos (by omega)]
      simp only [h0]
      have hb := mSk_back (i := mSk x i) (p := x) (fun q => mSk_ne x i q.symm)
      rw [ih (if x < mSk x i then x else x - 1) (y - 1) _ (by have := mSk_lt (i := x) hi; have := mSk_ne x i; split <;> omega) (by omega) (fun q hq hne => by simp only [hb]; exact h _ (by omega) (by omega))]
      simp only [hb]
      have ey : y - 1 + 1 = y := by omega
      rw [ey]
      have ed : mDet n (fun p q => M (mSk (mSk x i) (mSk (if x < mSk x i then x else x - 1) p)) (mSk (y - 1) q + 1)) = mDet n (fun p q => M (mSk x (mSk i p)) (mSk y (q + 1))) := by
        refine mDet_congr _ _ _ (fun p q hp hq => ?_)
        have a1 : mSk (mSk x i) (mSk (if x < mSk x i then x else x - 1) p) = mSk x (mSk i p) := by
          unfold mSk
          by_cases c : i < x
          · simp only [if_pos c, if_neg (show ¬ x < i by omega)]
            repeat' split
            all_goals omega
          · simp only [if_neg c, if_pos (show x < i + 1 by omega)]
            repeat' split
            all_goals omega
        have a2 : mSk (y - 1) q + 1 = mSk y (q + 1) := by
          unfold mSk
          repeat' split
          all_goals omega
        rw [a1, a2]
      rw [ed]
      have es : (mSg (mSk x i) : R) * mSg ((if x < mSk x i then x else x - 1) + (y - 1)) = mSg (x + y) * mSg i := by
        unfold mSk
        by_cases c : i < x
        · simp only [if_pos c, if_neg (show ¬ x < i by omega)]
          rw [show x + y = x - 1 + (y - 1) + 2 by omega, mSg_2]; grind
        · simp only [if_neg c, if_pos (show x < i + 1 by omega)]
          rw [show x + y = x + (y - 1) + 1 by omega, mSg_s, mSg_s]; grind
      grind
/-- along a row -/
theorem mDet_row {R : Type} [Lean.Grind.CommRing R] (n x : Nat) (M : Nat → Nat → R) (hx : x < n + 1) : mDet (n + 1) M = mSum (n + 1) (fun j => mSg (x + j) * M x j * mDet n (fun p q => M (mSk x p) (mSk j q))) := by
  have key : ∀ k, k ≤ n + 1 → mDet (n + 1) (mPut M x (fun q => if q < k then M x q else 0)) = mSum k (fun j => mSg (x + j) * M x j * mDet n (fun p q => M (mSk x p) (mSk j q))) := by
    intro k
    induction k with
    | zero => intro _; exact mDet_zrow hx _ (fun q _ => by rw [mPut_s]; rfl)
    | succ k ih =>
      intro hk
      have e := mDet_put hx (1 : R) M (fun q => if q < k then M x q else 0) (fun q => if q = k then M x k else 0)
      have e3 : (fun q => (if q < k then M x q else 0) + 1 * (if q = k then M x k else 0)) = (fun q => if q < k + 1 then M x q else (0 : R)) := by
        funext q
        by_cases c : q < k
        · rw [if_pos c, if_neg (by omega), if_pos (by omega)]; grind
        · by_cases c2 : q = k
          · subst c2; rw [if_neg c, if_pos rfl, if_pos (by omega)]; grind
          · rw [if_neg c, if_neg c2, if_neg (by omega)]; grind
      rw [e3, ih (by omega)] at e
      rw [e, mSum]
      rw [mDet_unit n x k (mPut M x (fun q => if q = k then M x k else 0)) hx (by omega) (fun q _ hne => by rw [mPut_s, if_neg hne]), mPut_s, if_pos rfl]
      have ed : mDet n (fun p q => mPut M x (fun q => if q = k then M x k else 0) (mSk x p) (mSk k q)) = mDet n (fun p q => M (mSk x p) (mSk k q)) := mDet_congr _ _ _ (fun p q _ _ => mPut_n (mSk_ne _ _) _)
      rw [ed]
      grind
  have := key (n + 1) (Nat.le_refl _)
  rw [← this]
  refine mDet_congr _ _ _ (fun p q hp hq => ?_)
  unfold mPut
  by_cases c : p = x
  · subst c; rw [if_pos rfl]; exact (if_pos hq).symm
  · rw [if_neg c]
/-- rows and columns exchanged -/
theorem mDet_tr {R : Type} [Lean.Grind.CommRing R] : ∀ (n : Nat) (M : Nat → Nat → R), mDet n (fun p q => M q p) = mDet n M := by
  intro n
  induction n with
  | zero => intro M; rfl
  | succ n ih =>
    intro M
    rw [mDet_row n 0 M (by omega)]
    conv => lhs; unfold mDet
    refine mSum_congr _ (fun i hi => ?_)
    rw [← ih (fun p q => M (mSk 0 p) (mSk i q)), Nat.zero_add]
    rfl
end MD
