/-- sums of integers -/
theorem zs_le {f g : Nat → Int} : ∀ n, (∀ i, i < n → f i ≤ g i) → mSum n f ≤ mSum n g := by
  intro n
  induction n with
  | zero => intro _; exact Int.le_refl _
  | succ n ih => intro h; unfold mSum; have := ih (fun i hi => h i (by omega)); have := h n (by omega); omega
theorem zs_nn {f : Nat → Int} (n : Nat) (h : ∀ i, i < n → 0 ≤ f i) : 0 ≤ mSum n f := by
  have := zs_le (f := fun _ => 0) (g := f) n h
  rw [mSum_zero n (fun _ _ => rfl)] at this
  exact this
theorem zs_one {f : Nat → Int} {j : Nat} : ∀ n, j < n → (∀ i, i < n → 0 ≤ f i) → f j ≤ mSum n f := by
  intro n
  induction n with
  | zero => intro h; omega
  | succ n ih =>
    intro hj h
    unfold mSum
    by_cases e : j = n
    · subst e; have := zs_nn j (fun i hi => h i (by omega)); omega
    · have := ih (by omega) (fun i hi => h i (by omega)); have := h n (by omega); omega
theorem zs_const (c : Int) : ∀ n, mSum n (fun _ => c) = c * n := by
  intro n
  induction n with
  | zero => simp [mSum]
  | succ n ih => unfold mSum; rw [ih]; grind
theorem lU_sum {F T : Nat → Nat} {t : Nat → Int} {n k : Nat} (hF : F k < n) (hT : T k < n) : mSum n (fun v => t v * lU F T k v) = t (F k) - t (T k) := by
  have e : mSum n (fun v => t v * lU F T k v) = mSum n (fun v => (if v = F k then t v else 0) + (-1) * (if v = T k then t v else 0)) := by
    refine mSum_congr _ (fun v _ => ?_)
    have a : ∀ x : Nat, (if x = v then (1 : Int) else 0) = if v = x then 1 else 0 := by
      intro x
      by_cases z : x = v
      · rw [if_pos z, if_pos z.symm]
      · rw [if_neg z, if_neg (fun y => z y.symm)]
    unfold lU
    rw [a (F k), a (T k)]
    split <;> split <;> grind
  rw [e, mSum_add, mSum_mul, mSum_one n (F k) hF (fun i _ hne => if_neg hne), mSum_one n (T k) hT (fun i _ hne => if_neg hne), if_pos rfl, if_pos rfl]
  grind
def arcS (F T : Nat → Nat) (W t f : Nat → Int) : Nat → Nat → Int
  | 0, _ => 0
  | m + 1, k => arcS F T W t f m (k + 1) + W k * (t (F k) - t (T k)) * (f (F k) - f (T k))
theorem bil {F T : Nat → Nat} {W t f : Nat → Int} {n : Nat} : ∀ m k, (∀ j, k ≤ j → j < k + m → F j < n ∧ T j < n) → mSum n (fun j => f j * mSum n (fun v => t v * lapL F T W m k v j)) = arcS F T W t f m k := by
  intro m
  induction m with
  | zero =>
    intro k _
    refine mSum_zero n (fun j _ => ?_)
    rw [mSum_zero n (fun v _ => by show t v * 0 = 0; grind)]; grind
  | succ m ih =>
    intro k h
    have hk := h k (by omega) (by omega)
    unfold arcS
    rw [← ih (k + 1) (fun j a b => h j (by omega) (by omega))]
    have e : mSum n (fun j => f j * mSum n (fun v => t v * lapL F T W (m + 1) k v j)) = mSum n (fun j => f j * mSum n (fun v => t v * lapL F T W m (k + 1) v j) + (W k * (t (F k) - t (T k))) * (f j * lU F T k j)) := by
      refine mSum_congr _ (fun j _ => ?_)
      have e2 : mSum n (fun v => t v * lapL F T W (m + 1) k v j) = mSum n (fun v => t v * lapL F T W m (k + 1) v j + (W k * lU F T k j) * (t v * lU F T k v)) := by
        refine mSum_congr _ (fun v _ => ?_)
        rw [lapL_s]; grind
      rw [e2, mSum_add, mSum_mul, lU_sum hk.1 hk.2]; grind
    rw [e, mSum_add, mSum_mul, lU_sum hk.1 hk.2]
theorem lU_v (F T : Nat → Nat) (k i : Nat) : lU F T k i = 0 ∨ lU F T k i = 1 ∨ lU F T k i = -1 := by unfold lU; split <;> split <;> simp
theorem lU_np {F T : Nat → Nat} {k v j : Nat} (h : j ≠ v) : lU F T k v * lU F T k j ≤ 0 := by
  unfold lU
  have h' : v ≠ j := fun z => h z.symm
  by_cases c1 : F k = v <;> by_cases c2 : T k = v <;> by_cases c3 : F k = j <;> by_cases c4 : T k = j <;> simp [c1, c2, c3, c4, h, h'] <;> omega
theorem lap_off {F T : Nat → Nat} {W : Nat → Int} {v j : Nat} (h : j ≠ v) : ∀ m k, (∀ i, k ≤ i → i < k + m → 0 ≤ W i) → lapL F T W m k v j ≤ 0 := by
  intro m
  induction m with
  | zero => intro k _; exact Int.le_refl _
  | succ m ih =>
    intro k hw
    rw [lapL_s]
    have h1 := ih (k + 1) (fun i a b => hw i (by omega) (by omega))
    have h2 := lU_np (F := F) (T := T) (k := k) h
    have h3 : W k * (lU F T k v * lU F T k j) ≤ W k * 0 := Int.mul_le_mul_of_nonneg_left h2 (hw k (by omega) (by omega))
    have e : W k * lU F T k v * lU F T k j = W k * (lU F T k v * lU F T k j) := by grind
    omega
theorem lap_bd {F T : Nat → Nat} {W : Nat → Int} {v j : Nat} : ∀ (m k : Nat), (∀ i, k ≤ i → i < k + m → 0 ≤ W i ∧ W i ≤ 9) → - (9 * (m : Int)) ≤ lapL F T W m k v j ∧ lapL F T W m k v j ≤ 9 * m := by
  intro m
  induction m with
  | zero => intro k _; unfold lapL; omega
  | succ m ih =>
    intro k hw
    rw [lapL_s]
    have h1 := ih (k + 1) (fun i a b => hw i (by omega) (by omega))
    have h2 := hw k (by omega) (by omega)
    rcases lU_v F T k v with e | e | e <;> rcases lU_v F T k j with e2 | e2 | e2 <;> rw [e, e2] <;> simp <;> omega
theorem lap_tr {F T : Nat → Nat} {W : Nat → Int} {n : Nat} : ∀ (m k : Nat), (∀ i, k ≤ i → i < k + m → 0 ≤ W i ∧ W i ≤ 9 ∧ F i < n ∧ T i < n) → mSum n (fun v => lapL F T W m k v v) ≤ 18 * m := by
  intro m
  induction m with
  | zero => intro k _; rw [mSum_zero (f := fun v => lapL F T W 0 k v v) n (fun _ _ => rfl)]; omega
  | succ m ih =>
    intro k hw
    have h1 := ih (k + 1) (fun i a b => hw i (by omega) (by omega))
    obtain ⟨w0, w9, hF, hT⟩ := hw k (by omega) (by omega)
    have e : mSum n (fun v => lapL F T W (m + 1) k v v) = mSum n (fun v => lapL F T W m (k + 1) v v + W k * (lU F T k v * lU F T k v)) := by
      refine mSum_congr _ (fun v _ => ?_)
      rw [lapL_s]; grind
    have h2 := lU_sum (t := fun v => lU F T k v) hF hT
    have h3 : lU F T k (F k) - lU F T k (T k) ≤ 2 := by
      have a := lU_v F T k (F k); have b := lU_v F T k (T k); omega
    rw [e, mSum_add, mSum_mul]
    have h4 : mSum n (fun v => lU F T k v * lU F T k v) ≤ 2 := by rw [h2]; exact h3
    have h5 : 0 ≤ mSum n (fun v => lU F T k v * lU F T k v) := zs_nn n (fun v _ => by rcases lU_v F T k v with e | e | e <;> rw [e] <;> decide)
    have h6 : W k * mSum n (fun v => lU F T k v * lU F T k v) ≤ 9 * 2 := Int.mul_le_mul w9 h4 h5 (by decide)
    omega
theorem lap_nn {F T : Nat → Nat} {W : Nat → Int} {v : Nat} : ∀ m k, (∀ i, k ≤ i → i < k + m → 0 ≤ W i) → 0 ≤ lapL F T W m k v v := by
  intro m
  induction m with
  | zero => intro k _; exact Int.le_refl _
  | succ m ih =>
    intro k hw
    rw [lapL_s]
    have h1 := ih (k + 1) (fun i a b => hw i (by omega) (by omega))
    have h2 := hw k (by omega) (by omega)
    rcases lU_v F T k v with e | e | e <;> rw [e] <;> simp <;> omega
/-- row sums -/
theorem lap_row {F T : Nat → Nat} {W : Nat → Int} {n v m k : Nat} (hv : v < n) (h : ∀ j, k ≤ j → j < k + m → F j < n ∧ T j < n) : mSum n (fun j => lapL F T W m k v j) = 0 := by
  have b := bil (W := W) (t := fun u => if u = v then 1 else 0) (f := fun _ => 1) m k h
  have z : ∀ m k, arcS F T W (fun u => if u = v then 1 else 0) (fun _ => 1) m k = 0 := by
    intro m
    induction m with
    | zero => intro k; rfl
    | succ m ih => intro k; unfold arcS; rw [ih]; grind
  rw [z] at b
  rw [← b]
  refine mSum_congr _ (fun j _ => ?_)
  rw [mSum_one n v hv (fun i _ hne => by rw [if_neg hne]; grind), if_pos rfl]; grind
/-- a flow: how much a node can fire -/
theorem arc_ge {F T : Nat → Nat} {W t f : Nat → Int} {i : Nat} : ∀ m k, (∀ j, k ≤ j → j < k + m → 0 ≤ W j ∧ 0 ≤ (t (F j) - t (T j)) * (f (F j) - f (T j))) → k ≤ i → i < k + m → W i * (t (F i) - t (T i)) * (f (F i) - f (T i)) ≤ arcS F T W t f m k := by
  have nn : ∀ m k, (∀ j, k ≤ j → j < k + m → 0 ≤ W j ∧ 0 ≤ (t (F j) - t (T j)) * (f (F j) - f (T j))) → 0 ≤ arcS F T W t f m k := by
    intro m
    induction m with
    | zero => intro k _; exact Int.le_refl _
    | succ m ih =>
      intro k h
      unfold arcS
      have h1 := ih (k + 1) (fun j a b => h j (by omega) (by omega))
      have h2 := h k (by omega) (by omega)
      have h3 := Int.mul_nonneg h2.1 h2.2
      rw [← Int.mul_assoc] at h3
      omega
  intro m
  induction m with
  | zero => intro k _ h1 h2; omega
  | succ m ih =>
    intro k h h1 h2
    unfold arcS
    by_cases e : i = k
    · subst e
      have := nn m (i + 1) (fun j a b => h j (by omega) (by omega))
      omega
    · have := ih (k + 1) (fun j a b => h j (by omega) (by omega)) (by omega) (by omega)
      have h4 := h k (by omega) (by omega)
      have h3 := Int.mul_nonneg h4.1 h4.2
      rw [← Int.mul_assoc] at h3
      omega
/-- chips off the sink -/
def offS (n s : Nat) (l : Nat → Int) : Int := mSum n (fun j => if j = s then 0 else l j)
theorem arc_flow {F T : Nat → Nat} {W t l l' : Nat → Int} {n a s i x u : Nat} (hft : ∀ k, k < a → F k < n ∧ T k < n) (hW : ∀ k, k < a → 1 ≤ W k) (ht : ∀ v, 0 ≤ t v) (hts : t s = 0) (hl : ∀ j, j < n → j ≠ s → 0 ≤ l j) (hl' : ∀ j, j < n → j ≠ s → 0 ≤ l' j) (hr : ∀ j, j < n → l' j = l j - mSum n (fun v => t v * lapL F T W a 0 v j)) (hi : i < a) (hxu : (F i = x ∧ T i = u) ∨ (F i = u ∧ T i = x)) : t x - t u ≤ offS n s l := by
  have o0 : 0 ≤ offS n s l := zs_nn n (fun j hj => by by_cases c : j = s; rw [if_pos c]; exact Int.le_refl _; rw [if_neg c]; exact hl j hj c)
  by_cases c0 : t x ≤ t u
  · omega
  · have hx0 : 0 < t x := by have := ht u; omega
    have b := bil (W := W) (t := t) (f := fun j => if t x ≤ t j then 1 else 0) a 0 (fun j _ hj => hft j (by omega))
    have hge := arc_ge (F := F) (T := T) (W := W) (t := t) (f := fun j => if t x ≤ t j then 1 else 0) (i := i) a 0 (fun j _ hj => by
      refine ⟨by have := hW j (by omega); omega, ?_⟩
      by_cases p1 : t x ≤ t (F j) <;> by_cases p2 : t x ≤ t (T j) <;> simp [p1, p2] <;> omega) (by omega) (by omega)
    have hwi := hW i hi
    have hterm : t x - t u ≤ W i * (t (F i) - t (T i)) * ((if t x ≤ t (F i) then 1 else 0) - (if t x ≤ t (T i) then 1 else 0)) := by
      have hm : 1 * (t x - t u) ≤ W i * (t x - t u) := Int.mul_le_mul_of_nonneg_right hwi (by omega)
      rcases hxu with ⟨e1, e2⟩ | ⟨e1, e2⟩
      · rw [e1, e2, if_pos (Int.le_refl _), if_neg (by omega)]; grind
      · rw [e1, e2, if_pos (Int.le_refl _), if_neg (by omega)]; grind
    have hsum : mSum n (fun j => (if t x ≤ t j then (1 : Int) else 0) * mSum n (fun v => t v * lapL F T W a 0 v j)) ≤ offS n s l := by
      refine zs_le n (fun j hj => ?_)
      have e := hr j hj
      by_cases q : t x ≤ t j
      · have hjs : j ≠ s := fun z => by rw [z, hts] at q; omega
        rw [if_pos q, if_neg hjs]
        have := hl' j hj hjs
        omega
      · rw [if_neg q]
        by_cases z : j = s
        · rw [if_pos z]; omega
        · rw [if_neg z]; have := hl j hj z; omega
    omega
theorem rkN_sub {S S' : Nat → Bool} : ∀ n, (∀ v, v < n → S v = true → S' v = true) → rkN S n ≤ rkN S' n ∧ ((∃ x, x < n ∧ S x = false ∧ S' x = true) → rkN S n < rkN S' n) := by
  intro n
  induction n with
  | zero => intro _; exact ⟨Nat.le_refl _, fun ⟨x, hx, _⟩ => by omega⟩
  | succ n ih =>
    intro h
    obtain ⟨a, b⟩ := ih (fun v hv => h v (by omega))
    rw [rkN_s, rkN_s]
    have hn := h n (by omega)
    refine ⟨?_, fun ⟨x, hx, h1, h2⟩ => ?_⟩
    · cases e1 : S n <;> cases e2 : S' n <;> simp_all
      omega
    · by_cases e : x = n
      · subst e; rw [h1, h2]; simp; omega
      · have := b ⟨x, by omega, h1, h2⟩
        cases e1 : S n <;> cases e2 : S' n <;> simp_all
        omega
theorem rkN_full {S : Nat → Bool} {n : Nat} (h : n ≤ rkN S n) : ∀ v, v < n → S v = true := by
  intro v hv
  cases e : S v with
  | true => rfl
  | false => have := rkN_nt2 e n hv; omega
/-- firings are bounded by the chips -/
theorem fire_bd {F T : Nat → Nat} {W t l l' : Nat → Int} {n a s : Nat} (hft : ∀ k, k < a → F k < n ∧ T k < n) (hW : ∀ k, k < a → 1 ≤ W k) (hs : s < n) (hcon : ∀ h : Nat → Nat, (∀ j, j < a → h (F j) = h (T j)) → ∀ u v, u < n → v < n → h u = h v) (ht : ∀ v, 0 ≤ t v) (hts : t s = 0) (hl : ∀ j, j < n → j ≠ s → 0 ≤ l j) (hl' : ∀ j, j < n → j ≠ s → 0 ≤ l' j) (hr : ∀ j, j < n → l' j = l j - mSum n (fun v => t v * lapL F T W a 0 v j)) : ∀ v, v < n → t v ≤ (n - 1 : Nat) * offS n s l := by
  have o0 : 0 ≤ offS n s l := zs_nn n (fun j hj => by by_cases c : j = s; rw [if_pos c]; exact Int.le_refl _; rw [if_neg c]; exact hl j hj c)
  have key : ∀ k, k + 1 ≤ n → k + 1 ≤ rkN (fun v => decide (t v ≤ k * offS n s l)) n := by
    intro k
    induction k with
    | zero =>
      intro _
      have h1 := rkN_lt (al := fun v => decide (t v ≤ (0 : Nat) * offS n s l)) hs (by simp [hts])
      omega
    | succ k ih =>
      intro hk
      have ih1 := ih (by omega)
      have hmono : ∀ v, v < n → decide (t v ≤ (k : Nat) * offS n s l) = true → decide (t v ≤ (k + 1 : Nat) * offS n s l) = true := by
        intro v _ h
        rw [decide_eq_true_iff] at h ⊢
        have : ((k + 1 : Nat) : Int) * offS n s l = k * offS n s l + offS n s l := by grind
        omega
      obtain ⟨s1, s2⟩ := rkN_sub n hmono
      by_cases full : ∀ v, v < n → decide (t v ≤ (k : Nat) * offS n s l) = true
      · have := (rkN_all n full).1
        omega
      · -- an arc across
        obtain ⟨j, hj, hne⟩ : ∃ j, j < a ∧ (decide (t (F j) ≤ (k : Nat) * offS n s l)) ≠ (decide (t (T j) ≤ (k : Nat) * offS n s l)) := by
          false_or_by_contra
          rename_i hc
          apply full
          intro v hv
          have := hcon (fun u => if t u ≤ (k : Nat) * offS n s l then 1 else 0) (fun j hj => by
            have : decide (t (F j) ≤ (k : Nat) * offS n s l) = decide (t (T j) ≤ (k : Nat) * offS n s l) := by
              false_or_by_contra
              rename_i hx
              exact hc ⟨j, hj, hx⟩
            by_cases p : t (F j) ≤ (k : Nat) * offS n s l
            · rw [if_pos p, if_pos (by rw [decide_eq_true p] at this; exact of_decide_eq_true this.symm)]
            · rw [if_neg p, if_neg (by rw [decide_eq_false p] at this; exact of_decide_eq_false this.symm)]) v s hv hs
          rw [if_pos (show t s ≤ (k : Nat) * offS n s l by rw [hts]; exact Int.mul_nonneg (by omega) o0)] at this
          by_cases p : t v ≤ (k : Nat) * offS n s l
          · exact decide_eq_true p
          · rw [if_neg p] at this; omega
        have hj2 := hft j hj
        have e1 : ((k + 1 : Nat) : Int) * offS n s l = k * offS n s l + offS n s l := by grind
        have : rkN (fun v => decide (t v ≤ (k : Nat) * offS n s l)) n < rkN (fun v => decide (t v ≤ (k + 1 : Nat) * offS n s l)) n := by
          apply s2
          by_cases p : t (F j) ≤ (k : Nat) * offS n s l
          · have p2 : ¬ t (T j) ≤ (k : Nat) * offS n s l := fun q => hne (by rw [decide_eq_true p, decide_eq_true q])
            have := arc_flow (x := T j) (u := F j) hft hW ht hts hl hl' hr hj (Or.inr ⟨rfl, rfl⟩)
            exact ⟨T j, hj2.2, decide_eq_false p2, decide_eq_true (by omega)⟩
          · have p2 : t (T j) ≤ (k : Nat) * offS n s l := by
              false_or_by_contra
              rename_i q
              exact hne (by rw [decide_eq_false p, decide_eq_false q])
            have := arc_flow (x := F j) (u := T j) hft hW ht hts hl hl' hr hj (Or.inl ⟨rfl, rfl⟩)
            exact ⟨F j, hj2.1, decide_eq_false p, decide_eq_true (by omega)⟩
        omega
  intro v hv
  have := key (n - 1) (by omega)
  have := rkN_full (n := n) (S := fun v => decide (t v ≤ (n - 1 : Nat) * offS n s l)) (by omega) v hv
  exact of_decide_eq_true this
