theorem prd_put {k : Nat} (f : Nat → Int) (j : Nat) (hj : k ≤ j) (v : Int) : prd k (fun i => if i = j then v else f i) = prd k f := by
  induction k with
  | zero => rfl
  | succ k ih => unfold prd; rw [ih (by omega)]; simp only [if_neg (show ¬ k = j by omega)]
theorem Dv_exp {m k : Nat} {r : Nat → Int} (hr : ∀ a b, a ≤ b → b < m → r a ∣ r b) (U Z : Nat → Nat → Int) : ∀ (g j : Nat) (c : Nat → Nat), j + g = k → (∀ i, i < j → c i < m) → prd k r ∣ prd j (fun i => r (c i)) * mDet k (fun p q => if p < j then Z (c p) q else mSum m (fun t => (U p t * r t) * Z t q)) := by
  intro g
  induction g with
  | zero =>
    intro j c hj hc
    obtain rfl : j = k := by omega
    by_cases e : ∃ a b, a < j ∧ b < j ∧ c a = c b ∧ a ≠ b
    · obtain ⟨a, b, ha, hb, hab, hne⟩ := e
      rw [mDet_same ha hb hne _ (fun q _ => by simp only [if_pos ha, if_pos hb, hab])]
      exact ⟨0, by simp⟩
    · have := prd_inj m hr j c hc (fun a b ha hb q => by
        by_cases n : a = b
        · exact n
        · exact absurd ⟨a, b, ha, hb, q, n⟩ e)
      exact Int.dvd_trans this.2 ⟨_, rfl⟩
  | succ g ih =>
    intro j c hj hc
    have e1 : mDet k (fun p q => if p < j then Z (c p) q else mSum m (fun t => (U p t * r t) * Z t q)) = mSum m (fun t => (U j t * r t) * mDet k (mPut (fun p q => if p < j then Z (c p) q else mSum m (fun t => (U p t * r t) * Z t q)) j (Z t))) := by
      rw [← mDet_sumrow (by omega : j < k)]
      refine mDet_congr k _ _ (fun p q _ _ => ?_)
      by_cases n : p = j
      · subst n; rw [mPut_s, if_neg (by omega)]
      · rw [mPut_n n]
    rw [e1, ← mSum_mul]
    refine mSum_dvd m (fun t ht => ?_)
    have := ih (j + 1) (fun i => if i = j then t else c i) (by omega) (fun i hi => by
      show (if i = j then t else c i) < m
      by_cases n : i = j
      · rw [if_pos n]; exact ht
      · rw [if_neg n]; exact hc i (by omega))
    have e2 : prd (j + 1) (fun i => r (if i = j then t else c i)) = prd j (fun i => r (c i)) * r t := by
      show prd j (fun i => r (if i = j then t else c i)) * r (if j = j then t else c j) = _
      rw [if_pos rfl]
      have : (fun i => r (if i = j then t else c i)) = (fun i => if i = j then r t else r (c i)) := by
        funext i; split <;> rfl
      rw [this, prd_put (fun i => r (c i)) j (Nat.le_refl _)]
    rw [e2, mDet_congr k _ (mPut (fun p q => if p < j then Z (c p) q else mSum m (fun t => (U p t * r t) * Z t q)) j (Z t)) (fun p q _ _ => by
      by_cases n : p = j
      · subst n; rw [mPut_s]; simp only [if_pos (Nat.lt_succ_self _), if_true]
      · rw [mPut_n n]
        by_cases n2 : p < j
        · simp only [if_pos n2, if_pos (show p < j + 1 by omega), if_neg n]
        · simp only [if_neg n2, if_neg (show ¬ p < j + 1 by omega)])] at this
    obtain ⟨z, hz⟩ := this
    exact ⟨U j t * z, by grind⟩
theorem mSum_app (f : Nat → Int) (s : Nat) : ∀ k, mSum (s + k) f = mSum s f + mSum k (fun i => f (s + i)) := by
  intro k
  induction k with
  | zero => simp [mSum]
  | succ k ih =>
    show mSum (s + k) f + f (s + k) = mSum s f + (mSum k (fun i => f (s + i)) + f (s + k))
    rw [ih]; omega
theorem bilS_dg (s : Nat) (p u v : Nat → Int) : bilS s (dgM p) u v = mSum s (fun i => u i * (p i * v i)) := by
  unfold bilS
  refine mSum_congr s (fun i hi => ?_)
  rw [mSum_one s i hi (fun j _ hn => by simp only [dgM, if_neg (fun e => hn (Eq.symm e))]; simp)]
  simp only [dgM, if_true]
/-- a chain on a diagonal -/
def Chn (s : Nat) (d : Int) (p r : Nat → Int) : Prop := (∀ i, i < s → r i ∣ p i ∧ r i ∣ d ∧ 0 < r i ∧ ∃ α β : Int, r i = α * p i + β * d) ∧ (∀ a b, a ≤ b → b < s → r a ∣ r b)
theorem Chn.dv {s : Nat} {d : Int} {p r : Nat → Int} (h : Chn s d p r) {k : Nat} (hk : k ≤ s) : Dv s d k (prd k r) (dgM p) := by
  intro P X Y
  have key := Dv_exp (m := s + k) (k := k) (r := fun t => if t < s then r t else d) (fun a b hab hb => by
      show (if a < s then r a else d) ∣ (if b < s then r b else d)
      by_cases c : b < s
      · rw [if_pos c, if_pos (show a < s by omega)]; exact h.2 a b hab c
      · rw [if_neg c]
        by_cases c2 : a < s
        · rw [if_pos c2]; exact (h.1 a c2).2.1
        · rw [if_neg c2]; exact Int.dvd_refl d)
    (fun i t => if t < s then P i t else if t - s = i then 1 else 0) (fun t j => if t < s then p t / r t * X j t else Y (t - s) j) k 0 (fun _ => 0) (by omega) (fun i hi => absurd hi (by omega))
  have e0 : prd k (fun t => if t < s then r t else d) = prd k r := by
    have : ∀ m, m ≤ k → prd m (fun t => if t < s then r t else d) = prd m r := by
      intro m
      induction m with
      | zero => intro _; rfl
      | succ m ih => intro hm; unfold prd; rw [ih (by omega)]; simp only [if_pos (show m < s by omega)]
    exact this k (Nat.le_refl _)
  rw [e0] at key
  have e1 : prd 0 (fun i => (fun t => if t < s then r t else d) ((fun _ => 0 : Nat → Nat) i)) = 1 := rfl
  rw [e1, Int.one_mul] at key
  refine Int.dvd_trans key ?_
  rw [mDet_congr k _ (fun i j => bilS s (dgM p) (P i) (X j) + d * Y i j) (fun a b ha hb => ?_)]
  · exact Int.dvd_refl _
  · simp only [Nat.not_lt_zero, if_false]
    rw [mSum_app, bilS_dg]
    congr 1
    · refine mSum_congr s (fun i hi => ?_)
      simp only [if_pos hi]
      have := Int.mul_ediv_cancel' (h.1 i hi).1
      grind
    · rw [mSum_one k a ha (fun i _ hn => by simp only [if_neg (show ¬ s + i < s by omega), Nat.add_sub_cancel_left, if_neg hn]; simp)]
      simp only [if_neg (show ¬ s + a < s by omega), Nat.add_sub_cancel_left, if_true]
      grind
theorem Chn.le {s : Nat} {d : Int} {p r : Nat → Int} (h : Chn s d p r) {k : Nat} {q : Int} (hk : k ≤ s) (H : Dv s d k q (dgM p)) : q ∣ prd k r := by
  have hc : ∃ α β : Nat → Int, ∀ i, i < s → r i = α i * p i + β i * d := by
    have : ∀ i, ∃ ab : Int × Int, i < s → r i = ab.1 * p i + ab.2 * d := fun i => by
      by_cases c : i < s
      · obtain ⟨α, β, e⟩ := (h.1 i c).2.2.2
        exact ⟨(α, β), fun _ => e⟩
      · exact ⟨(0, 0), fun q => absurd q c⟩
    exact ⟨fun i => (Classical.choose (this i)).1, fun i => (Classical.choose (this i)).2, fun i => Classical.choose_spec (this i)⟩
  obtain ⟨α, β, e⟩ := hc
  have := H (fun i t => if t = i then 1 else 0) (fun j t => if t = j then α j else 0) (fun i j => if i = j then β j else 0)
  rw [← mDet_dg]
  rw [mDet_congr k _ (dgM r) (fun a b ha hb => ?_)] at this
  · exact this
  · rw [bilS_dg, mSum_one s a (by omega) (fun i _ hn => by simp only [if_neg hn]; simp)]
    simp only [if_true, dgM]
    by_cases c : a = b
    · subst c; simp only [if_true]; rw [e a (by omega)]; grind
    · simp only [if_neg c]; simp
theorem prd_pos {r : Nat → Int} : ∀ k, (∀ i, i < k → 0 < r i) → 0 < prd k r := by
  intro k
  induction k with
  | zero => intro _; exact Int.zero_lt_one
  | succ k ih => intro h; exact Int.mul_pos (ih (fun i hi => h i (by omega))) (h k (by omega))
theorem chain_uniq {s : Nat} {d : Int} {p p' r r' : Nat → Int} (h : Chn s d p r) (h' : Chn s d p' r') (e : EqD s d (dgM p) (dgM p')) : ∀ i, i < s → r i = r' i := by
  have eqk : ∀ k, k ≤ s → prd k r = prd k r' := fun k hk => by
    have h1 := h'.le hk ((e k _).mp (h.dv hk))
    have h2 := h.le hk ((e k _).mpr (h'.dv hk))
    have p1 := prd_pos k (fun i hi => (h.1 i (by omega)).2.2.1)
    have p2 := prd_pos k (fun i hi => (h'.1 i (by omega)).2.2.1)
    have := Int.le_of_dvd p2 h1
    have := Int.le_of_dvd p1 h2
    omega
  intro i hi
  have a1 := eqk i (by omega)
  have a2 := eqk (i + 1) (by omega)
  have p2 := prd_pos i (fun j hj => (h'.1 j (by omega)).2.2.1)
  have a3 : prd i r * r i = prd i r' * r' i := a2
  rw [a1] at a3
  exact Int.eq_of_mul_eq_mul_left (by omega) a3
