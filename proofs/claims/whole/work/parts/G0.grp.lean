/-- the lattice of a matrix modulo d: what divides all its minors -/
def bilS (s : Nat) (A : Nat → Nat → Int) (u v : Nat → Int) : Int := mSum s (fun p => u p * mSum s (fun c => A p c * v c))
def Dv (s : Nat) (d : Int) (k : Nat) (q : Int) (A : Nat → Nat → Int) : Prop := ∀ (P X Y : Nat → Nat → Int), q ∣ mDet k (fun i j => bilS s A (P i) (X j) + d * Y i j)
def EqD (s : Nat) (d : Int) (A B : Nat → Nat → Int) : Prop := ∀ k q, Dv s d k q A ↔ Dv s d k q B
theorem EqD.rf {s : Nat} {d : Int} (A : Nat → Nat → Int) : EqD s d A A := fun _ _ => Iff.rfl
theorem EqD.sy {s : Nat} {d : Int} {A B : Nat → Nat → Int} (h : EqD s d A B) : EqD s d B A := fun k q => (h k q).symm
theorem EqD.tr {s : Nat} {d : Int} {A B C : Nat → Nat → Int} (h : EqD s d A B) (g : EqD s d B C) : EqD s d A C := fun k q => (h k q).trans (g k q)
theorem Dv.map {s : Nat} {d : Int} {k : Nat} {q : Int} {A B : Nat → Nat → Int} (f g : (Nat → Int) → Nat → Int) (h : (Nat → Int) → (Nat → Int) → Int) (e : ∀ u v, bilS s B u v = bilS s A (f u) (g v) + d * h u v) (H : Dv s d k q A) : Dv s d k q B := by
  intro P X Y
  have := H (fun i => f (P i)) (fun j => g (X j)) (fun i j => h (P i) (X j) + Y i j)
  rw [mDet_congr k _ (fun i j => bilS s B (P i) (X j) + d * Y i j) (fun p q _ _ => by rw [e]; grind)] at this
  exact this
theorem mSum_comm (f : Nat → Nat → Int) : ∀ m n, mSum m (fun i => mSum n (fun j => f i j)) = mSum n (fun j => mSum m (fun i => f i j)) := by
  intro m
  induction m with
  | zero => intro n; exact (mSum_zero n (fun j _ => rfl)).symm
  | succ m ih =>
    intro n
    show mSum m (fun i => mSum n (fun j => f i j)) + mSum n (fun j => f m j) = mSum n (fun j => mSum m (fun i => f i j) + f m j)
    rw [ih, mSum_add]
theorem bilS_tp (s : Nat) (A : Nat → Nat → Int) (u v : Nat → Int) : bilS s (fun p q => A q p) u v = bilS s A v u := by
  unfold bilS
  have e1 : mSum s (fun p => u p * mSum s (fun c => A c p * v c)) = mSum s (fun p => mSum s (fun c => u p * (A c p * v c))) := mSum_congr s (fun i _ => (mSum_mul _ _ s).symm)
  have e2 : mSum s (fun p => v p * mSum s (fun c => A p c * u c)) = mSum s (fun p => mSum s (fun c => v p * (A p c * u c))) := mSum_congr s (fun i _ => (mSum_mul _ _ s).symm)
  rw [e1, e2, mSum_comm]
  exact mSum_congr s (fun i _ => mSum_congr s (fun j _ => by grind))
theorem Dv.tp {s : Nat} {d : Int} {k : Nat} {q : Int} {A : Nat → Nat → Int} (H : Dv s d k q A) : Dv s d k q (fun p q => A q p) := by
  intro P X Y
  have := H X P (fun i j => Y j i)
  rw [← mDet_tr] at this
  rw [mDet_congr k _ (fun i j => bilS s (fun p q => A q p) (P i) (X j) + d * Y i j) (fun p q _ _ => by rw [bilS_tp])] at this
  exact this
theorem EqD.tp {s : Nat} {d : Int} (A : Nat → Nat → Int) : EqD s d A (fun p q => A q p) := fun _ _ => ⟨fun h => h.tp, fun h => h.tp⟩
theorem EqD.tt {s : Nat} {d : Int} {A B : Nat → Nat → Int} (h : EqD s d A B) : EqD s d (fun p q => A q p) (fun p q => B q p) := ((EqD.tp A).sy.tr h).tr (EqD.tp B)
theorem bilS_add (s : Nat) (d : Int) (A E : Nat → Nat → Int) (u v : Nat → Int) : bilS s (fun p c => A p c + d * E p c) u v = bilS s A u v + d * bilS s E u v := by
  unfold bilS
  rw [← mSum_mul, ← mSum_add]
  refine mSum_congr s (fun i _ => ?_)
  have : mSum s (fun c => (A i c + d * E i c) * v c) = mSum s (fun c => A i c * v c) + d * mSum s (fun c => E i c * v c) := by
    rw [← mSum_mul, ← mSum_add]
    exact mSum_congr s (fun j _ => by grind)
  rw [this]; grind
theorem bilS_congr {s : Nat} {A B : Nat → Nat → Int} (h : ∀ p c, p < s → c < s → A p c = B p c) (u v : Nat → Int) : bilS s A u v = bilS s B u v := mSum_congr s (fun i hi => by rw [mSum_congr s (fun j hj => by rw [h i j hi hj])])
theorem Dv.cg {s : Nat} {d : Int} {k : Nat} {q : Int} {A B : Nat → Nat → Int} (h : ∀ p c, p < s → c < s → d ∣ B p c - A p c) (H : Dv s d k q A) : Dv s d k q B := by
  refine Dv.map (fun u => u) (fun v => v) (bilS s (fun p c => (B p c - A p c) / d)) (fun u v => ?_) H
  rw [← bilS_add]
  refine bilS_congr (fun p c hp hc => ?_) u v
  have := Int.mul_ediv_cancel' (h p c hp hc)
  omega
theorem EqD.cg {s : Nat} {d : Int} {A B : Nat → Nat → Int} (h : ∀ p c, p < s → c < s → d ∣ B p c - A p c) : EqD s d A B := fun _ _ => ⟨Dv.cg h, Dv.cg (fun p c hp hc => by
  have := Int.dvd_neg.mpr (h p c hp hc)
  rwa [show -(B p c - A p c) = A p c - B p c by omega] at this)⟩
theorem EqD.eq {s : Nat} {d : Int} {A B : Nat → Nat → Int} (h : ∀ p c, p < s → c < s → A p c = B p c) : EqD s d A B := EqD.cg (fun p c hp hc => by rw [h p c hp hc]; simp)
theorem mSum_pr2 {f g : Nat → Int} {x y : Nat} (hne : x ≠ y) : ∀ s, x < s → y < s → (∀ i, i < s → i ≠ x → i ≠ y → f i = g i) → f x + f y = g x + g y → mSum s f = mSum s g := by
  have one : ∀ x s (f g : Nat → Int), x < s → (∀ i, i < s → i ≠ x → f i = g i) → mSum s f = mSum s g + (f x - g x) := by
    intro x s
    induction s with
    | zero => intro f g h; omega
    | succ s ih =>
      intro f g h e
      unfold mSum
      by_cases c : x = s
      · subst c; rw [mSum_congr x (fun i hi => e i (by omega) (by omega))]; omega
      · rw [ih f g (by omega) (fun i hi hn => e i (by omega) hn), e s (by omega) (fun q => c q.symm)]; omega
  intro s hx hy e h
  have h1 := one x s f (fun i => if i = y then f y else g i) hx (fun i hi hn => by
    show f i = _
    by_cases c : i = y
    · rw [if_pos c, c]
    · rw [if_neg c]; exact e i hi hn c)
  have h2 := one y s (fun i => if i = y then f y else g i) g hy (fun i hi hn => if_neg hn)
  simp only [if_neg hne, if_true] at h1 h2
  omega
/-- two rows mixed -/
def r2M (x y : Nat) (α β γ δ : Int) (A : Nat → Nat → Int) : Nat → Nat → Int := fun p c => if p = x then α * A x c + β * A y c else if p = y then γ * A x c + δ * A y c else A p c
theorem bilS_r2 {s x y : Nat} (hx : x < s) (hy : y < s) (hne : x ≠ y) (α β γ δ : Int) (A : Nat → Nat → Int) (u v : Nat → Int) : bilS s (r2M x y α β γ δ A) u v = bilS s A (fun p => if p = x then α * u x + γ * u y else if p = y then β * u x + δ * u y else u p) v := by
  unfold bilS
  refine mSum_pr2 hne s hx hy (fun i hi n1 n2 => ?_) ?_
  · simp only [r2M, if_neg n1, if_neg n2]
  · have hyx : ¬ y = x := fun q => hne q.symm
    have e1 : mSum s (fun c => r2M x y α β γ δ A x c * v c) = α * mSum s (fun c => A x c * v c) + β * mSum s (fun c => A y c * v c) := by
      rw [← mSum_mul, ← mSum_mul, ← mSum_add]
      exact mSum_congr s (fun j _ => by simp only [r2M, if_true]; grind)
    have e2 : mSum s (fun c => r2M x y α β γ δ A y c * v c) = γ * mSum s (fun c => A x c * v c) + δ * mSum s (fun c => A y c * v c) := by
      rw [← mSum_mul, ← mSum_mul, ← mSum_add]
      exact mSum_congr s (fun j _ => by simp only [r2M, if_true, if_neg hyx]; grind)
    rw [e1, e2]
    simp only [if_true, if_neg hyx]
    grind
theorem Dv.r2 {s : Nat} {d : Int} {k : Nat} {q : Int} {A : Nat → Nat → Int} {x y : Nat} (hx : x < s) (hy : y < s) (hne : x ≠ y) (α β γ δ : Int) (H : Dv s d k q A) : Dv s d k q (r2M x y α β γ δ A) :=
  Dv.map (fun u p => if p = x then α * u x + γ * u y else if p = y then β * u x + δ * u y else u p) (fun v => v) (fun _ _ => 0) (fun u v => by rw [bilS_r2 hx hy hne]; simp) H
theorem EqD.r2e {s : Nat} {d : Int} {A : Nat → Nat → Int} {x y : Nat} (hx : x < s) (hy : y < s) (hne : x ≠ y) {α β γ δ e : Int} (he : e * (α * δ - β * γ) = 1) : EqD s d A (r2M x y α β γ δ A) := fun k q => ⟨fun h => h.r2 hx hy hne _ _ _ _, fun h => by
  have := h.r2 hx hy hne (e * δ) (- (e * β)) (- (e * γ)) (e * α)
  refine Dv.cg (fun p c hp hc => ?_) this
  have hyx : ¬ y = x := fun q => hne q.symm
  by_cases c1 : p = x
  · subst c1; simp only [r2M, if_true, if_neg hyx]
    have : A p c - (e * δ * (α * A p c + β * A y c) + -(e * β) * (γ * A p c + δ * A y c)) = (1 - e * (α * δ - β * γ)) * A p c := by grind
    rw [this, he]; simp
  by_cases c2 : p = y
  · subst c2; simp only [r2M, if_true, if_neg hyx]
    have : A p c - (-(e * γ) * (α * A x c + β * A p c) + e * α * (γ * A x c + δ * A p c)) = (1 - e * (α * δ - β * γ)) * A p c := by grind
    rw [this, he]; simp
  · simp only [r2M, if_neg c1, if_neg c2]; simp⟩
theorem EqD.r2 {s : Nat} {d : Int} {A B : Nat → Nat → Int} {x y : Nat} (hx : x < s) (hy : y < s) (hne : x ≠ y) {α β γ δ : Int} (he : α * δ - β * γ = 1 ∨ α * δ - β * γ = -1) (h : ∀ p c, p < s → c < s → d ∣ B p c - r2M x y α β γ δ A p c) : EqD s d A B := by
  rcases he with q | q
  · exact (EqD.r2e hx hy hne (e := 1) (by rw [q]; rfl)).tr (EqD.cg h)
  · exact (EqD.r2e hx hy hne (e := -1) (by rw [q]; rfl)).tr (EqD.cg h)
theorem EqD.c2 {s : Nat} {d : Int} {A B : Nat → Nat → Int} {x y : Nat} (hx : x < s) (hy : y < s) (hne : x ≠ y) {α β γ δ : Int} (he : α * δ - β * γ = 1 ∨ α * δ - β * γ = -1) (h : ∀ p c, p < s → c < s → d ∣ B p c - r2M x y α β γ δ (fun p q => A q p) c p) : EqD s d A B :=
  ((EqD.tp A).tr (EqD.r2 (B := fun p q => B q p) hx hy hne he (fun p c hp hc => h c p hc hp))).tr (EqD.tp _).sy
/-- diagonals, products, chains -/
def dgM (p : Nat → Int) : Nat → Nat → Int := fun i j => if i = j then p i else 0
def prd : Nat → (Nat → Int) → Int
  | 0, _ => 1
  | n + 1, f => prd n f * f n
theorem prd_sk : ∀ (k x : Nat) (f : Nat → Int), x < k + 1 → prd (k + 1) f = f x * prd k (fun i => f (mSk x i)) := by
  intro k
  induction k with
  | zero => intro x f hx; obtain rfl : x = 0 := by omega
            simp [prd]
  | succ k ih =>
    intro x f hx
    by_cases c : x = k + 1
    · subst c
      have : ∀ m, m ≤ k + 1 → prd m (fun i => f (mSk (k + 1) i)) = prd m f := by
        intro m
        induction m with
        | zero => intro _; rfl
        | succ m im => intro hm; unfold prd; rw [im (by omega)]; simp only [mSk, if_pos (show m < k + 1 by omega)]
      rw [this _ (Nat.le_refl _)]
      show prd (k + 1) f * f (k + 1) = _
      rw [Int.mul_comm]
    · show prd (k + 1) f * f (k + 1) = _
      rw [ih x f (by omega)]
      show _ = f x * (prd k (fun i => f (mSk x i)) * f (mSk x k))
      have : mSk x k = k + 1 := by unfold mSk; rw [if_neg (by omega)]
      rw [this]; grind
theorem mSk_inj {x i j : Nat} (h : mSk x i = mSk x j) : i = j := by unfold mSk at h; split at h <;> split at h <;> omega
theorem prd_inj {r : Nat → Int} : ∀ (m : Nat), (∀ a b, a ≤ b → b < m → r a ∣ r b) → ∀ (k : Nat) (c : Nat → Nat), (∀ i, i < k → c i < m) → (∀ i j, i < k → j < k → c i = c j → i = j) → k ≤ m ∧ prd k r ∣ prd k (fun i => r (c i)) := by
  intro m
  induction m with
  | zero =>
    intro _ k c h1 _
    have : k = 0 := by
      rcases Nat.eq_zero_or_pos k with q | q
      · exact q
      · exact absurd (h1 0 q) (by omega)
    subst this
    exact ⟨Nat.le_refl _, Int.dvd_refl _⟩
  | succ m ih =>
    intro hr k c h1 h2
    by_cases e : ∃ x, x < k ∧ c x = m
    · obtain ⟨x, hx, hc⟩ := e
      obtain ⟨k, rfl⟩ : ∃ k', k = k' + 1 := ⟨k - 1, by omega⟩
      have := ih (fun a b h h' => hr a b h (by omega)) k (fun i => c (mSk x i)) (fun i hi => by
        have a1 := h1 (mSk x i) (mSk_lt hi)
        have a2 : c (mSk x i) ≠ m := fun q => mSk_ne x i (h2 _ _ (mSk_lt hi) hx (q.trans hc.symm))
        show c (mSk x i) < m
        omega) (fun i j hi hj q => mSk_inj (h2 _ _ (mSk_lt hi) (mSk_lt hj) q))
      refine ⟨by omega, ?_⟩
      rw [prd_sk k x (fun i => r (c i)) hx, hc]
      show prd k r * r k ∣ _
      rw [Int.mul_comm]
      exact Int.mul_dvd_mul (hr k m (by omega) (by omega)) this.2
    · have := ih (fun a b h h' => hr a b h (by omega)) k c (fun i hi => by
        have a1 := h1 i hi
        have a2 : c i ≠ m := fun q => e ⟨i, hi, q⟩
        omega) h2
      exact ⟨by omega, this.2⟩
theorem mDet_dg : ∀ (k : Nat) (r : Nat → Int), mDet k (dgM r) = prd k r := by
  intro k
  induction k with
  | zero => intro r; rfl
  | succ k ih =>
    intro r
    rw [mDet_unit k k k (dgM r) (by omega) (by omega) (fun q hq hn => if_neg (fun e => hn e.symm))]
    rw [mDet_congr k _ (dgM r) (fun p q hp hq => by simp only [mSk, if_pos hp, if_pos hq]), ih]
    show _ = prd k r * r k
    have : (mSg (k + k) : Int) = 1 := by unfold mSg; rw [if_pos (by omega)]
    rw [this]
    simp only [dgM, if_true]; grind
theorem mSum_dvd {q : Int} {f : Nat → Int} : ∀ n, (∀ i, i < n → q ∣ f i) → q ∣ mSum n f := by
  intro n
  induction n with
  | zero => intro _; exact ⟨0, by simp [mSum]⟩
  | succ n ih => intro h; exact Int.dvd_add (ih (fun i hi => h i (by omega))) (h n (by omega))
theorem mDet_sumrow {k j : Nat} (hj : j < k) (M : Nat → Nat → Int) (a : Nat → Int) (Z : Nat → Nat → Int) : ∀ m, mDet k (mPut M j (fun q => mSum m (fun t => a t * Z t q))) = mSum m (fun t => a t * mDet k (mPut M j (Z t))) := by
  intro m
  induction m with
  | zero => exact mDet_zrow hj _ (fun q _ => by rw [mPut_s]; rfl)
  | succ m ih =>
    have := mDet_put hj (a m) M (fun q => mSum m (fun t => a t * Z t q)) (Z m)
    unfold mSum
    rw [this, ih]
