/-- the reference's steps on the matrix -/
def mI (M : Nat → Nat → Int64) : Nat → Nat → Int := fun i j => (M i j).toInt
def hM (A : Nat → Nat → Int) : Nat → Nat → Int := fun i j => if i = 0 then (if j = 0 then 1 else 0) else if j = 0 then 0 else A (i - 1) (j - 1)
theorem hM_r2 (x y : Nat) (α β γ δ : Int) (A : Nat → Nat → Int) (i j : Nat) : hM (r2M x y α β γ δ A) i j = r2M (x + 1) (y + 1) α β γ δ (hM A) i j := by
  cases i with
  | zero => simp [hM, r2M]
  | succ i => cases j with
    | zero => simp [hM, r2M]
    | succ j => simp [hM, r2M]
theorem hM_tp (A : Nat → Nat → Int) (i j : Nat) : hM (fun p q => A q p) i j = hM A j i := by
  cases i <;> cases j <;> simp [hM]
theorem hM_sub {s : Nat} {d : Int} {A B : Nat → Nat → Int} (h : ∀ p c, p < s → c < s → d ∣ B p c - A p c) : ∀ p c, p < s + 1 → c < s + 1 → d ∣ hM B p c - hM A p c := by
  intro p c hp hc
  cases p with
  | zero => simp [hM]
  | succ p => cases c with
    | zero => simp [hM]
    | succ c => simp only [hM, Nat.add_one_ne_zero, if_false, Nat.add_sub_cancel]; exact h p c (by omega) (by omega)
theorem EqD.hr2 {s : Nat} {d : Int} {A B : Nat → Nat → Int} {x y : Nat} (hx : x < s) (hy : y < s) (hne : x ≠ y) {α β γ δ : Int} (he : α * δ - β * γ = 1 ∨ α * δ - β * γ = -1) (h : ∀ p c, p < s → c < s → d ∣ B p c - r2M x y α β γ δ A p c) : EqD (s + 1) d (hM A) (hM B) :=
  EqD.r2 (x := x + 1) (y := y + 1) (by omega) (by omega) (by omega) he (fun p c hp hc => by rw [← hM_r2]; exact hM_sub h p c hp hc)
theorem EqD.hc2 {s : Nat} {d : Int} {A B : Nat → Nat → Int} {x y : Nat} (hx : x < s) (hy : y < s) (hne : x ≠ y) {α β γ δ : Int} (he : α * δ - β * γ = 1 ∨ α * δ - β * γ = -1) (h : ∀ p c, p < s → c < s → d ∣ B p c - r2M x y α β γ δ (fun p q => A q p) c p) : EqD (s + 1) d (hM A) (hM B) := by
  have h1 := EqD.hr2 (d := d) (A := fun p q => A q p) (B := fun p q => B q p) hx hy hne he (fun p c hp hc => h c p hc hp)
  have h2 : EqD (s + 1) d (hM A) (hM (fun p q => A q p)) := (EqD.tp (hM A)).tr (EqD.eq (fun p c _ _ => (hM_tp A p c).symm))
  have h3 : EqD (s + 1) d (hM B) (hM (fun p q => B q p)) := (EqD.tp (hM B)).tr (EqD.eq (fun p c _ _ => (hM_tp B p c).symm))
  exact (h2.tr h1).tr h3.sy
theorem rg_eq {d : Int} {s : Nat} {M M' : Nat → Nat → Int64} (h : mRg d s M) (h' : mRg d s M') {i j : Nat} (hi : i < s) (hj : j < s) (e : d ∣ (M' i j).toInt - (M i j).toInt) : M' i j = M i j := by
  have a := h i j hi hj
  have b := h' i j hi hj
  have : (M' i j).toInt = (M i j).toInt := by
    have e2 := Int.emod_eq_zero_of_dvd e
    have e3 : (M' i j).toInt % d = (M i j).toInt % d := Int.emod_eq_emod_iff_emod_sub_eq_zero.mpr e2
    rwa [Int.emod_eq_of_lt b.1 b.2, Int.emod_eq_of_lt a.1 a.2] at e3
  exact Int64.toInt_inj.mp this
def Zt (s t : Nat) (M : Nat → Nat → Int64) : Prop := ∀ i j, i < s → j < s → (i < t ∨ j < t) → i ≠ j → M i j = 0
def Blk (s t : Nat) (g : Int) (M : Nat → Nat → Int64) : Prop := ∀ i j, t ≤ i → i < s → t ≤ j → j < s → g ∣ (M i j).toInt
def Rf (s t : Nat) (d : Int) (M M' : Nat → Nat → Int64) : Prop := mRg d s M' ∧ (∀ i j, i < s → j < s → (i < t ∨ j < t) → M' i j = M i j) ∧ EqD (s + 1) d (hM (mI M)) (hM (mI M')) ∧ (∀ g : Int, g ∣ d → Blk s t g M → Blk s t g M')
theorem Rf.rf {s t : Nat} {d : Int} {M : Nat → Nat → Int64} (h : mRg d s M) : Rf s t d M M := ⟨h, fun _ _ _ _ _ => rfl, EqD.rf _, fun _ _ q => q⟩
theorem Rf.tr {s t : Nat} {d : Int} {M M' M'' : Nat → Nat → Int64} (h : Rf s t d M M') (g : Rf s t d M' M'') : Rf s t d M M'' := ⟨g.1, fun i j hi hj q => (g.2.1 i j hi hj q).trans (h.2.1 i j hi hj q), h.2.2.1.tr g.2.2.1, fun x hx q => g.2.2.2 x hx (h.2.2.2 x hx q)⟩
theorem Rf.zt {s t : Nat} {d : Int} {M M' : Nat → Nat → Int64} (h : Rf s t d M M') (z : Zt s t M) : Zt s t M' := fun i j hi hj q hn => (h.2.1 i j hi hj q).trans (z i j hi hj q hn)
theorem Rf.r2 {s t : Nat} {d : Int} {M M' : Nat → Nat → Int64} (hM : mRg d s M) (hM' : mRg d s M') (z : Zt s t M) {x y : Nat} (tx : t ≤ x) (hx : x < s) (ty : t ≤ y) (hy : y < s) (hne : x ≠ y) {α β γ δ : Int} (he : α * δ - β * γ = 1 ∨ α * δ - β * γ = -1) (h : ∀ p c, p < s → c < s → d ∣ (M' p c).toInt - r2M x y α β γ δ (mI M) p c) : Rf s t d M M' := by
  refine ⟨hM', fun i j hi hj q => ?_, EqD.hr2 hx hy hne he h, fun g hg hb i j ti hi tj hj => ?_⟩
  · refine rg_eq hM hM' hi hj ?_
    have := h i j hi hj
    by_cases c1 : i = x
    · subst c1
      rcases q with q | q
      · omega
      · have z1 : M i j = 0 := z i j hi hj (Or.inr q) (by omega)
        have z2 : M y j = 0 := z y j hy hj (Or.inr q) (by omega)
        simp only [r2M, if_true, mI, z1, z2] at this
        rw [z1]; simpa using this
    by_cases c2 : i = y
    · subst c2
      rcases q with q | q
      · omega
      · have z1 : M i j = 0 := z i j hi hj (Or.inr q) (by omega)
        have z2 : M x j = 0 := z x j hx hj (Or.inr q) (by omega)
        simp only [r2M, if_true, if_neg c1, mI, z1, z2] at this
        rw [z1]; simpa using this
    · simpa only [r2M, if_neg c1, if_neg c2, mI] using this
  · have h1 := Int.dvd_trans hg (h i j hi hj)
    have h2 : g ∣ r2M x y α β γ δ (mI M) i j := by
      have bx := hb x j tx hx tj hj
      have bY := hb y j ty hy tj hj
      unfold r2M
      split
      · exact Int.dvd_add (Int.dvd_mul_of_dvd_right bx) (Int.dvd_mul_of_dvd_right bY)
      · split
        · exact Int.dvd_add (Int.dvd_mul_of_dvd_right bx) (Int.dvd_mul_of_dvd_right bY)
        · exact hb i j ti hi tj hj
    have := Int.dvd_add h1 h2
    rwa [Int.sub_add_cancel] at this
theorem Rf.c2 {s t : Nat} {d : Int} {M M' : Nat → Nat → Int64} (hM : mRg d s M) (hM' : mRg d s M') (z : Zt s t M) {x y : Nat} (tx : t ≤ x) (hx : x < s) (ty : t ≤ y) (hy : y < s) (hne : x ≠ y) {α β γ δ : Int} (he : α * δ - β * γ = 1 ∨ α * δ - β * γ = -1) (h : ∀ p c, p < s → c < s → d ∣ (M' p c).toInt - r2M x y α β γ δ (fun p q => mI M q p) c p) : Rf s t d M M' := by
  have := Rf.r2 (M := fun p q => M q p) (M' := fun p q => M' q p) (fun i j hi hj => hM j i hj hi) (fun i j hi hj => hM' j i hj hi) (fun i j hi hj q hn => z j i hj hi q.symm (fun e => hn e.symm)) tx hx ty hy hne he (fun p c hp hc => h c p hc hp)
  exact ⟨hM', fun i j hi hj q => this.2.1 j i hj hi q.symm, EqD.hc2 hx hy hne he h, fun g hg hb i j ti hi tj hj => this.2.2.2 g hg (fun i j a b c d => hb j i c d a b) j i tj hj ti hi⟩
theorem lrL_ok {i k s : Nat} {t d : Int64} (hd : 0 < d.toInt) (hd2 : d.toInt < 4611686018427387904) (hi : i < s) (hk : k < s) (_ : i ≠ k) (ht : 0 ≤ (jrem t d).toInt) (ht2 : (jrem t d).toInt < 4611686018427387904) : ∀ m j M, j + m = s → mRg d.toInt s M → (∀ p c, p ≠ i ∨ c < j ∨ s ≤ c → lrL i k t d m j M p c = M p c) ∧ (∀ c, j ≤ c → c < s → (lrL i k t d m j M i c).toInt = ((M i c).toInt - (M k c).toInt * (jrem t d).toInt) % d.toInt) := by
  intro m
  induction m with
  | zero => intro j M hj _; exact ⟨fun _ _ _ => rfl, fun c h1 h2 => by omega⟩
  | succ m ih =>
    intro j M hj h
    unfold lrL
    have e := lx_rg hd hd2 (h i j hi (by omega)).1 (h i j hi (by omega)).2 (h k j hk (by omega)).1 (h k j hk (by omega)).2 ht ht2
    have hR : mRg d.toInt s (mset M i j (jrem (M i j + d - tmR (M k j) (jrem t d) d) d)) := h.set (by rw [e]; exact Int.emod_nonneg _ (by omega)) (by rw [e]; exact Int.emod_lt_of_pos _ hd)
    have := ih (j + 1) _ (by omega) hR
    refine ⟨fun p c q => ?_, fun c h1 h2 => ?_⟩
    · rw [this.1 p c (by omega)]; unfold mset; rw [if_neg (by omega)]
    · by_cases c1 : c = j
      · subst c1
        rw [this.1 i c (by omega)]
        unfold mset; rw [if_pos ⟨rfl, rfl⟩]; exact e
      · rw [this.2 c (by omega) h2]
        unfold mset; rw [if_neg (by omega), if_neg (by omega)]
theorem lcL_ok {i k s : Nat} {t d : Int64} (hd : 0 < d.toInt) (hd2 : d.toInt < 4611686018427387904) (hi : i < s) (hk : k < s) (_ : i ≠ k) (ht : 0 ≤ (jrem t d).toInt) (ht2 : (jrem t d).toInt < 4611686018427387904) : ∀ m j M, j + m = s → mRg d.toInt s M → (∀ p c, c ≠ i ∨ p < j ∨ s ≤ p → lcL i k t d m j M p c = M p c) ∧ (∀ c, j ≤ c → c < s → (lcL i k t d m j M c i).toInt = ((M c i).toInt - (M c k).toInt * (jrem t d).toInt) % d.toInt) := by
  intro m
  induction m with
  | zero => intro j M hj _; exact ⟨fun _ _ _ => rfl, fun c h1 h2 => by omega⟩
  | succ m ih =>
    intro j M hj h
    unfold lcL
    have e := lx_rg hd hd2 (h j i (by omega) hi).1 (h j i (by omega) hi).2 (h j k (by omega) hk).1 (h j k (by omega) hk).2 ht ht2
    have hR : mRg d.toInt s (mset M j i (jrem (M j i + d - tmR (M j k) (jrem t d) d) d)) := h.set (by rw [e]; exact Int.emod_nonneg _ (by omega)) (by rw [e]; exact Int.emod_lt_of_pos _ hd)
    have := ih (j + 1) _ (by omega) hR
    refine ⟨fun p c q => ?_, fun c h1 h2 => ?_⟩
    · rw [this.1 p c (by omega)]; unfold mset; rw [if_neg (by omega)]
    · by_cases c1 : c = j
      · subst c1
        rw [this.1 c i (by omega)]
        unfold mset; rw [if_pos ⟨rfl, rfl⟩]; exact e
      · rw [this.2 c (by omega) h2]
        unfold mset; rw [if_neg (by omega), if_neg (by omega)]
theorem emod_sub_dvd (x d : Int) : d ∣ x % d - x := Int.dvd_of_emod_eq_zero (by
  rw [Int.emod_eq_emod_iff_emod_sub_eq_zero.symm]; exact Int.emod_emod _ _)
theorem lr_Rf {s t i k : Nat} {q d : Int64} {M : Nat → Nat → Int64} (hd : 0 < d.toInt) (hd2 : d.toInt < 4611686018427387904) (h : mRg d.toInt s M) (z : Zt s t M) (ti : t ≤ i) (hi : i < s) (tk : t ≤ k) (hk : k < s) (hne : i ≠ k) (hq : 0 ≤ (jrem q d).toInt) (hq2 : (jrem q d).toInt < 4611686018427387904) : Rf s t d.toInt M (lrL i k q d s 0 M) := by
  have o := lrL_ok hd hd2 hi hk hne hq hq2 s 0 M (by omega) h
  refine Rf.r2 h (lr_rg hd hd2 hi hk hq hq2 s 0 M (by omega) h) z ti hi tk hk hne (α := 1) (β := -(jrem q d).toInt) (γ := 0) (δ := 1) (Or.inl (by omega)) (fun p c hp hc => ?_)
  by_cases c1 : p = i
  · subst c1
    rw [o.2 c (by omega) hc]
    simp only [r2M, if_true, mI]
    have := emod_sub_dvd ((M p c).toInt - (M k c).toInt * (jrem q d).toInt) d.toInt
    rwa [show 1 * (M p c).toInt + -(jrem q d).toInt * (M k c).toInt = (M p c).toInt - (M k c).toInt * (jrem q d).toInt by grind]
  · rw [o.1 p c (Or.inl c1)]
    simp only [r2M, if_neg c1, mI]
    split
    · rename_i e; subst e; simp
    · simp
theorem lc_Rf {s t i k : Nat} {q d : Int64} {M : Nat → Nat → Int64} (hd : 0 < d.toInt) (hd2 : d.toInt < 4611686018427387904) (h : mRg d.toInt s M) (z : Zt s t M) (ti : t ≤ i) (hi : i < s) (tk : t ≤ k) (hk : k < s) (hne : i ≠ k) (hq : 0 ≤ (jrem q d).toInt) (hq2 : (jrem q d).toInt < 4611686018427387904) : Rf s t d.toInt M (lcL i k q d s 0 M) := by
  have o := lcL_ok hd hd2 hi hk hne hq hq2 s 0 M (by omega) h
  refine Rf.c2 h (lc_rg hd hd2 hi hk hq hq2 s 0 M (by omega) h) z ti hi tk hk hne (α := 1) (β := -(jrem q d).toInt) (γ := 0) (δ := 1) (Or.inl (by omega)) (fun c p hc hp => ?_)
  by_cases c1 : p = i
  · subst c1
    rw [o.2 c (by omega) hc]
    simp only [r2M, if_true, mI]
    have := emod_sub_dvd ((M c p).toInt - (M c k).toInt * (jrem q d).toInt) d.toInt
    rwa [show 1 * (M c p).toInt + -(jrem q d).toInt * (M c k).toInt = (M c p).toInt - (M c k).toInt * (jrem q d).toInt by grind]
  · rw [o.1 c p (Or.inl c1)]
    simp only [r2M, if_neg c1, mI]
    split
    · rename_i e; subst e; simp
    · simp
theorem sw_Rf {s t i k : Nat} {d : Int} {M : Nat → Nat → Int64} (h : mRg d s M) (z : Zt s t M) (ti : t ≤ i) (hi : i < s) (tk : t ≤ k) (hk : k < s) (hne : i ≠ k) : Rf s t d M (swJ i k s M) := by
  refine Rf.r2 h (sw_rg hi hk h) z ti hi tk hk hne (α := 0) (β := 1) (γ := 1) (δ := 0) (Or.inr (by omega)) (fun p c hp hc => ?_)
  simp only [r2M, mI, swJ, if_pos hc, swN]
  by_cases c1 : p = i
  · simp [if_pos c1]
  · by_cases c2 : p = k
    · simp [if_neg c1, if_pos c2]
    · simp [if_neg c1, if_neg c2]
theorem sk_Rf {s t i k : Nat} {d : Int} {M : Nat → Nat → Int64} (h : mRg d s M) (z : Zt s t M) (ti : t ≤ i) (hi : i < s) (tk : t ≤ k) (hk : k < s) (hne : i ≠ k) : Rf s t d M (swK i k s M) := by
  refine Rf.c2 h (sk_rg hi hk h) z ti hi tk hk hne (α := 0) (β := 1) (γ := 1) (δ := 0) (Or.inr (by omega)) (fun c p hc hp => ?_)
  simp only [r2M, mI, swK, if_pos hc]
  by_cases c1 : p = i
  · simp [if_pos c1]
  · by_cases c2 : p = k
    · simp [if_neg c1, if_pos c2]
    · simp [if_neg c1, if_neg c2]
