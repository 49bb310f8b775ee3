/-- the class's chain -/
theorem EqD.dg {s : Nat} {d : Int} {p g : Nat → Int} (h : ∀ i, i < s → g i ∣ p i ∧ ∃ α β : Int, g i = α * p i + β * d) : EqD s d (dgM p) (dgM g) := by
  have hc : ∃ α β : Nat → Int, ∀ i, i < s → g i = α i * p i + β i * d := by
    have : ∀ i, ∃ ab : Int × Int, i < s → g i = ab.1 * p i + ab.2 * d := fun i => by
      by_cases c : i < s
      · obtain ⟨α, β, e⟩ := (h i c).2
        exact ⟨(α, β), fun _ => e⟩
      · exact ⟨(0, 0), fun q => absurd q c⟩
    exact ⟨fun i => (Classical.choose (this i)).1, fun i => (Classical.choose (this i)).2, fun i => Classical.choose_spec (this i)⟩
  obtain ⟨α, β, e⟩ := hc
  refine fun k q => ⟨Dv.map (fun u => u) (fun v i => α i * v i) (fun u v => mSum s (fun i => β i * (u i * v i))) (fun u v => ?_), Dv.map (fun u => u) (fun v i => p i / g i * v i) (fun _ _ => 0) (fun u v => ?_)⟩
  · rw [bilS_dg, bilS_dg, ← mSum_mul, ← mSum_add]
    exact mSum_congr s (fun i hi => by rw [e i hi]; grind)
  · rw [bilS_dg, bilS_dg, Int.mul_zero, Int.add_zero]
    exact mSum_congr s (fun i hi => by
      have := Int.mul_ediv_cancel' (h i hi).1
      generalize p i / g i = z at *
      rw [← this]; grind)
theorem EqD.pr {n lo hi : Nat} {D : Int} {f f' : Nat → Int} (hlo : lo < n) (hhi : hi < n) (hne : lo ≠ hi) {a' b' g α β : Int} (e1 : f lo = g * a') (e2 : f hi = g * b') (e3 : α * a' + β * b' = 1) (k1 : f' lo = g) (k2 : f' hi = a' * f hi) (k3 : ∀ i, i ≠ lo → i ≠ hi → f' i = f i) : EqD n D (dgM f) (dgM f') := by
  have r := EqD.r2 (d := D) (A := dgM f) (B := r2M lo hi α β (-b') a' (dgM f)) hlo hhi hne (α := α) (β := β) (γ := -b') (δ := a') (Or.inl (by grind)) (fun p c _ _ => by simp)
  refine r.tr (EqD.c2 hlo hhi hne (α := 1) (β := 1) (γ := -(β * b')) (δ := α * a') (Or.inl (by grind)) (fun p c _ _ => ?_))
  have hne' : ¬ hi = lo := fun q => hne q.symm
  have key : dgM f' p c = r2M lo hi 1 1 (-(β * b')) (α * a') (fun p q => r2M lo hi α β (-b') a' (dgM f) q p) c p := by
    unfold r2M dgM
    by_cases p1 : p = lo
    · subst p1
      by_cases c1 : c = p
      · subst c1
        simp only [if_true, if_neg hne, if_neg hne']
        rw [k1, e1, e2]
        have : g = g * (α * a' + β * b') := by rw [e3]; omega
        grind
      · by_cases c2 : c = hi
        · subst c2
          simp only [if_true, if_neg hne, if_neg hne']
          rw [e1, e2]; grind
        · have c1' : ¬ p = c := fun q => c1 q.symm
          have c2' : ¬ hi = c := fun q => c2 q.symm
          simp only [if_true, if_neg c1, if_neg c2, if_neg c1', if_neg c2']; simp
    · by_cases p2 : p = hi
      · subst p2
        by_cases c1 : c = lo
        · subst c1
          simp only [if_true, if_neg hne, if_neg hne']
          rw [e1, e2]; grind
        · by_cases c2 : c = p
          · subst c2
            simp only [if_true, if_neg hne, if_neg hne']
            rw [k2, e1, e2]
            have : g * b' * a' = g * b' * a' * (α * a' + β * b') := by rw [e3]; omega
            grind
          · have c1' : ¬ lo = c := fun q => c1 q.symm
            have c2' : ¬ p = c := fun q => c2 q.symm
            simp only [if_true, if_neg c1, if_neg c2, if_neg c1', if_neg c2', if_neg hne, if_neg hne']; simp
      · have p1' : ¬ lo = p := fun q => p1 q.symm
        have p2' : ¬ hi = p := fun q => p2 q.symm
        by_cases c1 : c = lo
        · subst c1
          simp only [if_true, if_neg p1, if_neg p2]; simp
        · by_cases c2 : c = hi
          · subst c2
            simp only [if_true, if_neg p1, if_neg p2, if_neg hne']; simp
          · simp only [if_neg p1, if_neg p2, if_neg c1, if_neg c2]
            by_cases z : p = c
            · rw [if_pos z, if_pos z, k3 p p1 p2]
            · rw [if_neg z, if_neg z]
  rw [key]; simp
def gI (G : Nat → Int64) : Nat → Int := fun i => (G i).toInt
def Gk (n : Nat) (D : Int) (G : Nat → Int64) : Prop := ∀ i, i < n → 0 < gI G i ∧ gI G i ∣ D
theorem mc1_ok {n lo hi : Nat} {D : Int} {G : Nat → Int64} (hD : 0 < D) (hD2 : D < 1125899906842624) (hlo : lo < n) (hhi : hi < n) (hne : lo ≠ hi) (h : Gk n D G) : ∃ G', (if cdV (G lo) (G hi) ≤ 0 then G else vp_updL (vp_updL G hi (G lo / cdV (G lo) (G hi) * G hi)) lo (cdV (G lo) (G hi))) = G' ∧ Gk n D G' ∧ EqD n D (dgM (gI G)) (dgM (gI G')) ∧ (∀ i, i ≠ lo → i ≠ hi → G' i = G i) ∧ gI G' lo ∣ gI G lo ∧ gI G' lo ∣ gI G' hi ∧ (∀ t : Int, t ∣ gI G lo → t ∣ gI G hi → t ∣ gI G' lo ∧ t ∣ gI G' hi) := by
  obtain ⟨p1, d1⟩ := h lo hlo
  obtain ⟨p2, d2⟩ := h hi hhi
  have p1' : 0 < (G lo).toInt := p1
  have p2' : 0 < (G hi).toInt := p2
  have gp := cd_pos (u := G lo) (v := G hi) (by omega) (by omega) (Or.inl p1')
  have gl := cd_l (u := G lo) (v := G hi) (by omega) (by omega)
  have gr := cd_r (u := G lo) (v := G hi) (by omega) (by omega)
  obtain ⟨α, β, bz⟩ := cd_bez (u := G lo) (v := G hi) (by omega) (by omega)
  have gg := fun (t : Int) (x : t ∣ (G lo).toInt) (y : t ∣ (G hi).toInt) => cd_gr (u := G lo) (v := G hi) (g := t) (by omega) (by omega) x y
  generalize cdV (G lo) (G hi) = g at *
  have n0 : ¬ g ≤ 0 := by
    rw [Int64.le_iff_toInt_le]
    have : (0 : Int64).toInt = 0 := rfl
    omega
  rw [if_neg n0]
  refine ⟨_, rfl, ?_⟩
  have eq : (G lo / g).toInt = (G lo).toInt / g.toInt := by rw [i64_div gp, Int.tdiv_eq_ediv_of_nonneg (by omega)]
  have ea : (G lo).toInt = g.toInt * ((G lo).toInt / g.toInt) := (Int.mul_ediv_cancel' gl).symm
  have eb : (G hi).toInt = g.toInt * ((G hi).toInt / g.toInt) := (Int.mul_ediv_cancel' gr).symm
  generalize (G lo).toInt / g.toInt = a' at *
  generalize (G hi).toInt / g.toInt = b' at *
  have e3 : α * a' + β * b' = 1 := by
    have : g.toInt * (α * a' + β * b') = g.toInt * 1 := by
      rw [Int.mul_one]
      conv => rhs; rw [bz, ea, eb]
      grind
    exact Int.eq_of_mul_eq_mul_left (by omega) this
  have ap : 0 < a' := by
    rcases Int.lt_or_le 0 a' with q | q
    · exact q
    · have := Int.mul_nonneg (show 0 ≤ g.toInt by omega) (show 0 ≤ -a' by omega)
      have e : g.toInt * -a' = -(g.toInt * a') := by grind
      omega
  have ld : a' * (G hi).toInt ∣ D := by
    obtain ⟨u, hu⟩ := d1
    obtain ⟨v, hv⟩ := d2
    have hu : D = (G lo).toInt * u := hu
    have hv : D = (G hi).toInt * v := hv
    refine ⟨α * v + β * u, ?_⟩
    have : D = (α * a' + β * b') * D := by rw [e3]; omega
    have x1 : α * a' * D = a' * (G hi).toInt * (α * v) := by rw [hv]; grind
    have x2 : β * b' * D = a' * (G hi).toInt * (β * u) := by
      rw [hu, ea, eb]; grind
    have x3 : (α * a' + β * b') * D = α * a' * D + β * b' * D := by grind
    rw [x3, x1, x2] at this
    rw [this]; grind
  have lp : 0 < a' * (G hi).toInt := Int.mul_pos ap p2'
  have ll := Int.le_of_dvd hD ld
  have lm : (G lo / g * G hi).toInt = a' * (G hi).toInt := by rw [i64_mul (by rw [eq]; omega) (by rw [eq]; omega), eq]
  have vlo : vp_updL (vp_updL G hi (G lo / g * G hi)) lo g lo = g := if_pos rfl
  have vhi : vp_updL (vp_updL G hi (G lo / g * G hi)) lo g hi = G lo / g * G hi := by unfold vp_updL; rw [if_neg (fun q => hne q.symm), if_pos rfl]
  have vo : ∀ i, i ≠ lo → i ≠ hi → vp_updL (vp_updL G hi (G lo / g * G hi)) lo g i = G i := fun i h1 h2 => by unfold vp_updL; rw [if_neg h1, if_neg h2]
  generalize vp_updL (vp_updL G hi (G lo / g * G hi)) lo g = G' at *
  have wlo : gI G' lo = g.toInt := by unfold gI; rw [vlo]
  have whi : gI G' hi = a' * (G hi).toInt := by unfold gI; rw [vhi, lm]
  refine ⟨fun i hi' => ?_, ?_, vo, by rw [wlo]; exact gl, by rw [wlo, whi]; exact Int.dvd_mul_of_dvd_right gr, fun t x y => ⟨by rw [wlo]; exact gg t x y, by rw [whi]; exact Int.dvd_mul_of_dvd_right y⟩⟩
  · by_cases c1 : i = lo
    · rw [c1, wlo]; exact ⟨gp, Int.dvd_trans gl d1⟩
    · by_cases c2 : i = hi
      · rw [c2, whi]; exact ⟨lp, ld⟩
      · have : gI G' i = gI G i := by unfold gI; rw [vo i c1 c2]
        rw [this]; exact h i hi'
  · exact EqD.pr (α := α) (β := β) hlo hhi hne (a' := a') (b' := b') (g := g.toInt) ea eb e3 wlo whi (fun i h1 h2 => by unfold gI; rw [vo i h1 h2])
theorem mcI_ok {n lo : Nat} {D : Int} (hD : 0 < D) (hD2 : D < 1125899906842624) (hlo : lo < n) : ∀ m hi G, hi + m = n → lo < hi → Gk n D G → (∀ j, lo < j → j < hi → gI G lo ∣ gI G j) → Gk n D (mcI lo m hi G) ∧ EqD n D (dgM (gI G)) (dgM (gI (mcI lo m hi G))) ∧ (∀ i, i < lo → mcI lo m hi G i = G i) ∧ (∀ j, lo < j → j < n → gI (mcI lo m hi G) lo ∣ gI (mcI lo m hi G) j) ∧ (∀ t : Int, (∀ j, lo ≤ j → j < n → t ∣ gI G j) → ∀ j, lo ≤ j → j < n → t ∣ gI (mcI lo m hi G) j) := by
  intro m
  induction m with
  | zero => intro hi G hh _ h hz; exact ⟨h, EqD.rf _, fun _ _ => rfl, fun j h1 h2 => hz j h1 (by omega), fun t q => q⟩
  | succ m ih =>
    intro hi G hh hl h hz
    unfold mcI
    obtain ⟨G', e, a1, a2, a3, a4, a5, a6⟩ := mc1_ok (hi := hi) hD hD2 hlo (by omega) (by omega) h
    rw [e]
    have same : ∀ j, j ≠ lo → j ≠ hi → gI G' j = gI G j := fun j h1 h2 => by unfold gI; rw [a3 j h1 h2]
    obtain ⟨b1, b2, b3, b4, b5⟩ := ih (hi + 1) G' (by omega) (by omega) a1 (fun j h1 h2 => by
      by_cases c : j = hi
      · rw [c]; exact a5
      · rw [same j (by omega) c]; exact Int.dvd_trans a4 (hz j h1 (by omega)))
    refine ⟨b1, a2.tr b2, fun i hi' => (b3 i hi').trans (a3 i (by omega) (by omega)), b4, fun t q => b5 t (fun j h1 h2 => ?_)⟩
    have := a6 t (q lo (Nat.le_refl _) hlo) (q hi (by omega) (by omega))
    by_cases c1 : j = lo
    · rw [c1]; exact this.1
    · by_cases c2 : j = hi
      · rw [c2]; exact this.2
      · rw [same j c1 c2]; exact q j h1 h2
theorem mcO_ok {n : Nat} {D : Int} (hD : 0 < D) (hD2 : D < 1125899906842624) : ∀ m lo G, lo + m = n → Gk n D G → (∀ a b, a < lo → a ≤ b → b < n → gI G a ∣ gI G b) → Gk n D (mcO n m lo G) ∧ EqD n D (dgM (gI G)) (dgM (gI (mcO n m lo G))) ∧ (∀ a b, a ≤ b → b < n → gI (mcO n m lo G) a ∣ gI (mcO n m lo G) b) := by
  intro m
  induction m with
  | zero => intro lo G hl h hz; exact ⟨h, EqD.rf _, fun a b h1 h2 => hz a b (by omega) h1 h2⟩
  | succ m ih =>
    intro lo G hl h hz
    unfold mcO
    obtain ⟨b1, b2, b3, b4, b5⟩ := mcI_ok hD hD2 (show lo < n by omega) (n - (lo + 1)) (lo + 1) G (by omega) (by omega) h (fun j h1 h2 => by omega)
    generalize mcI lo (n - (lo + 1)) (lo + 1) G = G' at *
    obtain ⟨c1, c2, c3⟩ := ih (lo + 1) G' (by omega) b1 (fun a b h1 h2 h3 => by
      by_cases e : a = lo
      · subst e
        by_cases e2 : b = a
        · rw [e2]; exact Int.dvd_refl _
        · exact b4 b (by omega) h3
      · have ea : gI G' a = gI G a := by unfold gI; rw [b3 a (by omega)]
        rw [ea]
        by_cases e2 : b < lo
        · have eb : gI G' b = gI G b := by unfold gI; rw [b3 b e2]
          rw [eb]; exact hz a b (by omega) h2 h3
        · exact b5 (gI G a) (fun j h1 h2 => hz a j (by omega) (by omega) h2) b (by omega) h3)
    exact ⟨c1, b2.tr c2, c3⟩
theorem i64_le1 {x : Int64} : x ≤ 1 ↔ x.toInt ≤ 1 := by rw [Int64.le_iff_toInt_le]; rfl
theorem ctL_ok {G : Nat → Int64} {n e : Nat} (he : e ≤ n) (h1 : ∀ i, i < n - e → gI G i ≤ 1) (h2 : ∀ i, n - e ≤ i → i < n → 1 < gI G i) : ∀ m x c, x + m = n → ctL G m x c = c + (if x ≤ n - e then e else n - x) := by
  intro m
  induction m with
  | zero => intro x c hx; unfold ctL; split <;> omega
  | succ m ih =>
    intro x c hx
    unfold ctL
    rw [ih (x + 1) _ (by omega)]
    by_cases c1 : x < n - e
    · have : G x ≤ 1 := i64_le1.mpr (h1 x c1)
      rw [if_pos this, if_pos (by omega), if_pos (by omega)]; omega
    · have : ¬ G x ≤ 1 := fun q => by
        have a := i64_le1.mp q
        have b := h2 x (by omega) (by omega)
        unfold gI at b; omega
      rw [if_neg this]
      split <;> split <;> omega
theorem raI_ok {d : Int64} {row n : Nat} : ∀ m c M, c + m = n → ∀ p q, raI d row m c M p q = if p = row ∧ c ≤ q ∧ q < n then rdV d (M p q) else M p q := by
  intro m
  induction m with
  | zero => intro c M hc p q; unfold raI; rw [if_neg (by omega)]
  | succ m ih =>
    intro c M hc p q
    unfold raI
    rw [ih (c + 1) _ (by omega)]
    unfold mset
    by_cases c1 : p = row ∧ q = c
    · rw [if_neg (by omega), if_pos c1, if_pos (by omega), c1.1, c1.2]
    · by_cases c2 : p = row ∧ c + 1 ≤ q ∧ q < n
      · rw [if_pos c2, if_neg c1, if_pos (by omega)]
      · rw [if_neg c2, if_neg c1, if_neg (by omega)]
theorem raO_ok {d : Int64} {n : Nat} : ∀ m row M, row + m = n → ∀ p q, raO d n m row M p q = if row ≤ p ∧ p < n ∧ q < n then rdV d (M p q) else M p q := by
  intro m
  induction m with
  | zero => intro row M hr p q; unfold raO; rw [if_neg (by omega)]
  | succ m ih =>
    intro row M hr p q
    unfold raO
    rw [ih (row + 1) _ (by omega), raI_ok (n := n) n 0 M (by omega)]
    by_cases c1 : p = row
    · rw [if_neg (by omega)]
      by_cases c2 : q < n
      · rw [if_pos (by omega), if_pos (by omega)]
      · rw [if_neg (by omega), if_neg (by omega)]
    · by_cases c2 : row + 1 ≤ p ∧ p < n ∧ q < n
      · rw [if_pos c2, if_neg (by omega), if_pos (by omega)]
      · rw [if_neg c2, if_neg (by omega), if_neg (by omega)]
theorem fdS_ok {n : Nat} (hn : 0 < n) : fdS n = n - 1 := (nmV_ok (FO.id n) (fun _ _ _ _ => Iff.rfl) hn).1
theorem fdA_ok {n a : Nat} {F T : Nat → Nat} {w : Nat → Int32} (hn : 0 < n) (h : netOk n a F T w) (i j : Nat) : fdA n a F T w i j = fbM F T w Z0 a (i + 1) (j + 1) := by
  obtain ⟨_, ha, hft, hw⟩ := h
  have e2 := (nmV_ok (FO.id n) (P' := fun v => v) (fun _ _ _ _ => Iff.rfl) hn).2
  have e2 : ∀ v, v < n → (nmV n (fun v => v) (some 0) none).2 v = if v = 0 then none else some (v - 1) := e2
  unfold fdA
  generalize (nmV n (fun v => v) (some 0) none).2 = I at e2 ⊢
  have hI : ∀ u v, u < n → v < n → (fun v => v) u = (fun v => v) v → I u = I v := fun u v _ _ q => by
    have : u = v := q
    rw [this]
  have r := rsL_ok hft (fun k hk => by have := (hw k hk).1; omega) hI a 0 Z0 i j (by omega) (w := w) (X := x0)
  have z : Z0 i j = 0 := rfl
  have z' : Z0 (i + 1) (j + 1) = 0 := rfl
  have e : rsV a F T w x0 (fun v => v) I 0 i j = Int64.ofInt (lapI F T (wX w x0) I a 0 i j) := by
    unfold rsV
    rw [r, z]
    split <;> grind
  rw [e, fbM_ok, z']
  have l := lapI_lap (P := fun v => v) (W := wX w x0) hft e2 a 0 i j (by omega)
  rw [l]
  have : wX w x0 = wZ w := by funext k; unfold wX wZ x0; rw [if_pos rfl]
  rw [this]
  grind
/-- the group: the class's rounds are the reference's -/
theorem group_eq {n a : Nat} {F T : Nat → Nat} {w : Nat → Int32} (hn0 : 0 < n) (h : netOk n a F T w) (h0 : ¬ cnV n a F T w x0 (fun v => v) = 0) : 0 < (cnV n a F T w x0 (fun v => v)).toInt ∧ (cnV n a F T w x0 (fun v => v)).toInt < 1125899906842624 ∧ ∃ f val, fdV n a F T w (cnV n a F T w x0 (fun v => v)) f = some val ∧ val.1 ≤ n ∧ ∀ (k : Nat) (G : Nat → Int64), (gpV n a F T w G).1 = val.1 ∧ groupV n a F T w k G = if k < val.1 then val.2 k else -1 := by
  obtain ⟨hn, ha, hft, hw⟩ := id h
  have hw' : ∀ k, k < a → 0 ≤ (w k).toInt ∧ (w k).toInt ≤ 9 := fun k hk => by have := hw k hk; omega
  obtain ⟨s1, s2⟩ := cnV_sop (X := x0) (f0 := 0) (P' := fun v => v) hn0 hn ha hft hw' (FO.id n) hn (fun _ _ _ _ => Iff.rfl) (by omega) (fun k hk => absurd hk (by omega)) (fun _ _ _ => rfl)
  have t1 := tcN_pos a 0 n (F := F) (T := T) (w := fun k => (w k).toInt) (fun v => v) (fun j _ q => (hw' j (by omega)).1)
  have t2 := tcN_50 (F := F) (T := T) (w := fun k => (w k).toInt) hn0 hn ha (fun q hq => ⟨(hft q hq).1, (hft q hq).2, hw' q hq⟩)
  have s2 : (cnV n a F T w x0 (fun v => v)).toInt = tcN F T (fun k => (w k).toInt) a 0 n (fun v => v) := s2
  have nz := i64_ne h0
  have d0 : 0 < (cnV n a F T w x0 (fun v => v)).toInt := by rw [s2] at nz ⊢; omega
  have d1 : (cnV n a F T w x0 (fun v => v)).toInt < 1125899906842624 := by rw [s2]; exact t2
  refine ⟨d0, d1, ?_⟩
  unfold groupV gpV
  rw [← s1]
  generalize cnV n a F T w x0 (fun v => v) = d at *
  -- the reference
  have eS := fdS_ok hn0
  obtain ⟨s, rfl⟩ : ∃ s, n = s + 1 := ⟨n - 1, by omega⟩
  have eS : fdS (s + 1) = s := eS
  have rg := mo_rg (A := fdA (s + 1) a F T w) (s := s) d0 (by omega)
  obtain ⟨M', b1, b2, b3, b4, b5, b6, e, R', k1, k2, k3, k4, k5, k6⟩ := frO_ok (s := s) (f := d.toInt.toNat + 2) d0 (by omega) (Nat.le_refl _) s 0 (moA d (fdA (s + 1) a F T w) s s 0 (fdA (s + 1) a F T w)) 0 (fun _ => 0) (by omega) rg (fun i j _ _ q => by omega)
  refine ⟨d.toInt.toNat + 2, (0 + e, R'), ?_, by show 0 + e ≤ s + 1; omega, fun k G => ?_⟩
  · unfold fdV; rw [eS]; exact k1
  have e0 : (0 + e, R').1 = e := Nat.zero_add e
  rw [e0]
  by_cases dd : d < 2
  · -- one tree
    have dle : d.toInt = 1 := by
      have : d.toInt < 2 := Int64.lt_iff_toInt_lt.mp dd
      omega
    have ez : e = 0 := by
      rcases Nat.eq_zero_or_pos e with q | q
      · exact q
      · have q1 := k6 (s - 1) (by omega) (by omega)
        have q2 := cd_r (b1 (s - 1) (s - 1) (by omega) (by omega)).1 (v := d) (by omega)
        have q3 := Int.le_of_dvd d0 q2
        have q4 := i64_lt1.mp q1
        unfold gAt at q4; omega
    unfold gpO
    rw [if_pos dd, ez]
    refine ⟨rfl, ?_⟩
    rw [if_neg (by simp), if_neg (by omega)]
  unfold gpO
  rw [if_neg dd]
  -- the class
  have dle : 2 ≤ d.toInt := by
    rcases Int.lt_or_le d.toInt 2 with q | q
    · exact absurd (Int64.lt_iff_toInt_lt.mpr q) dd
    · exact q
  have gpe : ∀ p q, p < s + 1 → q < s + 1 → (gpM (s + 1) a F T w d p q).toInt = (strM (s + 1) 0 (fbM F T w Z0 a) p q).toInt % d.toInt := by
    intro p q hp hq
    unfold gpM
    rw [raO_ok (s + 1) 0 _ (by omega), if_pos (by omega), rdV_ok d0 (by omega)]
  have grg : mRg d.toInt (s + 1) (gpM (s + 1) a F T w d) := fun i j hi hj => by
    rw [gpe i j hi hj]; exact ⟨Int.emod_nonneg _ (by omega), Int.emod_lt_of_pos _ d0⟩
  obtain ⟨N, c1, c2, c3, c4⟩ := fgL_ok (n := s + 1) d0 d1 (s + 1) 0 (gpM (s + 1) a F T w d) G (by omega) grg (fun i j _ _ q => by omega)
  generalize fgL d (s + 1) (s + 1) 0 (gpM (s + 1) a F T w d) G = G0 at *
  have gk : Gk (s + 1) d.toInt G0 := fun i hi => by
    unfold gI
    rw [c3 i (by omega) hi]
    have nn := (c1.1 i i hi hi).1
    exact ⟨cd_pos nn (by omega) (Or.inr d0), cd_r nn (by omega)⟩
  obtain ⟨m1, m2, m3⟩ := mcO_ok d0 d1 (s + 1) 0 G0 (by omega) gk (fun a b q => absurd q (by omega))
  have hmc : mcO (s + 1) (s + 1) 0 G0 = mcV (s + 1) G0 := rfl
  rw [hmc] at m1 m2 m3
  generalize mcV (s + 1) G0 = G1 at *
  -- the matrices are one
  have link : EqD (s + 1) d.toInt (mI (gpM (s + 1) a F T w d)) (hM (mI (moA d (fdA (s + 1) a F T w) s s 0 (fdA (s + 1) a F T w)))) := by
    refine EqD.cg (fun p q hp hq => ?_)
    show d.toInt ∣ _ - (gpM (s + 1) a F T w d p q).toInt
    rw [gpe p q hp hq, strM_ok (by omega) hp hq]
    have z1 : (1 : Int64).toInt = 1 := rfl
    have z0 : (0 : Int64).toInt = 0 := rfl
    cases p with
    | zero =>
      cases q with
      | zero =>
        simp only [hM, if_true, z1]
        rw [Int.emod_eq_of_lt (by omega) (by omega)]; simp
      | succ q => simp [hM]
    | succ p =>
      cases q with
      | zero => simp [hM]
      | succ q =>
        simp only [hM, Nat.add_one_ne_zero, if_false, Nat.add_sub_cancel, mI]
        have em : moA d (fdA (s + 1) a F T w) s s 0 (fdA (s + 1) a F T w) p q = mo0 d (fdA (s + 1) a F T w) p q := if_pos (by omega)
        rw [em]
        unfold mo0
        rw [i64_jremP d0 (by omega), fdA_ok (by omega) h]; simp
  have cls : EqD (s + 1) d.toInt (mI (gpM (s + 1) a F T w d)) (dgM (gI G1)) := by
    have e1 : EqD (s + 1) d.toInt (mI N) (dgM (fun i => (N i i).toInt)) := EqD.eq (fun p q hp hq => by
      unfold dgM mI
      by_cases z : p = q
      · rw [if_pos z, z]
      · rw [if_neg z, c2 p q hp hq (Or.inl hp) z]; rfl)
    have e2 : EqD (s + 1) d.toInt (dgM (fun i => (N i i).toInt)) (dgM (gI G0)) := EqD.dg (fun i hi => by
      have nn := (c1.1 i i hi hi).1
      have eg : gI G0 i = (cdV (N i i) d).toInt := by unfold gI; rw [c3 i (by omega) hi]
      rw [eg]
      exact ⟨cd_l nn (by omega), cd_bez nn (by omega)⟩)
    exact ((c1.2.1.tr e1).tr e2).tr m2
  have ref : EqD (s + 1) d.toInt (hM (mI M')) (dgM (fun i => if i = 0 then 1 else (M' (i - 1) (i - 1)).toInt)) := EqD.eq (fun p q hp hq => by
    unfold dgM hM mI
    cases p with
    | zero => cases q with
      | zero => rfl
      | succ q => rw [if_pos rfl, if_neg (by omega), if_neg (by omega)]
    | succ p => cases q with
      | zero => rw [if_neg (by omega), if_pos rfl, if_neg (by omega)]
      | succ q =>
        simp only [Nat.add_one_ne_zero, if_false, Nat.add_sub_cancel]
        by_cases z : p = q
        · rw [if_pos (by omega), z]
        · rw [if_neg (by omega), b4 p q (by omega) (by omega) (Or.inl (by omega)) z]; rfl)
  have ch1 : Chn (s + 1) d.toInt (gI G1) (gI G1) := ⟨fun i hi => ⟨Int.dvd_refl _, (m1 i hi).2, (m1 i hi).1, 1, 0, by omega⟩, m3⟩
  have ch2 : Chn (s + 1) d.toInt (fun i => if i = 0 then 1 else (M' (i - 1) (i - 1)).toInt) (fun i => if i = 0 then 1 else (gAt d M' (i - 1)).toInt) := by
    refine ⟨fun i hi => ?_, fun x y h1 h2 => ?_⟩
    · by_cases z : i = 0
      · simp only [if_pos z]
        exact ⟨Int.dvd_refl _, Int.one_dvd _, by omega, 1, 0, by omega⟩
      · simp only [if_neg z]
        have nn := (b1 (i - 1) (i - 1) (by omega) (by omega)).1
        exact ⟨cd_l nn (by omega), cd_r nn (by omega), cd_pos nn (by omega) (Or.inr d0), cd_bez nn (by omega)⟩
    · by_cases z : x = 0
      · simp only [if_pos z]; exact Int.one_dvd _
      · simp only [if_neg z, if_neg (show ¬ y = 0 by omega)]
        exact b6 (x - 1) (y - 1) (by omega) (by omega) (by omega)
  have uq := chain_uniq ch1 ch2 ((cls.sy.tr link).tr (b3.tr ref))
  -- the counts
  have ct := ctL_ok (G := G1) (n := s + 1) (e := e) (by omega) (fun i hi => by
    rw [uq i (by omega)]
    by_cases z : i = 0
    · simp only [if_pos z]; omega
    · simp only [if_neg z]
      have q := k5 (i - 1) (by omega) (by omega)
      have q2 : ¬ 1 < (gAt d M' (i - 1)).toInt := fun k => q (i64_lt1.mpr k)
      omega) (fun i h1 h2 => by
    rw [uq i h2]
    have z : ¬ i = 0 := by omega
    simp only [if_neg z]
    exact i64_lt1.mp (k6 (i - 1) (by omega) (by omega))) (s + 1) 0 0 (by omega)
  rw [if_pos (by omega)] at ct
  simp only [ct, Nat.zero_add]
  refine ⟨trivial, ?_⟩
  by_cases kk : k < e
  · rw [if_pos kk, if_pos kk]
    have u := uq (s + 1 - e + k) (by omega)
    simp only [if_neg (show ¬ s + 1 - e + k = 0 by omega)] at u
    have k4' := k4 k kk
    rw [Nat.zero_add] at k4'
    show G1 (s + 1 - e + k) = R' k
    rw [k4']
    apply Int64.toInt_inj.mp
    rw [show s - e + k = s + 1 - e + k - 1 by omega]
    exact u
  · rw [if_neg kk, if_neg kk]
theorem group_zero {n a : Nat} {F T : Nat → Nat} {w : Nat → Int32} (h : netOk n a F T w) (h0 : cnV n a F T w x0 (fun v => v) = 0) (k : Nat) (G : Nat → Int64) : (gpV n a F T w G).1 = 0 ∧ groupV n a F T w k G = -1 := by
  have e : sopV n 0 a F T w (fun v => v) = 0 := by
    rcases Nat.eq_zero_or_pos n with q | q
    · rw [q]; rfl
    · obtain ⟨hn, ha, hft, hw⟩ := id h
      have s1 := (cnV_sop (w := w) (X := x0) (f0 := 0) (P' := fun v => v) q hn ha hft (fun k hk => by have := hw k hk; omega) (FO.id n) hn (fun _ _ _ _ => Iff.rfl) (by omega) (fun k hk => absurd hk (by omega)) (fun _ _ _ => rfl)).1
      rw [← s1]; exact h0
  unfold groupV gpV
  rw [e]
  have hz : gpO 0 n a F T w G = (0, G) := if_pos (by decide)
  rw [hz]
  exact ⟨rfl, if_neg (by simp)⟩
