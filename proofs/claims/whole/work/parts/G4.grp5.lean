/-- the common divisor, as it is used -/
theorem cd_l {u v : Int64} (hu : 0 ≤ u.toInt) (hv : 0 ≤ v.toInt) : (cdV u v).toInt ∣ u.toInt := by
  rw [cd_gcd hu hv]
  have := Int.ofNat_dvd.mpr (Nat.gcd_dvd_left u.toInt.toNat v.toInt.toNat)
  rwa [Int.toNat_of_nonneg hu] at this
theorem cd_r {u v : Int64} (hu : 0 ≤ u.toInt) (hv : 0 ≤ v.toInt) : (cdV u v).toInt ∣ v.toInt := by
  rw [cd_gcd hu hv]
  have := Int.ofNat_dvd.mpr (Nat.gcd_dvd_right u.toInt.toNat v.toInt.toNat)
  rwa [Int.toNat_of_nonneg hv] at this
theorem cd_gr {u v : Int64} (hu : 0 ≤ u.toInt) (hv : 0 ≤ v.toInt) {g : Int} (h1 : g ∣ u.toInt) (h2 : g ∣ v.toInt) : g ∣ (cdV u v).toInt := by
  rw [cd_gcd hu hv]
  have a1 : g.natAbs ∣ u.toInt.toNat := by
    have := Int.natAbs_dvd_natAbs.mpr h1
    rwa [show u.toInt.natAbs = u.toInt.toNat by omega] at this
  have a2 : g.natAbs ∣ v.toInt.toNat := by
    have := Int.natAbs_dvd_natAbs.mpr h2
    rwa [show v.toInt.natAbs = v.toInt.toNat by omega] at this
  exact Int.natAbs_dvd.mp (Int.ofNat_dvd.mpr (Nat.dvd_gcd a1 a2))
theorem bezN : ∀ (v u : Nat), ∃ α β : Int, (Nat.gcd u v : Int) = α * u + β * v := by
  intro v
  induction v using Nat.strongRecOn with
  | _ v ih =>
    intro u
    rcases Nat.eq_zero_or_pos v with q | q
    · subst q; exact ⟨1, 0, by simp⟩
    · obtain ⟨α, β, e⟩ := ih (u % v) (Nat.mod_lt _ q) v
      refine ⟨β, α - β * (u / v : Nat), ?_⟩
      have g1 : Nat.gcd u v = Nat.gcd v (u % v) := by rw [Nat.gcd_comm, Nat.gcd_rec, Nat.gcd_comm]
      rw [g1, e]
      have e2 : (u : Int) = v * (u / v : Nat) + (u % v : Nat) := by
        have := Nat.div_add_mod u v
        rw [← Int.natCast_mul, ← Int.natCast_add, this]
      generalize (u : Int) = U at *
      generalize ((u / v : Nat) : Int) = Q at *
      rw [e2]; grind
theorem cd_bez {u v : Int64} (hu : 0 ≤ u.toInt) (hv : 0 ≤ v.toInt) : ∃ α β : Int, (cdV u v).toInt = α * u.toInt + β * v.toInt := by
  obtain ⟨α, β, e⟩ := bezN v.toInt.toNat u.toInt.toNat
  rw [Int.toNat_of_nonneg hu, Int.toNat_of_nonneg hv] at e
  exact ⟨α, β, by rw [cd_gcd hu hv, e]⟩
/-- what the reference takes for the greatest of the block -/
theorem cfI_ok {M : Nat → Nat → Int64} {i s : Nat} {p : Int} (hi : i < s) (h : mRg p s M) : ∀ m j g, j + m = s → 0 ≤ g.toInt → (cfI M i m j g).toInt ∣ g.toInt ∧ 0 ≤ (cfI M i m j g).toInt ∧ (∀ c, j ≤ c → c < s → (cfI M i m j g).toInt ∣ (M i c).toInt) := by
  intro m
  induction m with
  | zero => intro j g hj h0; exact ⟨Int.dvd_refl _, h0, fun c a b => by omega⟩
  | succ m ih =>
    intro j g hj h0
    have q := (h i j hi (by omega)).1
    obtain ⟨a, b, c⟩ := ih (j + 1) (cdV g (M i j)) (by omega) (cd_nn h0 q)
    unfold cfI
    refine ⟨Int.dvd_trans a (cd_l h0 q), b, fun k h1 h2 => ?_⟩
    by_cases e : k = j
    · rw [e]; exact Int.dvd_trans a (cd_r h0 q)
    · exact c k (by omega) h2
theorem cfO_ok {M : Nat → Nat → Int64} {t s : Nat} {p : Int} (hts : t < s) (h : mRg p s M) : ∀ m i g, i + m = s → 0 ≤ g.toInt → (cfO M t s m i g).toInt ∣ g.toInt ∧ 0 ≤ (cfO M t s m i g).toInt ∧ (∀ r c, i ≤ r → r < s → t ≤ c → c < s → (cfO M t s m i g).toInt ∣ (M r c).toInt) := by
  intro m
  induction m with
  | zero => intro i g hi h0; exact ⟨Int.dvd_refl _, h0, fun r c a b => by omega⟩
  | succ m ih =>
    intro i g hi h0
    obtain ⟨a1, a2, a3⟩ := cfI_ok (i := i) (by omega) h (s - t) t g (by omega) h0
    obtain ⟨b1, b2, b3⟩ := ih (i + 1) (cfI M i (s - t) t g) (by omega) a2
    unfold cfO
    refine ⟨Int.dvd_trans b1 a1, b2, fun r c h1 h2 h3 h4 => ?_⟩
    by_cases e : r = i
    · rw [e]; exact Int.dvd_trans b1 (a3 c h3 h4)
    · exact b3 r c (by omega) h2 h3 h4
theorem cfV_ok {M : Nat → Nat → Int64} {t s : Nat} {d : Int64} (hd : 0 < d.toInt) (hts : t < s) (h : mRg d.toInt s M) : (cfV M t s d).toInt ∣ d.toInt ∧ Blk s t (cfV M t s d).toInt M := by
  obtain ⟨a, b, c⟩ := cfO_ok hts h (s - t) t d (by omega) (by omega)
  exact ⟨a, fun i j h1 h2 h3 h4 => c i j h1 h2 h3 h4⟩
theorem ioL_ok {M : Nat → Nat → Int64} {i s : Nat} {g : Int64} {p : Int} (hg : 0 < g.toInt) (hi : i < s) (h : mRg p s M) : ∀ m j q, j + m = s → (ioL M i g m j q = true ↔ (q = true ∨ ∃ c, j ≤ c ∧ c < s ∧ ¬ g.toInt ∣ (M i c).toInt)) := by
  intro m
  induction m with
  | zero =>
    intro j q hj
    unfold ioL
    exact ⟨fun a => Or.inl a, fun a => by
      rcases a with a | ⟨c, h1, h2, _⟩
      · exact a
      · omega⟩
  | succ m ih =>
    intro j q hj
    have eq : (jrem (M i j) g = 0) ↔ g.toInt ∣ (M i j).toInt := by
      have e := i64_jremE (x := M i j) hg (h i j hi (by omega)).1
      rw [← i64_zero, e]
      exact ⟨Int.dvd_of_emod_eq_zero, Int.emod_eq_zero_of_dvd⟩
    unfold ioL
    rw [ih (j + 1) _ (by omega), Bool.or_eq_true, decide_eq_true_iff, eq]
    constructor
    · rintro ((a | a) | ⟨c, h1, h2, h3⟩)
      · exact Or.inl a
      · exact Or.inr ⟨j, Nat.le_refl _, by omega, a⟩
      · exact Or.inr ⟨c, by omega, h2, h3⟩
    · rintro (a | ⟨c, h1, h2, h3⟩)
      · exact Or.inl (Or.inl a)
      · by_cases e : c = j
        · subst e; exact Or.inl (Or.inr h3)
        · exact Or.inr ⟨c, by omega, h2, h3⟩
theorem ifL_ok {M : Nat → Nat → Int64} {t s : Nat} {d : Int64} : ∀ m i, i + m = s → (ifL M t s d m i < s → i ≤ ifL M t s d m i ∧ ioV M t s d (ifL M t s d m i) = true) ∧ (¬ ifL M t s d m i < s → ∀ k, i ≤ k → k < s → ioV M t s d k = false) := by
  intro m
  induction m with
  | zero => intro i hi; unfold ifL; exact ⟨fun q => by omega, fun q k h1 h2 => by omega⟩
  | succ m ih =>
    intro i hi
    unfold ifL
    by_cases c : ioV M t s d i = true
    · rw [if_pos c]; exact ⟨fun _ => ⟨Nat.le_refl _, c⟩, fun q => by omega⟩
    · rw [if_neg c]
      have := ih (i + 1) (by omega)
      refine ⟨fun q => ⟨by have := (this.1 q).1; omega, (this.1 q).2⟩, fun q k h1 h2 => ?_⟩
      by_cases e : k = i
      · rw [e]; exact Bool.eq_false_iff.mpr c
      · exact this.2 q k (by omega) h2
theorem frI_ok {t s : Nat} {d : Int64} {f : Nat} (hd : 0 < d.toInt) (hd2 : d.toInt < 4611686018427387904) (hts : t < s) (hf : d.toInt.toNat + 2 ≤ f) {g : Int64} (hg : g.toInt ∣ d.toInt) : ∀ h M (b : Nat), mRg d.toInt s M → Zt s t M → Blk s t g.toInt M → (∀ x : Int, x ∣ d.toInt → 0 < x → (x ∣ (M t t).toInt ∧ ((∀ p, t < p → p < s → M p t = 0) → ∀ c, t ≤ c → c < s → x ∣ (M t c).toInt)) → x < (b : Int)) → b + 1 ≤ h → ∃ M', frI t s d f g h M = some M' ∧ Rf s t d.toInt M M' ∧ (∀ p, t < p → p < s → M' p t = 0 ∧ M' t p = 0) ∧ Blk s t (cdV (M' t t) d).toInt M' := by
  intro h
  induction h with
  | zero => intro M b _ _ _ _ q; omega
  | succ h ih =>
    intro M b hM z hB hb hh
    obtain ⟨M1, a1, a2, a3, a4⟩ := ccO_ok hd hd2 hts hf f M hM z (by have := mu_le hM hts; omega)
    have hu : frI t s d f g (h + 1) M = if cdV (M1 t t) d = g then some M1 else if ifL M1 t s d (s - (t + 1)) (t + 1) < s then frI t s d f g h (lrL t (ifL M1 t s d (s - (t + 1)) (t + 1)) (d - 1) d s 0 M1) else some M1 := by
      conv => lhs; unfold frI
      rw [a1]; rfl
    rw [hu]
    have hB1 := a2.2.2.2 g.toInt hg hB
    have nn := (a2.1 t t hts hts).1
    have gp := cd_pos nn (v := d) (by omega) (Or.inr hd)
    have g1 := cd_l nn (v := d) (by omega)
    have g2 := cd_r nn (v := d) (by omega)
    by_cases c1 : cdV (M1 t t) d = g
    · rw [if_pos c1]
      exact ⟨M1, rfl, a2, a3, by rw [c1]; exact hB1⟩
    rw [if_neg c1]
    have io := ifL_ok (M := M1) (t := t) (s := s) (d := d) (s - (t + 1)) (t + 1) (by omega)
    have iv : ∀ k, k < s → (ioV M1 t s d k = true ↔ ∃ c, t + 1 ≤ c ∧ c < s ∧ ¬ (cdV (M1 t t) d).toInt ∣ (M1 k c).toInt) := by
      intro k hk
      unfold ioV
      rw [ioL_ok gp hk a2.1 (s - (t + 1)) (t + 1) false (by omega)]
      exact ⟨fun q => by
        rcases q with q | q
        · cases q
        · exact q, Or.inr⟩
    by_cases c2 : ifL M1 t s d (s - (t + 1)) (t + 1) < s
    · rw [if_pos c2]
      obtain ⟨k1, k2⟩ := io.1 c2
      generalize ifL M1 t s d (s - (t + 1)) (t + 1) = k at *
      obtain ⟨c, c3, c4, c5⟩ := (iv k c2).mp k2
      have dm := dm1_ok hd hd2
      have z1 := a2.zt z
      have hR := lr_Rf hd hd2 a2.1 z1 (Nat.le_refl t) hts (show t ≤ k by omega) c2 (by omega) dm.1 dm.2
      have o := lrL_ok hd hd2 hts c2 (show t ≠ k by omega) dm.1 dm.2 s 0 M1 (by omega) a2.1
      have e1 : (1 : Int64).toInt = 1 := rfl
      have ed : (jrem (d - 1) d).toInt = d.toInt - 1 := by
        have e := i64_sub (x := d) (y := 1) (by rw [e1]; omega) (by rw [e1]; omega)
        rw [e1] at e
        rw [i64_jremE hd (by rw [e]; omega), e]
        exact Int.emod_eq_of_lt (by omega) (by omega)
      have G3 : ∀ x : Int, x ∣ d.toInt → (∀ c, t ≤ c → c < s → x ∣ (lrL t k (d - 1) d s 0 M1 t c).toInt) → ∀ c, t ≤ c → c < s → x ∣ (M1 t c).toInt + (M1 k c).toInt := by
        intro x hx q c h1 h2
        have q1 := q c h1 h2
        rw [o.2 c (by omega) h2, ed] at q1
        have q2 := dvd_of_em q1 hx
        have q3 : x ∣ (M1 t c).toInt - (M1 k c).toInt * (d.toInt - 1) + (M1 k c).toInt * d.toInt := Int.dvd_add q2 (Int.dvd_mul_of_dvd_right hx)
        rwa [show (M1 t c).toInt - (M1 k c).toInt * (d.toInt - 1) + (M1 k c).toInt * d.toInt = (M1 t c).toInt + (M1 k c).toInt by grind] at q3
      have lb : (cdV (M1 t t) d).toInt < (b : Int) := hb _ g2 gp (a4 _ g2 g1)
      obtain ⟨M2, b1, b2, b3, b4⟩ := ih (lrL t k (d - 1) d s 0 M1) (cdV (M1 t t) d).toInt.toNat hR.1 (hR.zt z1) (hR.2.2.2 g.toInt hg hB1) (fun x hx xp q => by
        have w := G3 x hx (q.2 (fun p h1 h2 => by rw [o.1 p t (Or.inl (by omega))]; exact (a3 p h1 h2).1))
        have w1 := w t (Nat.le_refl _) hts
        rw [(a3 k (by omega) c2).1] at w1
        have w2 : x ∣ (M1 t t).toInt := by
          have e0 : (0 : Int64).toInt = 0 := rfl
          rwa [e0, Int.add_zero] at w1
        have w3 := Int.le_of_dvd gp (cd_gr nn (v := d) (by omega) w2 hx)
        have w4 := w c (by omega) c4
        rw [(a3 c (by omega) c4).2] at w4
        have w5 : x ∣ (M1 k c).toInt := by
          have e0 : (0 : Int64).toInt = 0 := rfl
          rwa [e0, Int.zero_add] at w4
        have w6 : x ≠ (cdV (M1 t t) d).toInt := fun e => c5 (e ▸ w5)
        generalize (cdV (M1 t t) d).toInt = G at *
        omega) (by generalize (cdV (M1 t t) d).toInt = G at *; omega)
      exact ⟨M2, b1, (a2.tr hR).tr b2, b3, b4⟩
    · rw [if_neg c2]
      have io2 := io.2 c2
      refine ⟨M1, rfl, a2, a3, fun i j h1 h2 h3 h4 => ?_⟩
      by_cases e1 : i = t
      · by_cases e2 : j = t
        · rw [e1, e2]; exact g1
        · rw [e1, (a3 j (by omega) h4).2]; exact dvd_i0 _
      · by_cases e2 : j = t
        · rw [e2, (a3 i (by omega) h2).1]; exact dvd_i0 _
        · have q := io2 i (by omega) h2
          by_cases e3 : (cdV (M1 t t) d).toInt ∣ (M1 i j).toInt
          · exact e3
          · have := (iv i h2).mpr ⟨j, by omega, h4, e3⟩
            rw [q] at this; cases this
theorem Rf.down {s t : Nat} {d : Int} {M M' : Nat → Nat → Int64} (h : Rf s (t + 1) d M M') : ∀ i j, i < s → j < s → (i < t ∨ j < t) → M' i j = M i j := fun i j hi hj q => h.2.1 i j hi hj (by omega)
theorem Blk.down {s t : Nat} {g : Int} {M : Nat → Nat → Int64} (h : Blk s t g M) : Blk s (t + 1) g M := fun i j a b c d => h i j (by omega) b (by omega) d
def gAt (d : Int64) (M : Nat → Nat → Int64) (i : Nat) : Int64 := cdV (M i i) d
theorem i64_lt1 {x : Int64} : 1 < x ↔ 1 < x.toInt := by
  rw [Int64.lt_iff_toInt_lt]; rfl
/-- the reference's rounds: the greatest of the diagonal that is left, a chain -/
theorem frO_ok {s : Nat} {d : Int64} {f : Nat} (hd : 0 < d.toInt) (hd2 : d.toInt < 4611686018427387904) (hf : d.toInt.toNat + 2 ≤ f) : ∀ m t M c R, t + m = s → mRg d.toInt s M → Zt s t M → ∃ M', mRg d.toInt s M' ∧ (∀ i j, i < s → j < s → (i < t ∨ j < t) → M' i j = M i j) ∧ EqD (s + 1) d.toInt (hM (mI M)) (hM (mI M')) ∧ Zt s s M' ∧ (∀ g : Int, g ∣ d.toInt → Blk s t g M → Blk s t g M') ∧ (∀ a b, t ≤ a → a ≤ b → b < s → (gAt d M' a).toInt ∣ (gAt d M' b).toInt) ∧ ∃ e R', frO s d f m t M c R = some (c + e, R') ∧ e ≤ m ∧ (∀ k, k < c → R' k = R k) ∧ (∀ k, k < e → R' (c + k) = gAt d M' (s - e + k)) ∧ (∀ i, t ≤ i → i < s - e → ¬ 1 < gAt d M' i) ∧ (∀ i, s - e ≤ i → i < s → 1 < gAt d M' i) := by
  intro m
  induction m with
  | zero =>
    intro t M c R ht h z
    obtain rfl : t = s := by omega
    exact ⟨M, h, fun _ _ _ _ _ => rfl, EqD.rf _, z, fun _ _ q => q, fun a b h1 h2 h3 => by omega, 0, R, rfl, Nat.le_refl _, fun _ _ => rfl, fun k q => by omega, fun i h1 h2 => by omega, fun i h1 h2 => by omega⟩
  | succ m ih =>
    intro t M c R ht h z
    have hts : t < s := by omega
    have cf := cfV_ok hd hts h
    obtain ⟨M1, a1, a2, a3, a4⟩ := frI_ok hd hd2 hts hf cf.1 f M (d.toInt.toNat + 1) h z cf.2 (fun x hx xp _ => by have := Int.le_of_dvd hd hx; omega) hf
    have z1 : Zt s (t + 1) M1 := fun i j hi hj q hn => by
      by_cases e1 : i = t
      · rw [e1]
        by_cases e2 : j < t
        · exact (a2.zt z) t j hts hj (Or.inr e2) (by omega)
        · exact (a3 j (by omega) hj).2
      · by_cases e2 : j = t
        · rw [e2]
          by_cases e3 : i < t
          · exact (a2.zt z) i t hi hts (Or.inl e3) (by omega)
          · exact (a3 i (by omega) hi).1
        · exact (a2.zt z) i j hi hj (by omega) hn
    have step : ∀ c1 R1, ∃ M', mRg d.toInt s M' ∧ (∀ i j, i < s → j < s → (i < t ∨ j < t) → M' i j = M i j) ∧ EqD (s + 1) d.toInt (hM (mI M)) (hM (mI M')) ∧ Zt s s M' ∧ (∀ g : Int, g ∣ d.toInt → Blk s t g M → Blk s t g M') ∧ (∀ a b, t ≤ a → a ≤ b → b < s → (gAt d M' a).toInt ∣ (gAt d M' b).toInt) ∧ gAt d M' t = gAt d M1 t ∧ ∃ e R', frO s d f m (t + 1) M1 c1 R1 = some (c1 + e, R') ∧ e ≤ m ∧ (∀ k, k < c1 → R' k = R1 k) ∧ (∀ k, k < e → R' (c1 + k) = gAt d M' (s - e + k)) ∧ (∀ i, t + 1 ≤ i → i < s - e → ¬ 1 < gAt d M' i) ∧ (∀ i, s - e ≤ i → i < s → 1 < gAt d M' i) := by
      intro c1 R1
      obtain ⟨M', b1, b2, b3, b4, b5, b6, b7⟩ := ih (t + 1) M1 c1 R1 (by omega) a2.1 z1
      have ett : M' t t = M1 t t := b2 t t hts hts (by omega)
      have nn := (a2.1 t t hts hts).1
      have g2 := cd_r nn (v := d) (by omega)
      have g1 := cd_l nn (v := d) (by omega)
      have blk := b5 _ g2 (a4.down)
      refine ⟨M', b1, fun i j hi hj q => (b2 i j hi hj (by omega)).trans (a2.2.1 i j hi hj q), a2.2.2.1.tr b3, b4, fun g hg q i j h1 h2 h3 h4 => ?_, fun a b h1 h2 h3 => ?_, by unfold gAt; rw [ett], b7⟩
      · by_cases e : i = t ∨ j = t
        · rw [b2 i j h2 h4 (by omega)]
          exact a2.2.2.2 g hg q i j h1 h2 h3 h4
        · exact b5 g hg (a2.2.2.2 g hg q).down i j (by omega) h2 (by omega) h4
      · by_cases e : a = t
        · subst e
          by_cases e2 : b = a
          · subst e2; exact Int.dvd_refl _
          · have q := blk b b (by omega) h3 (by omega) h3
            unfold gAt
            rw [ett]
            exact cd_gr (b1 b b h3 h3).1 (by omega) q g2
        · exact b6 a b (by omega) h2 h3
    have hu : frO s d f (m + 1) t M c R = if 1 < cdV (M1 t t) d then frO s d f m (t + 1) M1 (c + 1) (vp_updL R c (cdV (M1 t t) d)) else frO s d f m (t + 1) M1 c R := by
      conv => lhs; unfold frO
      rw [a1]; rfl
    rw [hu]
    by_cases c1 : 1 < cdV (M1 t t) d
    · rw [if_pos c1]
      obtain ⟨M', b1, b2, b3, b4, b5, b6, b7, e, R', k1, k2, k3, k4, k5, k6⟩ := step (c + 1) (vp_updL R c (cdV (M1 t t) d))
      have all : ∀ i, t ≤ i → i < s → 1 < gAt d M' i := fun i h1 h2 => by
        have q := b6 t i (Nat.le_refl _) h1 h2
        rw [b7] at q
        have p := cd_pos (b1 i i h2 h2).1 (v := d) (by omega) (Or.inr hd)
        have q2 := Int.le_of_dvd (b := (gAt d M' i).toInt) p q
        have q3 := i64_lt1.mp c1
        exact i64_lt1.mpr (Int.lt_of_lt_of_le q3 q2)
      have ee : e = m := by
        by_cases q : e = m
        · exact q
        · exact absurd (all (t + 1) (by omega) (by omega)) (k5 (t + 1) (Nat.le_refl _) (by omega))
      refine ⟨M', b1, b2, b3, b4, b5, b6, e + 1, R', by rw [k1]; congr 2; omega, by omega, fun k hk => ?_, fun k hk => ?_, fun i h1 h2 => by omega, fun i h1 h2 => all i (by omega) h2⟩
      · rw [k3 k (by omega)]; unfold vp_updL; rw [if_neg (by omega)]
      · by_cases q : k = 0
        · subst q
          rw [Nat.add_zero, Nat.add_zero, k3 c (by omega)]
          unfold vp_updL
          rw [if_pos rfl, show s - (e + 1) = t by omega, b7]; rfl
        · have := k4 (k - 1) (by omega)
          rw [show c + 1 + (k - 1) = c + k by omega, show s - e + (k - 1) = s - (e + 1) + k by omega] at this
          exact this
    · rw [if_neg c1]
      obtain ⟨M', b1, b2, b3, b4, b5, b6, b7, e, R', k1, k2, k3, k4, k5, k6⟩ := step c R
      refine ⟨M', b1, b2, b3, b4, b5, b6, e, R', k1, by omega, k3, k4, fun i h1 h2 => ?_, k6⟩
      by_cases q : i = t
      · rw [q, b7]; exact c1
      · exact k5 i (by omega) h2
