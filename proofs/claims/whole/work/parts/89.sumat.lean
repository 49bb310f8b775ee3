theorem sfV_congr {gl gl' gu gu' : Nat → Int64} {F T : Nat → Nat} {f a : Nat} (h1 : ∀ j, j < 11 → gl j = gl' j) (h2 : ∀ j, j < 15 → gu j = gu' j) (ha : a ≤ 14) : ∀ m k c P, c ≤ 10 → sfV gl gu F T f a m k c P = sfV gl' gu' F T f a m k c P := by
  intro m
  induction m with
  | zero => intro k c P hc; unfold sfV; rw [h1 (c - f) (by omega), h2 (a - k) (by omega)]
  | succ m ih =>
    intro k c P hc
    have h3 := jnC_le (F k) (T k) P c
    unfold sfV
    rw [h2 (a - k) (by omega), h2 1 (by omega), ih _ _ _ hc, ih _ _ _ (by omega : jnC (F k) (T k) P c ≤ 10)]
/-- the class's point -/
def ptV (n a : Nat) (F T : Nat → Nat) (x y : Int64) : Int64 := sfV (lpw (x - 1)) (lpw y) F T (ftV n a F T).2.1 a a 0 n (fun v => v)
theorem JS.fr {b lo hi : Nat} {cP : ClassId} {σ σ' : Nat → Option va_E} (h : JS b cP σ) (q : Fr lo hi σ σ') (hl : hi < 31 ∨ 31 < lo) : JS b cP σ' := by
  obtain ⟨fj, h1, h2⟩ := h
  exact ⟨fj, (q 31 (by omega)).trans h1, h2⟩
def PE (b : Nat) (cI : ClassId) (σ : Nat → Option va_E) : Prop := ∀ i, i < 10 → PA b cI σ (34 + 2 * i)
theorem PE.fr {b lo hi : Nat} {cI : ClassId} {σ σ' : Nat → Option va_E} (h : PE b cI σ) (q : Fr lo hi σ σ') (hl : hi < 34 ∨ 53 < lo) : PE b cI σ' := fun i hi => (h i hi).fr q (by omega)
set_option maxHeartbeats 4000000 in
set_option maxRecDepth 100000 in
theorem c_S_sumAt {l : Launch} {D : va_G} {tys : List (ClassId × FieldType)} {b N : Nat} {σ : Nat → Option va_E} {cI cJ cA : ClassId} (ht0 : tys[0]? = some (cI, .int)) (ht1 : tys[1]? = some (cJ, .long)) (ht3 : tys[3]? = some (cA, .array .long)) {cP : ClassId} (ht4 : tys[4]? = some (cP, .object "TreeCounts$Parts")) {n a : Nat} {gf gt gw : Nat → Int32} {F T : Nat → Nat} (hN : NS b cI σ n a gf gt gw F T) (ha14 : a ≤ 14) (hPA : PA b cI σ 5) (hE : PE b cI σ) {v30 : Value} {g0 g1 : Nat → Int64} (h30 : σ 30 = some (.inr (8, [.ref (b + 1), .ref (b + 5), .ref (b + 31), .ref (b + 32), .ref (b + 33), v30]))) (hJ : JS b cP σ) (h32 : σ 32 = some (.inl (cJ, 11, .inr (.inl g0)))) (h33 : σ 33 = some (.inl (cJ, 15, .inr (.inl g1)))) (hf1 : 0 < n → 1 ≤ (ftV n a F T).2.1) (ho : sfO F T (ftV n a F T).2.1 a 0 n (fun v => v)) {x y : Int64} : zM l D kCl tys kNw b ky_S_sumAt (kh_S_sumAt :: zT) 18 600 0 0 [.ref (b + 30), .long x, .long y] N σ (fun oc N' σ' => oc = .returned (some (.long (ptV n a F T x y))) ∧ N' = N ∧ PA b cI σ' 5 ∧ PE b cI σ' ∧ (∃ v, σ' 30 = some (.inr (8, [.ref (b + 1), .ref (b + 5), .ref (b + 31), .ref (b + 32), .ref (b + 33), v]))) ∧ JS b cP σ' ∧ (∃ g, σ' 32 = some (.inl (cJ, 11, .inr (.inl g)))) ∧ (∃ g, σ' 33 = some (.inl (cJ, 15, .inr (.inl g)))) ∧ F2 5 6 30 53 σ σ') := by
  refine zM.of (by decide +kernel) rfl (Nat.le_of_ble_eq_true rfl) ?_
  refine z_pick (lv' := [(0, .ref (b + 30)), (1, .long x), (3, .long y)]) [0, 1, 2] rfl ?_
  obtain ⟨u5, x5, g5, h5, h6⟩ := hPA
  have hn := hN.hn
  have ha := hN.ha
  obtain ⟨fj, hj31a, hfj⟩ := id hJ
  refine z_aload_n kd_S_sumAt_0 0 rfl ?_
  refine z_get kd_S_sumAt_1 (kf_S_17 _) h30 rfl ?_
  refine z_lload_n kd_S_sumAt_4 1 rfl ?_
  refine z_lconst (v := 1) kd_S_sumAt_5 (by decide +kernel) ?_
  refine z_lsub kd_S_sumAt_6 ?_
  refine z_callS (As := [_, _]) kd_S_sumAt_7 (kg_S_33 _) (c_S_fillPowers32 ht1 h32) rfl rfl (Nat.le_of_ble_eq_true rfl) ⟨Nat.le_of_ble_eq_true rfl, Nat.le_of_ble_eq_true rfl⟩ ⟨Nat.le_of_ble_eq_true rfl, Nat.le_of_ble_eq_true rfl⟩ ?_
  rintro _ _ _ ⟨hv, rfl, g32, hg32, rfl⟩
  cases hv
  refine z_eq (st' := []) rfl rfl rfl rfl ?_
  refine z_upd (fun σ_1 x32_1 q_1 => ?_)
  have hN_1 := hN.fr q_1 (by omega)
  have h5_1 := (q_1 5 (by omega)).trans h5
  have h6_1 := (q_1 6 (by omega)).trans h6
  have x30_1 := (q_1 30 (by omega)).trans h30
  have x33_1 := (q_1 33 (by omega)).trans h33
  have hJ_1 := hJ.fr q_1 (by omega)
  have hE_1 := hE.fr q_1 (by omega)
  refine z_aload_n kd_S_sumAt_10 0 rfl ?_
  refine z_get kd_S_sumAt_11 (kf_S_21 _) x30_1 rfl ?_
  refine z_lload_n kd_S_sumAt_14 2 rfl ?_
  refine z_callS (As := [_, _]) kd_S_sumAt_15 (kg_S_33 _) (c_S_fillPowers33 ht1 x33_1) rfl rfl (Nat.le_of_ble_eq_true rfl) ⟨Nat.le_of_ble_eq_true rfl, Nat.le_of_ble_eq_true rfl⟩ ⟨Nat.le_of_ble_eq_true rfl, Nat.le_of_ble_eq_true rfl⟩ ?_
  rintro _ _ _ ⟨hv, rfl, g33, hg33, rfl⟩
  cases hv
  refine z_eq (st' := []) rfl rfl rfl rfl ?_
  refine z_upd (fun σ_2 x33_2 q_2 => ?_)
  have hN_2 := hN_1.fr q_2 (by omega)
  have h5_2 := (q_2 5 (by omega)).trans h5_1
  have h6_2 := (q_2 6 (by omega)).trans h6_1
  have x30_2 := (q_2 30 (by omega)).trans x30_1
  have x32_2 := (q_2 32 (by omega)).trans x32_1
  have hJ_2 := hJ_1.fr q_2 (by omega)
  have hE_2 := hE_1.fr q_2 (by omega)
  refine z_aload_n kd_S_sumAt_18 0 rfl ?_
  refine z_get kd_S_sumAt_19 (kf_S_24 _) x30_2 rfl ?_
  refine z_aload_n kd_S_sumAt_22 0 rfl ?_
  refine z_get kd_S_sumAt_23 (kf_S_28 _) x30_2 rfl ?_
  refine z_callV (a := 1) (As := [_]) kd_S_sumAt_26 (kg_S_37 _) hN_2.h1 kc_N (c_N_firstTrees ht0 ht1 ht3 hN_2 ⟨_, _, _, h5_2, h6_2⟩) rfl rfl (Nat.le_of_ble_eq_true rfl) ⟨Nat.le_of_ble_eq_true rfl, Nat.le_of_ble_eq_true rfl⟩ ⟨Nat.le_of_ble_eq_true rfl, Nat.le_of_ble_eq_true rfl⟩ ?_
  rintro _ _ σ_3 ⟨hv, rfl, hP_3, q_3⟩
  cases hv
  refine z_eq (st' := [_]) rfl rfl rfl rfl ?_
  have hN_3 := hN_2.fr q_3 (by omega)
  have x30_3 := (q_3 30 (by omega)).trans x30_2
  have x32_3 := (q_3 32 (by omega)).trans x32_2
  have x33_3 := (q_3 33 (by omega)).trans x33_2
  have hJ_3 := hJ_2.fr q_3 (by omega)
  have hE_3 := hE_2.fr q_3 (by omega)
  refine z_pop kd_S_sumAt_29 rfl ?_
  refine z_aload_n kd_S_sumAt_30 0 rfl ?_
  refine z_aload_n kd_S_sumAt_31 0 rfl ?_
  refine z_get kd_S_sumAt_32 (kf_S_28 _) x30_3 rfl ?_
  refine z_get kd_S_sumAt_35 (kf_S_43 _) hP_3.1 rfl ?_
  refine z_putE (fs' := [_, _, _, _, _, _]) kd_S_sumAt_38 (kp_S_47 _) x30_3 (Nat.le_of_ble_eq_true rfl) rfl rfl rfl ?_
  refine z_upd (fun σ_4 x30_4 q_4 => ?_)
  have hN_4 := hN_3.fr q_4 (by omega)
  have hP_4 := hP_3.fr q_4 (by omega)
  have x32_4 := (q_4 32 (by omega)).trans x32_3
  have x33_4 := (q_4 33 (by omega)).trans x33_3
  have hJ_4 := hJ_3.fr q_4 (by omega)
  have hE_4 := hE_3.fr q_4 (by omega)
  refine z_aload_n kd_S_sumAt_41 0 rfl ?_
  refine z_get kd_S_sumAt_42 (kf_S_11 _) x30_4 rfl ?_
  refine z_iconst (v := 0) kd_S_sumAt_45 (by decide) ?_
  obtain ⟨fj, hj31, hfj⟩ := id hJ_4
  refine z_aaldRN kd_S_sumAt_46 ht4 hj31 (show 0 < 10 by decide) (by decide) (hfj 0 (by decide)) ?_
  refine z_aload_n kd_S_sumAt_47 0 rfl ?_
  refine z_get kd_S_sumAt_48 (kf_S_24 _) x30_4 rfl ?_
  refine z_get kd_S_sumAt_51 (kf_S_50 _) hN_4.h1 rfl ?_
  obtain ⟨z0, z1, z2, z3, z4⟩ := hE_4 0 (by decide)
  refine z_callV (a := 34) (As := [_]) kd_S_sumAt_54 (kg_S_53 _) z3 kc_P (c_P_splitS ht0 (a := 34) (n := n) hn ⟨z0, z1, z2, z3, z4⟩) rfl rfl (Nat.le_of_ble_eq_true rfl) ⟨Nat.le_of_ble_eq_true rfl, Nat.le_of_ble_eq_true rfl⟩ ⟨Nat.le_of_ble_eq_true rfl, Nat.le_of_ble_eq_true rfl⟩ ?_
  rintro _ _ σ_5 ⟨hv, rfl, hK, q_5⟩
  cases hv
  refine z_eq (st' := []) rfl rfl rfl rfl ?_
  have hN_5 := hN_4.fr q_5 (by omega)
  have hP_5 := hP_4.fr q_5 (by omega)
  have x30_5 := (q_5 30 (by omega)).trans x30_4
  have x32_5 := (q_5 32 (by omega)).trans x32_4
  have x33_5 := (q_5 33 (by omega)).trans x33_4
  have hJ_5 := hJ_4.fr q_5 (by omega)
  have hE9 : ∀ i, 0 < i → i < 10 → PA b cI σ_5 (34 + 2 * i) := fun i h1 h2 => (hE_4 i h2).fr q_5 (by omega)
  refine z_aload_n kd_S_sumAt_57 0 rfl ?_
  refine z_iconst (v := 0) kd_S_sumAt_58 (by decide) ?_
  refine z_iconst (v := 0) kd_S_sumAt_59 (by decide) ?_
  refine z_callS (As := [_, _, _]) kd_S_sumAt_60 (kg_S_57 _) (c_S_sumFrom ht0 ht1 ht3 ht4 ha14 hf1 a 0 0 _ _ n (fun v => v) (by omega) (by omega) hN_5 hK hE9 x30_5 hJ_5 x32_5 x33_5 ho) rfl rfl (Nat.le_of_ble_eq_true rfl) ⟨by dsimp only; omega, by dsimp only; omega⟩ ⟨Nat.le_of_ble_eq_true rfl, Nat.le_of_ble_eq_true rfl⟩ ?_
  rintro _ _ σ8 ⟨hv, rfl, hE8, q8⟩
  cases hv
  refine z_eq (st' := [_]) rfl rfl rfl rfl ?_
  exact z_lret kd_S_sumAt_63 rfl (Nat.le_of_ble_eq_true rfl) (Nat.le_of_ble_eq_true rfl) ⟨by unfold ptV; rw [sfV_congr hg32 hg33 ha14 a 0 n _ hn], rfl, (hP_5.fr q8 (by omega)).pa, fun i hi => by
      by_cases h0 : i = 0
      · subst h0; exact (hK.fr q8 (by omega)).pa
      · exact hE8 i (by omega) hi,
      ⟨_, (q8 30 (by omega)).trans x30_5⟩, hJ_5.fr q8 (by omega), ⟨_, (q8 32 (by omega)).trans x32_5⟩, ⟨_, (q8 33 (by omega)).trans x33_5⟩, (((((F2.rf.tr q_1 (by omega)).tr q_2 (by omega)).tr q_3 (by omega)).tr q_4 (by omega)).tr q_5 (by omega)).tr q8 (by omega)⟩
