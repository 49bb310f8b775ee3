set_option maxHeartbeats 4000000 in
set_option maxRecDepth 100000 in
theorem c_C_clear {l : Launch} {D : va_G} {tys : List (ClassId × FieldType)} {b N : Nat} {σ : Nat → Option va_E} {cI cJ cA : ClassId} (ht0 : tys[0]? = some (cI, .int)) (ht1 : tys[1]? = some (cJ, .long)) (ht3 : tys[3]? = some (cA, .array .long)) {cP : ClassId} {n a : Nat} {gf gt gw : Nat → Int32} {F T : Nat → Nat} {C K : Nat → Int64} (hC : CS b cI cJ cA cP σ n a gf gt gw F T C K) : zM l D kCl tys kNw b ky_C_clear (kh_C_clear :: zT) 20 700 0 0 [.ref (b + 0)] N σ ((fun oc N' σ' => oc = .returned none ∧ N' = N ∧ ∃ f g : Nat → Int64, (∀ j, j < 10 → f j = 0 ∧ g j = 0) ∧ CS b cI cJ cA cP σ' 0 0 gf gt gw F T f g ∧ Fr 0 53 σ σ')) := by
  refine zM.of (by decide +kernel) rfl (Nat.le_of_ble_eq_true rfl) ?_
  refine z_pick (lv' := [(0, .ref (b + 0))]) [0] rfl ?_
  obtain ⟨hN, h26, h27, c0, ⟨u5, x5, g5, h5, h6⟩, ⟨s0, M0, hS0⟩, ⟨v19, w19, h19⟩, rs, us, h25, tr, ss, pe⟩ := id hC
  have hn := hN.hn
  have ha := hN.ha
  refine z_aload_n kd_C_clear_0 0 rfl ?_
  refine z_get kd_C_clear_1 (kf_C_10 _) c0 rfl ?_
  refine z_iconst (v := 0) kd_C_clear_4 (by decide) ?_
  refine z_putE (fs' := [_, _, _, _, _]) kd_C_clear_5 (kp_C_65 _) hN.h1 (Nat.le_of_ble_eq_true rfl) rfl rfl rfl ?_
  refine z_upd (fun σ_1 x1_1 q_1 => ?_)
  have x0_1 := (q_1 0 (by omega)).trans c0
  have x2_1 := (q_1 2 (by omega)).trans hN.h2
  have x3_1 := (q_1 3 (by omega)).trans hN.h3
  have x4_1 := (q_1 4 (by omega)).trans hN.h4
  have x25_1 := (q_1 25 (by omega)).trans h25
  have x26_1 := (q_1 26 (by omega)).trans h26
  have x27_1 := (q_1 27 (by omega)).trans h27
  refine z_aload_n kd_C_clear_8 0 rfl ?_
  refine z_get kd_C_clear_9 (kf_C_10 _) x0_1 rfl ?_
  refine z_iconst (v := 0) kd_C_clear_12 (by decide) ?_
  refine z_putE (fs' := [_, _, _, _, _]) kd_C_clear_13 (kp_C_76 _) x1_1 (Nat.le_of_ble_eq_true rfl) rfl rfl rfl ?_
  refine z_upd (fun σ_2 x1_2 q_2 => ?_)
  have x0_2 := (q_2 0 (by omega)).trans x0_1
  have x2_2 := (q_2 2 (by omega)).trans x2_1
  have x3_2 := (q_2 3 (by omega)).trans x3_1
  have x4_2 := (q_2 4 (by omega)).trans x4_1
  have x25_2 := (q_2 25 (by omega)).trans x25_1
  have x26_2 := (q_2 26 (by omega)).trans x26_1
  have x27_2 := (q_2 27 (by omega)).trans x27_1
  refine z_aload_n kd_C_clear_16 0 rfl ?_
  refine z_get kd_C_clear_17 (kf_C_54 _) x0_2 rfl ?_
  have hC1 := hC.r1 (n' := 0) (a' := 0) (gf' := gf) (gt' := gt) (gw' := gw) (F' := F) (T' := T) ⟨x1_2, x2_2, x3_2, x4_2, by omega, by omega, fun k hk => absurd hk (Nat.not_lt_zero k)⟩ (Fr.tr (Fr.tr Fr.rf (q_1.wide (by omega) (by omega))) (q_2.wide (by omega) (by omega)))
  have hF1 : Fr 1 4 σ _ := (Fr.tr (Fr.tr Fr.rf (q_1.wide (by omega) (by omega))) (q_2.wide (by omega) (by omega)))
  refine z_callV (a := 25) (As := []) kd_C_clear_20 (kg_C_180 _) x25_2 kc_L (c_L_empty ht1 x25_2 x26_2 x27_2) rfl rfl (Nat.le_of_ble_eq_true rfl) ⟨Nat.le_of_ble_eq_true rfl, Nat.le_of_ble_eq_true rfl⟩ ⟨Nat.le_of_ble_eq_true rfl, Nat.le_of_ble_eq_true rfl⟩ ?_
  rintro _ _ _ ⟨hv, rfl, f, g, hz, rfl⟩
  cases hv
  refine z_eq (st' := []) rfl rfl rfl rfl ?_
  exact z_vret kd_C_clear_23 rfl (Nat.le_of_ble_eq_true rfl) (Nat.le_of_ble_eq_true rfl) ⟨rfl, rfl, f, g, hz, hC1.r67 (hC1.2.2.2.2.1.fr ((Fr.rf (lo := 26) (hi := 27)).up (by omega) (by omega) |>.up (by omega) (by omega)) (by omega)) (hC1.2.2.2.2.2.1.fr ((Fr.rf (lo := 26) (hi := 27)).up (by omega) (by omega) |>.up (by omega) (by omega)) (by omega)) ((zUp_n (by decide)).trans (zUp_s _ _ _)) (zUp_s _ _ _) (fun k h1 h2 => (zUp_n (by omega)).trans (zUp_n (by omega))), fun k hk => (zUp_n (by omega)).trans ((zUp_n (by omega)).trans (hF1 k (by omega)))⟩
