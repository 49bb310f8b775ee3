def resV (n a : Nat) (F T : Nat → Nat) (w : Nat → Int32) (x y : Int32) (s : Int32) : Int64 := if sopV n 0 a F T w (fun v => v) = 0 then -1 else if cdV (apartV n a F T w x y) (sopV n 0 a F T w (fun v => v)) = 0 then -1 else (if s = 0 then apartV n a F T w x y else sopV n 0 a F T w (fun v => v)) / cdV (apartV n a F T w x y) (sopV n 0 a F T w (fun v => v))
set_option maxHeartbeats 4000000 in
set_option maxRecDepth 100000 in
theorem c_C_resistance0 {l : Launch} {D : va_G} {tys : List (ClassId × FieldType)} {b N : Nat} {σ : Nat → Option va_E} {cI cJ cA : ClassId} (ht0 : tys[0]? = some (cI, .int)) (ht1 : tys[1]? = some (cJ, .long)) (ht3 : tys[3]? = some (cA, .array .long)) {cP : ClassId} {n a : Nat} {gf gt gw : Nat → Int32} {F T : Nat → Nat} {C K : Nat → Int64} (hC : CS b cI cJ cA cP σ n a gf gt gw F T C K) {u v : Nat} (hz : zIn (nI u) (nI n) = true) (hz2 : zIn (nI v) (nI n) = true) : zM l D kCl tys kNw b ky_C_resistance (kh_C_resistance :: zT) 22 750 0 0 [.ref (b + 0), .int (nI u), .int (nI v), .int 0] N σ ((fun oc N' σ' => oc = .returned (some (.long (resV n a F T gw (nI u) (nI v) 0))) ∧ N' = N ∧ CS b cI cJ cA cP σ' n a gf gt gw F T C K ∧ Fr 0 53 σ σ')) := by
  refine zM.of (by decide +kernel) rfl (Nat.le_of_ble_eq_true rfl) ?_
  refine z_pick (lv' := [(0, .ref (b + 0)), (1, .int (nI u)), (2, .int (nI v)), (3, .int 0)]) [0, 1, 2, 3] rfl ?_
  obtain ⟨hN, h26, h27, c0, ⟨u5, x5, g5, h5, h6⟩, ⟨s0, M0, hS0⟩, ⟨v19, w19, h19⟩, rs, us, h25, tr, ss, pe⟩ := id hC
  have hn := hN.hn
  have ha := hN.ha
  refine z_aload_n kd_C_resistance_0 0 rfl ?_
  refine z_get kd_C_resistance_1 (kf_C_10 _) c0 rfl ?_
  refine z_iload_n kd_C_resistance_4 1 rfl ?_
  refine z_V1 (a := 1) (As := [_]) kd_C_resistance_5 (kg_C_69 _) hN.h1 kc_N (c_N_hasNode hN.h1) rfl rfl (Nat.le_of_ble_eq_true rfl) ⟨Nat.le_of_ble_eq_true rfl, Nat.le_of_ble_eq_true rfl⟩ ⟨Nat.le_of_ble_eq_true rfl, Nat.le_of_ble_eq_true rfl⟩ ?_
  refine z_topi (show zB (zIn (nI u) (nI n)) = 1 by rw [hz]; rfl) ?_
  refine z_if_eq (tgt := 31) kd_C_resistance_8 (by decide) (fun c8 => absurd c8 (by decide)) (fun c8 => ?_)
  refine z_aload_n kd_C_resistance_11 0 rfl ?_
  refine z_get kd_C_resistance_12 (kf_C_10 _) c0 rfl ?_
  refine z_iload_n kd_C_resistance_15 2 rfl ?_
  refine z_V1 (a := 1) (As := [_]) kd_C_resistance_16 (kg_C_69 _) hN.h1 kc_N (c_N_hasNode hN.h1) rfl rfl (Nat.le_of_ble_eq_true rfl) ⟨Nat.le_of_ble_eq_true rfl, Nat.le_of_ble_eq_true rfl⟩ ⟨Nat.le_of_ble_eq_true rfl, Nat.le_of_ble_eq_true rfl⟩ ?_
  refine z_topi (show zB (zIn (nI v) (nI n)) = 1 by rw [hz2]; rfl) ?_
  refine z_if_eq (tgt := 31) kd_C_resistance_19 (by decide) (fun c19 => absurd c19 (by decide)) (fun c19 => ?_)
  refine z_iload_n kd_C_resistance_22 3 rfl ?_
  refine z_if_lt (tgt := 31) kd_C_resistance_23 (by decide) (fun c23 => absurd c23 (by decide)) (fun c23 => ?_)
  refine z_iload_n kd_C_resistance_26 3 rfl ?_
  refine z_iconst (v := 1) kd_C_resistance_27 (by decide) ?_
  refine z_icmp_le (tgt := 35) kd_C_resistance_28 (by decide) (fun c28 => ?_) (fun c28 => absurd c28 (by decide))
  refine z_aload_n kd_C_resistance_35 0 rfl ?_
  refine z_get kd_C_resistance_36 (kf_C_27 _) c0 rfl ?_
  refine z_callV (a := 19) (As := []) kd_C_resistance_39 (kg_C_92 _) h19 kc_T (c_T_sumOfAll ht0 ht1 ht3 hN h19 ⟨_, _, _, h5, h6⟩ ⟨_, _, hS0⟩) rfl rfl (Nat.le_of_ble_eq_true rfl) ⟨Nat.le_of_ble_eq_true rfl, Nat.le_of_ble_eq_true rfl⟩ ⟨Nat.le_of_ble_eq_true rfl, Nat.le_of_ble_eq_true rfl⟩ ?_
  rintro _ _ σ_1 ⟨hv, rfl, ⟨u5_1, x5_1, g5_1, h5_1, h6_1⟩, ⟨s_1, M_1, hS_1⟩, q_1⟩
  cases hv
  refine z_eq (st' := [_]) rfl rfl rfl rfl ?_
  have hN_1 := hN.fr q_1 (by omega)
  have x0_1 := (q_1 0 (by omega)).trans c0
  have x19_1 := (q_1 19 (by omega)).trans h19
  refine z_lstore (lv' := [(4, .long _), (0, .ref (b + 0)), (1, .int _), (2, .int _), (3, .int _)]) kd_C_resistance_42 (by decide) rfl ?_
  refine z_lload kd_C_resistance_44 0 rfl ?_
  refine z_lconst (v := 0) kd_C_resistance_46 (by decide +kernel) ?_
  refine z_lcmp kd_C_resistance_47 ?_
  refine z_if_ne (tgt := 55) kd_C_resistance_48 (by decide) (fun c48 => ?_) (fun c48 => ?_)
  · have hb : ¬ sopV n 0 a F T gw (fun v => v) = 0 := fun q => c48 ((lg_cmp_0 _ _).mpr q)
    refine z_aload_n kd_C_resistance_55 1 rfl ?_
    refine z_iload_n kd_C_resistance_56 2 rfl ?_
    refine z_iload_n kd_C_resistance_57 3 rfl ?_
    have hC1 := hC.r5 ⟨_, _, _, h5_1, h6_1⟩ ⟨_, _, hS_1⟩ (Fr.tr Fr.rf (q_1.wide (by omega) (by omega)))
    have hF1 : Fr 5 18 σ _ := (Fr.tr Fr.rf (q_1.wide (by omega) (by omega)))
    refine z_callV (a := 0) (As := [_, _]) kd_C_resistance_58 (kg_C_112 _) x0_1 kc_C (c_C_apart ht0 ht1 ht3 hC1) rfl rfl (Nat.le_of_ble_eq_true rfl) ⟨Nat.le_of_ble_eq_true rfl, Nat.le_of_ble_eq_true rfl⟩ ⟨Nat.le_of_ble_eq_true rfl, Nat.le_of_ble_eq_true rfl⟩ ?_
    rintro _ _ σ2 ⟨hv2, rfl, hC2, q2⟩
    cases hv2
    refine z_eq (st' := [_]) rfl rfl rfl rfl ?_
    have q02 : Fr 0 53 σ σ2 := Fr.tr (hF1.wide (by omega) (by omega)) q2
    refine z_lstore (lv' := [(6, .long _), (4, .long _), (0, .ref (b + 0)), (1, .int _), (2, .int _), (3, .int _)]) kd_C_resistance_61 (by decide) rfl ?_
    refine z_lload kd_C_resistance_63 0 rfl ?_
    refine z_lload kd_C_resistance_65 1 rfl ?_
    refine z_S1 (As := [_, _]) kd_C_resistance_67 (kg_C_115 _) (c_C_commonDivisor) rfl rfl (Nat.le_of_ble_eq_true rfl) ⟨Nat.le_of_ble_eq_true rfl, Nat.le_of_ble_eq_true rfl⟩ ⟨Nat.le_of_ble_eq_true rfl, Nat.le_of_ble_eq_true rfl⟩ ?_
    refine z_lstore (lv' := [(8, .long _), (6, .long _), (4, .long _), (0, .ref (b + 0)), (1, .int _), (2, .int _), (3, .int _)]) kd_C_resistance_70 (by decide) rfl ?_
    refine z_lload kd_C_resistance_72 0 rfl ?_
    refine z_lconst (v := 0) kd_C_resistance_74 (by decide +kernel) ?_
    refine z_lcmp kd_C_resistance_75 ?_
    refine z_if_ne (tgt := 83) kd_C_resistance_76 (by decide) (fun c76 => ?_) (fun c76 => ?_)
    · have hsh : ¬ cdV (apartV n a F T gw (nI u) (nI v)) (sopV n 0 a F T gw (fun v => v)) = 0 := fun q => c76 ((lg_cmp_0 _ _).mpr q)
      refine z_iload_n kd_C_resistance_83 6 rfl ?_
      refine z_if_ne (tgt := 92) kd_C_resistance_84 (by decide) (fun c84 => absurd c84 (by decide)) (fun c84 => ?_)
      refine z_lload kd_C_resistance_87 1 rfl ?_
      refine z_goto (tgt := 94) kd_C_resistance_89 (by decide) ?_
      refine z_lload kd_C_resistance_94 0 rfl ?_
      refine z_ldiv kd_C_resistance_96 hsh ?_
      exact z_lret kd_C_resistance_97 rfl (Nat.le_of_ble_eq_true rfl) (Nat.le_of_ble_eq_true rfl) ⟨by unfold resV; rw [if_neg hb, if_neg hsh]; rfl, rfl, hC2, q02⟩
    · have hsh : cdV (apartV n a F T gw (nI u) (nI v)) (sopV n 0 a F T gw (fun v => v)) = 0 := (lg_cmp_0 _ _).mp c76
      refine z_ldc2 (v := -1) kd_C_resistance_79 (List.mem_cons_of_mem _ (zin 418 rfl rfl)) ?_
      exact z_lret kd_C_resistance_82 rfl (Nat.le_of_ble_eq_true rfl) (Nat.le_of_ble_eq_true rfl) ⟨by unfold resV; rw [if_neg hb, if_pos hsh], rfl, hC2, q02⟩
  · have hb : sopV n 0 a F T gw (fun v => v) = 0 := (lg_cmp_0 _ _).mp c48
    refine z_ldc2 (v := -1) kd_C_resistance_51 (List.mem_cons_of_mem _ (zin 418 rfl rfl)) ?_
    exact z_lret kd_C_resistance_54 rfl (Nat.le_of_ble_eq_true rfl) (Nat.le_of_ble_eq_true rfl) ⟨by unfold resV; rw [if_pos hb], rfl, hC.r5 ⟨_, _, _, h5_1, h6_1⟩ ⟨_, _, hS_1⟩ (Fr.tr Fr.rf (q_1.wide (by omega) (by omega))), Fr.wide (show Fr 5 18 σ _ from (Fr.tr Fr.rf (q_1.wide (by omega) (by omega)))) (by omega) (by omega)⟩
set_option maxHeartbeats 4000000 in
set_option maxRecDepth 100000 in
theorem c_C_resistance1 {l : Launch} {D : va_G} {tys : List (ClassId × FieldType)} {b N : Nat} {σ : Nat → Option va_E} {cI cJ cA : ClassId} (ht0 : tys[0]? = some (cI, .int)) (ht1 : tys[1]? = some (cJ, .long)) (ht3 : tys[3]? = some (cA, .array .long)) {cP : ClassId} {n a : Nat} {gf gt gw : Nat → Int32} {F T : Nat → Nat} {C K : Nat → Int64} (hC : CS b cI cJ cA cP σ n a gf gt gw F T C K) {u v : Nat} (hz : zIn (nI u) (nI n) = true) (hz2 : zIn (nI v) (nI n) = true) : zM l D kCl tys kNw b ky_C_resistance (kh_C_resistance :: zT) 22 750 0 0 [.ref (b + 0), .int (nI u), .int (nI v), .int 1] N σ ((fun oc N' σ' => oc = .returned (some (.long (resV n a F T gw (nI u) (nI v) 1))) ∧ N' = N ∧ CS b cI cJ cA cP σ' n a gf gt gw F T C K ∧ Fr 0 53 σ σ')) := by
  refine zM.of (by decide +kernel) rfl (Nat.le_of_ble_eq_true rfl) ?_
  refine z_pick (lv' := [(0, .ref (b + 0)), (1, .int (nI u)), (2, .int (nI v)), (3, .int 1)]) [0, 1, 2, 3] rfl ?_
  obtain ⟨hN, h26, h27, c0, ⟨u5, x5, g5, h5, h6⟩, ⟨s0, M0, hS0⟩, ⟨v19, w19, h19⟩, rs, us, h25, tr, ss, pe⟩ := id hC
  have hn := hN.hn
  have ha := hN.ha
  refine z_aload_n kd_C_resistance_0 0 rfl ?_
  refine z_get kd_C_resistance_1 (kf_C_10 _) c0 rfl ?_
  refine z_iload_n kd_C_resistance_4 1 rfl ?_
  refine z_V1 (a := 1) (As := [_]) kd_C_resistance_5 (kg_C_69 _) hN.h1 kc_N (c_N_hasNode hN.h1) rfl rfl (Nat.le_of_ble_eq_true rfl) ⟨Nat.le_of_ble_eq_true rfl, Nat.le_of_ble_eq_true rfl⟩ ⟨Nat.le_of_ble_eq_true rfl, Nat.le_of_ble_eq_true rfl⟩ ?_
  refine z_topi (show zB (zIn (nI u) (nI n)) = 1 by rw [hz]; rfl) ?_
  refine z_if_eq (tgt := 31) kd_C_resistance_8 (by decide) (fun c8 => absurd c8 (by decide)) (fun c8 => ?_)
  refine z_aload_n kd_C_resistance_11 0 rfl ?_
  refine z_get kd_C_resistance_12 (kf_C_10 _) c0 rfl ?_
  refine z_iload_n kd_C_resistance_15 2 rfl ?_
  refine z_V1 (a := 1) (As := [_]) kd_C_resistance_16 (kg_C_69 _) hN.h1 kc_N (c_N_hasNode hN.h1) rfl rfl (Nat.le_of_ble_eq_true rfl) ⟨Nat.le_of_ble_eq_true rfl, Nat.le_of_ble_eq_true rfl⟩ ⟨Nat.le_of_ble_eq_true rfl, Nat.le_of_ble_eq_true rfl⟩ ?_
  refine z_topi (show zB (zIn (nI v) (nI n)) = 1 by rw [hz2]; rfl) ?_
  refine z_if_eq (tgt := 31) kd_C_resistance_19 (by decide) (fun c19 => absurd c19 (by decide)) (fun c19 => ?_)
  refine z_iload_n kd_C_resistance_22 3 rfl ?_
  refine z_if_lt (tgt := 31) kd_C_resistance_23 (by decide) (fun c23 => absurd c23 (by decide)) (fun c23 => ?_)
  refine z_iload_n kd_C_resistance_26 3 rfl ?_
  refine z_iconst (v := 1) kd_C_resistance_27 (by decide) ?_
  refine z_icmp_le (tgt := 35) kd_C_resistance_28 (by decide) (fun c28 => ?_) (fun c28 => absurd c28 (by decide))
  refine z_aload_n kd_C_resistance_35 0 rfl ?_
  refine z_get kd_C_resistance_36 (kf_C_27 _) c0 rfl ?_
  refine z_callV (a := 19) (As := []) kd_C_resistance_39 (kg_C_92 _) h19 kc_T (c_T_sumOfAll ht0 ht1 ht3 hN h19 ⟨_, _, _, h5, h6⟩ ⟨_, _, hS0⟩) rfl rfl (Nat.le_of_ble_eq_true rfl) ⟨Nat.le_of_ble_eq_true rfl, Nat.le_of_ble_eq_true rfl⟩ ⟨Nat.le_of_ble_eq_true rfl, Nat.le_of_ble_eq_true rfl⟩ ?_
  rintro _ _ σ_1 ⟨hv, rfl, ⟨u5_1, x5_1, g5_1, h5_1, h6_1⟩, ⟨s_1, M_1, hS_1⟩, q_1⟩
  cases hv
  refine z_eq (st' := [_]) rfl rfl rfl rfl ?_
  have hN_1 := hN.fr q_1 (by omega)
  have x0_1 := (q_1 0 (by omega)).trans c0
  have x19_1 := (q_1 19 (by omega)).trans h19
  refine z_lstore (lv' := [(4, .long _), (0, .ref (b + 0)), (1, .int _), (2, .int _), (3, .int _)]) kd_C_resistance_42 (by decide) rfl ?_
  refine z_lload kd_C_resistance_44 0 rfl ?_
  refine z_lconst (v := 0) kd_C_resistance_46 (by decide +kernel) ?_
  refine z_lcmp kd_C_resistance_47 ?_
  refine z_if_ne (tgt := 55) kd_C_resistance_48 (by decide) (fun c48 => ?_) (fun c48 => ?_)
  · have hb : ¬ sopV n 0 a F T gw (fun v => v) = 0 := fun q => c48 ((lg_cmp_0 _ _).mpr q)
    refine z_aload_n kd_C_resistance_55 1 rfl ?_
    refine z_iload_n kd_C_resistance_56 2 rfl ?_
    refine z_iload_n kd_C_resistance_57 3 rfl ?_
    have hC1 := hC.r5 ⟨_, _, _, h5_1, h6_1⟩ ⟨_, _, hS_1⟩ (Fr.tr Fr.rf (q_1.wide (by omega) (by omega)))
    have hF1 : Fr 5 18 σ _ := (Fr.tr Fr.rf (q_1.wide (by omega) (by omega)))
    refine z_callV (a := 0) (As := [_, _]) kd_C_resistance_58 (kg_C_112 _) x0_1 kc_C (c_C_apart ht0 ht1 ht3 hC1) rfl rfl (Nat.le_of_ble_eq_true rfl) ⟨Nat.le_of_ble_eq_true rfl, Nat.le_of_ble_eq_true rfl⟩ ⟨Nat.le_of_ble_eq_true rfl, Nat.le_of_ble_eq_true rfl⟩ ?_
    rintro _ _ σ2 ⟨hv2, rfl, hC2, q2⟩
    cases hv2
    refine z_eq (st' := [_]) rfl rfl rfl rfl ?_
    have q02 : Fr 0 53 σ σ2 := Fr.tr (hF1.wide (by omega) (by omega)) q2
    refine z_lstore (lv' := [(6, .long _), (4, .long _), (0, .ref (b + 0)), (1, .int _), (2, .int _), (3, .int _)]) kd_C_resistance_61 (by decide) rfl ?_
    refine z_lload kd_C_resistance_63 0 rfl ?_
    refine z_lload kd_C_resistance_65 1 rfl ?_
    refine z_S1 (As := [_, _]) kd_C_resistance_67 (kg_C_115 _) (c_C_commonDivisor) rfl rfl (Nat.le_of_ble_eq_true rfl) ⟨Nat.le_of_ble_eq_true rfl, Nat.le_of_ble_eq_true rfl⟩ ⟨Nat.le_of_ble_eq_true rfl, Nat.le_of_ble_eq_true rfl⟩ ?_
    refine z_lstore (lv' := [(8, .long _), (6, .long _), (4, .long _), (0, .ref (b + 0)), (1, .int _), (2, .int _), (3, .int _)]) kd_C_resistance_70 (by decide) rfl ?_
    refine z_lload kd_C_resistance_72 0 rfl ?_
    refine z_lconst (v := 0) kd_C_resistance_74 (by decide +kernel) ?_
    refine z_lcmp kd_C_resistance_75 ?_
    refine z_if_ne (tgt := 83) kd_C_resistance_76 (by decide) (fun c76 => ?_) (fun c76 => ?_)
    · have hsh : ¬ cdV (apartV n a F T gw (nI u) (nI v)) (sopV n 0 a F T gw (fun v => v)) = 0 := fun q => c76 ((lg_cmp_0 _ _).mpr q)
      refine z_iload_n kd_C_resistance_83 6 rfl ?_
      refine z_if_ne (tgt := 92) kd_C_resistance_84 (by decide) (fun c84 => ?_) (fun c84 => absurd c84 (by decide))
      refine z_lload kd_C_resistance_92 2 rfl ?_
      refine z_lload kd_C_resistance_94 0 rfl ?_
      refine z_ldiv kd_C_resistance_96 hsh ?_
      exact z_lret kd_C_resistance_97 rfl (Nat.le_of_ble_eq_true rfl) (Nat.le_of_ble_eq_true rfl) ⟨by unfold resV; rw [if_neg hb, if_neg hsh]; rfl, rfl, hC2, q02⟩
    · have hsh : cdV (apartV n a F T gw (nI u) (nI v)) (sopV n 0 a F T gw (fun v => v)) = 0 := (lg_cmp_0 _ _).mp c76
      refine z_ldc2 (v := -1) kd_C_resistance_79 (List.mem_cons_of_mem _ (zin 418 rfl rfl)) ?_
      exact z_lret kd_C_resistance_82 rfl (Nat.le_of_ble_eq_true rfl) (Nat.le_of_ble_eq_true rfl) ⟨by unfold resV; rw [if_neg hb, if_pos hsh], rfl, hC2, q02⟩
  · have hb : sopV n 0 a F T gw (fun v => v) = 0 := (lg_cmp_0 _ _).mp c48
    refine z_ldc2 (v := -1) kd_C_resistance_51 (List.mem_cons_of_mem _ (zin 418 rfl rfl)) ?_
    exact z_lret kd_C_resistance_54 rfl (Nat.le_of_ble_eq_true rfl) (Nat.le_of_ble_eq_true rfl) ⟨by unfold resV; rw [if_pos hb], rfl, hC.r5 ⟨_, _, _, h5_1, h6_1⟩ ⟨_, _, hS_1⟩ (Fr.tr Fr.rf (q_1.wide (by omega) (by omega))), Fr.wide (show Fr 5 18 σ _ from (Fr.tr Fr.rf (q_1.wide (by omega) (by omega)))) (by omega) (by omega)⟩
