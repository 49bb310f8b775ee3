def groupV (n a : Nat) (F T : Nat → Nat) (w : Nat → Int32) (k : Nat) (G : Nat → Int64) : Int64 := if k < (gpV n a F T w G).1 then (gpV n a F T w G).2 (n - (gpV n a F T w G).1 + k) else -1
set_option maxHeartbeats 4000000 in
set_option maxRecDepth 100000 in
theorem c_C_group0 {l : Launch} {D : va_G} {tys : List (ClassId × FieldType)} {b N : Nat} {σ : Nat → Option va_E} {cI cJ cA : ClassId} (ht0 : tys[0]? = some (cI, .int)) (ht1 : tys[1]? = some (cJ, .long)) (ht3 : tys[3]? = some (cA, .array .long)) {cP : ClassId} {n a : Nat} {gf gt gw : Nat → Int32} {F T : Nat → Nat} {C K : Nat → Int64} (hC : CS b cI cJ cA cP σ n a gf gt gw F T C K) {x : Int32} (hx : x < 0) : zM l D kCl tys kNw b ky_C_group (kh_C_group :: zT) 20 700 0 0 [.ref (b + 0), .int x] N σ ((fun oc N' σ' => (∃ _ : Nat → Int64, oc = .returned (some (.long ((-1))))) ∧ N' = N ∧ CS b cI cJ cA cP σ' n a gf gt gw F T C K ∧ Fr 0 53 σ σ')) := by
  refine zM.of (by decide +kernel) rfl (Nat.le_of_ble_eq_true rfl) ?_
  refine z_pick (lv' := [(0, .ref (b + 0)), (1, .int x)]) [0, 1] rfl ?_
  obtain ⟨hN, h26, h27, c0, ⟨u5, x5, g5, h5, h6⟩, ⟨s0, M0, hS0⟩, ⟨v19, w19, h19⟩, rs, us, h25, tr, ss, pe⟩ := id hC
  have hn := hN.hn
  have ha := hN.ha
  obtain ⟨⟨cn, vod, cm, tp, to, h23⟩, ⟨G, h24⟩⟩ := id us
  refine z_aload_n kd_C_group_0 0 rfl ?_
  refine z_get kd_C_group_1 (kf_C_45 _) c0 rfl ?_
  refine z_callV (a := 23) (As := []) kd_C_group_4 (kg_C_142 _) h23 kc_U (c_U_find ht0 ht1 ht3 hN h19 ⟨_, _, _, h5, h6⟩ ⟨_, _, hS0⟩ h23 h24) rfl rfl (Nat.le_of_ble_eq_true rfl) ⟨Nat.le_of_ble_eq_true rfl, Nat.le_of_ble_eq_true rfl⟩ ⟨Nat.le_of_ble_eq_true rfl, Nat.le_of_ble_eq_true rfl⟩ ?_
  rintro _ _ σ_1 ⟨hv, rfl, ⟨u5_1, x5_1, g5_1, h5_1, h6_1⟩, ⟨s_1, M_1, hS_1⟩, ⟨cm_1, tp_1, to_1, x23_1⟩, x24_1, q_1⟩
  cases hv
  refine z_eq (st' := []) rfl rfl rfl rfl ?_
  obtain ⟨_, qa_1, qb_1⟩ := F2.two q_1
  have hN_1 := (hN.fr qa_1 (by omega)).fr qb_1 (by omega)
  have x0_1 := (q_1 0 (by omega) (by omega)).trans c0
  have x19_1 := (q_1 19 (by omega) (by omega)).trans h19
  refine z_iload_n kd_C_group_7 1 rfl ?_
  refine z_if_lt (tgt := 33) kd_C_group_8 (by decide) (fun c8 => ?_) (fun c8 => ?_)
  · refine z_ldc2 (v := -1) kd_C_group_33 (List.mem_cons_of_mem _ (zin 418 rfl rfl)) ?_
    exact z_lret kd_C_group_36 rfl (Nat.le_of_ble_eq_true rfl) (Nat.le_of_ble_eq_true rfl) ⟨⟨G, rfl⟩, rfl, hC.r23 ⟨_, _, _, h5_1, h6_1⟩ ⟨_, _, hS_1⟩ ⟨⟨_, _, _, _, _, x23_1⟩, ⟨_, x24_1⟩⟩ (F2.tr3 F2.rf q_1 (by omega)), F2.all (show F2 5 18 23 24 σ _ from (F2.tr3 F2.rf q_1 (by omega))) (by omega) (by omega)⟩
  · exact absurd hx c8
set_option maxHeartbeats 4000000 in
set_option maxRecDepth 100000 in
theorem c_C_group1 {l : Launch} {D : va_G} {tys : List (ClassId × FieldType)} {b N : Nat} {σ : Nat → Option va_E} {cI cJ cA : ClassId} (ht0 : tys[0]? = some (cI, .int)) (ht1 : tys[1]? = some (cJ, .long)) (ht3 : tys[3]? = some (cA, .array .long)) {cP : ClassId} {n a : Nat} {gf gt gw : Nat → Int32} {F T : Nat → Nat} {C K : Nat → Int64} (hC : CS b cI cJ cA cP σ n a gf gt gw F T C K) {k : Nat} (hk31 : k < 2 ^ 31) : zM l D kCl tys kNw b ky_C_group (kh_C_group :: zT) 20 700 0 0 [.ref (b + 0), .int (nI k)] N σ ((fun oc N' σ' => (∃ G, oc = .returned (some (.long (groupV n a F T gw k G)))) ∧ N' = N ∧ CS b cI cJ cA cP σ' n a gf gt gw F T C K ∧ Fr 0 53 σ σ')) := by
  refine zM.of (by decide +kernel) rfl (Nat.le_of_ble_eq_true rfl) ?_
  refine z_pick (lv' := [(0, .ref (b + 0)), (1, .int (nI k))]) [0, 1] rfl ?_
  obtain ⟨hN, h26, h27, c0, ⟨u5, x5, g5, h5, h6⟩, ⟨s0, M0, hS0⟩, ⟨v19, w19, h19⟩, rs, us, h25, tr, ss, pe⟩ := id hC
  have hn := hN.hn
  have ha := hN.ha
  obtain ⟨⟨cn, vod, cm, tp, to, h23⟩, ⟨G, h24⟩⟩ := id us
  have hgl := gpV_le n a F T gw G
  refine z_aload_n kd_C_group_0 0 rfl ?_
  refine z_get kd_C_group_1 (kf_C_45 _) c0 rfl ?_
  refine z_callV (a := 23) (As := []) kd_C_group_4 (kg_C_142 _) h23 kc_U (c_U_find ht0 ht1 ht3 hN h19 ⟨_, _, _, h5, h6⟩ ⟨_, _, hS0⟩ h23 h24) rfl rfl (Nat.le_of_ble_eq_true rfl) ⟨Nat.le_of_ble_eq_true rfl, Nat.le_of_ble_eq_true rfl⟩ ⟨Nat.le_of_ble_eq_true rfl, Nat.le_of_ble_eq_true rfl⟩ ?_
  rintro _ _ σ_1 ⟨hv, rfl, ⟨u5_1, x5_1, g5_1, h5_1, h6_1⟩, ⟨s_1, M_1, hS_1⟩, ⟨cm_1, tp_1, to_1, x23_1⟩, x24_1, q_1⟩
  cases hv
  refine z_eq (st' := []) rfl rfl rfl rfl ?_
  obtain ⟨_, qa_1, qb_1⟩ := F2.two q_1
  have hN_1 := (hN.fr qa_1 (by omega)).fr qb_1 (by omega)
  have x0_1 := (q_1 0 (by omega) (by omega)).trans c0
  have x19_1 := (q_1 19 (by omega) (by omega)).trans h19
  refine z_iload_n kd_C_group_7 1 rfl ?_
  refine z_if_lt (tgt := 33) kd_C_group_8 (by decide) (fun c8 => ?_) (fun c8 => ?_)
  · exact absurd c8 (Int32.not_lt.mpr (nI_le (a := 0) (Nat.zero_le k) hk31))
  · refine z_iload_n kd_C_group_11 1 rfl ?_
    refine z_aload_n kd_C_group_12 0 rfl ?_
    refine z_get kd_C_group_13 (kf_C_45 _) x0_1 rfl ?_
    refine z_get kd_C_group_16 (kf_C_145 _) x23_1 rfl ?_
    refine z_icmp_ge (tgt := 33) kd_C_group_19 (by decide) (fun c19 => ?_) (fun c19 => ?_)
    · have hk : ¬ k < (gpV n a F T gw G).1 := fun q => absurd c19 (nI_ge q (by omega))
      refine z_ldc2 (v := -1) kd_C_group_33 (List.mem_cons_of_mem _ (zin 418 rfl rfl)) ?_
      exact z_lret kd_C_group_36 rfl (Nat.le_of_ble_eq_true rfl) (Nat.le_of_ble_eq_true rfl) ⟨⟨G, by unfold groupV; first | rw [if_pos hk] | rw [if_neg hk]⟩, rfl, hC.r23 ⟨_, _, _, h5_1, h6_1⟩ ⟨_, _, hS_1⟩ ⟨⟨_, _, _, _, _, x23_1⟩, ⟨_, x24_1⟩⟩ (F2.tr3 F2.rf q_1 (by omega)), F2.all (show F2 5 18 23 24 σ _ from (F2.tr3 F2.rf q_1 (by omega))) (by omega) (by omega)⟩
    · have hk : k < (gpV n a F T gw G).1 := by
        rcases Nat.lt_or_ge k (gpV n a F T gw G).1 with q | q
        · exact q
        · exact absurd (nI_le q hk31) c19
      refine z_aload_n kd_C_group_22 0 rfl ?_
      refine z_get kd_C_group_23 (kf_C_45 _) x0_1 rfl ?_
      refine z_iload_n kd_C_group_26 1 rfl ?_
      refine z_V1 (a := 23) (As := [_]) kd_C_group_27 (kg_C_148 _) x23_1 kc_U (c_U_round ht0 ht1 ht3 hN_1 hgl hk x23_1 x24_1) rfl rfl (Nat.le_of_ble_eq_true rfl) ⟨Nat.le_of_ble_eq_true rfl, Nat.le_of_ble_eq_true rfl⟩ ⟨Nat.le_of_ble_eq_true rfl, Nat.le_of_ble_eq_true rfl⟩ ?_
      refine z_goto (tgt := 36) kd_C_group_30 (by decide) ?_
      exact z_lret kd_C_group_36 rfl (Nat.le_of_ble_eq_true rfl) (Nat.le_of_ble_eq_true rfl) ⟨⟨G, by unfold groupV; first | rw [if_pos hk] | rw [if_neg hk]⟩, rfl, hC.r23 ⟨_, _, _, h5_1, h6_1⟩ ⟨_, _, hS_1⟩ ⟨⟨_, _, _, _, _, x23_1⟩, ⟨_, x24_1⟩⟩ (F2.tr3 F2.rf q_1 (by omega)), F2.all (show F2 5 18 23 24 σ _ from (F2.tr3 F2.rf q_1 (by omega))) (by omega) (by omega)⟩
set_option maxHeartbeats 4000000 in
set_option maxRecDepth 100000 in
theorem c_C_told0 {l : Launch} {D : va_G} {tys : List (ClassId × FieldType)} {b N : Nat} {σ : Nat → Option va_E} {cI cJ cA : ClassId} (ht0 : tys[0]? = some (cI, .int)) (ht1 : tys[1]? = some (cJ, .long)) (ht3 : tys[3]? = some (cA, .array .long)) {cP : ClassId} {n a : Nat} {gf gt gw : Nat → Int32} {F T : Nat → Nat} {C K : Nat → Int64} (hC : CS b cI cJ cA cP σ n a gf gt gw F T C K) : zM l D kCl tys kNw b ky_C_told (kh_C_told :: zT) 20 700 0 0 [.ref (b + 0), .int 0] N σ ((fun oc N' σ' => oc = .returned (some (.int (nI n))) ∧ N' = N ∧ CS b cI cJ cA cP σ' n a gf gt gw F T C K ∧ Fr 0 53 σ σ')) := by
  refine zM.of (by decide +kernel) rfl (Nat.le_of_ble_eq_true rfl) ?_
  refine z_pick (lv' := [(0, .ref (b + 0)), (1, .int 0)]) [0, 1] rfl ?_
  obtain ⟨hN, h26, h27, c0, ⟨u5, x5, g5, h5, h6⟩, ⟨s0, M0, hS0⟩, ⟨v19, w19, h19⟩, rs, us, h25, tr, ss, pe⟩ := id hC
  have hn := hN.hn
  have ha := hN.ha
  obtain ⟨⟨cn, vod, cm, tp, to, h23⟩, ⟨G, h24⟩⟩ := id us
  refine z_iload_n kd_C_told_0 1 rfl ?_
  refine z_tableIn (off := 39) (tgt := 40) kd_C_told_1 (by decide) (by decide) (by decide +kernel) (by decide) ?_
  refine z_aload_n kd_C_told_40 0 rfl ?_
  refine z_get kd_C_told_41 (kf_C_10 _) c0 rfl ?_
  refine z_get kd_C_told_44 (kf_C_65 _) hN.h1 rfl ?_
  exact z_iret kd_C_told_47 rfl (Nat.le_of_ble_eq_true rfl) (Nat.le_of_ble_eq_true rfl) ⟨rfl, rfl, hC, Fr.rf⟩
set_option maxHeartbeats 4000000 in
set_option maxRecDepth 100000 in
theorem c_C_told1 {l : Launch} {D : va_G} {tys : List (ClassId × FieldType)} {b N : Nat} {σ : Nat → Option va_E} {cI cJ cA : ClassId} (ht0 : tys[0]? = some (cI, .int)) (ht1 : tys[1]? = some (cJ, .long)) (ht3 : tys[3]? = some (cA, .array .long)) {cP : ClassId} {n a : Nat} {gf gt gw : Nat → Int32} {F T : Nat → Nat} {C K : Nat → Int64} (hC : CS b cI cJ cA cP σ n a gf gt gw F T C K) : zM l D kCl tys kNw b ky_C_told (kh_C_told :: zT) 20 700 0 0 [.ref (b + 0), .int 1] N σ ((fun oc N' σ' => oc = .returned (some (.int (nI a))) ∧ N' = N ∧ CS b cI cJ cA cP σ' n a gf gt gw F T C K ∧ Fr 0 53 σ σ')) := by
  refine zM.of (by decide +kernel) rfl (Nat.le_of_ble_eq_true rfl) ?_
  refine z_pick (lv' := [(0, .ref (b + 0)), (1, .int 1)]) [0, 1] rfl ?_
  obtain ⟨hN, h26, h27, c0, ⟨u5, x5, g5, h5, h6⟩, ⟨s0, M0, hS0⟩, ⟨v19, w19, h19⟩, rs, us, h25, tr, ss, pe⟩ := id hC
  have hn := hN.hn
  have ha := hN.ha
  obtain ⟨⟨cn, vod, cm, tp, to, h23⟩, ⟨G, h24⟩⟩ := id us
  refine z_iload_n kd_C_told_0 1 rfl ?_
  refine z_tableIn (off := 47) (tgt := 48) kd_C_told_1 (by decide) (by decide) (by decide +kernel) (by decide) ?_
  refine z_aload_n kd_C_told_48 0 rfl ?_
  refine z_get kd_C_told_49 (kf_C_10 _) c0 rfl ?_
  refine z_get kd_C_told_52 (kf_C_76 _) hN.h1 rfl ?_
  exact z_iret kd_C_told_55 rfl (Nat.le_of_ble_eq_true rfl) (Nat.le_of_ble_eq_true rfl) ⟨rfl, rfl, hC, Fr.rf⟩
set_option maxHeartbeats 4000000 in
set_option maxRecDepth 100000 in
theorem c_C_told2 {l : Launch} {D : va_G} {tys : List (ClassId × FieldType)} {b N : Nat} {σ : Nat → Option va_E} {cI cJ cA : ClassId} (ht0 : tys[0]? = some (cI, .int)) (ht1 : tys[1]? = some (cJ, .long)) (ht3 : tys[3]? = some (cA, .array .long)) {cP : ClassId} {n a : Nat} {gf gt gw : Nat → Int32} {F T : Nat → Nat} {C K : Nat → Int64} (hC : CS b cI cJ cA cP σ n a gf gt gw F T C K) : zM l D kCl tys kNw b ky_C_told (kh_C_told :: zT) 20 700 0 0 [.ref (b + 0), .int 2] N σ ((fun oc N' σ' => oc = .returned (some (.int (nI (ftV n a F T).2.1))) ∧ N' = N ∧ CS b cI cJ cA cP σ' n a gf gt gw F T C K ∧ Fr 0 53 σ σ')) := by
  refine zM.of (by decide +kernel) rfl (Nat.le_of_ble_eq_true rfl) ?_
  refine z_pick (lv' := [(0, .ref (b + 0)), (1, .int 2)]) [0, 1] rfl ?_
  obtain ⟨hN, h26, h27, c0, ⟨u5, x5, g5, h5, h6⟩, ⟨s0, M0, hS0⟩, ⟨v19, w19, h19⟩, rs, us, h25, tr, ss, pe⟩ := id hC
  have hn := hN.hn
  have ha := hN.ha
  obtain ⟨⟨v20, h20⟩, r21, r22⟩ := id rs
  refine z_iload_n kd_C_told_0 1 rfl ?_
  refine z_tableIn (off := 55) (tgt := 56) kd_C_told_1 (by decide) (by decide) (by decide +kernel) (by decide) ?_
  refine z_aload_n kd_C_told_56 0 rfl ?_
  refine z_get kd_C_told_57 (kf_C_36 _) c0 rfl ?_
  refine z_callV (a := 20) (As := []) kd_C_told_60 (kg_C_155 _) h20 kc_R (c_R_partsOfNet ht0 ht1 ht3 hN h20 ⟨_, _, _, h5, h6⟩) rfl rfl (Nat.le_of_ble_eq_true rfl) ⟨Nat.le_of_ble_eq_true rfl, Nat.le_of_ble_eq_true rfl⟩ ⟨Nat.le_of_ble_eq_true rfl, Nat.le_of_ble_eq_true rfl⟩ ?_
  rintro _ _ σ_1 ⟨hv, rfl, ⟨u5_1, x5_1, g5_1, h5_1, h6_1⟩, q_1⟩
  cases hv
  refine z_eq (st' := [_]) rfl rfl rfl rfl ?_
  have hN_1 := hN.fr q_1 (by omega)
  have hS_1 := hS0.fr q_1 (by omega)
  have x0_1 := (q_1 0 (by omega)).trans c0
  have x20_1 := (q_1 20 (by omega)).trans h20
  have x25_1 := (q_1 25 (by omega)).trans h25
  have x26_1 := (q_1 26 (by omega)).trans h26
  have x27_1 := (q_1 27 (by omega)).trans h27
  exact z_iret kd_C_told_63 rfl (Nat.le_of_ble_eq_true rfl) (Nat.le_of_ble_eq_true rfl) ⟨rfl, rfl, hC.r56 ⟨_, _, _, h5_1, h6_1⟩ (Fr.tr Fr.rf (q_1.wide (by omega) (by omega))), Fr.wide (show Fr 5 6 σ _ from (Fr.tr Fr.rf (q_1.wide (by omega) (by omega)))) (by omega) (by omega)⟩
set_option maxHeartbeats 4000000 in
set_option maxRecDepth 100000 in
theorem c_C_told3 {l : Launch} {D : va_G} {tys : List (ClassId × FieldType)} {b N : Nat} {σ : Nat → Option va_E} {cI cJ cA : ClassId} (ht0 : tys[0]? = some (cI, .int)) (ht1 : tys[1]? = some (cJ, .long)) (ht3 : tys[3]? = some (cA, .array .long)) {cP : ClassId} {n a : Nat} {gf gt gw : Nat → Int32} {F T : Nat → Nat} {C K : Nat → Int64} (hC : CS b cI cJ cA cP σ n a gf gt gw F T C K) : zM l D kCl tys kNw b ky_C_told (kh_C_told :: zT) 20 700 0 0 [.ref (b + 0), .int 3] N σ ((fun oc N' σ' => oc = .returned (some (.int (nI a - jbc (ftV n a F T).1))) ∧ N' = N ∧ CS b cI cJ cA cP σ' n a gf gt gw F T C K ∧ Fr 0 53 σ σ')) := by
  refine zM.of (by decide +kernel) rfl (Nat.le_of_ble_eq_true rfl) ?_
  refine z_pick (lv' := [(0, .ref (b + 0)), (1, .int 3)]) [0, 1] rfl ?_
  obtain ⟨hN, h26, h27, c0, ⟨u5, x5, g5, h5, h6⟩, ⟨s0, M0, hS0⟩, ⟨v19, w19, h19⟩, rs, us, h25, tr, ss, pe⟩ := id hC
  have hn := hN.hn
  have ha := hN.ha
  obtain ⟨⟨v20, h20⟩, r21, r22⟩ := id rs
  refine z_iload_n kd_C_told_0 1 rfl ?_
  refine z_tableIn (off := 63) (tgt := 64) kd_C_told_1 (by decide) (by decide) (by decide +kernel) (by decide) ?_
  refine z_aload_n kd_C_told_64 0 rfl ?_
  refine z_get kd_C_told_65 (kf_C_36 _) c0 rfl ?_
  refine z_callV (a := 20) (As := []) kd_C_told_68 (kg_C_178 _) h20 kc_R (c_R_count ht0 ht1 ht3 hN h20 ⟨_, _, _, h5, h6⟩) rfl rfl (Nat.le_of_ble_eq_true rfl) ⟨Nat.le_of_ble_eq_true rfl, Nat.le_of_ble_eq_true rfl⟩ ⟨Nat.le_of_ble_eq_true rfl, Nat.le_of_ble_eq_true rfl⟩ ?_
  rintro _ _ σ_1 ⟨hv, rfl, ⟨u5_1, x5_1, g5_1, h5_1, h6_1⟩, q_1⟩
  cases hv
  refine z_eq (st' := [_]) rfl rfl rfl rfl ?_
  have hN_1 := hN.fr q_1 (by omega)
  have hS_1 := hS0.fr q_1 (by omega)
  have x0_1 := (q_1 0 (by omega)).trans c0
  have x20_1 := (q_1 20 (by omega)).trans h20
  have x25_1 := (q_1 25 (by omega)).trans h25
  have x26_1 := (q_1 26 (by omega)).trans h26
  have x27_1 := (q_1 27 (by omega)).trans h27
  exact z_iret kd_C_told_71 rfl (Nat.le_of_ble_eq_true rfl) (Nat.le_of_ble_eq_true rfl) ⟨rfl, rfl, hC.r56 ⟨_, _, _, h5_1, h6_1⟩ (Fr.tr Fr.rf (q_1.wide (by omega) (by omega))), Fr.wide (show Fr 5 6 σ _ from (Fr.tr Fr.rf (q_1.wide (by omega) (by omega)))) (by omega) (by omega)⟩
set_option maxHeartbeats 4000000 in
set_option maxRecDepth 100000 in
theorem c_C_told4 {l : Launch} {D : va_G} {tys : List (ClassId × FieldType)} {b N : Nat} {σ : Nat → Option va_E} {cI cJ cA : ClassId} (ht0 : tys[0]? = some (cI, .int)) (ht1 : tys[1]? = some (cJ, .long)) (ht3 : tys[3]? = some (cA, .array .long)) {cP : ClassId} {n a : Nat} {gf gt gw : Nat → Int32} {F T : Nat → Nat} {C K : Nat → Int64} (hC : CS b cI cJ cA cP σ n a gf gt gw F T C K) : zM l D kCl tys kNw b ky_C_told (kh_C_told :: zT) 20 700 0 0 [.ref (b + 0), .int 4] N σ ((fun oc N' σ' => (∃ R, oc = .returned (some (.int (nI (lyV F T n a 0 R).1)))) ∧ N' = N ∧ CS b cI cJ cA cP σ' n a gf gt gw F T C K ∧ Fr 0 53 σ σ')) := by
  refine zM.of (by decide +kernel) rfl (Nat.le_of_ble_eq_true rfl) ?_
  refine z_pick (lv' := [(0, .ref (b + 0)), (1, .int 4)]) [0, 1] rfl ?_
  obtain ⟨hN, h26, h27, c0, ⟨u5, x5, g5, h5, h6⟩, ⟨s0, M0, hS0⟩, ⟨v19, w19, h19⟩, rs, us, h25, tr, ss, pe⟩ := id hC
  have hn := hN.hn
  have ha := hN.ha
  obtain ⟨⟨v20, h20⟩, ⟨Rw, h21⟩, ⟨g22, h22⟩⟩ := id rs
  refine z_iload_n kd_C_told_0 1 rfl ?_
  refine z_tableIn (off := 71) (tgt := 72) kd_C_told_1 (by decide) (by decide) (by decide +kernel) (by decide) ?_
  refine z_aload_n kd_C_told_72 0 rfl ?_
  refine z_get kd_C_told_73 (kf_C_36 _) c0 rfl ?_
  refine z_iconst (v := 0) kd_C_told_76 (by decide) ?_
  refine z_callV (a := 20) (As := [_]) kd_C_told_77 (kg_C_132 _) h20 kc_R (c_R_lay ht0 ht1 ht3 hN h20 h21 h22 ⟨_, _, _, h5, h6⟩) rfl rfl (Nat.le_of_ble_eq_true rfl) ⟨Nat.le_of_ble_eq_true rfl, Nat.le_of_ble_eq_true rfl⟩ ⟨Nat.le_of_ble_eq_true rfl, Nat.le_of_ble_eq_true rfl⟩ ?_
  rintro _ _ σ_1 ⟨hv, rfl, ⟨u5_1, x5_1, g5_1, h5_1, h6_1⟩, x20_1, x21_1, ⟨g22_1, x22_1⟩, q_1⟩
  cases hv
  refine z_eq (st' := []) rfl rfl rfl rfl ?_
  obtain ⟨_, qa_1, qb_1⟩ := F2.two q_1
  have hN_1 := (hN.fr qa_1 (by omega)).fr qb_1 (by omega)
  have x0_1 := (q_1 0 (by omega) (by omega)).trans c0
  refine z_aload_n kd_C_told_80 0 rfl ?_
  refine z_get kd_C_told_81 (kf_C_36 _) x0_1 rfl ?_
  refine z_get kd_C_told_84 (kf_C_136 _) x20_1 rfl ?_
  exact z_iret kd_C_told_87 rfl (Nat.le_of_ble_eq_true rfl) (Nat.le_of_ble_eq_true rfl) ⟨⟨Rw, rfl⟩, rfl, hC.r20 ⟨_, _, _, h5_1, h6_1⟩ ⟨⟨_, x20_1⟩, ⟨_, x21_1⟩, ⟨_, x22_1⟩⟩ (F2.tr3 F2.rf q_1 (by omega)), F2.all (show F2 5 6 20 22 σ _ from (F2.tr3 F2.rf q_1 (by omega))) (by omega) (by omega)⟩
set_option maxHeartbeats 4000000 in
set_option maxRecDepth 100000 in
theorem c_C_told5 {l : Launch} {D : va_G} {tys : List (ClassId × FieldType)} {b N : Nat} {σ : Nat → Option va_E} {cI cJ cA : ClassId} (ht0 : tys[0]? = some (cI, .int)) (ht1 : tys[1]? = some (cJ, .long)) (ht3 : tys[3]? = some (cA, .array .long)) {cP : ClassId} {n a : Nat} {gf gt gw : Nat → Int32} {F T : Nat → Nat} {C K : Nat → Int64} (hC : CS b cI cJ cA cP σ n a gf gt gw F T C K) : zM l D kCl tys kNw b ky_C_told (kh_C_told :: zT) 20 700 0 0 [.ref (b + 0), .int 5] N σ ((fun oc N' σ' => (∃ G, oc = .returned (some (.int (nI (gpV n a F T gw G).1)))) ∧ N' = N ∧ CS b cI cJ cA cP σ' n a gf gt gw F T C K ∧ Fr 0 53 σ σ')) := by
  refine zM.of (by decide +kernel) rfl (Nat.le_of_ble_eq_true rfl) ?_
  refine z_pick (lv' := [(0, .ref (b + 0)), (1, .int 5)]) [0, 1] rfl ?_
  obtain ⟨hN, h26, h27, c0, ⟨u5, x5, g5, h5, h6⟩, ⟨s0, M0, hS0⟩, ⟨v19, w19, h19⟩, rs, us, h25, tr, ss, pe⟩ := id hC
  have hn := hN.hn
  have ha := hN.ha
  obtain ⟨⟨cn, vod, cm, tp, to, h23⟩, ⟨G, h24⟩⟩ := id us
  refine z_iload_n kd_C_told_0 1 rfl ?_
  refine z_tableIn (off := 87) (tgt := 88) kd_C_told_1 (by decide) (by decide) (by decide +kernel) (by decide) ?_
  refine z_aload_n kd_C_told_88 0 rfl ?_
  refine z_get kd_C_told_89 (kf_C_45 _) c0 rfl ?_
  refine z_callV (a := 23) (As := []) kd_C_told_92 (kg_C_142 _) h23 kc_U (c_U_find ht0 ht1 ht3 hN h19 ⟨_, _, _, h5, h6⟩ ⟨_, _, hS0⟩ h23 h24) rfl rfl (Nat.le_of_ble_eq_true rfl) ⟨Nat.le_of_ble_eq_true rfl, Nat.le_of_ble_eq_true rfl⟩ ⟨Nat.le_of_ble_eq_true rfl, Nat.le_of_ble_eq_true rfl⟩ ?_
  rintro _ _ σ_1 ⟨hv, rfl, ⟨u5_1, x5_1, g5_1, h5_1, h6_1⟩, ⟨s_1, M_1, hS_1⟩, ⟨cm_1, tp_1, to_1, x23_1⟩, x24_1, q_1⟩
  cases hv
  refine z_eq (st' := []) rfl rfl rfl rfl ?_
  obtain ⟨_, qa_1, qb_1⟩ := F2.two q_1
  have hN_1 := (hN.fr qa_1 (by omega)).fr qb_1 (by omega)
  have x0_1 := (q_1 0 (by omega) (by omega)).trans c0
  have x19_1 := (q_1 19 (by omega) (by omega)).trans h19
  refine z_aload_n kd_C_told_95 0 rfl ?_
  refine z_get kd_C_told_96 (kf_C_45 _) x0_1 rfl ?_
  refine z_get kd_C_told_99 (kf_C_145 _) x23_1 rfl ?_
  exact z_iret kd_C_told_102 rfl (Nat.le_of_ble_eq_true rfl) (Nat.le_of_ble_eq_true rfl) ⟨⟨G, rfl⟩, rfl, hC.r23 ⟨_, _, _, h5_1, h6_1⟩ ⟨_, _, hS_1⟩ ⟨⟨_, _, _, _, _, x23_1⟩, ⟨_, x24_1⟩⟩ (F2.tr3 F2.rf q_1 (by omega)), F2.all (show F2 5 18 23 24 σ _ from (F2.tr3 F2.rf q_1 (by omega))) (by omega) (by omega)⟩
