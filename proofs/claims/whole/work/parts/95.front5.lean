set_option maxHeartbeats 4000000 in
set_option maxRecDepth 100000 in
theorem c_C_recurrent0 {l : Launch} {D : va_G} {tys : List (ClassId × FieldType)} {b N : Nat} {σ : Nat → Option va_E} {cI cJ cA : ClassId} (ht0 : tys[0]? = some (cI, .int)) (ht1 : tys[1]? = some (cJ, .long)) (ht3 : tys[3]? = some (cA, .array .long)) {cP : ClassId} {n a : Nat} {gf gt gw : Nat → Int32} {F T : Nat → Nat} {C K : Nat → Int64} (hC : CS b cI cJ cA cP σ n a gf gt gw F T C K) {x : Int32} (hz : zIn x (nI n) = false) : zM l D kCl tys kNw b ky_C_recurrent (kh_C_recurrent :: zT) 20 700 0 0 [.ref (b + 0), .int x] N σ ((fun oc N' σ' => oc = .returned (some (.int (-1))) ∧ N' = N ∧ CS b cI cJ cA cP σ' n a gf gt gw F T C K ∧ Fr 0 53 σ σ')) := by
  refine zM.of (by decide +kernel) rfl (Nat.le_of_ble_eq_true rfl) ?_
  refine z_pick (lv' := [(0, .ref (b + 0)), (1, .int x)]) [0, 1] rfl ?_
  obtain ⟨hN, h26, h27, c0, ⟨u5, x5, g5, h5, h6⟩, ⟨s0, M0, hS0⟩, ⟨v19, w19, h19⟩, rs, us, h25, tr, ss, pe⟩ := id hC
  have hn := hN.hn
  have ha := hN.ha
  obtain ⟨⟨v20, h20⟩, r21, r22⟩ := id rs
  obtain ⟨⟨g28, h28⟩, ⟨g29, h29⟩⟩ := id tr
  refine z_aload_n kd_C_recurrent_0 0 rfl ?_
  refine z_get kd_C_recurrent_1 (kf_C_10 _) c0 rfl ?_
  refine z_iload_n kd_C_recurrent_4 1 rfl ?_
  refine z_V1 (a := 1) (As := [_]) kd_C_recurrent_5 (kg_C_69 _) hN.h1 kc_N (c_N_hasNode hN.h1) rfl rfl (Nat.le_of_ble_eq_true rfl) ⟨Nat.le_of_ble_eq_true rfl, Nat.le_of_ble_eq_true rfl⟩ ⟨Nat.le_of_ble_eq_true rfl, Nat.le_of_ble_eq_true rfl⟩ ?_
  refine z_topi (show zB (zIn x (nI n)) = 0 by rw [hz]; rfl) ?_
  refine z_if_eq (tgt := 22) kd_C_recurrent_8 (by decide) (fun c8 => ?_) (fun c8 => absurd c8 (by decide))
  refine z_iconst (v := -1) kd_C_recurrent_22 (by decide) ?_
  exact z_iret kd_C_recurrent_23 rfl (Nat.le_of_ble_eq_true rfl) (Nat.le_of_ble_eq_true rfl) ⟨rfl, rfl, hC, Fr.rf⟩
set_option maxHeartbeats 4000000 in
set_option maxRecDepth 100000 in
theorem c_C_recurrent1 {l : Launch} {D : va_G} {tys : List (ClassId × FieldType)} {b N : Nat} {σ : Nat → Option va_E} {cI cJ cA : ClassId} (ht0 : tys[0]? = some (cI, .int)) (ht1 : tys[1]? = some (cJ, .long)) (ht3 : tys[3]? = some (cA, .array .long)) {cP : ClassId} {n a : Nat} {gf gt gw : Nat → Int32} {F T : Nat → Nat} {C K : Nat → Int64} (hC : CS b cI cJ cA cP σ n a gf gt gw F T C K) {v : Nat} (hv : v < n) (hz : zIn (nI v) (nI n) = true) (hp : ¬ (ftV n a F T).2.1 = 1) : zM l D kCl tys kNw b ky_C_recurrent (kh_C_recurrent :: zT) 20 700 0 0 [.ref (b + 0), .int (nI v)] N σ ((fun oc N' σ' => oc = .returned (some (.int (-1))) ∧ N' = N ∧ CS b cI cJ cA cP σ' n a gf gt gw F T C K ∧ Fr 0 53 σ σ')) := by
  refine zM.of (by decide +kernel) rfl (Nat.le_of_ble_eq_true rfl) ?_
  refine z_pick (lv' := [(0, .ref (b + 0)), (1, .int (nI v))]) [0, 1] rfl ?_
  obtain ⟨hN, h26, h27, c0, ⟨u5, x5, g5, h5, h6⟩, ⟨s0, M0, hS0⟩, ⟨v19, w19, h19⟩, rs, us, h25, tr, ss, pe⟩ := id hC
  have hn := hN.hn
  have ha := hN.ha
  obtain ⟨⟨v20, h20⟩, r21, r22⟩ := id rs
  obtain ⟨⟨g28, h28⟩, ⟨g29, h29⟩⟩ := id tr
  refine z_aload_n kd_C_recurrent_0 0 rfl ?_
  refine z_get kd_C_recurrent_1 (kf_C_10 _) c0 rfl ?_
  refine z_iload_n kd_C_recurrent_4 1 rfl ?_
  refine z_V1 (a := 1) (As := [_]) kd_C_recurrent_5 (kg_C_69 _) hN.h1 kc_N (c_N_hasNode hN.h1) rfl rfl (Nat.le_of_ble_eq_true rfl) ⟨Nat.le_of_ble_eq_true rfl, Nat.le_of_ble_eq_true rfl⟩ ⟨Nat.le_of_ble_eq_true rfl, Nat.le_of_ble_eq_true rfl⟩ ?_
  refine z_topi (show zB (zIn (nI v) (nI n)) = 1 by rw [hz]; rfl) ?_
  refine z_if_eq (tgt := 22) kd_C_recurrent_8 (by decide) (fun c8 => absurd c8 (by decide)) (fun c8 => ?_)
  refine z_aload_n kd_C_recurrent_11 0 rfl ?_
  refine z_get kd_C_recurrent_12 (kf_C_36 _) c0 rfl ?_
  refine z_callV (a := 20) (As := []) kd_C_recurrent_15 (kg_C_155 _) h20 kc_R (c_R_partsOfNet ht0 ht1 ht3 hN h20 ⟨_, _, _, h5, h6⟩) rfl rfl (Nat.le_of_ble_eq_true rfl) ⟨Nat.le_of_ble_eq_true rfl, Nat.le_of_ble_eq_true rfl⟩ ⟨Nat.le_of_ble_eq_true rfl, Nat.le_of_ble_eq_true rfl⟩ ?_
  rintro _ _ σ_1 ⟨hv, rfl, ⟨u5_1, x5_1, g5_1, h5_1, h6_1⟩, q_1⟩
  cases hv
  refine z_eq (st' := [_]) rfl rfl rfl rfl ?_
  have hN_1 := hN.fr q_1 (by omega)
  have hS_1 := hS0.fr q_1 (by omega)
  have x0_1 := (q_1 0 (by omega)).trans c0
  have x20_1 := (q_1 20 (by omega)).trans h20
  have x25_1 := (q_1 25 (by omega)).trans h25
  have x26_1 := (q_1 26 (by omega)).trans h26
  have x28_1 := (q_1 28 (by omega)).trans h28
  have x29_1 := (q_1 29 (by omega)).trans h29
  refine z_iconst (v := 1) kd_C_recurrent_18 (by decide) ?_
  refine z_icmp_eq (tgt := 24) kd_C_recurrent_19 (by decide) (fun c19 => ?_) (fun c19 => ?_)
  · exact absurd ((nI_eq (a := (ftV n a F T).2.1) (b := 1) (by have := ftV_c n a F T; omega) (by omega)).mp c19) hp
  · refine z_iconst (v := -1) kd_C_recurrent_22 (by decide) ?_
    exact z_iret kd_C_recurrent_23 rfl (Nat.le_of_ble_eq_true rfl) (Nat.le_of_ble_eq_true rfl) ⟨rfl, rfl, hC.r56 ⟨_, _, _, h5_1, h6_1⟩ q_1, q_1.wide (by omega) (by omega)⟩
set_option maxHeartbeats 4000000 in
set_option maxRecDepth 100000 in
theorem c_C_recurrent2 {l : Launch} {D : va_G} {tys : List (ClassId × FieldType)} {b N : Nat} {σ : Nat → Option va_E} {cI cJ cA : ClassId} (ht0 : tys[0]? = some (cI, .int)) (ht1 : tys[1]? = some (cJ, .long)) (ht3 : tys[3]? = some (cA, .array .long)) {cP : ClassId} {n a : Nat} {gf gt gw : Nat → Int32} {F T : Nat → Nat} {C K : Nat → Int64} (hC : CS b cI cJ cA cP σ n a gf gt gw F T C K) {v : Nat} (hv : v < n) (hz : zIn (nI v) (nI n) = true) (hp : (ftV n a F T).2.1 = 1) : zM l D kCl tys kNw b ky_C_recurrent (kh_C_recurrent :: zT) 20 700 0 0 [.ref (b + 0), .int (nI v)] N σ ((fun oc N' σ' => (∃ Th Kt, oc = .returned (some (.int (if cbX (fbM F T gw Z0 a) n v C Kt n 0 Th = 0 then 0 else 1)))) ∧ N' = N ∧ CS b cI cJ cA cP σ' n a gf gt gw F T C K ∧ Fr 0 53 σ σ')) := by
  refine zM.of (by decide +kernel) rfl (Nat.le_of_ble_eq_true rfl) ?_
  refine z_pick (lv' := [(0, .ref (b + 0)), (1, .int (nI v))]) [0, 1] rfl ?_
  obtain ⟨hN, h26, h27, c0, ⟨u5, x5, g5, h5, h6⟩, ⟨s0, M0, hS0⟩, ⟨v19, w19, h19⟩, rs, us, h25, tr, ss, pe⟩ := id hC
  have hn := hN.hn
  have ha := hN.ha
  obtain ⟨⟨v20, h20⟩, r21, r22⟩ := id rs
  obtain ⟨⟨g28, h28⟩, ⟨g29, h29⟩⟩ := id tr
  refine z_aload_n kd_C_recurrent_0 0 rfl ?_
  refine z_get kd_C_recurrent_1 (kf_C_10 _) c0 rfl ?_
  refine z_iload_n kd_C_recurrent_4 1 rfl ?_
  refine z_V1 (a := 1) (As := [_]) kd_C_recurrent_5 (kg_C_69 _) hN.h1 kc_N (c_N_hasNode hN.h1) rfl rfl (Nat.le_of_ble_eq_true rfl) ⟨Nat.le_of_ble_eq_true rfl, Nat.le_of_ble_eq_true rfl⟩ ⟨Nat.le_of_ble_eq_true rfl, Nat.le_of_ble_eq_true rfl⟩ ?_
  refine z_topi (show zB (zIn (nI v) (nI n)) = 1 by rw [hz]; rfl) ?_
  refine z_if_eq (tgt := 22) kd_C_recurrent_8 (by decide) (fun c8 => absurd c8 (by decide)) (fun c8 => ?_)
  refine z_aload_n kd_C_recurrent_11 0 rfl ?_
  refine z_get kd_C_recurrent_12 (kf_C_36 _) c0 rfl ?_
  refine z_callV (a := 20) (As := []) kd_C_recurrent_15 (kg_C_155 _) h20 kc_R (c_R_partsOfNet ht0 ht1 ht3 hN h20 ⟨_, _, _, h5, h6⟩) rfl rfl (Nat.le_of_ble_eq_true rfl) ⟨Nat.le_of_ble_eq_true rfl, Nat.le_of_ble_eq_true rfl⟩ ⟨Nat.le_of_ble_eq_true rfl, Nat.le_of_ble_eq_true rfl⟩ ?_
  rintro _ _ σ_1 ⟨hv, rfl, ⟨u5_1, x5_1, g5_1, h5_1, h6_1⟩, q_1⟩
  cases hv
  refine z_eq (st' := [_]) rfl rfl rfl rfl ?_
  have hN_1 := hN.fr q_1 (by omega)
  have hS_1 := hS0.fr q_1 (by omega)
  have x0_1 := (q_1 0 (by omega)).trans c0
  have x20_1 := (q_1 20 (by omega)).trans h20
  have x25_1 := (q_1 25 (by omega)).trans h25
  have x26_1 := (q_1 26 (by omega)).trans h26
  have x28_1 := (q_1 28 (by omega)).trans h28
  have x29_1 := (q_1 29 (by omega)).trans h29
  refine z_iconst (v := 1) kd_C_recurrent_18 (by decide) ?_
  refine z_icmp_eq (tgt := 24) kd_C_recurrent_19 (by decide) (fun c19 => ?_) (fun c19 => ?_)
  · refine z_aload_n kd_C_recurrent_24 0 rfl ?_
    refine z_get kd_C_recurrent_25 (kf_C_54 _) x0_1 rfl ?_
    refine z_iload_n kd_C_recurrent_28 1 rfl ?_
    refine z_callV (a := 25) (As := [_]) kd_C_recurrent_29 (kg_C_165 _) x25_1 kc_L (c_L_comeBack ht0 ht1 ht3 hN_1 ⟨_, _, hS_1⟩ hv x25_1 x26_1 x28_1 x29_1) rfl rfl (Nat.le_of_ble_eq_true rfl) ⟨Nat.le_of_ble_eq_true rfl, Nat.le_of_ble_eq_true rfl⟩ ⟨Nat.le_of_ble_eq_true rfl, Nat.le_of_ble_eq_true rfl⟩ ?_
    rintro _ _ σ_2 ⟨hv, rfl, ⟨s_2, M_2, hS_2⟩, ⟨g28_2, x28_2⟩, ⟨g29_2, x29_2⟩, q_2⟩
    cases hv
    refine z_eq (st' := [_]) rfl rfl rfl rfl ?_
    obtain ⟨_, qa_2, qb_2⟩ := F2.two q_2
    have hN_2 := (hN_1.fr qa_2 (by omega)).fr qb_2 (by omega)
    have h5_2 := (q_2 5 (by omega) (by omega)).trans h5_1
    have h6_2 := (q_2 6 (by omega) (by omega)).trans h6_1
    have x0_2 := (q_2 0 (by omega) (by omega)).trans x0_1
    have x20_2 := (q_2 20 (by omega) (by omega)).trans x20_1
    have x25_2 := (q_2 25 (by omega) (by omega)).trans x25_1
    have x26_2 := (q_2 26 (by omega) (by omega)).trans x26_1
    refine z_if_eq (tgt := 39) kd_C_recurrent_32 (by decide) (fun c32 => ?_) (fun c32 => ?_)
    · refine z_iconst (v := 0) kd_C_recurrent_39 (by decide) ?_
      exact z_iret kd_C_recurrent_40 rfl (Nat.le_of_ble_eq_true rfl) (Nat.le_of_ble_eq_true rfl) ⟨⟨g28, g29, by first | rw [if_pos c32] | rw [if_neg c32]⟩, rfl, hC.r28 ⟨_, _, _, h5_2, h6_2⟩ ⟨_, _, hS_2⟩ ⟨⟨_, x28_2⟩, ⟨_, x29_2⟩⟩ (F2.tr3 (F2.rf.tr q_1 (by omega)) q_2 (by omega)), F2.all (show F2 5 18 28 29 σ _ from (F2.tr3 (F2.rf.tr q_1 (by omega)) q_2 (by omega))) (by omega) (by omega)⟩
    · refine z_iconst (v := 1) kd_C_recurrent_35 (by decide) ?_
      refine z_goto (tgt := 40) kd_C_recurrent_36 (by decide) ?_
      exact z_iret kd_C_recurrent_40 rfl (Nat.le_of_ble_eq_true rfl) (Nat.le_of_ble_eq_true rfl) ⟨⟨g28, g29, by first | rw [if_pos c32] | rw [if_neg c32]⟩, rfl, hC.r28 ⟨_, _, _, h5_2, h6_2⟩ ⟨_, _, hS_2⟩ ⟨⟨_, x28_2⟩, ⟨_, x29_2⟩⟩ (F2.tr3 (F2.rf.tr q_1 (by omega)) q_2 (by omega)), F2.all (show F2 5 18 28 29 σ _ from (F2.tr3 (F2.rf.tr q_1 (by omega)) q_2 (by omega))) (by omega) (by omega)⟩
  · exact absurd (by rw [hp]; rfl) c19
