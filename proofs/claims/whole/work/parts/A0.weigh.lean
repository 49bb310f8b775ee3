set_option maxHeartbeats 4000000 in
set_option maxRecDepth 100000 in
theorem c_C_weigh0 {l : Launch} {D : va_G} {tys : List (ClassId × FieldType)} {b N : Nat} {σ : Nat → Option va_E} {cI cJ cA : ClassId} (ht0 : tys[0]? = some (cI, .int)) (ht1 : tys[1]? = some (cJ, .long)) (ht3 : tys[3]? = some (cA, .array .long)) {cP : ClassId} {n a : Nat} {gf gt gw : Nat → Int32} {F T : Nat → Nat} {C K : Nat → Int64} (hC : CS b cI cJ cA cP σ n a gf gt gw F T C K) {x wt : Int32} (hz : zIn x (nI a) = false) : zM l D kCl tys kNw b ky_C_weigh (kh_C_weigh :: zT) 20 700 0 0 [.ref (b + 0), .int x, .int wt] N σ ((fun oc N' σ' => oc = .returned (some (.int (-1))) ∧ N' = N ∧ CS b cI cJ cA cP σ' n a gf gt gw F T C K ∧ Fr 0 53 σ σ')) := by
  refine zM.of (by decide +kernel) rfl (Nat.le_of_ble_eq_true rfl) ?_
  refine z_pick (lv' := [(0, .ref (b + 0)), (1, .int x), (2, .int wt)]) [0, 1, 2] rfl ?_
  obtain ⟨hN, h26, h27, c0, ⟨u5, x5, g5, h5, h6⟩, ⟨s0, M0, hS0⟩, ⟨v19, w19, h19⟩, rs, us, h25, tr, ss, pe⟩ := id hC
  have hn := hN.hn
  have ha := hN.ha
  refine z_aload_n kd_C_weigh_0 0 rfl ?_
  refine z_get kd_C_weigh_1 (kf_C_10 _) c0 rfl ?_
  refine z_iload_n kd_C_weigh_4 1 rfl ?_
  refine z_V1 (a := 1) (As := [_]) kd_C_weigh_5 (kg_C_89 _) hN.h1 kc_N (c_N_hasArc hN.h1) rfl rfl (Nat.le_of_ble_eq_true rfl) ⟨Nat.le_of_ble_eq_true rfl, Nat.le_of_ble_eq_true rfl⟩ ⟨Nat.le_of_ble_eq_true rfl, Nat.le_of_ble_eq_true rfl⟩ ?_
  refine z_topi (show zB (zIn x (nI a)) = 0 by rw [hz]; rfl) ?_
  refine z_if_eq (tgt := 18) kd_C_weigh_8 (by decide) (fun c8 => ?_) (fun c8 => absurd c8 (by decide))
  refine z_iconst (v := -1) kd_C_weigh_18 (by decide) ?_
  exact z_iret kd_C_weigh_19 rfl (Nat.le_of_ble_eq_true rfl) (Nat.le_of_ble_eq_true rfl) ⟨rfl, rfl, hC, Fr.rf⟩
set_option maxHeartbeats 4000000 in
set_option maxRecDepth 100000 in
theorem c_C_weigh1 {l : Launch} {D : va_G} {tys : List (ClassId × FieldType)} {b N : Nat} {σ : Nat → Option va_E} {cI cJ cA : ClassId} (ht0 : tys[0]? = some (cI, .int)) (ht1 : tys[1]? = some (cJ, .long)) (ht3 : tys[3]? = some (cA, .array .long)) {cP : ClassId} {n a : Nat} {gf gt gw : Nat → Int32} {F T : Nat → Nat} {C K : Nat → Int64} (hC : CS b cI cJ cA cP σ n a gf gt gw F T C K) {x wt : Int32} (hz : zIn x (nI a) = true) (hw : zWt wt = false) : zM l D kCl tys kNw b ky_C_weigh (kh_C_weigh :: zT) 20 700 0 0 [.ref (b + 0), .int x, .int wt] N σ ((fun oc N' σ' => oc = .returned (some (.int (-1))) ∧ N' = N ∧ CS b cI cJ cA cP σ' n a gf gt gw F T C K ∧ Fr 0 53 σ σ')) := by
  refine zM.of (by decide +kernel) rfl (Nat.le_of_ble_eq_true rfl) ?_
  refine z_pick (lv' := [(0, .ref (b + 0)), (1, .int x), (2, .int wt)]) [0, 1, 2] rfl ?_
  obtain ⟨hN, h26, h27, c0, ⟨u5, x5, g5, h5, h6⟩, ⟨s0, M0, hS0⟩, ⟨v19, w19, h19⟩, rs, us, h25, tr, ss, pe⟩ := id hC
  have hn := hN.hn
  have ha := hN.ha
  refine z_aload_n kd_C_weigh_0 0 rfl ?_
  refine z_get kd_C_weigh_1 (kf_C_10 _) c0 rfl ?_
  refine z_iload_n kd_C_weigh_4 1 rfl ?_
  refine z_V1 (a := 1) (As := [_]) kd_C_weigh_5 (kg_C_89 _) hN.h1 kc_N (c_N_hasArc hN.h1) rfl rfl (Nat.le_of_ble_eq_true rfl) ⟨Nat.le_of_ble_eq_true rfl, Nat.le_of_ble_eq_true rfl⟩ ⟨Nat.le_of_ble_eq_true rfl, Nat.le_of_ble_eq_true rfl⟩ ?_
  refine z_topi (show zB (zIn x (nI a)) = 1 by rw [hz]; rfl) ?_
  refine z_if_eq (tgt := 18) kd_C_weigh_8 (by decide) (fun c8 => absurd c8 (by decide)) (fun c8 => ?_)
  refine z_iload_n kd_C_weigh_11 2 rfl ?_
  refine z_S1 (As := [_]) kd_C_weigh_12 (kg_C_73 _) (c_C_isWeight) rfl rfl (Nat.le_of_ble_eq_true rfl) ⟨Nat.le_of_ble_eq_true rfl, Nat.le_of_ble_eq_true rfl⟩ ⟨Nat.le_of_ble_eq_true rfl, Nat.le_of_ble_eq_true rfl⟩ ?_
  refine z_topi (show zB (zWt wt) = 0 by rw [hw]; rfl) ?_
  refine z_if_ne (tgt := 20) kd_C_weigh_15 (by decide) (fun c15 => absurd c15 (by decide)) (fun c15 => ?_)
  refine z_iconst (v := -1) kd_C_weigh_18 (by decide) ?_
  exact z_iret kd_C_weigh_19 rfl (Nat.le_of_ble_eq_true rfl) (Nat.le_of_ble_eq_true rfl) ⟨rfl, rfl, hC, Fr.rf⟩
set_option maxHeartbeats 4000000 in
set_option maxRecDepth 100000 in
theorem c_C_weigh2 {l : Launch} {D : va_G} {tys : List (ClassId × FieldType)} {b N : Nat} {σ : Nat → Option va_E} {cI cJ cA : ClassId} (ht0 : tys[0]? = some (cI, .int)) (ht1 : tys[1]? = some (cJ, .long)) (ht3 : tys[3]? = some (cA, .array .long)) {cP : ClassId} {n a : Nat} {gf gt gw : Nat → Int32} {F T : Nat → Nat} {C K : Nat → Int64} (hC : CS b cI cJ cA cP σ n a gf gt gw F T C K) {k : Nat} {wt : Int32} (hk : k < a) (hz : zIn (nI k) (nI a) = true) (hw : zWt wt = true) : zM l D kCl tys kNw b ky_C_weigh (kh_C_weigh :: zT) 20 700 0 0 [.ref (b + 0), .int (nI k), .int wt] N σ ((fun oc N' σ' => oc = .returned (some (.int (gw k))) ∧ N' = N ∧ CS b cI cJ cA cP σ' n a gf gt (upd gw k wt) F T C K ∧ Fr 0 53 σ σ')) := by
  refine zM.of (by decide +kernel) rfl (Nat.le_of_ble_eq_true rfl) ?_
  refine z_pick (lv' := [(0, .ref (b + 0)), (1, .int (nI k)), (2, .int wt)]) [0, 1, 2] rfl ?_
  obtain ⟨hN, h26, h27, c0, ⟨u5, x5, g5, h5, h6⟩, ⟨s0, M0, hS0⟩, ⟨v19, w19, h19⟩, rs, us, h25, tr, ss, pe⟩ := id hC
  have hn := hN.hn
  have ha := hN.ha
  refine z_aload_n kd_C_weigh_0 0 rfl ?_
  refine z_get kd_C_weigh_1 (kf_C_10 _) c0 rfl ?_
  refine z_iload_n kd_C_weigh_4 1 rfl ?_
  refine z_V1 (a := 1) (As := [_]) kd_C_weigh_5 (kg_C_89 _) hN.h1 kc_N (c_N_hasArc hN.h1) rfl rfl (Nat.le_of_ble_eq_true rfl) ⟨Nat.le_of_ble_eq_true rfl, Nat.le_of_ble_eq_true rfl⟩ ⟨Nat.le_of_ble_eq_true rfl, Nat.le_of_ble_eq_true rfl⟩ ?_
  refine z_topi (show zB (zIn (nI k) (nI a)) = 1 by rw [hz]; rfl) ?_
  refine z_if_eq (tgt := 18) kd_C_weigh_8 (by decide) (fun c8 => absurd c8 (by decide)) (fun c8 => ?_)
  refine z_iload_n kd_C_weigh_11 2 rfl ?_
  refine z_S1 (As := [_]) kd_C_weigh_12 (kg_C_73 _) (c_C_isWeight) rfl rfl (Nat.le_of_ble_eq_true rfl) ⟨Nat.le_of_ble_eq_true rfl, Nat.le_of_ble_eq_true rfl⟩ ⟨Nat.le_of_ble_eq_true rfl, Nat.le_of_ble_eq_true rfl⟩ ?_
  refine z_topi (show zB (zWt wt) = 1 by rw [hw]; rfl) ?_
  refine z_if_ne (tgt := 20) kd_C_weigh_15 (by decide) (fun c15 => ?_) (fun c15 => absurd c15 (by decide))
  refine z_aload_n kd_C_weigh_20 0 rfl ?_
  refine z_get kd_C_weigh_21 (kf_C_10 _) c0 rfl ?_
  refine z_get kd_C_weigh_24 (kf_C_86 _) hN.h1 rfl ?_
  refine z_iload_n kd_C_weigh_27 1 rfl ?_
  refine z_ialdN (t0 := 0) kd_C_weigh_28 (by assumption) hN.h4 (by omega) (by decide) ?_
  refine z_istore_n (lv' := [(3, .int _), (0, .ref (b + 0)), (1, .int _), (2, .int _)]) kd_C_weigh_29 (by decide) rfl ?_
  refine z_aload_n kd_C_weigh_30 1 rfl ?_
  refine z_get kd_C_weigh_31 (kf_C_10 _) c0 rfl ?_
  refine z_get kd_C_weigh_34 (kf_C_86 _) hN.h1 rfl ?_
  refine z_iload_n kd_C_weigh_37 2 rfl ?_
  refine z_iload_n kd_C_weigh_38 3 rfl ?_
  refine z_iastN (t0 := 0) kd_C_weigh_39 (by assumption) hN.h4 (by omega) (by decide) ?_
  refine z_upd (fun σ_1 x4_1 q_1 => ?_)
  have x0_1 := (q_1 0 (by omega)).trans c0
  have x1_1 := (q_1 1 (by omega)).trans hN.h1
  have x2_1 := (q_1 2 (by omega)).trans hN.h2
  have x3_1 := (q_1 3 (by omega)).trans hN.h3
  refine z_iload_n kd_C_weigh_40 0 rfl ?_
  exact z_iret kd_C_weigh_41 rfl (Nat.le_of_ble_eq_true rfl) (Nat.le_of_ble_eq_true rfl) ⟨rfl, rfl, hC.r1 ⟨x1_1, x2_1, x3_1, x4_1, hn, ha, hN.hft⟩ (Fr.tr Fr.rf (q_1.wide (by omega) (by omega))), Fr.wide (show Fr 1 4 σ _ from (Fr.tr Fr.rf (q_1.wide (by omega) (by omega)))) (by omega) (by omega)⟩
