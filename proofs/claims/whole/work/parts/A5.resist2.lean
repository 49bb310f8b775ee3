set_option maxHeartbeats 4000000 in
set_option maxRecDepth 100000 in
theorem c_C_resistanceX {l : Launch} {D : va_G} {tys : List (ClassId × FieldType)} {b N : Nat} {σ : Nat → Option va_E} {cI cJ cA : ClassId} (ht0 : tys[0]? = some (cI, .int)) (ht1 : tys[1]? = some (cJ, .long)) (ht3 : tys[3]? = some (cA, .array .long)) {cP : ClassId} {n a : Nat} {gf gt gw : Nat → Int32} {F T : Nat → Nat} {C K : Nat → Int64} (hC : CS b cI cJ cA cP σ n a gf gt gw F T C K) {x y s : Int32} (hz : zIn x (nI n) = false) : zM l D kCl tys kNw b ky_C_resistance (kh_C_resistance :: zT) 22 750 0 0 [.ref (b + 0), .int x, .int y, .int s] N σ ((fun oc N' σ' => oc = .returned (some (.long (-1))) ∧ N' = N ∧ CS b cI cJ cA cP σ' n a gf gt gw F T C K ∧ Fr 0 53 σ σ')) := by
  refine zM.of (by decide +kernel) rfl (Nat.le_of_ble_eq_true rfl) ?_
  refine z_pick (lv' := [(0, .ref (b + 0)), (1, .int x), (2, .int y), (3, .int s)]) [0, 1, 2, 3] rfl ?_
  obtain ⟨hN, h26, h27, c0, ⟨u5, x5, g5, h5, h6⟩, ⟨s0, M0, hS0⟩, ⟨v19, w19, h19⟩, rs, us, h25, tr, ss, pe⟩ := id hC
  have hn := hN.hn
  have ha := hN.ha
  refine z_aload_n kd_C_resistance_0 0 rfl ?_
  refine z_get kd_C_resistance_1 (kf_C_10 _) c0 rfl ?_
  refine z_iload_n kd_C_resistance_4 1 rfl ?_
  refine z_V1 (a := 1) (As := [_]) kd_C_resistance_5 (kg_C_69 _) hN.h1 kc_N (c_N_hasNode hN.h1) rfl rfl (Nat.le_of_ble_eq_true rfl) ⟨Nat.le_of_ble_eq_true rfl, Nat.le_of_ble_eq_true rfl⟩ ⟨Nat.le_of_ble_eq_true rfl, Nat.le_of_ble_eq_true rfl⟩ ?_
  refine z_topi (show zB (zIn x (nI n)) = 0 by rw [hz]; rfl) ?_
  refine z_if_eq (tgt := 31) kd_C_resistance_8 (by decide) (fun c8 => ?_) (fun c8 => absurd c8 (by decide))
  refine z_ldc2 (v := -1) kd_C_resistance_31 (List.mem_cons_of_mem _ (zin 418 rfl rfl)) ?_
  exact z_lret kd_C_resistance_34 rfl (Nat.le_of_ble_eq_true rfl) (Nat.le_of_ble_eq_true rfl) ⟨rfl, rfl, hC, Fr.rf⟩
set_option maxHeartbeats 4000000 in
set_option maxRecDepth 100000 in
theorem c_C_resistanceY {l : Launch} {D : va_G} {tys : List (ClassId × FieldType)} {b N : Nat} {σ : Nat → Option va_E} {cI cJ cA : ClassId} (ht0 : tys[0]? = some (cI, .int)) (ht1 : tys[1]? = some (cJ, .long)) (ht3 : tys[3]? = some (cA, .array .long)) {cP : ClassId} {n a : Nat} {gf gt gw : Nat → Int32} {F T : Nat → Nat} {C K : Nat → Int64} (hC : CS b cI cJ cA cP σ n a gf gt gw F T C K) {x y s : Int32} (hz : zIn x (nI n) = true) (hz2 : zIn y (nI n) = false) : zM l D kCl tys kNw b ky_C_resistance (kh_C_resistance :: zT) 22 750 0 0 [.ref (b + 0), .int x, .int y, .int s] N σ ((fun oc N' σ' => oc = .returned (some (.long (-1))) ∧ N' = N ∧ CS b cI cJ cA cP σ' n a gf gt gw F T C K ∧ Fr 0 53 σ σ')) := by
  refine zM.of (by decide +kernel) rfl (Nat.le_of_ble_eq_true rfl) ?_
  refine z_pick (lv' := [(0, .ref (b + 0)), (1, .int x), (2, .int y), (3, .int s)]) [0, 1, 2, 3] rfl ?_
  obtain ⟨hN, h26, h27, c0, ⟨u5, x5, g5, h5, h6⟩, ⟨s0, M0, hS0⟩, ⟨v19, w19, h19⟩, rs, us, h25, tr, ss, pe⟩ := id hC
  have hn := hN.hn
  have ha := hN.ha
  refine z_aload_n kd_C_resistance_0 0 rfl ?_
  refine z_get kd_C_resistance_1 (kf_C_10 _) c0 rfl ?_
  refine z_iload_n kd_C_resistance_4 1 rfl ?_
  refine z_V1 (a := 1) (As := [_]) kd_C_resistance_5 (kg_C_69 _) hN.h1 kc_N (c_N_hasNode hN.h1) rfl rfl (Nat.le_of_ble_eq_true rfl) ⟨Nat.le_of_ble_eq_true rfl, Nat.le_of_ble_eq_true rfl⟩ ⟨Nat.le_of_ble_eq_true rfl, Nat.le_of_ble_eq_true rfl⟩ ?_
  refine z_topi (show zB (zIn x (nI n)) = 1 by rw [hz]; rfl) ?_
  refine z_if_eq (tgt := 31) kd_C_resistance_8 (by decide) (fun c8 => absurd c8 (by decide)) (fun c8 => ?_)
  refine z_aload_n kd_C_resistance_11 0 rfl ?_
  refine z_get kd_C_resistance_12 (kf_C_10 _) c0 rfl ?_
  refine z_iload_n kd_C_resistance_15 2 rfl ?_
  refine z_V1 (a := 1) (As := [_]) kd_C_resistance_16 (kg_C_69 _) hN.h1 kc_N (c_N_hasNode hN.h1) rfl rfl (Nat.le_of_ble_eq_true rfl) ⟨Nat.le_of_ble_eq_true rfl, Nat.le_of_ble_eq_true rfl⟩ ⟨Nat.le_of_ble_eq_true rfl, Nat.le_of_ble_eq_true rfl⟩ ?_
  refine z_topi (show zB (zIn y (nI n)) = 0 by rw [hz2]; rfl) ?_
  refine z_if_eq (tgt := 31) kd_C_resistance_19 (by decide) (fun c19 => ?_) (fun c19 => absurd c19 (by decide))
  refine z_ldc2 (v := -1) kd_C_resistance_31 (List.mem_cons_of_mem _ (zin 418 rfl rfl)) ?_
  exact z_lret kd_C_resistance_34 rfl (Nat.le_of_ble_eq_true rfl) (Nat.le_of_ble_eq_true rfl) ⟨rfl, rfl, hC, Fr.rf⟩
set_option maxHeartbeats 4000000 in
set_option maxRecDepth 100000 in
theorem c_C_resistanceS {l : Launch} {D : va_G} {tys : List (ClassId × FieldType)} {b N : Nat} {σ : Nat → Option va_E} {cI cJ cA : ClassId} (ht0 : tys[0]? = some (cI, .int)) (ht1 : tys[1]? = some (cJ, .long)) (ht3 : tys[3]? = some (cA, .array .long)) {cP : ClassId} {n a : Nat} {gf gt gw : Nat → Int32} {F T : Nat → Nat} {C K : Nat → Int64} (hC : CS b cI cJ cA cP σ n a gf gt gw F T C K) {x y s : Int32} (hz : zIn x (nI n) = true) (hz2 : zIn y (nI n) = true) (hs : s < 0 ∨ ¬ s ≤ 1) : zM l D kCl tys kNw b ky_C_resistance (kh_C_resistance :: zT) 22 750 0 0 [.ref (b + 0), .int x, .int y, .int s] N σ ((fun oc N' σ' => oc = .returned (some (.long (-1))) ∧ N' = N ∧ CS b cI cJ cA cP σ' n a gf gt gw F T C K ∧ Fr 0 53 σ σ')) := by
  refine zM.of (by decide +kernel) rfl (Nat.le_of_ble_eq_true rfl) ?_
  refine z_pick (lv' := [(0, .ref (b + 0)), (1, .int x), (2, .int y), (3, .int s)]) [0, 1, 2, 3] rfl ?_
  obtain ⟨hN, h26, h27, c0, ⟨u5, x5, g5, h5, h6⟩, ⟨s0, M0, hS0⟩, ⟨v19, w19, h19⟩, rs, us, h25, tr, ss, pe⟩ := id hC
  have hn := hN.hn
  have ha := hN.ha
  refine z_aload_n kd_C_resistance_0 0 rfl ?_
  refine z_get kd_C_resistance_1 (kf_C_10 _) c0 rfl ?_
  refine z_iload_n kd_C_resistance_4 1 rfl ?_
  refine z_V1 (a := 1) (As := [_]) kd_C_resistance_5 (kg_C_69 _) hN.h1 kc_N (c_N_hasNode hN.h1) rfl rfl (Nat.le_of_ble_eq_true rfl) ⟨Nat.le_of_ble_eq_true rfl, Nat.le_of_ble_eq_true rfl⟩ ⟨Nat.le_of_ble_eq_true rfl, Nat.le_of_ble_eq_true rfl⟩ ?_
  refine z_topi (show zB (zIn x (nI n)) = 1 by rw [hz]; rfl) ?_
  refine z_if_eq (tgt := 31) kd_C_resistance_8 (by decide) (fun c8 => absurd c8 (by decide)) (fun c8 => ?_)
  refine z_aload_n kd_C_resistance_11 0 rfl ?_
  refine z_get kd_C_resistance_12 (kf_C_10 _) c0 rfl ?_
  refine z_iload_n kd_C_resistance_15 2 rfl ?_
  refine z_V1 (a := 1) (As := [_]) kd_C_resistance_16 (kg_C_69 _) hN.h1 kc_N (c_N_hasNode hN.h1) rfl rfl (Nat.le_of_ble_eq_true rfl) ⟨Nat.le_of_ble_eq_true rfl, Nat.le_of_ble_eq_true rfl⟩ ⟨Nat.le_of_ble_eq_true rfl, Nat.le_of_ble_eq_true rfl⟩ ?_
  refine z_topi (show zB (zIn y (nI n)) = 1 by rw [hz2]; rfl) ?_
  refine z_if_eq (tgt := 31) kd_C_resistance_19 (by decide) (fun c19 => absurd c19 (by decide)) (fun c19 => ?_)
  refine z_iload_n kd_C_resistance_22 3 rfl ?_
  refine z_if_lt (tgt := 31) kd_C_resistance_23 (by decide) (fun c23 => ?_) (fun c23 => ?_)
  · refine z_ldc2 (v := -1) kd_C_resistance_31 (List.mem_cons_of_mem _ (zin 418 rfl rfl)) ?_
    exact z_lret kd_C_resistance_34 rfl (Nat.le_of_ble_eq_true rfl) (Nat.le_of_ble_eq_true rfl) ⟨rfl, rfl, hC, Fr.rf⟩
  · refine z_iload_n kd_C_resistance_26 3 rfl ?_
    refine z_iconst (v := 1) kd_C_resistance_27 (by decide) ?_
    refine z_icmp_le (tgt := 35) kd_C_resistance_28 (by decide) (fun c28 => ?_) (fun c28 => ?_)
    · exact absurd hs (fun q => q.elim c23 (fun q => q c28))
    · refine z_ldc2 (v := -1) kd_C_resistance_31 (List.mem_cons_of_mem _ (zin 418 rfl rfl)) ?_
      exact z_lret kd_C_resistance_34 rfl (Nat.le_of_ble_eq_true rfl) (Nat.le_of_ble_eq_true rfl) ⟨rfl, rfl, hC, Fr.rf⟩
