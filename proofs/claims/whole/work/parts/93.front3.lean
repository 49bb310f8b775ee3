def placeV (n a : Nat) (F T : Nat → Nat) (w : Nat → Int32) (t : Int32) : Int64 := if itV n a F T t = 0 then -1 else sbV n a F T w t
def levelV (n : Nat) (C : Nat → Int64) (d : Int64) (x : Int32) : Int64 := match nd n x with
  | none => d
  | some v => C v
section ZS
variable {b lo hi : Nat} {cI cJ cA cP : ClassId} {σ σ' : Nat → Option va_E} {n a : Nat} {gf gt gw : Nat → Int32} {F T : Nat → Nat} {C K C' K' : Nat → Int64}
theorem CS.r26 (h : CS b cI cJ cA cP σ n a gf gt gw F T C K) (h26 : σ' 26 = some (.inl (cJ, 10, .inr (.inl C')))) (q : Fr 26 26 σ σ') : CS b cI cJ cA cP σ' n a gf gt gw F T C' K := by
  obtain ⟨hN, -, h27, c0, hP, hG, ts, rs, us, h25, tr, ss, pe⟩ := h
  exact ⟨hN.fr q (by omega), h26, (q 27 (by omega)).trans h27, c0.fr q (by omega), hP.fr q (by omega), hG.fr q (by omega), ts.fr q (by omega), rs.fr q (by omega), us.fr q (by omega), (q 25 (by omega)).trans h25, tr.fr q (by omega), ss.fr q (by omega), pe.fr q (by omega)⟩
end ZS
set_option maxHeartbeats 4000000 in
set_option maxRecDepth 100000 in
theorem c_C_place {l : Launch} {D : va_G} {tys : List (ClassId × FieldType)} {b N : Nat} {σ : Nat → Option va_E} {cI cJ cA : ClassId} (ht0 : tys[0]? = some (cI, .int)) (ht1 : tys[1]? = some (cJ, .long)) (ht3 : tys[3]? = some (cA, .array .long)) {cP : ClassId} {n a : Nat} {gf gt gw : Nat → Int32} {F T : Nat → Nat} {C K : Nat → Int64} (hC : CS b cI cJ cA cP σ n a gf gt gw F T C K) {t : Int32} : zM l D kCl tys kNw b ky_C_place (kh_C_place :: zT) 20 700 0 0 [.ref (b + 0), .int t] N σ ((fun oc N' σ' => oc = .returned (some (.long (placeV n a F T gw t))) ∧ N' = N ∧ CS b cI cJ cA cP σ' n a gf gt gw F T C K ∧ Fr 0 53 σ σ')) := by
  refine zM.of (by decide +kernel) rfl (Nat.le_of_ble_eq_true rfl) ?_
  refine z_pick (lv' := [(0, .ref (b + 0)), (1, .int t)]) [0, 1] rfl ?_
  obtain ⟨hN, h26, h27, c0, ⟨u5, x5, g5, h5, h6⟩, ⟨s0, M0, hS0⟩, ⟨v19, w19, h19⟩, rs, us, h25, tr, ss, pe⟩ := id hC
  have hn := hN.hn
  have ha := hN.ha
  refine z_aload_n kd_C_place_0 0 rfl ?_
  refine z_get kd_C_place_1 (kf_C_27 _) c0 rfl ?_
  refine z_iload_n kd_C_place_4 1 rfl ?_
  refine z_callV (a := 19) (As := [_]) kd_C_place_5 (kg_C_126 _) h19 kc_T (c_T_isTree ht0 ht1 ht3 hN h19 ⟨_, _, _, h5, h6⟩) rfl rfl (Nat.le_of_ble_eq_true rfl) ⟨Nat.le_of_ble_eq_true rfl, Nat.le_of_ble_eq_true rfl⟩ ⟨Nat.le_of_ble_eq_true rfl, Nat.le_of_ble_eq_true rfl⟩ ?_
  rintro _ _ σ_1 ⟨hv, rfl, ⟨u5_1, x5_1, g5_1, h5_1, h6_1⟩, q_1⟩
  cases hv
  refine z_eq (st' := [_]) rfl rfl rfl rfl ?_
  have hN_1 := hN.fr q_1 (by omega)
  have hS_1 := hS0.fr q_1 (by omega)
  have x0_1 := (q_1 0 (by omega)).trans c0
  have x19_1 := (q_1 19 (by omega)).trans h19
  refine z_if_eq (tgt := 22) kd_C_place_8 (by decide) (fun c8 => ?_) (fun c8 => ?_)
  · have hz : itV n a F T t = 0 := c8
    refine z_ldc2 (v := -1) kd_C_place_22 (List.mem_cons_of_mem _ (zin 418 rfl rfl)) ?_
    exact z_lret kd_C_place_25 rfl (Nat.le_of_ble_eq_true rfl) (Nat.le_of_ble_eq_true rfl) ⟨by unfold placeV; first | rw [if_pos hz] | rw [if_neg hz], rfl, hC.r19 ⟨_, _, _, h5_1, h6_1⟩ ⟨_, _, hS_1⟩ ⟨_, _, x19_1⟩ (Fr.tr Fr.rf (q_1.wide (by omega) (by omega))), Fr.wide (show Fr 5 19 σ _ from (Fr.tr Fr.rf (q_1.wide (by omega) (by omega)))) (by omega) (by omega)⟩
  · have hz : ¬ itV n a F T t = 0 := c8
    refine z_aload_n kd_C_place_11 0 rfl ?_
    refine z_get kd_C_place_12 (kf_C_27 _) x0_1 rfl ?_
    refine z_iload_n kd_C_place_15 1 rfl ?_
    refine z_callV (a := 19) (As := [_]) kd_C_place_16 (kg_C_129 _) x19_1 kc_T (c_T_sumBefore ht0 ht1 ht3 hN_1 x19_1 ⟨_, _, _, h5_1, h6_1⟩ ⟨_, _, hS_1⟩) rfl rfl (Nat.le_of_ble_eq_true rfl) ⟨Nat.le_of_ble_eq_true rfl, Nat.le_of_ble_eq_true rfl⟩ ⟨Nat.le_of_ble_eq_true rfl, Nat.le_of_ble_eq_true rfl⟩ ?_
    rintro _ _ σ_2 ⟨hv, rfl, ⟨u5_2, x5_2, g5_2, h5_2, h6_2⟩, ⟨s_2, M_2, hS_2⟩, ⟨v19_2, w19_2, x19_2⟩, q_2⟩
    cases hv
    refine z_eq (st' := [_]) rfl rfl rfl rfl ?_
    have hN_2 := hN_1.fr q_2 (by omega)
    have x0_2 := (q_2 0 (by omega)).trans x0_1
    refine z_goto (tgt := 25) kd_C_place_19 (by decide) ?_
    exact z_lret kd_C_place_25 rfl (Nat.le_of_ble_eq_true rfl) (Nat.le_of_ble_eq_true rfl) ⟨by unfold placeV; first | rw [if_pos hz] | rw [if_neg hz], rfl, hC.r19 ⟨_, _, _, h5_2, h6_2⟩ ⟨_, _, hS_2⟩ ⟨_, _, x19_2⟩ (Fr.tr (Fr.tr Fr.rf (q_1.wide (by omega) (by omega))) (q_2.wide (by omega) (by omega))), Fr.wide (show Fr 5 19 σ _ from (Fr.tr (Fr.tr Fr.rf (q_1.wide (by omega) (by omega))) (q_2.wide (by omega) (by omega)))) (by omega) (by omega)⟩
set_option maxHeartbeats 4000000 in
set_option maxRecDepth 100000 in
theorem c_C_level0 {l : Launch} {D : va_G} {tys : List (ClassId × FieldType)} {b N : Nat} {σ : Nat → Option va_E} {cI cJ cA : ClassId} (ht0 : tys[0]? = some (cI, .int)) (ht1 : tys[1]? = some (cJ, .long)) (ht3 : tys[3]? = some (cA, .array .long)) {cP : ClassId} {n a : Nat} {gf gt gw : Nat → Int32} {F T : Nat → Nat} {C K : Nat → Int64} (hC : CS b cI cJ cA cP σ n a gf gt gw F T C K) {x : Int32} (hz : zIn x (nI n) = false) : zM l D kCl tys kNw b ky_C_level (kh_C_level :: zT) 20 700 0 0 [.ref (b + 0), .int x] N σ ((fun oc N' σ' => oc = .returned (some (.long (-1))) ∧ N' = N ∧ CS b cI cJ cA cP σ' n a gf gt gw F T C K ∧ Fr 0 53 σ σ')) := by
  refine zM.of (by decide +kernel) rfl (Nat.le_of_ble_eq_true rfl) ?_
  refine z_pick (lv' := [(0, .ref (b + 0)), (1, .int x)]) [0, 1] rfl ?_
  obtain ⟨hN, h26, h27, c0, ⟨u5, x5, g5, h5, h6⟩, ⟨s0, M0, hS0⟩, ⟨v19, w19, h19⟩, rs, us, h25, tr, ss, pe⟩ := id hC
  have hn := hN.hn
  have ha := hN.ha
  refine z_aload_n kd_C_level_0 0 rfl ?_
  refine z_get kd_C_level_1 (kf_C_10 _) c0 rfl ?_
  refine z_iload_n kd_C_level_4 1 rfl ?_
  refine z_V1 (a := 1) (As := [_]) kd_C_level_5 (kg_C_69 _) hN.h1 kc_N (c_N_hasNode hN.h1) rfl rfl (Nat.le_of_ble_eq_true rfl) ⟨Nat.le_of_ble_eq_true rfl, Nat.le_of_ble_eq_true rfl⟩ ⟨Nat.le_of_ble_eq_true rfl, Nat.le_of_ble_eq_true rfl⟩ ?_
  refine z_topi (show zB (zIn x (nI n)) = 0 by rw [hz]; rfl) ?_
  refine z_if_eq (tgt := 23) kd_C_level_8 (by decide) (fun c8 => ?_) (fun c8 => absurd c8 (by decide))
  refine z_ldc2 (v := -1) kd_C_level_23 (List.mem_cons_of_mem _ (zin 418 rfl rfl)) ?_
  exact z_lret kd_C_level_26 rfl (Nat.le_of_ble_eq_true rfl) (Nat.le_of_ble_eq_true rfl) ⟨rfl, rfl, hC, Fr.rf⟩
set_option maxHeartbeats 4000000 in
set_option maxRecDepth 100000 in
theorem c_C_level1 {l : Launch} {D : va_G} {tys : List (ClassId × FieldType)} {b N : Nat} {σ : Nat → Option va_E} {cI cJ cA : ClassId} (ht0 : tys[0]? = some (cI, .int)) (ht1 : tys[1]? = some (cJ, .long)) (ht3 : tys[3]? = some (cA, .array .long)) {cP : ClassId} {n a : Nat} {gf gt gw : Nat → Int32} {F T : Nat → Nat} {C K : Nat → Int64} (hC : CS b cI cJ cA cP σ n a gf gt gw F T C K) {v : Nat} (hv : v < n) (hz : zIn (nI v) (nI n) = true) : zM l D kCl tys kNw b ky_C_level (kh_C_level :: zT) 20 700 0 0 [.ref (b + 0), .int (nI v)] N σ ((fun oc N' σ' => oc = .returned (some (.long (C v))) ∧ N' = N ∧ CS b cI cJ cA cP σ' n a gf gt gw F T C K ∧ Fr 0 53 σ σ')) := by
  refine zM.of (by decide +kernel) rfl (Nat.le_of_ble_eq_true rfl) ?_
  refine z_pick (lv' := [(0, .ref (b + 0)), (1, .int (nI v))]) [0, 1] rfl ?_
  obtain ⟨hN, h26, h27, c0, ⟨u5, x5, g5, h5, h6⟩, ⟨s0, M0, hS0⟩, ⟨v19, w19, h19⟩, rs, us, h25, tr, ss, pe⟩ := id hC
  have hn := hN.hn
  have ha := hN.ha
  refine z_aload_n kd_C_level_0 0 rfl ?_
  refine z_get kd_C_level_1 (kf_C_10 _) c0 rfl ?_
  refine z_iload_n kd_C_level_4 1 rfl ?_
  refine z_V1 (a := 1) (As := [_]) kd_C_level_5 (kg_C_69 _) hN.h1 kc_N (c_N_hasNode hN.h1) rfl rfl (Nat.le_of_ble_eq_true rfl) ⟨Nat.le_of_ble_eq_true rfl, Nat.le_of_ble_eq_true rfl⟩ ⟨Nat.le_of_ble_eq_true rfl, Nat.le_of_ble_eq_true rfl⟩ ?_
  refine z_topi (show zB (zIn (nI v) (nI n)) = 1 by rw [hz]; rfl) ?_
  refine z_if_eq (tgt := 23) kd_C_level_8 (by decide) (fun c8 => absurd c8 (by decide)) (fun c8 => ?_)
  refine z_aload_n kd_C_level_11 0 rfl ?_
  refine z_get kd_C_level_12 (kf_C_54 _) c0 rfl ?_
  refine z_get kd_C_level_15 (kf_C_151 _) h25 rfl ?_
  refine z_iload_n kd_C_level_18 1 rfl ?_
  refine z_laldN (t0 := 1) kd_C_level_19 (by assumption) h26 (by omega) (by decide) ?_
  refine z_goto (tgt := 26) kd_C_level_20 (by decide) ?_
  exact z_lret kd_C_level_26 rfl (Nat.le_of_ble_eq_true rfl) (Nat.le_of_ble_eq_true rfl) ⟨rfl, rfl, hC, Fr.rf⟩
theorem c_C_level {l : Launch} {D : va_G} {tys : List (ClassId × FieldType)} {b N : Nat} {σ : Nat → Option va_E} {cI cJ cA : ClassId} (ht0 : tys[0]? = some (cI, .int)) (ht1 : tys[1]? = some (cJ, .long)) (ht3 : tys[3]? = some (cA, .array .long)) {cP : ClassId} {n a : Nat} {gf gt gw : Nat → Int32} {F T : Nat → Nat} {C K : Nat → Int64} (hC : CS b cI cJ cA cP σ n a gf gt gw F T C K) {x : Int32} : zM l D kCl tys kNw b ky_C_level (kh_C_level :: zT) 20 700 0 0 [.ref (b + 0), .int x] N σ (fun oc N' σ' => oc = .returned (some (.long (levelV n C (-1) x))) ∧ N' = N ∧ CS b cI cJ cA cP σ' n a gf gt gw F T C K ∧ Fr 0 53 σ σ') := by
  unfold levelV
  have hn := hC.1.hn
  cases h : nd n x with
  | none => exact c_C_level0 ht0 ht1 ht3 hC (nd_none h)
  | some v =>
    obtain ⟨rfl, hv, hz⟩ := nd_some (by omega) h
    exact c_C_level1 ht0 ht1 ht3 hC hv hz
set_option maxHeartbeats 4000000 in
set_option maxRecDepth 100000 in
theorem c_C_fired0 {l : Launch} {D : va_G} {tys : List (ClassId × FieldType)} {b N : Nat} {σ : Nat → Option va_E} {cI cJ cA : ClassId} (ht0 : tys[0]? = some (cI, .int)) (ht1 : tys[1]? = some (cJ, .long)) (ht3 : tys[3]? = some (cA, .array .long)) {cP : ClassId} {n a : Nat} {gf gt gw : Nat → Int32} {F T : Nat → Nat} {C K : Nat → Int64} (hC : CS b cI cJ cA cP σ n a gf gt gw F T C K) {x : Int32} (hz : zIn x (nI n) = false) : zM l D kCl tys kNw b ky_C_fired (kh_C_fired :: zT) 20 700 0 0 [.ref (b + 0), .int x] N σ ((fun oc N' σ' => oc = .returned (some (.long 0)) ∧ N' = N ∧ CS b cI cJ cA cP σ' n a gf gt gw F T C K ∧ Fr 0 53 σ σ')) := by
  refine zM.of (by decide +kernel) rfl (Nat.le_of_ble_eq_true rfl) ?_
  refine z_pick (lv' := [(0, .ref (b + 0)), (1, .int x)]) [0, 1] rfl ?_
  obtain ⟨hN, h26, h27, c0, ⟨u5, x5, g5, h5, h6⟩, ⟨s0, M0, hS0⟩, ⟨v19, w19, h19⟩, rs, us, h25, tr, ss, pe⟩ := id hC
  have hn := hN.hn
  have ha := hN.ha
  refine z_aload_n kd_C_fired_0 0 rfl ?_
  refine z_get kd_C_fired_1 (kf_C_10 _) c0 rfl ?_
  refine z_iload_n kd_C_fired_4 1 rfl ?_
  refine z_V1 (a := 1) (As := [_]) kd_C_fired_5 (kg_C_69 _) hN.h1 kc_N (c_N_hasNode hN.h1) rfl rfl (Nat.le_of_ble_eq_true rfl) ⟨Nat.le_of_ble_eq_true rfl, Nat.le_of_ble_eq_true rfl⟩ ⟨Nat.le_of_ble_eq_true rfl, Nat.le_of_ble_eq_true rfl⟩ ?_
  refine z_topi (show zB (zIn x (nI n)) = 0 by rw [hz]; rfl) ?_
  refine z_if_eq (tgt := 23) kd_C_fired_8 (by decide) (fun c8 => ?_) (fun c8 => absurd c8 (by decide))
  refine z_lconst (v := 0) kd_C_fired_23 (by decide +kernel) ?_
  exact z_lret kd_C_fired_24 rfl (Nat.le_of_ble_eq_true rfl) (Nat.le_of_ble_eq_true rfl) ⟨rfl, rfl, hC, Fr.rf⟩
set_option maxHeartbeats 4000000 in
set_option maxRecDepth 100000 in
theorem c_C_fired1 {l : Launch} {D : va_G} {tys : List (ClassId × FieldType)} {b N : Nat} {σ : Nat → Option va_E} {cI cJ cA : ClassId} (ht0 : tys[0]? = some (cI, .int)) (ht1 : tys[1]? = some (cJ, .long)) (ht3 : tys[3]? = some (cA, .array .long)) {cP : ClassId} {n a : Nat} {gf gt gw : Nat → Int32} {F T : Nat → Nat} {C K : Nat → Int64} (hC : CS b cI cJ cA cP σ n a gf gt gw F T C K) {v : Nat} (hv : v < n) (hz : zIn (nI v) (nI n) = true) : zM l D kCl tys kNw b ky_C_fired (kh_C_fired :: zT) 20 700 0 0 [.ref (b + 0), .int (nI v)] N σ ((fun oc N' σ' => oc = .returned (some (.long (K v))) ∧ N' = N ∧ CS b cI cJ cA cP σ' n a gf gt gw F T C K ∧ Fr 0 53 σ σ')) := by
  refine zM.of (by decide +kernel) rfl (Nat.le_of_ble_eq_true rfl) ?_
  refine z_pick (lv' := [(0, .ref (b + 0)), (1, .int (nI v))]) [0, 1] rfl ?_
  obtain ⟨hN, h26, h27, c0, ⟨u5, x5, g5, h5, h6⟩, ⟨s0, M0, hS0⟩, ⟨v19, w19, h19⟩, rs, us, h25, tr, ss, pe⟩ := id hC
  have hn := hN.hn
  have ha := hN.ha
  refine z_aload_n kd_C_fired_0 0 rfl ?_
  refine z_get kd_C_fired_1 (kf_C_10 _) c0 rfl ?_
  refine z_iload_n kd_C_fired_4 1 rfl ?_
  refine z_V1 (a := 1) (As := [_]) kd_C_fired_5 (kg_C_69 _) hN.h1 kc_N (c_N_hasNode hN.h1) rfl rfl (Nat.le_of_ble_eq_true rfl) ⟨Nat.le_of_ble_eq_true rfl, Nat.le_of_ble_eq_true rfl⟩ ⟨Nat.le_of_ble_eq_true rfl, Nat.le_of_ble_eq_true rfl⟩ ?_
  refine z_topi (show zB (zIn (nI v) (nI n)) = 1 by rw [hz]; rfl) ?_
  refine z_if_eq (tgt := 23) kd_C_fired_8 (by decide) (fun c8 => absurd c8 (by decide)) (fun c8 => ?_)
  refine z_aload_n kd_C_fired_11 0 rfl ?_
  refine z_get kd_C_fired_12 (kf_C_54 _) c0 rfl ?_
  refine z_get kd_C_fired_15 (kf_C_162 _) h25 rfl ?_
  refine z_iload_n kd_C_fired_18 1 rfl ?_
  refine z_laldN (t0 := 1) kd_C_fired_19 (by assumption) h27 (by omega) (by decide) ?_
  refine z_goto (tgt := 24) kd_C_fired_20 (by decide) ?_
  exact z_lret kd_C_fired_24 rfl (Nat.le_of_ble_eq_true rfl) (Nat.le_of_ble_eq_true rfl) ⟨rfl, rfl, hC, Fr.rf⟩
theorem c_C_fired {l : Launch} {D : va_G} {tys : List (ClassId × FieldType)} {b N : Nat} {σ : Nat → Option va_E} {cI cJ cA : ClassId} (ht0 : tys[0]? = some (cI, .int)) (ht1 : tys[1]? = some (cJ, .long)) (ht3 : tys[3]? = some (cA, .array .long)) {cP : ClassId} {n a : Nat} {gf gt gw : Nat → Int32} {F T : Nat → Nat} {C K : Nat → Int64} (hC : CS b cI cJ cA cP σ n a gf gt gw F T C K) {x : Int32} : zM l D kCl tys kNw b ky_C_fired (kh_C_fired :: zT) 20 700 0 0 [.ref (b + 0), .int x] N σ (fun oc N' σ' => oc = .returned (some (.long (levelV n K 0 x))) ∧ N' = N ∧ CS b cI cJ cA cP σ' n a gf gt gw F T C K ∧ Fr 0 53 σ σ') := by
  unfold levelV
  have hn := hC.1.hn
  cases h : nd n x with
  | none => exact c_C_fired0 ht0 ht1 ht3 hC (nd_none h)
  | some v =>
    obtain ⟨rfl, hv, hz⟩ := nd_some (by omega) h
    exact c_C_fired1 ht0 ht1 ht3 hC hv hz
set_option maxHeartbeats 4000000 in
set_option maxRecDepth 100000 in
theorem c_C_chips0 {l : Launch} {D : va_G} {tys : List (ClassId × FieldType)} {b N : Nat} {σ : Nat → Option va_E} {cI cJ cA : ClassId} (ht0 : tys[0]? = some (cI, .int)) (ht1 : tys[1]? = some (cJ, .long)) (ht3 : tys[3]? = some (cA, .array .long)) {cP : ClassId} {n a : Nat} {gf gt gw : Nat → Int32} {F T : Nat → Nat} {C K : Nat → Int64} (hC : CS b cI cJ cA cP σ n a gf gt gw F T C K) {x y : Int32} (hz : zIn x (nI n) = false) : zM l D kCl tys kNw b ky_C_chips (kh_C_chips :: zT) 20 700 0 0 [.ref (b + 0), .int x, .int y] N σ ((fun oc N' σ' => oc = .returned (some (.long (-1))) ∧ N' = N ∧ CS b cI cJ cA cP σ' n a gf gt gw F T C K ∧ Fr 0 53 σ σ')) := by
  refine zM.of (by decide +kernel) rfl (Nat.le_of_ble_eq_true rfl) ?_
  refine z_pick (lv' := [(0, .ref (b + 0)), (1, .int x), (2, .int y)]) [0, 1, 2] rfl ?_
  obtain ⟨hN, h26, h27, c0, ⟨u5, x5, g5, h5, h6⟩, ⟨s0, M0, hS0⟩, ⟨v19, w19, h19⟩, rs, us, h25, tr, ss, pe⟩ := id hC
  have hn := hN.hn
  have ha := hN.ha
  refine z_aload_n kd_C_chips_0 0 rfl ?_
  refine z_get kd_C_chips_1 (kf_C_10 _) c0 rfl ?_
  refine z_iload_n kd_C_chips_4 1 rfl ?_
  refine z_V1 (a := 1) (As := [_]) kd_C_chips_5 (kg_C_69 _) hN.h1 kc_N (c_N_hasNode hN.h1) rfl rfl (Nat.le_of_ble_eq_true rfl) ⟨Nat.le_of_ble_eq_true rfl, Nat.le_of_ble_eq_true rfl⟩ ⟨Nat.le_of_ble_eq_true rfl, Nat.le_of_ble_eq_true rfl⟩ ?_
  refine z_topi (show zB (zIn x (nI n)) = 0 by rw [hz]; rfl) ?_
  refine z_if_eq (tgt := 22) kd_C_chips_8 (by decide) (fun c8 => ?_) (fun c8 => absurd c8 (by decide))
  refine z_ldc2 (v := -1) kd_C_chips_22 (List.mem_cons_of_mem _ (zin 418 rfl rfl)) ?_
  exact z_lret kd_C_chips_25 rfl (Nat.le_of_ble_eq_true rfl) (Nat.le_of_ble_eq_true rfl) ⟨rfl, rfl, hC, Fr.rf⟩
set_option maxHeartbeats 4000000 in
set_option maxRecDepth 100000 in
theorem c_C_chips1 {l : Launch} {D : va_G} {tys : List (ClassId × FieldType)} {b N : Nat} {σ : Nat → Option va_E} {cI cJ cA : ClassId} (ht0 : tys[0]? = some (cI, .int)) (ht1 : tys[1]? = some (cJ, .long)) (ht3 : tys[3]? = some (cA, .array .long)) {cP : ClassId} {n a : Nat} {gf gt gw : Nat → Int32} {F T : Nat → Nat} {C K : Nat → Int64} (hC : CS b cI cJ cA cP σ n a gf gt gw F T C K) {x y : Int32} (hz : zIn x (nI n) = true) (hy : ¬ (¬ y < 0 ∧ y ≤ 200)) : zM l D kCl tys kNw b ky_C_chips (kh_C_chips :: zT) 20 700 0 0 [.ref (b + 0), .int x, .int y] N σ ((fun oc N' σ' => oc = .returned (some (.long (-1))) ∧ N' = N ∧ CS b cI cJ cA cP σ' n a gf gt gw F T C K ∧ Fr 0 53 σ σ')) := by
  refine zM.of (by decide +kernel) rfl (Nat.le_of_ble_eq_true rfl) ?_
  refine z_pick (lv' := [(0, .ref (b + 0)), (1, .int x), (2, .int y)]) [0, 1, 2] rfl ?_
  obtain ⟨hN, h26, h27, c0, ⟨u5, x5, g5, h5, h6⟩, ⟨s0, M0, hS0⟩, ⟨v19, w19, h19⟩, rs, us, h25, tr, ss, pe⟩ := id hC
  have hn := hN.hn
  have ha := hN.ha
  refine z_aload_n kd_C_chips_0 0 rfl ?_
  refine z_get kd_C_chips_1 (kf_C_10 _) c0 rfl ?_
  refine z_iload_n kd_C_chips_4 1 rfl ?_
  refine z_V1 (a := 1) (As := [_]) kd_C_chips_5 (kg_C_69 _) hN.h1 kc_N (c_N_hasNode hN.h1) rfl rfl (Nat.le_of_ble_eq_true rfl) ⟨Nat.le_of_ble_eq_true rfl, Nat.le_of_ble_eq_true rfl⟩ ⟨Nat.le_of_ble_eq_true rfl, Nat.le_of_ble_eq_true rfl⟩ ?_
  refine z_topi (show zB (zIn x (nI n)) = 1 by rw [hz]; rfl) ?_
  refine z_if_eq (tgt := 22) kd_C_chips_8 (by decide) (fun c8 => absurd c8 (by decide)) (fun c8 => ?_)
  refine z_iload_n kd_C_chips_11 2 rfl ?_
  refine z_if_lt (tgt := 22) kd_C_chips_12 (by decide) (fun c12 => ?_) (fun c12 => ?_)
  · refine z_ldc2 (v := -1) kd_C_chips_22 (List.mem_cons_of_mem _ (zin 418 rfl rfl)) ?_
    exact z_lret kd_C_chips_25 rfl (Nat.le_of_ble_eq_true rfl) (Nat.le_of_ble_eq_true rfl) ⟨rfl, rfl, hC, Fr.rf⟩
  · refine z_iload_n kd_C_chips_15 2 rfl ?_
    refine z_sipush (v := 200) kd_C_chips_16 (by decide +kernel) ?_
    refine z_icmp_le (tgt := 26) kd_C_chips_19 (by decide) (fun c19 => ?_) (fun c19 => ?_)
    · exact absurd ⟨c12, c19⟩ hy
    · refine z_ldc2 (v := -1) kd_C_chips_22 (List.mem_cons_of_mem _ (zin 418 rfl rfl)) ?_
      exact z_lret kd_C_chips_25 rfl (Nat.le_of_ble_eq_true rfl) (Nat.le_of_ble_eq_true rfl) ⟨rfl, rfl, hC, Fr.rf⟩
set_option maxHeartbeats 4000000 in
set_option maxRecDepth 100000 in
theorem c_C_chips2 {l : Launch} {D : va_G} {tys : List (ClassId × FieldType)} {b N : Nat} {σ : Nat → Option va_E} {cI cJ cA : ClassId} (ht0 : tys[0]? = some (cI, .int)) (ht1 : tys[1]? = some (cJ, .long)) (ht3 : tys[3]? = some (cA, .array .long)) {cP : ClassId} {n a : Nat} {gf gt gw : Nat → Int32} {F T : Nat → Nat} {C K : Nat → Int64} (hC : CS b cI cJ cA cP σ n a gf gt gw F T C K) {v : Nat} {y : Int32} (hv : v < n) (hz : zIn (nI v) (nI n) = true) (hy : ¬ y < 0 ∧ y ≤ 200) : zM l D kCl tys kNw b ky_C_chips (kh_C_chips :: zT) 20 700 0 0 [.ref (b + 0), .int (nI v), .int y] N σ ((fun oc N' σ' => oc = .returned (some (.long (C v))) ∧ N' = N ∧ CS b cI cJ cA cP σ' n a gf gt gw F T (vp_updL C v y.toInt64) K ∧ Fr 0 53 σ σ')) := by
  refine zM.of (by decide +kernel) rfl (Nat.le_of_ble_eq_true rfl) ?_
  refine z_pick (lv' := [(0, .ref (b + 0)), (1, .int (nI v)), (2, .int y)]) [0, 1, 2] rfl ?_
  obtain ⟨hN, h26, h27, c0, ⟨u5, x5, g5, h5, h6⟩, ⟨s0, M0, hS0⟩, ⟨v19, w19, h19⟩, rs, us, h25, tr, ss, pe⟩ := id hC
  have hn := hN.hn
  have ha := hN.ha
  refine z_aload_n kd_C_chips_0 0 rfl ?_
  refine z_get kd_C_chips_1 (kf_C_10 _) c0 rfl ?_
  refine z_iload_n kd_C_chips_4 1 rfl ?_
  refine z_V1 (a := 1) (As := [_]) kd_C_chips_5 (kg_C_69 _) hN.h1 kc_N (c_N_hasNode hN.h1) rfl rfl (Nat.le_of_ble_eq_true rfl) ⟨Nat.le_of_ble_eq_true rfl, Nat.le_of_ble_eq_true rfl⟩ ⟨Nat.le_of_ble_eq_true rfl, Nat.le_of_ble_eq_true rfl⟩ ?_
  refine z_topi (show zB (zIn (nI v) (nI n)) = 1 by rw [hz]; rfl) ?_
  refine z_if_eq (tgt := 22) kd_C_chips_8 (by decide) (fun c8 => absurd c8 (by decide)) (fun c8 => ?_)
  refine z_iload_n kd_C_chips_11 2 rfl ?_
  refine z_if_lt (tgt := 22) kd_C_chips_12 (by decide) (fun c12 => ?_) (fun c12 => ?_)
  · exact absurd c12 hy.1
  · refine z_iload_n kd_C_chips_15 2 rfl ?_
    refine z_sipush (v := 200) kd_C_chips_16 (by decide +kernel) ?_
    refine z_icmp_le (tgt := 26) kd_C_chips_19 (by decide) (fun c19 => ?_) (fun c19 => ?_)
    · refine z_aload_n kd_C_chips_26 0 rfl ?_
      refine z_get kd_C_chips_27 (kf_C_54 _) c0 rfl ?_
      refine z_get kd_C_chips_30 (kf_C_151 _) h25 rfl ?_
      refine z_iload_n kd_C_chips_33 1 rfl ?_
      refine z_laldN (t0 := 1) kd_C_chips_34 (by assumption) h26 (by omega) (by decide) ?_
      refine z_lstore_n (lv' := [(3, .long _), (0, .ref (b + 0)), (1, .int _), (2, .int _)]) kd_C_chips_35 (by decide) rfl ?_
      refine z_aload_n kd_C_chips_36 1 rfl ?_
      refine z_get kd_C_chips_37 (kf_C_54 _) c0 rfl ?_
      refine z_get kd_C_chips_40 (kf_C_151 _) h25 rfl ?_
      refine z_iload_n kd_C_chips_43 2 rfl ?_
      refine z_iload_n kd_C_chips_44 3 rfl ?_
      refine z_i2l kd_C_chips_45 ?_
      refine z_lastN (t0 := 1) kd_C_chips_46 (by assumption) h26 (by omega) (by decide) ?_
      refine z_upd (fun σ_1 x26_1 q_1 => ?_)
      have hN_1 := hN.fr q_1 (by omega)
      have x0_1 := (q_1 0 (by omega)).trans c0
      have x25_1 := (q_1 25 (by omega)).trans h25
      have x27_1 := (q_1 27 (by omega)).trans h27
      refine z_lload_n kd_C_chips_47 0 rfl ?_
      exact z_lret kd_C_chips_48 rfl (Nat.le_of_ble_eq_true rfl) (Nat.le_of_ble_eq_true rfl) ⟨rfl, rfl, hC.r26 x26_1 (Fr.tr Fr.rf (q_1.wide (by omega) (by omega))), Fr.wide (show Fr 26 26 σ _ from (Fr.tr Fr.rf (q_1.wide (by omega) (by omega)))) (by omega) (by omega)⟩
    · exact absurd hy.2 c19
