def apartV (n a : Nat) (F T : Nat → Nat) (w : Nat → Int32) (x y : Int32) : Int64 := match nd n x with
  | none => 0
  | some u => match nd n y with
    | none => 0
    | some v => if u = v then 0 else dtN n (strM n v (strM n u (fbM F T w Z0 a)))
set_option maxHeartbeats 4000000 in
set_option maxRecDepth 100000 in
theorem c_C_apart0 {l : Launch} {D : va_G} {tys : List (ClassId × FieldType)} {b N : Nat} {σ : Nat → Option va_E} {cI cJ cA : ClassId} (ht0 : tys[0]? = some (cI, .int)) (ht1 : tys[1]? = some (cJ, .long)) (ht3 : tys[3]? = some (cA, .array .long)) {cP : ClassId} {n a : Nat} {gf gt gw : Nat → Int32} {F T : Nat → Nat} {C K : Nat → Int64} (hC : CS b cI cJ cA cP σ n a gf gt gw F T C K) {x y : Int32} (hz : zIn x (nI n) = false) : zM l D kCl tys kNw b ky_C_apart (kh_C_apart :: zT) 20 700 0 0 [.ref (b + 0), .int x, .int y] N σ ((fun oc N' σ' => oc = .returned (some (.long (0))) ∧ N' = N ∧ CS b cI cJ cA cP σ' n a gf gt gw F T C K ∧ Fr 0 53 σ σ')) := by
  refine zM.of (by decide +kernel) rfl (Nat.le_of_ble_eq_true rfl) ?_
  refine z_pick (lv' := [(0, .ref (b + 0)), (1, .int x), (2, .int y)]) [0, 1, 2] rfl ?_
  obtain ⟨hN, h26, h27, c0, ⟨u5, x5, g5, h5, h6⟩, ⟨s0, M0, hS0⟩, ⟨v19, w19, h19⟩, rs, us, h25, tr, ss, pe⟩ := id hC
  have hn := hN.hn
  have ha := hN.ha
  refine z_aload_n kd_C_apart_0 0 rfl ?_
  refine z_get kd_C_apart_1 (kf_C_10 _) c0 rfl ?_
  refine z_iload_n kd_C_apart_4 1 rfl ?_
  refine z_V1 (a := 1) (As := [_]) kd_C_apart_5 (kg_C_69 _) hN.h1 kc_N (c_N_hasNode hN.h1) rfl rfl (Nat.le_of_ble_eq_true rfl) ⟨Nat.le_of_ble_eq_true rfl, Nat.le_of_ble_eq_true rfl⟩ ⟨Nat.le_of_ble_eq_true rfl, Nat.le_of_ble_eq_true rfl⟩ ?_
  refine z_topi (show zB (zIn x (nI n)) = 0 by rw [hz]; rfl) ?_
  refine z_if_eq (tgt := 27) kd_C_apart_8 (by decide) (fun c8 => ?_) (fun c8 => absurd c8 (by decide))
  refine z_lconst (v := 0) kd_C_apart_27 (by decide +kernel) ?_
  exact z_lret kd_C_apart_28 rfl (Nat.le_of_ble_eq_true rfl) (Nat.le_of_ble_eq_true rfl) ⟨rfl, rfl, hC, Fr.rf⟩
set_option maxHeartbeats 4000000 in
set_option maxRecDepth 100000 in
theorem c_C_apart1 {l : Launch} {D : va_G} {tys : List (ClassId × FieldType)} {b N : Nat} {σ : Nat → Option va_E} {cI cJ cA : ClassId} (ht0 : tys[0]? = some (cI, .int)) (ht1 : tys[1]? = some (cJ, .long)) (ht3 : tys[3]? = some (cA, .array .long)) {cP : ClassId} {n a : Nat} {gf gt gw : Nat → Int32} {F T : Nat → Nat} {C K : Nat → Int64} (hC : CS b cI cJ cA cP σ n a gf gt gw F T C K) {u : Nat} {y : Int32} (hz : zIn (nI u) (nI n) = true) (hz2 : zIn y (nI n) = false) : zM l D kCl tys kNw b ky_C_apart (kh_C_apart :: zT) 20 700 0 0 [.ref (b + 0), .int (nI u), .int y] N σ ((fun oc N' σ' => oc = .returned (some (.long (0))) ∧ N' = N ∧ CS b cI cJ cA cP σ' n a gf gt gw F T C K ∧ Fr 0 53 σ σ')) := by
  refine zM.of (by decide +kernel) rfl (Nat.le_of_ble_eq_true rfl) ?_
  refine z_pick (lv' := [(0, .ref (b + 0)), (1, .int (nI u)), (2, .int y)]) [0, 1, 2] rfl ?_
  obtain ⟨hN, h26, h27, c0, ⟨u5, x5, g5, h5, h6⟩, ⟨s0, M0, hS0⟩, ⟨v19, w19, h19⟩, rs, us, h25, tr, ss, pe⟩ := id hC
  have hn := hN.hn
  have ha := hN.ha
  refine z_aload_n kd_C_apart_0 0 rfl ?_
  refine z_get kd_C_apart_1 (kf_C_10 _) c0 rfl ?_
  refine z_iload_n kd_C_apart_4 1 rfl ?_
  refine z_V1 (a := 1) (As := [_]) kd_C_apart_5 (kg_C_69 _) hN.h1 kc_N (c_N_hasNode hN.h1) rfl rfl (Nat.le_of_ble_eq_true rfl) ⟨Nat.le_of_ble_eq_true rfl, Nat.le_of_ble_eq_true rfl⟩ ⟨Nat.le_of_ble_eq_true rfl, Nat.le_of_ble_eq_true rfl⟩ ?_
  refine z_topi (show zB (zIn (nI u) (nI n)) = 1 by rw [hz]; rfl) ?_
  refine z_if_eq (tgt := 27) kd_C_apart_8 (by decide) (fun c8 => absurd c8 (by decide)) (fun c8 => ?_)
  refine z_aload_n kd_C_apart_11 0 rfl ?_
  refine z_get kd_C_apart_12 (kf_C_10 _) c0 rfl ?_
  refine z_iload_n kd_C_apart_15 2 rfl ?_
  refine z_V1 (a := 1) (As := [_]) kd_C_apart_16 (kg_C_69 _) hN.h1 kc_N (c_N_hasNode hN.h1) rfl rfl (Nat.le_of_ble_eq_true rfl) ⟨Nat.le_of_ble_eq_true rfl, Nat.le_of_ble_eq_true rfl⟩ ⟨Nat.le_of_ble_eq_true rfl, Nat.le_of_ble_eq_true rfl⟩ ?_
  refine z_topi (show zB (zIn y (nI n)) = 0 by rw [hz2]; rfl) ?_
  refine z_if_eq (tgt := 27) kd_C_apart_19 (by decide) (fun c19 => ?_) (fun c19 => absurd c19 (by decide))
  refine z_lconst (v := 0) kd_C_apart_27 (by decide +kernel) ?_
  exact z_lret kd_C_apart_28 rfl (Nat.le_of_ble_eq_true rfl) (Nat.le_of_ble_eq_true rfl) ⟨rfl, rfl, hC, Fr.rf⟩
set_option maxHeartbeats 4000000 in
set_option maxRecDepth 100000 in
theorem c_C_apart2 {l : Launch} {D : va_G} {tys : List (ClassId × FieldType)} {b N : Nat} {σ : Nat → Option va_E} {cI cJ cA : ClassId} (ht0 : tys[0]? = some (cI, .int)) (ht1 : tys[1]? = some (cJ, .long)) (ht3 : tys[3]? = some (cA, .array .long)) {cP : ClassId} {n a : Nat} {gf gt gw : Nat → Int32} {F T : Nat → Nat} {C K : Nat → Int64} (hC : CS b cI cJ cA cP σ n a gf gt gw F T C K) {u v : Nat} (hu : u < n) (hv : v < n) (hz : zIn (nI u) (nI n) = true) (hz2 : zIn (nI v) (nI n) = true) (huv : u = v) : zM l D kCl tys kNw b ky_C_apart (kh_C_apart :: zT) 20 700 0 0 [.ref (b + 0), .int (nI u), .int (nI v)] N σ ((fun oc N' σ' => oc = .returned (some (.long (0))) ∧ N' = N ∧ CS b cI cJ cA cP σ' n a gf gt gw F T C K ∧ Fr 0 53 σ σ')) := by
  refine zM.of (by decide +kernel) rfl (Nat.le_of_ble_eq_true rfl) ?_
  refine z_pick (lv' := [(0, .ref (b + 0)), (1, .int (nI u)), (2, .int (nI v))]) [0, 1, 2] rfl ?_
  obtain ⟨hN, h26, h27, c0, ⟨u5, x5, g5, h5, h6⟩, ⟨s0, M0, hS0⟩, ⟨v19, w19, h19⟩, rs, us, h25, tr, ss, pe⟩ := id hC
  have hn := hN.hn
  have ha := hN.ha
  refine z_aload_n kd_C_apart_0 0 rfl ?_
  refine z_get kd_C_apart_1 (kf_C_10 _) c0 rfl ?_
  refine z_iload_n kd_C_apart_4 1 rfl ?_
  refine z_V1 (a := 1) (As := [_]) kd_C_apart_5 (kg_C_69 _) hN.h1 kc_N (c_N_hasNode hN.h1) rfl rfl (Nat.le_of_ble_eq_true rfl) ⟨Nat.le_of_ble_eq_true rfl, Nat.le_of_ble_eq_true rfl⟩ ⟨Nat.le_of_ble_eq_true rfl, Nat.le_of_ble_eq_true rfl⟩ ?_
  refine z_topi (show zB (zIn (nI u) (nI n)) = 1 by rw [hz]; rfl) ?_
  refine z_if_eq (tgt := 27) kd_C_apart_8 (by decide) (fun c8 => absurd c8 (by decide)) (fun c8 => ?_)
  refine z_aload_n kd_C_apart_11 0 rfl ?_
  refine z_get kd_C_apart_12 (kf_C_10 _) c0 rfl ?_
  refine z_iload_n kd_C_apart_15 2 rfl ?_
  refine z_V1 (a := 1) (As := [_]) kd_C_apart_16 (kg_C_69 _) hN.h1 kc_N (c_N_hasNode hN.h1) rfl rfl (Nat.le_of_ble_eq_true rfl) ⟨Nat.le_of_ble_eq_true rfl, Nat.le_of_ble_eq_true rfl⟩ ⟨Nat.le_of_ble_eq_true rfl, Nat.le_of_ble_eq_true rfl⟩ ?_
  refine z_topi (show zB (zIn (nI v) (nI n)) = 1 by rw [hz2]; rfl) ?_
  refine z_if_eq (tgt := 27) kd_C_apart_19 (by decide) (fun c19 => absurd c19 (by decide)) (fun c19 => ?_)
  refine z_iload_n kd_C_apart_22 1 rfl ?_
  refine z_iload_n kd_C_apart_23 2 rfl ?_
  refine z_icmp_ne (tgt := 29) kd_C_apart_24 (by decide) (fun c24 => ?_) (fun c24 => ?_)
  · exact absurd (by rw [huv]) c24
  · refine z_lconst (v := 0) kd_C_apart_27 (by decide +kernel) ?_
    exact z_lret kd_C_apart_28 rfl (Nat.le_of_ble_eq_true rfl) (Nat.le_of_ble_eq_true rfl) ⟨rfl, rfl, hC, Fr.rf⟩
set_option maxHeartbeats 4000000 in
set_option maxRecDepth 100000 in
theorem c_C_apart3 {l : Launch} {D : va_G} {tys : List (ClassId × FieldType)} {b N : Nat} {σ : Nat → Option va_E} {cI cJ cA : ClassId} (ht0 : tys[0]? = some (cI, .int)) (ht1 : tys[1]? = some (cJ, .long)) (ht3 : tys[3]? = some (cA, .array .long)) {cP : ClassId} {n a : Nat} {gf gt gw : Nat → Int32} {F T : Nat → Nat} {C K : Nat → Int64} (hC : CS b cI cJ cA cP σ n a gf gt gw F T C K) {u v : Nat} (hu : u < n) (hv : v < n) (hz : zIn (nI u) (nI n) = true) (hz2 : zIn (nI v) (nI n) = true) (huv : ¬ u = v) : zM l D kCl tys kNw b ky_C_apart (kh_C_apart :: zT) 20 700 0 0 [.ref (b + 0), .int (nI u), .int (nI v)] N σ ((fun oc N' σ' => oc = .returned (some (.long (dtN n (strM n v (strM n u (fbM F T gw Z0 a)))))) ∧ N' = N ∧ CS b cI cJ cA cP σ' n a gf gt gw F T C K ∧ Fr 0 53 σ σ')) := by
  refine zM.of (by decide +kernel) rfl (Nat.le_of_ble_eq_true rfl) ?_
  refine z_pick (lv' := [(0, .ref (b + 0)), (1, .int (nI u)), (2, .int (nI v))]) [0, 1, 2] rfl ?_
  obtain ⟨hN, h26, h27, c0, ⟨u5, x5, g5, h5, h6⟩, ⟨s0, M0, hS0⟩, ⟨v19, w19, h19⟩, rs, us, h25, tr, ss, pe⟩ := id hC
  have hn := hN.hn
  have ha := hN.ha
  refine z_aload_n kd_C_apart_0 0 rfl ?_
  refine z_get kd_C_apart_1 (kf_C_10 _) c0 rfl ?_
  refine z_iload_n kd_C_apart_4 1 rfl ?_
  refine z_V1 (a := 1) (As := [_]) kd_C_apart_5 (kg_C_69 _) hN.h1 kc_N (c_N_hasNode hN.h1) rfl rfl (Nat.le_of_ble_eq_true rfl) ⟨Nat.le_of_ble_eq_true rfl, Nat.le_of_ble_eq_true rfl⟩ ⟨Nat.le_of_ble_eq_true rfl, Nat.le_of_ble_eq_true rfl⟩ ?_
  refine z_topi (show zB (zIn (nI u) (nI n)) = 1 by rw [hz]; rfl) ?_
  refine z_if_eq (tgt := 27) kd_C_apart_8 (by decide) (fun c8 => absurd c8 (by decide)) (fun c8 => ?_)
  refine z_aload_n kd_C_apart_11 0 rfl ?_
  refine z_get kd_C_apart_12 (kf_C_10 _) c0 rfl ?_
  refine z_iload_n kd_C_apart_15 2 rfl ?_
  refine z_V1 (a := 1) (As := [_]) kd_C_apart_16 (kg_C_69 _) hN.h1 kc_N (c_N_hasNode hN.h1) rfl rfl (Nat.le_of_ble_eq_true rfl) ⟨Nat.le_of_ble_eq_true rfl, Nat.le_of_ble_eq_true rfl⟩ ⟨Nat.le_of_ble_eq_true rfl, Nat.le_of_ble_eq_true rfl⟩ ?_
  refine z_topi (show zB (zIn (nI v) (nI n)) = 1 by rw [hz2]; rfl) ?_
  refine z_if_eq (tgt := 27) kd_C_apart_19 (by decide) (fun c19 => absurd c19 (by decide)) (fun c19 => ?_)
  refine z_iload_n kd_C_apart_22 1 rfl ?_
  refine z_iload_n kd_C_apart_23 2 rfl ?_
  refine z_icmp_ne (tgt := 29) kd_C_apart_24 (by decide) (fun c24 => ?_) (fun c24 => ?_)
  · refine z_aload_n kd_C_apart_29 0 rfl ?_
    refine z_get kd_C_apart_30 (kf_C_27 _) c0 rfl ?_
    refine z_iload_n kd_C_apart_33 1 rfl ?_
    refine z_iload_n kd_C_apart_34 2 rfl ?_
    refine z_callV (a := 19) (As := [_, _]) kd_C_apart_35 (kg_C_108 _) h19 kc_T (c_T_sumOfPairs ht0 ht1 ht3 hN h19 ⟨_, _, hS0⟩ hu hv) rfl rfl (Nat.le_of_ble_eq_true rfl) ⟨Nat.le_of_ble_eq_true rfl, Nat.le_of_ble_eq_true rfl⟩ ⟨Nat.le_of_ble_eq_true rfl, Nat.le_of_ble_eq_true rfl⟩ ?_
    rintro _ _ σ_1 ⟨hv, rfl, ⟨s_1, M_1, hS_1⟩, q_1⟩
    cases hv
    refine z_eq (st' := [_]) rfl rfl rfl rfl ?_
    have hN_1 := hN.fr q_1 (by omega)
    have h5_1 := (q_1 5 (by omega)).trans h5
    have h6_1 := (q_1 6 (by omega)).trans h6
    have x0_1 := (q_1 0 (by omega)).trans c0
    have x19_1 := (q_1 19 (by omega)).trans h19
    exact z_lret kd_C_apart_38 rfl (Nat.le_of_ble_eq_true rfl) (Nat.le_of_ble_eq_true rfl) ⟨rfl, rfl, hC.r7 ⟨_, _, hS_1⟩ (Fr.tr Fr.rf (q_1.wide (by omega) (by omega))), Fr.wide (show Fr 7 18 σ _ from (Fr.tr Fr.rf (q_1.wide (by omega) (by omega)))) (by omega) (by omega)⟩
  · exact absurd ((nI_eq (by omega) (by omega)).mp c24) huv
theorem c_C_apart {l : Launch} {D : va_G} {tys : List (ClassId × FieldType)} {b N : Nat} {σ : Nat → Option va_E} {cI cJ cA : ClassId} (ht0 : tys[0]? = some (cI, .int)) (ht1 : tys[1]? = some (cJ, .long)) (ht3 : tys[3]? = some (cA, .array .long)) {cP : ClassId} {n a : Nat} {gf gt gw : Nat → Int32} {F T : Nat → Nat} {C K : Nat → Int64} (hC : CS b cI cJ cA cP σ n a gf gt gw F T C K) {x y : Int32} : zM l D kCl tys kNw b ky_C_apart (kh_C_apart :: zT) 20 700 0 0 [.ref (b + 0), .int x, .int y] N σ (fun oc N' σ' => oc = .returned (some (.long (apartV n a F T gw x y))) ∧ N' = N ∧ CS b cI cJ cA cP σ' n a gf gt gw F T C K ∧ Fr 0 53 σ σ') := by
  unfold apartV
  have hn := hC.1.hn
  cases h : nd n x with
  | none => exact c_C_apart0 ht0 ht1 ht3 hC (nd_none h)
  | some u =>
    obtain ⟨rfl, hu, hz⟩ := nd_some (by omega) h
    cases h2 : nd n y with
    | none => exact c_C_apart1 ht0 ht1 ht3 hC hz (nd_none h2)
    | some v =>
      obtain ⟨rfl, hv, hz2⟩ := nd_some (by omega) h2
      by_cases huv : u = v
      · simp only [huv, if_true]
        rw [huv] at hz
        exact c_C_apart2 ht0 ht1 ht3 hC hv hv hz hz2 rfl
      · simp only [huv, if_false]
        exact c_C_apart3 ht0 ht1 ht3 hC hu hv hz hz2 huv
set_option maxHeartbeats 4000000 in
set_option maxRecDepth 100000 in
theorem c_C_drawn {l : Launch} {D : va_G} {tys : List (ClassId × FieldType)} {b N : Nat} {σ : Nat → Option va_E} {cI cJ cA : ClassId} (ht0 : tys[0]? = some (cI, .int)) (ht1 : tys[1]? = some (cJ, .long)) (ht3 : tys[3]? = some (cA, .array .long)) {cP : ClassId} {n a : Nat} {gf gt gw : Nat → Int32} {F T : Nat → Nat} {C K : Nat → Int64} (hC : CS b cI cJ cA cP σ n a gf gt gw F T C K) {p : Int64} : zM l D kCl tys kNw b ky_C_drawn (kh_C_drawn :: zT) 20 700 0 0 [.ref (b + 0), .long p] N σ ((fun oc N' σ' => oc = .returned (some (.int (taV n a F T gw p))) ∧ N' = N ∧ CS b cI cJ cA cP σ' n a gf gt gw F T C K ∧ Fr 0 53 σ σ')) := by
  refine zM.of (by decide +kernel) rfl (Nat.le_of_ble_eq_true rfl) ?_
  refine z_pick (lv' := [(0, .ref (b + 0)), (1, .long p)]) [0, 1] rfl ?_
  obtain ⟨hN, h26, h27, c0, ⟨u5, x5, g5, h5, h6⟩, ⟨s0, M0, hS0⟩, ⟨v19, w19, h19⟩, rs, us, h25, tr, ss, pe⟩ := id hC
  have hn := hN.hn
  have ha := hN.ha
  refine z_aload_n kd_C_drawn_0 0 rfl ?_
  refine z_get kd_C_drawn_1 (kf_C_27 _) c0 rfl ?_
  refine z_lload_n kd_C_drawn_4 1 rfl ?_
  refine z_callV (a := 19) (As := [_]) kd_C_drawn_5 (kg_C_122 _) h19 kc_T (c_T_treeAt ht0 ht1 ht3 hN h19 ⟨_, _, _, h5, h6⟩ ⟨_, _, hS0⟩) rfl rfl (Nat.le_of_ble_eq_true rfl) ⟨Nat.le_of_ble_eq_true rfl, Nat.le_of_ble_eq_true rfl⟩ ⟨Nat.le_of_ble_eq_true rfl, Nat.le_of_ble_eq_true rfl⟩ ?_
  rintro _ _ σ_1 ⟨hv, rfl, ⟨u5_1, x5_1, g5_1, h5_1, h6_1⟩, ⟨s_1, M_1, hS_1⟩, ⟨v19_1, w19_1, x19_1⟩, q_1⟩
  cases hv
  refine z_eq (st' := [_]) rfl rfl rfl rfl ?_
  have hN_1 := hN.fr q_1 (by omega)
  have x0_1 := (q_1 0 (by omega)).trans c0
  exact z_iret kd_C_drawn_8 rfl (Nat.le_of_ble_eq_true rfl) (Nat.le_of_ble_eq_true rfl) ⟨rfl, rfl, hC.r19 ⟨_, _, _, h5_1, h6_1⟩ ⟨_, _, hS_1⟩ ⟨_, _, x19_1⟩ (Fr.tr Fr.rf (q_1.wide (by omega) (by omega))), Fr.wide (show Fr 5 19 σ _ from (Fr.tr Fr.rf (q_1.wide (by omega) (by omega)))) (by omega) (by omega)⟩
