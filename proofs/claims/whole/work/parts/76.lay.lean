set_option maxHeartbeats 4000000 in
set_option maxRecDepth 100000 in
theorem c_R_lay0 {l : Launch} {D : va_G} {tys : List (ClassId × FieldType)} {b N : Nat} {σ : Nat → Option va_E} {cI cJ cA : ClassId} (ht0 : tys[0]? = some (cI, .int)) (ht1 : tys[1]? = some (cJ, .long)) (ht3 : tys[3]? = some (cA, .array .long)) {n a : Nat} {gf gt gw : Nat → Int32} {F T : Nat → Nat} (hN : NS b cI σ n a gf gt gw F T) {v20 : Value} {Rw g22 : Nat → Int32} (h20 : σ 20 = some (.inr (5, [v20, .ref (b + 21), .ref (b + 22), .ref (b + 1), .ref (b + 5)]))) (h21 : σ 21 = some (.inl (cI, 10, .inl Rw))) (h22 : σ 22 = some (.inl (cI, 10, .inl g22))) (hPA : PA b cI σ 5) {ring : Int32} (hu : utL (ftV n a F T).1 ring a 0 0 = none) : zM l D kCl tys kNw b ky_R_lay (kh_R_lay :: zT) 4 130 0 0 [.ref (b + 20), .int ring] N σ ((fun oc N' σ' => oc = .returned none ∧ N' = N ∧ PA b cI σ' 5 ∧ σ' 20 = some (.inr (5, [.int (nI ((0 : Nat), Rw).1), .ref (b + 21), .ref (b + 22), .ref (b + 1), .ref (b + 5)])) ∧ σ' 21 = some (.inl (cI, 10, .inl ((0 : Nat), Rw).2)) ∧ (∃ g, σ' 22 = some (.inl (cI, 10, .inl g))) ∧ F2 5 6 20 22 σ σ')) := by
  refine zM.of (by decide +kernel) rfl (Nat.le_of_ble_eq_true rfl) ?_
  refine z_pick (lv' := [(0, .ref (b + 20)), (1, .int ring)]) [0, 1] rfl ?_
  obtain ⟨u5, x5, g5, h5, h6⟩ := hPA
  have hn := hN.hn
  have ha := hN.ha
  refine z_aload_n kd_R_lay_0 0 rfl ?_
  refine z_iconst (v := 0) kd_R_lay_1 (by decide) ?_
  refine z_putE (fs' := [_, _, _, _, _]) kd_R_lay_2 (kp_R_47 _) h20 (Nat.le_of_ble_eq_true rfl) rfl rfl rfl ?_
  refine z_upd (fun σ_1 x20_1 q_1 => ?_)
  have hN_1 := hN.fr q_1 (by omega)
  have h5_1 := (q_1 5 (by omega)).trans h5
  have h6_1 := (q_1 6 (by omega)).trans h6
  have x21_1 := (q_1 21 (by omega)).trans h21
  have x22_1 := (q_1 22 (by omega)).trans h22
  refine z_aload_n kd_R_lay_5 0 rfl ?_
  refine z_get kd_R_lay_6 (kf_R_18 _) x20_1 rfl ?_
  refine z_aload_n kd_R_lay_9 0 rfl ?_
  refine z_get kd_R_lay_10 (kf_R_22 _) x20_1 rfl ?_
  refine z_callV (a := 1) (As := [_]) kd_R_lay_13 (kg_R_26 _) hN_1.h1 kc_N (c_N_firstTrees ht0 ht1 ht3 hN_1 ⟨_, _, _, h5_1, h6_1⟩) rfl rfl (Nat.le_of_ble_eq_true rfl) ⟨Nat.le_of_ble_eq_true rfl, Nat.le_of_ble_eq_true rfl⟩ ⟨Nat.le_of_ble_eq_true rfl, Nat.le_of_ble_eq_true rfl⟩ ?_
  rintro _ _ σ_2 ⟨hv, rfl, hP_2, q_2⟩
  cases hv
  refine z_eq (st' := [_]) rfl rfl rfl rfl ?_
  have hN_2 := hN_1.fr q_2 (by omega)
  have x20_2 := (q_2 20 (by omega)).trans x20_1
  have x21_2 := (q_2 21 (by omega)).trans x21_1
  have x22_2 := (q_2 22 (by omega)).trans x22_1
  refine z_istore_n (lv' := [(2, .int _), (0, .ref (b + 20)), (1, .int _)]) kd_R_lay_16 (by decide) rfl ?_
  refine z_aload_n kd_R_lay_17 1 rfl ?_
  refine z_iload_n kd_R_lay_18 0 rfl ?_
  refine z_iload_n kd_R_lay_19 2 rfl ?_
  refine z_V1 (a := 20) (As := [_, _]) kd_R_lay_20 (kg_R_50 _) x20_2 kc_R (c_R_untaken ht0 ht1 ht3 hN_2 x20_2) rfl rfl (Nat.le_of_ble_eq_true rfl) ⟨Nat.le_of_ble_eq_true rfl, Nat.le_of_ble_eq_true rfl⟩ ⟨Nat.le_of_ble_eq_true rfl, Nat.le_of_ble_eq_true rfl⟩ ?_
  refine z_topi (show oI (utL (ftV n a F T).1 ring a 0 0) = -1 by rw [hu]; rfl) ?_
  refine z_istore_n (lv' := [(3, .int _), (2, .int _), (0, .ref (b + 20)), (1, .int _)]) kd_R_lay_23 (by decide) rfl ?_
  refine z_iload_n kd_R_lay_24 0 rfl ?_
  refine z_iconst (v := -1) kd_R_lay_25 (by decide) ?_
  refine z_icmp_ne (tgt := 30) kd_R_lay_26 (by decide) (fun c26 => absurd c26 (by decide)) (fun c26 => ?_)
  exact z_vret kd_R_lay_29 rfl (Nat.le_of_ble_eq_true rfl) (Nat.le_of_ble_eq_true rfl) ⟨rfl, rfl, hP_2.pa, x20_2, x21_2, ⟨_, x22_2⟩, ((F2.rf.tr q_1 (by omega)).tr q_2 (by omega))⟩
set_option maxHeartbeats 4000000 in
set_option maxRecDepth 100000 in
theorem c_R_lay1 {l : Launch} {D : va_G} {tys : List (ClassId × FieldType)} {b N : Nat} {σ : Nat → Option va_E} {cI cJ cA : ClassId} (ht0 : tys[0]? = some (cI, .int)) (ht1 : tys[1]? = some (cJ, .long)) (ht3 : tys[3]? = some (cA, .array .long)) {n a : Nat} {gf gt gw : Nat → Int32} {F T : Nat → Nat} (hN : NS b cI σ n a gf gt gw F T) {v20 : Value} {Rw g22 : Nat → Int32} (h20 : σ 20 = some (.inr (5, [v20, .ref (b + 21), .ref (b + 22), .ref (b + 1), .ref (b + 5)]))) (h21 : σ 21 = some (.inl (cI, 10, .inl Rw))) (h22 : σ 22 = some (.inl (cI, 10, .inl g22))) (hPA : PA b cI σ 5) {ring : Int32} {j : Nat} (hu : utL (ftV n a F T).1 ring a 0 0 = some j) : zM l D kCl tys kNw b ky_R_lay (kh_R_lay :: zT) 4 130 0 0 [.ref (b + 20), .int ring] N σ ((fun oc N' σ' => oc = .returned none ∧ N' = N ∧ PA b cI σ' 5 ∧ σ' 20 = some (.inr (5, [.int (nI (lyO F T (ftV n a F T).1 n a Rw (some j)).1), .ref (b + 21), .ref (b + 22), .ref (b + 1), .ref (b + 5)])) ∧ σ' 21 = some (.inl (cI, 10, .inl (lyO F T (ftV n a F T).1 n a Rw (some j)).2)) ∧ (∃ g, σ' 22 = some (.inl (cI, 10, .inl g))) ∧ F2 5 6 20 22 σ σ')) := by
  refine zM.of (by decide +kernel) rfl (Nat.le_of_ble_eq_true rfl) ?_
  refine z_pick (lv' := [(0, .ref (b + 20)), (1, .int ring)]) [0, 1] rfl ?_
  obtain ⟨u5, x5, g5, h5, h6⟩ := hPA
  have hn := hN.hn
  have ha := hN.ha
  have hj : j < a := utL_lt a 0 0 j (by omega) hu
  obtain ⟨l1, l2⟩ := hN.ft j hj
  refine z_aload_n kd_R_lay_0 0 rfl ?_
  refine z_iconst (v := 0) kd_R_lay_1 (by decide) ?_
  refine z_putE (fs' := [_, _, _, _, _]) kd_R_lay_2 (kp_R_47 _) h20 (Nat.le_of_ble_eq_true rfl) rfl rfl rfl ?_
  refine z_upd (fun σ_1 x20_1 q_1 => ?_)
  have hN_1 := hN.fr q_1 (by omega)
  have h5_1 := (q_1 5 (by omega)).trans h5
  have h6_1 := (q_1 6 (by omega)).trans h6
  have x21_1 := (q_1 21 (by omega)).trans h21
  have x22_1 := (q_1 22 (by omega)).trans h22
  refine z_aload_n kd_R_lay_5 0 rfl ?_
  refine z_get kd_R_lay_6 (kf_R_18 _) x20_1 rfl ?_
  refine z_aload_n kd_R_lay_9 0 rfl ?_
  refine z_get kd_R_lay_10 (kf_R_22 _) x20_1 rfl ?_
  refine z_callV (a := 1) (As := [_]) kd_R_lay_13 (kg_R_26 _) hN_1.h1 kc_N (c_N_firstTrees ht0 ht1 ht3 hN_1 ⟨_, _, _, h5_1, h6_1⟩) rfl rfl (Nat.le_of_ble_eq_true rfl) ⟨Nat.le_of_ble_eq_true rfl, Nat.le_of_ble_eq_true rfl⟩ ⟨Nat.le_of_ble_eq_true rfl, Nat.le_of_ble_eq_true rfl⟩ ?_
  rintro _ _ σ_2 ⟨hv, rfl, hP_2, q_2⟩
  cases hv
  refine z_eq (st' := [_]) rfl rfl rfl rfl ?_
  have hN_2 := hN_1.fr q_2 (by omega)
  have x20_2 := (q_2 20 (by omega)).trans x20_1
  have x21_2 := (q_2 21 (by omega)).trans x21_1
  have x22_2 := (q_2 22 (by omega)).trans x22_1
  refine z_istore_n (lv' := [(2, .int _), (0, .ref (b + 20)), (1, .int _)]) kd_R_lay_16 (by decide) rfl ?_
  refine z_aload_n kd_R_lay_17 1 rfl ?_
  refine z_iload_n kd_R_lay_18 0 rfl ?_
  refine z_iload_n kd_R_lay_19 2 rfl ?_
  refine z_V1 (a := 20) (As := [_, _]) kd_R_lay_20 (kg_R_50 _) x20_2 kc_R (c_R_untaken ht0 ht1 ht3 hN_2 x20_2) rfl rfl (Nat.le_of_ble_eq_true rfl) ⟨Nat.le_of_ble_eq_true rfl, Nat.le_of_ble_eq_true rfl⟩ ⟨Nat.le_of_ble_eq_true rfl, Nat.le_of_ble_eq_true rfl⟩ ?_
  refine z_topi (show oI (utL (ftV n a F T).1 ring a 0 0) = nI j by rw [hu]; rfl) ?_
  refine z_istore_n (lv' := [(3, .int _), (2, .int _), (0, .ref (b + 20)), (1, .int _)]) kd_R_lay_23 (by decide) rfl ?_
  refine z_iload_n kd_R_lay_24 0 rfl ?_
  refine z_iconst (v := -1) kd_R_lay_25 (by decide) ?_
  refine z_icmp_ne (tgt := 30) kd_R_lay_26 (by decide) (fun c26 => ?_) (fun c26 => ?_)
  · refine z_aload_n kd_R_lay_30 2 rfl ?_
    refine z_get kd_R_lay_31 (kf_R_9 _) x20_2 rfl ?_
    refine z_aload_n kd_R_lay_34 2 rfl ?_
    refine z_dup kd_R_lay_35 rfl ?_
    refine z_get kd_R_lay_36 (kf_R_47 _) x20_2 rfl ?_
    refine z_dup_x1 kd_R_lay_39 rfl rfl ?_
    refine z_iconst (v := 1) kd_R_lay_40 (by decide) ?_
    refine z_iadd kd_R_lay_41 ?_
    refine z_topi (show _ = (1 : Int32) from by decide +kernel) ?_
    refine z_putE (fs' := [_, _, _, _, _]) kd_R_lay_42 (kp_R_47 _) x20_2 (Nat.le_of_ble_eq_true rfl) rfl rfl rfl ?_
    refine z_upd (fun σ_3 x20_3 q_3 => ?_)
    have hN_3 := hN_2.fr q_3 (by omega)
    have hP_3 := hP_2.fr q_3 (by omega)
    have x21_3 := (q_3 21 (by omega)).trans x21_2
    have x22_3 := (q_3 22 (by omega)).trans x22_2
    refine z_iload_n kd_R_lay_45 0 rfl ?_
    refine z_iast (t0 := 0) kd_R_lay_46 (by assumption) x21_3 (show vp_in (nI 0) 10 from vp_in_nI (by decide) (by decide)) ?_
    refine z_upd (fun σ_4 x21_4 q_4 => ?_)
    have hN_4 := hN_3.fr q_4 (by omega)
    have hP_4 := hP_3.fr q_4 (by omega)
    have x20_4 := (q_4 20 (by omega)).trans x20_3
    have x22_4 := (q_4 22 (by omega)).trans x22_3
    refine z_aload_n kd_R_lay_47 2 rfl ?_
    refine z_get kd_R_lay_48 (kf_R_18 _) x20_4 rfl ?_
    refine z_get kd_R_lay_51 (kf_R_54 _) hN_4.h1 rfl ?_
    refine z_iload_n kd_R_lay_54 0 rfl ?_
    refine z_ialdN (t0 := 0) kd_R_lay_55 (by assumption) hN_4.h2 (by omega) (by decide) ?_
    refine z_topi (hN.hft j hj).1 ?_
    refine z_istore (lv' := [(4, .int _), (3, .int _), (2, .int _), (0, .ref (b + 20)), (1, .int _)]) kd_R_lay_56 (by decide) rfl ?_
    refine z_aload_n kd_R_lay_58 3 rfl ?_
    refine z_iload_n kd_R_lay_59 2 rfl ?_
    refine z_iload kd_R_lay_60 0 rfl ?_
    refine z_callV (a := 20) (As := [_, _]) kd_R_lay_62 (kg_R_57 _) x20_4 kc_R (c_R_findWaysBack ht0 ht1 ht3 hN_4 x20_4 x22_4 (by omega)) rfl rfl (Nat.le_of_ble_eq_true rfl) ⟨Nat.le_of_ble_eq_true rfl, Nat.le_of_ble_eq_true rfl⟩ ⟨Nat.le_of_ble_eq_true rfl, Nat.le_of_ble_eq_true rfl⟩ ?_
    rintro _ _ σ_5 ⟨hv, rfl, ⟨g_5, hB_5, x22_5⟩, q_5⟩
    cases hv
    refine z_eq (st' := []) rfl rfl rfl rfl ?_
    have hN_5 := hN_4.fr q_5 (by omega)
    have hP_5 := hP_4.fr q_5 (by omega)
    have x20_5 := (q_5 20 (by omega)).trans x20_4
    have x21_5 := (q_5 21 (by omega)).trans x21_4
    refine z_aload_n kd_R_lay_65 3 rfl ?_
    refine z_get kd_R_lay_66 (kf_R_18 _) x20_5 rfl ?_
    refine z_get kd_R_lay_69 (kf_R_61 _) hN_5.h1 rfl ?_
    refine z_iload_n kd_R_lay_72 1 rfl ?_
    refine z_ialdN (t0 := 0) kd_R_lay_73 (by assumption) hN_5.h3 (by omega) (by decide) ?_
    refine z_topi (hN.hft j hj).2.2.1 ?_
    refine z_istore (lv' := [(5, .int _), (4, .int _), (3, .int _), (2, .int _), (0, .ref (b + 20)), (1, .int _)]) kd_R_lay_74 (by decide) rfl ?_
    refine z_pick (lv' := [(5, .int (nI (T j))), (4, .int (nI (F j))), (0, .ref (b + 20))]) [0, 1, 4] rfl ?_
    exact l_R_lay ht0 ht1 ht3 l1 9 1 (T j) _ _ _ (by omega) l2 hN_5 hP_5.pa x20_5 x21_5 x22_5 hB_5 (((((F2.rf.tr q_1 (by omega)).tr q_2 (by omega)).tr q_3 (by omega)).tr q_4 (by omega)).tr q_5 (by omega)) rfl
  · exact absurd c26 (nI_nm1 (by omega))
theorem c_R_lay {l : Launch} {D : va_G} {tys : List (ClassId × FieldType)} {b N : Nat} {σ : Nat → Option va_E} {cI cJ cA : ClassId} (ht0 : tys[0]? = some (cI, .int)) (ht1 : tys[1]? = some (cJ, .long)) (ht3 : tys[3]? = some (cA, .array .long)) {n a : Nat} {gf gt gw : Nat → Int32} {F T : Nat → Nat} (hN : NS b cI σ n a gf gt gw F T) {v20 : Value} {Rw g22 : Nat → Int32} (h20 : σ 20 = some (.inr (5, [v20, .ref (b + 21), .ref (b + 22), .ref (b + 1), .ref (b + 5)]))) (h21 : σ 21 = some (.inl (cI, 10, .inl Rw))) (h22 : σ 22 = some (.inl (cI, 10, .inl g22))) (hPA : PA b cI σ 5) {ring : Int32} : zM l D kCl tys kNw b ky_R_lay (kh_R_lay :: zT) 4 130 0 0 [.ref (b + 20), .int ring] N σ (fun oc N' σ' => oc = .returned none ∧ N' = N ∧ PA b cI σ' 5 ∧ σ' 20 = some (.inr (5, [.int (nI (lyV F T n a ring Rw).1), .ref (b + 21), .ref (b + 22), .ref (b + 1), .ref (b + 5)])) ∧ σ' 21 = some (.inl (cI, 10, .inl (lyV F T n a ring Rw).2)) ∧ (∃ g, σ' 22 = some (.inl (cI, 10, .inl g))) ∧ F2 5 6 20 22 σ σ') := by
  unfold lyV
  cases hu : utL (ftV n a F T).1 ring a 0 0 with
  | none => exact c_R_lay0 ht0 ht1 ht3 hN h20 h21 h22 hPA hu
  | some j => exact c_R_lay1 ht0 ht1 ht3 hN h20 h21 h22 hPA hu
