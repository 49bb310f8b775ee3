section ZS
variable {b lo hi lo2 hi2 : Nat} {cI cJ cA cP : ClassId} {σ σ' : Nat → Option va_E} {n a : Nat} {gf gt gw : Nat → Int32} {F T : Nat → Nat} {C K C' K' : Nat → Int64}
theorem F2.all (h : F2 lo hi lo2 hi2 σ σ') (h1 : hi ≤ 53) (h2 : hi2 ≤ 53) : Fr 0 53 σ σ' := fun k hk => h k (by omega) (by omega)
theorem CS.r67 (h : CS b cI cJ cA cP σ n a gf gt gw F T C K) (hP : PA b cI σ' 5) (hG : GA b cA cJ σ') (h26 : σ' 26 = some (.inl (cJ, 10, .inr (.inl C')))) (h27 : σ' 27 = some (.inl (cJ, 10, .inr (.inl K')))) (q : F2 5 18 26 27 σ σ') : CS b cI cJ cA cP σ' n a gf gt gw F T C' K' := by
  obtain ⟨hN, -, -, c0, -, -, ts, rs, us, h25, tr, ss, pe⟩ := h
  obtain ⟨_, qa, qb⟩ := q.two
  exact ⟨(hN.fr qa (by omega)).fr qb (by omega), h26, h27, (c0.fr qa (by omega)).fr qb (by omega), hP, hG, (ts.fr qa (by omega)).fr qb (by omega), (rs.fr qa (by omega)).fr qb (by omega), (us.fr qa (by omega)).fr qb (by omega), (q 25 (by omega) (by omega)).trans h25, (tr.fr qa (by omega)).fr qb (by omega), (ss.fr qa (by omega)).fr qb (by omega), (pe.fr qa (by omega)).fr qb (by omega)⟩
theorem CS.r28 (h : CS b cI cJ cA cP σ n a gf gt gw F T C K) (hP : PA b cI σ' 5) (hG : GA b cA cJ σ') (ht : TR cJ σ') (q : F2 5 18 28 29 σ σ') : CS b cI cJ cA cP σ' n a gf gt gw F T C K := by
  obtain ⟨hN, h26, h27, c0, -, -, ts, rs, us, h25, -, ss, pe⟩ := h
  obtain ⟨_, qa, qb⟩ := q.two
  exact ⟨(hN.fr qa (by omega)).fr qb (by omega), (q 26 (by omega) (by omega)).trans h26, (q 27 (by omega) (by omega)).trans h27, (c0.fr qa (by omega)).fr qb (by omega), hP, hG, (ts.fr qa (by omega)).fr qb (by omega), (rs.fr qa (by omega)).fr qb (by omega), (us.fr qa (by omega)).fr qb (by omega), (q 25 (by omega) (by omega)).trans h25, ht, (ss.fr qa (by omega)).fr qb (by omega), (pe.fr qa (by omega)).fr qb (by omega)⟩
end ZS
set_option maxHeartbeats 4000000 in
set_option maxRecDepth 100000 in
theorem c_C_settle0 {l : Launch} {D : va_G} {tys : List (ClassId × FieldType)} {b N : Nat} {σ : Nat → Option va_E} {cI cJ cA : ClassId} (ht0 : tys[0]? = some (cI, .int)) (ht1 : tys[1]? = some (cJ, .long)) (ht3 : tys[3]? = some (cA, .array .long)) {cP : ClassId} {n a : Nat} {gf gt gw : Nat → Int32} {F T : Nat → Nat} {C K : Nat → Int64} (hC : CS b cI cJ cA cP σ n a gf gt gw F T C K) {x : Int32} (hz : zIn x (nI n) = false) : zM l D kCl tys kNw b ky_C_settle (kh_C_settle :: zT) 20 700 0 0 [.ref (b + 0), .int x] N σ ((fun oc N' σ' => oc = .returned (some (.long (-1))) ∧ N' = N ∧ CS b cI cJ cA cP σ' n a gf gt gw F T C K ∧ Fr 0 53 σ σ')) := by
  refine zM.of (by decide +kernel) rfl (Nat.le_of_ble_eq_true rfl) ?_
  refine z_pick (lv' := [(0, .ref (b + 0)), (1, .int x)]) [0, 1] rfl ?_
  obtain ⟨hN, h26, h27, c0, ⟨u5, x5, g5, h5, h6⟩, ⟨s0, M0, hS0⟩, ⟨v19, w19, h19⟩, rs, us, h25, tr, ss, pe⟩ := id hC
  have hn := hN.hn
  have ha := hN.ha
  obtain ⟨⟨v20, h20⟩, r21, r22⟩ := id rs
  refine z_aload_n kd_C_settle_0 0 rfl ?_
  refine z_get kd_C_settle_1 (kf_C_10 _) c0 rfl ?_
  refine z_iload_n kd_C_settle_4 1 rfl ?_
  refine z_V1 (a := 1) (As := [_]) kd_C_settle_5 (kg_C_69 _) hN.h1 kc_N (c_N_hasNode hN.h1) rfl rfl (Nat.le_of_ble_eq_true rfl) ⟨Nat.le_of_ble_eq_true rfl, Nat.le_of_ble_eq_true rfl⟩ ⟨Nat.le_of_ble_eq_true rfl, Nat.le_of_ble_eq_true rfl⟩ ?_
  refine z_topi (show zB (zIn x (nI n)) = 0 by rw [hz]; rfl) ?_
  refine z_if_eq (tgt := 33) kd_C_settle_8 (by decide) (fun c8 => ?_) (fun c8 => absurd c8 (by decide))
  refine z_ldc2 (v := -1) kd_C_settle_33 (List.mem_cons_of_mem _ (zin 418 rfl rfl)) ?_
  exact z_lret kd_C_settle_36 rfl (Nat.le_of_ble_eq_true rfl) (Nat.le_of_ble_eq_true rfl) ⟨rfl, rfl, hC, Fr.rf⟩
set_option maxHeartbeats 4000000 in
set_option maxRecDepth 100000 in
theorem c_C_settle1 {l : Launch} {D : va_G} {tys : List (ClassId × FieldType)} {b N : Nat} {σ : Nat → Option va_E} {cI cJ cA : ClassId} (ht0 : tys[0]? = some (cI, .int)) (ht1 : tys[1]? = some (cJ, .long)) (ht3 : tys[3]? = some (cA, .array .long)) {cP : ClassId} {n a : Nat} {gf gt gw : Nat → Int32} {F T : Nat → Nat} {C K : Nat → Int64} (hC : CS b cI cJ cA cP σ n a gf gt gw F T C K) {v : Nat} (hv : v < n) (hz : zIn (nI v) (nI n) = true) (hp : ¬ (ftV n a F T).2.1 = 1) : zM l D kCl tys kNw b ky_C_settle (kh_C_settle :: zT) 20 700 0 0 [.ref (b + 0), .int (nI v)] N σ ((fun oc N' σ' => oc = .returned (some (.long (-1))) ∧ N' = N ∧ CS b cI cJ cA cP σ' n a gf gt gw F T C K ∧ Fr 0 53 σ σ')) := by
  refine zM.of (by decide +kernel) rfl (Nat.le_of_ble_eq_true rfl) ?_
  refine z_pick (lv' := [(0, .ref (b + 0)), (1, .int (nI v))]) [0, 1] rfl ?_
  obtain ⟨hN, h26, h27, c0, ⟨u5, x5, g5, h5, h6⟩, ⟨s0, M0, hS0⟩, ⟨v19, w19, h19⟩, rs, us, h25, tr, ss, pe⟩ := id hC
  have hn := hN.hn
  have ha := hN.ha
  obtain ⟨⟨v20, h20⟩, r21, r22⟩ := id rs
  refine z_aload_n kd_C_settle_0 0 rfl ?_
  refine z_get kd_C_settle_1 (kf_C_10 _) c0 rfl ?_
  refine z_iload_n kd_C_settle_4 1 rfl ?_
  refine z_V1 (a := 1) (As := [_]) kd_C_settle_5 (kg_C_69 _) hN.h1 kc_N (c_N_hasNode hN.h1) rfl rfl (Nat.le_of_ble_eq_true rfl) ⟨Nat.le_of_ble_eq_true rfl, Nat.le_of_ble_eq_true rfl⟩ ⟨Nat.le_of_ble_eq_true rfl, Nat.le_of_ble_eq_true rfl⟩ ?_
  refine z_topi (show zB (zIn (nI v) (nI n)) = 1 by rw [hz]; rfl) ?_
  refine z_if_eq (tgt := 33) kd_C_settle_8 (by decide) (fun c8 => absurd c8 (by decide)) (fun c8 => ?_)
  refine z_aload_n kd_C_settle_11 0 rfl ?_
  refine z_get kd_C_settle_12 (kf_C_36 _) c0 rfl ?_
  refine z_callV (a := 20) (As := []) kd_C_settle_15 (kg_C_155 _) h20 kc_R (c_R_partsOfNet ht0 ht1 ht3 hN h20 ⟨_, _, _, h5, h6⟩) rfl rfl (Nat.le_of_ble_eq_true rfl) ⟨Nat.le_of_ble_eq_true rfl, Nat.le_of_ble_eq_true rfl⟩ ⟨Nat.le_of_ble_eq_true rfl, Nat.le_of_ble_eq_true rfl⟩ ?_
  rintro _ _ σ_1 ⟨hv, rfl, ⟨u5_1, x5_1, g5_1, h5_1, h6_1⟩, q_1⟩
  cases hv
  refine z_eq (st' := [_]) rfl rfl rfl rfl ?_
  have hN_1 := hN.fr q_1 (by omega)
  have hS_1 := hS0.fr q_1 (by omega)
  have x0_1 := (q_1 0 (by omega)).trans c0
  have x20_1 := (q_1 20 (by omega)).trans h20
  have x25_1 := (q_1 25 (by omega)).trans h25
  have x26_1 := (q_1 26 (by omega)).trans h26
  have x27_1 := (q_1 27 (by omega)).trans h27
  refine z_iconst (v := 1) kd_C_settle_18 (by decide) ?_
  refine z_icmp_ne (tgt := 33) kd_C_settle_19 (by decide) (fun c19 => ?_) (fun c19 => ?_)
  · refine z_ldc2 (v := -1) kd_C_settle_33 (List.mem_cons_of_mem _ (zin 418 rfl rfl)) ?_
    exact z_lret kd_C_settle_36 rfl (Nat.le_of_ble_eq_true rfl) (Nat.le_of_ble_eq_true rfl) ⟨rfl, rfl, hC.r56 ⟨_, _, _, h5_1, h6_1⟩ q_1, q_1.wide (by omega) (by omega)⟩
  · exact absurd ((nI_eq (a := (ftV n a F T).2.1) (b := 1) (by have := ftV_c n a F T; omega) (by omega)).mp c19) hp
set_option maxHeartbeats 4000000 in
set_option maxRecDepth 100000 in
theorem c_C_settle2 {l : Launch} {D : va_G} {tys : List (ClassId × FieldType)} {b N : Nat} {σ : Nat → Option va_E} {cI cJ cA : ClassId} (ht0 : tys[0]? = some (cI, .int)) (ht1 : tys[1]? = some (cJ, .long)) (ht3 : tys[3]? = some (cA, .array .long)) {cP : ClassId} {n a : Nat} {gf gt gw : Nat → Int32} {F T : Nat → Nat} {C K : Nat → Int64} (hC : CS b cI cJ cA cP σ n a gf gt gw F T C K) {v : Nat} (hv : v < n) (hz : zIn (nI v) (nI n) = true) (hp : (ftV n a F T).2.1 = 1) : zM l D kCl tys kNw b ky_C_settle (kh_C_settle :: zT) 20 700 0 0 [.ref (b + 0), .int (nI v)] N σ ((fun oc N' σ' => oc = .returned (some (.long (smL (rnV (fbM F T gw Z0 a) n v C K).2 n 0 0))) ∧ N' = N ∧ CS b cI cJ cA cP σ' n a gf gt gw F T (rnV (fbM F T gw Z0 a) n v C K).1 (rnV (fbM F T gw Z0 a) n v C K).2 ∧ Fr 0 53 σ σ')) := by
  refine zM.of (by decide +kernel) rfl (Nat.le_of_ble_eq_true rfl) ?_
  refine z_pick (lv' := [(0, .ref (b + 0)), (1, .int (nI v))]) [0, 1] rfl ?_
  obtain ⟨hN, h26, h27, c0, ⟨u5, x5, g5, h5, h6⟩, ⟨s0, M0, hS0⟩, ⟨v19, w19, h19⟩, rs, us, h25, tr, ss, pe⟩ := id hC
  have hn := hN.hn
  have ha := hN.ha
  obtain ⟨⟨v20, h20⟩, r21, r22⟩ := id rs
  refine z_aload_n kd_C_settle_0 0 rfl ?_
  refine z_get kd_C_settle_1 (kf_C_10 _) c0 rfl ?_
  refine z_iload_n kd_C_settle_4 1 rfl ?_
  refine z_V1 (a := 1) (As := [_]) kd_C_settle_5 (kg_C_69 _) hN.h1 kc_N (c_N_hasNode hN.h1) rfl rfl (Nat.le_of_ble_eq_true rfl) ⟨Nat.le_of_ble_eq_true rfl, Nat.le_of_ble_eq_true rfl⟩ ⟨Nat.le_of_ble_eq_true rfl, Nat.le_of_ble_eq_true rfl⟩ ?_
  refine z_topi (show zB (zIn (nI v) (nI n)) = 1 by rw [hz]; rfl) ?_
  refine z_if_eq (tgt := 33) kd_C_settle_8 (by decide) (fun c8 => absurd c8 (by decide)) (fun c8 => ?_)
  refine z_aload_n kd_C_settle_11 0 rfl ?_
  refine z_get kd_C_settle_12 (kf_C_36 _) c0 rfl ?_
  refine z_callV (a := 20) (As := []) kd_C_settle_15 (kg_C_155 _) h20 kc_R (c_R_partsOfNet ht0 ht1 ht3 hN h20 ⟨_, _, _, h5, h6⟩) rfl rfl (Nat.le_of_ble_eq_true rfl) ⟨Nat.le_of_ble_eq_true rfl, Nat.le_of_ble_eq_true rfl⟩ ⟨Nat.le_of_ble_eq_true rfl, Nat.le_of_ble_eq_true rfl⟩ ?_
  rintro _ _ σ_1 ⟨hv, rfl, ⟨u5_1, x5_1, g5_1, h5_1, h6_1⟩, q_1⟩
  cases hv
  refine z_eq (st' := [_]) rfl rfl rfl rfl ?_
  have hN_1 := hN.fr q_1 (by omega)
  have hS_1 := hS0.fr q_1 (by omega)
  have x0_1 := (q_1 0 (by omega)).trans c0
  have x20_1 := (q_1 20 (by omega)).trans h20
  have x25_1 := (q_1 25 (by omega)).trans h25
  have x26_1 := (q_1 26 (by omega)).trans h26
  have x27_1 := (q_1 27 (by omega)).trans h27
  refine z_iconst (v := 1) kd_C_settle_18 (by decide) ?_
  refine z_icmp_ne (tgt := 33) kd_C_settle_19 (by decide) (fun c19 => ?_) (fun c19 => ?_)
  · exact absurd (by rw [hp]; rfl) c19
  · refine z_aload_n kd_C_settle_22 0 rfl ?_
    refine z_get kd_C_settle_23 (kf_C_54 _) x0_1 rfl ?_
    refine z_iload_n kd_C_settle_26 1 rfl ?_
    refine z_callV (a := 25) (As := [_]) kd_C_settle_27 (kg_C_159 _) x25_1 kc_L (c_L_settleAll ht0 ht1 ht3 hN_1 ⟨_, _, hS_1⟩ hv x25_1 x26_1 x27_1) rfl rfl (Nat.le_of_ble_eq_true rfl) ⟨Nat.le_of_ble_eq_true rfl, Nat.le_of_ble_eq_true rfl⟩ ⟨Nat.le_of_ble_eq_true rfl, Nat.le_of_ble_eq_true rfl⟩ ?_
    rintro _ _ σ_2 ⟨hv, rfl, ⟨s_2, M_2, hS_2⟩, x26_2, x27_2, q_2⟩
    cases hv
    refine z_eq (st' := [_]) rfl rfl rfl rfl ?_
    obtain ⟨_, qa_2, qb_2⟩ := F2.two q_2
    have hN_2 := (hN_1.fr qa_2 (by omega)).fr qb_2 (by omega)
    have h5_2 := (q_2 5 (by omega) (by omega)).trans h5_1
    have h6_2 := (q_2 6 (by omega) (by omega)).trans h6_1
    have x0_2 := (q_2 0 (by omega) (by omega)).trans x0_1
    have x20_2 := (q_2 20 (by omega) (by omega)).trans x20_1
    have x25_2 := (q_2 25 (by omega) (by omega)).trans x25_1
    refine z_goto (tgt := 36) kd_C_settle_30 (by decide) ?_
    exact z_lret kd_C_settle_36 rfl (Nat.le_of_ble_eq_true rfl) (Nat.le_of_ble_eq_true rfl) ⟨rfl, rfl, hC.r67 ⟨_, _, _, h5_2, h6_2⟩ ⟨_, _, hS_2⟩ x26_2 x27_2 (F2.tr3 (F2.rf.tr q_1 (by omega)) q_2 (by omega)), F2.all (show F2 5 18 26 27 σ _ from (F2.tr3 (F2.rf.tr q_1 (by omega)) q_2 (by omega))) (by omega) (by omega)⟩
