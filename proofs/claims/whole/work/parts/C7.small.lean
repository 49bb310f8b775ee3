set_option maxHeartbeats 4000000 in
set_option maxRecDepth 100000 in
theorem c_M_nodeF {l : Launch} {D : va_G} {tys : List (ClassId × FieldType)} {b N : Nat} {σ : Nat → Option va_E} {cI cJ cA : ClassId} (ht0 : tys[0]? = some (cI, .int)) (ht1 : tys[1]? = some (cJ, .long)) (ht3 : tys[3]? = some (cA, .array .long)) {cZ : ClassId} (ht2 : tys[2]? = some (cZ, .boolean)) {n a : Nat} {gf gt gw : Nat → Int32} {F T : Nat → Nat} {C K : Nat → Int64} (hMS : MS b cI cJ cZ σ n a gf gt gw F T C K) (h10 : n = 10) : zM l D kCl tys kNw b ky_M_node (kh_M_node :: zT) 10 360 0 0 [.ref (b + 54)] N σ ((fun oc N' σ' => oc = .returned (some (.int (-1))) ∧ N' = N ∧ MS b cI cJ cZ σ' n a gf gt gw F T C K ∧ Fr 54 73 σ σ')) := by
  refine zM.of (by decide +kernel) rfl (Nat.le_of_ble_eq_true rfl) ?_
  refine z_pick (lv' := [(0, .ref (b + 54))]) [0] rfl ?_
  obtain ⟨⟨th, fa, ls, rm, hM⟩, h58, h59, ⟨g60, h60⟩, ⟨g61, h61⟩, ⟨g62, h62⟩, ⟨g63, h63⟩, ⟨g64, h64⟩, ⟨g65, h65⟩, ⟨g66, h66⟩, ⟨g67, h67⟩, ⟨g68, h68⟩, ⟨g69, h69⟩, ⟨g70, h70⟩, ⟨g71, h71⟩, ⟨g72, h72⟩, ⟨g73, h73⟩⟩ := hMS
  have hn := hM.hn
  have ha := hM.ha
  refine z_aload_n kd_M_node_0 0 rfl ?_
  refine z_iconst (v := 0) kd_M_node_1 (by decide) ?_
  refine z_putE (fs' := [_, _, _, _, _, _, _, _, _, _, _, _, _, _, _, _, _, _, _, _, _, _, _, _, _]) kd_M_node_2 (kp_M_69 _) hM.h1 (Nat.le_of_ble_eq_true rfl) rfl rfl rfl ?_
  refine z_upd (fun σ_1 x54_1 q_1 => ?_)
  have x58_1 := (q_1 58 (by omega)).trans h58
  have x59_1 := (q_1 59 (by omega)).trans h59
  have x60_1 := (q_1 60 (by omega)).trans h60
  have x61_1 := (q_1 61 (by omega)).trans h61
  have x62_1 := (q_1 62 (by omega)).trans h62
  have x63_1 := (q_1 63 (by omega)).trans h63
  have x64_1 := (q_1 64 (by omega)).trans h64
  have x65_1 := (q_1 65 (by omega)).trans h65
  have x66_1 := (q_1 66 (by omega)).trans h66
  have x67_1 := (q_1 67 (by omega)).trans h67
  have x68_1 := (q_1 68 (by omega)).trans h68
  have x69_1 := (q_1 69 (by omega)).trans h69
  have x70_1 := (q_1 70 (by omega)).trans h70
  have x71_1 := (q_1 71 (by omega)).trans h71
  have x72_1 := (q_1 72 (by omega)).trans h72
  have x73_1 := (q_1 73 (by omega)).trans h73
  have hM_1 := hM.put x54_1 q_1
  refine z_aload_n kd_M_node_5 0 rfl ?_
  refine z_get kd_M_node_6 (kf_M_73 _) hM_1.h1 rfl ?_
  refine z_bipush (v := 10) kd_M_node_9 (by decide +kernel) ?_
  refine z_icmp_ne (tgt := 16) kd_M_node_11 (by decide) (fun c11 => ?_) (fun c11 => ?_)
  · exact absurd (by rw [h10]; rfl) c11
  · refine z_iconst (v := -1) kd_M_node_14 (by decide) ?_
    exact z_iret kd_M_node_15 rfl (Nat.le_of_ble_eq_true rfl) (Nat.le_of_ble_eq_true rfl) ⟨rfl, rfl, ⟨⟨_, _, _, _, hM_1⟩, x58_1, x59_1, ⟨_, x60_1⟩, ⟨_, x61_1⟩, ⟨_, x62_1⟩, ⟨_, x63_1⟩, ⟨_, x64_1⟩, ⟨_, x65_1⟩, ⟨_, x66_1⟩, ⟨_, x67_1⟩, ⟨_, x68_1⟩, ⟨_, x69_1⟩, ⟨_, x70_1⟩, ⟨_, x71_1⟩, ⟨_, x72_1⟩, ⟨_, x73_1⟩⟩, (Fr.tr Fr.rf (q_1.wide (by omega) (by omega)))⟩
set_option maxHeartbeats 4000000 in
set_option maxRecDepth 100000 in
theorem c_M_nodeS {l : Launch} {D : va_G} {tys : List (ClassId × FieldType)} {b N : Nat} {σ : Nat → Option va_E} {cI cJ cA : ClassId} (ht0 : tys[0]? = some (cI, .int)) (ht1 : tys[1]? = some (cJ, .long)) (ht3 : tys[3]? = some (cA, .array .long)) {cZ : ClassId} (ht2 : tys[2]? = some (cZ, .boolean)) {n a : Nat} {gf gt gw : Nat → Int32} {F T : Nat → Nat} {C K : Nat → Int64} (hMS : MS b cI cJ cZ σ n a gf gt gw F T C K) (h10 : n < 10) : zM l D kCl tys kNw b ky_M_node (kh_M_node :: zT) 10 360 0 0 [.ref (b + 54)] N σ ((fun oc N' σ' => oc = .returned (some (.int (nI n))) ∧ N' = N ∧ MS b cI cJ cZ σ' (n + 1) a gf gt gw F T (vp_updL C n 0) (vp_updL K n 0) ∧ Fr 54 73 σ σ')) := by
  refine zM.of (by decide +kernel) rfl (Nat.le_of_ble_eq_true rfl) ?_
  refine z_pick (lv' := [(0, .ref (b + 54))]) [0] rfl ?_
  obtain ⟨⟨th, fa, ls, rm, hM⟩, h58, h59, ⟨g60, h60⟩, ⟨g61, h61⟩, ⟨g62, h62⟩, ⟨g63, h63⟩, ⟨g64, h64⟩, ⟨g65, h65⟩, ⟨g66, h66⟩, ⟨g67, h67⟩, ⟨g68, h68⟩, ⟨g69, h69⟩, ⟨g70, h70⟩, ⟨g71, h71⟩, ⟨g72, h72⟩, ⟨g73, h73⟩⟩ := hMS
  have hn := hM.hn
  have ha := hM.ha
  refine z_aload_n kd_M_node_0 0 rfl ?_
  refine z_iconst (v := 0) kd_M_node_1 (by decide) ?_
  refine z_putE (fs' := [_, _, _, _, _, _, _, _, _, _, _, _, _, _, _, _, _, _, _, _, _, _, _, _, _]) kd_M_node_2 (kp_M_69 _) hM.h1 (Nat.le_of_ble_eq_true rfl) rfl rfl rfl ?_
  refine z_upd (fun σ_1 x54_1 q_1 => ?_)
  have x58_1 := (q_1 58 (by omega)).trans h58
  have x59_1 := (q_1 59 (by omega)).trans h59
  have x60_1 := (q_1 60 (by omega)).trans h60
  have x61_1 := (q_1 61 (by omega)).trans h61
  have x62_1 := (q_1 62 (by omega)).trans h62
  have x63_1 := (q_1 63 (by omega)).trans h63
  have x64_1 := (q_1 64 (by omega)).trans h64
  have x65_1 := (q_1 65 (by omega)).trans h65
  have x66_1 := (q_1 66 (by omega)).trans h66
  have x67_1 := (q_1 67 (by omega)).trans h67
  have x68_1 := (q_1 68 (by omega)).trans h68
  have x69_1 := (q_1 69 (by omega)).trans h69
  have x70_1 := (q_1 70 (by omega)).trans h70
  have x71_1 := (q_1 71 (by omega)).trans h71
  have x72_1 := (q_1 72 (by omega)).trans h72
  have x73_1 := (q_1 73 (by omega)).trans h73
  have hM_1 := hM.put x54_1 q_1
  refine z_aload_n kd_M_node_5 0 rfl ?_
  refine z_get kd_M_node_6 (kf_M_73 _) hM_1.h1 rfl ?_
  refine z_bipush (v := 10) kd_M_node_9 (by decide +kernel) ?_
  refine z_icmp_ne (tgt := 16) kd_M_node_11 (by decide) (fun c11 => ?_) (fun c11 => ?_)
  · refine z_aload_n kd_M_node_16 0 rfl ?_
    refine z_get kd_M_node_17 (kf_M_19 _) hM_1.h1 rfl ?_
    refine z_aload_n kd_M_node_20 0 rfl ?_
    refine z_get kd_M_node_21 (kf_M_73 _) hM_1.h1 rfl ?_
    refine z_lconst (v := 0) kd_M_node_24 (by decide +kernel) ?_
    refine z_lastN (t0 := 1) kd_M_node_25 (by assumption) x58_1 (by omega) (by decide) ?_
    refine z_upd (fun σ_2 x58_2 q_2 => ?_)
    have x59_2 := (q_2 59 (by omega)).trans x59_1
    have x60_2 := (q_2 60 (by omega)).trans x60_1
    have x61_2 := (q_2 61 (by omega)).trans x61_1
    have x62_2 := (q_2 62 (by omega)).trans x62_1
    have x63_2 := (q_2 63 (by omega)).trans x63_1
    have x64_2 := (q_2 64 (by omega)).trans x64_1
    have x65_2 := (q_2 65 (by omega)).trans x65_1
    have x66_2 := (q_2 66 (by omega)).trans x66_1
    have x67_2 := (q_2 67 (by omega)).trans x67_1
    have x68_2 := (q_2 68 (by omega)).trans x68_1
    have x69_2 := (q_2 69 (by omega)).trans x69_1
    have x70_2 := (q_2 70 (by omega)).trans x70_1
    have x71_2 := (q_2 71 (by omega)).trans x71_1
    have x72_2 := (q_2 72 (by omega)).trans x72_1
    have x73_2 := (q_2 73 (by omega)).trans x73_1
    have hM_2 := hM_1.fr q_2 (by omega)
    refine z_aload_n kd_M_node_26 0 rfl ?_
    refine z_get kd_M_node_27 (kf_M_23 _) hM_2.h1 rfl ?_
    refine z_aload_n kd_M_node_30 0 rfl ?_
    refine z_get kd_M_node_31 (kf_M_73 _) hM_2.h1 rfl ?_
    refine z_lconst (v := 0) kd_M_node_34 (by decide +kernel) ?_
    refine z_lastN (t0 := 1) kd_M_node_35 (by assumption) x59_2 (by omega) (by decide) ?_
    refine z_upd (fun σ_3 x59_3 q_3 => ?_)
    have x58_3 := (q_3 58 (by omega)).trans x58_2
    have x60_3 := (q_3 60 (by omega)).trans x60_2
    have x61_3 := (q_3 61 (by omega)).trans x61_2
    have x62_3 := (q_3 62 (by omega)).trans x62_2
    have x63_3 := (q_3 63 (by omega)).trans x63_2
    have x64_3 := (q_3 64 (by omega)).trans x64_2
    have x65_3 := (q_3 65 (by omega)).trans x65_2
    have x66_3 := (q_3 66 (by omega)).trans x66_2
    have x67_3 := (q_3 67 (by omega)).trans x67_2
    have x68_3 := (q_3 68 (by omega)).trans x68_2
    have x69_3 := (q_3 69 (by omega)).trans x69_2
    have x70_3 := (q_3 70 (by omega)).trans x70_2
    have x71_3 := (q_3 71 (by omega)).trans x71_2
    have x72_3 := (q_3 72 (by omega)).trans x72_2
    have x73_3 := (q_3 73 (by omega)).trans x73_2
    have hM_3 := hM_2.fr q_3 (by omega)
    refine z_aload_n kd_M_node_36 0 rfl ?_
    refine z_dup kd_M_node_37 rfl ?_
    refine z_get kd_M_node_38 (kf_M_73 _) hM_3.h1 rfl ?_
    refine z_iconst (v := 1) kd_M_node_41 (by decide) ?_
    refine z_iadd kd_M_node_42 ?_
    refine z_topi (nI_add n 1) ?_
    refine z_putE (fs' := [_, _, _, _, _, _, _, _, _, _, _, _, _, _, _, _, _, _, _, _, _, _, _, _, _]) kd_M_node_43 (kp_M_73 _) hM_3.h1 (Nat.le_of_ble_eq_true rfl) rfl rfl rfl ?_
    refine z_upd (fun σ_4 x54_4 q_4 => ?_)
    have x58_4 := (q_4 58 (by omega)).trans x58_3
    have x59_4 := (q_4 59 (by omega)).trans x59_3
    have x60_4 := (q_4 60 (by omega)).trans x60_3
    have x61_4 := (q_4 61 (by omega)).trans x61_3
    have x62_4 := (q_4 62 (by omega)).trans x62_3
    have x63_4 := (q_4 63 (by omega)).trans x63_3
    have x64_4 := (q_4 64 (by omega)).trans x64_3
    have x65_4 := (q_4 65 (by omega)).trans x65_3
    have x66_4 := (q_4 66 (by omega)).trans x66_3
    have x67_4 := (q_4 67 (by omega)).trans x67_3
    have x68_4 := (q_4 68 (by omega)).trans x68_3
    have x69_4 := (q_4 69 (by omega)).trans x69_3
    have x70_4 := (q_4 70 (by omega)).trans x70_3
    have x71_4 := (q_4 71 (by omega)).trans x71_3
    have x72_4 := (q_4 72 (by omega)).trans x72_3
    have x73_4 := (q_4 73 (by omega)).trans x73_3
    have x55_4 := (q_4 55 (by omega)).trans hM_3.h2
    have x56_4 := (q_4 56 (by omega)).trans hM_3.h3
    have x57_4 := (q_4 57 (by omega)).trans hM_3.h4
    refine z_aload_n kd_M_node_46 0 rfl ?_
    refine z_get kd_M_node_47 (kf_M_73 _) x54_4 rfl ?_
    refine z_iconst (v := 1) kd_M_node_50 (by decide) ?_
    refine z_isub kd_M_node_51 ?_
    refine z_topi (pk_sub (a := (n + 1)) (b := 1) (by omega)) ?_
    exact z_iret kd_M_node_52 rfl (Nat.le_of_ble_eq_true rfl) (Nat.le_of_ble_eq_true rfl) ⟨rfl, rfl, ⟨⟨_, _, _, _, ⟨x54_4, x55_4, x56_4, x57_4, (by omega), ha, (fun k hk => ⟨(hM.hft k hk).1, by have := (hM.hft k hk).2.1; omega, (hM.hft k hk).2.2.1, by have := (hM.hft k hk).2.2.2; omega⟩)⟩⟩, x58_4, x59_4, ⟨_, x60_4⟩, ⟨_, x61_4⟩, ⟨_, x62_4⟩, ⟨_, x63_4⟩, ⟨_, x64_4⟩, ⟨_, x65_4⟩, ⟨_, x66_4⟩, ⟨_, x67_4⟩, ⟨_, x68_4⟩, ⟨_, x69_4⟩, ⟨_, x70_4⟩, ⟨_, x71_4⟩, ⟨_, x72_4⟩, ⟨_, x73_4⟩⟩, (Fr.tr (Fr.tr (Fr.tr (Fr.tr Fr.rf (q_1.wide (by omega) (by omega))) (q_2.wide (by omega) (by omega))) (q_3.wide (by omega) (by omega))) (q_4.wide (by omega) (by omega)))⟩
  · exact absurd ((nI_eq (b := 10) (by omega) (by decide)).mp c11) (by omega)
set_option maxHeartbeats 4000000 in
set_option maxRecDepth 100000 in
theorem c_M_arc0 {l : Launch} {D : va_G} {tys : List (ClassId × FieldType)} {b N : Nat} {σ : Nat → Option va_E} {cI cJ cA : ClassId} (ht0 : tys[0]? = some (cI, .int)) (ht1 : tys[1]? = some (cJ, .long)) (ht3 : tys[3]? = some (cA, .array .long)) {cZ : ClassId} (ht2 : tys[2]? = some (cZ, .boolean)) {n a : Nat} {gf gt gw : Nat → Int32} {F T : Nat → Nat} {C K : Nat → Int64} (hMS : MS b cI cJ cZ σ n a gf gt gw F T C K) {x y wt : Int32} (hz : zIn x (nI n) = false) : zM l D kCl tys kNw b ky_M_arc (kh_M_arc :: zT) 10 360 0 0 [.ref (b + 54), .int x, .int y, .int wt] N σ ((fun oc N' σ' => oc = .returned (some (.int (-1))) ∧ N' = N ∧ MS b cI cJ cZ σ' n a gf gt gw F T C K ∧ Fr 54 73 σ σ')) := by
  refine zM.of (by decide +kernel) rfl (Nat.le_of_ble_eq_true rfl) ?_
  refine z_pick (lv' := [(0, .ref (b + 54)), (1, .int x), (2, .int y), (3, .int wt)]) [0, 1, 2, 3] rfl ?_
  obtain ⟨⟨th, fa, ls, rm, hM⟩, h58, h59, ⟨g60, h60⟩, ⟨g61, h61⟩, ⟨g62, h62⟩, ⟨g63, h63⟩, ⟨g64, h64⟩, ⟨g65, h65⟩, ⟨g66, h66⟩, ⟨g67, h67⟩, ⟨g68, h68⟩, ⟨g69, h69⟩, ⟨g70, h70⟩, ⟨g71, h71⟩, ⟨g72, h72⟩, ⟨g73, h73⟩⟩ := hMS
  have hn := hM.hn
  have ha := hM.ha
  refine z_aload_n kd_M_arc_0 0 rfl ?_
  refine z_iconst (v := 0) kd_M_arc_1 (by decide) ?_
  refine z_putE (fs' := [_, _, _, _, _, _, _, _, _, _, _, _, _, _, _, _, _, _, _, _, _, _, _, _, _]) kd_M_arc_2 (kp_M_69 _) hM.h1 (Nat.le_of_ble_eq_true rfl) rfl rfl rfl ?_
  refine z_upd (fun σ_1 x54_1 q_1 => ?_)
  have x58_1 := (q_1 58 (by omega)).trans h58
  have x59_1 := (q_1 59 (by omega)).trans h59
  have x60_1 := (q_1 60 (by omega)).trans h60
  have x61_1 := (q_1 61 (by omega)).trans h61
  have x62_1 := (q_1 62 (by omega)).trans h62
  have x63_1 := (q_1 63 (by omega)).trans h63
  have x64_1 := (q_1 64 (by omega)).trans h64
  have x65_1 := (q_1 65 (by omega)).trans h65
  have x66_1 := (q_1 66 (by omega)).trans h66
  have x67_1 := (q_1 67 (by omega)).trans h67
  have x68_1 := (q_1 68 (by omega)).trans h68
  have x69_1 := (q_1 69 (by omega)).trans h69
  have x70_1 := (q_1 70 (by omega)).trans h70
  have x71_1 := (q_1 71 (by omega)).trans h71
  have x72_1 := (q_1 72 (by omega)).trans h72
  have x73_1 := (q_1 73 (by omega)).trans h73
  have hM_1 := hM.put x54_1 q_1
  refine z_aload_n kd_M_arc_5 0 rfl ?_
  refine z_iload_n kd_M_arc_6 1 rfl ?_
  refine z_V1 (a := 54) (As := [_]) kd_M_arc_7 (kg_M_76 _) hM_1.h1 kc_M (c_M_isNode ht0 ht1 ht3 hM_1) rfl rfl (Nat.le_of_ble_eq_true rfl) ⟨Nat.le_of_ble_eq_true rfl, Nat.le_of_ble_eq_true rfl⟩ ⟨Nat.le_of_ble_eq_true rfl, Nat.le_of_ble_eq_true rfl⟩ ?_
  refine z_topi (show zB (zIn x (nI n)) = 0 by rw [hz]; rfl) ?_
  refine z_if_eq (tgt := 41) kd_M_arc_10 (by decide) (fun c10 => ?_) (fun c10 => absurd c10 (by decide))
  refine z_iconst (v := -1) kd_M_arc_41 (by decide) ?_
  exact z_iret kd_M_arc_42 rfl (Nat.le_of_ble_eq_true rfl) (Nat.le_of_ble_eq_true rfl) ⟨rfl, rfl, ⟨⟨_, _, _, _, hM_1⟩, x58_1, x59_1, ⟨_, x60_1⟩, ⟨_, x61_1⟩, ⟨_, x62_1⟩, ⟨_, x63_1⟩, ⟨_, x64_1⟩, ⟨_, x65_1⟩, ⟨_, x66_1⟩, ⟨_, x67_1⟩, ⟨_, x68_1⟩, ⟨_, x69_1⟩, ⟨_, x70_1⟩, ⟨_, x71_1⟩, ⟨_, x72_1⟩, ⟨_, x73_1⟩⟩, (Fr.tr Fr.rf (q_1.wide (by omega) (by omega)))⟩
set_option maxHeartbeats 4000000 in
set_option maxRecDepth 100000 in
theorem c_M_arc1 {l : Launch} {D : va_G} {tys : List (ClassId × FieldType)} {b N : Nat} {σ : Nat → Option va_E} {cI cJ cA : ClassId} (ht0 : tys[0]? = some (cI, .int)) (ht1 : tys[1]? = some (cJ, .long)) (ht3 : tys[3]? = some (cA, .array .long)) {cZ : ClassId} (ht2 : tys[2]? = some (cZ, .boolean)) {n a : Nat} {gf gt gw : Nat → Int32} {F T : Nat → Nat} {C K : Nat → Int64} (hMS : MS b cI cJ cZ σ n a gf gt gw F T C K) {x y wt : Int32} (hz : zIn x (nI n) = true) (hz2 : zIn y (nI n) = false) : zM l D kCl tys kNw b ky_M_arc (kh_M_arc :: zT) 10 360 0 0 [.ref (b + 54), .int x, .int y, .int wt] N σ ((fun oc N' σ' => oc = .returned (some (.int (-1))) ∧ N' = N ∧ MS b cI cJ cZ σ' n a gf gt gw F T C K ∧ Fr 54 73 σ σ')) := by
  refine zM.of (by decide +kernel) rfl (Nat.le_of_ble_eq_true rfl) ?_
  refine z_pick (lv' := [(0, .ref (b + 54)), (1, .int x), (2, .int y), (3, .int wt)]) [0, 1, 2, 3] rfl ?_
  obtain ⟨⟨th, fa, ls, rm, hM⟩, h58, h59, ⟨g60, h60⟩, ⟨g61, h61⟩, ⟨g62, h62⟩, ⟨g63, h63⟩, ⟨g64, h64⟩, ⟨g65, h65⟩, ⟨g66, h66⟩, ⟨g67, h67⟩, ⟨g68, h68⟩, ⟨g69, h69⟩, ⟨g70, h70⟩, ⟨g71, h71⟩, ⟨g72, h72⟩, ⟨g73, h73⟩⟩ := hMS
  have hn := hM.hn
  have ha := hM.ha
  refine z_aload_n kd_M_arc_0 0 rfl ?_
  refine z_iconst (v := 0) kd_M_arc_1 (by decide) ?_
  refine z_putE (fs' := [_, _, _, _, _, _, _, _, _, _, _, _, _, _, _, _, _, _, _, _, _, _, _, _, _]) kd_M_arc_2 (kp_M_69 _) hM.h1 (Nat.le_of_ble_eq_true rfl) rfl rfl rfl ?_
  refine z_upd (fun σ_1 x54_1 q_1 => ?_)
  have x58_1 := (q_1 58 (by omega)).trans h58
  have x59_1 := (q_1 59 (by omega)).trans h59
  have x60_1 := (q_1 60 (by omega)).trans h60
  have x61_1 := (q_1 61 (by omega)).trans h61
  have x62_1 := (q_1 62 (by omega)).trans h62
  have x63_1 := (q_1 63 (by omega)).trans h63
  have x64_1 := (q_1 64 (by omega)).trans h64
  have x65_1 := (q_1 65 (by omega)).trans h65
  have x66_1 := (q_1 66 (by omega)).trans h66
  have x67_1 := (q_1 67 (by omega)).trans h67
  have x68_1 := (q_1 68 (by omega)).trans h68
  have x69_1 := (q_1 69 (by omega)).trans h69
  have x70_1 := (q_1 70 (by omega)).trans h70
  have x71_1 := (q_1 71 (by omega)).trans h71
  have x72_1 := (q_1 72 (by omega)).trans h72
  have x73_1 := (q_1 73 (by omega)).trans h73
  have hM_1 := hM.put x54_1 q_1
  refine z_aload_n kd_M_arc_5 0 rfl ?_
  refine z_iload_n kd_M_arc_6 1 rfl ?_
  refine z_V1 (a := 54) (As := [_]) kd_M_arc_7 (kg_M_76 _) hM_1.h1 kc_M (c_M_isNode ht0 ht1 ht3 hM_1) rfl rfl (Nat.le_of_ble_eq_true rfl) ⟨Nat.le_of_ble_eq_true rfl, Nat.le_of_ble_eq_true rfl⟩ ⟨Nat.le_of_ble_eq_true rfl, Nat.le_of_ble_eq_true rfl⟩ ?_
  refine z_topi (show zB (zIn x (nI n)) = 1 by rw [hz]; rfl) ?_
  refine z_if_eq (tgt := 41) kd_M_arc_10 (by decide) (fun c10 => absurd c10 (by decide)) (fun c10 => ?_)
  refine z_aload_n kd_M_arc_13 0 rfl ?_
  refine z_iload_n kd_M_arc_14 2 rfl ?_
  refine z_V1 (a := 54) (As := [_]) kd_M_arc_15 (kg_M_76 _) hM_1.h1 kc_M (c_M_isNode ht0 ht1 ht3 hM_1) rfl rfl (Nat.le_of_ble_eq_true rfl) ⟨Nat.le_of_ble_eq_true rfl, Nat.le_of_ble_eq_true rfl⟩ ⟨Nat.le_of_ble_eq_true rfl, Nat.le_of_ble_eq_true rfl⟩ ?_
  refine z_topi (show zB (zIn y (nI n)) = 0 by rw [hz2]; rfl) ?_
  refine z_if_eq (tgt := 41) kd_M_arc_18 (by decide) (fun c18 => ?_) (fun c18 => absurd c18 (by decide))
  refine z_iconst (v := -1) kd_M_arc_41 (by decide) ?_
  exact z_iret kd_M_arc_42 rfl (Nat.le_of_ble_eq_true rfl) (Nat.le_of_ble_eq_true rfl) ⟨rfl, rfl, ⟨⟨_, _, _, _, hM_1⟩, x58_1, x59_1, ⟨_, x60_1⟩, ⟨_, x61_1⟩, ⟨_, x62_1⟩, ⟨_, x63_1⟩, ⟨_, x64_1⟩, ⟨_, x65_1⟩, ⟨_, x66_1⟩, ⟨_, x67_1⟩, ⟨_, x68_1⟩, ⟨_, x69_1⟩, ⟨_, x70_1⟩, ⟨_, x71_1⟩, ⟨_, x72_1⟩, ⟨_, x73_1⟩⟩, (Fr.tr Fr.rf (q_1.wide (by omega) (by omega)))⟩
set_option maxHeartbeats 4000000 in
set_option maxRecDepth 100000 in
theorem c_M_arc2 {l : Launch} {D : va_G} {tys : List (ClassId × FieldType)} {b N : Nat} {σ : Nat → Option va_E} {cI cJ cA : ClassId} (ht0 : tys[0]? = some (cI, .int)) (ht1 : tys[1]? = some (cJ, .long)) (ht3 : tys[3]? = some (cA, .array .long)) {cZ : ClassId} (ht2 : tys[2]? = some (cZ, .boolean)) {n a : Nat} {gf gt gw : Nat → Int32} {F T : Nat → Nat} {C K : Nat → Int64} (hMS : MS b cI cJ cZ σ n a gf gt gw F T C K) {x y wt : Int32} (hz : zIn x (nI n) = true) (hz2 : zIn y (nI n) = true) (hw : wt < 1 ∨ 9 < wt) : zM l D kCl tys kNw b ky_M_arc (kh_M_arc :: zT) 10 360 0 0 [.ref (b + 54), .int x, .int y, .int wt] N σ ((fun oc N' σ' => oc = .returned (some (.int (-1))) ∧ N' = N ∧ MS b cI cJ cZ σ' n a gf gt gw F T C K ∧ Fr 54 73 σ σ')) := by
  refine zM.of (by decide +kernel) rfl (Nat.le_of_ble_eq_true rfl) ?_
  refine z_pick (lv' := [(0, .ref (b + 54)), (1, .int x), (2, .int y), (3, .int wt)]) [0, 1, 2, 3] rfl ?_
  obtain ⟨⟨th, fa, ls, rm, hM⟩, h58, h59, ⟨g60, h60⟩, ⟨g61, h61⟩, ⟨g62, h62⟩, ⟨g63, h63⟩, ⟨g64, h64⟩, ⟨g65, h65⟩, ⟨g66, h66⟩, ⟨g67, h67⟩, ⟨g68, h68⟩, ⟨g69, h69⟩, ⟨g70, h70⟩, ⟨g71, h71⟩, ⟨g72, h72⟩, ⟨g73, h73⟩⟩ := hMS
  have hn := hM.hn
  have ha := hM.ha
  refine z_aload_n kd_M_arc_0 0 rfl ?_
  refine z_iconst (v := 0) kd_M_arc_1 (by decide) ?_
  refine z_putE (fs' := [_, _, _, _, _, _, _, _, _, _, _, _, _, _, _, _, _, _, _, _, _, _, _, _, _]) kd_M_arc_2 (kp_M_69 _) hM.h1 (Nat.le_of_ble_eq_true rfl) rfl rfl rfl ?_
  refine z_upd (fun σ_1 x54_1 q_1 => ?_)
  have x58_1 := (q_1 58 (by omega)).trans h58
  have x59_1 := (q_1 59 (by omega)).trans h59
  have x60_1 := (q_1 60 (by omega)).trans h60
  have x61_1 := (q_1 61 (by omega)).trans h61
  have x62_1 := (q_1 62 (by omega)).trans h62
  have x63_1 := (q_1 63 (by omega)).trans h63
  have x64_1 := (q_1 64 (by omega)).trans h64
  have x65_1 := (q_1 65 (by omega)).trans h65
  have x66_1 := (q_1 66 (by omega)).trans h66
  have x67_1 := (q_1 67 (by omega)).trans h67
  have x68_1 := (q_1 68 (by omega)).trans h68
  have x69_1 := (q_1 69 (by omega)).trans h69
  have x70_1 := (q_1 70 (by omega)).trans h70
  have x71_1 := (q_1 71 (by omega)).trans h71
  have x72_1 := (q_1 72 (by omega)).trans h72
  have x73_1 := (q_1 73 (by omega)).trans h73
  have hM_1 := hM.put x54_1 q_1
  refine z_aload_n kd_M_arc_5 0 rfl ?_
  refine z_iload_n kd_M_arc_6 1 rfl ?_
  refine z_V1 (a := 54) (As := [_]) kd_M_arc_7 (kg_M_76 _) hM_1.h1 kc_M (c_M_isNode ht0 ht1 ht3 hM_1) rfl rfl (Nat.le_of_ble_eq_true rfl) ⟨Nat.le_of_ble_eq_true rfl, Nat.le_of_ble_eq_true rfl⟩ ⟨Nat.le_of_ble_eq_true rfl, Nat.le_of_ble_eq_true rfl⟩ ?_
  refine z_topi (show zB (zIn x (nI n)) = 1 by rw [hz]; rfl) ?_
  refine z_if_eq (tgt := 41) kd_M_arc_10 (by decide) (fun c10 => absurd c10 (by decide)) (fun c10 => ?_)
  refine z_aload_n kd_M_arc_13 0 rfl ?_
  refine z_iload_n kd_M_arc_14 2 rfl ?_
  refine z_V1 (a := 54) (As := [_]) kd_M_arc_15 (kg_M_76 _) hM_1.h1 kc_M (c_M_isNode ht0 ht1 ht3 hM_1) rfl rfl (Nat.le_of_ble_eq_true rfl) ⟨Nat.le_of_ble_eq_true rfl, Nat.le_of_ble_eq_true rfl⟩ ⟨Nat.le_of_ble_eq_true rfl, Nat.le_of_ble_eq_true rfl⟩ ?_
  refine z_topi (show zB (zIn y (nI n)) = 1 by rw [hz2]; rfl) ?_
  refine z_if_eq (tgt := 41) kd_M_arc_18 (by decide) (fun c18 => absurd c18 (by decide)) (fun c18 => ?_)
  refine z_iload_n kd_M_arc_21 3 rfl ?_
  refine z_iconst (v := 1) kd_M_arc_22 (by decide) ?_
  refine z_icmp_lt (tgt := 41) kd_M_arc_23 (by decide) (fun c23 => ?_) (fun c23 => ?_)
  · refine z_iconst (v := -1) kd_M_arc_41 (by decide) ?_
    exact z_iret kd_M_arc_42 rfl (Nat.le_of_ble_eq_true rfl) (Nat.le_of_ble_eq_true rfl) ⟨rfl, rfl, ⟨⟨_, _, _, _, hM_1⟩, x58_1, x59_1, ⟨_, x60_1⟩, ⟨_, x61_1⟩, ⟨_, x62_1⟩, ⟨_, x63_1⟩, ⟨_, x64_1⟩, ⟨_, x65_1⟩, ⟨_, x66_1⟩, ⟨_, x67_1⟩, ⟨_, x68_1⟩, ⟨_, x69_1⟩, ⟨_, x70_1⟩, ⟨_, x71_1⟩, ⟨_, x72_1⟩, ⟨_, x73_1⟩⟩, (Fr.tr Fr.rf (q_1.wide (by omega) (by omega)))⟩
  · refine z_iload_n kd_M_arc_26 3 rfl ?_
    refine z_bipush (v := 9) kd_M_arc_27 (by decide +kernel) ?_
    refine z_icmp_gt (tgt := 41) kd_M_arc_29 (by decide) (fun c29 => ?_) (fun c29 => ?_)
    · refine z_iconst (v := -1) kd_M_arc_41 (by decide) ?_
      exact z_iret kd_M_arc_42 rfl (Nat.le_of_ble_eq_true rfl) (Nat.le_of_ble_eq_true rfl) ⟨rfl, rfl, ⟨⟨_, _, _, _, hM_1⟩, x58_1, x59_1, ⟨_, x60_1⟩, ⟨_, x61_1⟩, ⟨_, x62_1⟩, ⟨_, x63_1⟩, ⟨_, x64_1⟩, ⟨_, x65_1⟩, ⟨_, x66_1⟩, ⟨_, x67_1⟩, ⟨_, x68_1⟩, ⟨_, x69_1⟩, ⟨_, x70_1⟩, ⟨_, x71_1⟩, ⟨_, x72_1⟩, ⟨_, x73_1⟩⟩, (Fr.tr Fr.rf (q_1.wide (by omega) (by omega)))⟩
    · exact absurd hw (fun z => by rcases z with z | z; exact absurd z c23; exact absurd z c29)
set_option maxHeartbeats 4000000 in
set_option maxRecDepth 100000 in
theorem c_M_arc3 {l : Launch} {D : va_G} {tys : List (ClassId × FieldType)} {b N : Nat} {σ : Nat → Option va_E} {cI cJ cA : ClassId} (ht0 : tys[0]? = some (cI, .int)) (ht1 : tys[1]? = some (cJ, .long)) (ht3 : tys[3]? = some (cA, .array .long)) {cZ : ClassId} (ht2 : tys[2]? = some (cZ, .boolean)) {n a : Nat} {gf gt gw : Nat → Int32} {F T : Nat → Nat} {C K : Nat → Int64} (hMS : MS b cI cJ cZ σ n a gf gt gw F T C K) {x y wt : Int32} (hz : zIn x (nI n) = true) (hz2 : zIn y (nI n) = true) (hw1 : ¬ wt < 1) (hw9 : ¬ 9 < wt) (h30 : a = 30) : zM l D kCl tys kNw b ky_M_arc (kh_M_arc :: zT) 10 360 0 0 [.ref (b + 54), .int x, .int y, .int wt] N σ ((fun oc N' σ' => oc = .returned (some (.int (-1))) ∧ N' = N ∧ MS b cI cJ cZ σ' n a gf gt gw F T C K ∧ Fr 54 73 σ σ')) := by
  refine zM.of (by decide +kernel) rfl (Nat.le_of_ble_eq_true rfl) ?_
  refine z_pick (lv' := [(0, .ref (b + 54)), (1, .int x), (2, .int y), (3, .int wt)]) [0, 1, 2, 3] rfl ?_
  obtain ⟨⟨th, fa, ls, rm, hM⟩, h58, h59, ⟨g60, h60⟩, ⟨g61, h61⟩, ⟨g62, h62⟩, ⟨g63, h63⟩, ⟨g64, h64⟩, ⟨g65, h65⟩, ⟨g66, h66⟩, ⟨g67, h67⟩, ⟨g68, h68⟩, ⟨g69, h69⟩, ⟨g70, h70⟩, ⟨g71, h71⟩, ⟨g72, h72⟩, ⟨g73, h73⟩⟩ := hMS
  have hn := hM.hn
  have ha := hM.ha
  refine z_aload_n kd_M_arc_0 0 rfl ?_
  refine z_iconst (v := 0) kd_M_arc_1 (by decide) ?_
  refine z_putE (fs' := [_, _, _, _, _, _, _, _, _, _, _, _, _, _, _, _, _, _, _, _, _, _, _, _, _]) kd_M_arc_2 (kp_M_69 _) hM.h1 (Nat.le_of_ble_eq_true rfl) rfl rfl rfl ?_
  refine z_upd (fun σ_1 x54_1 q_1 => ?_)
  have x58_1 := (q_1 58 (by omega)).trans h58
  have x59_1 := (q_1 59 (by omega)).trans h59
  have x60_1 := (q_1 60 (by omega)).trans h60
  have x61_1 := (q_1 61 (by omega)).trans h61
  have x62_1 := (q_1 62 (by omega)).trans h62
  have x63_1 := (q_1 63 (by omega)).trans h63
  have x64_1 := (q_1 64 (by omega)).trans h64
  have x65_1 := (q_1 65 (by omega)).trans h65
  have x66_1 := (q_1 66 (by omega)).trans h66
  have x67_1 := (q_1 67 (by omega)).trans h67
  have x68_1 := (q_1 68 (by omega)).trans h68
  have x69_1 := (q_1 69 (by omega)).trans h69
  have x70_1 := (q_1 70 (by omega)).trans h70
  have x71_1 := (q_1 71 (by omega)).trans h71
  have x72_1 := (q_1 72 (by omega)).trans h72
  have x73_1 := (q_1 73 (by omega)).trans h73
  have hM_1 := hM.put x54_1 q_1
  refine z_aload_n kd_M_arc_5 0 rfl ?_
  refine z_iload_n kd_M_arc_6 1 rfl ?_
  refine z_V1 (a := 54) (As := [_]) kd_M_arc_7 (kg_M_76 _) hM_1.h1 kc_M (c_M_isNode ht0 ht1 ht3 hM_1) rfl rfl (Nat.le_of_ble_eq_true rfl) ⟨Nat.le_of_ble_eq_true rfl, Nat.le_of_ble_eq_true rfl⟩ ⟨Nat.le_of_ble_eq_true rfl, Nat.le_of_ble_eq_true rfl⟩ ?_
  refine z_topi (show zB (zIn x (nI n)) = 1 by rw [hz]; rfl) ?_
  refine z_if_eq (tgt := 41) kd_M_arc_10 (by decide) (fun c10 => absurd c10 (by decide)) (fun c10 => ?_)
  refine z_aload_n kd_M_arc_13 0 rfl ?_
  refine z_iload_n kd_M_arc_14 2 rfl ?_
  refine z_V1 (a := 54) (As := [_]) kd_M_arc_15 (kg_M_76 _) hM_1.h1 kc_M (c_M_isNode ht0 ht1 ht3 hM_1) rfl rfl (Nat.le_of_ble_eq_true rfl) ⟨Nat.le_of_ble_eq_true rfl, Nat.le_of_ble_eq_true rfl⟩ ⟨Nat.le_of_ble_eq_true rfl, Nat.le_of_ble_eq_true rfl⟩ ?_
  refine z_topi (show zB (zIn y (nI n)) = 1 by rw [hz2]; rfl) ?_
  refine z_if_eq (tgt := 41) kd_M_arc_18 (by decide) (fun c18 => absurd c18 (by decide)) (fun c18 => ?_)
  refine z_iload_n kd_M_arc_21 3 rfl ?_
  refine z_iconst (v := 1) kd_M_arc_22 (by decide) ?_
  refine z_icmp_lt (tgt := 41) kd_M_arc_23 (by decide) (fun c23 => ?_) (fun c23 => ?_)
  · exact absurd c23 hw1
  · refine z_iload_n kd_M_arc_26 3 rfl ?_
    refine z_bipush (v := 9) kd_M_arc_27 (by decide +kernel) ?_
    refine z_icmp_gt (tgt := 41) kd_M_arc_29 (by decide) (fun c29 => ?_) (fun c29 => ?_)
    · exact absurd c29 hw9
    · refine z_aload_n kd_M_arc_32 0 rfl ?_
      refine z_get kd_M_arc_33 (kf_M_80 _) hM_1.h1 rfl ?_
      refine z_bipush (v := 30) kd_M_arc_36 (by decide +kernel) ?_
      refine z_icmp_ne (tgt := 43) kd_M_arc_38 (by decide) (fun c38 => ?_) (fun c38 => ?_)
      · exact absurd (by rw [h30]; rfl) c38
      · refine z_iconst (v := -1) kd_M_arc_41 (by decide) ?_
        exact z_iret kd_M_arc_42 rfl (Nat.le_of_ble_eq_true rfl) (Nat.le_of_ble_eq_true rfl) ⟨rfl, rfl, ⟨⟨_, _, _, _, hM_1⟩, x58_1, x59_1, ⟨_, x60_1⟩, ⟨_, x61_1⟩, ⟨_, x62_1⟩, ⟨_, x63_1⟩, ⟨_, x64_1⟩, ⟨_, x65_1⟩, ⟨_, x66_1⟩, ⟨_, x67_1⟩, ⟨_, x68_1⟩, ⟨_, x69_1⟩, ⟨_, x70_1⟩, ⟨_, x71_1⟩, ⟨_, x72_1⟩, ⟨_, x73_1⟩⟩, (Fr.tr Fr.rf (q_1.wide (by omega) (by omega)))⟩
set_option maxHeartbeats 4000000 in
set_option maxRecDepth 100000 in
theorem c_M_arc4 {l : Launch} {D : va_G} {tys : List (ClassId × FieldType)} {b N : Nat} {σ : Nat → Option va_E} {cI cJ cA : ClassId} (ht0 : tys[0]? = some (cI, .int)) (ht1 : tys[1]? = some (cJ, .long)) (ht3 : tys[3]? = some (cA, .array .long)) {cZ : ClassId} (ht2 : tys[2]? = some (cZ, .boolean)) {n a : Nat} {gf gt gw : Nat → Int32} {F T : Nat → Nat} {C K : Nat → Int64} (hMS : MS b cI cJ cZ σ n a gf gt gw F T C K) {u v : Nat} {wt : Int32} (hu : u < n) (hv : v < n) (hz : zIn (nI u) (nI n) = true) (hz2 : zIn (nI v) (nI n) = true) (hw1 : ¬ wt < 1) (hw9 : ¬ 9 < wt) (h30 : a < 30) : zM l D kCl tys kNw b ky_M_arc (kh_M_arc :: zT) 10 360 0 0 [.ref (b + 54), .int (nI u), .int (nI v), .int wt] N σ ((fun oc N' σ' => oc = .returned (some (.int (nI a))) ∧ N' = N ∧ MS b cI cJ cZ σ' n (a + 1) (upd gf a (nI u)) (upd gt a (nI v)) (upd gw a wt) (updN F a u) (updN T a v) C K ∧ Fr 54 73 σ σ')) := by
  refine zM.of (by decide +kernel) rfl (Nat.le_of_ble_eq_true rfl) ?_
  refine z_pick (lv' := [(0, .ref (b + 54)), (1, .int (nI u)), (2, .int (nI v)), (3, .int wt)]) [0, 1, 2, 3] rfl ?_
  obtain ⟨⟨th, fa, ls, rm, hM⟩, h58, h59, ⟨g60, h60⟩, ⟨g61, h61⟩, ⟨g62, h62⟩, ⟨g63, h63⟩, ⟨g64, h64⟩, ⟨g65, h65⟩, ⟨g66, h66⟩, ⟨g67, h67⟩, ⟨g68, h68⟩, ⟨g69, h69⟩, ⟨g70, h70⟩, ⟨g71, h71⟩, ⟨g72, h72⟩, ⟨g73, h73⟩⟩ := hMS
  have hn := hM.hn
  have ha := hM.ha
  refine z_aload_n kd_M_arc_0 0 rfl ?_
  refine z_iconst (v := 0) kd_M_arc_1 (by decide) ?_
  refine z_putE (fs' := [_, _, _, _, _, _, _, _, _, _, _, _, _, _, _, _, _, _, _, _, _, _, _, _, _]) kd_M_arc_2 (kp_M_69 _) hM.h1 (Nat.le_of_ble_eq_true rfl) rfl rfl rfl ?_
  refine z_upd (fun σ_1 x54_1 q_1 => ?_)
  have x58_1 := (q_1 58 (by omega)).trans h58
  have x59_1 := (q_1 59 (by omega)).trans h59
  have x60_1 := (q_1 60 (by omega)).trans h60
  have x61_1 := (q_1 61 (by omega)).trans h61
  have x62_1 := (q_1 62 (by omega)).trans h62
  have x63_1 := (q_1 63 (by omega)).trans h63
  have x64_1 := (q_1 64 (by omega)).trans h64
  have x65_1 := (q_1 65 (by omega)).trans h65
  have x66_1 := (q_1 66 (by omega)).trans h66
  have x67_1 := (q_1 67 (by omega)).trans h67
  have x68_1 := (q_1 68 (by omega)).trans h68
  have x69_1 := (q_1 69 (by omega)).trans h69
  have x70_1 := (q_1 70 (by omega)).trans h70
  have x71_1 := (q_1 71 (by omega)).trans h71
  have x72_1 := (q_1 72 (by omega)).trans h72
  have x73_1 := (q_1 73 (by omega)).trans h73
  have hM_1 := hM.put x54_1 q_1
  refine z_aload_n kd_M_arc_5 0 rfl ?_
  refine z_iload_n kd_M_arc_6 1 rfl ?_
  refine z_V1 (a := 54) (As := [_]) kd_M_arc_7 (kg_M_76 _) hM_1.h1 kc_M (c_M_isNode ht0 ht1 ht3 hM_1) rfl rfl (Nat.le_of_ble_eq_true rfl) ⟨Nat.le_of_ble_eq_true rfl, Nat.le_of_ble_eq_true rfl⟩ ⟨Nat.le_of_ble_eq_true rfl, Nat.le_of_ble_eq_true rfl⟩ ?_
  refine z_topi (show zB (zIn (nI u) (nI n)) = 1 by rw [hz]; rfl) ?_
  refine z_if_eq (tgt := 41) kd_M_arc_10 (by decide) (fun c10 => absurd c10 (by decide)) (fun c10 => ?_)
  refine z_aload_n kd_M_arc_13 0 rfl ?_
  refine z_iload_n kd_M_arc_14 2 rfl ?_
  refine z_V1 (a := 54) (As := [_]) kd_M_arc_15 (kg_M_76 _) hM_1.h1 kc_M (c_M_isNode ht0 ht1 ht3 hM_1) rfl rfl (Nat.le_of_ble_eq_true rfl) ⟨Nat.le_of_ble_eq_true rfl, Nat.le_of_ble_eq_true rfl⟩ ⟨Nat.le_of_ble_eq_true rfl, Nat.le_of_ble_eq_true rfl⟩ ?_
  refine z_topi (show zB (zIn (nI v) (nI n)) = 1 by rw [hz2]; rfl) ?_
  refine z_if_eq (tgt := 41) kd_M_arc_18 (by decide) (fun c18 => absurd c18 (by decide)) (fun c18 => ?_)
  refine z_iload_n kd_M_arc_21 3 rfl ?_
  refine z_iconst (v := 1) kd_M_arc_22 (by decide) ?_
  refine z_icmp_lt (tgt := 41) kd_M_arc_23 (by decide) (fun c23 => ?_) (fun c23 => ?_)
  · exact absurd c23 hw1
  · refine z_iload_n kd_M_arc_26 3 rfl ?_
    refine z_bipush (v := 9) kd_M_arc_27 (by decide +kernel) ?_
    refine z_icmp_gt (tgt := 41) kd_M_arc_29 (by decide) (fun c29 => ?_) (fun c29 => ?_)
    · exact absurd c29 hw9
    · refine z_aload_n kd_M_arc_32 0 rfl ?_
      refine z_get kd_M_arc_33 (kf_M_80 _) hM_1.h1 rfl ?_
      refine z_bipush (v := 30) kd_M_arc_36 (by decide +kernel) ?_
      refine z_icmp_ne (tgt := 43) kd_M_arc_38 (by decide) (fun c38 => ?_) (fun c38 => ?_)
      · refine z_aload_n kd_M_arc_43 0 rfl ?_
        refine z_get kd_M_arc_44 (kf_M_7 _) hM_1.h1 rfl ?_
        refine z_aload_n kd_M_arc_47 0 rfl ?_
        refine z_get kd_M_arc_48 (kf_M_80 _) hM_1.h1 rfl ?_
        refine z_iload_n kd_M_arc_51 1 rfl ?_
        refine z_iastN (t0 := 0) kd_M_arc_52 (by assumption) hM_1.h2 (by omega) (by decide) ?_
        refine z_upd (fun σ_2 x55_2 q_2 => ?_)
        have x58_2 := (q_2 58 (by omega)).trans x58_1
        have x59_2 := (q_2 59 (by omega)).trans x59_1
        have x60_2 := (q_2 60 (by omega)).trans x60_1
        have x61_2 := (q_2 61 (by omega)).trans x61_1
        have x62_2 := (q_2 62 (by omega)).trans x62_1
        have x63_2 := (q_2 63 (by omega)).trans x63_1
        have x64_2 := (q_2 64 (by omega)).trans x64_1
        have x65_2 := (q_2 65 (by omega)).trans x65_1
        have x66_2 := (q_2 66 (by omega)).trans x66_1
        have x67_2 := (q_2 67 (by omega)).trans x67_1
        have x68_2 := (q_2 68 (by omega)).trans x68_1
        have x69_2 := (q_2 69 (by omega)).trans x69_1
        have x70_2 := (q_2 70 (by omega)).trans x70_1
        have x71_2 := (q_2 71 (by omega)).trans x71_1
        have x72_2 := (q_2 72 (by omega)).trans x72_1
        have x73_2 := (q_2 73 (by omega)).trans x73_1
        have x54_2 := (q_2 54 (by omega)).trans hM_1.h1
        have x56_2 := (q_2 56 (by omega)).trans hM_1.h3
        have x57_2 := (q_2 57 (by omega)).trans hM_1.h4
        refine z_aload_n kd_M_arc_53 0 rfl ?_
        refine z_get kd_M_arc_54 (kf_M_13 _) x54_2 rfl ?_
        refine z_aload_n kd_M_arc_57 0 rfl ?_
        refine z_get kd_M_arc_58 (kf_M_80 _) x54_2 rfl ?_
        refine z_iload_n kd_M_arc_61 2 rfl ?_
        refine z_iastN (t0 := 0) kd_M_arc_62 (by assumption) x56_2 (by omega) (by decide) ?_
        refine z_upd (fun σ_3 x56_3 q_3 => ?_)
        have x58_3 := (q_3 58 (by omega)).trans x58_2
        have x59_3 := (q_3 59 (by omega)).trans x59_2
        have x60_3 := (q_3 60 (by omega)).trans x60_2
        have x61_3 := (q_3 61 (by omega)).trans x61_2
        have x62_3 := (q_3 62 (by omega)).trans x62_2
        have x63_3 := (q_3 63 (by omega)).trans x63_2
        have x64_3 := (q_3 64 (by omega)).trans x64_2
        have x65_3 := (q_3 65 (by omega)).trans x65_2
        have x66_3 := (q_3 66 (by omega)).trans x66_2
        have x67_3 := (q_3 67 (by omega)).trans x67_2
        have x68_3 := (q_3 68 (by omega)).trans x68_2
        have x69_3 := (q_3 69 (by omega)).trans x69_2
        have x70_3 := (q_3 70 (by omega)).trans x70_2
        have x71_3 := (q_3 71 (by omega)).trans x71_2
        have x72_3 := (q_3 72 (by omega)).trans x72_2
        have x73_3 := (q_3 73 (by omega)).trans x73_2
        have x54_3 := (q_3 54 (by omega)).trans x54_2
        have x55_3 := (q_3 55 (by omega)).trans x55_2
        have x57_3 := (q_3 57 (by omega)).trans x57_2
        refine z_aload_n kd_M_arc_63 0 rfl ?_
        refine z_get kd_M_arc_64 (kf_M_16 _) x54_3 rfl ?_
        refine z_aload_n kd_M_arc_67 0 rfl ?_
        refine z_get kd_M_arc_68 (kf_M_80 _) x54_3 rfl ?_
        refine z_iload_n kd_M_arc_71 3 rfl ?_
        refine z_iastN (t0 := 0) kd_M_arc_72 (by assumption) x57_3 (by omega) (by decide) ?_
        refine z_upd (fun σ_4 x57_4 q_4 => ?_)
        have x58_4 := (q_4 58 (by omega)).trans x58_3
        have x59_4 := (q_4 59 (by omega)).trans x59_3
        have x60_4 := (q_4 60 (by omega)).trans x60_3
        have x61_4 := (q_4 61 (by omega)).trans x61_3
        have x62_4 := (q_4 62 (by omega)).trans x62_3
        have x63_4 := (q_4 63 (by omega)).trans x63_3
        have x64_4 := (q_4 64 (by omega)).trans x64_3
        have x65_4 := (q_4 65 (by omega)).trans x65_3
        have x66_4 := (q_4 66 (by omega)).trans x66_3
        have x67_4 := (q_4 67 (by omega)).trans x67_3
        have x68_4 := (q_4 68 (by omega)).trans x68_3
        have x69_4 := (q_4 69 (by omega)).trans x69_3
        have x70_4 := (q_4 70 (by omega)).trans x70_3
        have x71_4 := (q_4 71 (by omega)).trans x71_3
        have x72_4 := (q_4 72 (by omega)).trans x72_3
        have x73_4 := (q_4 73 (by omega)).trans x73_3
        have x54_4 := (q_4 54 (by omega)).trans x54_3
        have x55_4 := (q_4 55 (by omega)).trans x55_3
        have x56_4 := (q_4 56 (by omega)).trans x56_3
        refine z_aload_n kd_M_arc_73 0 rfl ?_
        refine z_dup kd_M_arc_74 rfl ?_
        refine z_get kd_M_arc_75 (kf_M_80 _) x54_4 rfl ?_
        refine z_iconst (v := 1) kd_M_arc_78 (by decide) ?_
        refine z_iadd kd_M_arc_79 ?_
        refine z_topi (nI_add a 1) ?_
        refine z_putE (fs' := [_, _, _, _, _, _, _, _, _, _, _, _, _, _, _, _, _, _, _, _, _, _, _, _, _]) kd_M_arc_80 (kp_M_80 _) x54_4 (Nat.le_of_ble_eq_true rfl) rfl rfl rfl ?_
        refine z_upd (fun σ_5 x54_5 q_5 => ?_)
        have x58_5 := (q_5 58 (by omega)).trans x58_4
        have x59_5 := (q_5 59 (by omega)).trans x59_4
        have x60_5 := (q_5 60 (by omega)).trans x60_4
        have x61_5 := (q_5 61 (by omega)).trans x61_4
        have x62_5 := (q_5 62 (by omega)).trans x62_4
        have x63_5 := (q_5 63 (by omega)).trans x63_4
        have x64_5 := (q_5 64 (by omega)).trans x64_4
        have x65_5 := (q_5 65 (by omega)).trans x65_4
        have x66_5 := (q_5 66 (by omega)).trans x66_4
        have x67_5 := (q_5 67 (by omega)).trans x67_4
        have x68_5 := (q_5 68 (by omega)).trans x68_4
        have x69_5 := (q_5 69 (by omega)).trans x69_4
        have x70_5 := (q_5 70 (by omega)).trans x70_4
        have x71_5 := (q_5 71 (by omega)).trans x71_4
        have x72_5 := (q_5 72 (by omega)).trans x72_4
        have x73_5 := (q_5 73 (by omega)).trans x73_4
        have x55_5 := (q_5 55 (by omega)).trans x55_4
        have x56_5 := (q_5 56 (by omega)).trans x56_4
        have x57_5 := (q_5 57 (by omega)).trans x57_4
        refine z_aload_n kd_M_arc_83 0 rfl ?_
        refine z_get kd_M_arc_84 (kf_M_80 _) x54_5 rfl ?_
        refine z_iconst (v := 1) kd_M_arc_87 (by decide) ?_
        refine z_isub kd_M_arc_88 ?_
        refine z_topi (pk_sub (a := (a + 1)) (b := 1) (by omega)) ?_
        exact z_iret kd_M_arc_89 rfl (Nat.le_of_ble_eq_true rfl) (Nat.le_of_ble_eq_true rfl) ⟨rfl, rfl, ⟨⟨_, _, _, _, ⟨x54_5, x55_5, x56_5, x57_5, hn, (by omega), (arc_ft hM.hft hu hv)⟩⟩, x58_5, x59_5, ⟨_, x60_5⟩, ⟨_, x61_5⟩, ⟨_, x62_5⟩, ⟨_, x63_5⟩, ⟨_, x64_5⟩, ⟨_, x65_5⟩, ⟨_, x66_5⟩, ⟨_, x67_5⟩, ⟨_, x68_5⟩, ⟨_, x69_5⟩, ⟨_, x70_5⟩, ⟨_, x71_5⟩, ⟨_, x72_5⟩, ⟨_, x73_5⟩⟩, (Fr.tr (Fr.tr (Fr.tr (Fr.tr (Fr.tr Fr.rf (q_1.wide (by omega) (by omega))) (q_2.wide (by omega) (by omega))) (q_3.wide (by omega) (by omega))) (q_4.wide (by omega) (by omega))) (q_5.wide (by omega) (by omega)))⟩
      · exact absurd ((nI_eq (b := 30) (by omega) (by decide)).mp c38) (by omega)
set_option maxHeartbeats 4000000 in
set_option maxRecDepth 100000 in
theorem c_M_weigh0 {l : Launch} {D : va_G} {tys : List (ClassId × FieldType)} {b N : Nat} {σ : Nat → Option va_E} {cI cJ cA : ClassId} (ht0 : tys[0]? = some (cI, .int)) (ht1 : tys[1]? = some (cJ, .long)) (ht3 : tys[3]? = some (cA, .array .long)) {cZ : ClassId} (ht2 : tys[2]? = some (cZ, .boolean)) {n a : Nat} {gf gt gw : Nat → Int32} {F T : Nat → Nat} {C K : Nat → Int64} (hMS : MS b cI cJ cZ σ n a gf gt gw F T C K) {x wt : Int32} (hz : zIn x (nI a) = false) : zM l D kCl tys kNw b ky_M_weigh (kh_M_weigh :: zT) 10 360 0 0 [.ref (b + 54), .int x, .int wt] N σ ((fun oc N' σ' => oc = .returned (some (.int (-1))) ∧ N' = N ∧ MS b cI cJ cZ σ' n a gf gt gw F T C K ∧ Fr 54 73 σ σ')) := by
  refine zM.of (by decide +kernel) rfl (Nat.le_of_ble_eq_true rfl) ?_
  refine z_pick (lv' := [(0, .ref (b + 54)), (1, .int x), (2, .int wt)]) [0, 1, 2] rfl ?_
  obtain ⟨⟨th, fa, ls, rm, hM⟩, h58, h59, ⟨g60, h60⟩, ⟨g61, h61⟩, ⟨g62, h62⟩, ⟨g63, h63⟩, ⟨g64, h64⟩, ⟨g65, h65⟩, ⟨g66, h66⟩, ⟨g67, h67⟩, ⟨g68, h68⟩, ⟨g69, h69⟩, ⟨g70, h70⟩, ⟨g71, h71⟩, ⟨g72, h72⟩, ⟨g73, h73⟩⟩ := hMS
  have hn := hM.hn
  have ha := hM.ha
  refine z_aload_n kd_M_weigh_0 0 rfl ?_
  refine z_iconst (v := 0) kd_M_weigh_1 (by decide) ?_
  refine z_putE (fs' := [_, _, _, _, _, _, _, _, _, _, _, _, _, _, _, _, _, _, _, _, _, _, _, _, _]) kd_M_weigh_2 (kp_M_69 _) hM.h1 (Nat.le_of_ble_eq_true rfl) rfl rfl rfl ?_
  refine z_upd (fun σ_1 x54_1 q_1 => ?_)
  have x58_1 := (q_1 58 (by omega)).trans h58
  have x59_1 := (q_1 59 (by omega)).trans h59
  have x60_1 := (q_1 60 (by omega)).trans h60
  have x61_1 := (q_1 61 (by omega)).trans h61
  have x62_1 := (q_1 62 (by omega)).trans h62
  have x63_1 := (q_1 63 (by omega)).trans h63
  have x64_1 := (q_1 64 (by omega)).trans h64
  have x65_1 := (q_1 65 (by omega)).trans h65
  have x66_1 := (q_1 66 (by omega)).trans h66
  have x67_1 := (q_1 67 (by omega)).trans h67
  have x68_1 := (q_1 68 (by omega)).trans h68
  have x69_1 := (q_1 69 (by omega)).trans h69
  have x70_1 := (q_1 70 (by omega)).trans h70
  have x71_1 := (q_1 71 (by omega)).trans h71
  have x72_1 := (q_1 72 (by omega)).trans h72
  have x73_1 := (q_1 73 (by omega)).trans h73
  have hM_1 := hM.put x54_1 q_1
  refine z_iload_n kd_M_weigh_5 1 rfl ?_
  refine z_if_lt (tgt := 28) kd_M_weigh_6 (by decide) (fun c6 => ?_) (fun c6 => ?_)
  · refine z_iconst (v := -1) kd_M_weigh_28 (by decide) ?_
    exact z_iret kd_M_weigh_29 rfl (Nat.le_of_ble_eq_true rfl) (Nat.le_of_ble_eq_true rfl) ⟨rfl, rfl, ⟨⟨_, _, _, _, hM_1⟩, x58_1, x59_1, ⟨_, x60_1⟩, ⟨_, x61_1⟩, ⟨_, x62_1⟩, ⟨_, x63_1⟩, ⟨_, x64_1⟩, ⟨_, x65_1⟩, ⟨_, x66_1⟩, ⟨_, x67_1⟩, ⟨_, x68_1⟩, ⟨_, x69_1⟩, ⟨_, x70_1⟩, ⟨_, x71_1⟩, ⟨_, x72_1⟩, ⟨_, x73_1⟩⟩, (Fr.tr Fr.rf (q_1.wide (by omega) (by omega)))⟩
  · refine z_iload_n kd_M_weigh_9 1 rfl ?_
    refine z_aload_n kd_M_weigh_10 0 rfl ?_
    refine z_get kd_M_weigh_11 (kf_M_80 _) hM_1.h1 rfl ?_
    refine z_icmp_ge (tgt := 28) kd_M_weigh_14 (by decide) (fun c14 => ?_) (fun c14 => ?_)
    · refine z_iconst (v := -1) kd_M_weigh_28 (by decide) ?_
      exact z_iret kd_M_weigh_29 rfl (Nat.le_of_ble_eq_true rfl) (Nat.le_of_ble_eq_true rfl) ⟨rfl, rfl, ⟨⟨_, _, _, _, hM_1⟩, x58_1, x59_1, ⟨_, x60_1⟩, ⟨_, x61_1⟩, ⟨_, x62_1⟩, ⟨_, x63_1⟩, ⟨_, x64_1⟩, ⟨_, x65_1⟩, ⟨_, x66_1⟩, ⟨_, x67_1⟩, ⟨_, x68_1⟩, ⟨_, x69_1⟩, ⟨_, x70_1⟩, ⟨_, x71_1⟩, ⟨_, x72_1⟩, ⟨_, x73_1⟩⟩, (Fr.tr Fr.rf (q_1.wide (by omega) (by omega)))⟩
    · exact absurd hz (by rw [zIn_t c6 c14]; decide)
set_option maxHeartbeats 4000000 in
set_option maxRecDepth 100000 in
theorem c_M_weigh1 {l : Launch} {D : va_G} {tys : List (ClassId × FieldType)} {b N : Nat} {σ : Nat → Option va_E} {cI cJ cA : ClassId} (ht0 : tys[0]? = some (cI, .int)) (ht1 : tys[1]? = some (cJ, .long)) (ht3 : tys[3]? = some (cA, .array .long)) {cZ : ClassId} (ht2 : tys[2]? = some (cZ, .boolean)) {n a : Nat} {gf gt gw : Nat → Int32} {F T : Nat → Nat} {C K : Nat → Int64} (hMS : MS b cI cJ cZ σ n a gf gt gw F T C K) {k : Nat} {wt : Int32} (hk : k < a) (hw : wt < 1 ∨ 9 < wt) : zM l D kCl tys kNw b ky_M_weigh (kh_M_weigh :: zT) 10 360 0 0 [.ref (b + 54), .int (nI k), .int wt] N σ ((fun oc N' σ' => oc = .returned (some (.int (-1))) ∧ N' = N ∧ MS b cI cJ cZ σ' n a gf gt gw F T C K ∧ Fr 54 73 σ σ')) := by
  refine zM.of (by decide +kernel) rfl (Nat.le_of_ble_eq_true rfl) ?_
  refine z_pick (lv' := [(0, .ref (b + 54)), (1, .int (nI k)), (2, .int wt)]) [0, 1, 2] rfl ?_
  obtain ⟨⟨th, fa, ls, rm, hM⟩, h58, h59, ⟨g60, h60⟩, ⟨g61, h61⟩, ⟨g62, h62⟩, ⟨g63, h63⟩, ⟨g64, h64⟩, ⟨g65, h65⟩, ⟨g66, h66⟩, ⟨g67, h67⟩, ⟨g68, h68⟩, ⟨g69, h69⟩, ⟨g70, h70⟩, ⟨g71, h71⟩, ⟨g72, h72⟩, ⟨g73, h73⟩⟩ := hMS
  have hn := hM.hn
  have ha := hM.ha
  refine z_aload_n kd_M_weigh_0 0 rfl ?_
  refine z_iconst (v := 0) kd_M_weigh_1 (by decide) ?_
  refine z_putE (fs' := [_, _, _, _, _, _, _, _, _, _, _, _, _, _, _, _, _, _, _, _, _, _, _, _, _]) kd_M_weigh_2 (kp_M_69 _) hM.h1 (Nat.le_of_ble_eq_true rfl) rfl rfl rfl ?_
  refine z_upd (fun σ_1 x54_1 q_1 => ?_)
  have x58_1 := (q_1 58 (by omega)).trans h58
  have x59_1 := (q_1 59 (by omega)).trans h59
  have x60_1 := (q_1 60 (by omega)).trans h60
  have x61_1 := (q_1 61 (by omega)).trans h61
  have x62_1 := (q_1 62 (by omega)).trans h62
  have x63_1 := (q_1 63 (by omega)).trans h63
  have x64_1 := (q_1 64 (by omega)).trans h64
  have x65_1 := (q_1 65 (by omega)).trans h65
  have x66_1 := (q_1 66 (by omega)).trans h66
  have x67_1 := (q_1 67 (by omega)).trans h67
  have x68_1 := (q_1 68 (by omega)).trans h68
  have x69_1 := (q_1 69 (by omega)).trans h69
  have x70_1 := (q_1 70 (by omega)).trans h70
  have x71_1 := (q_1 71 (by omega)).trans h71
  have x72_1 := (q_1 72 (by omega)).trans h72
  have x73_1 := (q_1 73 (by omega)).trans h73
  have hM_1 := hM.put x54_1 q_1
  refine z_iload_n kd_M_weigh_5 1 rfl ?_
  refine z_if_lt (tgt := 28) kd_M_weigh_6 (by decide) (fun c6 => ?_) (fun c6 => ?_)
  · exact absurd c6 (nI_pos (by omega))
  · refine z_iload_n kd_M_weigh_9 1 rfl ?_
    refine z_aload_n kd_M_weigh_10 0 rfl ?_
    refine z_get kd_M_weigh_11 (kf_M_80 _) hM_1.h1 rfl ?_
    refine z_icmp_ge (tgt := 28) kd_M_weigh_14 (by decide) (fun c14 => ?_) (fun c14 => ?_)
    · exact absurd c14 (nI_ge hk (by omega))
    · refine z_iload_n kd_M_weigh_17 2 rfl ?_
      refine z_iconst (v := 1) kd_M_weigh_18 (by decide) ?_
      refine z_icmp_lt (tgt := 28) kd_M_weigh_19 (by decide) (fun c19 => ?_) (fun c19 => ?_)
      · refine z_iconst (v := -1) kd_M_weigh_28 (by decide) ?_
        exact z_iret kd_M_weigh_29 rfl (Nat.le_of_ble_eq_true rfl) (Nat.le_of_ble_eq_true rfl) ⟨rfl, rfl, ⟨⟨_, _, _, _, hM_1⟩, x58_1, x59_1, ⟨_, x60_1⟩, ⟨_, x61_1⟩, ⟨_, x62_1⟩, ⟨_, x63_1⟩, ⟨_, x64_1⟩, ⟨_, x65_1⟩, ⟨_, x66_1⟩, ⟨_, x67_1⟩, ⟨_, x68_1⟩, ⟨_, x69_1⟩, ⟨_, x70_1⟩, ⟨_, x71_1⟩, ⟨_, x72_1⟩, ⟨_, x73_1⟩⟩, (Fr.tr Fr.rf (q_1.wide (by omega) (by omega)))⟩
      · refine z_iload_n kd_M_weigh_22 2 rfl ?_
        refine z_bipush (v := 9) kd_M_weigh_23 (by decide +kernel) ?_
        refine z_icmp_le (tgt := 30) kd_M_weigh_25 (by decide) (fun c25 => ?_) (fun c25 => ?_)
        · exact absurd hw (fun z => by rcases z with z | z; exact absurd z c19; exact absurd z (Int32.not_lt.mpr c25))
        · refine z_iconst (v := -1) kd_M_weigh_28 (by decide) ?_
          exact z_iret kd_M_weigh_29 rfl (Nat.le_of_ble_eq_true rfl) (Nat.le_of_ble_eq_true rfl) ⟨rfl, rfl, ⟨⟨_, _, _, _, hM_1⟩, x58_1, x59_1, ⟨_, x60_1⟩, ⟨_, x61_1⟩, ⟨_, x62_1⟩, ⟨_, x63_1⟩, ⟨_, x64_1⟩, ⟨_, x65_1⟩, ⟨_, x66_1⟩, ⟨_, x67_1⟩, ⟨_, x68_1⟩, ⟨_, x69_1⟩, ⟨_, x70_1⟩, ⟨_, x71_1⟩, ⟨_, x72_1⟩, ⟨_, x73_1⟩⟩, (Fr.tr Fr.rf (q_1.wide (by omega) (by omega)))⟩
set_option maxHeartbeats 4000000 in
set_option maxRecDepth 100000 in
theorem c_M_weigh2 {l : Launch} {D : va_G} {tys : List (ClassId × FieldType)} {b N : Nat} {σ : Nat → Option va_E} {cI cJ cA : ClassId} (ht0 : tys[0]? = some (cI, .int)) (ht1 : tys[1]? = some (cJ, .long)) (ht3 : tys[3]? = some (cA, .array .long)) {cZ : ClassId} (ht2 : tys[2]? = some (cZ, .boolean)) {n a : Nat} {gf gt gw : Nat → Int32} {F T : Nat → Nat} {C K : Nat → Int64} (hMS : MS b cI cJ cZ σ n a gf gt gw F T C K) {k : Nat} {wt : Int32} (hk : k < a) (hw1 : ¬ wt < 1) (hw9 : ¬ 9 < wt) : zM l D kCl tys kNw b ky_M_weigh (kh_M_weigh :: zT) 10 360 0 0 [.ref (b + 54), .int (nI k), .int wt] N σ ((fun oc N' σ' => oc = .returned (some (.int (gw k))) ∧ N' = N ∧ MS b cI cJ cZ σ' n a gf gt (upd gw k wt) F T C K ∧ Fr 54 73 σ σ')) := by
  refine zM.of (by decide +kernel) rfl (Nat.le_of_ble_eq_true rfl) ?_
  refine z_pick (lv' := [(0, .ref (b + 54)), (1, .int (nI k)), (2, .int wt)]) [0, 1, 2] rfl ?_
  obtain ⟨⟨th, fa, ls, rm, hM⟩, h58, h59, ⟨g60, h60⟩, ⟨g61, h61⟩, ⟨g62, h62⟩, ⟨g63, h63⟩, ⟨g64, h64⟩, ⟨g65, h65⟩, ⟨g66, h66⟩, ⟨g67, h67⟩, ⟨g68, h68⟩, ⟨g69, h69⟩, ⟨g70, h70⟩, ⟨g71, h71⟩, ⟨g72, h72⟩, ⟨g73, h73⟩⟩ := hMS
  have hn := hM.hn
  have ha := hM.ha
  refine z_aload_n kd_M_weigh_0 0 rfl ?_
  refine z_iconst (v := 0) kd_M_weigh_1 (by decide) ?_
  refine z_putE (fs' := [_, _, _, _, _, _, _, _, _, _, _, _, _, _, _, _, _, _, _, _, _, _, _, _, _]) kd_M_weigh_2 (kp_M_69 _) hM.h1 (Nat.le_of_ble_eq_true rfl) rfl rfl rfl ?_
  refine z_upd (fun σ_1 x54_1 q_1 => ?_)
  have x58_1 := (q_1 58 (by omega)).trans h58
  have x59_1 := (q_1 59 (by omega)).trans h59
  have x60_1 := (q_1 60 (by omega)).trans h60
  have x61_1 := (q_1 61 (by omega)).trans h61
  have x62_1 := (q_1 62 (by omega)).trans h62
  have x63_1 := (q_1 63 (by omega)).trans h63
  have x64_1 := (q_1 64 (by omega)).trans h64
  have x65_1 := (q_1 65 (by omega)).trans h65
  have x66_1 := (q_1 66 (by omega)).trans h66
  have x67_1 := (q_1 67 (by omega)).trans h67
  have x68_1 := (q_1 68 (by omega)).trans h68
  have x69_1 := (q_1 69 (by omega)).trans h69
  have x70_1 := (q_1 70 (by omega)).trans h70
  have x71_1 := (q_1 71 (by omega)).trans h71
  have x72_1 := (q_1 72 (by omega)).trans h72
  have x73_1 := (q_1 73 (by omega)).trans h73
  have hM_1 := hM.put x54_1 q_1
  refine z_iload_n kd_M_weigh_5 1 rfl ?_
  refine z_if_lt (tgt := 28) kd_M_weigh_6 (by decide) (fun c6 => ?_) (fun c6 => ?_)
  · exact absurd c6 (nI_pos (by omega))
  · refine z_iload_n kd_M_weigh_9 1 rfl ?_
    refine z_aload_n kd_M_weigh_10 0 rfl ?_
    refine z_get kd_M_weigh_11 (kf_M_80 _) hM_1.h1 rfl ?_
    refine z_icmp_ge (tgt := 28) kd_M_weigh_14 (by decide) (fun c14 => ?_) (fun c14 => ?_)
    · exact absurd c14 (nI_ge hk (by omega))
    · refine z_iload_n kd_M_weigh_17 2 rfl ?_
      refine z_iconst (v := 1) kd_M_weigh_18 (by decide) ?_
      refine z_icmp_lt (tgt := 28) kd_M_weigh_19 (by decide) (fun c19 => ?_) (fun c19 => ?_)
      · exact absurd c19 hw1
      · refine z_iload_n kd_M_weigh_22 2 rfl ?_
        refine z_bipush (v := 9) kd_M_weigh_23 (by decide +kernel) ?_
        refine z_icmp_le (tgt := 30) kd_M_weigh_25 (by decide) (fun c25 => ?_) (fun c25 => ?_)
        · refine z_aload_n kd_M_weigh_30 0 rfl ?_
          refine z_get kd_M_weigh_31 (kf_M_16 _) hM_1.h1 rfl ?_
          refine z_iload_n kd_M_weigh_34 1 rfl ?_
          refine z_ialdN (t0 := 0) kd_M_weigh_35 (by assumption) hM_1.h4 (by omega) (by decide) ?_
          refine z_istore_n (lv' := [(3, .int _), (0, .ref (b + 54)), (1, .int _), (2, .int _)]) kd_M_weigh_36 (by decide) rfl ?_
          refine z_aload_n kd_M_weigh_37 1 rfl ?_
          refine z_get kd_M_weigh_38 (kf_M_16 _) hM_1.h1 rfl ?_
          refine z_iload_n kd_M_weigh_41 2 rfl ?_
          refine z_iload_n kd_M_weigh_42 3 rfl ?_
          refine z_iastN (t0 := 0) kd_M_weigh_43 (by assumption) hM_1.h4 (by omega) (by decide) ?_
          refine z_upd (fun σ_2 x57_2 q_2 => ?_)
          have x58_2 := (q_2 58 (by omega)).trans x58_1
          have x59_2 := (q_2 59 (by omega)).trans x59_1
          have x60_2 := (q_2 60 (by omega)).trans x60_1
          have x61_2 := (q_2 61 (by omega)).trans x61_1
          have x62_2 := (q_2 62 (by omega)).trans x62_1
          have x63_2 := (q_2 63 (by omega)).trans x63_1
          have x64_2 := (q_2 64 (by omega)).trans x64_1
          have x65_2 := (q_2 65 (by omega)).trans x65_1
          have x66_2 := (q_2 66 (by omega)).trans x66_1
          have x67_2 := (q_2 67 (by omega)).trans x67_1
          have x68_2 := (q_2 68 (by omega)).trans x68_1
          have x69_2 := (q_2 69 (by omega)).trans x69_1
          have x70_2 := (q_2 70 (by omega)).trans x70_1
          have x71_2 := (q_2 71 (by omega)).trans x71_1
          have x72_2 := (q_2 72 (by omega)).trans x72_1
          have x73_2 := (q_2 73 (by omega)).trans x73_1
          have x54_2 := (q_2 54 (by omega)).trans hM_1.h1
          have x55_2 := (q_2 55 (by omega)).trans hM_1.h2
          have x56_2 := (q_2 56 (by omega)).trans hM_1.h3
          refine z_iload_n kd_M_weigh_44 0 rfl ?_
          exact z_iret kd_M_weigh_45 rfl (Nat.le_of_ble_eq_true rfl) (Nat.le_of_ble_eq_true rfl) ⟨rfl, rfl, ⟨⟨_, _, _, _, ⟨x54_2, x55_2, x56_2, x57_2, hn, ha, hM.hft⟩⟩, x58_2, x59_2, ⟨_, x60_2⟩, ⟨_, x61_2⟩, ⟨_, x62_2⟩, ⟨_, x63_2⟩, ⟨_, x64_2⟩, ⟨_, x65_2⟩, ⟨_, x66_2⟩, ⟨_, x67_2⟩, ⟨_, x68_2⟩, ⟨_, x69_2⟩, ⟨_, x70_2⟩, ⟨_, x71_2⟩, ⟨_, x72_2⟩, ⟨_, x73_2⟩⟩, (Fr.tr (Fr.tr Fr.rf (q_1.wide (by omega) (by omega))) (q_2.wide (by omega) (by omega)))⟩
        · exact absurd (Int32.not_lt.mp hw9) c25
set_option maxHeartbeats 4000000 in
set_option maxRecDepth 100000 in
theorem c_M_dropF {l : Launch} {D : va_G} {tys : List (ClassId × FieldType)} {b N : Nat} {σ : Nat → Option va_E} {cI cJ cA : ClassId} (ht0 : tys[0]? = some (cI, .int)) (ht1 : tys[1]? = some (cJ, .long)) (ht3 : tys[3]? = some (cA, .array .long)) {cZ : ClassId} (ht2 : tys[2]? = some (cZ, .boolean)) {n a : Nat} {gf gt gw : Nat → Int32} {F T : Nat → Nat} {C K : Nat → Int64} (hMS : MS b cI cJ cZ σ n a gf gt gw F T C K) (h0 : a = 0) : zM l D kCl tys kNw b ky_M_drop (kh_M_drop :: zT) 10 360 0 0 [.ref (b + 54)] N σ ((fun oc N' σ' => oc = .returned (some (.int 0)) ∧ N' = N ∧ MS b cI cJ cZ σ' n a gf gt gw F T C K ∧ Fr 54 73 σ σ')) := by
  refine zM.of (by decide +kernel) rfl (Nat.le_of_ble_eq_true rfl) ?_
  refine z_pick (lv' := [(0, .ref (b + 54))]) [0] rfl ?_
  obtain ⟨⟨th, fa, ls, rm, hM⟩, h58, h59, ⟨g60, h60⟩, ⟨g61, h61⟩, ⟨g62, h62⟩, ⟨g63, h63⟩, ⟨g64, h64⟩, ⟨g65, h65⟩, ⟨g66, h66⟩, ⟨g67, h67⟩, ⟨g68, h68⟩, ⟨g69, h69⟩, ⟨g70, h70⟩, ⟨g71, h71⟩, ⟨g72, h72⟩, ⟨g73, h73⟩⟩ := hMS
  have hn := hM.hn
  have ha := hM.ha
  refine z_aload_n kd_M_drop_0 0 rfl ?_
  refine z_iconst (v := 0) kd_M_drop_1 (by decide) ?_
  refine z_putE (fs' := [_, _, _, _, _, _, _, _, _, _, _, _, _, _, _, _, _, _, _, _, _, _, _, _, _]) kd_M_drop_2 (kp_M_69 _) hM.h1 (Nat.le_of_ble_eq_true rfl) rfl rfl rfl ?_
  refine z_upd (fun σ_1 x54_1 q_1 => ?_)
  have x58_1 := (q_1 58 (by omega)).trans h58
  have x59_1 := (q_1 59 (by omega)).trans h59
  have x60_1 := (q_1 60 (by omega)).trans h60
  have x61_1 := (q_1 61 (by omega)).trans h61
  have x62_1 := (q_1 62 (by omega)).trans h62
  have x63_1 := (q_1 63 (by omega)).trans h63
  have x64_1 := (q_1 64 (by omega)).trans h64
  have x65_1 := (q_1 65 (by omega)).trans h65
  have x66_1 := (q_1 66 (by omega)).trans h66
  have x67_1 := (q_1 67 (by omega)).trans h67
  have x68_1 := (q_1 68 (by omega)).trans h68
  have x69_1 := (q_1 69 (by omega)).trans h69
  have x70_1 := (q_1 70 (by omega)).trans h70
  have x71_1 := (q_1 71 (by omega)).trans h71
  have x72_1 := (q_1 72 (by omega)).trans h72
  have x73_1 := (q_1 73 (by omega)).trans h73
  have hM_1 := hM.put x54_1 q_1
  refine z_aload_n kd_M_drop_5 0 rfl ?_
  refine z_get kd_M_drop_6 (kf_M_80 _) hM_1.h1 rfl ?_
  refine z_if_ne (tgt := 14) kd_M_drop_9 (by decide) (fun c9 => ?_) (fun c9 => ?_)
  · exact absurd (by rw [h0]; rfl) c9
  · refine z_iconst (v := 0) kd_M_drop_12 (by decide) ?_
    exact z_zret kd_M_drop_13 rfl rfl (Nat.le_of_ble_eq_true rfl) (Nat.le_of_ble_eq_true rfl) ⟨rfl, rfl, ⟨⟨_, _, _, _, hM_1⟩, x58_1, x59_1, ⟨_, x60_1⟩, ⟨_, x61_1⟩, ⟨_, x62_1⟩, ⟨_, x63_1⟩, ⟨_, x64_1⟩, ⟨_, x65_1⟩, ⟨_, x66_1⟩, ⟨_, x67_1⟩, ⟨_, x68_1⟩, ⟨_, x69_1⟩, ⟨_, x70_1⟩, ⟨_, x71_1⟩, ⟨_, x72_1⟩, ⟨_, x73_1⟩⟩, (Fr.tr Fr.rf (q_1.wide (by omega) (by omega)))⟩
set_option maxHeartbeats 4000000 in
set_option maxRecDepth 100000 in
theorem c_M_dropS {l : Launch} {D : va_G} {tys : List (ClassId × FieldType)} {b N : Nat} {σ : Nat → Option va_E} {cI cJ cA : ClassId} (ht0 : tys[0]? = some (cI, .int)) (ht1 : tys[1]? = some (cJ, .long)) (ht3 : tys[3]? = some (cA, .array .long)) {cZ : ClassId} (ht2 : tys[2]? = some (cZ, .boolean)) {n a : Nat} {gf gt gw : Nat → Int32} {F T : Nat → Nat} {C K : Nat → Int64} (hMS : MS b cI cJ cZ σ n a gf gt gw F T C K) (h0 : 0 < a) : zM l D kCl tys kNw b ky_M_drop (kh_M_drop :: zT) 10 360 0 0 [.ref (b + 54)] N σ ((fun oc N' σ' => oc = .returned (some (.int 1)) ∧ N' = N ∧ MS b cI cJ cZ σ' n (a - 1) gf gt gw F T C K ∧ Fr 54 73 σ σ')) := by
  refine zM.of (by decide +kernel) rfl (Nat.le_of_ble_eq_true rfl) ?_
  refine z_pick (lv' := [(0, .ref (b + 54))]) [0] rfl ?_
  obtain ⟨⟨th, fa, ls, rm, hM⟩, h58, h59, ⟨g60, h60⟩, ⟨g61, h61⟩, ⟨g62, h62⟩, ⟨g63, h63⟩, ⟨g64, h64⟩, ⟨g65, h65⟩, ⟨g66, h66⟩, ⟨g67, h67⟩, ⟨g68, h68⟩, ⟨g69, h69⟩, ⟨g70, h70⟩, ⟨g71, h71⟩, ⟨g72, h72⟩, ⟨g73, h73⟩⟩ := hMS
  have hn := hM.hn
  have ha := hM.ha
  refine z_aload_n kd_M_drop_0 0 rfl ?_
  refine z_iconst (v := 0) kd_M_drop_1 (by decide) ?_
  refine z_putE (fs' := [_, _, _, _, _, _, _, _, _, _, _, _, _, _, _, _, _, _, _, _, _, _, _, _, _]) kd_M_drop_2 (kp_M_69 _) hM.h1 (Nat.le_of_ble_eq_true rfl) rfl rfl rfl ?_
  refine z_upd (fun σ_1 x54_1 q_1 => ?_)
  have x58_1 := (q_1 58 (by omega)).trans h58
  have x59_1 := (q_1 59 (by omega)).trans h59
  have x60_1 := (q_1 60 (by omega)).trans h60
  have x61_1 := (q_1 61 (by omega)).trans h61
  have x62_1 := (q_1 62 (by omega)).trans h62
  have x63_1 := (q_1 63 (by omega)).trans h63
  have x64_1 := (q_1 64 (by omega)).trans h64
  have x65_1 := (q_1 65 (by omega)).trans h65
  have x66_1 := (q_1 66 (by omega)).trans h66
  have x67_1 := (q_1 67 (by omega)).trans h67
  have x68_1 := (q_1 68 (by omega)).trans h68
  have x69_1 := (q_1 69 (by omega)).trans h69
  have x70_1 := (q_1 70 (by omega)).trans h70
  have x71_1 := (q_1 71 (by omega)).trans h71
  have x72_1 := (q_1 72 (by omega)).trans h72
  have x73_1 := (q_1 73 (by omega)).trans h73
  have hM_1 := hM.put x54_1 q_1
  refine z_aload_n kd_M_drop_5 0 rfl ?_
  refine z_get kd_M_drop_6 (kf_M_80 _) hM_1.h1 rfl ?_
  refine z_if_ne (tgt := 14) kd_M_drop_9 (by decide) (fun c9 => ?_) (fun c9 => ?_)
  · refine z_aload_n kd_M_drop_14 0 rfl ?_
    refine z_dup kd_M_drop_15 rfl ?_
    refine z_get kd_M_drop_16 (kf_M_80 _) hM_1.h1 rfl ?_
    refine z_iconst (v := 1) kd_M_drop_19 (by decide) ?_
    refine z_isub kd_M_drop_20 ?_
    refine z_topi (pk_sub (a := a) (b := 1) (by omega)) ?_
    refine z_putE (fs' := [_, _, _, _, _, _, _, _, _, _, _, _, _, _, _, _, _, _, _, _, _, _, _, _, _]) kd_M_drop_21 (kp_M_80 _) hM_1.h1 (Nat.le_of_ble_eq_true rfl) rfl rfl rfl ?_
    refine z_upd (fun σ_2 x54_2 q_2 => ?_)
    have x58_2 := (q_2 58 (by omega)).trans x58_1
    have x59_2 := (q_2 59 (by omega)).trans x59_1
    have x60_2 := (q_2 60 (by omega)).trans x60_1
    have x61_2 := (q_2 61 (by omega)).trans x61_1
    have x62_2 := (q_2 62 (by omega)).trans x62_1
    have x63_2 := (q_2 63 (by omega)).trans x63_1
    have x64_2 := (q_2 64 (by omega)).trans x64_1
    have x65_2 := (q_2 65 (by omega)).trans x65_1
    have x66_2 := (q_2 66 (by omega)).trans x66_1
    have x67_2 := (q_2 67 (by omega)).trans x67_1
    have x68_2 := (q_2 68 (by omega)).trans x68_1
    have x69_2 := (q_2 69 (by omega)).trans x69_1
    have x70_2 := (q_2 70 (by omega)).trans x70_1
    have x71_2 := (q_2 71 (by omega)).trans x71_1
    have x72_2 := (q_2 72 (by omega)).trans x72_1
    have x73_2 := (q_2 73 (by omega)).trans x73_1
    have x55_2 := (q_2 55 (by omega)).trans hM_1.h2
    have x56_2 := (q_2 56 (by omega)).trans hM_1.h3
    have x57_2 := (q_2 57 (by omega)).trans hM_1.h4
    refine z_iconst (v := 1) kd_M_drop_24 (by decide) ?_
    exact z_zret kd_M_drop_25 rfl rfl (Nat.le_of_ble_eq_true rfl) (Nat.le_of_ble_eq_true rfl) ⟨rfl, rfl, ⟨⟨_, _, _, _, ⟨x54_2, x55_2, x56_2, x57_2, hn, (by omega), (fun k hk => hM.hft k (by omega))⟩⟩, x58_2, x59_2, ⟨_, x60_2⟩, ⟨_, x61_2⟩, ⟨_, x62_2⟩, ⟨_, x63_2⟩, ⟨_, x64_2⟩, ⟨_, x65_2⟩, ⟨_, x66_2⟩, ⟨_, x67_2⟩, ⟨_, x68_2⟩, ⟨_, x69_2⟩, ⟨_, x70_2⟩, ⟨_, x71_2⟩, ⟨_, x72_2⟩, ⟨_, x73_2⟩⟩, (Fr.tr (Fr.tr Fr.rf (q_1.wide (by omega) (by omega))) (q_2.wide (by omega) (by omega)))⟩
  · exact absurd c9 (nI_ne0 h0 (by omega))
set_option maxHeartbeats 4000000 in
set_option maxRecDepth 100000 in
theorem c_M_clear {l : Launch} {D : va_G} {tys : List (ClassId × FieldType)} {b N : Nat} {σ : Nat → Option va_E} {cI cJ cA : ClassId} (ht0 : tys[0]? = some (cI, .int)) (ht1 : tys[1]? = some (cJ, .long)) (ht3 : tys[3]? = some (cA, .array .long)) {cZ : ClassId} (ht2 : tys[2]? = some (cZ, .boolean)) {n a : Nat} {gf gt gw : Nat → Int32} {F T : Nat → Nat} {C K : Nat → Int64} (hMS : MS b cI cJ cZ σ n a gf gt gw F T C K) : zM l D kCl tys kNw b ky_M_clear (kh_M_clear :: zT) 10 360 0 0 [.ref (b + 54)] N σ ((fun oc N' σ' => oc = .returned (none) ∧ N' = N ∧ MS b cI cJ cZ σ' 0 0 gf gt gw F T C K ∧ Fr 54 73 σ σ')) := by
  refine zM.of (by decide +kernel) rfl (Nat.le_of_ble_eq_true rfl) ?_
  refine z_pick (lv' := [(0, .ref (b + 54))]) [0] rfl ?_
  obtain ⟨⟨th, fa, ls, rm, hM⟩, h58, h59, ⟨g60, h60⟩, ⟨g61, h61⟩, ⟨g62, h62⟩, ⟨g63, h63⟩, ⟨g64, h64⟩, ⟨g65, h65⟩, ⟨g66, h66⟩, ⟨g67, h67⟩, ⟨g68, h68⟩, ⟨g69, h69⟩, ⟨g70, h70⟩, ⟨g71, h71⟩, ⟨g72, h72⟩, ⟨g73, h73⟩⟩ := hMS
  have hn := hM.hn
  have ha := hM.ha
  refine z_aload_n kd_M_clear_0 0 rfl ?_
  refine z_iconst (v := 0) kd_M_clear_1 (by decide) ?_
  refine z_putE (fs' := [_, _, _, _, _, _, _, _, _, _, _, _, _, _, _, _, _, _, _, _, _, _, _, _, _]) kd_M_clear_2 (kp_M_69 _) hM.h1 (Nat.le_of_ble_eq_true rfl) rfl rfl rfl ?_
  refine z_upd (fun σ_1 x54_1 q_1 => ?_)
  have x58_1 := (q_1 58 (by omega)).trans h58
  have x59_1 := (q_1 59 (by omega)).trans h59
  have x60_1 := (q_1 60 (by omega)).trans h60
  have x61_1 := (q_1 61 (by omega)).trans h61
  have x62_1 := (q_1 62 (by omega)).trans h62
  have x63_1 := (q_1 63 (by omega)).trans h63
  have x64_1 := (q_1 64 (by omega)).trans h64
  have x65_1 := (q_1 65 (by omega)).trans h65
  have x66_1 := (q_1 66 (by omega)).trans h66
  have x67_1 := (q_1 67 (by omega)).trans h67
  have x68_1 := (q_1 68 (by omega)).trans h68
  have x69_1 := (q_1 69 (by omega)).trans h69
  have x70_1 := (q_1 70 (by omega)).trans h70
  have x71_1 := (q_1 71 (by omega)).trans h71
  have x72_1 := (q_1 72 (by omega)).trans h72
  have x73_1 := (q_1 73 (by omega)).trans h73
  have hM_1 := hM.put x54_1 q_1
  refine z_aload_n kd_M_clear_5 0 rfl ?_
  refine z_iconst (v := 0) kd_M_clear_6 (by decide) ?_
  refine z_putE (fs' := [_, _, _, _, _, _, _, _, _, _, _, _, _, _, _, _, _, _, _, _, _, _, _, _, _]) kd_M_clear_7 (kp_M_73 _) hM_1.h1 (Nat.le_of_ble_eq_true rfl) rfl rfl rfl ?_
  refine z_upd (fun σ_2 x54_2 q_2 => ?_)
  have x58_2 := (q_2 58 (by omega)).trans x58_1
  have x59_2 := (q_2 59 (by omega)).trans x59_1
  have x60_2 := (q_2 60 (by omega)).trans x60_1
  have x61_2 := (q_2 61 (by omega)).trans x61_1
  have x62_2 := (q_2 62 (by omega)).trans x62_1
  have x63_2 := (q_2 63 (by omega)).trans x63_1
  have x64_2 := (q_2 64 (by omega)).trans x64_1
  have x65_2 := (q_2 65 (by omega)).trans x65_1
  have x66_2 := (q_2 66 (by omega)).trans x66_1
  have x67_2 := (q_2 67 (by omega)).trans x67_1
  have x68_2 := (q_2 68 (by omega)).trans x68_1
  have x69_2 := (q_2 69 (by omega)).trans x69_1
  have x70_2 := (q_2 70 (by omega)).trans x70_1
  have x71_2 := (q_2 71 (by omega)).trans x71_1
  have x72_2 := (q_2 72 (by omega)).trans x72_1
  have x73_2 := (q_2 73 (by omega)).trans x73_1
  have x55_2 := (q_2 55 (by omega)).trans hM_1.h2
  have x56_2 := (q_2 56 (by omega)).trans hM_1.h3
  have x57_2 := (q_2 57 (by omega)).trans hM_1.h4
  refine z_aload_n kd_M_clear_10 0 rfl ?_
  refine z_iconst (v := 0) kd_M_clear_11 (by decide) ?_
  refine z_putE (fs' := [_, _, _, _, _, _, _, _, _, _, _, _, _, _, _, _, _, _, _, _, _, _, _, _, _]) kd_M_clear_12 (kp_M_80 _) x54_2 (Nat.le_of_ble_eq_true rfl) rfl rfl rfl ?_
  refine z_upd (fun σ_3 x54_3 q_3 => ?_)
  have x58_3 := (q_3 58 (by omega)).trans x58_2
  have x59_3 := (q_3 59 (by omega)).trans x59_2
  have x60_3 := (q_3 60 (by omega)).trans x60_2
  have x61_3 := (q_3 61 (by omega)).trans x61_2
  have x62_3 := (q_3 62 (by omega)).trans x62_2
  have x63_3 := (q_3 63 (by omega)).trans x63_2
  have x64_3 := (q_3 64 (by omega)).trans x64_2
  have x65_3 := (q_3 65 (by omega)).trans x65_2
  have x66_3 := (q_3 66 (by omega)).trans x66_2
  have x67_3 := (q_3 67 (by omega)).trans x67_2
  have x68_3 := (q_3 68 (by omega)).trans x68_2
  have x69_3 := (q_3 69 (by omega)).trans x69_2
  have x70_3 := (q_3 70 (by omega)).trans x70_2
  have x71_3 := (q_3 71 (by omega)).trans x71_2
  have x72_3 := (q_3 72 (by omega)).trans x72_2
  have x73_3 := (q_3 73 (by omega)).trans x73_2
  have x55_3 := (q_3 55 (by omega)).trans x55_2
  have x56_3 := (q_3 56 (by omega)).trans x56_2
  have x57_3 := (q_3 57 (by omega)).trans x57_2
  exact z_vret kd_M_clear_15 rfl (Nat.le_of_ble_eq_true rfl) (Nat.le_of_ble_eq_true rfl) ⟨rfl, rfl, ⟨⟨_, _, _, _, ⟨x54_3, x55_3, x56_3, x57_3, (by decide), (by decide), (fun k hk => absurd hk (Nat.not_lt_zero k))⟩⟩, x58_3, x59_3, ⟨_, x60_3⟩, ⟨_, x61_3⟩, ⟨_, x62_3⟩, ⟨_, x63_3⟩, ⟨_, x64_3⟩, ⟨_, x65_3⟩, ⟨_, x66_3⟩, ⟨_, x67_3⟩, ⟨_, x68_3⟩, ⟨_, x69_3⟩, ⟨_, x70_3⟩, ⟨_, x71_3⟩, ⟨_, x72_3⟩, ⟨_, x73_3⟩⟩, (Fr.tr (Fr.tr (Fr.tr Fr.rf (q_1.wide (by omega) (by omega))) (q_2.wide (by omega) (by omega))) (q_3.wide (by omega) (by omega)))⟩
set_option maxHeartbeats 4000000 in
set_option maxRecDepth 100000 in
theorem c_M_chips0 {l : Launch} {D : va_G} {tys : List (ClassId × FieldType)} {b N : Nat} {σ : Nat → Option va_E} {cI cJ cA : ClassId} (ht0 : tys[0]? = some (cI, .int)) (ht1 : tys[1]? = some (cJ, .long)) (ht3 : tys[3]? = some (cA, .array .long)) {cZ : ClassId} (ht2 : tys[2]? = some (cZ, .boolean)) {n a : Nat} {gf gt gw : Nat → Int32} {F T : Nat → Nat} {C K : Nat → Int64} (hMS : MS b cI cJ cZ σ n a gf gt gw F T C K) {x v : Int32} (hz : zIn x (nI n) = false) : zM l D kCl tys kNw b ky_M_chips (kh_M_chips :: zT) 10 360 0 0 [.ref (b + 54), .int x, .int v] N σ ((fun oc N' σ' => oc = .returned (some (.long (-1))) ∧ N' = N ∧ MS b cI cJ cZ σ' n a gf gt gw F T C K ∧ Fr 54 73 σ σ')) := by
  refine zM.of (by decide +kernel) rfl (Nat.le_of_ble_eq_true rfl) ?_
  refine z_pick (lv' := [(0, .ref (b + 54)), (1, .int x), (2, .int v)]) [0, 1, 2] rfl ?_
  obtain ⟨⟨th, fa, ls, rm, hM⟩, h58, h59, ⟨g60, h60⟩, ⟨g61, h61⟩, ⟨g62, h62⟩, ⟨g63, h63⟩, ⟨g64, h64⟩, ⟨g65, h65⟩, ⟨g66, h66⟩, ⟨g67, h67⟩, ⟨g68, h68⟩, ⟨g69, h69⟩, ⟨g70, h70⟩, ⟨g71, h71⟩, ⟨g72, h72⟩, ⟨g73, h73⟩⟩ := hMS
  have hn := hM.hn
  have ha := hM.ha
  refine z_aload_n kd_M_chips_0 0 rfl ?_
  refine z_iconst (v := 0) kd_M_chips_1 (by decide) ?_
  refine z_putE (fs' := [_, _, _, _, _, _, _, _, _, _, _, _, _, _, _, _, _, _, _, _, _, _, _, _, _]) kd_M_chips_2 (kp_M_69 _) hM.h1 (Nat.le_of_ble_eq_true rfl) rfl rfl rfl ?_
  refine z_upd (fun σ_1 x54_1 q_1 => ?_)
  have x58_1 := (q_1 58 (by omega)).trans h58
  have x59_1 := (q_1 59 (by omega)).trans h59
  have x60_1 := (q_1 60 (by omega)).trans h60
  have x61_1 := (q_1 61 (by omega)).trans h61
  have x62_1 := (q_1 62 (by omega)).trans h62
  have x63_1 := (q_1 63 (by omega)).trans h63
  have x64_1 := (q_1 64 (by omega)).trans h64
  have x65_1 := (q_1 65 (by omega)).trans h65
  have x66_1 := (q_1 66 (by omega)).trans h66
  have x67_1 := (q_1 67 (by omega)).trans h67
  have x68_1 := (q_1 68 (by omega)).trans h68
  have x69_1 := (q_1 69 (by omega)).trans h69
  have x70_1 := (q_1 70 (by omega)).trans h70
  have x71_1 := (q_1 71 (by omega)).trans h71
  have x72_1 := (q_1 72 (by omega)).trans h72
  have x73_1 := (q_1 73 (by omega)).trans h73
  have hM_1 := hM.put x54_1 q_1
  refine z_aload_n kd_M_chips_5 0 rfl ?_
  refine z_iload_n kd_M_chips_6 1 rfl ?_
  refine z_V1 (a := 54) (As := [_]) kd_M_chips_7 (kg_M_76 _) hM_1.h1 kc_M (c_M_isNode ht0 ht1 ht3 hM_1) rfl rfl (Nat.le_of_ble_eq_true rfl) ⟨Nat.le_of_ble_eq_true rfl, Nat.le_of_ble_eq_true rfl⟩ ⟨Nat.le_of_ble_eq_true rfl, Nat.le_of_ble_eq_true rfl⟩ ?_
  refine z_topi (show zB (zIn x (nI n)) = 0 by rw [hz]; rfl) ?_
  refine z_if_eq (tgt := 24) kd_M_chips_10 (by decide) (fun c10 => ?_) (fun c10 => absurd c10 (by decide))
  refine z_ldc2 (v := -1) kd_M_chips_24 (List.mem_cons_of_mem _ (zin 918 rfl rfl)) ?_
  exact z_lret kd_M_chips_27 rfl (Nat.le_of_ble_eq_true rfl) (Nat.le_of_ble_eq_true rfl) ⟨rfl, rfl, ⟨⟨_, _, _, _, hM_1⟩, x58_1, x59_1, ⟨_, x60_1⟩, ⟨_, x61_1⟩, ⟨_, x62_1⟩, ⟨_, x63_1⟩, ⟨_, x64_1⟩, ⟨_, x65_1⟩, ⟨_, x66_1⟩, ⟨_, x67_1⟩, ⟨_, x68_1⟩, ⟨_, x69_1⟩, ⟨_, x70_1⟩, ⟨_, x71_1⟩, ⟨_, x72_1⟩, ⟨_, x73_1⟩⟩, (Fr.tr Fr.rf (q_1.wide (by omega) (by omega)))⟩
set_option maxHeartbeats 4000000 in
set_option maxRecDepth 100000 in
theorem c_M_chips1 {l : Launch} {D : va_G} {tys : List (ClassId × FieldType)} {b N : Nat} {σ : Nat → Option va_E} {cI cJ cA : ClassId} (ht0 : tys[0]? = some (cI, .int)) (ht1 : tys[1]? = some (cJ, .long)) (ht3 : tys[3]? = some (cA, .array .long)) {cZ : ClassId} (ht2 : tys[2]? = some (cZ, .boolean)) {n a : Nat} {gf gt gw : Nat → Int32} {F T : Nat → Nat} {C K : Nat → Int64} (hMS : MS b cI cJ cZ σ n a gf gt gw F T C K) {x v : Int32} (hz : zIn x (nI n) = true) (hv : v < 0 ∨ 200 < v) : zM l D kCl tys kNw b ky_M_chips (kh_M_chips :: zT) 10 360 0 0 [.ref (b + 54), .int x, .int v] N σ ((fun oc N' σ' => oc = .returned (some (.long (-1))) ∧ N' = N ∧ MS b cI cJ cZ σ' n a gf gt gw F T C K ∧ Fr 54 73 σ σ')) := by
  refine zM.of (by decide +kernel) rfl (Nat.le_of_ble_eq_true rfl) ?_
  refine z_pick (lv' := [(0, .ref (b + 54)), (1, .int x), (2, .int v)]) [0, 1, 2] rfl ?_
  obtain ⟨⟨th, fa, ls, rm, hM⟩, h58, h59, ⟨g60, h60⟩, ⟨g61, h61⟩, ⟨g62, h62⟩, ⟨g63, h63⟩, ⟨g64, h64⟩, ⟨g65, h65⟩, ⟨g66, h66⟩, ⟨g67, h67⟩, ⟨g68, h68⟩, ⟨g69, h69⟩, ⟨g70, h70⟩, ⟨g71, h71⟩, ⟨g72, h72⟩, ⟨g73, h73⟩⟩ := hMS
  have hn := hM.hn
  have ha := hM.ha
  refine z_aload_n kd_M_chips_0 0 rfl ?_
  refine z_iconst (v := 0) kd_M_chips_1 (by decide) ?_
  refine z_putE (fs' := [_, _, _, _, _, _, _, _, _, _, _, _, _, _, _, _, _, _, _, _, _, _, _, _, _]) kd_M_chips_2 (kp_M_69 _) hM.h1 (Nat.le_of_ble_eq_true rfl) rfl rfl rfl ?_
  refine z_upd (fun σ_1 x54_1 q_1 => ?_)
  have x58_1 := (q_1 58 (by omega)).trans h58
  have x59_1 := (q_1 59 (by omega)).trans h59
  have x60_1 := (q_1 60 (by omega)).trans h60
  have x61_1 := (q_1 61 (by omega)).trans h61
  have x62_1 := (q_1 62 (by omega)).trans h62
  have x63_1 := (q_1 63 (by omega)).trans h63
  have x64_1 := (q_1 64 (by omega)).trans h64
  have x65_1 := (q_1 65 (by omega)).trans h65
  have x66_1 := (q_1 66 (by omega)).trans h66
  have x67_1 := (q_1 67 (by omega)).trans h67
  have x68_1 := (q_1 68 (by omega)).trans h68
  have x69_1 := (q_1 69 (by omega)).trans h69
  have x70_1 := (q_1 70 (by omega)).trans h70
  have x71_1 := (q_1 71 (by omega)).trans h71
  have x72_1 := (q_1 72 (by omega)).trans h72
  have x73_1 := (q_1 73 (by omega)).trans h73
  have hM_1 := hM.put x54_1 q_1
  refine z_aload_n kd_M_chips_5 0 rfl ?_
  refine z_iload_n kd_M_chips_6 1 rfl ?_
  refine z_V1 (a := 54) (As := [_]) kd_M_chips_7 (kg_M_76 _) hM_1.h1 kc_M (c_M_isNode ht0 ht1 ht3 hM_1) rfl rfl (Nat.le_of_ble_eq_true rfl) ⟨Nat.le_of_ble_eq_true rfl, Nat.le_of_ble_eq_true rfl⟩ ⟨Nat.le_of_ble_eq_true rfl, Nat.le_of_ble_eq_true rfl⟩ ?_
  refine z_topi (show zB (zIn x (nI n)) = 1 by rw [hz]; rfl) ?_
  refine z_if_eq (tgt := 24) kd_M_chips_10 (by decide) (fun c10 => absurd c10 (by decide)) (fun c10 => ?_)
  refine z_iload_n kd_M_chips_13 2 rfl ?_
  refine z_if_lt (tgt := 24) kd_M_chips_14 (by decide) (fun c14 => ?_) (fun c14 => ?_)
  · refine z_ldc2 (v := -1) kd_M_chips_24 (List.mem_cons_of_mem _ (zin 918 rfl rfl)) ?_
    exact z_lret kd_M_chips_27 rfl (Nat.le_of_ble_eq_true rfl) (Nat.le_of_ble_eq_true rfl) ⟨rfl, rfl, ⟨⟨_, _, _, _, hM_1⟩, x58_1, x59_1, ⟨_, x60_1⟩, ⟨_, x61_1⟩, ⟨_, x62_1⟩, ⟨_, x63_1⟩, ⟨_, x64_1⟩, ⟨_, x65_1⟩, ⟨_, x66_1⟩, ⟨_, x67_1⟩, ⟨_, x68_1⟩, ⟨_, x69_1⟩, ⟨_, x70_1⟩, ⟨_, x71_1⟩, ⟨_, x72_1⟩, ⟨_, x73_1⟩⟩, (Fr.tr Fr.rf (q_1.wide (by omega) (by omega)))⟩
  · refine z_iload_n kd_M_chips_17 2 rfl ?_
    refine z_sipush (v := 200) kd_M_chips_18 (by decide +kernel) ?_
    refine z_icmp_le (tgt := 28) kd_M_chips_21 (by decide) (fun c21 => ?_) (fun c21 => ?_)
    · exact absurd hv (fun z => by rcases z with z | z; exact absurd z c14; exact absurd z (Int32.not_lt.mpr c21))
    · refine z_ldc2 (v := -1) kd_M_chips_24 (List.mem_cons_of_mem _ (zin 918 rfl rfl)) ?_
      exact z_lret kd_M_chips_27 rfl (Nat.le_of_ble_eq_true rfl) (Nat.le_of_ble_eq_true rfl) ⟨rfl, rfl, ⟨⟨_, _, _, _, hM_1⟩, x58_1, x59_1, ⟨_, x60_1⟩, ⟨_, x61_1⟩, ⟨_, x62_1⟩, ⟨_, x63_1⟩, ⟨_, x64_1⟩, ⟨_, x65_1⟩, ⟨_, x66_1⟩, ⟨_, x67_1⟩, ⟨_, x68_1⟩, ⟨_, x69_1⟩, ⟨_, x70_1⟩, ⟨_, x71_1⟩, ⟨_, x72_1⟩, ⟨_, x73_1⟩⟩, (Fr.tr Fr.rf (q_1.wide (by omega) (by omega)))⟩
set_option maxHeartbeats 4000000 in
set_option maxRecDepth 100000 in
theorem c_M_chips2 {l : Launch} {D : va_G} {tys : List (ClassId × FieldType)} {b N : Nat} {σ : Nat → Option va_E} {cI cJ cA : ClassId} (ht0 : tys[0]? = some (cI, .int)) (ht1 : tys[1]? = some (cJ, .long)) (ht3 : tys[3]? = some (cA, .array .long)) {cZ : ClassId} (ht2 : tys[2]? = some (cZ, .boolean)) {n a : Nat} {gf gt gw : Nat → Int32} {F T : Nat → Nat} {C K : Nat → Int64} (hMS : MS b cI cJ cZ σ n a gf gt gw F T C K) {x : Nat} {v : Int32} (hx : x < n) (hz : zIn (nI x) (nI n) = true) (hv0 : ¬ v < 0) (hv2 : ¬ 200 < v) : zM l D kCl tys kNw b ky_M_chips (kh_M_chips :: zT) 10 360 0 0 [.ref (b + 54), .int (nI x), .int v] N σ ((fun oc N' σ' => oc = .returned (some (.long (C x))) ∧ N' = N ∧ MS b cI cJ cZ σ' n a gf gt gw F T (vp_updL C x v.toInt64) K ∧ Fr 54 73 σ σ')) := by
  refine zM.of (by decide +kernel) rfl (Nat.le_of_ble_eq_true rfl) ?_
  refine z_pick (lv' := [(0, .ref (b + 54)), (1, .int (nI x)), (2, .int v)]) [0, 1, 2] rfl ?_
  obtain ⟨⟨th, fa, ls, rm, hM⟩, h58, h59, ⟨g60, h60⟩, ⟨g61, h61⟩, ⟨g62, h62⟩, ⟨g63, h63⟩, ⟨g64, h64⟩, ⟨g65, h65⟩, ⟨g66, h66⟩, ⟨g67, h67⟩, ⟨g68, h68⟩, ⟨g69, h69⟩, ⟨g70, h70⟩, ⟨g71, h71⟩, ⟨g72, h72⟩, ⟨g73, h73⟩⟩ := hMS
  have hn := hM.hn
  have ha := hM.ha
  refine z_aload_n kd_M_chips_0 0 rfl ?_
  refine z_iconst (v := 0) kd_M_chips_1 (by decide) ?_
  refine z_putE (fs' := [_, _, _, _, _, _, _, _, _, _, _, _, _, _, _, _, _, _, _, _, _, _, _, _, _]) kd_M_chips_2 (kp_M_69 _) hM.h1 (Nat.le_of_ble_eq_true rfl) rfl rfl rfl ?_
  refine z_upd (fun σ_1 x54_1 q_1 => ?_)
  have x58_1 := (q_1 58 (by omega)).trans h58
  have x59_1 := (q_1 59 (by omega)).trans h59
  have x60_1 := (q_1 60 (by omega)).trans h60
  have x61_1 := (q_1 61 (by omega)).trans h61
  have x62_1 := (q_1 62 (by omega)).trans h62
  have x63_1 := (q_1 63 (by omega)).trans h63
  have x64_1 := (q_1 64 (by omega)).trans h64
  have x65_1 := (q_1 65 (by omega)).trans h65
  have x66_1 := (q_1 66 (by omega)).trans h66
  have x67_1 := (q_1 67 (by omega)).trans h67
  have x68_1 := (q_1 68 (by omega)).trans h68
  have x69_1 := (q_1 69 (by omega)).trans h69
  have x70_1 := (q_1 70 (by omega)).trans h70
  have x71_1 := (q_1 71 (by omega)).trans h71
  have x72_1 := (q_1 72 (by omega)).trans h72
  have x73_1 := (q_1 73 (by omega)).trans h73
  have hM_1 := hM.put x54_1 q_1
  refine z_aload_n kd_M_chips_5 0 rfl ?_
  refine z_iload_n kd_M_chips_6 1 rfl ?_
  refine z_V1 (a := 54) (As := [_]) kd_M_chips_7 (kg_M_76 _) hM_1.h1 kc_M (c_M_isNode ht0 ht1 ht3 hM_1) rfl rfl (Nat.le_of_ble_eq_true rfl) ⟨Nat.le_of_ble_eq_true rfl, Nat.le_of_ble_eq_true rfl⟩ ⟨Nat.le_of_ble_eq_true rfl, Nat.le_of_ble_eq_true rfl⟩ ?_
  refine z_topi (show zB (zIn (nI x) (nI n)) = 1 by rw [hz]; rfl) ?_
  refine z_if_eq (tgt := 24) kd_M_chips_10 (by decide) (fun c10 => absurd c10 (by decide)) (fun c10 => ?_)
  refine z_iload_n kd_M_chips_13 2 rfl ?_
  refine z_if_lt (tgt := 24) kd_M_chips_14 (by decide) (fun c14 => ?_) (fun c14 => ?_)
  · exact absurd c14 hv0
  · refine z_iload_n kd_M_chips_17 2 rfl ?_
    refine z_sipush (v := 200) kd_M_chips_18 (by decide +kernel) ?_
    refine z_icmp_le (tgt := 28) kd_M_chips_21 (by decide) (fun c21 => ?_) (fun c21 => ?_)
    · refine z_aload_n kd_M_chips_28 0 rfl ?_
      refine z_get kd_M_chips_29 (kf_M_19 _) hM_1.h1 rfl ?_
      refine z_iload_n kd_M_chips_32 1 rfl ?_
      refine z_laldN (t0 := 1) kd_M_chips_33 (by assumption) x58_1 (by omega) (by decide) ?_
      refine z_lstore_n (lv' := [(3, .long _), (0, .ref (b + 54)), (1, .int _), (2, .int _)]) kd_M_chips_34 (by decide) rfl ?_
      refine z_aload_n kd_M_chips_35 1 rfl ?_
      refine z_get kd_M_chips_36 (kf_M_19 _) hM_1.h1 rfl ?_
      refine z_iload_n kd_M_chips_39 2 rfl ?_
      refine z_iload_n kd_M_chips_40 3 rfl ?_
      refine z_i2l kd_M_chips_41 ?_
      refine z_lastN (t0 := 1) kd_M_chips_42 (by assumption) x58_1 (by omega) (by decide) ?_
      refine z_upd (fun σ_2 x58_2 q_2 => ?_)
      have x59_2 := (q_2 59 (by omega)).trans x59_1
      have x60_2 := (q_2 60 (by omega)).trans x60_1
      have x61_2 := (q_2 61 (by omega)).trans x61_1
      have x62_2 := (q_2 62 (by omega)).trans x62_1
      have x63_2 := (q_2 63 (by omega)).trans x63_1
      have x64_2 := (q_2 64 (by omega)).trans x64_1
      have x65_2 := (q_2 65 (by omega)).trans x65_1
      have x66_2 := (q_2 66 (by omega)).trans x66_1
      have x67_2 := (q_2 67 (by omega)).trans x67_1
      have x68_2 := (q_2 68 (by omega)).trans x68_1
      have x69_2 := (q_2 69 (by omega)).trans x69_1
      have x70_2 := (q_2 70 (by omega)).trans x70_1
      have x71_2 := (q_2 71 (by omega)).trans x71_1
      have x72_2 := (q_2 72 (by omega)).trans x72_1
      have x73_2 := (q_2 73 (by omega)).trans x73_1
      have hM_2 := hM_1.fr q_2 (by omega)
      refine z_lload_n kd_M_chips_43 0 rfl ?_
      exact z_lret kd_M_chips_44 rfl (Nat.le_of_ble_eq_true rfl) (Nat.le_of_ble_eq_true rfl) ⟨rfl, rfl, ⟨⟨_, _, _, _, hM_2⟩, x58_2, x59_2, ⟨_, x60_2⟩, ⟨_, x61_2⟩, ⟨_, x62_2⟩, ⟨_, x63_2⟩, ⟨_, x64_2⟩, ⟨_, x65_2⟩, ⟨_, x66_2⟩, ⟨_, x67_2⟩, ⟨_, x68_2⟩, ⟨_, x69_2⟩, ⟨_, x70_2⟩, ⟨_, x71_2⟩, ⟨_, x72_2⟩, ⟨_, x73_2⟩⟩, (Fr.tr (Fr.tr Fr.rf (q_1.wide (by omega) (by omega))) (q_2.wide (by omega) (by omega)))⟩
    · exact absurd (Int32.not_lt.mp hv2) c21
set_option maxHeartbeats 4000000 in
set_option maxRecDepth 100000 in
theorem c_M_level0 {l : Launch} {D : va_G} {tys : List (ClassId × FieldType)} {b N : Nat} {σ : Nat → Option va_E} {cI cJ cA : ClassId} (ht0 : tys[0]? = some (cI, .int)) (ht1 : tys[1]? = some (cJ, .long)) (ht3 : tys[3]? = some (cA, .array .long)) {cZ : ClassId} (ht2 : tys[2]? = some (cZ, .boolean)) {n a : Nat} {gf gt gw : Nat → Int32} {F T : Nat → Nat} {C K : Nat → Int64} (hMS : MS b cI cJ cZ σ n a gf gt gw F T C K) {x : Int32} (hz : zIn x (nI n) = false) : zM l D kCl tys kNw b ky_M_level (kh_M_level :: zT) 10 360 0 0 [.ref (b + 54), .int x] N σ ((fun oc N' σ' => oc = .returned (some (.long (-1))) ∧ N' = N ∧ MS b cI cJ cZ σ' n a gf gt gw F T C K ∧ Fr 54 73 σ σ')) := by
  refine zM.of (by decide +kernel) rfl (Nat.le_of_ble_eq_true rfl) ?_
  refine z_pick (lv' := [(0, .ref (b + 54)), (1, .int x)]) [0, 1] rfl ?_
  obtain ⟨⟨th, fa, ls, rm, hM⟩, h58, h59, ⟨g60, h60⟩, ⟨g61, h61⟩, ⟨g62, h62⟩, ⟨g63, h63⟩, ⟨g64, h64⟩, ⟨g65, h65⟩, ⟨g66, h66⟩, ⟨g67, h67⟩, ⟨g68, h68⟩, ⟨g69, h69⟩, ⟨g70, h70⟩, ⟨g71, h71⟩, ⟨g72, h72⟩, ⟨g73, h73⟩⟩ := hMS
  have hn := hM.hn
  have ha := hM.ha
  refine z_aload_n kd_M_level_0 0 rfl ?_
  refine z_iconst (v := 0) kd_M_level_1 (by decide) ?_
  refine z_putE (fs' := [_, _, _, _, _, _, _, _, _, _, _, _, _, _, _, _, _, _, _, _, _, _, _, _, _]) kd_M_level_2 (kp_M_69 _) hM.h1 (Nat.le_of_ble_eq_true rfl) rfl rfl rfl ?_
  refine z_upd (fun σ_1 x54_1 q_1 => ?_)
  have x58_1 := (q_1 58 (by omega)).trans h58
  have x59_1 := (q_1 59 (by omega)).trans h59
  have x60_1 := (q_1 60 (by omega)).trans h60
  have x61_1 := (q_1 61 (by omega)).trans h61
  have x62_1 := (q_1 62 (by omega)).trans h62
  have x63_1 := (q_1 63 (by omega)).trans h63
  have x64_1 := (q_1 64 (by omega)).trans h64
  have x65_1 := (q_1 65 (by omega)).trans h65
  have x66_1 := (q_1 66 (by omega)).trans h66
  have x67_1 := (q_1 67 (by omega)).trans h67
  have x68_1 := (q_1 68 (by omega)).trans h68
  have x69_1 := (q_1 69 (by omega)).trans h69
  have x70_1 := (q_1 70 (by omega)).trans h70
  have x71_1 := (q_1 71 (by omega)).trans h71
  have x72_1 := (q_1 72 (by omega)).trans h72
  have x73_1 := (q_1 73 (by omega)).trans h73
  have hM_1 := hM.put x54_1 q_1
  refine z_aload_n kd_M_level_5 0 rfl ?_
  refine z_iload_n kd_M_level_6 1 rfl ?_
  refine z_V1 (a := 54) (As := [_]) kd_M_level_7 (kg_M_76 _) hM_1.h1 kc_M (c_M_isNode ht0 ht1 ht3 hM_1) rfl rfl (Nat.le_of_ble_eq_true rfl) ⟨Nat.le_of_ble_eq_true rfl, Nat.le_of_ble_eq_true rfl⟩ ⟨Nat.le_of_ble_eq_true rfl, Nat.le_of_ble_eq_true rfl⟩ ?_
  refine z_topi (show zB (zIn x (nI n)) = 0 by rw [hz]; rfl) ?_
  refine z_if_eq (tgt := 22) kd_M_level_10 (by decide) (fun c10 => ?_) (fun c10 => absurd c10 (by decide))
  refine z_ldc2 (v := -1) kd_M_level_22 (List.mem_cons_of_mem _ (zin 918 rfl rfl)) ?_
  exact z_lret kd_M_level_25 rfl (Nat.le_of_ble_eq_true rfl) (Nat.le_of_ble_eq_true rfl) ⟨rfl, rfl, ⟨⟨_, _, _, _, hM_1⟩, x58_1, x59_1, ⟨_, x60_1⟩, ⟨_, x61_1⟩, ⟨_, x62_1⟩, ⟨_, x63_1⟩, ⟨_, x64_1⟩, ⟨_, x65_1⟩, ⟨_, x66_1⟩, ⟨_, x67_1⟩, ⟨_, x68_1⟩, ⟨_, x69_1⟩, ⟨_, x70_1⟩, ⟨_, x71_1⟩, ⟨_, x72_1⟩, ⟨_, x73_1⟩⟩, (Fr.tr Fr.rf (q_1.wide (by omega) (by omega)))⟩
set_option maxHeartbeats 4000000 in
set_option maxRecDepth 100000 in
theorem c_M_level1 {l : Launch} {D : va_G} {tys : List (ClassId × FieldType)} {b N : Nat} {σ : Nat → Option va_E} {cI cJ cA : ClassId} (ht0 : tys[0]? = some (cI, .int)) (ht1 : tys[1]? = some (cJ, .long)) (ht3 : tys[3]? = some (cA, .array .long)) {cZ : ClassId} (ht2 : tys[2]? = some (cZ, .boolean)) {n a : Nat} {gf gt gw : Nat → Int32} {F T : Nat → Nat} {C K : Nat → Int64} (hMS : MS b cI cJ cZ σ n a gf gt gw F T C K) {x : Nat} (hx : x < n) (hz : zIn (nI x) (nI n) = true) : zM l D kCl tys kNw b ky_M_level (kh_M_level :: zT) 10 360 0 0 [.ref (b + 54), .int (nI x)] N σ ((fun oc N' σ' => oc = .returned (some (.long (C x))) ∧ N' = N ∧ MS b cI cJ cZ σ' n a gf gt gw F T C K ∧ Fr 54 73 σ σ')) := by
  refine zM.of (by decide +kernel) rfl (Nat.le_of_ble_eq_true rfl) ?_
  refine z_pick (lv' := [(0, .ref (b + 54)), (1, .int (nI x))]) [0, 1] rfl ?_
  obtain ⟨⟨th, fa, ls, rm, hM⟩, h58, h59, ⟨g60, h60⟩, ⟨g61, h61⟩, ⟨g62, h62⟩, ⟨g63, h63⟩, ⟨g64, h64⟩, ⟨g65, h65⟩, ⟨g66, h66⟩, ⟨g67, h67⟩, ⟨g68, h68⟩, ⟨g69, h69⟩, ⟨g70, h70⟩, ⟨g71, h71⟩, ⟨g72, h72⟩, ⟨g73, h73⟩⟩ := hMS
  have hn := hM.hn
  have ha := hM.ha
  refine z_aload_n kd_M_level_0 0 rfl ?_
  refine z_iconst (v := 0) kd_M_level_1 (by decide) ?_
  refine z_putE (fs' := [_, _, _, _, _, _, _, _, _, _, _, _, _, _, _, _, _, _, _, _, _, _, _, _, _]) kd_M_level_2 (kp_M_69 _) hM.h1 (Nat.le_of_ble_eq_true rfl) rfl rfl rfl ?_
  refine z_upd (fun σ_1 x54_1 q_1 => ?_)
  have x58_1 := (q_1 58 (by omega)).trans h58
  have x59_1 := (q_1 59 (by omega)).trans h59
  have x60_1 := (q_1 60 (by omega)).trans h60
  have x61_1 := (q_1 61 (by omega)).trans h61
  have x62_1 := (q_1 62 (by omega)).trans h62
  have x63_1 := (q_1 63 (by omega)).trans h63
  have x64_1 := (q_1 64 (by omega)).trans h64
  have x65_1 := (q_1 65 (by omega)).trans h65
  have x66_1 := (q_1 66 (by omega)).trans h66
  have x67_1 := (q_1 67 (by omega)).trans h67
  have x68_1 := (q_1 68 (by omega)).trans h68
  have x69_1 := (q_1 69 (by omega)).trans h69
  have x70_1 := (q_1 70 (by omega)).trans h70
  have x71_1 := (q_1 71 (by omega)).trans h71
  have x72_1 := (q_1 72 (by omega)).trans h72
  have x73_1 := (q_1 73 (by omega)).trans h73
  have hM_1 := hM.put x54_1 q_1
  refine z_aload_n kd_M_level_5 0 rfl ?_
  refine z_iload_n kd_M_level_6 1 rfl ?_
  refine z_V1 (a := 54) (As := [_]) kd_M_level_7 (kg_M_76 _) hM_1.h1 kc_M (c_M_isNode ht0 ht1 ht3 hM_1) rfl rfl (Nat.le_of_ble_eq_true rfl) ⟨Nat.le_of_ble_eq_true rfl, Nat.le_of_ble_eq_true rfl⟩ ⟨Nat.le_of_ble_eq_true rfl, Nat.le_of_ble_eq_true rfl⟩ ?_
  refine z_topi (show zB (zIn (nI x) (nI n)) = 1 by rw [hz]; rfl) ?_
  refine z_if_eq (tgt := 22) kd_M_level_10 (by decide) (fun c10 => absurd c10 (by decide)) (fun c10 => ?_)
  refine z_aload_n kd_M_level_13 0 rfl ?_
  refine z_get kd_M_level_14 (kf_M_19 _) hM_1.h1 rfl ?_
  refine z_iload_n kd_M_level_17 1 rfl ?_
  refine z_laldN (t0 := 1) kd_M_level_18 (by assumption) x58_1 (by omega) (by decide) ?_
  refine z_goto (tgt := 25) kd_M_level_19 (by decide) ?_
  exact z_lret kd_M_level_25 rfl (Nat.le_of_ble_eq_true rfl) (Nat.le_of_ble_eq_true rfl) ⟨rfl, rfl, ⟨⟨_, _, _, _, hM_1⟩, x58_1, x59_1, ⟨_, x60_1⟩, ⟨_, x61_1⟩, ⟨_, x62_1⟩, ⟨_, x63_1⟩, ⟨_, x64_1⟩, ⟨_, x65_1⟩, ⟨_, x66_1⟩, ⟨_, x67_1⟩, ⟨_, x68_1⟩, ⟨_, x69_1⟩, ⟨_, x70_1⟩, ⟨_, x71_1⟩, ⟨_, x72_1⟩, ⟨_, x73_1⟩⟩, (Fr.tr Fr.rf (q_1.wide (by omega) (by omega)))⟩
set_option maxHeartbeats 4000000 in
set_option maxRecDepth 100000 in
theorem c_M_fired0 {l : Launch} {D : va_G} {tys : List (ClassId × FieldType)} {b N : Nat} {σ : Nat → Option va_E} {cI cJ cA : ClassId} (ht0 : tys[0]? = some (cI, .int)) (ht1 : tys[1]? = some (cJ, .long)) (ht3 : tys[3]? = some (cA, .array .long)) {cZ : ClassId} (ht2 : tys[2]? = some (cZ, .boolean)) {n a : Nat} {gf gt gw : Nat → Int32} {F T : Nat → Nat} {C K : Nat → Int64} (hMS : MS b cI cJ cZ σ n a gf gt gw F T C K) {x : Int32} (hz : zIn x (nI n) = false) : zM l D kCl tys kNw b ky_M_fired (kh_M_fired :: zT) 10 360 0 0 [.ref (b + 54), .int x] N σ ((fun oc N' σ' => oc = .returned (some (.long 0)) ∧ N' = N ∧ MS b cI cJ cZ σ' n a gf gt gw F T C K ∧ Fr 54 73 σ σ')) := by
  refine zM.of (by decide +kernel) rfl (Nat.le_of_ble_eq_true rfl) ?_
  refine z_pick (lv' := [(0, .ref (b + 54)), (1, .int x)]) [0, 1] rfl ?_
  obtain ⟨⟨th, fa, ls, rm, hM⟩, h58, h59, ⟨g60, h60⟩, ⟨g61, h61⟩, ⟨g62, h62⟩, ⟨g63, h63⟩, ⟨g64, h64⟩, ⟨g65, h65⟩, ⟨g66, h66⟩, ⟨g67, h67⟩, ⟨g68, h68⟩, ⟨g69, h69⟩, ⟨g70, h70⟩, ⟨g71, h71⟩, ⟨g72, h72⟩, ⟨g73, h73⟩⟩ := hMS
  have hn := hM.hn
  have ha := hM.ha
  refine z_aload_n kd_M_fired_0 0 rfl ?_
  refine z_iconst (v := 0) kd_M_fired_1 (by decide) ?_
  refine z_putE (fs' := [_, _, _, _, _, _, _, _, _, _, _, _, _, _, _, _, _, _, _, _, _, _, _, _, _]) kd_M_fired_2 (kp_M_69 _) hM.h1 (Nat.le_of_ble_eq_true rfl) rfl rfl rfl ?_
  refine z_upd (fun σ_1 x54_1 q_1 => ?_)
  have x58_1 := (q_1 58 (by omega)).trans h58
  have x59_1 := (q_1 59 (by omega)).trans h59
  have x60_1 := (q_1 60 (by omega)).trans h60
  have x61_1 := (q_1 61 (by omega)).trans h61
  have x62_1 := (q_1 62 (by omega)).trans h62
  have x63_1 := (q_1 63 (by omega)).trans h63
  have x64_1 := (q_1 64 (by omega)).trans h64
  have x65_1 := (q_1 65 (by omega)).trans h65
  have x66_1 := (q_1 66 (by omega)).trans h66
  have x67_1 := (q_1 67 (by omega)).trans h67
  have x68_1 := (q_1 68 (by omega)).trans h68
  have x69_1 := (q_1 69 (by omega)).trans h69
  have x70_1 := (q_1 70 (by omega)).trans h70
  have x71_1 := (q_1 71 (by omega)).trans h71
  have x72_1 := (q_1 72 (by omega)).trans h72
  have x73_1 := (q_1 73 (by omega)).trans h73
  have hM_1 := hM.put x54_1 q_1
  refine z_aload_n kd_M_fired_5 0 rfl ?_
  refine z_iload_n kd_M_fired_6 1 rfl ?_
  refine z_V1 (a := 54) (As := [_]) kd_M_fired_7 (kg_M_76 _) hM_1.h1 kc_M (c_M_isNode ht0 ht1 ht3 hM_1) rfl rfl (Nat.le_of_ble_eq_true rfl) ⟨Nat.le_of_ble_eq_true rfl, Nat.le_of_ble_eq_true rfl⟩ ⟨Nat.le_of_ble_eq_true rfl, Nat.le_of_ble_eq_true rfl⟩ ?_
  refine z_topi (show zB (zIn x (nI n)) = 0 by rw [hz]; rfl) ?_
  refine z_if_eq (tgt := 22) kd_M_fired_10 (by decide) (fun c10 => ?_) (fun c10 => absurd c10 (by decide))
  refine z_lconst (v := 0) kd_M_fired_22 (by decide +kernel) ?_
  exact z_lret kd_M_fired_23 rfl (Nat.le_of_ble_eq_true rfl) (Nat.le_of_ble_eq_true rfl) ⟨rfl, rfl, ⟨⟨_, _, _, _, hM_1⟩, x58_1, x59_1, ⟨_, x60_1⟩, ⟨_, x61_1⟩, ⟨_, x62_1⟩, ⟨_, x63_1⟩, ⟨_, x64_1⟩, ⟨_, x65_1⟩, ⟨_, x66_1⟩, ⟨_, x67_1⟩, ⟨_, x68_1⟩, ⟨_, x69_1⟩, ⟨_, x70_1⟩, ⟨_, x71_1⟩, ⟨_, x72_1⟩, ⟨_, x73_1⟩⟩, (Fr.tr Fr.rf (q_1.wide (by omega) (by omega)))⟩
set_option maxHeartbeats 4000000 in
set_option maxRecDepth 100000 in
theorem c_M_fired1 {l : Launch} {D : va_G} {tys : List (ClassId × FieldType)} {b N : Nat} {σ : Nat → Option va_E} {cI cJ cA : ClassId} (ht0 : tys[0]? = some (cI, .int)) (ht1 : tys[1]? = some (cJ, .long)) (ht3 : tys[3]? = some (cA, .array .long)) {cZ : ClassId} (ht2 : tys[2]? = some (cZ, .boolean)) {n a : Nat} {gf gt gw : Nat → Int32} {F T : Nat → Nat} {C K : Nat → Int64} (hMS : MS b cI cJ cZ σ n a gf gt gw F T C K) {x : Nat} (hx : x < n) (hz : zIn (nI x) (nI n) = true) : zM l D kCl tys kNw b ky_M_fired (kh_M_fired :: zT) 10 360 0 0 [.ref (b + 54), .int (nI x)] N σ ((fun oc N' σ' => oc = .returned (some (.long (K x))) ∧ N' = N ∧ MS b cI cJ cZ σ' n a gf gt gw F T C K ∧ Fr 54 73 σ σ')) := by
  refine zM.of (by decide +kernel) rfl (Nat.le_of_ble_eq_true rfl) ?_
  refine z_pick (lv' := [(0, .ref (b + 54)), (1, .int (nI x))]) [0, 1] rfl ?_
  obtain ⟨⟨th, fa, ls, rm, hM⟩, h58, h59, ⟨g60, h60⟩, ⟨g61, h61⟩, ⟨g62, h62⟩, ⟨g63, h63⟩, ⟨g64, h64⟩, ⟨g65, h65⟩, ⟨g66, h66⟩, ⟨g67, h67⟩, ⟨g68, h68⟩, ⟨g69, h69⟩, ⟨g70, h70⟩, ⟨g71, h71⟩, ⟨g72, h72⟩, ⟨g73, h73⟩⟩ := hMS
  have hn := hM.hn
  have ha := hM.ha
  refine z_aload_n kd_M_fired_0 0 rfl ?_
  refine z_iconst (v := 0) kd_M_fired_1 (by decide) ?_
  refine z_putE (fs' := [_, _, _, _, _, _, _, _, _, _, _, _, _, _, _, _, _, _, _, _, _, _, _, _, _]) kd_M_fired_2 (kp_M_69 _) hM.h1 (Nat.le_of_ble_eq_true rfl) rfl rfl rfl ?_
  refine z_upd (fun σ_1 x54_1 q_1 => ?_)
  have x58_1 := (q_1 58 (by omega)).trans h58
  have x59_1 := (q_1 59 (by omega)).trans h59
  have x60_1 := (q_1 60 (by omega)).trans h60
  have x61_1 := (q_1 61 (by omega)).trans h61
  have x62_1 := (q_1 62 (by omega)).trans h62
  have x63_1 := (q_1 63 (by omega)).trans h63
  have x64_1 := (q_1 64 (by omega)).trans h64
  have x65_1 := (q_1 65 (by omega)).trans h65
  have x66_1 := (q_1 66 (by omega)).trans h66
  have x67_1 := (q_1 67 (by omega)).trans h67
  have x68_1 := (q_1 68 (by omega)).trans h68
  have x69_1 := (q_1 69 (by omega)).trans h69
  have x70_1 := (q_1 70 (by omega)).trans h70
  have x71_1 := (q_1 71 (by omega)).trans h71
  have x72_1 := (q_1 72 (by omega)).trans h72
  have x73_1 := (q_1 73 (by omega)).trans h73
  have hM_1 := hM.put x54_1 q_1
  refine z_aload_n kd_M_fired_5 0 rfl ?_
  refine z_iload_n kd_M_fired_6 1 rfl ?_
  refine z_V1 (a := 54) (As := [_]) kd_M_fired_7 (kg_M_76 _) hM_1.h1 kc_M (c_M_isNode ht0 ht1 ht3 hM_1) rfl rfl (Nat.le_of_ble_eq_true rfl) ⟨Nat.le_of_ble_eq_true rfl, Nat.le_of_ble_eq_true rfl⟩ ⟨Nat.le_of_ble_eq_true rfl, Nat.le_of_ble_eq_true rfl⟩ ?_
  refine z_topi (show zB (zIn (nI x) (nI n)) = 1 by rw [hz]; rfl) ?_
  refine z_if_eq (tgt := 22) kd_M_fired_10 (by decide) (fun c10 => absurd c10 (by decide)) (fun c10 => ?_)
  refine z_aload_n kd_M_fired_13 0 rfl ?_
  refine z_get kd_M_fired_14 (kf_M_23 _) hM_1.h1 rfl ?_
  refine z_iload_n kd_M_fired_17 1 rfl ?_
  refine z_laldN (t0 := 1) kd_M_fired_18 (by assumption) x59_1 (by omega) (by decide) ?_
  refine z_goto (tgt := 23) kd_M_fired_19 (by decide) ?_
  exact z_lret kd_M_fired_23 rfl (Nat.le_of_ble_eq_true rfl) (Nat.le_of_ble_eq_true rfl) ⟨rfl, rfl, ⟨⟨_, _, _, _, hM_1⟩, x58_1, x59_1, ⟨_, x60_1⟩, ⟨_, x61_1⟩, ⟨_, x62_1⟩, ⟨_, x63_1⟩, ⟨_, x64_1⟩, ⟨_, x65_1⟩, ⟨_, x66_1⟩, ⟨_, x67_1⟩, ⟨_, x68_1⟩, ⟨_, x69_1⟩, ⟨_, x70_1⟩, ⟨_, x71_1⟩, ⟨_, x72_1⟩, ⟨_, x73_1⟩⟩, (Fr.tr Fr.rf (q_1.wide (by omega) (by omega)))⟩
