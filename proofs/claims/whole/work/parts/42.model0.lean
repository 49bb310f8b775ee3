def zY (v : Option Value) (N : Nat) : Outcome → Nat → (Nat → Option va_E) → Prop := fun oc N' _ => oc = .returned v ∧ N' = N
theorem z_11 {i : Nat} (h : i < 10) : vp_in (11 * nI i) 100 := by
  have e : (11 : Int32) * nI i = nI (11 * i) := pk_mul 11 i
  rw [e]
  exact vp_in_nI (by omega) (by decide)
set_option maxHeartbeats 4000000 in
set_option maxRecDepth 100000 in
theorem e_M_isNode {l : Launch} {D : va_G} {tys : List (ClassId × FieldType)} {b N : Nat} {σ : Nat → Option va_E} {x : Int32} {th fa ls rm : Value} (h54 : σ 54 = some (.inr (9, [th, .int 0, .int 0, .ref (b + 55), .ref (b + 56), .ref (b + 57), .ref (b + 58), .ref (b + 59), .ref (b + 60), .ref (b + 61), .ref (b + 62), .ref (b + 63), .ref (b + 64), .ref (b + 65), fa, .ref (b + 66), .ref (b + 67), ls, .ref (b + 68), .ref (b + 69), .ref (b + 70), .ref (b + 71), rm, .ref (b + 72), .ref (b + 73)]))) : zM l D kCl tys kNw b ky_M_isNode (kh_M_isNode :: zT) 0 0 0 0 [.ref (b + 54), .int x] N σ (zD (some (.int 0)) N σ) := by
  refine zM.of (by decide +kernel) rfl (Nat.le_of_ble_eq_true rfl) ?_
  refine z_pick (lv' := [(0, .ref (b + 54)), (1, .int x)]) [0, 1] rfl ?_
  refine z_iload_n kd_M_isNode_0 1 rfl ?_
  refine z_if_lt (tgt := 16) kd_M_isNode_1 (by decide) (fun c1 => ?_) (fun c1 => ?_)
  · refine z_iconst (v := 0) kd_M_isNode_16 (by decide) ?_
    exact z_zret kd_M_isNode_17 rfl rfl (Nat.le_of_ble_eq_true rfl) (Nat.le_of_ble_eq_true rfl) ⟨rfl, rfl, rfl⟩
  · refine z_iload_n kd_M_isNode_4 1 rfl ?_
    refine z_aload_n kd_M_isNode_5 0 rfl ?_
    refine z_get kd_M_isNode_6 (kf_M_73 _) h54 rfl ?_
    refine z_icmp_ge (tgt := 16) kd_M_isNode_9 (by decide) (fun c9 => ?_) (fun c9 => ?_)
    · refine z_iconst (v := 0) kd_M_isNode_16 (by decide) ?_
      exact z_zret kd_M_isNode_17 rfl rfl (Nat.le_of_ble_eq_true rfl) (Nat.le_of_ble_eq_true rfl) ⟨rfl, rfl, rfl⟩
    · exact absurd (zI_nn c1) c9
set_option maxHeartbeats 4000000 in
set_option maxRecDepth 100000 in
theorem e_M_node {l : Launch} {D : va_G} {tys : List (ClassId × FieldType)} {b N : Nat} {σ : Nat → Option va_E} {cI cJ cZ : ClassId} (ht0 : tys[0]? = some (cI, .int)) (ht1 : tys[1]? = some (cJ, .long)) (ht2 : tys[2]? = some (cZ, .boolean)) {th fa ls rm : Value} {g58 g59 : Nat → Int64} (h54 : σ 54 = some (.inr (9, [th, .int 0, .int 0, .ref (b + 55), .ref (b + 56), .ref (b + 57), .ref (b + 58), .ref (b + 59), .ref (b + 60), .ref (b + 61), .ref (b + 62), .ref (b + 63), .ref (b + 64), .ref (b + 65), fa, .ref (b + 66), .ref (b + 67), ls, .ref (b + 68), .ref (b + 69), .ref (b + 70), .ref (b + 71), rm, .ref (b + 72), .ref (b + 73)]))) (h58 : σ 58 = some (.inl (cJ, 10, .inr (.inl g58)))) (h59 : σ 59 = some (.inl (cJ, 10, .inr (.inl g59)))) : zM l D kCl tys kNw b ky_M_node (kh_M_node :: zT) 0 0 0 0 [.ref (b + 54)] N σ (zY (some (.int 0)) N) := by
  refine zM.of (by decide +kernel) rfl (Nat.le_of_ble_eq_true rfl) ?_
  refine z_pick (lv' := [(0, .ref (b + 54))]) [0] rfl ?_
  refine z_aload_n kd_M_node_0 0 rfl ?_
  refine z_iconst (v := 0) kd_M_node_1 (by decide) ?_
  refine z_putE (fs' := [_, _, _, _, _, _, _, _, _, _, _, _, _, _, _, _, _, _, _, _, _, _, _, _, _]) kd_M_node_2 (kp_M_69 _) h54 (Nat.le_of_ble_eq_true rfl) rfl rfl rfl ?_
  refine z_aload_n kd_M_node_5 0 rfl ?_
  refine z_get kd_M_node_6 (kf_M_73 _) rfl rfl ?_
  refine z_bipush (v := 10) kd_M_node_9 (by decide +kernel) ?_
  refine z_icmp_ne (tgt := 16) kd_M_node_11 (by decide) (fun c11 => ?_) (fun c11 => absurd c11 (by decide))
  refine z_aload_n kd_M_node_16 0 rfl ?_
  refine z_get kd_M_node_17 (kf_M_19 _) rfl rfl ?_
  refine z_aload_n kd_M_node_20 0 rfl ?_
  refine z_get kd_M_node_21 (kf_M_73 _) rfl rfl ?_
  refine z_lconst (v := 0) kd_M_node_24 (by decide +kernel) ?_
  refine z_last (t0 := 1) kd_M_node_25 (by assumption) h58 (show vp_in (nI 0) 10 from vp_in_nI (by decide) (by decide)) ?_
  refine z_aload_n kd_M_node_26 0 rfl ?_
  refine z_get kd_M_node_27 (kf_M_23 _) rfl rfl ?_
  refine z_aload_n kd_M_node_30 0 rfl ?_
  refine z_get kd_M_node_31 (kf_M_73 _) rfl rfl ?_
  refine z_lconst (v := 0) kd_M_node_34 (by decide +kernel) ?_
  refine z_last (t0 := 1) kd_M_node_35 (by assumption) h59 (show vp_in (nI 0) 10 from vp_in_nI (by decide) (by decide)) ?_
  refine z_aload_n kd_M_node_36 0 rfl ?_
  refine z_dup kd_M_node_37 rfl ?_
  refine z_get kd_M_node_38 (kf_M_73 _) rfl rfl ?_
  refine z_iconst (v := 1) kd_M_node_41 (by decide) ?_
  refine z_iadd kd_M_node_42 ?_
  refine z_topi (show _ = (1 : Int32) from by decide +kernel) ?_
  refine z_putE (fs' := [_, _, _, _, _, _, _, _, _, _, _, _, _, _, _, _, _, _, _, _, _, _, _, _, _]) kd_M_node_43 (kp_M_73 _) rfl (Nat.le_of_ble_eq_true rfl) rfl rfl rfl ?_
  refine z_aload_n kd_M_node_46 0 rfl ?_
  refine z_get kd_M_node_47 (kf_M_73 _) rfl rfl ?_
  refine z_iconst (v := 1) kd_M_node_50 (by decide) ?_
  refine z_isub kd_M_node_51 ?_
  refine z_topi (show _ = (0 : Int32) from by decide +kernel) ?_
  exact z_iret kd_M_node_52 rfl (Nat.le_of_ble_eq_true rfl) (Nat.le_of_ble_eq_true rfl) ⟨rfl, rfl⟩
set_option maxHeartbeats 4000000 in
set_option maxRecDepth 100000 in
theorem e_M_arc {l : Launch} {D : va_G} {tys : List (ClassId × FieldType)} {b N : Nat} {σ : Nat → Option va_E} {x y w : Int32} {th fa ls rm : Value} (h54 : σ 54 = some (.inr (9, [th, .int 0, .int 0, .ref (b + 55), .ref (b + 56), .ref (b + 57), .ref (b + 58), .ref (b + 59), .ref (b + 60), .ref (b + 61), .ref (b + 62), .ref (b + 63), .ref (b + 64), .ref (b + 65), fa, .ref (b + 66), .ref (b + 67), ls, .ref (b + 68), .ref (b + 69), .ref (b + 70), .ref (b + 71), rm, .ref (b + 72), .ref (b + 73)]))) : zM l D kCl tys kNw b ky_M_arc (kh_M_arc :: zT) 1 40 0 0 [.ref (b + 54), .int x, .int y, .int w] N σ (zY (some (.int (-1))) N) := by
  refine zM.of (by decide +kernel) rfl (Nat.le_of_ble_eq_true rfl) ?_
  refine z_pick (lv' := [(0, .ref (b + 54)), (1, .int x), (2, .int y), (3, .int w)]) [0, 1, 2, 3] rfl ?_
  refine z_aload_n kd_M_arc_0 0 rfl ?_
  refine z_iconst (v := 0) kd_M_arc_1 (by decide) ?_
  refine z_putE (fs' := [_, _, _, _, _, _, _, _, _, _, _, _, _, _, _, _, _, _, _, _, _, _, _, _, _]) kd_M_arc_2 (kp_M_69 _) h54 (Nat.le_of_ble_eq_true rfl) rfl rfl rfl ?_
  refine z_aload_n kd_M_arc_5 0 rfl ?_
  refine z_iload_n kd_M_arc_6 1 rfl ?_
  refine z_V1 (a := 54) (As := [_]) kd_M_arc_7 (kg_M_76 _) rfl kc_M (e_M_isNode rfl) rfl rfl (Nat.le_of_ble_eq_true rfl) ⟨Nat.le_of_ble_eq_true rfl, Nat.le_of_ble_eq_true rfl⟩ ⟨Nat.le_of_ble_eq_true rfl, Nat.le_of_ble_eq_true rfl⟩ ?_
  refine z_if_eq (tgt := 41) kd_M_arc_10 (by decide) (fun c10 => ?_) (fun c10 => absurd c10 (by decide))
  refine z_iconst (v := -1) kd_M_arc_41 (by decide) ?_
  exact z_iret kd_M_arc_42 rfl (Nat.le_of_ble_eq_true rfl) (Nat.le_of_ble_eq_true rfl) ⟨rfl, rfl⟩
set_option maxHeartbeats 4000000 in
set_option maxRecDepth 100000 in
theorem e_M_weigh {l : Launch} {D : va_G} {tys : List (ClassId × FieldType)} {b N : Nat} {σ : Nat → Option va_E} {x w : Int32} {th fa ls rm : Value} (h54 : σ 54 = some (.inr (9, [th, .int 0, .int 0, .ref (b + 55), .ref (b + 56), .ref (b + 57), .ref (b + 58), .ref (b + 59), .ref (b + 60), .ref (b + 61), .ref (b + 62), .ref (b + 63), .ref (b + 64), .ref (b + 65), fa, .ref (b + 66), .ref (b + 67), ls, .ref (b + 68), .ref (b + 69), .ref (b + 70), .ref (b + 71), rm, .ref (b + 72), .ref (b + 73)]))) : zM l D kCl tys kNw b ky_M_weigh (kh_M_weigh :: zT) 0 0 0 0 [.ref (b + 54), .int x, .int w] N σ (zY (some (.int (-1))) N) := by
  refine zM.of (by decide +kernel) rfl (Nat.le_of_ble_eq_true rfl) ?_
  refine z_pick (lv' := [(0, .ref (b + 54)), (1, .int x), (2, .int w)]) [0, 1, 2] rfl ?_
  refine z_aload_n kd_M_weigh_0 0 rfl ?_
  refine z_iconst (v := 0) kd_M_weigh_1 (by decide) ?_
  refine z_putE (fs' := [_, _, _, _, _, _, _, _, _, _, _, _, _, _, _, _, _, _, _, _, _, _, _, _, _]) kd_M_weigh_2 (kp_M_69 _) h54 (Nat.le_of_ble_eq_true rfl) rfl rfl rfl ?_
  refine z_iload_n kd_M_weigh_5 1 rfl ?_
  refine z_if_lt (tgt := 28) kd_M_weigh_6 (by decide) (fun c6 => ?_) (fun c6 => ?_)
  · refine z_iconst (v := -1) kd_M_weigh_28 (by decide) ?_
    exact z_iret kd_M_weigh_29 rfl (Nat.le_of_ble_eq_true rfl) (Nat.le_of_ble_eq_true rfl) ⟨rfl, rfl⟩
  · refine z_iload_n kd_M_weigh_9 1 rfl ?_
    refine z_aload_n kd_M_weigh_10 0 rfl ?_
    refine z_get kd_M_weigh_11 (kf_M_80 _) rfl rfl ?_
    refine z_icmp_ge (tgt := 28) kd_M_weigh_14 (by decide) (fun c14 => ?_) (fun c14 => ?_)
    · refine z_iconst (v := -1) kd_M_weigh_28 (by decide) ?_
      exact z_iret kd_M_weigh_29 rfl (Nat.le_of_ble_eq_true rfl) (Nat.le_of_ble_eq_true rfl) ⟨rfl, rfl⟩
    · exact absurd (zI_nn c6) c14
set_option maxHeartbeats 4000000 in
set_option maxRecDepth 100000 in
theorem e_M_drop {l : Launch} {D : va_G} {tys : List (ClassId × FieldType)} {b N : Nat} {σ : Nat → Option va_E} {th fa ls rm : Value} (h54 : σ 54 = some (.inr (9, [th, .int 0, .int 0, .ref (b + 55), .ref (b + 56), .ref (b + 57), .ref (b + 58), .ref (b + 59), .ref (b + 60), .ref (b + 61), .ref (b + 62), .ref (b + 63), .ref (b + 64), .ref (b + 65), fa, .ref (b + 66), .ref (b + 67), ls, .ref (b + 68), .ref (b + 69), .ref (b + 70), .ref (b + 71), rm, .ref (b + 72), .ref (b + 73)]))) : zM l D kCl tys kNw b ky_M_drop (kh_M_drop :: zT) 0 0 0 0 [.ref (b + 54)] N σ (zY (some (.int 0)) N) := by
  refine zM.of (by decide +kernel) rfl (Nat.le_of_ble_eq_true rfl) ?_
  refine z_pick (lv' := [(0, .ref (b + 54))]) [0] rfl ?_
  refine z_aload_n kd_M_drop_0 0 rfl ?_
  refine z_iconst (v := 0) kd_M_drop_1 (by decide) ?_
  refine z_putE (fs' := [_, _, _, _, _, _, _, _, _, _, _, _, _, _, _, _, _, _, _, _, _, _, _, _, _]) kd_M_drop_2 (kp_M_69 _) h54 (Nat.le_of_ble_eq_true rfl) rfl rfl rfl ?_
  refine z_aload_n kd_M_drop_5 0 rfl ?_
  refine z_get kd_M_drop_6 (kf_M_80 _) rfl rfl ?_
  refine z_if_ne (tgt := 14) kd_M_drop_9 (by decide) (fun c9 => absurd c9 (by decide)) (fun c9 => ?_)
  refine z_iconst (v := 0) kd_M_drop_12 (by decide) ?_
  exact z_zret kd_M_drop_13 rfl rfl (Nat.le_of_ble_eq_true rfl) (Nat.le_of_ble_eq_true rfl) ⟨rfl, rfl⟩
set_option maxHeartbeats 4000000 in
set_option maxRecDepth 100000 in
theorem e_M_through {l : Launch} {D : va_G} {tys : List (ClassId × FieldType)} {b N : Nat} {σ : Nat → Option va_E} {x : Int32} {th fa ls rm : Value} (h54 : σ 54 = some (.inr (9, [th, .int 0, .int 0, .ref (b + 55), .ref (b + 56), .ref (b + 57), .ref (b + 58), .ref (b + 59), .ref (b + 60), .ref (b + 61), .ref (b + 62), .ref (b + 63), .ref (b + 64), .ref (b + 65), fa, .ref (b + 66), .ref (b + 67), ls, .ref (b + 68), .ref (b + 69), .ref (b + 70), .ref (b + 71), rm, .ref (b + 72), .ref (b + 73)]))) : zM l D kCl tys kNw b ky_M_through (kh_M_through :: zT) 0 0 0 0 [.ref (b + 54), .int x] N σ (zY (some (.long (-1))) N) := by
  refine zM.of (by decide +kernel) rfl (Nat.le_of_ble_eq_true rfl) ?_
  refine z_pick (lv' := [(0, .ref (b + 54)), (1, .int x)]) [0, 1] rfl ?_
  refine z_aload_n kd_M_through_0 0 rfl ?_
  refine z_iconst (v := 0) kd_M_through_1 (by decide) ?_
  refine z_putE (fs' := [_, _, _, _, _, _, _, _, _, _, _, _, _, _, _, _, _, _, _, _, _, _, _, _, _]) kd_M_through_2 (kp_M_69 _) h54 (Nat.le_of_ble_eq_true rfl) rfl rfl rfl ?_
  refine z_iload_n kd_M_through_5 1 rfl ?_
  refine z_if_lt (tgt := 17) kd_M_through_6 (by decide) (fun c6 => ?_) (fun c6 => ?_)
  · refine z_ldc2 (v := -1) kd_M_through_17 (List.mem_cons_of_mem _ (zin 918 rfl rfl)) ?_
    exact z_lret kd_M_through_20 rfl (Nat.le_of_ble_eq_true rfl) (Nat.le_of_ble_eq_true rfl) ⟨rfl, rfl⟩
  · refine z_iload_n kd_M_through_9 1 rfl ?_
    refine z_aload_n kd_M_through_10 0 rfl ?_
    refine z_get kd_M_through_11 (kf_M_80 _) rfl rfl ?_
    refine z_icmp_lt (tgt := 21) kd_M_through_14 (by decide) (fun c14 => ?_) (fun c14 => ?_)
    · exact absurd c14 c6
    · refine z_ldc2 (v := -1) kd_M_through_17 (List.mem_cons_of_mem _ (zin 918 rfl rfl)) ?_
      exact z_lret kd_M_through_20 rfl (Nat.le_of_ble_eq_true rfl) (Nat.le_of_ble_eq_true rfl) ⟨rfl, rfl⟩
set_option maxHeartbeats 4000000 in
set_option maxRecDepth 100000 in
theorem e_M_rooted {l : Launch} {D : va_G} {tys : List (ClassId × FieldType)} {b N : Nat} {σ : Nat → Option va_E} {x : Int32} {th fa ls rm : Value} (h54 : σ 54 = some (.inr (9, [th, .int 0, .int 0, .ref (b + 55), .ref (b + 56), .ref (b + 57), .ref (b + 58), .ref (b + 59), .ref (b + 60), .ref (b + 61), .ref (b + 62), .ref (b + 63), .ref (b + 64), .ref (b + 65), fa, .ref (b + 66), .ref (b + 67), ls, .ref (b + 68), .ref (b + 69), .ref (b + 70), .ref (b + 71), rm, .ref (b + 72), .ref (b + 73)]))) : zM l D kCl tys kNw b ky_M_rooted (kh_M_rooted :: zT) 1 40 0 0 [.ref (b + 54), .int x] N σ (zY (some (.long (-1))) N) := by
  refine zM.of (by decide +kernel) rfl (Nat.le_of_ble_eq_true rfl) ?_
  refine z_pick (lv' := [(0, .ref (b + 54)), (1, .int x)]) [0, 1] rfl ?_
  refine z_aload_n kd_M_rooted_0 0 rfl ?_
  refine z_iconst (v := 0) kd_M_rooted_1 (by decide) ?_
  refine z_putE (fs' := [_, _, _, _, _, _, _, _, _, _, _, _, _, _, _, _, _, _, _, _, _, _, _, _, _]) kd_M_rooted_2 (kp_M_69 _) h54 (Nat.le_of_ble_eq_true rfl) rfl rfl rfl ?_
  refine z_aload_n kd_M_rooted_5 0 rfl ?_
  refine z_iload_n kd_M_rooted_6 1 rfl ?_
  refine z_V1 (a := 54) (As := [_]) kd_M_rooted_7 (kg_M_76 _) rfl kc_M (e_M_isNode rfl) rfl rfl (Nat.le_of_ble_eq_true rfl) ⟨Nat.le_of_ble_eq_true rfl, Nat.le_of_ble_eq_true rfl⟩ ⟨Nat.le_of_ble_eq_true rfl, Nat.le_of_ble_eq_true rfl⟩ ?_
  refine z_if_ne (tgt := 17) kd_M_rooted_10 (by decide) (fun c10 => absurd c10 (by decide)) (fun c10 => ?_)
  refine z_ldc2 (v := -1) kd_M_rooted_13 (List.mem_cons_of_mem _ (zin 918 rfl rfl)) ?_
  exact z_lret kd_M_rooted_16 rfl (Nat.le_of_ble_eq_true rfl) (Nat.le_of_ble_eq_true rfl) ⟨rfl, rfl⟩
set_option maxHeartbeats 4000000 in
set_option maxRecDepth 100000 in
theorem e_M_apart {l : Launch} {D : va_G} {tys : List (ClassId × FieldType)} {b N : Nat} {σ : Nat → Option va_E} {x y : Int32} {th fa ls rm : Value} (h54 : σ 54 = some (.inr (9, [th, .int 0, .int 0, .ref (b + 55), .ref (b + 56), .ref (b + 57), .ref (b + 58), .ref (b + 59), .ref (b + 60), .ref (b + 61), .ref (b + 62), .ref (b + 63), .ref (b + 64), .ref (b + 65), fa, .ref (b + 66), .ref (b + 67), ls, .ref (b + 68), .ref (b + 69), .ref (b + 70), .ref (b + 71), rm, .ref (b + 72), .ref (b + 73)]))) : zM l D kCl tys kNw b ky_M_apart (kh_M_apart :: zT) 1 40 0 0 [.ref (b + 54), .int x, .int y] N σ (zY (some (.long 0)) N) := by
  refine zM.of (by decide +kernel) rfl (Nat.le_of_ble_eq_true rfl) ?_
  refine z_pick (lv' := [(0, .ref (b + 54)), (1, .int x), (2, .int y)]) [0, 1, 2] rfl ?_
  refine z_aload_n kd_M_apart_0 0 rfl ?_
  refine z_iconst (v := 0) kd_M_apart_1 (by decide) ?_
  refine z_putE (fs' := [_, _, _, _, _, _, _, _, _, _, _, _, _, _, _, _, _, _, _, _, _, _, _, _, _]) kd_M_apart_2 (kp_M_69 _) h54 (Nat.le_of_ble_eq_true rfl) rfl rfl rfl ?_
  refine z_aload_n kd_M_apart_5 0 rfl ?_
  refine z_iload_n kd_M_apart_6 1 rfl ?_
  refine z_V1 (a := 54) (As := [_]) kd_M_apart_7 (kg_M_76 _) rfl kc_M (e_M_isNode rfl) rfl rfl (Nat.le_of_ble_eq_true rfl) ⟨Nat.le_of_ble_eq_true rfl, Nat.le_of_ble_eq_true rfl⟩ ⟨Nat.le_of_ble_eq_true rfl, Nat.le_of_ble_eq_true rfl⟩ ?_
  refine z_if_eq (tgt := 26) kd_M_apart_10 (by decide) (fun c10 => ?_) (fun c10 => absurd c10 (by decide))
  refine z_lconst (v := 0) kd_M_apart_26 (by decide +kernel) ?_
  exact z_lret kd_M_apart_27 rfl (Nat.le_of_ble_eq_true rfl) (Nat.le_of_ble_eq_true rfl) ⟨rfl, rfl⟩
set_option maxHeartbeats 4000000 in
set_option maxRecDepth 100000 in
theorem e_M_resistance {l : Launch} {D : va_G} {tys : List (ClassId × FieldType)} {b N : Nat} {σ : Nat → Option va_E} {x y w : Int32} {th fa ls rm : Value} (h54 : σ 54 = some (.inr (9, [th, .int 0, .int 0, .ref (b + 55), .ref (b + 56), .ref (b + 57), .ref (b + 58), .ref (b + 59), .ref (b + 60), .ref (b + 61), .ref (b + 62), .ref (b + 63), .ref (b + 64), .ref (b + 65), fa, .ref (b + 66), .ref (b + 67), ls, .ref (b + 68), .ref (b + 69), .ref (b + 70), .ref (b + 71), rm, .ref (b + 72), .ref (b + 73)]))) : zM l D kCl tys kNw b ky_M_resistance (kh_M_resistance :: zT) 1 40 0 0 [.ref (b + 54), .int x, .int y, .int w] N σ (zY (some (.long (-1))) N) := by
  refine zM.of (by decide +kernel) rfl (Nat.le_of_ble_eq_true rfl) ?_
  refine z_pick (lv' := [(0, .ref (b + 54)), (1, .int x), (2, .int y), (3, .int w)]) [0, 1, 2, 3] rfl ?_
  refine z_aload_n kd_M_resistance_0 0 rfl ?_
  refine z_iconst (v := 0) kd_M_resistance_1 (by decide) ?_
  refine z_putE (fs' := [_, _, _, _, _, _, _, _, _, _, _, _, _, _, _, _, _, _, _, _, _, _, _, _, _]) kd_M_resistance_2 (kp_M_69 _) h54 (Nat.le_of_ble_eq_true rfl) rfl rfl rfl ?_
  refine z_aload_n kd_M_resistance_5 0 rfl ?_
  refine z_iload_n kd_M_resistance_6 1 rfl ?_
  refine z_V1 (a := 54) (As := [_]) kd_M_resistance_7 (kg_M_76 _) rfl kc_M (e_M_isNode rfl) rfl rfl (Nat.le_of_ble_eq_true rfl) ⟨Nat.le_of_ble_eq_true rfl, Nat.le_of_ble_eq_true rfl⟩ ⟨Nat.le_of_ble_eq_true rfl, Nat.le_of_ble_eq_true rfl⟩ ?_
  refine z_if_eq (tgt := 39) kd_M_resistance_10 (by decide) (fun c10 => ?_) (fun c10 => absurd c10 (by decide))
  refine z_ldc2 (v := -1) kd_M_resistance_39 (List.mem_cons_of_mem _ (zin 918 rfl rfl)) ?_
  exact z_lret kd_M_resistance_42 rfl (Nat.le_of_ble_eq_true rfl) (Nat.le_of_ble_eq_true rfl) ⟨rfl, rfl⟩
set_option maxHeartbeats 4000000 in
set_option maxRecDepth 100000 in
theorem e_M_tours {l : Launch} {D : va_G} {tys : List (ClassId × FieldType)} {b N : Nat} {σ : Nat → Option va_E} {th fa ls rm : Value} (h54 : σ 54 = some (.inr (9, [th, .int 0, .int 0, .ref (b + 55), .ref (b + 56), .ref (b + 57), .ref (b + 58), .ref (b + 59), .ref (b + 60), .ref (b + 61), .ref (b + 62), .ref (b + 63), .ref (b + 64), .ref (b + 65), fa, .ref (b + 66), .ref (b + 67), ls, .ref (b + 68), .ref (b + 69), .ref (b + 70), .ref (b + 71), rm, .ref (b + 72), .ref (b + 73)]))) : zM l D kCl tys kNw b ky_M_tours (kh_M_tours :: zT) 0 0 0 0 [.ref (b + 54)] N σ (zY (some (.long 0)) N) := by
  refine zM.of (by decide +kernel) rfl (Nat.le_of_ble_eq_true rfl) ?_
  refine z_pick (lv' := [(0, .ref (b + 54))]) [0] rfl ?_
  refine z_aload_n kd_M_tours_0 0 rfl ?_
  refine z_iconst (v := 0) kd_M_tours_1 (by decide) ?_
  refine z_putE (fs' := [_, _, _, _, _, _, _, _, _, _, _, _, _, _, _, _, _, _, _, _, _, _, _, _, _]) kd_M_tours_2 (kp_M_69 _) h54 (Nat.le_of_ble_eq_true rfl) rfl rfl rfl ?_
  refine z_aload_n kd_M_tours_5 0 rfl ?_
  refine z_get kd_M_tours_6 (kf_M_80 _) rfl rfl ?_
  refine z_if_ne (tgt := 14) kd_M_tours_9 (by decide) (fun c9 => absurd c9 (by decide)) (fun c9 => ?_)
  refine z_lconst (v := 0) kd_M_tours_12 (by decide +kernel) ?_
  exact z_lret kd_M_tours_13 rfl (Nat.le_of_ble_eq_true rfl) (Nat.le_of_ble_eq_true rfl) ⟨rfl, rfl⟩
set_option maxHeartbeats 4000000 in
set_option maxRecDepth 100000 in
theorem e_M_place {l : Launch} {D : va_G} {tys : List (ClassId × FieldType)} {b N : Nat} {σ : Nat → Option va_E} {x : Int32} {th fa ls rm : Value} (h54 : σ 54 = some (.inr (9, [th, .int 0, .int 0, .ref (b + 55), .ref (b + 56), .ref (b + 57), .ref (b + 58), .ref (b + 59), .ref (b + 60), .ref (b + 61), .ref (b + 62), .ref (b + 63), .ref (b + 64), .ref (b + 65), fa, .ref (b + 66), .ref (b + 67), ls, .ref (b + 68), .ref (b + 69), .ref (b + 70), .ref (b + 71), rm, .ref (b + 72), .ref (b + 73)]))) : zM l D kCl tys kNw b ky_M_place (kh_M_place :: zT) 0 0 0 0 [.ref (b + 54), .int x] N σ (zY (some (.long (-1))) N) := by
  refine zM.of (by decide +kernel) rfl (Nat.le_of_ble_eq_true rfl) ?_
  refine z_pick (lv' := [(0, .ref (b + 54)), (1, .int x)]) [0, 1] rfl ?_
  refine z_aload_n kd_M_place_0 0 rfl ?_
  refine z_iconst (v := 0) kd_M_place_1 (by decide) ?_
  refine z_putE (fs' := [_, _, _, _, _, _, _, _, _, _, _, _, _, _, _, _, _, _, _, _, _, _, _, _, _]) kd_M_place_2 (kp_M_69 _) h54 (Nat.le_of_ble_eq_true rfl) rfl rfl rfl ?_
  refine z_aload_n kd_M_place_5 0 rfl ?_
  refine z_get kd_M_place_6 (kf_M_73 _) rfl rfl ?_
  refine z_if_eq (tgt := 25) kd_M_place_9 (by decide) (fun c9 => ?_) (fun c9 => absurd c9 (by decide))
  refine z_ldc2 (v := -1) kd_M_place_25 (List.mem_cons_of_mem _ (zin 918 rfl rfl)) ?_
  exact z_lret kd_M_place_28 rfl (Nat.le_of_ble_eq_true rfl) (Nat.le_of_ble_eq_true rfl) ⟨rfl, rfl⟩
set_option maxHeartbeats 4000000 in
set_option maxRecDepth 100000 in
theorem e_M_chips {l : Launch} {D : va_G} {tys : List (ClassId × FieldType)} {b N : Nat} {σ : Nat → Option va_E} {x w : Int32} {th fa ls rm : Value} (h54 : σ 54 = some (.inr (9, [th, .int 0, .int 0, .ref (b + 55), .ref (b + 56), .ref (b + 57), .ref (b + 58), .ref (b + 59), .ref (b + 60), .ref (b + 61), .ref (b + 62), .ref (b + 63), .ref (b + 64), .ref (b + 65), fa, .ref (b + 66), .ref (b + 67), ls, .ref (b + 68), .ref (b + 69), .ref (b + 70), .ref (b + 71), rm, .ref (b + 72), .ref (b + 73)]))) : zM l D kCl tys kNw b ky_M_chips (kh_M_chips :: zT) 1 40 0 0 [.ref (b + 54), .int x, .int w] N σ (zY (some (.long (-1))) N) := by
  refine zM.of (by decide +kernel) rfl (Nat.le_of_ble_eq_true rfl) ?_
  refine z_pick (lv' := [(0, .ref (b + 54)), (1, .int x), (2, .int w)]) [0, 1, 2] rfl ?_
  refine z_aload_n kd_M_chips_0 0 rfl ?_
  refine z_iconst (v := 0) kd_M_chips_1 (by decide) ?_
  refine z_putE (fs' := [_, _, _, _, _, _, _, _, _, _, _, _, _, _, _, _, _, _, _, _, _, _, _, _, _]) kd_M_chips_2 (kp_M_69 _) h54 (Nat.le_of_ble_eq_true rfl) rfl rfl rfl ?_
  refine z_aload_n kd_M_chips_5 0 rfl ?_
  refine z_iload_n kd_M_chips_6 1 rfl ?_
  refine z_V1 (a := 54) (As := [_]) kd_M_chips_7 (kg_M_76 _) rfl kc_M (e_M_isNode rfl) rfl rfl (Nat.le_of_ble_eq_true rfl) ⟨Nat.le_of_ble_eq_true rfl, Nat.le_of_ble_eq_true rfl⟩ ⟨Nat.le_of_ble_eq_true rfl, Nat.le_of_ble_eq_true rfl⟩ ?_
  refine z_if_eq (tgt := 24) kd_M_chips_10 (by decide) (fun c10 => ?_) (fun c10 => absurd c10 (by decide))
  refine z_ldc2 (v := -1) kd_M_chips_24 (List.mem_cons_of_mem _ (zin 918 rfl rfl)) ?_
  exact z_lret kd_M_chips_27 rfl (Nat.le_of_ble_eq_true rfl) (Nat.le_of_ble_eq_true rfl) ⟨rfl, rfl⟩
set_option maxHeartbeats 4000000 in
set_option maxRecDepth 100000 in
theorem e_M_level {l : Launch} {D : va_G} {tys : List (ClassId × FieldType)} {b N : Nat} {σ : Nat → Option va_E} {x : Int32} {th fa ls rm : Value} (h54 : σ 54 = some (.inr (9, [th, .int 0, .int 0, .ref (b + 55), .ref (b + 56), .ref (b + 57), .ref (b + 58), .ref (b + 59), .ref (b + 60), .ref (b + 61), .ref (b + 62), .ref (b + 63), .ref (b + 64), .ref (b + 65), fa, .ref (b + 66), .ref (b + 67), ls, .ref (b + 68), .ref (b + 69), .ref (b + 70), .ref (b + 71), rm, .ref (b + 72), .ref (b + 73)]))) : zM l D kCl tys kNw b ky_M_level (kh_M_level :: zT) 1 40 0 0 [.ref (b + 54), .int x] N σ (zY (some (.long (-1))) N) := by
  refine zM.of (by decide +kernel) rfl (Nat.le_of_ble_eq_true rfl) ?_
  refine z_pick (lv' := [(0, .ref (b + 54)), (1, .int x)]) [0, 1] rfl ?_
  refine z_aload_n kd_M_level_0 0 rfl ?_
  refine z_iconst (v := 0) kd_M_level_1 (by decide) ?_
  refine z_putE (fs' := [_, _, _, _, _, _, _, _, _, _, _, _, _, _, _, _, _, _, _, _, _, _, _, _, _]) kd_M_level_2 (kp_M_69 _) h54 (Nat.le_of_ble_eq_true rfl) rfl rfl rfl ?_
  refine z_aload_n kd_M_level_5 0 rfl ?_
  refine z_iload_n kd_M_level_6 1 rfl ?_
  refine z_V1 (a := 54) (As := [_]) kd_M_level_7 (kg_M_76 _) rfl kc_M (e_M_isNode rfl) rfl rfl (Nat.le_of_ble_eq_true rfl) ⟨Nat.le_of_ble_eq_true rfl, Nat.le_of_ble_eq_true rfl⟩ ⟨Nat.le_of_ble_eq_true rfl, Nat.le_of_ble_eq_true rfl⟩ ?_
  refine z_if_eq (tgt := 22) kd_M_level_10 (by decide) (fun c10 => ?_) (fun c10 => absurd c10 (by decide))
  refine z_ldc2 (v := -1) kd_M_level_22 (List.mem_cons_of_mem _ (zin 918 rfl rfl)) ?_
  exact z_lret kd_M_level_25 rfl (Nat.le_of_ble_eq_true rfl) (Nat.le_of_ble_eq_true rfl) ⟨rfl, rfl⟩
set_option maxHeartbeats 4000000 in
set_option maxRecDepth 100000 in
theorem e_M_settle {l : Launch} {D : va_G} {tys : List (ClassId × FieldType)} {b N : Nat} {σ : Nat → Option va_E} {x : Int32} {th fa ls rm : Value} (h54 : σ 54 = some (.inr (9, [th, .int 0, .int 0, .ref (b + 55), .ref (b + 56), .ref (b + 57), .ref (b + 58), .ref (b + 59), .ref (b + 60), .ref (b + 61), .ref (b + 62), .ref (b + 63), .ref (b + 64), .ref (b + 65), fa, .ref (b + 66), .ref (b + 67), ls, .ref (b + 68), .ref (b + 69), .ref (b + 70), .ref (b + 71), rm, .ref (b + 72), .ref (b + 73)]))) : zM l D kCl tys kNw b ky_M_settle (kh_M_settle :: zT) 1 40 0 0 [.ref (b + 54), .int x] N σ (zY (some (.long (-1))) N) := by
  refine zM.of (by decide +kernel) rfl (Nat.le_of_ble_eq_true rfl) ?_
  refine z_pick (lv' := [(0, .ref (b + 54)), (1, .int x)]) [0, 1] rfl ?_
  refine z_aload_n kd_M_settle_0 0 rfl ?_
  refine z_iconst (v := 0) kd_M_settle_1 (by decide) ?_
  refine z_putE (fs' := [_, _, _, _, _, _, _, _, _, _, _, _, _, _, _, _, _, _, _, _, _, _, _, _, _]) kd_M_settle_2 (kp_M_69 _) h54 (Nat.le_of_ble_eq_true rfl) rfl rfl rfl ?_
  refine z_aload_n kd_M_settle_5 0 rfl ?_
  refine z_iload_n kd_M_settle_6 1 rfl ?_
  refine z_V1 (a := 54) (As := [_]) kd_M_settle_7 (kg_M_76 _) rfl kc_M (e_M_isNode rfl) rfl rfl (Nat.le_of_ble_eq_true rfl) ⟨Nat.le_of_ble_eq_true rfl, Nat.le_of_ble_eq_true rfl⟩ ⟨Nat.le_of_ble_eq_true rfl, Nat.le_of_ble_eq_true rfl⟩ ?_
  refine z_if_eq (tgt := 22) kd_M_settle_10 (by decide) (fun c10 => ?_) (fun c10 => absurd c10 (by decide))
  refine z_ldc2 (v := -1) kd_M_settle_22 (List.mem_cons_of_mem _ (zin 918 rfl rfl)) ?_
  exact z_lret kd_M_settle_25 rfl (Nat.le_of_ble_eq_true rfl) (Nat.le_of_ble_eq_true rfl) ⟨rfl, rfl⟩
set_option maxHeartbeats 4000000 in
set_option maxRecDepth 100000 in
theorem e_M_fired {l : Launch} {D : va_G} {tys : List (ClassId × FieldType)} {b N : Nat} {σ : Nat → Option va_E} {x : Int32} {th fa ls rm : Value} (h54 : σ 54 = some (.inr (9, [th, .int 0, .int 0, .ref (b + 55), .ref (b + 56), .ref (b + 57), .ref (b + 58), .ref (b + 59), .ref (b + 60), .ref (b + 61), .ref (b + 62), .ref (b + 63), .ref (b + 64), .ref (b + 65), fa, .ref (b + 66), .ref (b + 67), ls, .ref (b + 68), .ref (b + 69), .ref (b + 70), .ref (b + 71), rm, .ref (b + 72), .ref (b + 73)]))) : zM l D kCl tys kNw b ky_M_fired (kh_M_fired :: zT) 1 40 0 0 [.ref (b + 54), .int x] N σ (zY (some (.long 0)) N) := by
  refine zM.of (by decide +kernel) rfl (Nat.le_of_ble_eq_true rfl) ?_
  refine z_pick (lv' := [(0, .ref (b + 54)), (1, .int x)]) [0, 1] rfl ?_
  refine z_aload_n kd_M_fired_0 0 rfl ?_
  refine z_iconst (v := 0) kd_M_fired_1 (by decide) ?_
  refine z_putE (fs' := [_, _, _, _, _, _, _, _, _, _, _, _, _, _, _, _, _, _, _, _, _, _, _, _, _]) kd_M_fired_2 (kp_M_69 _) h54 (Nat.le_of_ble_eq_true rfl) rfl rfl rfl ?_
  refine z_aload_n kd_M_fired_5 0 rfl ?_
  refine z_iload_n kd_M_fired_6 1 rfl ?_
  refine z_V1 (a := 54) (As := [_]) kd_M_fired_7 (kg_M_76 _) rfl kc_M (e_M_isNode rfl) rfl rfl (Nat.le_of_ble_eq_true rfl) ⟨Nat.le_of_ble_eq_true rfl, Nat.le_of_ble_eq_true rfl⟩ ⟨Nat.le_of_ble_eq_true rfl, Nat.le_of_ble_eq_true rfl⟩ ?_
  refine z_if_eq (tgt := 22) kd_M_fired_10 (by decide) (fun c10 => ?_) (fun c10 => absurd c10 (by decide))
  refine z_lconst (v := 0) kd_M_fired_22 (by decide +kernel) ?_
  exact z_lret kd_M_fired_23 rfl (Nat.le_of_ble_eq_true rfl) (Nat.le_of_ble_eq_true rfl) ⟨rfl, rfl⟩
set_option maxHeartbeats 4000000 in
set_option maxRecDepth 100000 in
theorem e_M_recurrent {l : Launch} {D : va_G} {tys : List (ClassId × FieldType)} {b N : Nat} {σ : Nat → Option va_E} {x : Int32} {th fa ls rm : Value} (h54 : σ 54 = some (.inr (9, [th, .int 0, .int 0, .ref (b + 55), .ref (b + 56), .ref (b + 57), .ref (b + 58), .ref (b + 59), .ref (b + 60), .ref (b + 61), .ref (b + 62), .ref (b + 63), .ref (b + 64), .ref (b + 65), fa, .ref (b + 66), .ref (b + 67), ls, .ref (b + 68), .ref (b + 69), .ref (b + 70), .ref (b + 71), rm, .ref (b + 72), .ref (b + 73)]))) : zM l D kCl tys kNw b ky_M_recurrent (kh_M_recurrent :: zT) 1 40 0 0 [.ref (b + 54), .int x] N σ (zY (some (.int (-1))) N) := by
  refine zM.of (by decide +kernel) rfl (Nat.le_of_ble_eq_true rfl) ?_
  refine z_pick (lv' := [(0, .ref (b + 54)), (1, .int x)]) [0, 1] rfl ?_
  refine z_aload_n kd_M_recurrent_0 0 rfl ?_
  refine z_iconst (v := 0) kd_M_recurrent_1 (by decide) ?_
  refine z_putE (fs' := [_, _, _, _, _, _, _, _, _, _, _, _, _, _, _, _, _, _, _, _, _, _, _, _, _]) kd_M_recurrent_2 (kp_M_69 _) h54 (Nat.le_of_ble_eq_true rfl) rfl rfl rfl ?_
  refine z_aload_n kd_M_recurrent_5 0 rfl ?_
  refine z_iload_n kd_M_recurrent_6 1 rfl ?_
  refine z_V1 (a := 54) (As := [_]) kd_M_recurrent_7 (kg_M_76 _) rfl kc_M (e_M_isNode rfl) rfl rfl (Nat.le_of_ble_eq_true rfl) ⟨Nat.le_of_ble_eq_true rfl, Nat.le_of_ble_eq_true rfl⟩ ⟨Nat.le_of_ble_eq_true rfl, Nat.le_of_ble_eq_true rfl⟩ ?_
  refine z_if_eq (tgt := 22) kd_M_recurrent_10 (by decide) (fun c10 => ?_) (fun c10 => absurd c10 (by decide))
  refine z_iconst (v := -1) kd_M_recurrent_22 (by decide) ?_
  exact z_iret kd_M_recurrent_23 rfl (Nat.le_of_ble_eq_true rfl) (Nat.le_of_ble_eq_true rfl) ⟨rfl, rfl⟩
set_option maxHeartbeats 4000000 in
set_option maxRecDepth 100000 in
theorem e_M_clear {l : Launch} {D : va_G} {tys : List (ClassId × FieldType)} {b N : Nat} {σ : Nat → Option va_E} {th nd ar fa ls rm : Value} (h54 : σ 54 = some (.inr (9, [th, nd, ar, .ref (b + 55), .ref (b + 56), .ref (b + 57), .ref (b + 58), .ref (b + 59), .ref (b + 60), .ref (b + 61), .ref (b + 62), .ref (b + 63), .ref (b + 64), .ref (b + 65), fa, .ref (b + 66), .ref (b + 67), ls, .ref (b + 68), .ref (b + 69), .ref (b + 70), .ref (b + 71), rm, .ref (b + 72), .ref (b + 73)]))) : zM l D kCl tys kNw b ky_M_clear (kh_M_clear :: zT) 0 0 0 0 [.ref (b + 54)] N σ (zY none N) := by
  refine zM.of (by decide +kernel) rfl (Nat.le_of_ble_eq_true rfl) ?_
  refine z_pick (lv' := [(0, .ref (b + 54))]) [0] rfl ?_
  refine z_aload_n kd_M_clear_0 0 rfl ?_
  refine z_iconst (v := 0) kd_M_clear_1 (by decide) ?_
  refine z_putE (fs' := [_, _, _, _, _, _, _, _, _, _, _, _, _, _, _, _, _, _, _, _, _, _, _, _, _]) kd_M_clear_2 (kp_M_69 _) h54 (Nat.le_of_ble_eq_true rfl) rfl rfl rfl ?_
  refine z_aload_n kd_M_clear_5 0 rfl ?_
  refine z_iconst (v := 0) kd_M_clear_6 (by decide) ?_
  refine z_putE (fs' := [_, _, _, _, _, _, _, _, _, _, _, _, _, _, _, _, _, _, _, _, _, _, _, _, _]) kd_M_clear_7 (kp_M_73 _) rfl (Nat.le_of_ble_eq_true rfl) rfl rfl rfl ?_
  refine z_aload_n kd_M_clear_10 0 rfl ?_
  refine z_iconst (v := 0) kd_M_clear_11 (by decide) ?_
  refine z_putE (fs' := [_, _, _, _, _, _, _, _, _, _, _, _, _, _, _, _, _, _, _, _, _, _, _, _, _]) kd_M_clear_12 (kp_M_80 _) rfl (Nat.le_of_ble_eq_true rfl) rfl rfl rfl ?_
  exact z_vret kd_M_clear_15 rfl (Nat.le_of_ble_eq_true rfl) (Nat.le_of_ble_eq_true rfl) ⟨rfl, rfl⟩
set_option maxHeartbeats 4000000 in
set_option maxRecDepth 100000 in
theorem e_M_thrown {l : Launch} {D : va_G} {tys : List (ClassId × FieldType)} {b N : Nat} {σ : Nat → Option va_E} {t : Int32} {nd ar fa ls rm : Value} (h54 : σ 54 = some (.inr (9, [.int t, nd, ar, .ref (b + 55), .ref (b + 56), .ref (b + 57), .ref (b + 58), .ref (b + 59), .ref (b + 60), .ref (b + 61), .ref (b + 62), .ref (b + 63), .ref (b + 64), .ref (b + 65), fa, .ref (b + 66), .ref (b + 67), ls, .ref (b + 68), .ref (b + 69), .ref (b + 70), .ref (b + 71), rm, .ref (b + 72), .ref (b + 73)]))) : zM l D kCl tys kNw b ky_M_thrown (kh_M_thrown :: zT) 0 0 0 0 [.ref (b + 54)] N σ (zD (some (.int t)) N σ) := by
  refine zM.of (by decide +kernel) rfl (Nat.le_of_ble_eq_true rfl) ?_
  refine z_pick (lv' := [(0, .ref (b + 54))]) [0] rfl ?_
  refine z_aload_n kd_M_thrown_0 0 rfl ?_
  refine z_get kd_M_thrown_1 (kf_M_69 _) h54 rfl ?_
  exact z_iret kd_M_thrown_4 rfl (Nat.le_of_ble_eq_true rfl) (Nat.le_of_ble_eq_true rfl) ⟨rfl, rfl, rfl⟩
set_option maxHeartbeats 4000000 in
set_option maxRecDepth 100000 in
theorem e_M_apartAll {l : Launch} {D : va_G} {tys : List (ClassId × FieldType)} {b N : Nat} {σ : Nat → Option va_E} {th fa ls rm : Value} (h54 : σ 54 = some (.inr (9, [th, .int 0, .int 0, .ref (b + 55), .ref (b + 56), .ref (b + 57), .ref (b + 58), .ref (b + 59), .ref (b + 60), .ref (b + 61), .ref (b + 62), .ref (b + 63), .ref (b + 64), .ref (b + 65), fa, .ref (b + 66), .ref (b + 67), ls, .ref (b + 68), .ref (b + 69), .ref (b + 70), .ref (b + 71), rm, .ref (b + 72), .ref (b + 73)]))) : zM l D kCl tys kNw b ky_M_apartAll (kh_M_apartAll :: zT) 0 0 0 0 [.ref (b + 54)] N σ (zD none N σ) := by
  refine zM.of (by decide +kernel) rfl (Nat.le_of_ble_eq_true rfl) ?_
  refine z_pick (lv' := [(0, .ref (b + 54))]) [0] rfl ?_
  refine z_iconst (v := 0) kd_M_apartAll_0 (by decide) ?_
  refine z_istore_n (lv' := [(1, .int _), (0, .ref (b + 54))]) kd_M_apartAll_1 (by decide) rfl ?_
  refine z_iload_n kd_M_apartAll_2 0 rfl ?_
  refine z_aload_n kd_M_apartAll_3 1 rfl ?_
  refine z_get kd_M_apartAll_4 (kf_M_73 _) h54 rfl ?_
  refine z_icmp_ge (tgt := 23) kd_M_apartAll_7 (by decide) (fun c7 => ?_) (fun c7 => absurd c7 (by decide))
  exact z_vret kd_M_apartAll_23 rfl (Nat.le_of_ble_eq_true rfl) (Nat.le_of_ble_eq_true rfl) ⟨rfl, rfl, rfl⟩
set_option maxHeartbeats 4000000 in
set_option maxRecDepth 100000 in
theorem e_M_count {l : Launch} {D : va_G} {tys : List (ClassId × FieldType)} {b N : Nat} {σ : Nat → Option va_E} {th fa ls rm : Value} (h54 : σ 54 = some (.inr (9, [th, .int 0, .int 0, .ref (b + 55), .ref (b + 56), .ref (b + 57), .ref (b + 58), .ref (b + 59), .ref (b + 60), .ref (b + 61), .ref (b + 62), .ref (b + 63), .ref (b + 64), .ref (b + 65), fa, .ref (b + 66), .ref (b + 67), ls, .ref (b + 68), .ref (b + 69), .ref (b + 70), .ref (b + 71), rm, .ref (b + 72), .ref (b + 73)]))) : zM l D kCl tys kNw b ky_M_count (kh_M_count :: zT) 0 0 0 0 [.ref (b + 54)] N σ (zD (some (.long 0)) N σ) := by
  refine zM.of (by decide +kernel) rfl (Nat.le_of_ble_eq_true rfl) ?_
  refine z_pick (lv' := [(0, .ref (b + 54))]) [0] rfl ?_
  refine z_aload_n kd_M_count_0 0 rfl ?_
  refine z_get kd_M_count_1 (kf_M_73 _) h54 rfl ?_
  refine z_if_ne (tgt := 9) kd_M_count_4 (by decide) (fun c4 => absurd c4 (by decide)) (fun c4 => ?_)
  refine z_lconst (v := 0) kd_M_count_7 (by decide +kernel) ?_
  exact z_lret kd_M_count_8 rfl (Nat.le_of_ble_eq_true rfl) (Nat.le_of_ble_eq_true rfl) ⟨rfl, rfl, rfl⟩
set_option maxHeartbeats 4000000 in
set_option maxRecDepth 100000 in
theorem e_M_trees {l : Launch} {D : va_G} {tys : List (ClassId × FieldType)} {b N : Nat} {σ : Nat → Option va_E} {cI cJ cZ : ClassId} (ht0 : tys[0]? = some (cI, .int)) (ht1 : tys[1]? = some (cJ, .long)) (ht2 : tys[2]? = some (cZ, .boolean)) {th fa ls rm : Value} (h54 : σ 54 = some (.inr (9, [th, .int 0, .int 0, .ref (b + 55), .ref (b + 56), .ref (b + 57), .ref (b + 58), .ref (b + 59), .ref (b + 60), .ref (b + 61), .ref (b + 62), .ref (b + 63), .ref (b + 64), .ref (b + 65), fa, .ref (b + 66), .ref (b + 67), ls, .ref (b + 68), .ref (b + 69), .ref (b + 70), .ref (b + 71), rm, .ref (b + 72), .ref (b + 73)]))) {g63 : Nat → Int32} (h63 : σ 63 = some (.inl (cZ, 30, .inl g63))) : zM l D kCl tys kNw b ky_M_trees (kh_M_trees :: zT) 1 50 0 0 [.ref (b + 54)] N σ (fun oc N' σ' => oc = .returned (some (.long 0)) ∧ N' = N ∧ ∃ g : Nat → Int32, σ' = zUp (zUp σ 54 (.inr (9, [.int 0, .int 0, .int 0, .ref (b + 55), .ref (b + 56), .ref (b + 57), .ref (b + 58), .ref (b + 59), .ref (b + 60), .ref (b + 61), .ref (b + 62), .ref (b + 63), .ref (b + 64), .ref (b + 65), fa, .ref (b + 66), .ref (b + 67), ls, .ref (b + 68), .ref (b + 69), .ref (b + 70), .ref (b + 71), rm, .ref (b + 72), .ref (b + 73)]))) 63 (.inl (cZ, 30, .inl g))) := by
  refine zM.of (by decide +kernel) rfl (Nat.le_of_ble_eq_true rfl) ?_
  refine z_pick (lv' := [(0, .ref (b + 54))]) [0] rfl ?_
  refine z_aload_n kd_M_trees_0 0 rfl ?_
  refine z_iconst (v := 0) kd_M_trees_1 (by decide) ?_
  refine z_putE (fs' := [_, _, _, _, _, _, _, _, _, _, _, _, _, _, _, _, _, _, _, _, _, _, _, _, _]) kd_M_trees_2 (kp_M_69 _) h54 (Nat.le_of_ble_eq_true rfl) rfl rfl rfl ?_
  refine z_aload_n kd_M_trees_5 0 rfl ?_
  refine z_V0 (a := 54) (As := []) kd_M_trees_6 (kg_M_121 _) rfl kc_M (e_M_apartAll rfl) rfl rfl (Nat.le_of_ble_eq_true rfl) ⟨Nat.le_of_ble_eq_true rfl, Nat.le_of_ble_eq_true rfl⟩ ⟨Nat.le_of_ble_eq_true rfl, Nat.le_of_ble_eq_true rfl⟩ ?_
  refine z_aload_n kd_M_trees_9 0 rfl ?_
  refine z_callV (a := 54) (As := []) kd_M_trees_10 (kg_M_124 _) rfl kc_M (c_M_noneOut ht2 rfl h63) rfl rfl (Nat.le_of_ble_eq_true rfl) ⟨Nat.le_of_ble_eq_true rfl, Nat.le_of_ble_eq_true rfl⟩ ⟨Nat.le_of_ble_eq_true rfl, Nat.le_of_ble_eq_true rfl⟩ ?_
  rintro _ _ _ ⟨hv, rfl, gz, hgz, rfl⟩
  cases hv
  refine z_eq (st' := []) rfl rfl rfl rfl ?_
  refine z_aload_n kd_M_trees_13 0 rfl ?_
  refine z_V1 (a := 54) (As := []) kd_M_trees_14 (kg_M_127 _) rfl kc_M (e_M_count rfl) rfl rfl (Nat.le_of_ble_eq_true rfl) ⟨Nat.le_of_ble_eq_true rfl, Nat.le_of_ble_eq_true rfl⟩ ⟨Nat.le_of_ble_eq_true rfl, Nat.le_of_ble_eq_true rfl⟩ ?_
  exact z_lret kd_M_trees_17 rfl (Nat.le_of_ble_eq_true rfl) (Nat.le_of_ble_eq_true rfl) ⟨rfl, rfl, gz, rfl⟩
set_option maxHeartbeats 4000000 in
set_option maxRecDepth 100000 in
theorem e_M_drawn {l : Launch} {D : va_G} {tys : List (ClassId × FieldType)} {b N : Nat} {σ : Nat → Option va_E} {cI cJ cZ : ClassId} (ht0 : tys[0]? = some (cI, .int)) (ht1 : tys[1]? = some (cJ, .long)) (ht2 : tys[2]? = some (cZ, .boolean)) {p : Int64} {th fa ls rm : Value} (h54 : σ 54 = some (.inr (9, [th, .int 0, .int 0, .ref (b + 55), .ref (b + 56), .ref (b + 57), .ref (b + 58), .ref (b + 59), .ref (b + 60), .ref (b + 61), .ref (b + 62), .ref (b + 63), .ref (b + 64), .ref (b + 65), fa, .ref (b + 66), .ref (b + 67), ls, .ref (b + 68), .ref (b + 69), .ref (b + 70), .ref (b + 71), rm, .ref (b + 72), .ref (b + 73)]))) {g63 : Nat → Int32} (h63 : σ 63 = some (.inl (cZ, 30, .inl g63))) : zM l D kCl tys kNw b ky_M_drawn (kh_M_drawn :: zT) 2 90 0 0 [.ref (b + 54), .long p] N σ (zY (some (.int (-1))) N) := by
  refine zM.of (by decide +kernel) rfl (Nat.le_of_ble_eq_true rfl) ?_
  refine z_pick (lv' := [(0, .ref (b + 54)), (1, .long p)]) [0, 1] rfl ?_
  refine z_aload_n kd_M_drawn_0 0 rfl ?_
  refine z_iconst (v := 0) kd_M_drawn_1 (by decide) ?_
  refine z_putE (fs' := [_, _, _, _, _, _, _, _, _, _, _, _, _, _, _, _, _, _, _, _, _, _, _, _, _]) kd_M_drawn_2 (kp_M_69 _) h54 (Nat.le_of_ble_eq_true rfl) rfl rfl rfl ?_
  refine z_lload_n kd_M_drawn_5 1 rfl ?_
  refine z_lconst (v := 0) kd_M_drawn_6 (by decide +kernel) ?_
  refine z_lcmp kd_M_drawn_7 ?_
  refine z_if_lt (tgt := 20) kd_M_drawn_8 (by decide) (fun c8 => ?_) (fun c8 => ?_)
  · refine z_iconst (v := -1) kd_M_drawn_20 (by decide) ?_
    exact z_iret kd_M_drawn_21 rfl (Nat.le_of_ble_eq_true rfl) (Nat.le_of_ble_eq_true rfl) ⟨rfl, rfl⟩
  · refine z_lload_n kd_M_drawn_11 1 rfl ?_
    refine z_aload_n kd_M_drawn_12 0 rfl ?_
    refine z_callV (a := 54) (As := []) kd_M_drawn_13 (kg_M_133 _) rfl kc_M (e_M_trees ht0 ht1 ht2 rfl h63) rfl rfl (Nat.le_of_ble_eq_true rfl) ⟨Nat.le_of_ble_eq_true rfl, Nat.le_of_ble_eq_true rfl⟩ ⟨Nat.le_of_ble_eq_true rfl, Nat.le_of_ble_eq_true rfl⟩ ?_
    rintro _ _ _ ⟨hv, rfl, gz, rfl⟩
    cases hv
    refine z_eq (st' := [.long 0, .long p]) rfl rfl rfl rfl ?_
    refine z_lcmp kd_M_drawn_16 ?_
    refine z_if_lt (tgt := 22) kd_M_drawn_17 (by decide) (fun c17 => ?_) (fun c17 => ?_)
    · exact absurd c17 c8
    · refine z_iconst (v := -1) kd_M_drawn_20 (by decide) ?_
      exact z_iret kd_M_drawn_21 rfl (Nat.le_of_ble_eq_true rfl) (Nat.le_of_ble_eq_true rfl) ⟨rfl, rfl⟩
set_option maxHeartbeats 4000000 in
set_option maxRecDepth 100000 in
theorem e_M_findRounds {l : Launch} {D : va_G} {tys : List (ClassId × FieldType)} {b N : Nat} {σ : Nat → Option va_E} {cI cJ cZ : ClassId} (ht0 : tys[0]? = some (cI, .int)) (ht1 : tys[1]? = some (cJ, .long)) (ht2 : tys[2]? = some (cZ, .boolean)) {th fa ls rm : Value} (h54 : σ 54 = some (.inr (9, [th, .int 0, .int 0, .ref (b + 55), .ref (b + 56), .ref (b + 57), .ref (b + 58), .ref (b + 59), .ref (b + 60), .ref (b + 61), .ref (b + 62), .ref (b + 63), .ref (b + 64), .ref (b + 65), fa, .ref (b + 66), .ref (b + 67), ls, .ref (b + 68), .ref (b + 69), .ref (b + 70), .ref (b + 71), rm, .ref (b + 72), .ref (b + 73)]))) {g63 : Nat → Int32} (h63 : σ 63 = some (.inl (cZ, 30, .inl g63))) : zM l D kCl tys kNw b ky_M_findRounds (kh_M_findRounds :: zT) 2 90 0 0 [.ref (b + 54)] N σ (zY (some (.int 0)) N) := by
  refine zM.of (by decide +kernel) rfl (Nat.le_of_ble_eq_true rfl) ?_
  refine z_pick (lv' := [(0, .ref (b + 54))]) [0] rfl ?_
  refine z_aload_n kd_M_findRounds_0 0 rfl ?_
  refine z_callV (a := 54) (As := []) kd_M_findRounds_1 (kg_M_133 _) h54 kc_M (e_M_trees ht0 ht1 ht2 h54 h63) rfl rfl (Nat.le_of_ble_eq_true rfl) ⟨Nat.le_of_ble_eq_true rfl, Nat.le_of_ble_eq_true rfl⟩ ⟨Nat.le_of_ble_eq_true rfl, Nat.le_of_ble_eq_true rfl⟩ ?_
  rintro _ _ _ ⟨hv, rfl, gz, rfl⟩
  cases hv
  refine z_eq (st' := [.long 0]) rfl rfl rfl rfl ?_
  refine z_lstore_n (lv' := [(1, .long _), (0, .ref (b + 54))]) kd_M_findRounds_4 (by decide) rfl ?_
  refine z_aload_n kd_M_findRounds_5 1 rfl ?_
  refine z_iconst (v := 0) kd_M_findRounds_6 (by decide) ?_
  refine z_putE (fs' := [_, _, _, _, _, _, _, _, _, _, _, _, _, _, _, _, _, _, _, _, _, _, _, _, _]) kd_M_findRounds_7 (kp_M_183 _) rfl (Nat.le_of_ble_eq_true rfl) rfl rfl rfl ?_
  refine z_lload_n kd_M_findRounds_10 0 rfl ?_
  refine z_lconst (v := 0) kd_M_findRounds_11 (by decide +kernel) ?_
  refine z_lcmp kd_M_findRounds_12 ?_
  refine z_topi (show _ = (0 : Int32) from by decide +kernel) ?_
  refine z_if_ne (tgt := 18) kd_M_findRounds_13 (by decide) (fun c13 => absurd c13 (by decide)) (fun c13 => ?_)
  refine z_iconst (v := 0) kd_M_findRounds_16 (by decide) ?_
  exact z_zret kd_M_findRounds_17 rfl rfl (Nat.le_of_ble_eq_true rfl) (Nat.le_of_ble_eq_true rfl) ⟨rfl, rfl⟩
set_option maxHeartbeats 4000000 in
set_option maxRecDepth 100000 in
theorem e_M_group {l : Launch} {D : va_G} {tys : List (ClassId × FieldType)} {b N : Nat} {σ : Nat → Option va_E} {cI cJ cZ : ClassId} (ht0 : tys[0]? = some (cI, .int)) (ht1 : tys[1]? = some (cJ, .long)) (ht2 : tys[2]? = some (cZ, .boolean)) {k : Int32} {th fa ls rm : Value} (h54 : σ 54 = some (.inr (9, [th, .int 0, .int 0, .ref (b + 55), .ref (b + 56), .ref (b + 57), .ref (b + 58), .ref (b + 59), .ref (b + 60), .ref (b + 61), .ref (b + 62), .ref (b + 63), .ref (b + 64), .ref (b + 65), fa, .ref (b + 66), .ref (b + 67), ls, .ref (b + 68), .ref (b + 69), .ref (b + 70), .ref (b + 71), rm, .ref (b + 72), .ref (b + 73)]))) {g63 : Nat → Int32} (h63 : σ 63 = some (.inl (cZ, 30, .inl g63))) : zM l D kCl tys kNw b ky_M_group (kh_M_group :: zT) 3 130 0 0 [.ref (b + 54), .int k] N σ (zY (some (.long (-1))) N) := by
  refine zM.of (by decide +kernel) rfl (Nat.le_of_ble_eq_true rfl) ?_
  refine z_pick (lv' := [(0, .ref (b + 54)), (1, .int k)]) [0, 1] rfl ?_
  refine z_aload_n kd_M_group_0 0 rfl ?_
  refine z_iconst (v := 0) kd_M_group_1 (by decide) ?_
  refine z_putE (fs' := [_, _, _, _, _, _, _, _, _, _, _, _, _, _, _, _, _, _, _, _, _, _, _, _, _]) kd_M_group_2 (kp_M_69 _) h54 (Nat.le_of_ble_eq_true rfl) rfl rfl rfl ?_
  refine z_aload_n kd_M_group_5 0 rfl ?_
  refine z_callV (a := 54) (As := []) kd_M_group_6 (kg_M_197 _) rfl kc_M (e_M_findRounds ht0 ht1 ht2 rfl h63) rfl rfl (Nat.le_of_ble_eq_true rfl) ⟨Nat.le_of_ble_eq_true rfl, Nat.le_of_ble_eq_true rfl⟩ ⟨Nat.le_of_ble_eq_true rfl, Nat.le_of_ble_eq_true rfl⟩ ?_
  rintro _ _ σ2 ⟨hv, rfl⟩
  cases hv
  refine z_eq (st' := [.int 0]) rfl rfl rfl rfl ?_
  refine z_if_eq (tgt := 33) kd_M_group_9 (by decide) (fun c9 => ?_) (fun c9 => absurd c9 (by decide))
  refine z_ldc2 (v := -1) kd_M_group_33 (List.mem_cons_of_mem _ (zin 918 rfl rfl)) ?_
  exact z_lret kd_M_group_36 rfl (Nat.le_of_ble_eq_true rfl) (Nat.le_of_ble_eq_true rfl) ⟨rfl, rfl⟩
set_option maxHeartbeats 4000000 in
set_option maxRecDepth 100000 in
theorem e_M_takeTrees {l : Launch} {D : va_G} {tys : List (ClassId × FieldType)} {b N : Nat} {σ : Nat → Option va_E} {th fa ls rm : Value} (h54 : σ 54 = some (.inr (9, [th, .int 0, .int 0, .ref (b + 55), .ref (b + 56), .ref (b + 57), .ref (b + 58), .ref (b + 59), .ref (b + 60), .ref (b + 61), .ref (b + 62), .ref (b + 63), .ref (b + 64), .ref (b + 65), fa, .ref (b + 66), .ref (b + 67), ls, .ref (b + 68), .ref (b + 69), .ref (b + 70), .ref (b + 71), rm, .ref (b + 72), .ref (b + 73)]))) : zM l D kCl tys kNw b ky_M_takeTrees (kh_M_takeTrees :: zT) 1 50 0 0 [.ref (b + 54)] N σ (zD (some (.int 0)) N σ) := by
  refine zM.of (by decide +kernel) rfl (Nat.le_of_ble_eq_true rfl) ?_
  refine z_pick (lv' := [(0, .ref (b + 54))]) [0] rfl ?_
  refine z_iconst (v := 0) kd_M_takeTrees_0 (by decide) ?_
  refine z_istore_n (lv' := [(1, .int _), (0, .ref (b + 54))]) kd_M_takeTrees_1 (by decide) rfl ?_
  refine z_aload_n kd_M_takeTrees_2 1 rfl ?_
  refine z_V0 (a := 54) (As := []) kd_M_takeTrees_3 (kg_M_121 _) h54 kc_M (e_M_apartAll h54) rfl rfl (Nat.le_of_ble_eq_true rfl) ⟨Nat.le_of_ble_eq_true rfl, Nat.le_of_ble_eq_true rfl⟩ ⟨Nat.le_of_ble_eq_true rfl, Nat.le_of_ble_eq_true rfl⟩ ?_
  refine z_iconst (v := 0) kd_M_takeTrees_6 (by decide) ?_
  refine z_istore_n (lv' := [(2, .int _), (1, .int _), (0, .ref (b + 54))]) kd_M_takeTrees_7 (by decide) rfl ?_
  refine z_iload_n kd_M_takeTrees_8 0 rfl ?_
  refine z_aload_n kd_M_takeTrees_9 2 rfl ?_
  refine z_get kd_M_takeTrees_10 (kf_M_80 _) h54 rfl ?_
  refine z_icmp_ge (tgt := 61) kd_M_takeTrees_13 (by decide) (fun c13 => ?_) (fun c13 => absurd c13 (by decide))
  refine z_iload_n kd_M_takeTrees_61 1 rfl ?_
  exact z_iret kd_M_takeTrees_62 rfl (Nat.le_of_ble_eq_true rfl) (Nat.le_of_ble_eq_true rfl) ⟨rfl, rfl, rfl⟩
set_option maxHeartbeats 4000000 in
set_option maxRecDepth 100000 in
theorem e_M_ring {l : Launch} {D : va_G} {tys : List (ClassId × FieldType)} {b N : Nat} {σ : Nat → Option va_E} {x k : Int32} {th fa ls rm : Value} (h54 : σ 54 = some (.inr (9, [th, .int 0, .int 0, .ref (b + 55), .ref (b + 56), .ref (b + 57), .ref (b + 58), .ref (b + 59), .ref (b + 60), .ref (b + 61), .ref (b + 62), .ref (b + 63), .ref (b + 64), .ref (b + 65), fa, .ref (b + 66), .ref (b + 67), ls, .ref (b + 68), .ref (b + 69), .ref (b + 70), .ref (b + 71), rm, .ref (b + 72), .ref (b + 73)]))) : zM l D kCl tys kNw b ky_M_ring (kh_M_ring :: zT) 2 90 0 0 [.ref (b + 54), .int x, .int k] N σ (zY (some (.int (-1))) N) := by
  refine zM.of (by decide +kernel) rfl (Nat.le_of_ble_eq_true rfl) ?_
  refine z_pick (lv' := [(0, .ref (b + 54)), (1, .int x), (2, .int k)]) [0, 1, 2] rfl ?_
  refine z_aload_n kd_M_ring_0 0 rfl ?_
  refine z_iconst (v := 0) kd_M_ring_1 (by decide) ?_
  refine z_putE (fs' := [_, _, _, _, _, _, _, _, _, _, _, _, _, _, _, _, _, _, _, _, _, _, _, _, _]) kd_M_ring_2 (kp_M_69 _) h54 (Nat.le_of_ble_eq_true rfl) rfl rfl rfl ?_
  refine z_iload_n kd_M_ring_5 1 rfl ?_
  refine z_if_lt (tgt := 21) kd_M_ring_6 (by decide) (fun c6 => ?_) (fun c6 => ?_)
  · refine z_iconst (v := -1) kd_M_ring_21 (by decide) ?_
    exact z_iret kd_M_ring_22 rfl (Nat.le_of_ble_eq_true rfl) (Nat.le_of_ble_eq_true rfl) ⟨rfl, rfl⟩
  · refine z_iload_n kd_M_ring_9 2 rfl ?_
    refine z_if_lt (tgt := 21) kd_M_ring_10 (by decide) (fun c10 => ?_) (fun c10 => ?_)
    · refine z_iconst (v := -1) kd_M_ring_21 (by decide) ?_
      exact z_iret kd_M_ring_22 rfl (Nat.le_of_ble_eq_true rfl) (Nat.le_of_ble_eq_true rfl) ⟨rfl, rfl⟩
    · refine z_iload_n kd_M_ring_13 1 rfl ?_
      refine z_aload_n kd_M_ring_14 0 rfl ?_
      refine z_V1 (a := 54) (As := []) kd_M_ring_15 (kg_M_158 _) rfl kc_M (e_M_takeTrees rfl) rfl rfl (Nat.le_of_ble_eq_true rfl) ⟨Nat.le_of_ble_eq_true rfl, Nat.le_of_ble_eq_true rfl⟩ ⟨Nat.le_of_ble_eq_true rfl, Nat.le_of_ble_eq_true rfl⟩ ?_
      refine z_icmp_lt (tgt := 23) kd_M_ring_18 (by decide) (fun c18 => ?_) (fun c18 => ?_)
      · exact absurd c18 c6
      · refine z_iconst (v := -1) kd_M_ring_21 (by decide) ?_
        exact z_iret kd_M_ring_22 rfl (Nat.le_of_ble_eq_true rfl) (Nat.le_of_ble_eq_true rfl) ⟨rfl, rfl⟩
set_option maxHeartbeats 4000000 in
set_option maxRecDepth 100000 in
theorem e_M_rank {l : Launch} {D : va_G} {tys : List (ClassId × FieldType)} {b N : Nat} {σ : Nat → Option va_E} {x : Int32} {th fa ls rm : Value} (h54 : σ 54 = some (.inr (9, [th, .int 0, .int 0, .ref (b + 55), .ref (b + 56), .ref (b + 57), .ref (b + 58), .ref (b + 59), .ref (b + 60), .ref (b + 61), .ref (b + 62), .ref (b + 63), .ref (b + 64), .ref (b + 65), fa, .ref (b + 66), .ref (b + 67), ls, .ref (b + 68), .ref (b + 69), .ref (b + 70), .ref (b + 71), rm, .ref (b + 72), .ref (b + 73)]))) : zM l D kCl tys kNw b ky_M_rank (kh_M_rank :: zT) 1 50 0 0 [.ref (b + 54), .int x] N σ (zD (some (.int 0)) N σ) := by
  refine zM.of (by decide +kernel) rfl (Nat.le_of_ble_eq_true rfl) ?_
  refine z_pick (lv' := [(0, .ref (b + 54)), (1, .int x)]) [0, 1] rfl ?_
  refine z_aload_n kd_M_rank_0 0 rfl ?_
  refine z_V0 (a := 54) (As := []) kd_M_rank_1 (kg_M_121 _) h54 kc_M (e_M_apartAll h54) rfl rfl (Nat.le_of_ble_eq_true rfl) ⟨Nat.le_of_ble_eq_true rfl, Nat.le_of_ble_eq_true rfl⟩ ⟨Nat.le_of_ble_eq_true rfl, Nat.le_of_ble_eq_true rfl⟩ ?_
  refine z_iconst (v := 0) kd_M_rank_4 (by decide) ?_
  refine z_istore_n (lv' := [(2, .int _), (0, .ref (b + 54)), (1, .int _)]) kd_M_rank_5 (by decide) rfl ?_
  refine z_iconst (v := 0) kd_M_rank_6 (by decide) ?_
  refine z_istore_n (lv' := [(3, .int _), (2, .int _), (0, .ref (b + 54)), (1, .int _)]) kd_M_rank_7 (by decide) rfl ?_
  refine z_iload_n kd_M_rank_8 0 rfl ?_
  refine z_aload_n kd_M_rank_9 2 rfl ?_
  refine z_get kd_M_rank_10 (kf_M_80 _) h54 rfl ?_
  refine z_icmp_ge (tgt := 53) kd_M_rank_13 (by decide) (fun c13 => ?_) (fun c13 => absurd c13 (by decide))
  refine z_iload_n kd_M_rank_53 1 rfl ?_
  exact z_iret kd_M_rank_54 rfl (Nat.le_of_ble_eq_true rfl) (Nat.le_of_ble_eq_true rfl) ⟨rfl, rfl, rfl⟩
set_option maxHeartbeats 4000000 in
set_option maxRecDepth 100000 in
theorem e_M_powerOf {l : Launch} {D : va_G} {tys : List (ClassId × FieldType)} {b N : Nat} {σ : Nat → Option va_E} {x : Int64} : zM l D kCl tys kNw b ky_M_powerOf (kh_M_powerOf :: zT) 0 0 0 0 [.long x, .int 0] N σ (zD (some (.long 1)) N σ) := by
  refine zM.of (by decide +kernel) rfl (Nat.le_of_ble_eq_true rfl) ?_
  refine z_pick (lv' := [(0, .long x), (2, .int 0)]) [0, 1] rfl ?_
  refine z_lconst (v := 1) kd_M_powerOf_0 (by decide +kernel) ?_
  refine z_lstore_n (lv' := [(3, .long _), (0, .long _), (2, .int _)]) kd_M_powerOf_1 (by decide) rfl ?_
  refine z_iconst (v := 0) kd_M_powerOf_2 (by decide) ?_
  refine z_istore (lv' := [(5, .int _), (3, .long _), (0, .long _), (2, .int _)]) kd_M_powerOf_3 (by decide) rfl ?_
  refine z_iload kd_M_powerOf_5 0 rfl ?_
  refine z_iload_n kd_M_powerOf_7 3 rfl ?_
  refine z_icmp_ge (tgt := 21) kd_M_powerOf_8 (by decide) (fun c8 => ?_) (fun c8 => absurd c8 (by decide))
  refine z_lload_n kd_M_powerOf_21 1 rfl ?_
  exact z_lret kd_M_powerOf_22 rfl (Nat.le_of_ble_eq_true rfl) (Nat.le_of_ble_eq_true rfl) ⟨rfl, rfl, rfl⟩
set_option maxHeartbeats 4000000 in
set_option maxRecDepth 100000 in
theorem e_M_point {l : Launch} {D : va_G} {tys : List (ClassId × FieldType)} {b N : Nat} {σ : Nat → Option va_E} {x y : Int64} {th fa ls rm : Value} (h54 : σ 54 = some (.inr (9, [th, .int 0, .int 0, .ref (b + 55), .ref (b + 56), .ref (b + 57), .ref (b + 58), .ref (b + 59), .ref (b + 60), .ref (b + 61), .ref (b + 62), .ref (b + 63), .ref (b + 64), .ref (b + 65), fa, .ref (b + 66), .ref (b + 67), ls, .ref (b + 68), .ref (b + 69), .ref (b + 70), .ref (b + 71), rm, .ref (b + 72), .ref (b + 73)]))) : zM l D kCl tys kNw b ky_M_point (kh_M_point :: zT) 2 90 0 0 [.ref (b + 54), .long x, .long y] N σ (fun oc N' σ' => oc = .returned (some (.long 1)) ∧ N' = N ∧ σ' 54 = some (.inr (9, [.int 0, .int 0, .int 0, .ref (b + 55), .ref (b + 56), .ref (b + 57), .ref (b + 58), .ref (b + 59), .ref (b + 60), .ref (b + 61), .ref (b + 62), .ref (b + 63), .ref (b + 64), .ref (b + 65), fa, .ref (b + 66), .ref (b + 67), ls, .ref (b + 68), .ref (b + 69), .ref (b + 70), .ref (b + 71), rm, .ref (b + 72), .ref (b + 73)])) ∧ σ' 74 = σ 74) := by
  refine zM.of (by decide +kernel) rfl (Nat.le_of_ble_eq_true rfl) ?_
  refine z_pick (lv' := [(0, .ref (b + 54)), (1, .long x), (3, .long y)]) [0, 1, 2] rfl ?_
  refine z_aload_n kd_M_point_0 0 rfl ?_
  refine z_aload_n kd_M_point_1 0 rfl ?_
  refine z_get kd_M_point_2 (kf_M_80 _) h54 rfl ?_
  refine z_bipush (v := 14) kd_M_point_5 (by decide +kernel) ?_
  refine z_icmp_le (tgt := 14) kd_M_point_7 (by decide) (fun c7 => ?_) (fun c7 => absurd c7 (by decide))
  refine z_iconst (v := 0) kd_M_point_14 (by decide) ?_
  refine z_putE (fs' := [_, _, _, _, _, _, _, _, _, _, _, _, _, _, _, _, _, _, _, _, _, _, _, _, _]) kd_M_point_15 (kp_M_69 _) h54 (Nat.le_of_ble_eq_true rfl) rfl rfl rfl ?_
  refine z_aload_n kd_M_point_18 0 rfl ?_
  refine z_get kd_M_point_19 (kf_M_69 _) rfl rfl ?_
  refine z_if_le (tgt := 27) kd_M_point_22 (by decide) (fun c22 => ?_) (fun c22 => absurd c22 (by decide))
  refine z_aload_n kd_M_point_27 0 rfl ?_
  refine z_iconst (v := 1) kd_M_point_28 (by decide) ?_
  refine z_aload_n kd_M_point_29 0 rfl ?_
  refine z_get kd_M_point_30 (kf_M_80 _) rfl rfl ?_
  refine z_ishl kd_M_point_33 ?_
  refine z_topi (show _ = (1 : Int32) from by decide +kernel) ?_
  refine z_iconst (v := 1) kd_M_point_34 (by decide) ?_
  refine z_isub kd_M_point_35 ?_
  refine z_topi (show _ = (0 : Int32) from by decide +kernel) ?_
  refine z_V1 (a := 54) (As := [_]) kd_M_point_36 (kg_M_214 _) rfl kc_M (e_M_rank rfl) rfl rfl (Nat.le_of_ble_eq_true rfl) ⟨Nat.le_of_ble_eq_true rfl, Nat.le_of_ble_eq_true rfl⟩ ⟨Nat.le_of_ble_eq_true rfl, Nat.le_of_ble_eq_true rfl⟩ ?_
  refine z_istore (lv' := [(5, .int _), (0, .ref (b + 54)), (1, .long _), (3, .long _)]) kd_M_point_39 (by decide) rfl ?_
  refine z_lconst (v := 0) kd_M_point_41 (by decide +kernel) ?_
  refine z_lstore (lv' := [(6, .long _), (5, .int _), (0, .ref (b + 54)), (1, .long _), (3, .long _)]) kd_M_point_42 (by decide) rfl ?_
  refine z_iconst (v := 0) kd_M_point_44 (by decide) ?_
  refine z_istore (lv' := [(8, .int _), (6, .long _), (5, .int _), (0, .ref (b + 54)), (1, .long _), (3, .long _)]) kd_M_point_45 (by decide) rfl ?_
  refine z_iload kd_M_point_47 0 rfl ?_
  refine z_iconst (v := 1) kd_M_point_49 (by decide) ?_
  refine z_aload_n kd_M_point_50 3 rfl ?_
  refine z_get kd_M_point_51 (kf_M_80 _) rfl rfl ?_
  refine z_ishl kd_M_point_54 ?_
  refine z_topi (show _ = (1 : Int32) from by decide +kernel) ?_
  refine z_icmp_ge (tgt := 133) kd_M_point_55 (by decide) (fun c55 => absurd c55 (by decide)) (fun c55 => ?_)
  refine z_iconst (v := 0) kd_M_point_58 (by decide) ?_
  refine z_istore (lv' := [(9, .int _), (8, .int _), (6, .long _), (5, .int _), (0, .ref (b + 54)), (1, .long _), (3, .long _)]) kd_M_point_59 (by decide) rfl ?_
  refine z_iconst (v := 0) kd_M_point_61 (by decide) ?_
  refine z_istore (lv' := [(10, .int _), (9, .int _), (8, .int _), (6, .long _), (5, .int _), (0, .ref (b + 54)), (1, .long _), (3, .long _)]) kd_M_point_62 (by decide) rfl ?_
  refine z_iload kd_M_point_64 0 rfl ?_
  refine z_aload_n kd_M_point_66 5 rfl ?_
  refine z_get kd_M_point_67 (kf_M_80 _) rfl rfl ?_
  refine z_icmp_ge (tgt := 91) kd_M_point_70 (by decide) (fun c70 => ?_) (fun c70 => absurd c70 (by decide))
  refine z_aload_n kd_M_point_91 5 rfl ?_
  refine z_iload kd_M_point_92 2 rfl ?_
  refine z_V1 (a := 54) (As := [_]) kd_M_point_94 (kg_M_214 _) rfl kc_M (e_M_rank rfl) rfl rfl (Nat.le_of_ble_eq_true rfl) ⟨Nat.le_of_ble_eq_true rfl, Nat.le_of_ble_eq_true rfl⟩ ⟨Nat.le_of_ble_eq_true rfl, Nat.le_of_ble_eq_true rfl⟩ ?_
  refine z_istore (lv' := [(10, .int _), (9, .int _), (8, .int _), (6, .long _), (5, .int _), (0, .ref (b + 54)), (1, .long _), (3, .long _)]) kd_M_point_97 (by decide) rfl ?_
  refine z_lload kd_M_point_99 3 rfl ?_
  refine z_lload_n kd_M_point_101 6 rfl ?_
  refine z_lconst (v := 1) kd_M_point_102 (by decide +kernel) ?_
  refine z_lsub kd_M_point_103 ?_
  refine z_iload kd_M_point_104 4 rfl ?_
  refine z_iload kd_M_point_106 0 rfl ?_
  refine z_isub kd_M_point_108 ?_
  refine z_topi (show _ = (0 : Int32) from by decide +kernel) ?_
  refine z_S1 (As := [_, _]) kd_M_point_109 (kg_M_218 _) e_M_powerOf rfl rfl (Nat.le_of_ble_eq_true rfl) ⟨Nat.le_of_ble_eq_true rfl, Nat.le_of_ble_eq_true rfl⟩ ⟨Nat.le_of_ble_eq_true rfl, Nat.le_of_ble_eq_true rfl⟩ ?_
  refine z_lload_n kd_M_point_112 7 rfl ?_
  refine z_lconst (v := 1) kd_M_point_113 (by decide +kernel) ?_
  refine z_lsub kd_M_point_114 ?_
  refine z_iload kd_M_point_115 1 rfl ?_
  refine z_iload kd_M_point_117 0 rfl ?_
  refine z_isub kd_M_point_119 ?_
  refine z_topi (show _ = (0 : Int32) from by decide +kernel) ?_
  refine z_S1 (As := [_, _]) kd_M_point_120 (kg_M_218 _) e_M_powerOf rfl rfl (Nat.le_of_ble_eq_true rfl) ⟨Nat.le_of_ble_eq_true rfl, Nat.le_of_ble_eq_true rfl⟩ ⟨Nat.le_of_ble_eq_true rfl, Nat.le_of_ble_eq_true rfl⟩ ?_
  refine z_lmul kd_M_point_123 ?_
  refine z_topl (show _ = (1 : Int64) from by decide +kernel) ?_
  refine z_ladd kd_M_point_124 ?_
  refine z_topl (show _ = (1 : Int64) from by decide +kernel) ?_
  refine z_lstore (lv' := [(6, .long _), (10, .int _), (9, .int _), (8, .int _), (5, .int _), (0, .ref (b + 54)), (1, .long _), (3, .long _)]) kd_M_point_125 (by decide) rfl ?_
  refine z_iinc (v := 1) (lv' := [(8, .int _), (6, .long _), (10, .int _), (9, .int _), (5, .int _), (0, .ref (b + 54)), (1, .long _), (3, .long _)]) kd_M_point_127 3 rfl (by decide) (by decide) rfl ?_
  refine z_goto (tgt := 47) kd_M_point_130 (by decide) ?_
  refine z_iload kd_M_point_47 0 rfl ?_
  refine z_iconst (v := 1) kd_M_point_49 (by decide) ?_
  refine z_aload_n kd_M_point_50 5 rfl ?_
  refine z_get kd_M_point_51 (kf_M_80 _) rfl rfl ?_
  refine z_ishl kd_M_point_54 ?_
  refine z_topi (show _ = (1 : Int32) from by decide +kernel) ?_
  refine z_icmp_ge (tgt := 133) kd_M_point_55 (by decide) (fun c55 => ?_) (fun c55 => absurd c55 (by decide))
  refine z_lload kd_M_point_133 1 rfl ?_
  exact z_lret kd_M_point_135 rfl (Nat.le_of_ble_eq_true rfl) (Nat.le_of_ble_eq_true rfl) ⟨rfl, rfl, rfl, rfl⟩
set_option maxHeartbeats 4000000 in
set_option maxRecDepth 100000 in
theorem e_M_told0 {l : Launch} {D : va_G} {tys : List (ClassId × FieldType)} {b N : Nat} {σ : Nat → Option va_E} {cI cJ cZ : ClassId} (ht0 : tys[0]? = some (cI, .int)) (ht1 : tys[1]? = some (cJ, .long)) (ht2 : tys[2]? = some (cZ, .boolean)) {th fa ls rm : Value} (h54 : σ 54 = some (.inr (9, [th, .int 0, .int 0, .ref (b + 55), .ref (b + 56), .ref (b + 57), .ref (b + 58), .ref (b + 59), .ref (b + 60), .ref (b + 61), .ref (b + 62), .ref (b + 63), .ref (b + 64), .ref (b + 65), fa, .ref (b + 66), .ref (b + 67), ls, .ref (b + 68), .ref (b + 69), .ref (b + 70), .ref (b + 71), rm, .ref (b + 72), .ref (b + 73)]))) {g63 : Nat → Int32} (h63 : σ 63 = some (.inl (cZ, 30, .inl g63))) : zM l D kCl tys kNw b ky_M_told (kh_M_told :: zT) 3 130 0 0 [.ref (b + 54), .int 0] N σ (zY (some (.int 0)) N) := by
  refine zM.of (by decide +kernel) rfl (Nat.le_of_ble_eq_true rfl) ?_
  refine z_pick (lv' := [(0, .ref (b + 54)), (1, .int 0)]) [0, 1] rfl ?_
  refine z_aload_n kd_M_told_0 0 rfl ?_
  refine z_iconst (v := 0) kd_M_told_1 (by decide) ?_
  refine z_putE (fs' := [_, _, _, _, _, _, _, _, _, _, _, _, _, _, _, _, _, _, _, _, _, _, _, _, _]) kd_M_told_2 (kp_M_69 _) h54 (Nat.le_of_ble_eq_true rfl) rfl rfl rfl ?_
  refine z_iload_n kd_M_told_5 1 rfl ?_
  refine z_tableIn (off := 34) (tgt := 40) kd_M_told_6 (by decide) (by decide) (by decide +kernel) (by decide) ?_
  refine z_aload_n kd_M_told_40 0 rfl ?_
  refine z_get kd_M_told_41 (kf_M_73 _) rfl rfl ?_
  exact z_iret kd_M_told_44 rfl (Nat.le_of_ble_eq_true rfl) (Nat.le_of_ble_eq_true rfl) ⟨rfl, rfl⟩
set_option maxHeartbeats 4000000 in
set_option maxRecDepth 100000 in
theorem e_M_told1 {l : Launch} {D : va_G} {tys : List (ClassId × FieldType)} {b N : Nat} {σ : Nat → Option va_E} {cI cJ cZ : ClassId} (ht0 : tys[0]? = some (cI, .int)) (ht1 : tys[1]? = some (cJ, .long)) (ht2 : tys[2]? = some (cZ, .boolean)) {th fa ls rm : Value} (h54 : σ 54 = some (.inr (9, [th, .int 0, .int 0, .ref (b + 55), .ref (b + 56), .ref (b + 57), .ref (b + 58), .ref (b + 59), .ref (b + 60), .ref (b + 61), .ref (b + 62), .ref (b + 63), .ref (b + 64), .ref (b + 65), fa, .ref (b + 66), .ref (b + 67), ls, .ref (b + 68), .ref (b + 69), .ref (b + 70), .ref (b + 71), rm, .ref (b + 72), .ref (b + 73)]))) {g63 : Nat → Int32} (h63 : σ 63 = some (.inl (cZ, 30, .inl g63))) : zM l D kCl tys kNw b ky_M_told (kh_M_told :: zT) 3 130 0 0 [.ref (b + 54), .int 1] N σ (zY (some (.int 0)) N) := by
  refine zM.of (by decide +kernel) rfl (Nat.le_of_ble_eq_true rfl) ?_
  refine z_pick (lv' := [(0, .ref (b + 54)), (1, .int 1)]) [0, 1] rfl ?_
  refine z_aload_n kd_M_told_0 0 rfl ?_
  refine z_iconst (v := 0) kd_M_told_1 (by decide) ?_
  refine z_putE (fs' := [_, _, _, _, _, _, _, _, _, _, _, _, _, _, _, _, _, _, _, _, _, _, _, _, _]) kd_M_told_2 (kp_M_69 _) h54 (Nat.le_of_ble_eq_true rfl) rfl rfl rfl ?_
  refine z_iload_n kd_M_told_5 1 rfl ?_
  refine z_tableIn (off := 39) (tgt := 45) kd_M_told_6 (by decide) (by decide) (by decide +kernel) (by decide) ?_
  refine z_aload_n kd_M_told_45 0 rfl ?_
  refine z_get kd_M_told_46 (kf_M_80 _) rfl rfl ?_
  exact z_iret kd_M_told_49 rfl (Nat.le_of_ble_eq_true rfl) (Nat.le_of_ble_eq_true rfl) ⟨rfl, rfl⟩
set_option maxHeartbeats 4000000 in
set_option maxRecDepth 100000 in
theorem e_M_told2 {l : Launch} {D : va_G} {tys : List (ClassId × FieldType)} {b N : Nat} {σ : Nat → Option va_E} {cI cJ cZ : ClassId} (ht0 : tys[0]? = some (cI, .int)) (ht1 : tys[1]? = some (cJ, .long)) (ht2 : tys[2]? = some (cZ, .boolean)) {th fa ls rm : Value} (h54 : σ 54 = some (.inr (9, [th, .int 0, .int 0, .ref (b + 55), .ref (b + 56), .ref (b + 57), .ref (b + 58), .ref (b + 59), .ref (b + 60), .ref (b + 61), .ref (b + 62), .ref (b + 63), .ref (b + 64), .ref (b + 65), fa, .ref (b + 66), .ref (b + 67), ls, .ref (b + 68), .ref (b + 69), .ref (b + 70), .ref (b + 71), rm, .ref (b + 72), .ref (b + 73)]))) {g63 : Nat → Int32} (h63 : σ 63 = some (.inl (cZ, 30, .inl g63))) : zM l D kCl tys kNw b ky_M_told (kh_M_told :: zT) 3 130 0 0 [.ref (b + 54), .int 2] N σ (zY (some (.int 0)) N) := by
  refine zM.of (by decide +kernel) rfl (Nat.le_of_ble_eq_true rfl) ?_
  refine z_pick (lv' := [(0, .ref (b + 54)), (1, .int 2)]) [0, 1] rfl ?_
  refine z_aload_n kd_M_told_0 0 rfl ?_
  refine z_iconst (v := 0) kd_M_told_1 (by decide) ?_
  refine z_putE (fs' := [_, _, _, _, _, _, _, _, _, _, _, _, _, _, _, _, _, _, _, _, _, _, _, _, _]) kd_M_told_2 (kp_M_69 _) h54 (Nat.le_of_ble_eq_true rfl) rfl rfl rfl ?_
  refine z_iload_n kd_M_told_5 1 rfl ?_
  refine z_tableIn (off := 44) (tgt := 50) kd_M_told_6 (by decide) (by decide) (by decide +kernel) (by decide) ?_
  refine z_aload_n kd_M_told_50 0 rfl ?_
  refine z_get kd_M_told_51 (kf_M_73 _) rfl rfl ?_
  refine z_aload_n kd_M_told_54 0 rfl ?_
  refine z_get kd_M_told_55 (kf_M_80 _) rfl rfl ?_
  refine z_aload_n kd_M_told_58 0 rfl ?_
  refine z_V1 (a := 54) (As := []) kd_M_told_59 (kg_M_158 _) rfl kc_M (e_M_takeTrees rfl) rfl rfl (Nat.le_of_ble_eq_true rfl) ⟨Nat.le_of_ble_eq_true rfl, Nat.le_of_ble_eq_true rfl⟩ ⟨Nat.le_of_ble_eq_true rfl, Nat.le_of_ble_eq_true rfl⟩ ?_
  refine z_isub kd_M_told_62 ?_
  refine z_topi (show _ = (0 : Int32) from by decide +kernel) ?_
  refine z_isub kd_M_told_63 ?_
  refine z_topi (show _ = (0 : Int32) from by decide +kernel) ?_
  exact z_iret kd_M_told_64 rfl (Nat.le_of_ble_eq_true rfl) (Nat.le_of_ble_eq_true rfl) ⟨rfl, rfl⟩
set_option maxHeartbeats 4000000 in
set_option maxRecDepth 100000 in
theorem e_M_told3 {l : Launch} {D : va_G} {tys : List (ClassId × FieldType)} {b N : Nat} {σ : Nat → Option va_E} {cI cJ cZ : ClassId} (ht0 : tys[0]? = some (cI, .int)) (ht1 : tys[1]? = some (cJ, .long)) (ht2 : tys[2]? = some (cZ, .boolean)) {th fa ls rm : Value} (h54 : σ 54 = some (.inr (9, [th, .int 0, .int 0, .ref (b + 55), .ref (b + 56), .ref (b + 57), .ref (b + 58), .ref (b + 59), .ref (b + 60), .ref (b + 61), .ref (b + 62), .ref (b + 63), .ref (b + 64), .ref (b + 65), fa, .ref (b + 66), .ref (b + 67), ls, .ref (b + 68), .ref (b + 69), .ref (b + 70), .ref (b + 71), rm, .ref (b + 72), .ref (b + 73)]))) {g63 : Nat → Int32} (h63 : σ 63 = some (.inl (cZ, 30, .inl g63))) : zM l D kCl tys kNw b ky_M_told (kh_M_told :: zT) 3 130 0 0 [.ref (b + 54), .int 3] N σ (zY (some (.int 0)) N) := by
  refine zM.of (by decide +kernel) rfl (Nat.le_of_ble_eq_true rfl) ?_
  refine z_pick (lv' := [(0, .ref (b + 54)), (1, .int 3)]) [0, 1] rfl ?_
  refine z_aload_n kd_M_told_0 0 rfl ?_
  refine z_iconst (v := 0) kd_M_told_1 (by decide) ?_
  refine z_putE (fs' := [_, _, _, _, _, _, _, _, _, _, _, _, _, _, _, _, _, _, _, _, _, _, _, _, _]) kd_M_told_2 (kp_M_69 _) h54 (Nat.le_of_ble_eq_true rfl) rfl rfl rfl ?_
  refine z_iload_n kd_M_told_5 1 rfl ?_
  refine z_tableIn (off := 59) (tgt := 65) kd_M_told_6 (by decide) (by decide) (by decide +kernel) (by decide) ?_
  refine z_aload_n kd_M_told_65 0 rfl ?_
  refine z_V1 (a := 54) (As := []) kd_M_told_66 (kg_M_158 _) rfl kc_M (e_M_takeTrees rfl) rfl rfl (Nat.le_of_ble_eq_true rfl) ⟨Nat.le_of_ble_eq_true rfl, Nat.le_of_ble_eq_true rfl⟩ ⟨Nat.le_of_ble_eq_true rfl, Nat.le_of_ble_eq_true rfl⟩ ?_
  exact z_iret kd_M_told_69 rfl (Nat.le_of_ble_eq_true rfl) (Nat.le_of_ble_eq_true rfl) ⟨rfl, rfl⟩
set_option maxHeartbeats 4000000 in
set_option maxRecDepth 100000 in
theorem e_M_told4 {l : Launch} {D : va_G} {tys : List (ClassId × FieldType)} {b N : Nat} {σ : Nat → Option va_E} {cI cJ cZ : ClassId} (ht0 : tys[0]? = some (cI, .int)) (ht1 : tys[1]? = some (cJ, .long)) (ht2 : tys[2]? = some (cZ, .boolean)) {th fa ls rm : Value} (h54 : σ 54 = some (.inr (9, [th, .int 0, .int 0, .ref (b + 55), .ref (b + 56), .ref (b + 57), .ref (b + 58), .ref (b + 59), .ref (b + 60), .ref (b + 61), .ref (b + 62), .ref (b + 63), .ref (b + 64), .ref (b + 65), fa, .ref (b + 66), .ref (b + 67), ls, .ref (b + 68), .ref (b + 69), .ref (b + 70), .ref (b + 71), rm, .ref (b + 72), .ref (b + 73)]))) {g63 : Nat → Int32} (h63 : σ 63 = some (.inl (cZ, 30, .inl g63))) : zM l D kCl tys kNw b ky_M_told (kh_M_told :: zT) 3 130 0 0 [.ref (b + 54), .int 4] N σ (zY (some (.int 0)) N) := by
  refine zM.of (by decide +kernel) rfl (Nat.le_of_ble_eq_true rfl) ?_
  refine z_pick (lv' := [(0, .ref (b + 54)), (1, .int 4)]) [0, 1] rfl ?_
  refine z_aload_n kd_M_told_0 0 rfl ?_
  refine z_iconst (v := 0) kd_M_told_1 (by decide) ?_
  refine z_putE (fs' := [_, _, _, _, _, _, _, _, _, _, _, _, _, _, _, _, _, _, _, _, _, _, _, _, _]) kd_M_told_2 (kp_M_69 _) h54 (Nat.le_of_ble_eq_true rfl) rfl rfl rfl ?_
  refine z_iload_n kd_M_told_5 1 rfl ?_
  refine z_tableIn (off := 64) (tgt := 70) kd_M_told_6 (by decide) (by decide) (by decide +kernel) (by decide) ?_
  refine z_aload_n kd_M_told_70 0 rfl ?_
  refine z_V1 (a := 54) (As := []) kd_M_told_71 (kg_M_158 _) rfl kc_M (e_M_takeTrees rfl) rfl rfl (Nat.le_of_ble_eq_true rfl) ⟨Nat.le_of_ble_eq_true rfl, Nat.le_of_ble_eq_true rfl⟩ ⟨Nat.le_of_ble_eq_true rfl, Nat.le_of_ble_eq_true rfl⟩ ?_
  refine z_if_ne (tgt := 79) kd_M_told_74 (by decide) (fun c74 => absurd c74 (by decide)) (fun c74 => ?_)
  refine z_iconst (v := 0) kd_M_told_77 (by decide) ?_
  exact z_iret kd_M_told_78 rfl (Nat.le_of_ble_eq_true rfl) (Nat.le_of_ble_eq_true rfl) ⟨rfl, rfl⟩
set_option maxHeartbeats 4000000 in
set_option maxRecDepth 100000 in
theorem e_M_told5 {l : Launch} {D : va_G} {tys : List (ClassId × FieldType)} {b N : Nat} {σ : Nat → Option va_E} {cI cJ cZ : ClassId} (ht0 : tys[0]? = some (cI, .int)) (ht1 : tys[1]? = some (cJ, .long)) (ht2 : tys[2]? = some (cZ, .boolean)) {th fa ls rm : Value} (h54 : σ 54 = some (.inr (9, [th, .int 0, .int 0, .ref (b + 55), .ref (b + 56), .ref (b + 57), .ref (b + 58), .ref (b + 59), .ref (b + 60), .ref (b + 61), .ref (b + 62), .ref (b + 63), .ref (b + 64), .ref (b + 65), fa, .ref (b + 66), .ref (b + 67), ls, .ref (b + 68), .ref (b + 69), .ref (b + 70), .ref (b + 71), rm, .ref (b + 72), .ref (b + 73)]))) {g63 : Nat → Int32} (h63 : σ 63 = some (.inl (cZ, 30, .inl g63))) : zM l D kCl tys kNw b ky_M_told (kh_M_told :: zT) 3 130 0 0 [.ref (b + 54), .int 5] N σ (zY (some (.int 0)) N) := by
  refine zM.of (by decide +kernel) rfl (Nat.le_of_ble_eq_true rfl) ?_
  refine z_pick (lv' := [(0, .ref (b + 54)), (1, .int 5)]) [0, 1] rfl ?_
  refine z_aload_n kd_M_told_0 0 rfl ?_
  refine z_iconst (v := 0) kd_M_told_1 (by decide) ?_
  refine z_putE (fs' := [_, _, _, _, _, _, _, _, _, _, _, _, _, _, _, _, _, _, _, _, _, _, _, _, _]) kd_M_told_2 (kp_M_69 _) h54 (Nat.le_of_ble_eq_true rfl) rfl rfl rfl ?_
  refine z_iload_n kd_M_told_5 1 rfl ?_
  refine z_tableOut (tgt := 89) kd_M_told_6 (Or.inr (by decide)) (by decide) ?_
  refine z_iload_n kd_M_told_89 1 rfl ?_
  refine z_iconst (v := 5) kd_M_told_90 (by decide) ?_
  refine z_icmp_ne (tgt := 112) kd_M_told_91 (by decide) (fun c91 => absurd c91 (by decide)) (fun c91 => ?_)
  refine z_aload_n kd_M_told_94 0 rfl ?_
  refine z_callV (a := 54) (As := []) kd_M_told_95 (kg_M_197 _) rfl kc_M (e_M_findRounds ht0 ht1 ht2 rfl h63) rfl rfl (Nat.le_of_ble_eq_true rfl) ⟨Nat.le_of_ble_eq_true rfl, Nat.le_of_ble_eq_true rfl⟩ ⟨Nat.le_of_ble_eq_true rfl, Nat.le_of_ble_eq_true rfl⟩ ?_
  rintro _ _ σ2 ⟨hv, rfl⟩
  cases hv
  refine z_eq (st' := [.int 0]) rfl rfl rfl rfl ?_
  refine z_if_eq (tgt := 108) kd_M_told_98 (by decide) (fun c98 => ?_) (fun c98 => absurd c98 (by decide))
  refine z_iconst (v := 0) kd_M_told_108 (by decide) ?_
  refine z_goto (tgt := 113) kd_M_told_109 (by decide) ?_
  exact z_iret kd_M_told_113 rfl (Nat.le_of_ble_eq_true rfl) (Nat.le_of_ble_eq_true rfl) ⟨rfl, rfl⟩
set_option maxHeartbeats 4000000 in
set_option maxRecDepth 100000 in
theorem e_M_told {l : Launch} {D : va_G} {tys : List (ClassId × FieldType)} {b N : Nat} {σ : Nat → Option va_E} {x : Int32} (hx : x.toInt < 0 ∨ 4 < x.toInt) (hx5 : ¬ x = 5) {th fa ls rm : Value} (h54 : σ 54 = some (.inr (9, [th, .int 0, .int 0, .ref (b + 55), .ref (b + 56), .ref (b + 57), .ref (b + 58), .ref (b + 59), .ref (b + 60), .ref (b + 61), .ref (b + 62), .ref (b + 63), .ref (b + 64), .ref (b + 65), fa, .ref (b + 66), .ref (b + 67), ls, .ref (b + 68), .ref (b + 69), .ref (b + 70), .ref (b + 71), rm, .ref (b + 72), .ref (b + 73)]))) : zM l D kCl tys kNw b ky_M_told (kh_M_told :: zT) 0 0 0 0 [.ref (b + 54), .int x] N σ (zY (some (.int (-1))) N) := by
  refine zM.of (by decide +kernel) rfl (Nat.le_of_ble_eq_true rfl) ?_
  refine z_pick (lv' := [(0, .ref (b + 54)), (1, .int x)]) [0, 1] rfl ?_
  refine z_aload_n kd_M_told_0 0 rfl ?_
  refine z_iconst (v := 0) kd_M_told_1 (by decide) ?_
  refine z_putE (fs' := [_, _, _, _, _, _, _, _, _, _, _, _, _, _, _, _, _, _, _, _, _, _, _, _, _]) kd_M_told_2 (kp_M_69 _) h54 (Nat.le_of_ble_eq_true rfl) rfl rfl rfl ?_
  refine z_iload_n kd_M_told_5 1 rfl ?_
  refine z_tableOut (tgt := 89) kd_M_told_6 hx (by decide) ?_
  refine z_iload_n kd_M_told_89 1 rfl ?_
  refine z_iconst (v := 5) kd_M_told_90 (by decide) ?_
  refine z_icmp_ne (tgt := 112) kd_M_told_91 (by decide) (fun c91 => ?_) (fun c91 => ?_)
  · refine z_iconst (v := -1) kd_M_told_112 (by decide) ?_
    exact z_iret kd_M_told_113 rfl (Nat.le_of_ble_eq_true rfl) (Nat.le_of_ble_eq_true rfl) ⟨rfl, rfl⟩
  · exact absurd c91 hx5
