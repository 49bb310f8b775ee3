/-- an answer; the count of cells is as before, and so is all from cell 54 on -/
def zX (v : Option Value) (N : Nat) (σ : Nat → Option va_E) : Outcome → Nat → (Nat → Option va_E) → Prop := fun oc N' σ' => oc = .returned v ∧ N' = N ∧ ∀ j, 54 ≤ j → σ' j = σ j
theorem zI_nn {x : Int32} (h : ¬ x < 0) : 0 ≤ x := by rw [Int32.le_iff_toInt_le]; rw [Int32.lt_iff_toInt_lt] at h; omega
theorem zIn_0 (x : Int32) : zIn x 0 = false := by
  by_cases h : x < 0
  · exact zIn_a h
  · exact zIn_b (zI_nn h)
set_option maxHeartbeats 4000000 in
set_option maxRecDepth 100000 in
theorem e_N_hasNode {l : Launch} {D : va_G} {tys : List (ClassId × FieldType)} {b N : Nat} {σ : Nat → Option va_E} {x : Int32} (h1 : σ 1 = some (.inr (1, [.int 0, .int 0, .ref (b + 2), .ref (b + 3), .ref (b + 4)]))) : zM l D kCl tys kNw b ky_N_hasNode (kh_N_hasNode :: zT) 0 0 0 0 [.ref (b + 1), .int x] N σ (zD (some (.int 0)) N σ) := by
  refine zM.of (by decide +kernel) rfl (Nat.le_of_ble_eq_true rfl) ?_
  refine z_pick (lv' := [(0, .ref (b + 1)), (1, .int x)]) [0, 1] rfl ?_
  refine z_iload_n kd_N_hasNode_0 1 rfl ?_
  refine z_if_lt (tgt := 16) kd_N_hasNode_1 (by decide) (fun c1 => ?_) (fun c1 => ?_)
  · refine z_iconst (v := 0) kd_N_hasNode_16 (by decide) ?_
    exact z_zret kd_N_hasNode_17 rfl rfl (Nat.le_of_ble_eq_true rfl) (Nat.le_of_ble_eq_true rfl) ⟨rfl, rfl, rfl⟩
  · refine z_iload_n kd_N_hasNode_4 1 rfl ?_
    refine z_aload_n kd_N_hasNode_5 0 rfl ?_
    refine z_get kd_N_hasNode_6 (kf_N_21 _) h1 rfl ?_
    refine z_icmp_ge (tgt := 16) kd_N_hasNode_9 (by decide) (fun c9 => ?_) (fun c9 => ?_)
    · refine z_iconst (v := 0) kd_N_hasNode_16 (by decide) ?_
      exact z_zret kd_N_hasNode_17 rfl rfl (Nat.le_of_ble_eq_true rfl) (Nat.le_of_ble_eq_true rfl) ⟨rfl, rfl, rfl⟩
    · exact absurd (zI_nn c1) c9
set_option maxHeartbeats 4000000 in
set_option maxRecDepth 100000 in
theorem e_N_hasArc {l : Launch} {D : va_G} {tys : List (ClassId × FieldType)} {b N : Nat} {σ : Nat → Option va_E} {x : Int32} (h1 : σ 1 = some (.inr (1, [.int 0, .int 0, .ref (b + 2), .ref (b + 3), .ref (b + 4)]))) : zM l D kCl tys kNw b ky_N_hasArc (kh_N_hasArc :: zT) 0 0 0 0 [.ref (b + 1), .int x] N σ (zD (some (.int 0)) N σ) := by
  refine zM.of (by decide +kernel) rfl (Nat.le_of_ble_eq_true rfl) ?_
  refine z_pick (lv' := [(0, .ref (b + 1)), (1, .int x)]) [0, 1] rfl ?_
  refine z_iload_n kd_N_hasArc_0 1 rfl ?_
  refine z_if_lt (tgt := 16) kd_N_hasArc_1 (by decide) (fun c1 => ?_) (fun c1 => ?_)
  · refine z_iconst (v := 0) kd_N_hasArc_16 (by decide) ?_
    exact z_zret kd_N_hasArc_17 rfl rfl (Nat.le_of_ble_eq_true rfl) (Nat.le_of_ble_eq_true rfl) ⟨rfl, rfl, rfl⟩
  · refine z_iload_n kd_N_hasArc_4 1 rfl ?_
    refine z_aload_n kd_N_hasArc_5 0 rfl ?_
    refine z_get kd_N_hasArc_6 (kf_N_25 _) h1 rfl ?_
    refine z_icmp_ge (tgt := 16) kd_N_hasArc_9 (by decide) (fun c9 => ?_) (fun c9 => ?_)
    · refine z_iconst (v := 0) kd_N_hasArc_16 (by decide) ?_
      exact z_zret kd_N_hasArc_17 rfl rfl (Nat.le_of_ble_eq_true rfl) (Nat.le_of_ble_eq_true rfl) ⟨rfl, rfl, rfl⟩
    · exact absurd (zI_nn c1) c9
set_option maxHeartbeats 4000000 in
set_option maxRecDepth 100000 in
theorem e_P_split {l : Launch} {D : va_G} {tys : List (ClassId × FieldType)} {b N : Nat} {σ : Nat → Option va_E} {a : Nat} {v0 v1 v2 : Value} (h : σ a = some (.inr (2, [v0, v1, v2]))) : zM l D kCl tys kNw b ky_P_split (kh_P_split :: zT) 0 0 0 0 [.ref (b + a), .int 0] N σ (zD none N (zUp σ a (.inr (2, [.int 0, .int 0, v2])))) := by
  refine zM.of (by decide +kernel) rfl (Nat.le_of_ble_eq_true rfl) ?_
  refine z_pick (lv' := [(0, .ref (b + a)), (1, .int 0)]) [0, 1] rfl ?_
  refine z_aload_n kd_P_split_0 0 rfl ?_
  refine z_iload_n kd_P_split_1 1 rfl ?_
  refine z_putE (fs' := [_, _, _]) kd_P_split_2 (kp_P_15 _) h (Nat.le_of_ble_eq_true rfl) rfl rfl rfl ?_
  refine z_aload_n kd_P_split_5 0 rfl ?_
  refine z_iload_n kd_P_split_6 1 rfl ?_
  refine z_putE (fs' := [_, _, _]) kd_P_split_7 (kp_P_19 _) (zUp_s _ _ _) (Nat.le_of_ble_eq_true rfl) rfl rfl rfl ?_
  refine z_iconst (v := 0) kd_P_split_10 (by decide) ?_
  refine z_istore_n (lv' := [(2, .int _), (0, .ref (b + a)), (1, .int _)]) kd_P_split_11 (by decide) rfl ?_
  refine z_iload_n kd_P_split_12 0 rfl ?_
  refine z_iload_n kd_P_split_13 2 rfl ?_
  refine z_icmp_ge (tgt := 30) kd_P_split_14 (by decide) (fun c14 => ?_) (fun c14 => absurd c14 (by decide))
  exact z_vret kd_P_split_30 rfl (Nat.le_of_ble_eq_true rfl) (Nat.le_of_ble_eq_true rfl) ⟨rfl, rfl, zUp_zUp _ _ _ _⟩
set_option maxHeartbeats 4000000 in
set_option maxRecDepth 100000 in
theorem e_T_sumOverParts {l : Launch} {D : va_G} {tys : List (ClassId × FieldType)} {b N : Nat} {σ : Nat → Option va_E} {s5 : Value} {v19 w19 : Value} (h5 : σ 5 = some (.inr (2, [s5, .int 0, .ref (b + 6)]))) (h19 : σ 19 = some (.inr (4, [.ref (b + 1), .ref (b + 5), .ref (b + 7), v19, w19]))) : zM l D kCl tys kNw b ky_T_sumOverParts (kh_T_sumOverParts :: zT) 0 0 0 0 [.ref (b + 19), .int 0] N σ (zD (some (.long 0)) N σ) := by
  refine zM.of (by decide +kernel) rfl (Nat.le_of_ble_eq_true rfl) ?_
  refine z_pick (lv' := [(0, .ref (b + 19)), (1, .int 0)]) [0, 1] rfl ?_
  refine z_aload_n kd_T_sumOverParts_0 0 rfl ?_
  refine z_get kd_T_sumOverParts_1 (kf_T_15 _) h19 rfl ?_
  refine z_get kd_T_sumOverParts_4 (kf_T_39 _) h5 rfl ?_
  refine z_if_ne (tgt := 12) kd_T_sumOverParts_7 (by decide) (fun c7 => absurd c7 (by decide)) (fun c7 => ?_)
  refine z_lconst (v := 0) kd_T_sumOverParts_10 (by decide +kernel) ?_
  exact z_lret kd_T_sumOverParts_11 rfl (Nat.le_of_ble_eq_true rfl) (Nat.le_of_ble_eq_true rfl) ⟨rfl, rfl, rfl⟩
set_option maxHeartbeats 4000000 in
set_option maxRecDepth 100000 in
theorem e_T_sumOfAll {l : Launch} {D : va_G} {tys : List (ClassId × FieldType)} {b N : Nat} {σ : Nat → Option va_E} {s5 c5 : Value} {v19 w19 : Value} (h1 : σ 1 = some (.inr (1, [.int 0, .int 0, .ref (b + 2), .ref (b + 3), .ref (b + 4)]))) (h5 : σ 5 = some (.inr (2, [s5, c5, .ref (b + 6)]))) (h19 : σ 19 = some (.inr (4, [.ref (b + 1), .ref (b + 5), .ref (b + 7), v19, w19]))) : zM l D kCl tys kNw b ky_T_sumOfAll (kh_T_sumOfAll :: zT) 1 30 0 0 [.ref (b + 19)] N σ (zD (some (.long 0)) N (zUp σ 5 (.inr (2, [.int 0, .int 0, .ref (b + 6)])))) := by
  refine zM.of (by decide +kernel) rfl (Nat.le_of_ble_eq_true rfl) ?_
  refine z_pick (lv' := [(0, .ref (b + 19))]) [0] rfl ?_
  refine z_aload_n kd_T_sumOfAll_0 0 rfl ?_
  refine z_get kd_T_sumOfAll_1 (kf_T_15 _) h19 rfl ?_
  refine z_aload_n kd_T_sumOfAll_4 0 rfl ?_
  refine z_get kd_T_sumOfAll_5 (kf_T_9 _) h19 rfl ?_
  refine z_get kd_T_sumOfAll_8 (kf_T_23 _) h1 rfl ?_
  refine z_V0 (a := 5) (As := [_]) kd_T_sumOfAll_11 (kg_T_29 _) h5 kc_P (e_P_split (a := 5) h5) rfl rfl (Nat.le_of_ble_eq_true rfl) ⟨Nat.le_of_ble_eq_true rfl, Nat.le_of_ble_eq_true rfl⟩ ⟨Nat.le_of_ble_eq_true rfl, Nat.le_of_ble_eq_true rfl⟩ ?_
  refine z_aload_n kd_T_sumOfAll_14 0 rfl ?_
  refine z_iconst (v := 0) kd_T_sumOfAll_15 (by decide) ?_
  refine z_V1 (a := 19) (As := [_]) kd_T_sumOfAll_16 (kg_T_35 _) h19 kc_T (e_T_sumOverParts rfl h19) rfl rfl (Nat.le_of_ble_eq_true rfl) ⟨Nat.le_of_ble_eq_true rfl, Nat.le_of_ble_eq_true rfl⟩ ⟨Nat.le_of_ble_eq_true rfl, Nat.le_of_ble_eq_true rfl⟩ ?_
  exact z_lret kd_T_sumOfAll_19 rfl (Nat.le_of_ble_eq_true rfl) (Nat.le_of_ble_eq_true rfl) ⟨rfl, rfl, rfl⟩
set_option maxHeartbeats 4000000 in
set_option maxRecDepth 100000 in
theorem e_C_trees {l : Launch} {D : va_G} {tys : List (ClassId × FieldType)} {b N : Nat} {σ : Nat → Option va_E} {s5 c5 : Value} {v19 w19 : Value} (h0 : σ 0 = some (.inr (0, [.ref (b + 1), .ref (b + 19), .ref (b + 20), .ref (b + 23), .ref (b + 25), .ref (b + 30)]))) (h1 : σ 1 = some (.inr (1, [.int 0, .int 0, .ref (b + 2), .ref (b + 3), .ref (b + 4)]))) (h5 : σ 5 = some (.inr (2, [s5, c5, .ref (b + 6)]))) (h19 : σ 19 = some (.inr (4, [.ref (b + 1), .ref (b + 5), .ref (b + 7), v19, w19]))) : zM l D kCl tys kNw b ky_C_trees (kh_C_trees :: zT) 2 60 0 0 [.ref (b + 0)] N σ (zX (some (.long 0)) N σ) := by
  refine zM.of (by decide +kernel) rfl (Nat.le_of_ble_eq_true rfl) ?_
  refine z_pick (lv' := [(0, .ref (b + 0))]) [0] rfl ?_
  refine z_aload_n kd_C_trees_0 0 rfl ?_
  refine z_get kd_C_trees_1 (kf_C_27 _) h0 rfl ?_
  refine z_V1 (a := 19) (As := []) kd_C_trees_4 (kg_C_92 _) h19 kc_T (e_T_sumOfAll h1 h5 h19) rfl rfl (Nat.le_of_ble_eq_true rfl) ⟨Nat.le_of_ble_eq_true rfl, Nat.le_of_ble_eq_true rfl⟩ ⟨Nat.le_of_ble_eq_true rfl, Nat.le_of_ble_eq_true rfl⟩ ?_
  exact z_lret kd_C_trees_7 rfl (Nat.le_of_ble_eq_true rfl) (Nat.le_of_ble_eq_true rfl) ⟨rfl, rfl, (fun j hj => by first | rfl | (repeat rw [zUp_n (by omega)]))⟩
set_option maxHeartbeats 4000000 in
set_option maxRecDepth 100000 in
theorem e_C_arc {l : Launch} {D : va_G} {tys : List (ClassId × FieldType)} {b N : Nat} {σ : Nat → Option va_E} {x y w : Int32} (h0 : σ 0 = some (.inr (0, [.ref (b + 1), .ref (b + 19), .ref (b + 20), .ref (b + 23), .ref (b + 25), .ref (b + 30)]))) (h1 : σ 1 = some (.inr (1, [.int 0, .int 0, .ref (b + 2), .ref (b + 3), .ref (b + 4)]))) : zM l D kCl tys kNw b ky_C_arc (kh_C_arc :: zT) 1 30 0 0 [.ref (b + 0), .int x, .int y, .int w] N σ (zX (some (.int (-1))) N σ) := by
  refine zM.of (by decide +kernel) rfl (Nat.le_of_ble_eq_true rfl) ?_
  refine z_pick (lv' := [(0, .ref (b + 0)), (1, .int x), (2, .int y), (3, .int w)]) [0, 1, 2, 3] rfl ?_
  refine z_aload_n kd_C_arc_0 0 rfl ?_
  refine z_get kd_C_arc_1 (kf_C_10 _) h0 rfl ?_
  refine z_iload_n kd_C_arc_4 1 rfl ?_
  refine z_V1 (a := 1) (As := [_]) kd_C_arc_5 (kg_C_69 _) h1 kc_N (e_N_hasNode h1) rfl rfl (Nat.le_of_ble_eq_true rfl) ⟨Nat.le_of_ble_eq_true rfl, Nat.le_of_ble_eq_true rfl⟩ ⟨Nat.le_of_ble_eq_true rfl, Nat.le_of_ble_eq_true rfl⟩ ?_
  refine z_if_eq (tgt := 41) kd_C_arc_8 (by decide) (fun c8 => ?_) (fun c8 => absurd c8 (by decide))
  refine z_iconst (v := -1) kd_C_arc_41 (by decide) ?_
  exact z_iret kd_C_arc_42 rfl (Nat.le_of_ble_eq_true rfl) (Nat.le_of_ble_eq_true rfl) ⟨rfl, rfl, fun _ _ => rfl⟩
set_option maxHeartbeats 4000000 in
set_option maxRecDepth 100000 in
theorem e_C_weigh {l : Launch} {D : va_G} {tys : List (ClassId × FieldType)} {b N : Nat} {σ : Nat → Option va_E} {x w : Int32} (h0 : σ 0 = some (.inr (0, [.ref (b + 1), .ref (b + 19), .ref (b + 20), .ref (b + 23), .ref (b + 25), .ref (b + 30)]))) (h1 : σ 1 = some (.inr (1, [.int 0, .int 0, .ref (b + 2), .ref (b + 3), .ref (b + 4)]))) : zM l D kCl tys kNw b ky_C_weigh (kh_C_weigh :: zT) 1 30 0 0 [.ref (b + 0), .int x, .int w] N σ (zX (some (.int (-1))) N σ) := by
  refine zM.of (by decide +kernel) rfl (Nat.le_of_ble_eq_true rfl) ?_
  refine z_pick (lv' := [(0, .ref (b + 0)), (1, .int x), (2, .int w)]) [0, 1, 2] rfl ?_
  refine z_aload_n kd_C_weigh_0 0 rfl ?_
  refine z_get kd_C_weigh_1 (kf_C_10 _) h0 rfl ?_
  refine z_iload_n kd_C_weigh_4 1 rfl ?_
  refine z_V1 (a := 1) (As := [_]) kd_C_weigh_5 (kg_C_89 _) h1 kc_N (e_N_hasArc h1) rfl rfl (Nat.le_of_ble_eq_true rfl) ⟨Nat.le_of_ble_eq_true rfl, Nat.le_of_ble_eq_true rfl⟩ ⟨Nat.le_of_ble_eq_true rfl, Nat.le_of_ble_eq_true rfl⟩ ?_
  refine z_if_eq (tgt := 18) kd_C_weigh_8 (by decide) (fun c8 => ?_) (fun c8 => absurd c8 (by decide))
  refine z_iconst (v := -1) kd_C_weigh_18 (by decide) ?_
  exact z_iret kd_C_weigh_19 rfl (Nat.le_of_ble_eq_true rfl) (Nat.le_of_ble_eq_true rfl) ⟨rfl, rfl, fun _ _ => rfl⟩
set_option maxHeartbeats 4000000 in
set_option maxRecDepth 100000 in
theorem e_C_through {l : Launch} {D : va_G} {tys : List (ClassId × FieldType)} {b N : Nat} {σ : Nat → Option va_E} {x : Int32} (h0 : σ 0 = some (.inr (0, [.ref (b + 1), .ref (b + 19), .ref (b + 20), .ref (b + 23), .ref (b + 25), .ref (b + 30)]))) (h1 : σ 1 = some (.inr (1, [.int 0, .int 0, .ref (b + 2), .ref (b + 3), .ref (b + 4)]))) : zM l D kCl tys kNw b ky_C_through (kh_C_through :: zT) 1 30 0 0 [.ref (b + 0), .int x] N σ (zX (some (.long (-1))) N σ) := by
  refine zM.of (by decide +kernel) rfl (Nat.le_of_ble_eq_true rfl) ?_
  refine z_pick (lv' := [(0, .ref (b + 0)), (1, .int x)]) [0, 1] rfl ?_
  refine z_aload_n kd_C_through_0 0 rfl ?_
  refine z_get kd_C_through_1 (kf_C_10 _) h0 rfl ?_
  refine z_iload_n kd_C_through_4 1 rfl ?_
  refine z_V1 (a := 1) (As := [_]) kd_C_through_5 (kg_C_89 _) h1 kc_N (e_N_hasArc h1) rfl rfl (Nat.le_of_ble_eq_true rfl) ⟨Nat.le_of_ble_eq_true rfl, Nat.le_of_ble_eq_true rfl⟩ ⟨Nat.le_of_ble_eq_true rfl, Nat.le_of_ble_eq_true rfl⟩ ?_
  refine z_if_eq (tgt := 22) kd_C_through_8 (by decide) (fun c8 => ?_) (fun c8 => absurd c8 (by decide))
  refine z_ldc2 (v := -1) kd_C_through_22 (List.mem_cons_of_mem _ (zin 418 rfl rfl)) ?_
  exact z_lret kd_C_through_25 rfl (Nat.le_of_ble_eq_true rfl) (Nat.le_of_ble_eq_true rfl) ⟨rfl, rfl, fun _ _ => rfl⟩
set_option maxHeartbeats 4000000 in
set_option maxRecDepth 100000 in
theorem e_C_rooted {l : Launch} {D : va_G} {tys : List (ClassId × FieldType)} {b N : Nat} {σ : Nat → Option va_E} {x : Int32} (h0 : σ 0 = some (.inr (0, [.ref (b + 1), .ref (b + 19), .ref (b + 20), .ref (b + 23), .ref (b + 25), .ref (b + 30)]))) (h1 : σ 1 = some (.inr (1, [.int 0, .int 0, .ref (b + 2), .ref (b + 3), .ref (b + 4)]))) : zM l D kCl tys kNw b ky_C_rooted (kh_C_rooted :: zT) 1 30 0 0 [.ref (b + 0), .int x] N σ (zX (some (.long (-1))) N σ) := by
  refine zM.of (by decide +kernel) rfl (Nat.le_of_ble_eq_true rfl) ?_
  refine z_pick (lv' := [(0, .ref (b + 0)), (1, .int x)]) [0, 1] rfl ?_
  refine z_aload_n kd_C_rooted_0 0 rfl ?_
  refine z_get kd_C_rooted_1 (kf_C_10 _) h0 rfl ?_
  refine z_iload_n kd_C_rooted_4 1 rfl ?_
  refine z_V1 (a := 1) (As := [_]) kd_C_rooted_5 (kg_C_69 _) h1 kc_N (e_N_hasNode h1) rfl rfl (Nat.le_of_ble_eq_true rfl) ⟨Nat.le_of_ble_eq_true rfl, Nat.le_of_ble_eq_true rfl⟩ ⟨Nat.le_of_ble_eq_true rfl, Nat.le_of_ble_eq_true rfl⟩ ?_
  refine z_if_eq (tgt := 22) kd_C_rooted_8 (by decide) (fun c8 => ?_) (fun c8 => absurd c8 (by decide))
  refine z_ldc2 (v := -1) kd_C_rooted_22 (List.mem_cons_of_mem _ (zin 418 rfl rfl)) ?_
  exact z_lret kd_C_rooted_25 rfl (Nat.le_of_ble_eq_true rfl) (Nat.le_of_ble_eq_true rfl) ⟨rfl, rfl, fun _ _ => rfl⟩
set_option maxHeartbeats 4000000 in
set_option maxRecDepth 100000 in
theorem e_C_apart {l : Launch} {D : va_G} {tys : List (ClassId × FieldType)} {b N : Nat} {σ : Nat → Option va_E} {x y : Int32} (h0 : σ 0 = some (.inr (0, [.ref (b + 1), .ref (b + 19), .ref (b + 20), .ref (b + 23), .ref (b + 25), .ref (b + 30)]))) (h1 : σ 1 = some (.inr (1, [.int 0, .int 0, .ref (b + 2), .ref (b + 3), .ref (b + 4)]))) : zM l D kCl tys kNw b ky_C_apart (kh_C_apart :: zT) 1 30 0 0 [.ref (b + 0), .int x, .int y] N σ (zX (some (.long 0)) N σ) := by
  refine zM.of (by decide +kernel) rfl (Nat.le_of_ble_eq_true rfl) ?_
  refine z_pick (lv' := [(0, .ref (b + 0)), (1, .int x), (2, .int y)]) [0, 1, 2] rfl ?_
  refine z_aload_n kd_C_apart_0 0 rfl ?_
  refine z_get kd_C_apart_1 (kf_C_10 _) h0 rfl ?_
  refine z_iload_n kd_C_apart_4 1 rfl ?_
  refine z_V1 (a := 1) (As := [_]) kd_C_apart_5 (kg_C_69 _) h1 kc_N (e_N_hasNode h1) rfl rfl (Nat.le_of_ble_eq_true rfl) ⟨Nat.le_of_ble_eq_true rfl, Nat.le_of_ble_eq_true rfl⟩ ⟨Nat.le_of_ble_eq_true rfl, Nat.le_of_ble_eq_true rfl⟩ ?_
  refine z_if_eq (tgt := 27) kd_C_apart_8 (by decide) (fun c8 => ?_) (fun c8 => absurd c8 (by decide))
  refine z_lconst (v := 0) kd_C_apart_27 (by decide +kernel) ?_
  exact z_lret kd_C_apart_28 rfl (Nat.le_of_ble_eq_true rfl) (Nat.le_of_ble_eq_true rfl) ⟨rfl, rfl, fun _ _ => rfl⟩
set_option maxHeartbeats 4000000 in
set_option maxRecDepth 100000 in
theorem e_C_resistance {l : Launch} {D : va_G} {tys : List (ClassId × FieldType)} {b N : Nat} {σ : Nat → Option va_E} {x y w : Int32} (h0 : σ 0 = some (.inr (0, [.ref (b + 1), .ref (b + 19), .ref (b + 20), .ref (b + 23), .ref (b + 25), .ref (b + 30)]))) (h1 : σ 1 = some (.inr (1, [.int 0, .int 0, .ref (b + 2), .ref (b + 3), .ref (b + 4)]))) : zM l D kCl tys kNw b ky_C_resistance (kh_C_resistance :: zT) 1 30 0 0 [.ref (b + 0), .int x, .int y, .int w] N σ (zX (some (.long (-1))) N σ) := by
  refine zM.of (by decide +kernel) rfl (Nat.le_of_ble_eq_true rfl) ?_
  refine z_pick (lv' := [(0, .ref (b + 0)), (1, .int x), (2, .int y), (3, .int w)]) [0, 1, 2, 3] rfl ?_
  refine z_aload_n kd_C_resistance_0 0 rfl ?_
  refine z_get kd_C_resistance_1 (kf_C_10 _) h0 rfl ?_
  refine z_iload_n kd_C_resistance_4 1 rfl ?_
  refine z_V1 (a := 1) (As := [_]) kd_C_resistance_5 (kg_C_69 _) h1 kc_N (e_N_hasNode h1) rfl rfl (Nat.le_of_ble_eq_true rfl) ⟨Nat.le_of_ble_eq_true rfl, Nat.le_of_ble_eq_true rfl⟩ ⟨Nat.le_of_ble_eq_true rfl, Nat.le_of_ble_eq_true rfl⟩ ?_
  refine z_if_eq (tgt := 31) kd_C_resistance_8 (by decide) (fun c8 => ?_) (fun c8 => absurd c8 (by decide))
  refine z_ldc2 (v := -1) kd_C_resistance_31 (List.mem_cons_of_mem _ (zin 418 rfl rfl)) ?_
  exact z_lret kd_C_resistance_34 rfl (Nat.le_of_ble_eq_true rfl) (Nat.le_of_ble_eq_true rfl) ⟨rfl, rfl, fun _ _ => rfl⟩
set_option maxHeartbeats 4000000 in
set_option maxRecDepth 100000 in
theorem e_C_chips {l : Launch} {D : va_G} {tys : List (ClassId × FieldType)} {b N : Nat} {σ : Nat → Option va_E} {x w : Int32} (h0 : σ 0 = some (.inr (0, [.ref (b + 1), .ref (b + 19), .ref (b + 20), .ref (b + 23), .ref (b + 25), .ref (b + 30)]))) (h1 : σ 1 = some (.inr (1, [.int 0, .int 0, .ref (b + 2), .ref (b + 3), .ref (b + 4)]))) : zM l D kCl tys kNw b ky_C_chips (kh_C_chips :: zT) 1 30 0 0 [.ref (b + 0), .int x, .int w] N σ (zX (some (.long (-1))) N σ) := by
  refine zM.of (by decide +kernel) rfl (Nat.le_of_ble_eq_true rfl) ?_
  refine z_pick (lv' := [(0, .ref (b + 0)), (1, .int x), (2, .int w)]) [0, 1, 2] rfl ?_
  refine z_aload_n kd_C_chips_0 0 rfl ?_
  refine z_get kd_C_chips_1 (kf_C_10 _) h0 rfl ?_
  refine z_iload_n kd_C_chips_4 1 rfl ?_
  refine z_V1 (a := 1) (As := [_]) kd_C_chips_5 (kg_C_69 _) h1 kc_N (e_N_hasNode h1) rfl rfl (Nat.le_of_ble_eq_true rfl) ⟨Nat.le_of_ble_eq_true rfl, Nat.le_of_ble_eq_true rfl⟩ ⟨Nat.le_of_ble_eq_true rfl, Nat.le_of_ble_eq_true rfl⟩ ?_
  refine z_if_eq (tgt := 22) kd_C_chips_8 (by decide) (fun c8 => ?_) (fun c8 => absurd c8 (by decide))
  refine z_ldc2 (v := -1) kd_C_chips_22 (List.mem_cons_of_mem _ (zin 418 rfl rfl)) ?_
  exact z_lret kd_C_chips_25 rfl (Nat.le_of_ble_eq_true rfl) (Nat.le_of_ble_eq_true rfl) ⟨rfl, rfl, fun _ _ => rfl⟩
set_option maxHeartbeats 4000000 in
set_option maxRecDepth 100000 in
theorem e_C_level {l : Launch} {D : va_G} {tys : List (ClassId × FieldType)} {b N : Nat} {σ : Nat → Option va_E} {x : Int32} (h0 : σ 0 = some (.inr (0, [.ref (b + 1), .ref (b + 19), .ref (b + 20), .ref (b + 23), .ref (b + 25), .ref (b + 30)]))) (h1 : σ 1 = some (.inr (1, [.int 0, .int 0, .ref (b + 2), .ref (b + 3), .ref (b + 4)]))) : zM l D kCl tys kNw b ky_C_level (kh_C_level :: zT) 1 30 0 0 [.ref (b + 0), .int x] N σ (zX (some (.long (-1))) N σ) := by
  refine zM.of (by decide +kernel) rfl (Nat.le_of_ble_eq_true rfl) ?_
  refine z_pick (lv' := [(0, .ref (b + 0)), (1, .int x)]) [0, 1] rfl ?_
  refine z_aload_n kd_C_level_0 0 rfl ?_
  refine z_get kd_C_level_1 (kf_C_10 _) h0 rfl ?_
  refine z_iload_n kd_C_level_4 1 rfl ?_
  refine z_V1 (a := 1) (As := [_]) kd_C_level_5 (kg_C_69 _) h1 kc_N (e_N_hasNode h1) rfl rfl (Nat.le_of_ble_eq_true rfl) ⟨Nat.le_of_ble_eq_true rfl, Nat.le_of_ble_eq_true rfl⟩ ⟨Nat.le_of_ble_eq_true rfl, Nat.le_of_ble_eq_true rfl⟩ ?_
  refine z_if_eq (tgt := 23) kd_C_level_8 (by decide) (fun c8 => ?_) (fun c8 => absurd c8 (by decide))
  refine z_ldc2 (v := -1) kd_C_level_23 (List.mem_cons_of_mem _ (zin 418 rfl rfl)) ?_
  exact z_lret kd_C_level_26 rfl (Nat.le_of_ble_eq_true rfl) (Nat.le_of_ble_eq_true rfl) ⟨rfl, rfl, fun _ _ => rfl⟩
set_option maxHeartbeats 4000000 in
set_option maxRecDepth 100000 in
theorem e_C_settle {l : Launch} {D : va_G} {tys : List (ClassId × FieldType)} {b N : Nat} {σ : Nat → Option va_E} {x : Int32} (h0 : σ 0 = some (.inr (0, [.ref (b + 1), .ref (b + 19), .ref (b + 20), .ref (b + 23), .ref (b + 25), .ref (b + 30)]))) (h1 : σ 1 = some (.inr (1, [.int 0, .int 0, .ref (b + 2), .ref (b + 3), .ref (b + 4)]))) : zM l D kCl tys kNw b ky_C_settle (kh_C_settle :: zT) 1 30 0 0 [.ref (b + 0), .int x] N σ (zX (some (.long (-1))) N σ) := by
  refine zM.of (by decide +kernel) rfl (Nat.le_of_ble_eq_true rfl) ?_
  refine z_pick (lv' := [(0, .ref (b + 0)), (1, .int x)]) [0, 1] rfl ?_
  refine z_aload_n kd_C_settle_0 0 rfl ?_
  refine z_get kd_C_settle_1 (kf_C_10 _) h0 rfl ?_
  refine z_iload_n kd_C_settle_4 1 rfl ?_
  refine z_V1 (a := 1) (As := [_]) kd_C_settle_5 (kg_C_69 _) h1 kc_N (e_N_hasNode h1) rfl rfl (Nat.le_of_ble_eq_true rfl) ⟨Nat.le_of_ble_eq_true rfl, Nat.le_of_ble_eq_true rfl⟩ ⟨Nat.le_of_ble_eq_true rfl, Nat.le_of_ble_eq_true rfl⟩ ?_
  refine z_if_eq (tgt := 33) kd_C_settle_8 (by decide) (fun c8 => ?_) (fun c8 => absurd c8 (by decide))
  refine z_ldc2 (v := -1) kd_C_settle_33 (List.mem_cons_of_mem _ (zin 418 rfl rfl)) ?_
  exact z_lret kd_C_settle_36 rfl (Nat.le_of_ble_eq_true rfl) (Nat.le_of_ble_eq_true rfl) ⟨rfl, rfl, fun _ _ => rfl⟩
set_option maxHeartbeats 4000000 in
set_option maxRecDepth 100000 in
theorem e_C_fired {l : Launch} {D : va_G} {tys : List (ClassId × FieldType)} {b N : Nat} {σ : Nat → Option va_E} {x : Int32} (h0 : σ 0 = some (.inr (0, [.ref (b + 1), .ref (b + 19), .ref (b + 20), .ref (b + 23), .ref (b + 25), .ref (b + 30)]))) (h1 : σ 1 = some (.inr (1, [.int 0, .int 0, .ref (b + 2), .ref (b + 3), .ref (b + 4)]))) : zM l D kCl tys kNw b ky_C_fired (kh_C_fired :: zT) 1 30 0 0 [.ref (b + 0), .int x] N σ (zX (some (.long 0)) N σ) := by
  refine zM.of (by decide +kernel) rfl (Nat.le_of_ble_eq_true rfl) ?_
  refine z_pick (lv' := [(0, .ref (b + 0)), (1, .int x)]) [0, 1] rfl ?_
  refine z_aload_n kd_C_fired_0 0 rfl ?_
  refine z_get kd_C_fired_1 (kf_C_10 _) h0 rfl ?_
  refine z_iload_n kd_C_fired_4 1 rfl ?_
  refine z_V1 (a := 1) (As := [_]) kd_C_fired_5 (kg_C_69 _) h1 kc_N (e_N_hasNode h1) rfl rfl (Nat.le_of_ble_eq_true rfl) ⟨Nat.le_of_ble_eq_true rfl, Nat.le_of_ble_eq_true rfl⟩ ⟨Nat.le_of_ble_eq_true rfl, Nat.le_of_ble_eq_true rfl⟩ ?_
  refine z_if_eq (tgt := 23) kd_C_fired_8 (by decide) (fun c8 => ?_) (fun c8 => absurd c8 (by decide))
  refine z_lconst (v := 0) kd_C_fired_23 (by decide +kernel) ?_
  exact z_lret kd_C_fired_24 rfl (Nat.le_of_ble_eq_true rfl) (Nat.le_of_ble_eq_true rfl) ⟨rfl, rfl, fun _ _ => rfl⟩
set_option maxHeartbeats 4000000 in
set_option maxRecDepth 100000 in
theorem e_C_recurrent {l : Launch} {D : va_G} {tys : List (ClassId × FieldType)} {b N : Nat} {σ : Nat → Option va_E} {x : Int32} (h0 : σ 0 = some (.inr (0, [.ref (b + 1), .ref (b + 19), .ref (b + 20), .ref (b + 23), .ref (b + 25), .ref (b + 30)]))) (h1 : σ 1 = some (.inr (1, [.int 0, .int 0, .ref (b + 2), .ref (b + 3), .ref (b + 4)]))) : zM l D kCl tys kNw b ky_C_recurrent (kh_C_recurrent :: zT) 1 30 0 0 [.ref (b + 0), .int x] N σ (zX (some (.int (-1))) N σ) := by
  refine zM.of (by decide +kernel) rfl (Nat.le_of_ble_eq_true rfl) ?_
  refine z_pick (lv' := [(0, .ref (b + 0)), (1, .int x)]) [0, 1] rfl ?_
  refine z_aload_n kd_C_recurrent_0 0 rfl ?_
  refine z_get kd_C_recurrent_1 (kf_C_10 _) h0 rfl ?_
  refine z_iload_n kd_C_recurrent_4 1 rfl ?_
  refine z_V1 (a := 1) (As := [_]) kd_C_recurrent_5 (kg_C_69 _) h1 kc_N (e_N_hasNode h1) rfl rfl (Nat.le_of_ble_eq_true rfl) ⟨Nat.le_of_ble_eq_true rfl, Nat.le_of_ble_eq_true rfl⟩ ⟨Nat.le_of_ble_eq_true rfl, Nat.le_of_ble_eq_true rfl⟩ ?_
  refine z_if_eq (tgt := 22) kd_C_recurrent_8 (by decide) (fun c8 => ?_) (fun c8 => absurd c8 (by decide))
  refine z_iconst (v := -1) kd_C_recurrent_22 (by decide) ?_
  exact z_iret kd_C_recurrent_23 rfl (Nat.le_of_ble_eq_true rfl) (Nat.le_of_ble_eq_true rfl) ⟨rfl, rfl, fun _ _ => rfl⟩
