set_option maxHeartbeats 4000000 in
set_option maxRecDepth 100000 in
theorem e_G_blank {l : Launch} {D : va_G} {tys : List (ClassId × FieldType)} {b N : Nat} {σ : Nat → Option va_E} {v7 : Value} (h7 : σ 7 = some (.inr (3, [v7, .ref (b + 8)]))) : zM l D kCl tys kNw b ky_G_blank (kh_G_blank :: zT) 0 0 0 0 [.ref (b + 7), .int 0] N σ (zD none N (zUp σ 7 (.inr (3, [.int 0, .ref (b + 8)])))) := by
  refine zM.of (by decide +kernel) rfl (Nat.le_of_ble_eq_true rfl) ?_
  refine z_pick (lv' := [(0, .ref (b + 7)), (1, .int 0)]) [0, 1] rfl ?_
  refine z_aload_n kd_G_blank_0 0 rfl ?_
  refine z_iload_n kd_G_blank_1 1 rfl ?_
  refine z_putE (fs' := [_, _]) kd_G_blank_2 (kp_G_16 _) h7 (Nat.le_of_ble_eq_true rfl) rfl rfl rfl ?_
  refine z_iconst (v := 0) kd_G_blank_5 (by decide) ?_
  refine z_istore_n (lv' := [(2, .int _), (0, .ref (b + 7)), (1, .int _)]) kd_G_blank_6 (by decide) rfl ?_
  refine z_iload_n kd_G_blank_7 0 rfl ?_
  refine z_aload_n kd_G_blank_8 1 rfl ?_
  refine z_get kd_G_blank_9 (kf_G_16 _) rfl rfl ?_
  refine z_icmp_ge (tgt := 46) kd_G_blank_12 (by decide) (fun c12 => ?_) (fun c12 => absurd c12 (by decide))
  exact z_vret kd_G_blank_46 rfl (Nat.le_of_ble_eq_true rfl) (Nat.le_of_ble_eq_true rfl) ⟨rfl, rfl, rfl⟩
set_option maxHeartbeats 4000000 in
set_option maxRecDepth 100000 in
theorem e_G_fillBothWays {l : Launch} {D : va_G} {tys : List (ClassId × FieldType)} {b N : Nat} {σ : Nat → Option va_E} {v7 : Value} (h1 : σ 1 = some (.inr (1, [.int 0, .int 0, .ref (b + 2), .ref (b + 3), .ref (b + 4)]))) (h7 : σ 7 = some (.inr (3, [v7, .ref (b + 8)]))) : zM l D kCl tys kNw b ky_G_fillBothWays (kh_G_fillBothWays :: zT) 1 30 0 0 [.ref (b + 7), .ref (b + 1)] N σ (zD none N (zUp σ 7 (.inr (3, [.int 0, .ref (b + 8)])))) := by
  refine zM.of (by decide +kernel) rfl (Nat.le_of_ble_eq_true rfl) ?_
  refine z_pick (lv' := [(0, .ref (b + 7)), (1, .ref (b + 1))]) [0, 1] rfl ?_
  refine z_aload_n kd_G_fillBothWays_0 0 rfl ?_
  refine z_aload_n kd_G_fillBothWays_1 1 rfl ?_
  refine z_get kd_G_fillBothWays_2 (kf_G_24 _) h1 rfl ?_
  refine z_V0 (a := 7) (As := [_]) kd_G_fillBothWays_5 (kg_G_29 _) h7 kc_G (e_G_blank h7) rfl rfl (Nat.le_of_ble_eq_true rfl) ⟨Nat.le_of_ble_eq_true rfl, Nat.le_of_ble_eq_true rfl⟩ ⟨Nat.le_of_ble_eq_true rfl, Nat.le_of_ble_eq_true rfl⟩ ?_
  refine z_iconst (v := 0) kd_G_fillBothWays_8 (by decide) ?_
  refine z_istore_n (lv' := [(2, .int _), (0, .ref (b + 7)), (1, .ref (b + 1))]) kd_G_fillBothWays_9 (by decide) rfl ?_
  refine z_iload_n kd_G_fillBothWays_10 0 rfl ?_
  refine z_aload_n kd_G_fillBothWays_11 2 rfl ?_
  refine z_get kd_G_fillBothWays_12 (kf_G_33 _) h1 rfl ?_
  refine z_icmp_ge (tgt := 46) kd_G_fillBothWays_15 (by decide) (fun c15 => ?_) (fun c15 => absurd c15 (by decide))
  exact z_vret kd_G_fillBothWays_46 rfl (Nat.le_of_ble_eq_true rfl) (Nat.le_of_ble_eq_true rfl) ⟨rfl, rfl, rfl⟩
set_option maxHeartbeats 4000000 in
set_option maxRecDepth 100000 in
theorem e_G_determinant {l : Launch} {D : va_G} {tys : List (ClassId × FieldType)} {b N : Nat} {σ : Nat → Option va_E} (h7 : σ 7 = some (.inr (3, [.int 0, .ref (b + 8)]))) : zM l D kCl tys kNw b ky_G_determinant (kh_G_determinant :: zT) 0 0 0 0 [.ref (b + 7)] N σ (zD (some (.long 1)) N σ) := by
  refine zM.of (by decide +kernel) rfl (Nat.le_of_ble_eq_true rfl) ?_
  refine z_pick (lv' := [(0, .ref (b + 7))]) [0] rfl ?_
  refine z_lconst (v := 1) kd_G_determinant_0 (by decide +kernel) ?_
  refine z_lstore_n (lv' := [(1, .long _), (0, .ref (b + 7))]) kd_G_determinant_1 (by decide) rfl ?_
  refine z_iconst (v := 0) kd_G_determinant_2 (by decide) ?_
  refine z_istore_n (lv' := [(3, .int _), (1, .long _), (0, .ref (b + 7))]) kd_G_determinant_3 (by decide) rfl ?_
  refine z_iload_n kd_G_determinant_4 0 rfl ?_
  refine z_aload_n kd_G_determinant_5 2 rfl ?_
  refine z_get kd_G_determinant_6 (kf_G_16 _) h7 rfl ?_
  refine z_icmp_ge (tgt := 73) kd_G_determinant_9 (by decide) (fun c9 => ?_) (fun c9 => absurd c9 (by decide))
  refine z_lload_n kd_G_determinant_73 1 rfl ?_
  exact z_lret kd_G_determinant_74 rfl (Nat.le_of_ble_eq_true rfl) (Nat.le_of_ble_eq_true rfl) ⟨rfl, rfl, rfl⟩
set_option maxHeartbeats 4000000 in
set_option maxRecDepth 100000 in
theorem e_T_sumOfMarked {l : Launch} {D : va_G} {tys : List (ClassId × FieldType)} {b N : Nat} {σ : Nat → Option va_E} {v7 : Value} {v19 w19 : Value} (h1 : σ 1 = some (.inr (1, [.int 0, .int 0, .ref (b + 2), .ref (b + 3), .ref (b + 4)]))) (h7 : σ 7 = some (.inr (3, [v7, .ref (b + 8)]))) (h19 : σ 19 = some (.inr (4, [.ref (b + 1), .ref (b + 5), .ref (b + 7), v19, w19]))) : zM l D kCl tys kNw b ky_T_sumOfMarked (kh_T_sumOfMarked :: zT) 2 60 0 0 [.ref (b + 19)] N σ (zD (some (.long 1)) N (zUp σ 7 (.inr (3, [.int 0, .ref (b + 8)])))) := by
  refine zM.of (by decide +kernel) rfl (Nat.le_of_ble_eq_true rfl) ?_
  refine z_pick (lv' := [(0, .ref (b + 19))]) [0] rfl ?_
  refine z_aload_n kd_T_sumOfMarked_0 0 rfl ?_
  refine z_get kd_T_sumOfMarked_1 (kf_T_19 _) h19 rfl ?_
  refine z_aload_n kd_T_sumOfMarked_4 0 rfl ?_
  refine z_get kd_T_sumOfMarked_5 (kf_T_9 _) h19 rfl ?_
  refine z_V0 (a := 7) (As := [_]) kd_T_sumOfMarked_8 (kg_T_82 _) h7 kc_G (e_G_fillBothWays h1 h7) rfl rfl (Nat.le_of_ble_eq_true rfl) ⟨Nat.le_of_ble_eq_true rfl, Nat.le_of_ble_eq_true rfl⟩ ⟨Nat.le_of_ble_eq_true rfl, Nat.le_of_ble_eq_true rfl⟩ ?_
  refine z_iconst (v := 0) kd_T_sumOfMarked_11 (by decide) ?_
  refine z_istore_n (lv' := [(1, .int _), (0, .ref (b + 19))]) kd_T_sumOfMarked_12 (by decide) rfl ?_
  refine z_iload_n kd_T_sumOfMarked_13 0 rfl ?_
  refine z_aload_n kd_T_sumOfMarked_14 1 rfl ?_
  refine z_get kd_T_sumOfMarked_15 (kf_T_9 _) h19 rfl ?_
  refine z_get kd_T_sumOfMarked_18 (kf_T_23 _) h1 rfl ?_
  refine z_icmp_ge (tgt := 45) kd_T_sumOfMarked_21 (by decide) (fun c21 => ?_) (fun c21 => absurd c21 (by decide))
  refine z_aload_n kd_T_sumOfMarked_45 1 rfl ?_
  refine z_get kd_T_sumOfMarked_46 (kf_T_19 _) h19 rfl ?_
  refine z_V1 (a := 7) (As := []) kd_T_sumOfMarked_49 (kg_T_70 _) rfl kc_G (e_G_determinant rfl) rfl rfl (Nat.le_of_ble_eq_true rfl) ⟨Nat.le_of_ble_eq_true rfl, Nat.le_of_ble_eq_true rfl⟩ ⟨Nat.le_of_ble_eq_true rfl, Nat.le_of_ble_eq_true rfl⟩ ?_
  exact z_lret kd_T_sumOfMarked_52 rfl (Nat.le_of_ble_eq_true rfl) (Nat.le_of_ble_eq_true rfl) ⟨rfl, rfl, rfl⟩
set_option maxHeartbeats 4000000 in
set_option maxRecDepth 100000 in
theorem e_C_forests {l : Launch} {D : va_G} {tys : List (ClassId × FieldType)} {b N : Nat} {σ : Nat → Option va_E} {v7 : Value} {v19 w19 : Value} (h0 : σ 0 = some (.inr (0, [.ref (b + 1), .ref (b + 19), .ref (b + 20), .ref (b + 23), .ref (b + 25), .ref (b + 30)]))) (h1 : σ 1 = some (.inr (1, [.int 0, .int 0, .ref (b + 2), .ref (b + 3), .ref (b + 4)]))) (h7 : σ 7 = some (.inr (3, [v7, .ref (b + 8)]))) (h19 : σ 19 = some (.inr (4, [.ref (b + 1), .ref (b + 5), .ref (b + 7), v19, w19]))) : zM l D kCl tys kNw b ky_C_forests (kh_C_forests :: zT) 3 90 0 0 [.ref (b + 0)] N σ (zX (some (.long 1)) N σ) := by
  refine zM.of (by decide +kernel) rfl (Nat.le_of_ble_eq_true rfl) ?_
  refine z_pick (lv' := [(0, .ref (b + 0))]) [0] rfl ?_
  refine z_aload_n kd_C_forests_0 0 rfl ?_
  refine z_get kd_C_forests_1 (kf_C_27 _) h0 rfl ?_
  refine z_V1 (a := 19) (As := []) kd_C_forests_4 (kg_C_105 _) h19 kc_T (e_T_sumOfMarked h1 h7 h19) rfl rfl (Nat.le_of_ble_eq_true rfl) ⟨Nat.le_of_ble_eq_true rfl, Nat.le_of_ble_eq_true rfl⟩ ⟨Nat.le_of_ble_eq_true rfl, Nat.le_of_ble_eq_true rfl⟩ ?_
  exact z_lret kd_C_forests_7 rfl (Nat.le_of_ble_eq_true rfl) (Nat.le_of_ble_eq_true rfl) ⟨rfl, rfl, (fun j hj => by first | rfl | (repeat rw [zUp_n (by omega)]))⟩
set_option maxHeartbeats 4000000 in
set_option maxRecDepth 100000 in
theorem e_T_tours {l : Launch} {D : va_G} {tys : List (ClassId × FieldType)} {b N : Nat} {σ : Nat → Option va_E} {v19 w19 : Value} (h1 : σ 1 = some (.inr (1, [.int 0, .int 0, .ref (b + 2), .ref (b + 3), .ref (b + 4)]))) (h19 : σ 19 = some (.inr (4, [.ref (b + 1), .ref (b + 5), .ref (b + 7), v19, w19]))) : zM l D kCl tys kNw b ky_T_toursAlongAll (kh_T_toursAlongAll :: zT) 0 0 0 0 [.ref (b + 19)] N σ (zD (some (.long 0)) N σ) := by
  refine zM.of (by decide +kernel) rfl (Nat.le_of_ble_eq_true rfl) ?_
  refine z_pick (lv' := [(0, .ref (b + 19))]) [0] rfl ?_
  refine z_aload_n kd_T_toursAlongAll_0 0 rfl ?_
  refine z_get kd_T_toursAlongAll_1 (kf_T_9 _) h19 rfl ?_
  refine z_get kd_T_toursAlongAll_4 (kf_T_47 _) h1 rfl ?_
  refine z_if_ne (tgt := 12) kd_T_toursAlongAll_7 (by decide) (fun c7 => absurd c7 (by decide)) (fun c7 => ?_)
  refine z_lconst (v := 0) kd_T_toursAlongAll_10 (by decide +kernel) ?_
  exact z_lret kd_T_toursAlongAll_11 rfl (Nat.le_of_ble_eq_true rfl) (Nat.le_of_ble_eq_true rfl) ⟨rfl, rfl, rfl⟩
set_option maxHeartbeats 4000000 in
set_option maxRecDepth 100000 in
theorem e_C_tours {l : Launch} {D : va_G} {tys : List (ClassId × FieldType)} {b N : Nat} {σ : Nat → Option va_E} {v19 w19 : Value} (h0 : σ 0 = some (.inr (0, [.ref (b + 1), .ref (b + 19), .ref (b + 20), .ref (b + 23), .ref (b + 25), .ref (b + 30)]))) (h1 : σ 1 = some (.inr (1, [.int 0, .int 0, .ref (b + 2), .ref (b + 3), .ref (b + 4)]))) (h19 : σ 19 = some (.inr (4, [.ref (b + 1), .ref (b + 5), .ref (b + 7), v19, w19]))) : zM l D kCl tys kNw b ky_C_tours (kh_C_tours :: zT) 1 40 0 0 [.ref (b + 0)] N σ (zX (some (.long 0)) N σ) := by
  refine zM.of (by decide +kernel) rfl (Nat.le_of_ble_eq_true rfl) ?_
  refine z_pick (lv' := [(0, .ref (b + 0))]) [0] rfl ?_
  refine z_aload_n kd_C_tours_0 0 rfl ?_
  refine z_get kd_C_tours_1 (kf_C_27 _) h0 rfl ?_
  refine z_V1 (a := 19) (As := []) kd_C_tours_4 (kg_C_119 _) h19 kc_T (e_T_tours h1 h19) rfl rfl (Nat.le_of_ble_eq_true rfl) ⟨Nat.le_of_ble_eq_true rfl, Nat.le_of_ble_eq_true rfl⟩ ⟨Nat.le_of_ble_eq_true rfl, Nat.le_of_ble_eq_true rfl⟩ ?_
  exact z_lret kd_C_tours_7 rfl (Nat.le_of_ble_eq_true rfl) (Nat.le_of_ble_eq_true rfl) ⟨rfl, rfl, fun _ _ => rfl⟩
set_option maxHeartbeats 4000000 in
set_option maxRecDepth 100000 in
theorem e_T_beginChoice {l : Launch} {D : va_G} {tys : List (ClassId × FieldType)} {b N : Nat} {σ : Nat → Option va_E} {s5 c5 : Value} {v19 w19 : Value} (h1 : σ 1 = some (.inr (1, [.int 0, .int 0, .ref (b + 2), .ref (b + 3), .ref (b + 4)]))) (h5 : σ 5 = some (.inr (2, [s5, c5, .ref (b + 6)]))) (h19 : σ 19 = some (.inr (4, [.ref (b + 1), .ref (b + 5), .ref (b + 7), v19, w19]))) : zM l D kCl tys kNw b ky_T_beginChoice (kh_T_beginChoice :: zT) 1 40 0 0 [.ref (b + 19)] N σ (zD none N (zUp (zUp (zUp σ 5 (.inr (2, [.int 0, .int 0, .ref (b + 6)]))) 19 (.inr (4, [.ref (b + 1), .ref (b + 5), .ref (b + 7), .long 0, w19]))) 19 (.inr (4, [.ref (b + 1), .ref (b + 5), .ref (b + 7), .long 0, .long 1])))) := by
  refine zM.of (by decide +kernel) rfl (Nat.le_of_ble_eq_true rfl) ?_
  refine z_pick (lv' := [(0, .ref (b + 19))]) [0] rfl ?_
  refine z_aload_n kd_T_beginChoice_0 0 rfl ?_
  refine z_get kd_T_beginChoice_1 (kf_T_15 _) h19 rfl ?_
  refine z_aload_n kd_T_beginChoice_4 0 rfl ?_
  refine z_get kd_T_beginChoice_5 (kf_T_9 _) h19 rfl ?_
  refine z_get kd_T_beginChoice_8 (kf_T_23 _) h1 rfl ?_
  refine z_V0 (a := 5) (As := [_]) kd_T_beginChoice_11 (kg_T_29 _) h5 kc_P (e_P_split (a := 5) h5) rfl rfl (Nat.le_of_ble_eq_true rfl) ⟨Nat.le_of_ble_eq_true rfl, Nat.le_of_ble_eq_true rfl⟩ ⟨Nat.le_of_ble_eq_true rfl, Nat.le_of_ble_eq_true rfl⟩ ?_
  refine z_aload_n kd_T_beginChoice_14 0 rfl ?_
  refine z_aload_n kd_T_beginChoice_15 0 rfl ?_
  refine z_iconst (v := 0) kd_T_beginChoice_16 (by decide) ?_
  refine z_V1 (a := 19) (As := [_]) kd_T_beginChoice_17 (kg_T_35 _) h19 kc_T (e_T_sumOverParts rfl h19) rfl rfl (Nat.le_of_ble_eq_true rfl) ⟨Nat.le_of_ble_eq_true rfl, Nat.le_of_ble_eq_true rfl⟩ ⟨Nat.le_of_ble_eq_true rfl, Nat.le_of_ble_eq_true rfl⟩ ?_
  refine z_putE (fs' := [_, _, _, _, _]) kd_T_beginChoice_20 (kp_T_102 _) h19 (Nat.le_of_ble_eq_true rfl) rfl rfl rfl ?_
  refine z_aload_n kd_T_beginChoice_23 0 rfl ?_
  refine z_lconst (v := 1) kd_T_beginChoice_24 (by decide +kernel) ?_
  refine z_putE (fs' := [_, _, _, _, _]) kd_T_beginChoice_25 (kp_T_113 _) rfl (Nat.le_of_ble_eq_true rfl) rfl rfl rfl ?_
  exact z_vret kd_T_beginChoice_28 rfl (Nat.le_of_ble_eq_true rfl) (Nat.le_of_ble_eq_true rfl) ⟨rfl, rfl, rfl⟩
set_option maxHeartbeats 4000000 in
set_option maxRecDepth 100000 in
theorem e_T_treeAt {l : Launch} {D : va_G} {tys : List (ClassId × FieldType)} {b N : Nat} {σ : Nat → Option va_E} {p : Int64} {s5 c5 : Value} {v19 w19 : Value} (h1 : σ 1 = some (.inr (1, [.int 0, .int 0, .ref (b + 2), .ref (b + 3), .ref (b + 4)]))) (h5 : σ 5 = some (.inr (2, [s5, c5, .ref (b + 6)]))) (h19 : σ 19 = some (.inr (4, [.ref (b + 1), .ref (b + 5), .ref (b + 7), v19, w19]))) : zM l D kCl tys kNw b ky_T_treeAt (kh_T_treeAt :: zT) 2 70 0 0 [.ref (b + 19), .long p] N σ (zX (some (.int (-1))) N σ) := by
  refine zM.of (by decide +kernel) rfl (Nat.le_of_ble_eq_true rfl) ?_
  refine z_pick (lv' := [(0, .ref (b + 19)), (1, .long p)]) [0, 1] rfl ?_
  refine z_aload_n kd_T_treeAt_0 0 rfl ?_
  refine z_V0 (a := 19) (As := []) kd_T_treeAt_1 (kg_T_99 _) h19 kc_T (e_T_beginChoice h1 h5 h19) rfl rfl (Nat.le_of_ble_eq_true rfl) ⟨Nat.le_of_ble_eq_true rfl, Nat.le_of_ble_eq_true rfl⟩ ⟨Nat.le_of_ble_eq_true rfl, Nat.le_of_ble_eq_true rfl⟩ ?_
  refine z_lload_n kd_T_treeAt_4 1 rfl ?_
  refine z_lconst (v := 0) kd_T_treeAt_5 (by decide +kernel) ?_
  refine z_lcmp kd_T_treeAt_6 ?_
  refine z_if_lt (tgt := 19) kd_T_treeAt_7 (by decide) (fun c7 => ?_) (fun c7 => ?_)
  · refine z_iconst (v := -1) kd_T_treeAt_19 (by decide) ?_
    exact z_iret kd_T_treeAt_20 rfl (Nat.le_of_ble_eq_true rfl) (Nat.le_of_ble_eq_true rfl) ⟨rfl, rfl, (fun j hj => by first | rfl | (repeat rw [zUp_n (by omega)]))⟩
  · refine z_lload_n kd_T_treeAt_10 1 rfl ?_
    refine z_aload_n kd_T_treeAt_11 0 rfl ?_
    refine z_get kd_T_treeAt_12 (kf_T_102 _) rfl rfl ?_
    refine z_lcmp kd_T_treeAt_15 ?_
    refine z_if_lt (tgt := 21) kd_T_treeAt_16 (by decide) (fun c16 => ?_) (fun c16 => ?_)
    · exact absurd c16 c7
    · refine z_iconst (v := -1) kd_T_treeAt_19 (by decide) ?_
      exact z_iret kd_T_treeAt_20 rfl (Nat.le_of_ble_eq_true rfl) (Nat.le_of_ble_eq_true rfl) ⟨rfl, rfl, (fun j hj => by first | rfl | (repeat rw [zUp_n (by omega)]))⟩
set_option maxHeartbeats 4000000 in
set_option maxRecDepth 100000 in
theorem e_C_drawn {l : Launch} {D : va_G} {tys : List (ClassId × FieldType)} {b N : Nat} {σ : Nat → Option va_E} {p : Int64} {s5 c5 : Value} {v19 w19 : Value} (h0 : σ 0 = some (.inr (0, [.ref (b + 1), .ref (b + 19), .ref (b + 20), .ref (b + 23), .ref (b + 25), .ref (b + 30)]))) (h1 : σ 1 = some (.inr (1, [.int 0, .int 0, .ref (b + 2), .ref (b + 3), .ref (b + 4)]))) (h5 : σ 5 = some (.inr (2, [s5, c5, .ref (b + 6)]))) (h19 : σ 19 = some (.inr (4, [.ref (b + 1), .ref (b + 5), .ref (b + 7), v19, w19]))) : zM l D kCl tys kNw b ky_C_drawn (kh_C_drawn :: zT) 3 100 0 0 [.ref (b + 0), .long p] N σ (zX (some (.int (-1))) N σ) := by
  refine zM.of (by decide +kernel) rfl (Nat.le_of_ble_eq_true rfl) ?_
  refine z_pick (lv' := [(0, .ref (b + 0)), (1, .long p)]) [0, 1] rfl ?_
  refine z_aload_n kd_C_drawn_0 0 rfl ?_
  refine z_get kd_C_drawn_1 (kf_C_27 _) h0 rfl ?_
  refine z_lload_n kd_C_drawn_4 1 rfl ?_
  refine z_callV (a := 19) (As := [_]) kd_C_drawn_5 (kg_C_122 _) h19 kc_T (e_T_treeAt h1 h5 h19) rfl rfl (Nat.le_of_ble_eq_true rfl) ⟨Nat.le_of_ble_eq_true rfl, Nat.le_of_ble_eq_true rfl⟩ ⟨Nat.le_of_ble_eq_true rfl, Nat.le_of_ble_eq_true rfl⟩ ?_
  rintro _ _ σ' ⟨hv, rfl, hfr⟩
  cases hv
  refine z_eq (st' := [.int (-1)]) rfl rfl rfl rfl ?_
  exact z_iret kd_C_drawn_8 rfl (Nat.le_of_ble_eq_true rfl) (Nat.le_of_ble_eq_true rfl) ⟨rfl, rfl, hfr⟩
set_option maxHeartbeats 4000000 in
set_option maxRecDepth 100000 in
theorem e_T_isTree {l : Launch} {D : va_G} {tys : List (ClassId × FieldType)} {b N : Nat} {σ : Nat → Option va_E} {x : Int32} {s5 c5 : Value} {v19 w19 : Value} (h1 : σ 1 = some (.inr (1, [.int 0, .int 0, .ref (b + 2), .ref (b + 3), .ref (b + 4)]))) (h5 : σ 5 = some (.inr (2, [s5, c5, .ref (b + 6)]))) (h19 : σ 19 = some (.inr (4, [.ref (b + 1), .ref (b + 5), .ref (b + 7), v19, w19]))) : zM l D kCl tys kNw b ky_T_isTree (kh_T_isTree :: zT) 1 40 0 0 [.ref (b + 19), .int x] N σ (zX (some (.int 0)) N σ) := by
  refine zM.of (by decide +kernel) rfl (Nat.le_of_ble_eq_true rfl) ?_
  refine z_pick (lv' := [(0, .ref (b + 19)), (1, .int x)]) [0, 1] rfl ?_
  refine z_iload_n kd_T_isTree_0 1 rfl ?_
  refine z_if_lt (tgt := 16) kd_T_isTree_1 (by decide) (fun c1 => ?_) (fun c1 => ?_)
  · refine z_iconst (v := 0) kd_T_isTree_16 (by decide) ?_
    exact z_zret kd_T_isTree_17 rfl rfl (Nat.le_of_ble_eq_true rfl) (Nat.le_of_ble_eq_true rfl) ⟨rfl, rfl, (fun j hj => by first | rfl | (repeat rw [zUp_n (by omega)]))⟩
  · refine z_iload_n kd_T_isTree_4 1 rfl ?_
    refine z_aload_n kd_T_isTree_5 0 rfl ?_
    refine z_get kd_T_isTree_6 (kf_T_9 _) h19 rfl ?_
    refine z_get kd_T_isTree_9 (kf_T_47 _) h1 rfl ?_
    refine z_ishr kd_T_isTree_12 ?_
    refine z_if_eq (tgt := 18) kd_T_isTree_13 (by decide) (fun c13 => ?_) (fun c13 => ?_)
    · refine z_aload_n kd_T_isTree_18 0 rfl ?_
      refine z_get kd_T_isTree_19 (kf_T_15 _) h19 rfl ?_
      refine z_aload_n kd_T_isTree_22 0 rfl ?_
      refine z_get kd_T_isTree_23 (kf_T_9 _) h19 rfl ?_
      refine z_get kd_T_isTree_26 (kf_T_23 _) h1 rfl ?_
      refine z_V0 (a := 5) (As := [_]) kd_T_isTree_29 (kg_T_29 _) h5 kc_P (e_P_split (a := 5) h5) rfl rfl (Nat.le_of_ble_eq_true rfl) ⟨Nat.le_of_ble_eq_true rfl, Nat.le_of_ble_eq_true rfl⟩ ⟨Nat.le_of_ble_eq_true rfl, Nat.le_of_ble_eq_true rfl⟩ ?_
      refine z_iconst (v := 0) kd_T_isTree_32 (by decide) ?_
      refine z_istore_n (lv' := [(2, .int _), (0, .ref (b + 19)), (1, .int _)]) kd_T_isTree_33 (by decide) rfl ?_
      refine z_iload_n kd_T_isTree_34 0 rfl ?_
      refine z_aload_n kd_T_isTree_35 1 rfl ?_
      refine z_get kd_T_isTree_36 (kf_T_9 _) h19 rfl ?_
      refine z_get kd_T_isTree_39 (kf_T_47 _) h1 rfl ?_
      refine z_icmp_ge (tgt := 100) kd_T_isTree_42 (by decide) (fun c42 => ?_) (fun c42 => absurd c42 (by decide))
      refine z_aload_n kd_T_isTree_100 1 rfl ?_
      refine z_get kd_T_isTree_101 (kf_T_15 _) h19 rfl ?_
      refine z_get kd_T_isTree_104 (kf_T_39 _) rfl rfl ?_
      refine z_iconst (v := 1) kd_T_isTree_107 (by decide) ?_
      refine z_icmp_ne (tgt := 115) kd_T_isTree_108 (by decide) (fun c108 => ?_) (fun c108 => absurd c108 (by decide))
      refine z_iconst (v := 0) kd_T_isTree_115 (by decide) ?_
      exact z_zret kd_T_isTree_116 rfl rfl (Nat.le_of_ble_eq_true rfl) (Nat.le_of_ble_eq_true rfl) ⟨rfl, rfl, (fun j hj => by first | rfl | (repeat rw [zUp_n (by omega)]))⟩
    · refine z_iconst (v := 0) kd_T_isTree_16 (by decide) ?_
      exact z_zret kd_T_isTree_17 rfl rfl (Nat.le_of_ble_eq_true rfl) (Nat.le_of_ble_eq_true rfl) ⟨rfl, rfl, (fun j hj => by first | rfl | (repeat rw [zUp_n (by omega)]))⟩
set_option maxHeartbeats 4000000 in
set_option maxRecDepth 100000 in
theorem e_C_place {l : Launch} {D : va_G} {tys : List (ClassId × FieldType)} {b N : Nat} {σ : Nat → Option va_E} {x : Int32} {s5 c5 : Value} {v19 w19 : Value} (h0 : σ 0 = some (.inr (0, [.ref (b + 1), .ref (b + 19), .ref (b + 20), .ref (b + 23), .ref (b + 25), .ref (b + 30)]))) (h1 : σ 1 = some (.inr (1, [.int 0, .int 0, .ref (b + 2), .ref (b + 3), .ref (b + 4)]))) (h5 : σ 5 = some (.inr (2, [s5, c5, .ref (b + 6)]))) (h19 : σ 19 = some (.inr (4, [.ref (b + 1), .ref (b + 5), .ref (b + 7), v19, w19]))) : zM l D kCl tys kNw b ky_C_place (kh_C_place :: zT) 2 70 0 0 [.ref (b + 0), .int x] N σ (zX (some (.long (-1))) N σ) := by
  refine zM.of (by decide +kernel) rfl (Nat.le_of_ble_eq_true rfl) ?_
  refine z_pick (lv' := [(0, .ref (b + 0)), (1, .int x)]) [0, 1] rfl ?_
  refine z_aload_n kd_C_place_0 0 rfl ?_
  refine z_get kd_C_place_1 (kf_C_27 _) h0 rfl ?_
  refine z_iload_n kd_C_place_4 1 rfl ?_
  refine z_callV (a := 19) (As := [_]) kd_C_place_5 (kg_C_126 _) h19 kc_T (e_T_isTree h1 h5 h19) rfl rfl (Nat.le_of_ble_eq_true rfl) ⟨Nat.le_of_ble_eq_true rfl, Nat.le_of_ble_eq_true rfl⟩ ⟨Nat.le_of_ble_eq_true rfl, Nat.le_of_ble_eq_true rfl⟩ ?_
  rintro _ _ σ' ⟨hv, rfl, hfr⟩
  cases hv
  refine z_eq (st' := [.int 0]) rfl rfl rfl rfl ?_
  refine z_if_eq (tgt := 22) kd_C_place_8 (by decide) (fun c8 => ?_) (fun c8 => absurd c8 (by decide))
  refine z_ldc2 (v := -1) kd_C_place_22 (List.mem_cons_of_mem _ (zin 418 rfl rfl)) ?_
  exact z_lret kd_C_place_25 rfl (Nat.le_of_ble_eq_true rfl) (Nat.le_of_ble_eq_true rfl) ⟨rfl, rfl, hfr⟩
set_option maxHeartbeats 4000000 in
set_option maxRecDepth 100000 in
theorem e_N_firstTrees {l : Launch} {D : va_G} {tys : List (ClassId × FieldType)} {b N : Nat} {σ : Nat → Option va_E} {s5 c5 : Value} (h1 : σ 1 = some (.inr (1, [.int 0, .int 0, .ref (b + 2), .ref (b + 3), .ref (b + 4)]))) (h5 : σ 5 = some (.inr (2, [s5, c5, .ref (b + 6)]))) : zM l D kCl tys kNw b ky_N_firstTrees (kh_N_firstTrees :: zT) 1 40 0 0 [.ref (b + 1), .ref (b + 5)] N σ (zD (some (.int 0)) N (zUp σ 5 (.inr (2, [.int 0, .int 0, .ref (b + 6)])))) := by
  refine zM.of (by decide +kernel) rfl (Nat.le_of_ble_eq_true rfl) ?_
  refine z_pick (lv' := [(0, .ref (b + 1)), (1, .ref (b + 5))]) [0, 1] rfl ?_
  refine z_iconst (v := 0) kd_N_firstTrees_0 (by decide) ?_
  refine z_istore_n (lv' := [(2, .int _), (0, .ref (b + 1)), (1, .ref (b + 5))]) kd_N_firstTrees_1 (by decide) rfl ?_
  refine z_aload_n kd_N_firstTrees_2 2 rfl ?_
  refine z_aload_n kd_N_firstTrees_3 1 rfl ?_
  refine z_get kd_N_firstTrees_4 (kf_N_21 _) h1 rfl ?_
  refine z_V0 (a := 5) (As := [_]) kd_N_firstTrees_7 (kg_N_28 _) h5 kc_P (e_P_split (a := 5) h5) rfl rfl (Nat.le_of_ble_eq_true rfl) ⟨Nat.le_of_ble_eq_true rfl, Nat.le_of_ble_eq_true rfl⟩ ⟨Nat.le_of_ble_eq_true rfl, Nat.le_of_ble_eq_true rfl⟩ ?_
  refine z_iconst (v := 0) kd_N_firstTrees_10 (by decide) ?_
  refine z_istore_n (lv' := [(3, .int _), (2, .int _), (0, .ref (b + 1)), (1, .ref (b + 5))]) kd_N_firstTrees_11 (by decide) rfl ?_
  refine z_iload_n kd_N_firstTrees_12 0 rfl ?_
  refine z_aload_n kd_N_firstTrees_13 2 rfl ?_
  refine z_get kd_N_firstTrees_14 (kf_N_25 _) h1 rfl ?_
  refine z_icmp_ge (tgt := 51) kd_N_firstTrees_17 (by decide) (fun c17 => ?_) (fun c17 => absurd c17 (by decide))
  refine z_iload_n kd_N_firstTrees_51 1 rfl ?_
  exact z_iret kd_N_firstTrees_52 rfl (Nat.le_of_ble_eq_true rfl) (Nat.le_of_ble_eq_true rfl) ⟨rfl, rfl, rfl⟩
set_option maxHeartbeats 4000000 in
set_option maxRecDepth 100000 in
theorem e_R_partsOfNet {l : Launch} {D : va_G} {tys : List (ClassId × FieldType)} {b N : Nat} {σ : Nat → Option va_E} {s5 c5 : Value} {v20 : Value} (h1 : σ 1 = some (.inr (1, [.int 0, .int 0, .ref (b + 2), .ref (b + 3), .ref (b + 4)]))) (h5 : σ 5 = some (.inr (2, [s5, c5, .ref (b + 6)]))) (h20 : σ 20 = some (.inr (5, [v20, .ref (b + 21), .ref (b + 22), .ref (b + 1), .ref (b + 5)]))) : zM l D kCl tys kNw b ky_R_partsOfNet (kh_R_partsOfNet :: zT) 2 70 0 0 [.ref (b + 20)] N σ (zD (some (.int 0)) N (zUp σ 5 (.inr (2, [.int 0, .int 0, .ref (b + 6)])))) := by
  refine zM.of (by decide +kernel) rfl (Nat.le_of_ble_eq_true rfl) ?_
  refine z_pick (lv' := [(0, .ref (b + 20))]) [0] rfl ?_
  refine z_aload_n kd_R_partsOfNet_0 0 rfl ?_
  refine z_get kd_R_partsOfNet_1 (kf_R_18 _) h20 rfl ?_
  refine z_aload_n kd_R_partsOfNet_4 0 rfl ?_
  refine z_get kd_R_partsOfNet_5 (kf_R_22 _) h20 rfl ?_
  refine z_V1 (a := 1) (As := [_]) kd_R_partsOfNet_8 (kg_R_26 _) h1 kc_N (e_N_firstTrees h1 h5) rfl rfl (Nat.le_of_ble_eq_true rfl) ⟨Nat.le_of_ble_eq_true rfl, Nat.le_of_ble_eq_true rfl⟩ ⟨Nat.le_of_ble_eq_true rfl, Nat.le_of_ble_eq_true rfl⟩ ?_
  refine z_pop kd_R_partsOfNet_11 rfl ?_
  refine z_aload_n kd_R_partsOfNet_12 0 rfl ?_
  refine z_get kd_R_partsOfNet_13 (kf_R_22 _) h20 rfl ?_
  refine z_get kd_R_partsOfNet_16 (kf_R_32 _) rfl rfl ?_
  exact z_iret kd_R_partsOfNet_19 rfl (Nat.le_of_ble_eq_true rfl) (Nat.le_of_ble_eq_true rfl) ⟨rfl, rfl, rfl⟩
set_option maxHeartbeats 4000000 in
set_option maxRecDepth 100000 in
theorem e_R_untaken {l : Launch} {D : va_G} {tys : List (ClassId × FieldType)} {b N : Nat} {σ : Nat → Option va_E} {x y : Int32} {v20 : Value} (h1 : σ 1 = some (.inr (1, [.int 0, .int 0, .ref (b + 2), .ref (b + 3), .ref (b + 4)]))) (h20 : σ 20 = some (.inr (5, [v20, .ref (b + 21), .ref (b + 22), .ref (b + 1), .ref (b + 5)]))) : zM l D kCl tys kNw b ky_R_untaken (kh_R_untaken :: zT) 0 0 0 0 [.ref (b + 20), .int x, .int y] N σ (zD (some (.int (-1))) N σ) := by
  refine zM.of (by decide +kernel) rfl (Nat.le_of_ble_eq_true rfl) ?_
  refine z_pick (lv' := [(0, .ref (b + 20)), (1, .int x), (2, .int y)]) [0, 1, 2] rfl ?_
  refine z_iconst (v := 0) kd_R_untaken_0 (by decide) ?_
  refine z_istore_n (lv' := [(3, .int _), (0, .ref (b + 20)), (1, .int _), (2, .int _)]) kd_R_untaken_1 (by decide) rfl ?_
  refine z_iconst (v := 0) kd_R_untaken_2 (by decide) ?_
  refine z_istore (lv' := [(4, .int _), (3, .int _), (0, .ref (b + 20)), (1, .int _), (2, .int _)]) kd_R_untaken_3 (by decide) rfl ?_
  refine z_iload kd_R_untaken_5 0 rfl ?_
  refine z_aload_n kd_R_untaken_7 2 rfl ?_
  refine z_get kd_R_untaken_8 (kf_R_18 _) h20 rfl ?_
  refine z_get kd_R_untaken_11 (kf_R_38 _) h1 rfl ?_
  refine z_icmp_ge (tgt := 43) kd_R_untaken_14 (by decide) (fun c14 => ?_) (fun c14 => absurd c14 (by decide))
  refine z_iconst (v := -1) kd_R_untaken_43 (by decide) ?_
  exact z_iret kd_R_untaken_44 rfl (Nat.le_of_ble_eq_true rfl) (Nat.le_of_ble_eq_true rfl) ⟨rfl, rfl, rfl⟩
set_option maxHeartbeats 4000000 in
set_option maxRecDepth 100000 in
theorem e_R_lay {l : Launch} {D : va_G} {tys : List (ClassId × FieldType)} {b N : Nat} {σ : Nat → Option va_E} {x : Int32} {s5 c5 : Value} {v20 : Value} (h1 : σ 1 = some (.inr (1, [.int 0, .int 0, .ref (b + 2), .ref (b + 3), .ref (b + 4)]))) (h5 : σ 5 = some (.inr (2, [s5, c5, .ref (b + 6)]))) (h20 : σ 20 = some (.inr (5, [v20, .ref (b + 21), .ref (b + 22), .ref (b + 1), .ref (b + 5)]))) : zM l D kCl tys kNw b ky_R_lay (kh_R_lay :: zT) 2 70 0 0 [.ref (b + 20), .int x] N σ (zD none N (zUp (zUp σ 20 (.inr (5, [.int 0, .ref (b + 21), .ref (b + 22), .ref (b + 1), .ref (b + 5)]))) 5 (.inr (2, [.int 0, .int 0, .ref (b + 6)])))) := by
  refine zM.of (by decide +kernel) rfl (Nat.le_of_ble_eq_true rfl) ?_
  refine z_pick (lv' := [(0, .ref (b + 20)), (1, .int x)]) [0, 1] rfl ?_
  refine z_aload_n kd_R_lay_0 0 rfl ?_
  refine z_iconst (v := 0) kd_R_lay_1 (by decide) ?_
  refine z_putE (fs' := [_, _, _, _, _]) kd_R_lay_2 (kp_R_47 _) h20 (Nat.le_of_ble_eq_true rfl) rfl rfl rfl ?_
  refine z_aload_n kd_R_lay_5 0 rfl ?_
  refine z_get kd_R_lay_6 (kf_R_18 _) rfl rfl ?_
  refine z_aload_n kd_R_lay_9 0 rfl ?_
  refine z_get kd_R_lay_10 (kf_R_22 _) rfl rfl ?_
  refine z_V1 (a := 1) (As := [_]) kd_R_lay_13 (kg_R_26 _) h1 kc_N (e_N_firstTrees h1 h5) rfl rfl (Nat.le_of_ble_eq_true rfl) ⟨Nat.le_of_ble_eq_true rfl, Nat.le_of_ble_eq_true rfl⟩ ⟨Nat.le_of_ble_eq_true rfl, Nat.le_of_ble_eq_true rfl⟩ ?_
  refine z_istore_n (lv' := [(2, .int _), (0, .ref (b + 20)), (1, .int _)]) kd_R_lay_16 (by decide) rfl ?_
  refine z_aload_n kd_R_lay_17 1 rfl ?_
  refine z_iload_n kd_R_lay_18 0 rfl ?_
  refine z_iload_n kd_R_lay_19 2 rfl ?_
  refine z_V1 (a := 20) (As := [_, _]) kd_R_lay_20 (kg_R_50 _) rfl kc_R (e_R_untaken h1 rfl) rfl rfl (Nat.le_of_ble_eq_true rfl) ⟨Nat.le_of_ble_eq_true rfl, Nat.le_of_ble_eq_true rfl⟩ ⟨Nat.le_of_ble_eq_true rfl, Nat.le_of_ble_eq_true rfl⟩ ?_
  refine z_istore_n (lv' := [(3, .int _), (2, .int _), (0, .ref (b + 20)), (1, .int _)]) kd_R_lay_23 (by decide) rfl ?_
  refine z_iload_n kd_R_lay_24 0 rfl ?_
  refine z_iconst (v := -1) kd_R_lay_25 (by decide) ?_
  refine z_icmp_ne (tgt := 30) kd_R_lay_26 (by decide) (fun c26 => absurd c26 (by decide)) (fun c26 => ?_)
  exact z_vret kd_R_lay_29 rfl (Nat.le_of_ble_eq_true rfl) (Nat.le_of_ble_eq_true rfl) ⟨rfl, rfl, rfl⟩
set_option maxHeartbeats 4000000 in
set_option maxRecDepth 100000 in
theorem e_C_ring {l : Launch} {D : va_G} {tys : List (ClassId × FieldType)} {b N : Nat} {σ : Nat → Option va_E} {x k : Int32} {s5 c5 : Value} {v20 : Value} (h0 : σ 0 = some (.inr (0, [.ref (b + 1), .ref (b + 19), .ref (b + 20), .ref (b + 23), .ref (b + 25), .ref (b + 30)]))) (h1 : σ 1 = some (.inr (1, [.int 0, .int 0, .ref (b + 2), .ref (b + 3), .ref (b + 4)]))) (h5 : σ 5 = some (.inr (2, [s5, c5, .ref (b + 6)]))) (h20 : σ 20 = some (.inr (5, [v20, .ref (b + 21), .ref (b + 22), .ref (b + 1), .ref (b + 5)]))) : zM l D kCl tys kNw b ky_C_ring (kh_C_ring :: zT) 3 100 0 0 [.ref (b + 0), .int x, .int k] N σ (zX (some (.int (-1))) N σ) := by
  refine zM.of (by decide +kernel) rfl (Nat.le_of_ble_eq_true rfl) ?_
  refine z_pick (lv' := [(0, .ref (b + 0)), (1, .int x), (2, .int k)]) [0, 1, 2] rfl ?_
  refine z_iload_n kd_C_ring_0 1 rfl ?_
  refine z_if_lt (tgt := 8) kd_C_ring_1 (by decide) (fun c1 => ?_) (fun c1 => ?_)
  · refine z_iconst (v := -1) kd_C_ring_8 (by decide) ?_
    exact z_iret kd_C_ring_9 rfl (Nat.le_of_ble_eq_true rfl) (Nat.le_of_ble_eq_true rfl) ⟨rfl, rfl, (fun j hj => by first | rfl | (repeat rw [zUp_n (by omega)]))⟩
  · refine z_iload_n kd_C_ring_4 2 rfl ?_
    refine z_if_ge (tgt := 10) kd_C_ring_5 (by decide) (fun c5 => ?_) (fun c5 => ?_)
    · refine z_aload_n kd_C_ring_10 0 rfl ?_
      refine z_get kd_C_ring_11 (kf_C_36 _) h0 rfl ?_
      refine z_iload_n kd_C_ring_14 1 rfl ?_
      refine z_V0 (a := 20) (As := [_]) kd_C_ring_15 (kg_C_132 _) h20 kc_R (e_R_lay h1 h5 h20) rfl rfl (Nat.le_of_ble_eq_true rfl) ⟨Nat.le_of_ble_eq_true rfl, Nat.le_of_ble_eq_true rfl⟩ ⟨Nat.le_of_ble_eq_true rfl, Nat.le_of_ble_eq_true rfl⟩ ?_
      refine z_iload_n kd_C_ring_18 2 rfl ?_
      refine z_aload_n kd_C_ring_19 0 rfl ?_
      refine z_get kd_C_ring_20 (kf_C_36 _) h0 rfl ?_
      refine z_get kd_C_ring_23 (kf_C_136 _) rfl rfl ?_
      refine z_icmp_ge (tgt := 41) kd_C_ring_26 (by decide) (fun c26 => ?_) (fun c26 => ?_)
      · refine z_iconst (v := -1) kd_C_ring_41 (by decide) ?_
        exact z_iret kd_C_ring_42 rfl (Nat.le_of_ble_eq_true rfl) (Nat.le_of_ble_eq_true rfl) ⟨rfl, rfl, (fun j hj => by first | rfl | (repeat rw [zUp_n (by omega)]))⟩
      · exact absurd c5 c26
    · refine z_iconst (v := -1) kd_C_ring_8 (by decide) ?_
      exact z_iret kd_C_ring_9 rfl (Nat.le_of_ble_eq_true rfl) (Nat.le_of_ble_eq_true rfl) ⟨rfl, rfl, (fun j hj => by first | rfl | (repeat rw [zUp_n (by omega)]))⟩
set_option maxHeartbeats 4000000 in
set_option maxRecDepth 100000 in
theorem e_U_find {l : Launch} {D : va_G} {tys : List (ClassId × FieldType)} {b N : Nat} {σ : Nat → Option va_E} {s5 c5 : Value} {v19 w19 : Value} {a23 b23 c23 d23 e23 : Value} (h1 : σ 1 = some (.inr (1, [.int 0, .int 0, .ref (b + 2), .ref (b + 3), .ref (b + 4)]))) (h5 : σ 5 = some (.inr (2, [s5, c5, .ref (b + 6)]))) (h19 : σ 19 = some (.inr (4, [.ref (b + 1), .ref (b + 5), .ref (b + 7), v19, w19]))) (h23 : σ 23 = some (.inr (6, [a23, .ref (b + 24), .ref (b + 1), .ref (b + 19), .ref (b + 7), b23, c23, d23, e23]))) : zM l D kCl tys kNw b ky_U_find (kh_U_find :: zT) 2 70 0 0 [.ref (b + 23)] N σ (zD none N (zUp (zUp (zUp σ 23 (.inr (6, [.int 0, .ref (b + 24), .ref (b + 1), .ref (b + 19), .ref (b + 7), b23, c23, d23, e23]))) 5 (.inr (2, [.int 0, .int 0, .ref (b + 6)]))) 23 (.inr (6, [.int 0, .ref (b + 24), .ref (b + 1), .ref (b + 19), .ref (b + 7), .long 0, c23, d23, e23])))) := by
  refine zM.of (by decide +kernel) rfl (Nat.le_of_ble_eq_true rfl) ?_
  refine z_pick (lv' := [(0, .ref (b + 23))]) [0] rfl ?_
  refine z_aload_n kd_U_find_0 0 rfl ?_
  refine z_iconst (v := 0) kd_U_find_1 (by decide) ?_
  refine z_putE (fs' := [_, _, _, _, _, _, _, _, _]) kd_U_find_2 (kp_U_33 _) h23 (Nat.le_of_ble_eq_true rfl) rfl rfl rfl ?_
  refine z_aload_n kd_U_find_5 0 rfl ?_
  refine z_aload_n kd_U_find_6 0 rfl ?_
  refine z_get kd_U_find_7 (kf_U_19 _) rfl rfl ?_
  refine z_V1 (a := 19) (As := []) kd_U_find_10 (kg_U_36 _) h19 kc_T (e_T_sumOfAll h1 h5 h19) rfl rfl (Nat.le_of_ble_eq_true rfl) ⟨Nat.le_of_ble_eq_true rfl, Nat.le_of_ble_eq_true rfl⟩ ⟨Nat.le_of_ble_eq_true rfl, Nat.le_of_ble_eq_true rfl⟩ ?_
  refine z_putE (fs' := [_, _, _, _, _, _, _, _, _]) kd_U_find_13 (kp_U_42 _) rfl (Nat.le_of_ble_eq_true rfl) rfl rfl rfl ?_
  refine z_aload_n kd_U_find_16 0 rfl ?_
  refine z_get kd_U_find_17 (kf_U_42 _) rfl rfl ?_
  refine z_ldc2 (v := 2) kd_U_find_20 (List.mem_cons_of_mem _ (zin 551 rfl rfl)) ?_
  refine z_lcmp kd_U_find_23 ?_
  refine z_topi (show _ = (-1 : Int32) from by decide +kernel) ?_
  refine z_if_ge (tgt := 28) kd_U_find_24 (by decide) (fun c24 => absurd c24 (by decide)) (fun c24 => ?_)
  exact z_vret kd_U_find_27 rfl (Nat.le_of_ble_eq_true rfl) (Nat.le_of_ble_eq_true rfl) ⟨rfl, rfl, rfl⟩
set_option maxHeartbeats 4000000 in
set_option maxRecDepth 100000 in
theorem e_C_group {l : Launch} {D : va_G} {tys : List (ClassId × FieldType)} {b N : Nat} {σ : Nat → Option va_E} {k : Int32} {s5 c5 : Value} {v19 w19 : Value} {a23 b23 c23 d23 e23 : Value} (h0 : σ 0 = some (.inr (0, [.ref (b + 1), .ref (b + 19), .ref (b + 20), .ref (b + 23), .ref (b + 25), .ref (b + 30)]))) (h1 : σ 1 = some (.inr (1, [.int 0, .int 0, .ref (b + 2), .ref (b + 3), .ref (b + 4)]))) (h5 : σ 5 = some (.inr (2, [s5, c5, .ref (b + 6)]))) (h19 : σ 19 = some (.inr (4, [.ref (b + 1), .ref (b + 5), .ref (b + 7), v19, w19]))) (h23 : σ 23 = some (.inr (6, [a23, .ref (b + 24), .ref (b + 1), .ref (b + 19), .ref (b + 7), b23, c23, d23, e23]))) : zM l D kCl tys kNw b ky_C_group (kh_C_group :: zT) 3 100 0 0 [.ref (b + 0), .int k] N σ (zX (some (.long (-1))) N σ) := by
  refine zM.of (by decide +kernel) rfl (Nat.le_of_ble_eq_true rfl) ?_
  refine z_pick (lv' := [(0, .ref (b + 0)), (1, .int k)]) [0, 1] rfl ?_
  refine z_aload_n kd_C_group_0 0 rfl ?_
  refine z_get kd_C_group_1 (kf_C_45 _) h0 rfl ?_
  refine z_V0 (a := 23) (As := []) kd_C_group_4 (kg_C_142 _) h23 kc_U (e_U_find h1 h5 h19 h23) rfl rfl (Nat.le_of_ble_eq_true rfl) ⟨Nat.le_of_ble_eq_true rfl, Nat.le_of_ble_eq_true rfl⟩ ⟨Nat.le_of_ble_eq_true rfl, Nat.le_of_ble_eq_true rfl⟩ ?_
  refine z_iload_n kd_C_group_7 1 rfl ?_
  refine z_if_lt (tgt := 33) kd_C_group_8 (by decide) (fun c8 => ?_) (fun c8 => ?_)
  · refine z_ldc2 (v := -1) kd_C_group_33 (List.mem_cons_of_mem _ (zin 418 rfl rfl)) ?_
    exact z_lret kd_C_group_36 rfl (Nat.le_of_ble_eq_true rfl) (Nat.le_of_ble_eq_true rfl) ⟨rfl, rfl, (fun j hj => by first | rfl | (repeat rw [zUp_n (by omega)]))⟩
  · refine z_iload_n kd_C_group_11 1 rfl ?_
    refine z_aload_n kd_C_group_12 0 rfl ?_
    refine z_get kd_C_group_13 (kf_C_45 _) h0 rfl ?_
    refine z_get kd_C_group_16 (kf_C_145 _) rfl rfl ?_
    refine z_icmp_ge (tgt := 33) kd_C_group_19 (by decide) (fun c19 => ?_) (fun c19 => ?_)
    · refine z_ldc2 (v := -1) kd_C_group_33 (List.mem_cons_of_mem _ (zin 418 rfl rfl)) ?_
      exact z_lret kd_C_group_36 rfl (Nat.le_of_ble_eq_true rfl) (Nat.le_of_ble_eq_true rfl) ⟨rfl, rfl, (fun j hj => by first | rfl | (repeat rw [zUp_n (by omega)]))⟩
    · exact absurd (zI_nn c8) c19
