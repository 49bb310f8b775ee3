set_option maxHeartbeats 4000000 in
set_option maxRecDepth 100000 in
theorem c_C_node_f {l : Launch} {D : va_G} {tys : List (ClassId × FieldType)} {b N : Nat} {σ : Nat → Option va_E} {nodes arcs : Int32} (h0 : σ 0 = some (.inr (0, [.ref (b + 1), .ref (b + 19), .ref (b + 20), .ref (b + 23), .ref (b + 25), .ref (b + 30)]))) (h1 : σ 1 = some (.inr (1, [.int nodes, .int arcs, .ref (b + 2), .ref (b + 3), .ref (b + 4)]))) (hc : ¬ nodes < 10) : zM l D kCl tys kNw b ky_C_node (kh_C_node :: zT) 0 0 0 0 [.ref (b + 0)] N σ (zD (some (.int (-1))) N σ) := by
  refine zM.of (by decide +kernel) rfl (Nat.le_of_ble_eq_true rfl) ?_
  refine z_pick (lv' := [(0, .ref (b + 0))]) [0] rfl ?_
  refine z_aload_n kd_C_node_0 0 rfl ?_
  refine z_get kd_C_node_1 (kf_C_10 _) h0 rfl ?_
  refine z_get kd_C_node_4 (kf_C_65 _) h1 rfl ?_
  refine z_bipush (v := 10) kd_C_node_7 (by decide +kernel) ?_
  refine z_icmp_lt (tgt := 14) kd_C_node_9 (by decide) (fun c9 => ?_) (fun c9 => ?_)
  · exact absurd c9 hc
  · refine z_iconst (v := -1) kd_C_node_12 (by decide) ?_
    exact z_iret kd_C_node_13 rfl (Nat.le_of_ble_eq_true rfl) (Nat.le_of_ble_eq_true rfl) ⟨rfl, rfl, rfl⟩
set_option maxHeartbeats 4000000 in
set_option maxRecDepth 100000 in
theorem c_C_node {l : Launch} {D : va_G} {tys : List (ClassId × FieldType)} {b N : Nat} {σ : Nat → Option va_E} {nodes arcs : Int32} (h0 : σ 0 = some (.inr (0, [.ref (b + 1), .ref (b + 19), .ref (b + 20), .ref (b + 23), .ref (b + 25), .ref (b + 30)]))) (h1 : σ 1 = some (.inr (1, [.int nodes, .int arcs, .ref (b + 2), .ref (b + 3), .ref (b + 4)]))) (hc : nodes < 10) : zM l D kCl tys kNw b ky_C_node (kh_C_node :: zT) 0 0 0 0 [.ref (b + 0)] N σ (zD (some (.int nodes)) N (zUp σ 1 (.inr (1, [.int (nodes + 1), .int arcs, .ref (b + 2), .ref (b + 3), .ref (b + 4)])))) := by
  refine zM.of (by decide +kernel) rfl (Nat.le_of_ble_eq_true rfl) ?_
  refine z_pick (lv' := [(0, .ref (b + 0))]) [0] rfl ?_
  refine z_aload_n kd_C_node_0 0 rfl ?_
  refine z_get kd_C_node_1 (kf_C_10 _) h0 rfl ?_
  refine z_get kd_C_node_4 (kf_C_65 _) h1 rfl ?_
  refine z_bipush (v := 10) kd_C_node_7 (by decide +kernel) ?_
  refine z_icmp_lt (tgt := 14) kd_C_node_9 (by decide) (fun c9 => ?_) (fun c9 => ?_)
  · refine z_aload_n kd_C_node_14 0 rfl ?_
    refine z_get kd_C_node_15 (kf_C_10 _) h0 rfl ?_
    refine z_dup kd_C_node_18 rfl ?_
    refine z_get kd_C_node_19 (kf_C_65 _) h1 rfl ?_
    refine z_dup_x1 kd_C_node_22 rfl rfl ?_
    refine z_iconst (v := 1) kd_C_node_23 (by decide) ?_
    refine z_iadd kd_C_node_24 ?_
    refine z_putE (fs' := [_, _, _, _, _]) kd_C_node_25 (kp_C_65 _) h1 (Nat.le_of_ble_eq_true rfl) rfl rfl rfl ?_
    exact z_iret kd_C_node_28 rfl (Nat.le_of_ble_eq_true rfl) (Nat.le_of_ble_eq_true rfl) ⟨rfl, rfl, rfl⟩
  · exact absurd hc c9
set_option maxHeartbeats 4000000 in
set_option maxRecDepth 100000 in
theorem c_C_drop_f {l : Launch} {D : va_G} {tys : List (ClassId × FieldType)} {b N : Nat} {σ : Nat → Option va_E} {nodes arcs : Int32} (h0 : σ 0 = some (.inr (0, [.ref (b + 1), .ref (b + 19), .ref (b + 20), .ref (b + 23), .ref (b + 25), .ref (b + 30)]))) (h1 : σ 1 = some (.inr (1, [.int nodes, .int arcs, .ref (b + 2), .ref (b + 3), .ref (b + 4)]))) (hc : arcs = 0) : zM l D kCl tys kNw b ky_C_drop (kh_C_drop :: zT) 0 0 0 0 [.ref (b + 0)] N σ (zD (some (.int 0)) N σ) := by
  refine zM.of (by decide +kernel) rfl (Nat.le_of_ble_eq_true rfl) ?_
  refine z_pick (lv' := [(0, .ref (b + 0))]) [0] rfl ?_
  refine z_aload_n kd_C_drop_0 0 rfl ?_
  refine z_get kd_C_drop_1 (kf_C_10 _) h0 rfl ?_
  refine z_get kd_C_drop_4 (kf_C_76 _) h1 rfl ?_
  refine z_if_ne (tgt := 12) kd_C_drop_7 (by decide) (fun c7 => ?_) (fun c7 => ?_)
  · exact absurd hc c7
  · refine z_iconst (v := 0) kd_C_drop_10 (by decide) ?_
    exact z_zret kd_C_drop_11 rfl rfl (Nat.le_of_ble_eq_true rfl) (Nat.le_of_ble_eq_true rfl) ⟨rfl, rfl, rfl⟩
set_option maxHeartbeats 4000000 in
set_option maxRecDepth 100000 in
theorem c_C_drop {l : Launch} {D : va_G} {tys : List (ClassId × FieldType)} {b N : Nat} {σ : Nat → Option va_E} {nodes arcs : Int32} (h0 : σ 0 = some (.inr (0, [.ref (b + 1), .ref (b + 19), .ref (b + 20), .ref (b + 23), .ref (b + 25), .ref (b + 30)]))) (h1 : σ 1 = some (.inr (1, [.int nodes, .int arcs, .ref (b + 2), .ref (b + 3), .ref (b + 4)]))) (hc : ¬ arcs = 0) : zM l D kCl tys kNw b ky_C_drop (kh_C_drop :: zT) 0 0 0 0 [.ref (b + 0)] N σ (zD (some (.int 1)) N (zUp σ 1 (.inr (1, [.int nodes, .int (arcs - 1), .ref (b + 2), .ref (b + 3), .ref (b + 4)])))) := by
  refine zM.of (by decide +kernel) rfl (Nat.le_of_ble_eq_true rfl) ?_
  refine z_pick (lv' := [(0, .ref (b + 0))]) [0] rfl ?_
  refine z_aload_n kd_C_drop_0 0 rfl ?_
  refine z_get kd_C_drop_1 (kf_C_10 _) h0 rfl ?_
  refine z_get kd_C_drop_4 (kf_C_76 _) h1 rfl ?_
  refine z_if_ne (tgt := 12) kd_C_drop_7 (by decide) (fun c7 => ?_) (fun c7 => ?_)
  · refine z_aload_n kd_C_drop_12 0 rfl ?_
    refine z_get kd_C_drop_13 (kf_C_10 _) h0 rfl ?_
    refine z_dup kd_C_drop_16 rfl ?_
    refine z_get kd_C_drop_17 (kf_C_76 _) h1 rfl ?_
    refine z_iconst (v := 1) kd_C_drop_20 (by decide) ?_
    refine z_isub kd_C_drop_21 ?_
    refine z_putE (fs' := [_, _, _, _, _]) kd_C_drop_22 (kp_C_76 _) h1 (Nat.le_of_ble_eq_true rfl) rfl rfl rfl ?_
    refine z_iconst (v := 1) kd_C_drop_25 (by decide) ?_
    exact z_zret kd_C_drop_26 rfl rfl (Nat.le_of_ble_eq_true rfl) (Nat.le_of_ble_eq_true rfl) ⟨rfl, rfl, rfl⟩
  · exact absurd c7 hc
def zWt (x : Int32) : Bool := decide (¬ x < 1) && decide (¬ 9 < x)
set_option maxHeartbeats 4000000 in
set_option maxRecDepth 100000 in
theorem c_C_isWeight {l : Launch} {D : va_G} {tys : List (ClassId × FieldType)} {b N : Nat} {σ : Nat → Option va_E} {x : Int32} : zM l D kCl tys kNw b ky_C_isWeight (kh_C_isWeight :: zT) 0 0 0 0 [.int x] N σ (zD (some (.int (zB (zWt x)))) N σ) := by
  refine zM.of (by decide +kernel) rfl (Nat.le_of_ble_eq_true rfl) ?_
  refine z_pick (lv' := [(0, .int x)]) [0] rfl ?_
  refine z_iload_n kd_C_isWeight_0 0 rfl ?_
  refine z_iconst (v := 1) kd_C_isWeight_1 (by decide) ?_
  refine z_icmp_lt (tgt := 15) kd_C_isWeight_2 (by decide) (fun c2 => ?_) (fun c2 => ?_)
  · refine z_iconst (v := 0) kd_C_isWeight_15 (by decide) ?_
    exact z_zret kd_C_isWeight_16 rfl rfl (Nat.le_of_ble_eq_true rfl) (Nat.le_of_ble_eq_true rfl) ⟨by simp [zWt, zB, *], rfl, rfl⟩
  · refine z_iload_n kd_C_isWeight_5 0 rfl ?_
    refine z_bipush (v := 9) kd_C_isWeight_6 (by decide +kernel) ?_
    refine z_icmp_gt (tgt := 15) kd_C_isWeight_8 (by decide) (fun c8 => ?_) (fun c8 => ?_)
    · refine z_iconst (v := 0) kd_C_isWeight_15 (by decide) ?_
      exact z_zret kd_C_isWeight_16 rfl rfl (Nat.le_of_ble_eq_true rfl) (Nat.le_of_ble_eq_true rfl) ⟨by simp [zWt, zB, *], rfl, rfl⟩
    · refine z_iconst (v := 1) kd_C_isWeight_11 (by decide) ?_
      refine z_goto (tgt := 16) kd_C_isWeight_12 (by decide) ?_
      exact z_zret kd_C_isWeight_16 rfl rfl (Nat.le_of_ble_eq_true rfl) (Nat.le_of_ble_eq_true rfl) ⟨by simp [zWt, zB, *], rfl, rfl⟩
