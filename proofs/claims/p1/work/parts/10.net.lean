def zB (x : Bool) : Int32 := cond x 1 0
theorem zB_0 {x : Bool} : zB x = 0 ↔ x = false := by cases x <;> decide
theorem zB_n (x : Bool) : narrow .boolean (.int (zB x)) = .int (zB x) := by cases x <;> rfl
/-- in Java's words: 0 <= x && x < n -/
def zIn (x n : Int32) : Bool := decide (¬ x < 0) && decide (¬ n ≤ x)
theorem zIn_a {x n : Int32} (h : x < 0) : zIn x n = false := by simp [zIn, h]
theorem zIn_b {x n : Int32} (h : n ≤ x) : zIn x n = false := by simp [zIn, h]
theorem zIn_t {x n : Int32} (h : ¬ x < 0) (h2 : ¬ n ≤ x) : zIn x n = true := by simp [zIn, h, h2]
set_option maxHeartbeats 4000000 in
set_option maxRecDepth 100000 in
theorem c_N_hasNode {l : Launch} {D : va_G} {tys : List (ClassId × FieldType)} {b N : Nat} {σ : Nat → Option va_E} {nodes arcs x : Int32} (h1 : σ 1 = some (.inr (1, [.int nodes, .int arcs, .ref (b + 2), .ref (b + 3), .ref (b + 4)]))) : zM l D kCl tys kNw b ky_N_hasNode (kh_N_hasNode :: zT) 0 0 0 0 [.ref (b + 1), .int x] N σ (zD (some (.int (zB (zIn x nodes)))) N σ) := by
  refine zM.of (by decide +kernel) rfl (Nat.le_of_ble_eq_true rfl) ?_
  refine z_pick (lv' := [(0, .ref (b + 1)), (1, .int x)]) [0, 1] rfl ?_
  refine z_iload_n kd_N_hasNode_0 1 rfl ?_
  refine z_if_lt (tgt := 16) kd_N_hasNode_1 (by decide) (fun c1 => ?_) (fun c1 => ?_)
  · refine z_iconst (v := 0) kd_N_hasNode_16 (by decide) ?_
    exact z_zret kd_N_hasNode_17 rfl rfl (Nat.le_refl _) (Nat.le_refl _) ⟨by simp [zIn, zB, *], rfl, rfl⟩
  · refine z_iload_n kd_N_hasNode_4 1 rfl ?_
    refine z_aload_n kd_N_hasNode_5 0 rfl ?_
    refine z_get kd_N_hasNode_6 (kf_N_21 _) h1 rfl ?_
    refine z_icmp_ge (tgt := 16) kd_N_hasNode_9 (by decide) (fun c9 => ?_) (fun c9 => ?_)
    · refine z_iconst (v := 0) kd_N_hasNode_16 (by decide) ?_
      exact z_zret kd_N_hasNode_17 rfl rfl (Nat.le_refl _) (Nat.le_refl _) ⟨by simp [zIn, zB, *], rfl, rfl⟩
    · refine z_iconst (v := 1) kd_N_hasNode_12 (by decide) ?_
      refine z_goto (tgt := 17) kd_N_hasNode_13 (by decide) ?_
      exact z_zret kd_N_hasNode_17 rfl rfl (Nat.le_refl _) (Nat.le_refl _) ⟨by simp [zIn, zB, *], rfl, rfl⟩
set_option maxHeartbeats 4000000 in
set_option maxRecDepth 100000 in
theorem c_N_hasArc {l : Launch} {D : va_G} {tys : List (ClassId × FieldType)} {b N : Nat} {σ : Nat → Option va_E} {nodes arcs x : Int32} (h1 : σ 1 = some (.inr (1, [.int nodes, .int arcs, .ref (b + 2), .ref (b + 3), .ref (b + 4)]))) : zM l D kCl tys kNw b ky_N_hasArc (kh_N_hasArc :: zT) 0 0 0 0 [.ref (b + 1), .int x] N σ (zD (some (.int (zB (zIn x arcs)))) N σ) := by
  refine zM.of (by decide +kernel) rfl (Nat.le_of_ble_eq_true rfl) ?_
  refine z_pick (lv' := [(0, .ref (b + 1)), (1, .int x)]) [0, 1] rfl ?_
  refine z_iload_n kd_N_hasArc_0 1 rfl ?_
  refine z_if_lt (tgt := 16) kd_N_hasArc_1 (by decide) (fun c1 => ?_) (fun c1 => ?_)
  · refine z_iconst (v := 0) kd_N_hasArc_16 (by decide) ?_
    exact z_zret kd_N_hasArc_17 rfl rfl (Nat.le_refl _) (Nat.le_refl _) ⟨by simp [zIn, zB, *], rfl, rfl⟩
  · refine z_iload_n kd_N_hasArc_4 1 rfl ?_
    refine z_aload_n kd_N_hasArc_5 0 rfl ?_
    refine z_get kd_N_hasArc_6 (kf_N_25 _) h1 rfl ?_
    refine z_icmp_ge (tgt := 16) kd_N_hasArc_9 (by decide) (fun c9 => ?_) (fun c9 => ?_)
    · refine z_iconst (v := 0) kd_N_hasArc_16 (by decide) ?_
      exact z_zret kd_N_hasArc_17 rfl rfl (Nat.le_refl _) (Nat.le_refl _) ⟨by simp [zIn, zB, *], rfl, rfl⟩
    · refine z_iconst (v := 1) kd_N_hasArc_12 (by decide) ?_
      refine z_goto (tgt := 17) kd_N_hasArc_13 (by decide) ?_
      exact z_zret kd_N_hasArc_17 rfl rfl (Nat.le_refl _) (Nat.le_refl _) ⟨by simp [zIn, zB, *], rfl, rfl⟩
