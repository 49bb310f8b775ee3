def s_N_init (b : Nat) (cI cJ cZ cA cP : ClassId) (σ : Nat → Option va_E) : Nat → Option va_E := (zUp (zUp (zUp (zUp (zUp (zUp σ 2 (.inl (cI, 30, .inl (fun _ => 0)))) 1 (.inr (1, [.int 0, .int 0, .ref (b + 2), .null, .null]))) 3 (.inl (cI, 30, .inl (fun _ => 0)))) 1 (.inr (1, [.int 0, .int 0, .ref (b + 2), .ref (b + 3), .null]))) 4 (.inl (cI, 30, .inl (fun _ => 0)))) 1 (.inr (1, [.int 0, .int 0, .ref (b + 2), .ref (b + 3), .ref (b + 4)])))
set_option maxHeartbeats 4000000 in
set_option maxRecDepth 100000 in
theorem c_N_init {l : Launch} {D : va_G} {tys : List (ClassId × FieldType)} {b : Nat} {σ : Nat → Option va_E} {cI cJ cZ cA cP : ClassId} (ht0 : tys[0]? = some (cI, .int)) (ht1 : tys[1]? = some (cJ, .long)) (ht2 : tys[2]? = some (cZ, .boolean)) (ht3 : tys[3]? = some (cA, .array .long)) (ht4 : tys[4]? = some (cP, .object "TreeCounts$Parts")) (h : σ 1 = some (.inr (1, [.int 0, .int 0, .null, .null, .null]))) : zM l D kCl tys kNw b ky_N_init (kh_N_init :: zT) 1 12 3 90 [.ref (b + 1)] 2 σ (zD none 5 (s_N_init b cI cJ cZ cA cP σ)) := by
  refine zM.of (by decide +kernel) rfl (Nat.le_of_ble_eq_true rfl) ?_
  refine z_pick (lv' := [(0, .ref (b + 1))]) [0] rfl ?_
  refine z_aload_n kd_N_init_0 0 rfl ?_
  refine z_objInit kd_N_init_1 (List.mem_cons_of_mem _ (zin 80 rfl rfl)) (List.mem_cons_of_mem _ (zin 73 rfl rfl)) (List.mem_cons_of_mem _ (zin 74 rfl rfl)) (Nat.le_of_ble_eq_true rfl) (Nat.le_of_ble_eq_true rfl) ?_
  refine z_aload_n kd_N_init_4 0 rfl ?_
  refine z_bipush (v := 30) kd_N_init_5 (by decide +kernel) ?_
  refine z_newa (t0 := 0) (len := 30) (a0 := (30, .inl (fun _ => 0))) kd_N_init_7 rfl (List.mem_cons_of_mem _ (zin 122 rfl rfl)) ht0 rfl (by decide) (by decide) (by decide) (Nat.le_of_ble_eq_true rfl) (Nat.le_of_ble_eq_true rfl) ?_
  refine z_putFE (fs' := [_, _, _, _, _]) kd_N_init_9 (kp_N_9 _) rfl h (Nat.le_of_ble_eq_true rfl) rfl rfl rfl ?_
  refine z_aload_n kd_N_init_12 0 rfl ?_
  refine z_bipush (v := 30) kd_N_init_13 (by decide +kernel) ?_
  refine z_newa (t0 := 0) (len := 30) (a0 := (30, .inl (fun _ => 0))) kd_N_init_15 rfl (List.mem_cons_of_mem _ (zin 122 rfl rfl)) ht0 rfl (by decide) (by decide) (by decide) (Nat.le_of_ble_eq_true rfl) (Nat.le_of_ble_eq_true rfl) ?_
  refine z_putFE (fs' := [_, _, _, _, _]) kd_N_init_17 (kp_N_15 _) rfl rfl (Nat.le_of_ble_eq_true rfl) rfl rfl rfl ?_
  refine z_aload_n kd_N_init_20 0 rfl ?_
  refine z_bipush (v := 30) kd_N_init_21 (by decide +kernel) ?_
  refine z_newa (t0 := 0) (len := 30) (a0 := (30, .inl (fun _ => 0))) kd_N_init_23 rfl (List.mem_cons_of_mem _ (zin 122 rfl rfl)) ht0 rfl (by decide) (by decide) (by decide) (Nat.le_of_ble_eq_true rfl) (Nat.le_of_ble_eq_true rfl) ?_
  refine z_putFE (fs' := [_, _, _, _, _]) kd_N_init_25 (kp_N_18 _) rfl rfl (Nat.le_of_ble_eq_true rfl) rfl rfl rfl ?_
  exact z_vret kd_N_init_28 rfl (Nat.le_of_ble_eq_true rfl) (Nat.le_of_ble_eq_true rfl) ⟨rfl, rfl, rfl⟩
def s_G_init (b : Nat) (cI cJ cZ cA cP : ClassId) (σ : Nat → Option va_E) : Nat → Option va_E := (zUp (zRows σ 8 10 (.inl (cA, 10, .inr (.inr (.inr (.inr (fun i => if i < 10 then some (b + 8 + 1 + i) else none)))))) (.inl (cJ, 10, .inr (.inl (fun _ => 0))))) 7 (.inr (3, [.int 0, .ref (b + 8)])))
set_option maxHeartbeats 4000000 in
set_option maxRecDepth 100000 in
theorem c_G_init {l : Launch} {D : va_G} {tys : List (ClassId × FieldType)} {b : Nat} {σ : Nat → Option va_E} {cI cJ cZ cA cP : ClassId} (ht0 : tys[0]? = some (cI, .int)) (ht1 : tys[1]? = some (cJ, .long)) (ht2 : tys[2]? = some (cZ, .boolean)) (ht3 : tys[3]? = some (cA, .array .long)) (ht4 : tys[4]? = some (cP, .object "TreeCounts$Parts")) (h : σ 7 = some (.inr (3, [.int 0, .null]))) : zM l D kCl tys kNw b ky_G_init (kh_G_init :: zT) 1 12 11 110 [.ref (b + 7)] 8 σ (zD none 19 (s_G_init b cI cJ cZ cA cP σ)) := by
  refine zM.of (by decide +kernel) rfl (Nat.le_of_ble_eq_true rfl) ?_
  refine z_pick (lv' := [(0, .ref (b + 7))]) [0] rfl ?_
  refine z_aload_n kd_G_init_0 0 rfl ?_
  refine z_objInit kd_G_init_1 (List.mem_cons_of_mem _ (zin 148 rfl rfl)) (List.mem_cons_of_mem _ (zin 73 rfl rfl)) (List.mem_cons_of_mem _ (zin 74 rfl rfl)) (Nat.le_of_ble_eq_true rfl) (Nat.le_of_ble_eq_true rfl) ?_
  refine z_aload_n kd_G_init_4 0 rfl ?_
  refine z_bipush (v := 10) kd_G_init_5 (by decide +kernel) ?_
  refine z_bipush (v := 10) kd_G_init_7 (by decide +kernel) ?_
  refine z_mna (t0 := 3) (t1 := 1) (ty := .long) (cA := cA) (cB := cJ) (len1 := 10) (len2 := 10) (z := (10, .inr (.inl (fun _ => 0)))) kd_G_init_9 (List.mem_cons_of_mem _ (zin 149 rfl rfl)) (by decide +kernel) (List.mem_cons_of_mem _ (zin 162 rfl rfl)) (fun U hK => (hK.2 3 _ ht3).2) (fun U hK => (hK.2 1 _ ht1).2) (by decide) (by decide) (by decide) (by decide) (by decide) (by decide) (by decide) rfl rfl (by rw [vp_cell_l]; exact arrV_new _ _ _) (Nat.le_of_ble_eq_true rfl) (Nat.le_of_ble_eq_true rfl) ?_
  refine z_putFE (fs' := [_, _]) kd_G_init_13 (kp_G_11 _) rfl h (Nat.le_of_ble_eq_true rfl) rfl rfl rfl ?_
  exact z_vret kd_G_init_16 rfl (Nat.le_of_ble_eq_true rfl) (Nat.le_of_ble_eq_true rfl) ⟨rfl, rfl, rfl⟩
def s_T_init (b : Nat) (cI cJ cZ cA cP : ClassId) (σ : Nat → Option va_E) : Nat → Option va_E := (zUp (zUp (zUp σ 19 (.inr (4, [.ref (b + 1), .null, .null, .long 0, .long 0]))) 19 (.inr (4, [.ref (b + 1), .ref (b + 5), .null, .long 0, .long 0]))) 19 (.inr (4, [.ref (b + 1), .ref (b + 5), .ref (b + 7), .long 0, .long 0])))
set_option maxHeartbeats 4000000 in
set_option maxRecDepth 100000 in
theorem c_T_init {l : Launch} {D : va_G} {tys : List (ClassId × FieldType)} {b : Nat} {σ : Nat → Option va_E} {cI cJ cZ cA cP : ClassId} (ht0 : tys[0]? = some (cI, .int)) (ht1 : tys[1]? = some (cJ, .long)) (ht2 : tys[2]? = some (cZ, .boolean)) (ht3 : tys[3]? = some (cA, .array .long)) (ht4 : tys[4]? = some (cP, .object "TreeCounts$Parts")) (h : σ 19 = some (.inr (4, [.null, .null, .null, .long 0, .long 0]))) : zM l D kCl tys kNw b ky_T_init (kh_T_init :: zT) 1 12 0 0 [.ref (b + 19), .ref (b + 1), .ref (b + 5), .ref (b + 7)] 20 σ (zD none 20 (s_T_init b cI cJ cZ cA cP σ)) := by
  refine zM.of (by decide +kernel) rfl (Nat.le_of_ble_eq_true rfl) ?_
  refine z_pick (lv' := [(0, .ref (b + 19)), (1, .ref (b + 1)), (2, .ref (b + 5)), (3, .ref (b + 7))]) [0, 1, 2, 3] rfl ?_
  refine z_aload_n kd_T_init_0 0 rfl ?_
  refine z_objInit kd_T_init_1 (List.mem_cons_of_mem _ (zin 168 rfl rfl)) (List.mem_cons_of_mem _ (zin 73 rfl rfl)) (List.mem_cons_of_mem _ (zin 74 rfl rfl)) (Nat.le_of_ble_eq_true rfl) (Nat.le_of_ble_eq_true rfl) ?_
  refine z_aload_n kd_T_init_4 0 rfl ?_
  refine z_aload_n kd_T_init_5 1 rfl ?_
  refine z_putFE (fs' := [_, _, _, _, _]) kd_T_init_6 (kp_T_9 _) rfl h (Nat.le_of_ble_eq_true rfl) rfl rfl rfl ?_
  refine z_aload_n kd_T_init_9 0 rfl ?_
  refine z_aload_n kd_T_init_10 2 rfl ?_
  refine z_putFE (fs' := [_, _, _, _, _]) kd_T_init_11 (kp_T_15 _) rfl rfl (Nat.le_of_ble_eq_true rfl) rfl rfl rfl ?_
  refine z_aload_n kd_T_init_14 0 rfl ?_
  refine z_aload_n kd_T_init_15 3 rfl ?_
  refine z_putFE (fs' := [_, _, _, _, _]) kd_T_init_16 (kp_T_19 _) rfl rfl (Nat.le_of_ble_eq_true rfl) rfl rfl rfl ?_
  exact z_vret kd_T_init_19 rfl (Nat.le_of_ble_eq_true rfl) (Nat.le_of_ble_eq_true rfl) ⟨rfl, rfl, rfl⟩
def s_R_init (b : Nat) (cI cJ cZ cA cP : ClassId) (σ : Nat → Option va_E) : Nat → Option va_E := (zUp (zUp (zUp (zUp (zUp (zUp σ 21 (.inl (cI, 10, .inl (fun _ => 0)))) 20 (.inr (5, [.int 0, .ref (b + 21), .null, .null, .null]))) 22 (.inl (cI, 10, .inl (fun _ => 0)))) 20 (.inr (5, [.int 0, .ref (b + 21), .ref (b + 22), .null, .null]))) 20 (.inr (5, [.int 0, .ref (b + 21), .ref (b + 22), .ref (b + 1), .null]))) 20 (.inr (5, [.int 0, .ref (b + 21), .ref (b + 22), .ref (b + 1), .ref (b + 5)])))
set_option maxHeartbeats 4000000 in
set_option maxRecDepth 100000 in
theorem c_R_init {l : Launch} {D : va_G} {tys : List (ClassId × FieldType)} {b : Nat} {σ : Nat → Option va_E} {cI cJ cZ cA cP : ClassId} (ht0 : tys[0]? = some (cI, .int)) (ht1 : tys[1]? = some (cJ, .long)) (ht2 : tys[2]? = some (cZ, .boolean)) (ht3 : tys[3]? = some (cA, .array .long)) (ht4 : tys[4]? = some (cP, .object "TreeCounts$Parts")) (h : σ 20 = some (.inr (5, [.int 0, .null, .null, .null, .null]))) : zM l D kCl tys kNw b ky_R_init (kh_R_init :: zT) 1 12 2 20 [.ref (b + 20), .ref (b + 1), .ref (b + 5)] 21 σ (zD none 23 (s_R_init b cI cJ cZ cA cP σ)) := by
  refine zM.of (by decide +kernel) rfl (Nat.le_of_ble_eq_true rfl) ?_
  refine z_pick (lv' := [(0, .ref (b + 20)), (1, .ref (b + 1)), (2, .ref (b + 5))]) [0, 1, 2] rfl ?_
  refine z_aload_n kd_R_init_0 0 rfl ?_
  refine z_objInit kd_R_init_1 (List.mem_cons_of_mem _ (zin 190 rfl rfl)) (List.mem_cons_of_mem _ (zin 73 rfl rfl)) (List.mem_cons_of_mem _ (zin 74 rfl rfl)) (Nat.le_of_ble_eq_true rfl) (Nat.le_of_ble_eq_true rfl) ?_
  refine z_aload_n kd_R_init_4 0 rfl ?_
  refine z_bipush (v := 10) kd_R_init_5 (by decide +kernel) ?_
  refine z_newa (t0 := 0) (len := 10) (a0 := (10, .inl (fun _ => 0))) kd_R_init_7 rfl (List.mem_cons_of_mem _ (zin 122 rfl rfl)) ht0 rfl (by decide) (by decide) (by decide) (Nat.le_of_ble_eq_true rfl) (Nat.le_of_ble_eq_true rfl) ?_
  refine z_putFE (fs' := [_, _, _, _, _]) kd_R_init_9 (kp_R_9 _) rfl h (Nat.le_of_ble_eq_true rfl) rfl rfl rfl ?_
  refine z_aload_n kd_R_init_12 0 rfl ?_
  refine z_bipush (v := 10) kd_R_init_13 (by decide +kernel) ?_
  refine z_newa (t0 := 0) (len := 10) (a0 := (10, .inl (fun _ => 0))) kd_R_init_15 rfl (List.mem_cons_of_mem _ (zin 122 rfl rfl)) ht0 rfl (by decide) (by decide) (by decide) (Nat.le_of_ble_eq_true rfl) (Nat.le_of_ble_eq_true rfl) ?_
  refine z_putFE (fs' := [_, _, _, _, _]) kd_R_init_17 (kp_R_15 _) rfl rfl (Nat.le_of_ble_eq_true rfl) rfl rfl rfl ?_
  refine z_aload_n kd_R_init_20 0 rfl ?_
  refine z_aload_n kd_R_init_21 1 rfl ?_
  refine z_putFE (fs' := [_, _, _, _, _]) kd_R_init_22 (kp_R_18 _) rfl rfl (Nat.le_of_ble_eq_true rfl) rfl rfl rfl ?_
  refine z_aload_n kd_R_init_25 0 rfl ?_
  refine z_aload_n kd_R_init_26 2 rfl ?_
  refine z_putFE (fs' := [_, _, _, _, _]) kd_R_init_27 (kp_R_22 _) rfl rfl (Nat.le_of_ble_eq_true rfl) rfl rfl rfl ?_
  exact z_vret kd_R_init_30 rfl (Nat.le_of_ble_eq_true rfl) (Nat.le_of_ble_eq_true rfl) ⟨rfl, rfl, rfl⟩
def s_U_init (b : Nat) (cI cJ cZ cA cP : ClassId) (σ : Nat → Option va_E) : Nat → Option va_E := (zUp (zUp (zUp (zUp (zUp σ 24 (.inl (cJ, 10, .inr (.inl (fun _ => 0))))) 23 (.inr (6, [.int 0, .ref (b + 24), .null, .null, .null, .long 0, .long 0, .long 0, .long 0]))) 23 (.inr (6, [.int 0, .ref (b + 24), .ref (b + 1), .null, .null, .long 0, .long 0, .long 0, .long 0]))) 23 (.inr (6, [.int 0, .ref (b + 24), .ref (b + 1), .ref (b + 19), .null, .long 0, .long 0, .long 0, .long 0]))) 23 (.inr (6, [.int 0, .ref (b + 24), .ref (b + 1), .ref (b + 19), .ref (b + 7), .long 0, .long 0, .long 0, .long 0])))
set_option maxHeartbeats 4000000 in
set_option maxRecDepth 100000 in
theorem c_U_init {l : Launch} {D : va_G} {tys : List (ClassId × FieldType)} {b : Nat} {σ : Nat → Option va_E} {cI cJ cZ cA cP : ClassId} (ht0 : tys[0]? = some (cI, .int)) (ht1 : tys[1]? = some (cJ, .long)) (ht2 : tys[2]? = some (cZ, .boolean)) (ht3 : tys[3]? = some (cA, .array .long)) (ht4 : tys[4]? = some (cP, .object "TreeCounts$Parts")) (h : σ 23 = some (.inr (6, [.int 0, .null, .null, .null, .null, .long 0, .long 0, .long 0, .long 0]))) : zM l D kCl tys kNw b ky_U_init (kh_U_init :: zT) 1 12 1 10 [.ref (b + 23), .ref (b + 1), .ref (b + 19), .ref (b + 7)] 24 σ (zD none 25 (s_U_init b cI cJ cZ cA cP σ)) := by
  refine zM.of (by decide +kernel) rfl (Nat.le_of_ble_eq_true rfl) ?_
  refine z_pick (lv' := [(0, .ref (b + 23)), (1, .ref (b + 1)), (2, .ref (b + 19)), (3, .ref (b + 7))]) [0, 1, 2, 3] rfl ?_
  refine z_aload_n kd_U_init_0 0 rfl ?_
  refine z_objInit kd_U_init_1 (List.mem_cons_of_mem _ (zin 214 rfl rfl)) (List.mem_cons_of_mem _ (zin 73 rfl rfl)) (List.mem_cons_of_mem _ (zin 74 rfl rfl)) (Nat.le_of_ble_eq_true rfl) (Nat.le_of_ble_eq_true rfl) ?_
  refine z_aload_n kd_U_init_4 0 rfl ?_
  refine z_bipush (v := 10) kd_U_init_5 (by decide +kernel) ?_
  refine z_newa (t0 := 1) (len := 10) (a0 := (10, .inr (.inl (fun _ => 0)))) kd_U_init_7 rfl (List.mem_cons_of_mem _ (zin 162 rfl rfl)) ht1 rfl (by decide) (by decide) (by decide) (Nat.le_of_ble_eq_true rfl) (Nat.le_of_ble_eq_true rfl) ?_
  refine z_putFE (fs' := [_, _, _, _, _, _, _, _, _]) kd_U_init_9 (kp_U_9 _) rfl h (Nat.le_of_ble_eq_true rfl) rfl rfl rfl ?_
  refine z_aload_n kd_U_init_12 0 rfl ?_
  refine z_aload_n kd_U_init_13 1 rfl ?_
  refine z_putFE (fs' := [_, _, _, _, _, _, _, _, _]) kd_U_init_14 (kp_U_15 _) rfl rfl (Nat.le_of_ble_eq_true rfl) rfl rfl rfl ?_
  refine z_aload_n kd_U_init_17 0 rfl ?_
  refine z_aload_n kd_U_init_18 2 rfl ?_
  refine z_putFE (fs' := [_, _, _, _, _, _, _, _, _]) kd_U_init_19 (kp_U_19 _) rfl rfl (Nat.le_of_ble_eq_true rfl) rfl rfl rfl ?_
  refine z_aload_n kd_U_init_22 0 rfl ?_
  refine z_aload_n kd_U_init_23 3 rfl ?_
  refine z_putFE (fs' := [_, _, _, _, _, _, _, _, _]) kd_U_init_24 (kp_U_23 _) rfl rfl (Nat.le_of_ble_eq_true rfl) rfl rfl rfl ?_
  exact z_vret kd_U_init_27 rfl (Nat.le_of_ble_eq_true rfl) (Nat.le_of_ble_eq_true rfl) ⟨rfl, rfl, rfl⟩
def s_L_init (b : Nat) (cI cJ cZ cA cP : ClassId) (σ : Nat → Option va_E) : Nat → Option va_E := (zUp (zUp (zUp (zUp (zUp (zUp (zUp (zUp (zUp (zUp σ 26 (.inl (cJ, 10, .inr (.inl (fun _ => 0))))) 25 (.inr (7, [.ref (b + 26), .null, .null, .null, .null, .null]))) 27 (.inl (cJ, 10, .inr (.inl (fun _ => 0))))) 25 (.inr (7, [.ref (b + 26), .ref (b + 27), .null, .null, .null, .null]))) 28 (.inl (cJ, 10, .inr (.inl (fun _ => 0))))) 25 (.inr (7, [.ref (b + 26), .ref (b + 27), .ref (b + 28), .null, .null, .null]))) 29 (.inl (cJ, 10, .inr (.inl (fun _ => 0))))) 25 (.inr (7, [.ref (b + 26), .ref (b + 27), .ref (b + 28), .ref (b + 29), .null, .null]))) 25 (.inr (7, [.ref (b + 26), .ref (b + 27), .ref (b + 28), .ref (b + 29), .ref (b + 1), .null]))) 25 (.inr (7, [.ref (b + 26), .ref (b + 27), .ref (b + 28), .ref (b + 29), .ref (b + 1), .ref (b + 7)])))
set_option maxHeartbeats 4000000 in
set_option maxRecDepth 100000 in
theorem c_L_init {l : Launch} {D : va_G} {tys : List (ClassId × FieldType)} {b : Nat} {σ : Nat → Option va_E} {cI cJ cZ cA cP : ClassId} (ht0 : tys[0]? = some (cI, .int)) (ht1 : tys[1]? = some (cJ, .long)) (ht2 : tys[2]? = some (cZ, .boolean)) (ht3 : tys[3]? = some (cA, .array .long)) (ht4 : tys[4]? = some (cP, .object "TreeCounts$Parts")) (h : σ 25 = some (.inr (7, [.null, .null, .null, .null, .null, .null]))) : zM l D kCl tys kNw b ky_L_init (kh_L_init :: zT) 1 12 4 40 [.ref (b + 25), .ref (b + 1), .ref (b + 7)] 26 σ (zD none 30 (s_L_init b cI cJ cZ cA cP σ)) := by
  refine zM.of (by decide +kernel) rfl (Nat.le_of_ble_eq_true rfl) ?_
  refine z_pick (lv' := [(0, .ref (b + 25)), (1, .ref (b + 1)), (2, .ref (b + 7))]) [0, 1, 2] rfl ?_
  refine z_aload_n kd_L_init_0 0 rfl ?_
  refine z_objInit kd_L_init_1 (List.mem_cons_of_mem _ (zin 249 rfl rfl)) (List.mem_cons_of_mem _ (zin 73 rfl rfl)) (List.mem_cons_of_mem _ (zin 74 rfl rfl)) (Nat.le_of_ble_eq_true rfl) (Nat.le_of_ble_eq_true rfl) ?_
  refine z_aload_n kd_L_init_4 0 rfl ?_
  refine z_bipush (v := 10) kd_L_init_5 (by decide +kernel) ?_
  refine z_newa (t0 := 1) (len := 10) (a0 := (10, .inr (.inl (fun _ => 0)))) kd_L_init_7 rfl (List.mem_cons_of_mem _ (zin 162 rfl rfl)) ht1 rfl (by decide) (by decide) (by decide) (Nat.le_of_ble_eq_true rfl) (Nat.le_of_ble_eq_true rfl) ?_
  refine z_putFE (fs' := [_, _, _, _, _, _]) kd_L_init_9 (kp_L_9 _) rfl h (Nat.le_of_ble_eq_true rfl) rfl rfl rfl ?_
  refine z_aload_n kd_L_init_12 0 rfl ?_
  refine z_bipush (v := 10) kd_L_init_13 (by decide +kernel) ?_
  refine z_newa (t0 := 1) (len := 10) (a0 := (10, .inr (.inl (fun _ => 0)))) kd_L_init_15 rfl (List.mem_cons_of_mem _ (zin 162 rfl rfl)) ht1 rfl (by decide) (by decide) (by decide) (Nat.le_of_ble_eq_true rfl) (Nat.le_of_ble_eq_true rfl) ?_
  refine z_putFE (fs' := [_, _, _, _, _, _]) kd_L_init_17 (kp_L_15 _) rfl rfl (Nat.le_of_ble_eq_true rfl) rfl rfl rfl ?_
  refine z_aload_n kd_L_init_20 0 rfl ?_
  refine z_bipush (v := 10) kd_L_init_21 (by decide +kernel) ?_
  refine z_newa (t0 := 1) (len := 10) (a0 := (10, .inr (.inl (fun _ => 0)))) kd_L_init_23 rfl (List.mem_cons_of_mem _ (zin 162 rfl rfl)) ht1 rfl (by decide) (by decide) (by decide) (Nat.le_of_ble_eq_true rfl) (Nat.le_of_ble_eq_true rfl) ?_
  refine z_putFE (fs' := [_, _, _, _, _, _]) kd_L_init_25 (kp_L_18 _) rfl rfl (Nat.le_of_ble_eq_true rfl) rfl rfl rfl ?_
  refine z_aload_n kd_L_init_28 0 rfl ?_
  refine z_bipush (v := 10) kd_L_init_29 (by decide +kernel) ?_
  refine z_newa (t0 := 1) (len := 10) (a0 := (10, .inr (.inl (fun _ => 0)))) kd_L_init_31 rfl (List.mem_cons_of_mem _ (zin 162 rfl rfl)) ht1 rfl (by decide) (by decide) (by decide) (Nat.le_of_ble_eq_true rfl) (Nat.le_of_ble_eq_true rfl) ?_
  refine z_putFE (fs' := [_, _, _, _, _, _]) kd_L_init_33 (kp_L_21 _) rfl rfl (Nat.le_of_ble_eq_true rfl) rfl rfl rfl ?_
  refine z_aload_n kd_L_init_36 0 rfl ?_
  refine z_aload_n kd_L_init_37 1 rfl ?_
  refine z_putFE (fs' := [_, _, _, _, _, _]) kd_L_init_38 (kp_L_24 _) rfl rfl (Nat.le_of_ble_eq_true rfl) rfl rfl rfl ?_
  refine z_aload_n kd_L_init_41 0 rfl ?_
  refine z_aload_n kd_L_init_42 2 rfl ?_
  refine z_putFE (fs' := [_, _, _, _, _, _]) kd_L_init_43 (kp_L_28 _) rfl rfl (Nat.le_of_ble_eq_true rfl) rfl rfl rfl ?_
  exact z_vret kd_L_init_46 rfl (Nat.le_of_ble_eq_true rfl) (Nat.le_of_ble_eq_true rfl) ⟨rfl, rfl, rfl⟩
set_option maxHeartbeats 4000000 in
set_option maxRecDepth 100000 in
theorem c_P_init {l : Launch} {D : va_G} {tys : List (ClassId × FieldType)} {b N : Nat} {σ : Nat → Option va_E} {cI : ClassId} (ht0 : tys[0]? = some (cI, .int)) {a : Nat} (hne : a ≠ N) (h : σ a = some (.inr (2, [.int 0, .int 0, .null]))) : zM l D kCl tys kNw b ky_P_init (kh_P_init :: zT) 1 12 1 10 [.ref (b + a)] N σ (zD none (N + 1) (zUp (zUp σ N (.inl (cI, 10, .inl (fun _ => 0)))) a (.inr (2, [.int 0, .int 0, .ref (b + N)])))) := by
  refine zM.of (by decide +kernel) rfl (Nat.le_of_ble_eq_true rfl) ?_
  refine z_pick (lv' := [(0, .ref (b + a))]) [0] rfl ?_
  refine z_aload_n kd_P_init_0 0 rfl ?_
  refine z_objInit kd_P_init_1 (List.mem_cons_of_mem _ (zin 128 rfl rfl)) (List.mem_cons_of_mem _ (zin 73 rfl rfl)) (List.mem_cons_of_mem _ (zin 74 rfl rfl)) (Nat.le_of_ble_eq_true rfl) (Nat.le_of_ble_eq_true rfl) ?_
  refine z_aload_n kd_P_init_4 0 rfl ?_
  refine z_bipush (v := 10) kd_P_init_5 (by decide +kernel) ?_
  refine z_newa (t0 := 0) (len := 10) (a0 := (10, .inl (fun _ => 0))) kd_P_init_7 rfl (List.mem_cons_of_mem _ (zin 122 rfl rfl)) ht0 rfl (by decide) (by decide) (by decide) (Nat.le_of_ble_eq_true rfl) (Nat.le_of_ble_eq_true rfl) ?_
  refine z_putFE (fs' := [_, _, _]) kd_P_init_9 (kp_P_9 _) rfl ((zUp_n hne).trans h) (Nat.le_of_ble_eq_true rfl) rfl rfl rfl ?_
  exact z_vret kd_P_init_12 rfl (Nat.le_of_ble_eq_true rfl) (Nat.le_of_ble_eq_true rfl) ⟨rfl, rfl, rfl⟩
def s_S_init (b : Nat) (cI cJ cZ cA cP : ClassId) (σ : Nat → Option va_E) : Nat → Option va_E := (zUp (zUp (zUp (zUp (zUp (zUp (zUp (zUp (zUp (zUp (zUp (zUp (zUp (zUp (zUp (zUp (zUp (zUp (zUp (zUp (zUp (zUp (zUp (zUp (zUp (zUp (zUp (zUp (zUp (zUp (zUp (zUp (zUp (zUp (zUp (zUp (zUp (zUp (zUp (zUp (zUp (zUp (zUp (zUp (zUp (zUp (zUp (zUp σ 31 (.inl (cP, 10, .inr (.inr (.inr (.inr (fun _ => none))))))) 30 (.inr (8, [.null, .null, .ref (b + 31), .null, .null, .int 0]))) 32 (.inl (cJ, 11, .inr (.inl (fun _ => 0))))) 30 (.inr (8, [.null, .null, .ref (b + 31), .ref (b + 32), .null, .int 0]))) 33 (.inl (cJ, 15, .inr (.inl (fun _ => 0))))) 30 (.inr (8, [.null, .null, .ref (b + 31), .ref (b + 32), .ref (b + 33), .int 0]))) 30 (.inr (8, [.ref (b + 1), .null, .ref (b + 31), .ref (b + 32), .ref (b + 33), .int 0]))) 30 (.inr (8, [.ref (b + 1), .ref (b + 5), .ref (b + 31), .ref (b + 32), .ref (b + 33), .int 0]))) 34 (.inr (2, [.int 0, .int 0, .null]))) 35 (.inl (cI, 10, .inl (fun _ => 0)))) 34 (.inr (2, [.int 0, .int 0, .ref (b + 35)]))) 31 (.inl (cP, 10, .inr (.inr (.inr (.inr (va_up (fun _ => none) (Int32.toNatClampNeg 0) (some (b + 34))))))))) 36 (.inr (2, [.int 0, .int 0, .null]))) 37 (.inl (cI, 10, .inl (fun _ => 0)))) 36 (.inr (2, [.int 0, .int 0, .ref (b + 37)]))) 31 (.inl (cP, 10, .inr (.inr (.inr (.inr (va_up (va_up (fun _ => none) (Int32.toNatClampNeg 0) (some (b + 34))) (Int32.toNatClampNeg 1) (some (b + 36))))))))) 38 (.inr (2, [.int 0, .int 0, .null]))) 39 (.inl (cI, 10, .inl (fun _ => 0)))) 38 (.inr (2, [.int 0, .int 0, .ref (b + 39)]))) 31 (.inl (cP, 10, .inr (.inr (.inr (.inr (va_up (va_up (va_up (fun _ => none) (Int32.toNatClampNeg 0) (some (b + 34))) (Int32.toNatClampNeg 1) (some (b + 36))) (Int32.toNatClampNeg 2) (some (b + 38))))))))) 40 (.inr (2, [.int 0, .int 0, .null]))) 41 (.inl (cI, 10, .inl (fun _ => 0)))) 40 (.inr (2, [.int 0, .int 0, .ref (b + 41)]))) 31 (.inl (cP, 10, .inr (.inr (.inr (.inr (va_up (va_up (va_up (va_up (fun _ => none) (Int32.toNatClampNeg 0) (some (b + 34))) (Int32.toNatClampNeg 1) (some (b + 36))) (Int32.toNatClampNeg 2) (some (b + 38))) (Int32.toNatClampNeg 3) (some (b + 40))))))))) 42 (.inr (2, [.int 0, .int 0, .null]))) 43 (.inl (cI, 10, .inl (fun _ => 0)))) 42 (.inr (2, [.int 0, .int 0, .ref (b + 43)]))) 31 (.inl (cP, 10, .inr (.inr (.inr (.inr (va_up (va_up (va_up (va_up (va_up (fun _ => none) (Int32.toNatClampNeg 0) (some (b + 34))) (Int32.toNatClampNeg 1) (some (b + 36))) (Int32.toNatClampNeg 2) (some (b + 38))) (Int32.toNatClampNeg 3) (some (b + 40))) (Int32.toNatClampNeg 4) (some (b + 42))))))))) 44 (.inr (2, [.int 0, .int 0, .null]))) 45 (.inl (cI, 10, .inl (fun _ => 0)))) 44 (.inr (2, [.int 0, .int 0, .ref (b + 45)]))) 31 (.inl (cP, 10, .inr (.inr (.inr (.inr (va_up (va_up (va_up (va_up (va_up (va_up (fun _ => none) (Int32.toNatClampNeg 0) (some (b + 34))) (Int32.toNatClampNeg 1) (some (b + 36))) (Int32.toNatClampNeg 2) (some (b + 38))) (Int32.toNatClampNeg 3) (some (b + 40))) (Int32.toNatClampNeg 4) (some (b + 42))) (Int32.toNatClampNeg 5) (some (b + 44))))))))) 46 (.inr (2, [.int 0, .int 0, .null]))) 47 (.inl (cI, 10, .inl (fun _ => 0)))) 46 (.inr (2, [.int 0, .int 0, .ref (b + 47)]))) 31 (.inl (cP, 10, .inr (.inr (.inr (.inr (va_up (va_up (va_up (va_up (va_up (va_up (va_up (fun _ => none) (Int32.toNatClampNeg 0) (some (b + 34))) (Int32.toNatClampNeg 1) (some (b + 36))) (Int32.toNatClampNeg 2) (some (b + 38))) (Int32.toNatClampNeg 3) (some (b + 40))) (Int32.toNatClampNeg 4) (some (b + 42))) (Int32.toNatClampNeg 5) (some (b + 44))) (Int32.toNatClampNeg 6) (some (b + 46))))))))) 48 (.inr (2, [.int 0, .int 0, .null]))) 49 (.inl (cI, 10, .inl (fun _ => 0)))) 48 (.inr (2, [.int 0, .int 0, .ref (b + 49)]))) 31 (.inl (cP, 10, .inr (.inr (.inr (.inr (va_up (va_up (va_up (va_up (va_up (va_up (va_up (va_up (fun _ => none) (Int32.toNatClampNeg 0) (some (b + 34))) (Int32.toNatClampNeg 1) (some (b + 36))) (Int32.toNatClampNeg 2) (some (b + 38))) (Int32.toNatClampNeg 3) (some (b + 40))) (Int32.toNatClampNeg 4) (some (b + 42))) (Int32.toNatClampNeg 5) (some (b + 44))) (Int32.toNatClampNeg 6) (some (b + 46))) (Int32.toNatClampNeg 7) (some (b + 48))))))))) 50 (.inr (2, [.int 0, .int 0, .null]))) 51 (.inl (cI, 10, .inl (fun _ => 0)))) 50 (.inr (2, [.int 0, .int 0, .ref (b + 51)]))) 31 (.inl (cP, 10, .inr (.inr (.inr (.inr (va_up (va_up (va_up (va_up (va_up (va_up (va_up (va_up (va_up (fun _ => none) (Int32.toNatClampNeg 0) (some (b + 34))) (Int32.toNatClampNeg 1) (some (b + 36))) (Int32.toNatClampNeg 2) (some (b + 38))) (Int32.toNatClampNeg 3) (some (b + 40))) (Int32.toNatClampNeg 4) (some (b + 42))) (Int32.toNatClampNeg 5) (some (b + 44))) (Int32.toNatClampNeg 6) (some (b + 46))) (Int32.toNatClampNeg 7) (some (b + 48))) (Int32.toNatClampNeg 8) (some (b + 50))))))))) 52 (.inr (2, [.int 0, .int 0, .null]))) 53 (.inl (cI, 10, .inl (fun _ => 0)))) 52 (.inr (2, [.int 0, .int 0, .ref (b + 53)]))) 31 (.inl (cP, 10, .inr (.inr (.inr (.inr (va_up (va_up (va_up (va_up (va_up (va_up (va_up (va_up (va_up (va_up (fun _ => none) (Int32.toNatClampNeg 0) (some (b + 34))) (Int32.toNatClampNeg 1) (some (b + 36))) (Int32.toNatClampNeg 2) (some (b + 38))) (Int32.toNatClampNeg 3) (some (b + 40))) (Int32.toNatClampNeg 4) (some (b + 42))) (Int32.toNatClampNeg 5) (some (b + 44))) (Int32.toNatClampNeg 6) (some (b + 46))) (Int32.toNatClampNeg 7) (some (b + 48))) (Int32.toNatClampNeg 8) (some (b + 50))) (Int32.toNatClampNeg 9) (some (b + 52)))))))))
set_option maxHeartbeats 4000000 in
set_option maxRecDepth 100000 in
theorem c_S_init {l : Launch} {D : va_G} {tys : List (ClassId × FieldType)} {b : Nat} {σ : Nat → Option va_E} {cI cJ cZ cA cP : ClassId} (ht0 : tys[0]? = some (cI, .int)) (ht1 : tys[1]? = some (cJ, .long)) (ht2 : tys[2]? = some (cZ, .boolean)) (ht3 : tys[3]? = some (cA, .array .long)) (ht4 : tys[4]? = some (cP, .object "TreeCounts$Parts")) (h : σ 30 = some (.inr (8, [.null, .null, .null, .null, .null, .int 0]))) : zM l D kCl tys kNw b ky_S_init (kh_S_init :: zT) 2 40 23 200 [.ref (b + 30), .ref (b + 1), .ref (b + 5)] 31 σ (zD none 54 (s_S_init b cI cJ cZ cA cP σ)) := by
  refine zM.of (by decide +kernel) rfl (Nat.le_of_ble_eq_true rfl) ?_
  refine z_pick (lv' := [(0, .ref (b + 30)), (1, .ref (b + 1)), (2, .ref (b + 5))]) [0, 1, 2] rfl ?_
  refine z_aload_n kd_S_init_0 0 rfl ?_
  refine z_objInit kd_S_init_1 (List.mem_cons_of_mem _ (zin 276 rfl rfl)) (List.mem_cons_of_mem _ (zin 73 rfl rfl)) (List.mem_cons_of_mem _ (zin 74 rfl rfl)) (Nat.le_of_ble_eq_true rfl) (Nat.le_of_ble_eq_true rfl) ?_
  refine z_aload_n kd_S_init_4 0 rfl ?_
  refine z_bipush (v := 10) kd_S_init_5 (by decide +kernel) ?_
  refine z_anew (t0 := 4) (len := 10) (C := "TreeCounts$Parts") kd_S_init_7 (List.mem_cons_of_mem _ (zin 277 rfl rfl)) (by decide +kernel) ht4 (by decide) (by decide) (by decide) (Nat.le_of_ble_eq_true rfl) (Nat.le_of_ble_eq_true rfl) ?_
  refine z_putFE (fs' := [_, _, _, _, _, _]) kd_S_init_10 (kp_S_11 _) rfl h (Nat.le_of_ble_eq_true rfl) rfl rfl rfl ?_
  refine z_aload_n kd_S_init_13 0 rfl ?_
  refine z_bipush (v := 11) kd_S_init_14 (by decide +kernel) ?_
  refine z_newa (t0 := 1) (len := 11) (a0 := (11, .inr (.inl (fun _ => 0)))) kd_S_init_16 rfl (List.mem_cons_of_mem _ (zin 162 rfl rfl)) ht1 rfl (by decide) (by decide) (by decide) (Nat.le_of_ble_eq_true rfl) (Nat.le_of_ble_eq_true rfl) ?_
  refine z_putFE (fs' := [_, _, _, _, _, _]) kd_S_init_18 (kp_S_17 _) rfl rfl (Nat.le_of_ble_eq_true rfl) rfl rfl rfl ?_
  refine z_aload_n kd_S_init_21 0 rfl ?_
  refine z_bipush (v := 15) kd_S_init_22 (by decide +kernel) ?_
  refine z_newa (t0 := 1) (len := 15) (a0 := (15, .inr (.inl (fun _ => 0)))) kd_S_init_24 rfl (List.mem_cons_of_mem _ (zin 162 rfl rfl)) ht1 rfl (by decide) (by decide) (by decide) (Nat.le_of_ble_eq_true rfl) (Nat.le_of_ble_eq_true rfl) ?_
  refine z_putFE (fs' := [_, _, _, _, _, _]) kd_S_init_26 (kp_S_21 _) rfl rfl (Nat.le_of_ble_eq_true rfl) rfl rfl rfl ?_
  refine z_aload_n kd_S_init_29 0 rfl ?_
  refine z_aload_n kd_S_init_30 1 rfl ?_
  refine z_putFE (fs' := [_, _, _, _, _, _]) kd_S_init_31 (kp_S_24 _) rfl rfl (Nat.le_of_ble_eq_true rfl) rfl rfl rfl ?_
  refine z_aload_n kd_S_init_34 0 rfl ?_
  refine z_aload_n kd_S_init_35 2 rfl ?_
  refine z_putFE (fs' := [_, _, _, _, _, _]) kd_S_init_36 (kp_S_28 _) rfl rfl (Nat.le_of_ble_eq_true rfl) rfl rfl rfl ?_
  refine z_iconst (v := 0) kd_S_init_39 (by decide) ?_
  refine z_istore_n (lv' := [(3, .int _), (0, .ref (b + 30)), (1, .ref (b + 1)), (2, .ref (b + 5))]) kd_S_init_40 (by decide) rfl ?_
  refine z_iload_n kd_S_init_41 0 rfl ?_
  refine z_bipush (v := 10) kd_S_init_42 (by decide +kernel) ?_
  refine z_icmp_ge (tgt := 66) kd_S_init_44 (by decide) (fun c44 => absurd c44 (by decide)) (fun c44 => ?_)
  refine z_aload_n kd_S_init_47 1 rfl ?_
  refine z_get kd_S_init_48 (kf_S_11 _) rfl rfl ?_
  refine z_iload_n kd_S_init_51 0 rfl ?_
  refine z_new (ci := 2) (fs := [.int 0, .int 0, .null]) kd_S_init_52 kc_P (fun w h => List.mem_cons_of_mem _ (ki_P w h)) kT_P kt_P (List.mem_cons_of_mem _ (zin 277 rfl rfl)) (List.mem_cons_of_mem _ (zin 124 rfl rfl)) (List.mem_cons_of_mem _ (zin 52 rfl rfl)) (by decide +kernel) (Nat.le_of_ble_eq_true rfl) (Nat.le_of_ble_eq_true rfl) ?_
  refine z_dup kd_S_init_55 rfl ?_
  refine z_callIN (As := []) kd_S_init_56 (kg_S_32 _) rfl (List.mem_cons_of_mem _ (zin 126 rfl rfl)) (c_P_init (a := 34) ht0 (by decide) rfl) rfl rfl (Nat.le_of_ble_eq_true rfl) ⟨Nat.le_of_ble_eq_true rfl, Nat.le_of_ble_eq_true rfl⟩ ⟨Nat.le_of_ble_eq_true rfl, Nat.le_of_ble_eq_true rfl⟩ ?_
  rintro _ _ _ ⟨hv, rfl, rfl⟩
  cases hv
  refine z_aast (t0 := 4) kd_S_init_59 ht4 kc_P rfl rfl (show vp_in (nI 0) 10 from vp_in_nI (by decide) (by decide)) ?_
  refine z_iinc (v := 1) (lv' := [(3, .int _), (0, .ref (b + 30)), (1, .ref (b + 1)), (2, .ref (b + 5))]) kd_S_init_60 0 rfl (by decide) (by decide) rfl ?_
  refine z_goto (tgt := 41) kd_S_init_63 (by decide) ?_
  refine z_iload_n kd_S_init_41 0 rfl ?_
  refine z_bipush (v := 10) kd_S_init_42 (by decide +kernel) ?_
  refine z_icmp_ge (tgt := 66) kd_S_init_44 (by decide) (fun c44 => absurd c44 (by decide)) (fun c44 => ?_)
  refine z_aload_n kd_S_init_47 1 rfl ?_
  refine z_get kd_S_init_48 (kf_S_11 _) rfl rfl ?_
  refine z_iload_n kd_S_init_51 0 rfl ?_
  refine z_new (ci := 2) (fs := [.int 0, .int 0, .null]) kd_S_init_52 kc_P (fun w h => List.mem_cons_of_mem _ (ki_P w h)) kT_P kt_P (List.mem_cons_of_mem _ (zin 277 rfl rfl)) (List.mem_cons_of_mem _ (zin 124 rfl rfl)) (List.mem_cons_of_mem _ (zin 52 rfl rfl)) (by decide +kernel) (Nat.le_of_ble_eq_true rfl) (Nat.le_of_ble_eq_true rfl) ?_
  refine z_dup kd_S_init_55 rfl ?_
  refine z_callIN (As := []) kd_S_init_56 (kg_S_32 _) rfl (List.mem_cons_of_mem _ (zin 126 rfl rfl)) (c_P_init (a := 36) ht0 (by decide) rfl) rfl rfl (Nat.le_of_ble_eq_true rfl) ⟨Nat.le_of_ble_eq_true rfl, Nat.le_of_ble_eq_true rfl⟩ ⟨Nat.le_of_ble_eq_true rfl, Nat.le_of_ble_eq_true rfl⟩ ?_
  rintro _ _ _ ⟨hv, rfl, rfl⟩
  cases hv
  refine z_aast (t0 := 4) kd_S_init_59 ht4 kc_P rfl rfl (show vp_in (nI 1) 10 from vp_in_nI (by decide) (by decide)) ?_
  refine z_iinc (v := 2) (lv' := [(3, .int _), (0, .ref (b + 30)), (1, .ref (b + 1)), (2, .ref (b + 5))]) kd_S_init_60 0 rfl (by decide) (by decide) rfl ?_
  refine z_goto (tgt := 41) kd_S_init_63 (by decide) ?_
  refine z_iload_n kd_S_init_41 0 rfl ?_
  refine z_bipush (v := 10) kd_S_init_42 (by decide +kernel) ?_
  refine z_icmp_ge (tgt := 66) kd_S_init_44 (by decide) (fun c44 => absurd c44 (by decide)) (fun c44 => ?_)
  refine z_aload_n kd_S_init_47 1 rfl ?_
  refine z_get kd_S_init_48 (kf_S_11 _) rfl rfl ?_
  refine z_iload_n kd_S_init_51 0 rfl ?_
  refine z_new (ci := 2) (fs := [.int 0, .int 0, .null]) kd_S_init_52 kc_P (fun w h => List.mem_cons_of_mem _ (ki_P w h)) kT_P kt_P (List.mem_cons_of_mem _ (zin 277 rfl rfl)) (List.mem_cons_of_mem _ (zin 124 rfl rfl)) (List.mem_cons_of_mem _ (zin 52 rfl rfl)) (by decide +kernel) (Nat.le_of_ble_eq_true rfl) (Nat.le_of_ble_eq_true rfl) ?_
  refine z_dup kd_S_init_55 rfl ?_
  refine z_callIN (As := []) kd_S_init_56 (kg_S_32 _) rfl (List.mem_cons_of_mem _ (zin 126 rfl rfl)) (c_P_init (a := 38) ht0 (by decide) rfl) rfl rfl (Nat.le_of_ble_eq_true rfl) ⟨Nat.le_of_ble_eq_true rfl, Nat.le_of_ble_eq_true rfl⟩ ⟨Nat.le_of_ble_eq_true rfl, Nat.le_of_ble_eq_true rfl⟩ ?_
  rintro _ _ _ ⟨hv, rfl, rfl⟩
  cases hv
  refine z_aast (t0 := 4) kd_S_init_59 ht4 kc_P rfl rfl (show vp_in (nI 2) 10 from vp_in_nI (by decide) (by decide)) ?_
  refine z_iinc (v := 3) (lv' := [(3, .int _), (0, .ref (b + 30)), (1, .ref (b + 1)), (2, .ref (b + 5))]) kd_S_init_60 0 rfl (by decide) (by decide) rfl ?_
  refine z_goto (tgt := 41) kd_S_init_63 (by decide) ?_
  refine z_iload_n kd_S_init_41 0 rfl ?_
  refine z_bipush (v := 10) kd_S_init_42 (by decide +kernel) ?_
  refine z_icmp_ge (tgt := 66) kd_S_init_44 (by decide) (fun c44 => absurd c44 (by decide)) (fun c44 => ?_)
  refine z_aload_n kd_S_init_47 1 rfl ?_
  refine z_get kd_S_init_48 (kf_S_11 _) rfl rfl ?_
  refine z_iload_n kd_S_init_51 0 rfl ?_
  refine z_new (ci := 2) (fs := [.int 0, .int 0, .null]) kd_S_init_52 kc_P (fun w h => List.mem_cons_of_mem _ (ki_P w h)) kT_P kt_P (List.mem_cons_of_mem _ (zin 277 rfl rfl)) (List.mem_cons_of_mem _ (zin 124 rfl rfl)) (List.mem_cons_of_mem _ (zin 52 rfl rfl)) (by decide +kernel) (Nat.le_of_ble_eq_true rfl) (Nat.le_of_ble_eq_true rfl) ?_
  refine z_dup kd_S_init_55 rfl ?_
  refine z_callIN (As := []) kd_S_init_56 (kg_S_32 _) rfl (List.mem_cons_of_mem _ (zin 126 rfl rfl)) (c_P_init (a := 40) ht0 (by decide) rfl) rfl rfl (Nat.le_of_ble_eq_true rfl) ⟨Nat.le_of_ble_eq_true rfl, Nat.le_of_ble_eq_true rfl⟩ ⟨Nat.le_of_ble_eq_true rfl, Nat.le_of_ble_eq_true rfl⟩ ?_
  rintro _ _ _ ⟨hv, rfl, rfl⟩
  cases hv
  refine z_aast (t0 := 4) kd_S_init_59 ht4 kc_P rfl rfl (show vp_in (nI 3) 10 from vp_in_nI (by decide) (by decide)) ?_
  refine z_iinc (v := 4) (lv' := [(3, .int _), (0, .ref (b + 30)), (1, .ref (b + 1)), (2, .ref (b + 5))]) kd_S_init_60 0 rfl (by decide) (by decide) rfl ?_
  refine z_goto (tgt := 41) kd_S_init_63 (by decide) ?_
  refine z_iload_n kd_S_init_41 0 rfl ?_
  refine z_bipush (v := 10) kd_S_init_42 (by decide +kernel) ?_
  refine z_icmp_ge (tgt := 66) kd_S_init_44 (by decide) (fun c44 => absurd c44 (by decide)) (fun c44 => ?_)
  refine z_aload_n kd_S_init_47 1 rfl ?_
  refine z_get kd_S_init_48 (kf_S_11 _) rfl rfl ?_
  refine z_iload_n kd_S_init_51 0 rfl ?_
  refine z_new (ci := 2) (fs := [.int 0, .int 0, .null]) kd_S_init_52 kc_P (fun w h => List.mem_cons_of_mem _ (ki_P w h)) kT_P kt_P (List.mem_cons_of_mem _ (zin 277 rfl rfl)) (List.mem_cons_of_mem _ (zin 124 rfl rfl)) (List.mem_cons_of_mem _ (zin 52 rfl rfl)) (by decide +kernel) (Nat.le_of_ble_eq_true rfl) (Nat.le_of_ble_eq_true rfl) ?_
  refine z_dup kd_S_init_55 rfl ?_
  refine z_callIN (As := []) kd_S_init_56 (kg_S_32 _) rfl (List.mem_cons_of_mem _ (zin 126 rfl rfl)) (c_P_init (a := 42) ht0 (by decide) rfl) rfl rfl (Nat.le_of_ble_eq_true rfl) ⟨Nat.le_of_ble_eq_true rfl, Nat.le_of_ble_eq_true rfl⟩ ⟨Nat.le_of_ble_eq_true rfl, Nat.le_of_ble_eq_true rfl⟩ ?_
  rintro _ _ _ ⟨hv, rfl, rfl⟩
  cases hv
  refine z_aast (t0 := 4) kd_S_init_59 ht4 kc_P rfl rfl (show vp_in (nI 4) 10 from vp_in_nI (by decide) (by decide)) ?_
  refine z_iinc (v := 5) (lv' := [(3, .int _), (0, .ref (b + 30)), (1, .ref (b + 1)), (2, .ref (b + 5))]) kd_S_init_60 0 rfl (by decide) (by decide) rfl ?_
  refine z_goto (tgt := 41) kd_S_init_63 (by decide) ?_
  refine z_iload_n kd_S_init_41 0 rfl ?_
  refine z_bipush (v := 10) kd_S_init_42 (by decide +kernel) ?_
  refine z_icmp_ge (tgt := 66) kd_S_init_44 (by decide) (fun c44 => absurd c44 (by decide)) (fun c44 => ?_)
  refine z_aload_n kd_S_init_47 1 rfl ?_
  refine z_get kd_S_init_48 (kf_S_11 _) rfl rfl ?_
  refine z_iload_n kd_S_init_51 0 rfl ?_
  refine z_new (ci := 2) (fs := [.int 0, .int 0, .null]) kd_S_init_52 kc_P (fun w h => List.mem_cons_of_mem _ (ki_P w h)) kT_P kt_P (List.mem_cons_of_mem _ (zin 277 rfl rfl)) (List.mem_cons_of_mem _ (zin 124 rfl rfl)) (List.mem_cons_of_mem _ (zin 52 rfl rfl)) (by decide +kernel) (Nat.le_of_ble_eq_true rfl) (Nat.le_of_ble_eq_true rfl) ?_
  refine z_dup kd_S_init_55 rfl ?_
  refine z_callIN (As := []) kd_S_init_56 (kg_S_32 _) rfl (List.mem_cons_of_mem _ (zin 126 rfl rfl)) (c_P_init (a := 44) ht0 (by decide) rfl) rfl rfl (Nat.le_of_ble_eq_true rfl) ⟨Nat.le_of_ble_eq_true rfl, Nat.le_of_ble_eq_true rfl⟩ ⟨Nat.le_of_ble_eq_true rfl, Nat.le_of_ble_eq_true rfl⟩ ?_
  rintro _ _ _ ⟨hv, rfl, rfl⟩
  cases hv
  refine z_aast (t0 := 4) kd_S_init_59 ht4 kc_P rfl rfl (show vp_in (nI 5) 10 from vp_in_nI (by decide) (by decide)) ?_
  refine z_iinc (v := 6) (lv' := [(3, .int _), (0, .ref (b + 30)), (1, .ref (b + 1)), (2, .ref (b + 5))]) kd_S_init_60 0 rfl (by decide) (by decide) rfl ?_
  refine z_goto (tgt := 41) kd_S_init_63 (by decide) ?_
  refine z_iload_n kd_S_init_41 0 rfl ?_
  refine z_bipush (v := 10) kd_S_init_42 (by decide +kernel) ?_
  refine z_icmp_ge (tgt := 66) kd_S_init_44 (by decide) (fun c44 => absurd c44 (by decide)) (fun c44 => ?_)
  refine z_aload_n kd_S_init_47 1 rfl ?_
  refine z_get kd_S_init_48 (kf_S_11 _) rfl rfl ?_
  refine z_iload_n kd_S_init_51 0 rfl ?_
  refine z_new (ci := 2) (fs := [.int 0, .int 0, .null]) kd_S_init_52 kc_P (fun w h => List.mem_cons_of_mem _ (ki_P w h)) kT_P kt_P (List.mem_cons_of_mem _ (zin 277 rfl rfl)) (List.mem_cons_of_mem _ (zin 124 rfl rfl)) (List.mem_cons_of_mem _ (zin 52 rfl rfl)) (by decide +kernel) (Nat.le_of_ble_eq_true rfl) (Nat.le_of_ble_eq_true rfl) ?_
  refine z_dup kd_S_init_55 rfl ?_
  refine z_callIN (As := []) kd_S_init_56 (kg_S_32 _) rfl (List.mem_cons_of_mem _ (zin 126 rfl rfl)) (c_P_init (a := 46) ht0 (by decide) rfl) rfl rfl (Nat.le_of_ble_eq_true rfl) ⟨Nat.le_of_ble_eq_true rfl, Nat.le_of_ble_eq_true rfl⟩ ⟨Nat.le_of_ble_eq_true rfl, Nat.le_of_ble_eq_true rfl⟩ ?_
  rintro _ _ _ ⟨hv, rfl, rfl⟩
  cases hv
  refine z_aast (t0 := 4) kd_S_init_59 ht4 kc_P rfl rfl (show vp_in (nI 6) 10 from vp_in_nI (by decide) (by decide)) ?_
  refine z_iinc (v := 7) (lv' := [(3, .int _), (0, .ref (b + 30)), (1, .ref (b + 1)), (2, .ref (b + 5))]) kd_S_init_60 0 rfl (by decide) (by decide) rfl ?_
  refine z_goto (tgt := 41) kd_S_init_63 (by decide) ?_
  refine z_iload_n kd_S_init_41 0 rfl ?_
  refine z_bipush (v := 10) kd_S_init_42 (by decide +kernel) ?_
  refine z_icmp_ge (tgt := 66) kd_S_init_44 (by decide) (fun c44 => absurd c44 (by decide)) (fun c44 => ?_)
  refine z_aload_n kd_S_init_47 1 rfl ?_
  refine z_get kd_S_init_48 (kf_S_11 _) rfl rfl ?_
  refine z_iload_n kd_S_init_51 0 rfl ?_
  refine z_new (ci := 2) (fs := [.int 0, .int 0, .null]) kd_S_init_52 kc_P (fun w h => List.mem_cons_of_mem _ (ki_P w h)) kT_P kt_P (List.mem_cons_of_mem _ (zin 277 rfl rfl)) (List.mem_cons_of_mem _ (zin 124 rfl rfl)) (List.mem_cons_of_mem _ (zin 52 rfl rfl)) (by decide +kernel) (Nat.le_of_ble_eq_true rfl) (Nat.le_of_ble_eq_true rfl) ?_
  refine z_dup kd_S_init_55 rfl ?_
  refine z_callIN (As := []) kd_S_init_56 (kg_S_32 _) rfl (List.mem_cons_of_mem _ (zin 126 rfl rfl)) (c_P_init (a := 48) ht0 (by decide) rfl) rfl rfl (Nat.le_of_ble_eq_true rfl) ⟨Nat.le_of_ble_eq_true rfl, Nat.le_of_ble_eq_true rfl⟩ ⟨Nat.le_of_ble_eq_true rfl, Nat.le_of_ble_eq_true rfl⟩ ?_
  rintro _ _ _ ⟨hv, rfl, rfl⟩
  cases hv
  refine z_aast (t0 := 4) kd_S_init_59 ht4 kc_P rfl rfl (show vp_in (nI 7) 10 from vp_in_nI (by decide) (by decide)) ?_
  refine z_iinc (v := 8) (lv' := [(3, .int _), (0, .ref (b + 30)), (1, .ref (b + 1)), (2, .ref (b + 5))]) kd_S_init_60 0 rfl (by decide) (by decide) rfl ?_
  refine z_goto (tgt := 41) kd_S_init_63 (by decide) ?_
  refine z_iload_n kd_S_init_41 0 rfl ?_
  refine z_bipush (v := 10) kd_S_init_42 (by decide +kernel) ?_
  refine z_icmp_ge (tgt := 66) kd_S_init_44 (by decide) (fun c44 => absurd c44 (by decide)) (fun c44 => ?_)
  refine z_aload_n kd_S_init_47 1 rfl ?_
  refine z_get kd_S_init_48 (kf_S_11 _) rfl rfl ?_
  refine z_iload_n kd_S_init_51 0 rfl ?_
  refine z_new (ci := 2) (fs := [.int 0, .int 0, .null]) kd_S_init_52 kc_P (fun w h => List.mem_cons_of_mem _ (ki_P w h)) kT_P kt_P (List.mem_cons_of_mem _ (zin 277 rfl rfl)) (List.mem_cons_of_mem _ (zin 124 rfl rfl)) (List.mem_cons_of_mem _ (zin 52 rfl rfl)) (by decide +kernel) (Nat.le_of_ble_eq_true rfl) (Nat.le_of_ble_eq_true rfl) ?_
  refine z_dup kd_S_init_55 rfl ?_
  refine z_callIN (As := []) kd_S_init_56 (kg_S_32 _) rfl (List.mem_cons_of_mem _ (zin 126 rfl rfl)) (c_P_init (a := 50) ht0 (by decide) rfl) rfl rfl (Nat.le_of_ble_eq_true rfl) ⟨Nat.le_of_ble_eq_true rfl, Nat.le_of_ble_eq_true rfl⟩ ⟨Nat.le_of_ble_eq_true rfl, Nat.le_of_ble_eq_true rfl⟩ ?_
  rintro _ _ _ ⟨hv, rfl, rfl⟩
  cases hv
  refine z_aast (t0 := 4) kd_S_init_59 ht4 kc_P rfl rfl (show vp_in (nI 8) 10 from vp_in_nI (by decide) (by decide)) ?_
  refine z_iinc (v := 9) (lv' := [(3, .int _), (0, .ref (b + 30)), (1, .ref (b + 1)), (2, .ref (b + 5))]) kd_S_init_60 0 rfl (by decide) (by decide) rfl ?_
  refine z_goto (tgt := 41) kd_S_init_63 (by decide) ?_
  refine z_iload_n kd_S_init_41 0 rfl ?_
  refine z_bipush (v := 10) kd_S_init_42 (by decide +kernel) ?_
  refine z_icmp_ge (tgt := 66) kd_S_init_44 (by decide) (fun c44 => absurd c44 (by decide)) (fun c44 => ?_)
  refine z_aload_n kd_S_init_47 1 rfl ?_
  refine z_get kd_S_init_48 (kf_S_11 _) rfl rfl ?_
  refine z_iload_n kd_S_init_51 0 rfl ?_
  refine z_new (ci := 2) (fs := [.int 0, .int 0, .null]) kd_S_init_52 kc_P (fun w h => List.mem_cons_of_mem _ (ki_P w h)) kT_P kt_P (List.mem_cons_of_mem _ (zin 277 rfl rfl)) (List.mem_cons_of_mem _ (zin 124 rfl rfl)) (List.mem_cons_of_mem _ (zin 52 rfl rfl)) (by decide +kernel) (Nat.le_of_ble_eq_true rfl) (Nat.le_of_ble_eq_true rfl) ?_
  refine z_dup kd_S_init_55 rfl ?_
  refine z_callIN (As := []) kd_S_init_56 (kg_S_32 _) rfl (List.mem_cons_of_mem _ (zin 126 rfl rfl)) (c_P_init (a := 52) ht0 (by decide) rfl) rfl rfl (Nat.le_of_ble_eq_true rfl) ⟨Nat.le_of_ble_eq_true rfl, Nat.le_of_ble_eq_true rfl⟩ ⟨Nat.le_of_ble_eq_true rfl, Nat.le_of_ble_eq_true rfl⟩ ?_
  rintro _ _ _ ⟨hv, rfl, rfl⟩
  cases hv
  refine z_aast (t0 := 4) kd_S_init_59 ht4 kc_P rfl rfl (show vp_in (nI 9) 10 from vp_in_nI (by decide) (by decide)) ?_
  refine z_iinc (v := 10) (lv' := [(3, .int _), (0, .ref (b + 30)), (1, .ref (b + 1)), (2, .ref (b + 5))]) kd_S_init_60 0 rfl (by decide) (by decide) rfl ?_
  refine z_goto (tgt := 41) kd_S_init_63 (by decide) ?_
  refine z_iload_n kd_S_init_41 0 rfl ?_
  refine z_bipush (v := 10) kd_S_init_42 (by decide +kernel) ?_
  refine z_icmp_ge (tgt := 66) kd_S_init_44 (by decide) (fun c44 => ?_) (fun c44 => absurd c44 (by decide))
  exact z_vret kd_S_init_66 rfl (Nat.le_of_ble_eq_true rfl) (Nat.le_of_ble_eq_true rfl) ⟨rfl, rfl, rfl⟩
def s_M_init (b : Nat) (cI cJ cZ cA cP : ClassId) (σ : Nat → Option va_E) : Nat → Option va_E := (zUp (zUp (zUp (zUp (zUp (zUp (zUp (zUp (zUp (zUp (zUp (zUp (zUp (zUp (zUp (zUp (zUp (zUp (zUp (zUp (zUp (zUp (zUp (zUp (zUp (zUp (zUp (zUp (zUp (zUp (zUp (zUp (zUp (zUp (zUp (zUp (zUp (zUp (zUp σ 55 (.inl (cI, 30, .inl (fun _ => 0)))) 54 (.inr (9, [.int 0, .int 0, .int 0, .ref (b + 55), .null, .null, .null, .null, .null, .null, .null, .null, .null, .null, .long 0, .null, .null, .int 0, .null, .null, .null, .null, .int 0, .null, .null]))) 56 (.inl (cI, 30, .inl (fun _ => 0)))) 54 (.inr (9, [.int 0, .int 0, .int 0, .ref (b + 55), .ref (b + 56), .null, .null, .null, .null, .null, .null, .null, .null, .null, .long 0, .null, .null, .int 0, .null, .null, .null, .null, .int 0, .null, .null]))) 57 (.inl (cI, 30, .inl (fun _ => 0)))) 54 (.inr (9, [.int 0, .int 0, .int 0, .ref (b + 55), .ref (b + 56), .ref (b + 57), .null, .null, .null, .null, .null, .null, .null, .null, .long 0, .null, .null, .int 0, .null, .null, .null, .null, .int 0, .null, .null]))) 58 (.inl (cJ, 10, .inr (.inl (fun _ => 0))))) 54 (.inr (9, [.int 0, .int 0, .int 0, .ref (b + 55), .ref (b + 56), .ref (b + 57), .ref (b + 58), .null, .null, .null, .null, .null, .null, .null, .long 0, .null, .null, .int 0, .null, .null, .null, .null, .int 0, .null, .null]))) 59 (.inl (cJ, 10, .inr (.inl (fun _ => 0))))) 54 (.inr (9, [.int 0, .int 0, .int 0, .ref (b + 55), .ref (b + 56), .ref (b + 57), .ref (b + 58), .ref (b + 59), .null, .null, .null, .null, .null, .null, .long 0, .null, .null, .int 0, .null, .null, .null, .null, .int 0, .null, .null]))) 60 (.inl (cJ, 100, .inr (.inl (fun _ => 0))))) 54 (.inr (9, [.int 0, .int 0, .int 0, .ref (b + 55), .ref (b + 56), .ref (b + 57), .ref (b + 58), .ref (b + 59), .ref (b + 60), .null, .null, .null, .null, .null, .long 0, .null, .null, .int 0, .null, .null, .null, .null, .int 0, .null, .null]))) 61 (.inl (cJ, 100, .inr (.inl (fun _ => 0))))) 54 (.inr (9, [.int 0, .int 0, .int 0, .ref (b + 55), .ref (b + 56), .ref (b + 57), .ref (b + 58), .ref (b + 59), .ref (b + 60), .ref (b + 61), .null, .null, .null, .null, .long 0, .null, .null, .int 0, .null, .null, .null, .null, .int 0, .null, .null]))) 62 (.inl (cI, 10, .inl (fun _ => 0)))) 54 (.inr (9, [.int 0, .int 0, .int 0, .ref (b + 55), .ref (b + 56), .ref (b + 57), .ref (b + 58), .ref (b + 59), .ref (b + 60), .ref (b + 61), .ref (b + 62), .null, .null, .null, .long 0, .null, .null, .int 0, .null, .null, .null, .null, .int 0, .null, .null]))) 63 (.inl (cZ, 30, .inl (fun _ => 0)))) 54 (.inr (9, [.int 0, .int 0, .int 0, .ref (b + 55), .ref (b + 56), .ref (b + 57), .ref (b + 58), .ref (b + 59), .ref (b + 60), .ref (b + 61), .ref (b + 62), .ref (b + 63), .null, .null, .long 0, .null, .null, .int 0, .null, .null, .null, .null, .int 0, .null, .null]))) 64 (.inl (cI, 10, .inl (fun _ => 0)))) 54 (.inr (9, [.int 0, .int 0, .int 0, .ref (b + 55), .ref (b + 56), .ref (b + 57), .ref (b + 58), .ref (b + 59), .ref (b + 60), .ref (b + 61), .ref (b + 62), .ref (b + 63), .ref (b + 64), .null, .long 0, .null, .null, .int 0, .null, .null, .null, .null, .int 0, .null, .null]))) 65 (.inl (cI, 10, .inl (fun _ => 0)))) 54 (.inr (9, [.int 0, .int 0, .int 0, .ref (b + 55), .ref (b + 56), .ref (b + 57), .ref (b + 58), .ref (b + 59), .ref (b + 60), .ref (b + 61), .ref (b + 62), .ref (b + 63), .ref (b + 64), .ref (b + 65), .long 0, .null, .null, .int 0, .null, .null, .null, .null, .int 0, .null, .null]))) 66 (.inl (cZ, 30, .inl (fun _ => 0)))) 54 (.inr (9, [.int 0, .int 0, .int 0, .ref (b + 55), .ref (b + 56), .ref (b + 57), .ref (b + 58), .ref (b + 59), .ref (b + 60), .ref (b + 61), .ref (b + 62), .ref (b + 63), .ref (b + 64), .ref (b + 65), .long 0, .ref (b + 66), .null, .int 0, .null, .null, .null, .null, .int 0, .null, .null]))) 67 (.inl (cI, 30, .inl (fun _ => 0)))) 54 (.inr (9, [.int 0, .int 0, .int 0, .ref (b + 55), .ref (b + 56), .ref (b + 57), .ref (b + 58), .ref (b + 59), .ref (b + 60), .ref (b + 61), .ref (b + 62), .ref (b + 63), .ref (b + 64), .ref (b + 65), .long 0, .ref (b + 66), .ref (b + 67), .int 0, .null, .null, .null, .null, .int 0, .null, .null]))) 68 (.inl (cI, 10, .inl (fun _ => 0)))) 54 (.inr (9, [.int 0, .int 0, .int 0, .ref (b + 55), .ref (b + 56), .ref (b + 57), .ref (b + 58), .ref (b + 59), .ref (b + 60), .ref (b + 61), .ref (b + 62), .ref (b + 63), .ref (b + 64), .ref (b + 65), .long 0, .ref (b + 66), .ref (b + 67), .int 0, .ref (b + 68), .null, .null, .null, .int 0, .null, .null]))) 69 (.inl (cZ, 10, .inl (fun _ => 0)))) 54 (.inr (9, [.int 0, .int 0, .int 0, .ref (b + 55), .ref (b + 56), .ref (b + 57), .ref (b + 58), .ref (b + 59), .ref (b + 60), .ref (b + 61), .ref (b + 62), .ref (b + 63), .ref (b + 64), .ref (b + 65), .long 0, .ref (b + 66), .ref (b + 67), .int 0, .ref (b + 68), .ref (b + 69), .null, .null, .int 0, .null, .null]))) 70 (.inl (cI, 10, .inl (fun _ => 0)))) 54 (.inr (9, [.int 0, .int 0, .int 0, .ref (b + 55), .ref (b + 56), .ref (b + 57), .ref (b + 58), .ref (b + 59), .ref (b + 60), .ref (b + 61), .ref (b + 62), .ref (b + 63), .ref (b + 64), .ref (b + 65), .long 0, .ref (b + 66), .ref (b + 67), .int 0, .ref (b + 68), .ref (b + 69), .ref (b + 70), .null, .int 0, .null, .null]))) 71 (.inl (cJ, 10, .inr (.inl (fun _ => 0))))) 54 (.inr (9, [.int 0, .int 0, .int 0, .ref (b + 55), .ref (b + 56), .ref (b + 57), .ref (b + 58), .ref (b + 59), .ref (b + 60), .ref (b + 61), .ref (b + 62), .ref (b + 63), .ref (b + 64), .ref (b + 65), .long 0, .ref (b + 66), .ref (b + 67), .int 0, .ref (b + 68), .ref (b + 69), .ref (b + 70), .ref (b + 71), .int 0, .null, .null]))) 72 (.inl (cJ, 10, .inr (.inl (fun _ => 0))))) 54 (.inr (9, [.int 0, .int 0, .int 0, .ref (b + 55), .ref (b + 56), .ref (b + 57), .ref (b + 58), .ref (b + 59), .ref (b + 60), .ref (b + 61), .ref (b + 62), .ref (b + 63), .ref (b + 64), .ref (b + 65), .long 0, .ref (b + 66), .ref (b + 67), .int 0, .ref (b + 68), .ref (b + 69), .ref (b + 70), .ref (b + 71), .int 0, .ref (b + 72), .null]))) 73 (.inl (cJ, 10, .inr (.inl (fun _ => 0))))) 54 (.inr (9, [.int 0, .int 0, .int 0, .ref (b + 55), .ref (b + 56), .ref (b + 57), .ref (b + 58), .ref (b + 59), .ref (b + 60), .ref (b + 61), .ref (b + 62), .ref (b + 63), .ref (b + 64), .ref (b + 65), .long 0, .ref (b + 66), .ref (b + 67), .int 0, .ref (b + 68), .ref (b + 69), .ref (b + 70), .ref (b + 71), .int 0, .ref (b + 72), .ref (b + 73)]))) 54 (.inr (9, [.int 0, .int 0, .int 0, .ref (b + 55), .ref (b + 56), .ref (b + 57), .ref (b + 58), .ref (b + 59), .ref (b + 60), .ref (b + 61), .ref (b + 62), .ref (b + 63), .ref (b + 64), .ref (b + 65), .long 0, .ref (b + 66), .ref (b + 67), .int 0, .ref (b + 68), .ref (b + 69), .ref (b + 70), .ref (b + 71), .int 0, .ref (b + 72), .ref (b + 73)])))
set_option maxHeartbeats 4000000 in
set_option maxRecDepth 100000 in
theorem c_M_init {l : Launch} {D : va_G} {tys : List (ClassId × FieldType)} {b : Nat} {σ : Nat → Option va_E} {cI cJ cZ cA cP : ClassId} (ht0 : tys[0]? = some (cI, .int)) (ht1 : tys[1]? = some (cJ, .long)) (ht2 : tys[2]? = some (cZ, .boolean)) (ht3 : tys[3]? = some (cA, .array .long)) (ht4 : tys[4]? = some (cP, .object "TreeCounts$Parts")) (h : σ 54 = some (.inr (9, [.int 0, .int 0, .int 0, .null, .null, .null, .null, .null, .null, .null, .null, .null, .null, .null, .long 0, .null, .null, .int 0, .null, .null, .null, .null, .int 0, .null, .null]))) : zM l D kCl tys kNw b ky_M_init (kh_M_init :: zT) 1 12 19 1070 [.ref (b + 54)] 55 σ (zD none 74 (s_M_init b cI cJ cZ cA cP σ)) := by
  refine zM.of (by decide +kernel) rfl (Nat.le_of_ble_eq_true rfl) ?_
  refine z_pick (lv' := [(0, .ref (b + 54))]) [0] rfl ?_
  refine z_aload_n kd_M_init_0 0 rfl ?_
  refine z_objInit kd_M_init_1 (List.mem_cons_of_mem _ (zin 761 rfl rfl)) (List.mem_cons_of_mem _ (zin 73 rfl rfl)) (List.mem_cons_of_mem _ (zin 74 rfl rfl)) (Nat.le_of_ble_eq_true rfl) (Nat.le_of_ble_eq_true rfl) ?_
  refine z_aload_n kd_M_init_4 0 rfl ?_
  refine z_bipush (v := 30) kd_M_init_5 (by decide +kernel) ?_
  refine z_newa (t0 := 0) (len := 30) (a0 := (30, .inl (fun _ => 0))) kd_M_init_7 rfl (List.mem_cons_of_mem _ (zin 122 rfl rfl)) ht0 rfl (by decide) (by decide) (by decide) (Nat.le_of_ble_eq_true rfl) (Nat.le_of_ble_eq_true rfl) ?_
  refine z_putFE (fs' := [_, _, _, _, _, _, _, _, _, _, _, _, _, _, _, _, _, _, _, _, _, _, _, _, _]) kd_M_init_9 (kp_M_7 _) rfl h (Nat.le_of_ble_eq_true rfl) rfl rfl rfl ?_
  refine z_aload_n kd_M_init_12 0 rfl ?_
  refine z_bipush (v := 30) kd_M_init_13 (by decide +kernel) ?_
  refine z_newa (t0 := 0) (len := 30) (a0 := (30, .inl (fun _ => 0))) kd_M_init_15 rfl (List.mem_cons_of_mem _ (zin 122 rfl rfl)) ht0 rfl (by decide) (by decide) (by decide) (Nat.le_of_ble_eq_true rfl) (Nat.le_of_ble_eq_true rfl) ?_
  refine z_putFE (fs' := [_, _, _, _, _, _, _, _, _, _, _, _, _, _, _, _, _, _, _, _, _, _, _, _, _]) kd_M_init_17 (kp_M_13 _) rfl rfl (Nat.le_of_ble_eq_true rfl) rfl rfl rfl ?_
  refine z_aload_n kd_M_init_20 0 rfl ?_
  refine z_bipush (v := 30) kd_M_init_21 (by decide +kernel) ?_
  refine z_newa (t0 := 0) (len := 30) (a0 := (30, .inl (fun _ => 0))) kd_M_init_23 rfl (List.mem_cons_of_mem _ (zin 122 rfl rfl)) ht0 rfl (by decide) (by decide) (by decide) (Nat.le_of_ble_eq_true rfl) (Nat.le_of_ble_eq_true rfl) ?_
  refine z_putFE (fs' := [_, _, _, _, _, _, _, _, _, _, _, _, _, _, _, _, _, _, _, _, _, _, _, _, _]) kd_M_init_25 (kp_M_16 _) rfl rfl (Nat.le_of_ble_eq_true rfl) rfl rfl rfl ?_
  refine z_aload_n kd_M_init_28 0 rfl ?_
  refine z_bipush (v := 10) kd_M_init_29 (by decide +kernel) ?_
  refine z_newa (t0 := 1) (len := 10) (a0 := (10, .inr (.inl (fun _ => 0)))) kd_M_init_31 rfl (List.mem_cons_of_mem _ (zin 162 rfl rfl)) ht1 rfl (by decide) (by decide) (by decide) (Nat.le_of_ble_eq_true rfl) (Nat.le_of_ble_eq_true rfl) ?_
  refine z_putFE (fs' := [_, _, _, _, _, _, _, _, _, _, _, _, _, _, _, _, _, _, _, _, _, _, _, _, _]) kd_M_init_33 (kp_M_19 _) rfl rfl (Nat.le_of_ble_eq_true rfl) rfl rfl rfl ?_
  refine z_aload_n kd_M_init_36 0 rfl ?_
  refine z_bipush (v := 10) kd_M_init_37 (by decide +kernel) ?_
  refine z_newa (t0 := 1) (len := 10) (a0 := (10, .inr (.inl (fun _ => 0)))) kd_M_init_39 rfl (List.mem_cons_of_mem _ (zin 162 rfl rfl)) ht1 rfl (by decide) (by decide) (by decide) (Nat.le_of_ble_eq_true rfl) (Nat.le_of_ble_eq_true rfl) ?_
  refine z_putFE (fs' := [_, _, _, _, _, _, _, _, _, _, _, _, _, _, _, _, _, _, _, _, _, _, _, _, _]) kd_M_init_41 (kp_M_23 _) rfl rfl (Nat.le_of_ble_eq_true rfl) rfl rfl rfl ?_
  refine z_aload_n kd_M_init_44 0 rfl ?_
  refine z_bipush (v := 100) kd_M_init_45 (by decide +kernel) ?_
  refine z_newa (t0 := 1) (len := 100) (a0 := (100, .inr (.inl (fun _ => 0)))) kd_M_init_47 rfl (List.mem_cons_of_mem _ (zin 162 rfl rfl)) ht1 rfl (by decide) (by decide) (by decide) (Nat.le_of_ble_eq_true rfl) (Nat.le_of_ble_eq_true rfl) ?_
  refine z_putFE (fs' := [_, _, _, _, _, _, _, _, _, _, _, _, _, _, _, _, _, _, _, _, _, _, _, _, _]) kd_M_init_49 (kp_M_26 _) rfl rfl (Nat.le_of_ble_eq_true rfl) rfl rfl rfl ?_
  refine z_aload_n kd_M_init_52 0 rfl ?_
  refine z_bipush (v := 100) kd_M_init_53 (by decide +kernel) ?_
  refine z_newa (t0 := 1) (len := 100) (a0 := (100, .inr (.inl (fun _ => 0)))) kd_M_init_55 rfl (List.mem_cons_of_mem _ (zin 162 rfl rfl)) ht1 rfl (by decide) (by decide) (by decide) (Nat.le_of_ble_eq_true rfl) (Nat.le_of_ble_eq_true rfl) ?_
  refine z_putFE (fs' := [_, _, _, _, _, _, _, _, _, _, _, _, _, _, _, _, _, _, _, _, _, _, _, _, _]) kd_M_init_57 (kp_M_29 _) rfl rfl (Nat.le_of_ble_eq_true rfl) rfl rfl rfl ?_
  refine z_aload_n kd_M_init_60 0 rfl ?_
  refine z_bipush (v := 10) kd_M_init_61 (by decide +kernel) ?_
  refine z_newa (t0 := 0) (len := 10) (a0 := (10, .inl (fun _ => 0))) kd_M_init_63 rfl (List.mem_cons_of_mem _ (zin 122 rfl rfl)) ht0 rfl (by decide) (by decide) (by decide) (Nat.le_of_ble_eq_true rfl) (Nat.le_of_ble_eq_true rfl) ?_
  refine z_putFE (fs' := [_, _, _, _, _, _, _, _, _, _, _, _, _, _, _, _, _, _, _, _, _, _, _, _, _]) kd_M_init_65 (kp_M_32 _) rfl rfl (Nat.le_of_ble_eq_true rfl) rfl rfl rfl ?_
  refine z_aload_n kd_M_init_68 0 rfl ?_
  refine z_bipush (v := 30) kd_M_init_69 (by decide +kernel) ?_
  refine z_newa (t0 := 2) (len := 30) (a0 := (30, .inl (fun _ => 0))) kd_M_init_71 rfl (List.mem_cons_of_mem _ (zin 838 rfl rfl)) ht2 rfl (by decide) (by decide) (by decide) (Nat.le_of_ble_eq_true rfl) (Nat.le_of_ble_eq_true rfl) ?_
  refine z_putFE (fs' := [_, _, _, _, _, _, _, _, _, _, _, _, _, _, _, _, _, _, _, _, _, _, _, _, _]) kd_M_init_73 (kp_M_35 _) rfl rfl (Nat.le_of_ble_eq_true rfl) rfl rfl rfl ?_
  refine z_aload_n kd_M_init_76 0 rfl ?_
  refine z_bipush (v := 10) kd_M_init_77 (by decide +kernel) ?_
  refine z_newa (t0 := 0) (len := 10) (a0 := (10, .inl (fun _ => 0))) kd_M_init_79 rfl (List.mem_cons_of_mem _ (zin 122 rfl rfl)) ht0 rfl (by decide) (by decide) (by decide) (Nat.le_of_ble_eq_true rfl) (Nat.le_of_ble_eq_true rfl) ?_
  refine z_putFE (fs' := [_, _, _, _, _, _, _, _, _, _, _, _, _, _, _, _, _, _, _, _, _, _, _, _, _]) kd_M_init_81 (kp_M_39 _) rfl rfl (Nat.le_of_ble_eq_true rfl) rfl rfl rfl ?_
  refine z_aload_n kd_M_init_84 0 rfl ?_
  refine z_bipush (v := 10) kd_M_init_85 (by decide +kernel) ?_
  refine z_newa (t0 := 0) (len := 10) (a0 := (10, .inl (fun _ => 0))) kd_M_init_87 rfl (List.mem_cons_of_mem _ (zin 122 rfl rfl)) ht0 rfl (by decide) (by decide) (by decide) (Nat.le_of_ble_eq_true rfl) (Nat.le_of_ble_eq_true rfl) ?_
  refine z_putFE (fs' := [_, _, _, _, _, _, _, _, _, _, _, _, _, _, _, _, _, _, _, _, _, _, _, _, _]) kd_M_init_89 (kp_M_42 _) rfl rfl (Nat.le_of_ble_eq_true rfl) rfl rfl rfl ?_
  refine z_aload_n kd_M_init_92 0 rfl ?_
  refine z_bipush (v := 30) kd_M_init_93 (by decide +kernel) ?_
  refine z_newa (t0 := 2) (len := 30) (a0 := (30, .inl (fun _ => 0))) kd_M_init_95 rfl (List.mem_cons_of_mem _ (zin 838 rfl rfl)) ht2 rfl (by decide) (by decide) (by decide) (Nat.le_of_ble_eq_true rfl) (Nat.le_of_ble_eq_true rfl) ?_
  refine z_putFE (fs' := [_, _, _, _, _, _, _, _, _, _, _, _, _, _, _, _, _, _, _, _, _, _, _, _, _]) kd_M_init_97 (kp_M_45 _) rfl rfl (Nat.le_of_ble_eq_true rfl) rfl rfl rfl ?_
  refine z_aload_n kd_M_init_100 0 rfl ?_
  refine z_bipush (v := 30) kd_M_init_101 (by decide +kernel) ?_
  refine z_newa (t0 := 0) (len := 30) (a0 := (30, .inl (fun _ => 0))) kd_M_init_103 rfl (List.mem_cons_of_mem _ (zin 122 rfl rfl)) ht0 rfl (by decide) (by decide) (by decide) (Nat.le_of_ble_eq_true rfl) (Nat.le_of_ble_eq_true rfl) ?_
  refine z_putFE (fs' := [_, _, _, _, _, _, _, _, _, _, _, _, _, _, _, _, _, _, _, _, _, _, _, _, _]) kd_M_init_105 (kp_M_48 _) rfl rfl (Nat.le_of_ble_eq_true rfl) rfl rfl rfl ?_
  refine z_aload_n kd_M_init_108 0 rfl ?_
  refine z_bipush (v := 10) kd_M_init_109 (by decide +kernel) ?_
  refine z_newa (t0 := 0) (len := 10) (a0 := (10, .inl (fun _ => 0))) kd_M_init_111 rfl (List.mem_cons_of_mem _ (zin 122 rfl rfl)) ht0 rfl (by decide) (by decide) (by decide) (Nat.le_of_ble_eq_true rfl) (Nat.le_of_ble_eq_true rfl) ?_
  refine z_putFE (fs' := [_, _, _, _, _, _, _, _, _, _, _, _, _, _, _, _, _, _, _, _, _, _, _, _, _]) kd_M_init_113 (kp_M_51 _) rfl rfl (Nat.le_of_ble_eq_true rfl) rfl rfl rfl ?_
  refine z_aload_n kd_M_init_116 0 rfl ?_
  refine z_bipush (v := 10) kd_M_init_117 (by decide +kernel) ?_
  refine z_newa (t0 := 2) (len := 10) (a0 := (10, .inl (fun _ => 0))) kd_M_init_119 rfl (List.mem_cons_of_mem _ (zin 838 rfl rfl)) ht2 rfl (by decide) (by decide) (by decide) (Nat.le_of_ble_eq_true rfl) (Nat.le_of_ble_eq_true rfl) ?_
  refine z_putFE (fs' := [_, _, _, _, _, _, _, _, _, _, _, _, _, _, _, _, _, _, _, _, _, _, _, _, _]) kd_M_init_121 (kp_M_54 _) rfl rfl (Nat.le_of_ble_eq_true rfl) rfl rfl rfl ?_
  refine z_aload_n kd_M_init_124 0 rfl ?_
  refine z_bipush (v := 10) kd_M_init_125 (by decide +kernel) ?_
  refine z_newa (t0 := 0) (len := 10) (a0 := (10, .inl (fun _ => 0))) kd_M_init_127 rfl (List.mem_cons_of_mem _ (zin 122 rfl rfl)) ht0 rfl (by decide) (by decide) (by decide) (Nat.le_of_ble_eq_true rfl) (Nat.le_of_ble_eq_true rfl) ?_
  refine z_putFE (fs' := [_, _, _, _, _, _, _, _, _, _, _, _, _, _, _, _, _, _, _, _, _, _, _, _, _]) kd_M_init_129 (kp_M_57 _) rfl rfl (Nat.le_of_ble_eq_true rfl) rfl rfl rfl ?_
  refine z_aload_n kd_M_init_132 0 rfl ?_
  refine z_bipush (v := 10) kd_M_init_133 (by decide +kernel) ?_
  refine z_newa (t0 := 1) (len := 10) (a0 := (10, .inr (.inl (fun _ => 0)))) kd_M_init_135 rfl (List.mem_cons_of_mem _ (zin 162 rfl rfl)) ht1 rfl (by decide) (by decide) (by decide) (Nat.le_of_ble_eq_true rfl) (Nat.le_of_ble_eq_true rfl) ?_
  refine z_putFE (fs' := [_, _, _, _, _, _, _, _, _, _, _, _, _, _, _, _, _, _, _, _, _, _, _, _, _]) kd_M_init_137 (kp_M_60 _) rfl rfl (Nat.le_of_ble_eq_true rfl) rfl rfl rfl ?_
  refine z_aload_n kd_M_init_140 0 rfl ?_
  refine z_bipush (v := 10) kd_M_init_141 (by decide +kernel) ?_
  refine z_newa (t0 := 1) (len := 10) (a0 := (10, .inr (.inl (fun _ => 0)))) kd_M_init_143 rfl (List.mem_cons_of_mem _ (zin 162 rfl rfl)) ht1 rfl (by decide) (by decide) (by decide) (Nat.le_of_ble_eq_true rfl) (Nat.le_of_ble_eq_true rfl) ?_
  refine z_putFE (fs' := [_, _, _, _, _, _, _, _, _, _, _, _, _, _, _, _, _, _, _, _, _, _, _, _, _]) kd_M_init_145 (kp_M_63 _) rfl rfl (Nat.le_of_ble_eq_true rfl) rfl rfl rfl ?_
  refine z_aload_n kd_M_init_148 0 rfl ?_
  refine z_bipush (v := 10) kd_M_init_149 (by decide +kernel) ?_
  refine z_newa (t0 := 1) (len := 10) (a0 := (10, .inr (.inl (fun _ => 0)))) kd_M_init_151 rfl (List.mem_cons_of_mem _ (zin 162 rfl rfl)) ht1 rfl (by decide) (by decide) (by decide) (Nat.le_of_ble_eq_true rfl) (Nat.le_of_ble_eq_true rfl) ?_
  refine z_putFE (fs' := [_, _, _, _, _, _, _, _, _, _, _, _, _, _, _, _, _, _, _, _, _, _, _, _, _]) kd_M_init_153 (kp_M_66 _) rfl rfl (Nat.le_of_ble_eq_true rfl) rfl rfl rfl ?_
  refine z_aload_n kd_M_init_156 0 rfl ?_
  refine z_iconst (v := 0) kd_M_init_157 (by decide) ?_
  refine z_putE (fs' := [_, _, _, _, _, _, _, _, _, _, _, _, _, _, _, _, _, _, _, _, _, _, _, _, _]) kd_M_init_158 (kp_M_69 _) rfl (Nat.le_of_ble_eq_true rfl) rfl rfl rfl ?_
  exact z_vret kd_M_init_161 rfl (Nat.le_of_ble_eq_true rfl) (Nat.le_of_ble_eq_true rfl) ⟨rfl, rfl, rfl⟩
def s_C_init (b : Nat) (cI cJ cZ cA cP : ClassId) (σ : Nat → Option va_E) : Nat → Option va_E := (zUp (s_S_init b cI cJ cZ cA cP (zUp (zUp (s_L_init b cI cJ cZ cA cP (zUp (zUp (s_U_init b cI cJ cZ cA cP (zUp (zUp (s_R_init b cI cJ cZ cA cP (zUp (zUp (s_T_init b cI cJ cZ cA cP (zUp (s_G_init b cI cJ cZ cA cP (zUp (zUp (zUp (zUp (zUp (s_N_init b cI cJ cZ cA cP (zUp σ 1 (.inr (1, [.int 0, .int 0, .null, .null, .null])))) 0 (.inr (0, [.ref (b + 1), .null, .null, .null, .null, .null]))) 5 (.inr (2, [.int 0, .int 0, .null]))) 6 (.inl (cI, 10, .inl (fun _ => 0)))) 5 (.inr (2, [.int 0, .int 0, .ref (b + 6)]))) 7 (.inr (3, [.int 0, .null])))) 19 (.inr (4, [.null, .null, .null, .long 0, .long 0])))) 0 (.inr (0, [.ref (b + 1), .ref (b + 19), .null, .null, .null, .null]))) 20 (.inr (5, [.int 0, .null, .null, .null, .null])))) 0 (.inr (0, [.ref (b + 1), .ref (b + 19), .ref (b + 20), .null, .null, .null]))) 23 (.inr (6, [.int 0, .null, .null, .null, .null, .long 0, .long 0, .long 0, .long 0])))) 0 (.inr (0, [.ref (b + 1), .ref (b + 19), .ref (b + 20), .ref (b + 23), .null, .null]))) 25 (.inr (7, [.null, .null, .null, .null, .null, .null])))) 0 (.inr (0, [.ref (b + 1), .ref (b + 19), .ref (b + 20), .ref (b + 23), .ref (b + 25), .null]))) 30 (.inr (8, [.null, .null, .null, .null, .null, .int 0])))) 0 (.inr (0, [.ref (b + 1), .ref (b + 19), .ref (b + 20), .ref (b + 23), .ref (b + 25), .ref (b + 30)])))
set_option maxHeartbeats 4000000 in
set_option maxRecDepth 100000 in
theorem c_C_init {l : Launch} {D : va_G} {tys : List (ClassId × FieldType)} {b : Nat} {σ : Nat → Option va_E} {cI cJ cZ cA cP : ClassId} (ht0 : tys[0]? = some (cI, .int)) (ht1 : tys[1]? = some (cJ, .long)) (ht2 : tys[2]? = some (cZ, .boolean)) (ht3 : tys[3]? = some (cA, .array .long)) (ht4 : tys[4]? = some (cP, .object "TreeCounts$Parts")) (h : σ 0 = some (.inr (0, [.null, .null, .null, .null, .null, .null]))) : zM l D kCl tys kNw b ky_C_init (kh_C_init :: zT) 3 80 53 521 [.ref (b + 0)] 1 σ (zD none 54 (s_C_init b cI cJ cZ cA cP σ)) := by
  refine zM.of (by decide +kernel) rfl (Nat.le_of_ble_eq_true rfl) ?_
  refine z_pick (lv' := [(0, .ref (b + 0))]) [0] rfl ?_
  refine z_aload_n kd_C_init_0 0 rfl ?_
  refine z_objInit kd_C_init_1 (List.mem_cons_of_mem _ (zin 72 rfl rfl)) (List.mem_cons_of_mem _ (zin 73 rfl rfl)) (List.mem_cons_of_mem _ (zin 74 rfl rfl)) (Nat.le_of_ble_eq_true rfl) (Nat.le_of_ble_eq_true rfl) ?_
  refine z_aload_n kd_C_init_4 0 rfl ?_
  refine z_new (ci := 1) (fs := [.int 0, .int 0, .null, .null, .null]) kd_C_init_5 kc_N (fun w h => List.mem_cons_of_mem _ (ki_N w h)) kT_N kt_N (List.mem_cons_of_mem _ (zin 75 rfl rfl)) (List.mem_cons_of_mem _ (zin 76 rfl rfl)) (List.mem_cons_of_mem _ (zin 51 rfl rfl)) (by decide +kernel) (Nat.le_of_ble_eq_true rfl) (Nat.le_of_ble_eq_true rfl) ?_
  refine z_dup kd_C_init_8 rfl ?_
  refine z_callIN (As := []) kd_C_init_9 (kg_C_9 _) rfl (List.mem_cons_of_mem _ (zin 78 rfl rfl)) (c_N_init ht0 ht1 ht2 ht3 ht4 rfl) rfl rfl (Nat.le_of_ble_eq_true rfl) ⟨Nat.le_of_ble_eq_true rfl, Nat.le_of_ble_eq_true rfl⟩ ⟨Nat.le_of_ble_eq_true rfl, Nat.le_of_ble_eq_true rfl⟩ ?_
  rintro _ _ _ ⟨hv, rfl, rfl⟩
  cases hv
  refine z_putFE (fs' := [_, _, _, _, _, _]) kd_C_init_12 (kp_C_10 _) rfl h (Nat.le_of_ble_eq_true rfl) rfl rfl rfl ?_
  refine z_new (ci := 2) (fs := [.int 0, .int 0, .null]) kd_C_init_15 kc_P (fun w h => List.mem_cons_of_mem _ (ki_P w h)) kT_P kt_P (List.mem_cons_of_mem _ (zin 123 rfl rfl)) (List.mem_cons_of_mem _ (zin 124 rfl rfl)) (List.mem_cons_of_mem _ (zin 52 rfl rfl)) (by decide +kernel) (Nat.le_of_ble_eq_true rfl) (Nat.le_of_ble_eq_true rfl) ?_
  refine z_dup kd_C_init_18 rfl ?_
  refine z_callIN (As := []) kd_C_init_19 (kg_C_18 _) rfl (List.mem_cons_of_mem _ (zin 126 rfl rfl)) (c_P_init (a := 5) ht0 (by decide) rfl) rfl rfl (Nat.le_of_ble_eq_true rfl) ⟨Nat.le_of_ble_eq_true rfl, Nat.le_of_ble_eq_true rfl⟩ ⟨Nat.le_of_ble_eq_true rfl, Nat.le_of_ble_eq_true rfl⟩ ?_
  rintro _ _ _ ⟨hv, rfl, rfl⟩
  cases hv
  refine z_astore_n (lv' := [(1, .ref (b + 5)), (0, .ref (b + 0))]) kd_C_init_22 (by decide) rfl ?_
  refine z_new (ci := 3) (fs := [.int 0, .null]) kd_C_init_23 kc_G (fun w h => List.mem_cons_of_mem _ (ki_G w h)) kT_G kt_G (List.mem_cons_of_mem _ (zin 143 rfl rfl)) (List.mem_cons_of_mem _ (zin 144 rfl rfl)) (List.mem_cons_of_mem _ (zin 53 rfl rfl)) (by decide +kernel) (Nat.le_of_ble_eq_true rfl) (Nat.le_of_ble_eq_true rfl) ?_
  refine z_dup kd_C_init_26 rfl ?_
  refine z_callIN (As := []) kd_C_init_27 (kg_C_21 _) rfl (List.mem_cons_of_mem _ (zin 146 rfl rfl)) (c_G_init ht0 ht1 ht2 ht3 ht4 rfl) rfl rfl (Nat.le_of_ble_eq_true rfl) ⟨Nat.le_of_ble_eq_true rfl, Nat.le_of_ble_eq_true rfl⟩ ⟨Nat.le_of_ble_eq_true rfl, Nat.le_of_ble_eq_true rfl⟩ ?_
  rintro _ _ _ ⟨hv, rfl, rfl⟩
  cases hv
  refine z_astore_n (lv' := [(2, .ref (b + 7)), (1, .ref (b + 5)), (0, .ref (b + 0))]) kd_C_init_30 (by decide) rfl ?_
  refine z_aload_n kd_C_init_31 2 rfl ?_
  refine z_new (ci := 4) (fs := [.null, .null, .null, .long 0, .long 0]) kd_C_init_32 kc_T (fun w h => List.mem_cons_of_mem _ (ki_T w h)) kT_T kt_T (List.mem_cons_of_mem _ (zin 163 rfl rfl)) (List.mem_cons_of_mem _ (zin 164 rfl rfl)) (List.mem_cons_of_mem _ (zin 54 rfl rfl)) (by decide +kernel) (Nat.le_of_ble_eq_true rfl) (Nat.le_of_ble_eq_true rfl) ?_
  refine z_dup kd_C_init_35 rfl ?_
  refine z_aload_n kd_C_init_36 2 rfl ?_
  refine z_get kd_C_init_37 (kf_C_10 _) rfl rfl ?_
  refine z_aload_n kd_C_init_40 1 rfl ?_
  refine z_aload_n kd_C_init_41 0 rfl ?_
  refine z_callI (As := [_, _, _]) kd_C_init_42 (kg_C_24 _) (c_T_init ht0 ht1 ht2 ht3 ht4 rfl) rfl rfl (Nat.le_of_ble_eq_true rfl) ⟨Nat.le_of_ble_eq_true rfl, Nat.le_of_ble_eq_true rfl⟩ ⟨Nat.le_of_ble_eq_true rfl, Nat.le_of_ble_eq_true rfl⟩ ?_
  rintro _ _ _ ⟨hv, rfl, rfl⟩
  cases hv
  refine z_putFE (fs' := [_, _, _, _, _, _]) kd_C_init_45 (kp_C_27 _) rfl rfl (Nat.le_of_ble_eq_true rfl) rfl rfl rfl ?_
  refine z_aload_n kd_C_init_48 2 rfl ?_
  refine z_new (ci := 5) (fs := [.int 0, .null, .null, .null, .null]) kd_C_init_49 kc_R (fun w h => List.mem_cons_of_mem _ (ki_R w h)) kT_R kt_R (List.mem_cons_of_mem _ (zin 185 rfl rfl)) (List.mem_cons_of_mem _ (zin 186 rfl rfl)) (List.mem_cons_of_mem _ (zin 55 rfl rfl)) (by decide +kernel) (Nat.le_of_ble_eq_true rfl) (Nat.le_of_ble_eq_true rfl) ?_
  refine z_dup kd_C_init_52 rfl ?_
  refine z_aload_n kd_C_init_53 2 rfl ?_
  refine z_get kd_C_init_54 (kf_C_10 _) rfl rfl ?_
  refine z_aload_n kd_C_init_57 1 rfl ?_
  refine z_callI (As := [_, _]) kd_C_init_58 (kg_C_33 _) (c_R_init ht0 ht1 ht2 ht3 ht4 rfl) rfl rfl (Nat.le_of_ble_eq_true rfl) ⟨Nat.le_of_ble_eq_true rfl, Nat.le_of_ble_eq_true rfl⟩ ⟨Nat.le_of_ble_eq_true rfl, Nat.le_of_ble_eq_true rfl⟩ ?_
  rintro _ _ _ ⟨hv, rfl, rfl⟩
  cases hv
  refine z_putFE (fs' := [_, _, _, _, _, _]) kd_C_init_61 (kp_C_36 _) rfl rfl (Nat.le_of_ble_eq_true rfl) rfl rfl rfl ?_
  refine z_aload_n kd_C_init_64 2 rfl ?_
  refine z_new (ci := 6) (fs := [.int 0, .null, .null, .null, .null, .long 0, .long 0, .long 0, .long 0]) kd_C_init_65 kc_U (fun w h => List.mem_cons_of_mem _ (ki_U w h)) kT_U kt_U (List.mem_cons_of_mem _ (zin 209 rfl rfl)) (List.mem_cons_of_mem _ (zin 210 rfl rfl)) (List.mem_cons_of_mem _ (zin 56 rfl rfl)) (by decide +kernel) (Nat.le_of_ble_eq_true rfl) (Nat.le_of_ble_eq_true rfl) ?_
  refine z_dup kd_C_init_68 rfl ?_
  refine z_aload_n kd_C_init_69 2 rfl ?_
  refine z_get kd_C_init_70 (kf_C_10 _) rfl rfl ?_
  refine z_aload_n kd_C_init_73 2 rfl ?_
  refine z_get kd_C_init_74 (kf_C_27 _) rfl rfl ?_
  refine z_aload_n kd_C_init_77 0 rfl ?_
  refine z_callI (As := [_, _, _]) kd_C_init_78 (kg_C_42 _) (c_U_init ht0 ht1 ht2 ht3 ht4 rfl) rfl rfl (Nat.le_of_ble_eq_true rfl) ⟨Nat.le_of_ble_eq_true rfl, Nat.le_of_ble_eq_true rfl⟩ ⟨Nat.le_of_ble_eq_true rfl, Nat.le_of_ble_eq_true rfl⟩ ?_
  rintro _ _ _ ⟨hv, rfl, rfl⟩
  cases hv
  refine z_putFE (fs' := [_, _, _, _, _, _]) kd_C_init_81 (kp_C_45 _) rfl rfl (Nat.le_of_ble_eq_true rfl) rfl rfl rfl ?_
  refine z_aload_n kd_C_init_84 2 rfl ?_
  refine z_new (ci := 7) (fs := [.null, .null, .null, .null, .null, .null]) kd_C_init_85 kc_L (fun w h => List.mem_cons_of_mem _ (ki_L w h)) kT_L kt_L (List.mem_cons_of_mem _ (zin 244 rfl rfl)) (List.mem_cons_of_mem _ (zin 245 rfl rfl)) (List.mem_cons_of_mem _ (zin 57 rfl rfl)) (by decide +kernel) (Nat.le_of_ble_eq_true rfl) (Nat.le_of_ble_eq_true rfl) ?_
  refine z_dup kd_C_init_88 rfl ?_
  refine z_aload_n kd_C_init_89 2 rfl ?_
  refine z_get kd_C_init_90 (kf_C_10 _) rfl rfl ?_
  refine z_aload_n kd_C_init_93 0 rfl ?_
  refine z_callI (As := [_, _]) kd_C_init_94 (kg_C_51 _) (c_L_init ht0 ht1 ht2 ht3 ht4 rfl) rfl rfl (Nat.le_of_ble_eq_true rfl) ⟨Nat.le_of_ble_eq_true rfl, Nat.le_of_ble_eq_true rfl⟩ ⟨Nat.le_of_ble_eq_true rfl, Nat.le_of_ble_eq_true rfl⟩ ?_
  rintro _ _ _ ⟨hv, rfl, rfl⟩
  cases hv
  refine z_putFE (fs' := [_, _, _, _, _, _]) kd_C_init_97 (kp_C_54 _) rfl rfl (Nat.le_of_ble_eq_true rfl) rfl rfl rfl ?_
  refine z_aload_n kd_C_init_100 2 rfl ?_
  refine z_new (ci := 8) (fs := [.null, .null, .null, .null, .null, .int 0]) kd_C_init_101 kc_S (fun w h => List.mem_cons_of_mem _ (ki_S w h)) kT_S kt_S (List.mem_cons_of_mem _ (zin 271 rfl rfl)) (List.mem_cons_of_mem _ (zin 272 rfl rfl)) (List.mem_cons_of_mem _ (zin 58 rfl rfl)) (by decide +kernel) (Nat.le_of_ble_eq_true rfl) (Nat.le_of_ble_eq_true rfl) ?_
  refine z_dup kd_C_init_104 rfl ?_
  refine z_aload_n kd_C_init_105 2 rfl ?_
  refine z_get kd_C_init_106 (kf_C_10 _) rfl rfl ?_
  refine z_aload_n kd_C_init_109 1 rfl ?_
  refine z_callI (As := [_, _]) kd_C_init_110 (kg_C_60 _) (c_S_init ht0 ht1 ht2 ht3 ht4 rfl) rfl rfl (Nat.le_of_ble_eq_true rfl) ⟨Nat.le_of_ble_eq_true rfl, Nat.le_of_ble_eq_true rfl⟩ ⟨Nat.le_of_ble_eq_true rfl, Nat.le_of_ble_eq_true rfl⟩ ?_
  rintro _ _ _ ⟨hv, rfl, rfl⟩
  cases hv
  refine z_putFE (fs' := [_, _, _, _, _, _]) kd_C_init_113 (kp_C_61 _) rfl rfl (Nat.le_of_ble_eq_true rfl) rfl rfl rfl ?_
  exact z_vret kd_C_init_116 rfl (Nat.le_of_ble_eq_true rfl) (Nat.le_of_ble_eq_true rfl) ⟨rfl, rfl, rfl⟩
