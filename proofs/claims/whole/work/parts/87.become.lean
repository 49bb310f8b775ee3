set_option maxHeartbeats 4000000 in
set_option maxRecDepth 100000 in
theorem c_P_become {l : Launch} {D : va_G} {tys : List (ClassId × FieldType)} {b N : Nat} {σ : Nat → Option va_E} {cI : ClassId} (ht0 : tys[0]? = some (cI, .int)) {a o n c : Nat} {P : Nat → Nat} (hn : n ≤ 10) (hoa : o + 1 < a) (hP : PS b cI σ o n c P) (hA : PA b cI σ a) : zM l D kCl tys kNw b ky_P_become (kh_P_become :: zT) 1 60 0 0 [.ref (b + a), .ref (b + o)] N σ (fun oc N' σ' => oc = .returned none ∧ N' = N ∧ PS b cI σ' a n c P ∧ Fr a (a + 1) σ σ') := by
  refine zM.of (by decide +kernel) rfl (Nat.le_of_ble_eq_true rfl) ?_
  refine z_pick (lv' := [(0, .ref (b + a)), (1, .ref (b + o))]) [0, 1] rfl ?_
  obtain ⟨h1, g, hp, h2⟩ := id hP
  obtain ⟨w0, w1, ga, h3, h4⟩ := hA
  refine z_aload_n kd_P_become_0 0 rfl ?_
  refine z_aload_n kd_P_become_1 1 rfl ?_
  refine z_get kd_P_become_2 (kf_P_15 _) h1 rfl ?_
  refine z_putE (fs' := [_, _, _]) kd_P_become_5 (kp_P_15 _) h3 (Nat.le_of_ble_eq_true rfl) rfl rfl rfl ?_
  refine z_aload_n kd_P_become_8 0 rfl ?_
  refine z_aload_n kd_P_become_9 1 rfl ?_
  refine z_get kd_P_become_10 (kf_P_19 _) ((zUp_n (by omega)).trans h1) rfl ?_
  refine z_putE (fs' := [_, _, _]) kd_P_become_13 (kp_P_19 _) (zUp_s _ _ _) (Nat.le_of_ble_eq_true rfl) rfl rfl rfl ?_
  refine z_aload_n kd_P_become_16 1 rfl ?_
  refine z_get kd_P_become_17 (kf_P_9 _) ((zUp_n (by omega)).trans ((zUp_n (by omega)).trans h1)) rfl ?_
  refine z_iconst (v := 0) kd_P_become_20 (by decide) ?_
  refine z_aload_n kd_P_become_21 0 rfl ?_
  refine z_get kd_P_become_22 (kf_P_9 _) (zUp_s _ _ _) rfl ?_
  refine z_iconst (v := 0) kd_P_become_25 (by decide) ?_
  refine z_aload_n kd_P_become_26 1 rfl ?_
  refine z_get kd_P_become_27 (kf_P_15 _) ((zUp_n (by omega)).trans ((zUp_n (by omega)).trans h1)) rfl ?_
  refine z_copyi (cnt := n) kd_P_become_30 (List.mem_cons_of_mem _ (zin 752 rfl rfl)) (List.mem_cons_of_mem _ (zin 754 rfl rfl)) (List.mem_cons_of_mem _ (zin 753 rfl rfl)) (List.mem_cons_of_mem _ (zin 65 rfl rfl)) ht0 ((zUp_n (by omega)).trans ((zUp_n (by omega)).trans h2)) ((zUp_n (by omega)).trans ((zUp_n (by omega)).trans h4)) hn hn (by omega) (Nat.le_of_ble_eq_true rfl) (by decide +kernel) ?_
  exact z_vret kd_P_become_33 rfl (Nat.le_of_ble_eq_true rfl) (Nat.le_of_ble_eq_true rfl) ⟨rfl, rfl, ⟨((zUp_n (by omega)).trans (zUp_s _ _ _)), _, fun v hv => by rw [show va_cpy g ga 0 0 n v = g v by simp [va_cpy, hv]]; exact hp v hv, (zUp_s _ _ _)⟩, ((Fr.rf.up (by omega) (by omega)).up (by omega) (by omega)).up (by omega) (by omega)⟩
