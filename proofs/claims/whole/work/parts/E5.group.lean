theorem frO_le {s : Nat} {d : Int64} {f : Nat} {val : Nat × (Nat → Int64)} : ∀ m t M c R, c ≤ t → frO s d f m t M c R = some val → val.1 ≤ t + m := by
  intro m
  induction m with
  | zero => intro t M c R hc h; cases h; exact hc
  | succ m ih =>
    intro t M c R hc h
    unfold frO at h
    cases hf : frI t s d f (cfV M t s d) f M with
    | none => rw [hf] at h; cases h
    | some M1 =>
      rw [hf, Option.bind_some] at h
      split at h
      · have := ih (t + 1) _ _ _ (by omega) h; omega
      · have := ih (t + 1) _ _ _ (by omega) h; omega
theorem fdV_le {n a : Nat} {F T : Nat → Nat} {w : Nat → Int32} {d : Int64} {f : Nat} {val : Nat × (Nat → Int64)} (h : fdV n a F T w d f = some val) : val.1 ≤ n := by
  have h1 := frO_le _ _ _ _ _ (Nat.le_refl 0) h
  have h2 : fdS n ≤ n := nmV_le
  omega
set_option maxHeartbeats 4000000 in
set_option maxRecDepth 100000 in
theorem c_M_group0 {l : Launch} {D : va_G} {tys : List (ClassId × FieldType)} {b N : Nat} {σ : Nat → Option va_E} {cI cJ cA : ClassId} (ht0 : tys[0]? = some (cI, .int)) (ht1 : tys[1]? = some (cJ, .long)) (ht3 : tys[3]? = some (cA, .array .long)) {cZ : ClassId} (ht2 : tys[2]? = some (cZ, .boolean)) {n a : Nat} {gf gt gw : Nat → Int32} {F T : Nat → Nat} {C K : Nat → Int64} (hMS : MS b cI cJ cZ σ n a gf gt gw F T C K) {x : Int32} (h0 : cnV n a F T gw x0 (fun v => v) = 0) : zM l D kCl tys kNw b ky_M_group (kh_M_group :: zT) 10 360 0 0 [.ref (b + 54), .int x] N σ ((fun oc N' σ' => oc = .returned (some (.long (-1))) ∧ N' = N ∧ MS b cI cJ cZ σ' n a gf gt gw F T C K ∧ Fr 54 73 σ σ')) := by
  refine zM.of (by decide +kernel) rfl (Nat.le_of_ble_eq_true rfl) ?_
  refine z_pick (lv' := [(0, .ref (b + 54)), (1, .int x)]) [0, 1] rfl ?_
  obtain ⟨⟨th, fa, ls, rm, hM⟩, h58, h59, ⟨g60, h60⟩, ⟨g61, h61⟩, ⟨g62, h62⟩, ⟨g63, h63⟩, ⟨g64, h64⟩, ⟨g65, h65⟩, ⟨g66, h66⟩, ⟨g67, h67⟩, ⟨g68, h68⟩, ⟨g69, h69⟩, ⟨g70, h70⟩, ⟨g71, h71⟩, ⟨g72, h72⟩, ⟨g73, h73⟩⟩ := hMS
  have hn := hM.hn
  have ha := hM.ha
  refine z_aload_n kd_M_group_0 0 rfl ?_
  refine z_iconst (v := 0) kd_M_group_1 (by decide) ?_
  refine z_putE (fs' := [_, _, _, _, _, _, _, _, _, _, _, _, _, _, _, _, _, _, _, _, _, _, _, _, _]) kd_M_group_2 (kp_M_69 _) hM.h1 (Nat.le_of_ble_eq_true rfl) rfl rfl rfl ?_
  refine z_upd (fun σ_1 x54_1 q_1 => ?_)
  have x58_1 := (q_1 58 (by omega)).trans h58
  have x59_1 := (q_1 59 (by omega)).trans h59
  have x60_1 := (q_1 60 (by omega)).trans h60
  have x61_1 := (q_1 61 (by omega)).trans h61
  have x62_1 := (q_1 62 (by omega)).trans h62
  have x63_1 := (q_1 63 (by omega)).trans h63
  have x64_1 := (q_1 64 (by omega)).trans h64
  have x65_1 := (q_1 65 (by omega)).trans h65
  have x66_1 := (q_1 66 (by omega)).trans h66
  have x67_1 := (q_1 67 (by omega)).trans h67
  have x68_1 := (q_1 68 (by omega)).trans h68
  have x69_1 := (q_1 69 (by omega)).trans h69
  have x70_1 := (q_1 70 (by omega)).trans h70
  have x71_1 := (q_1 71 (by omega)).trans h71
  have x72_1 := (q_1 72 (by omega)).trans h72
  have x73_1 := (q_1 73 (by omega)).trans h73
  have hM_1 := hM.put x54_1 q_1
  refine z_aload_n kd_M_group_5 0 rfl ?_
  refine z_callV (a := 54) (As := []) kd_M_group_6 (kg_M_197 _) hM_1.h1 kc_M (c_M_findRounds0 ht0 ht1 ht3 ht2 ⟨⟨_, _, _, _, hM_1⟩, x58_1, x59_1, ⟨_, x60_1⟩, ⟨_, x61_1⟩, ⟨_, x62_1⟩, ⟨_, x63_1⟩, ⟨_, x64_1⟩, ⟨_, x65_1⟩, ⟨_, x66_1⟩, ⟨_, x67_1⟩, ⟨_, x68_1⟩, ⟨_, x69_1⟩, ⟨_, x70_1⟩, ⟨_, x71_1⟩, ⟨_, x72_1⟩, ⟨_, x73_1⟩⟩ h0) rfl rfl (Nat.le_of_ble_eq_true rfl) ⟨Nat.le_of_ble_eq_true rfl, Nat.le_of_ble_eq_true rfl⟩ ⟨Nat.le_of_ble_eq_true rfl, Nat.le_of_ble_eq_true rfl⟩ ?_
  rintro _ _ σ_2 ⟨hv, rfl, ⟨⟨th_2, fa_2, ls_2, rm_2, hM_2⟩, h58_2, h59_2, ⟨g60_2, h60_2⟩, ⟨g61_2, h61_2⟩, ⟨g62_2, h62_2⟩, ⟨g63_2, h63_2⟩, ⟨g64_2, h64_2⟩, ⟨g65_2, h65_2⟩, ⟨g66_2, h66_2⟩, ⟨g67_2, h67_2⟩, ⟨g68_2, h68_2⟩, ⟨g69_2, h69_2⟩, ⟨g70_2, h70_2⟩, ⟨g71_2, h71_2⟩, ⟨g72_2, h72_2⟩, ⟨g73_2, h73_2⟩⟩, ⟨th5_2, fa5_2, ls5_2, hM5_2⟩, ⟨g7_2, x71_2, hL_2⟩, q_2⟩
  cases hv
  refine z_eq (st' := [_]) rfl rfl rfl rfl ?_
  refine z_if_eq (tgt := 33) kd_M_group_9 (by decide) (fun c9 => ?_) (fun c9 => absurd c9 (by decide))
  refine z_ldc2 (v := -1) kd_M_group_33 (List.mem_cons_of_mem _ (zin 918 rfl rfl)) ?_
  exact z_lret kd_M_group_36 rfl (Nat.le_of_ble_eq_true rfl) (Nat.le_of_ble_eq_true rfl) ⟨rfl, rfl, ⟨⟨_, _, _, _, hM5_2⟩, h58_2, h59_2, ⟨_, h60_2⟩, ⟨_, h61_2⟩, ⟨_, h62_2⟩, ⟨_, h63_2⟩, ⟨_, h64_2⟩, ⟨_, h65_2⟩, ⟨_, h66_2⟩, ⟨_, h67_2⟩, ⟨_, h68_2⟩, ⟨_, h69_2⟩, ⟨_, h70_2⟩, ⟨_, x71_2⟩, ⟨_, h72_2⟩, ⟨_, h73_2⟩⟩, (Fr.tr (Fr.tr Fr.rf (q_1.wide (by omega) (by omega))) (q_2.wide (by omega) (by omega)))⟩
set_option maxHeartbeats 4000000 in
set_option maxRecDepth 100000 in
theorem c_M_group1 {l : Launch} {D : va_G} {tys : List (ClassId × FieldType)} {b N : Nat} {σ : Nat → Option va_E} {cI cJ cA : ClassId} (ht0 : tys[0]? = some (cI, .int)) (ht1 : tys[1]? = some (cJ, .long)) (ht3 : tys[3]? = some (cA, .array .long)) {cZ : ClassId} (ht2 : tys[2]? = some (cZ, .boolean)) {n a : Nat} {gf gt gw : Nat → Int32} {F T : Nat → Nat} {C K : Nat → Int64} (hMS : MS b cI cJ cZ σ n a gf gt gw F T C K) {x : Int32} (hn0 : 0 < n) (h0 : ¬ cnV n a F T gw x0 (fun v => v) = 0) (hd : 0 < (cnV n a F T gw x0 (fun v => v)).toInt) (hd2 : (cnV n a F T gw x0 (fun v => v)).toInt < 4611686018427387904) {f : Nat} {val : Nat × (Nat → Int64)} (hv : fdV n a F T gw (cnV n a F T gw x0 (fun v => v)) f = some val) (hx : x < 0 ∨ nI val.1 ≤ x) : zM l D kCl tys kNw b ky_M_group (kh_M_group :: zT) 10 360 0 0 [.ref (b + 54), .int x] N σ ((fun oc N' σ' => oc = .returned (some (.long (-1))) ∧ N' = N ∧ MS b cI cJ cZ σ' n a gf gt gw F T C K ∧ Fr 54 73 σ σ')) := by
  refine zM.of (by decide +kernel) rfl (Nat.le_of_ble_eq_true rfl) ?_
  refine z_pick (lv' := [(0, .ref (b + 54)), (1, .int x)]) [0, 1] rfl ?_
  obtain ⟨⟨th, fa, ls, rm, hM⟩, h58, h59, ⟨g60, h60⟩, ⟨g61, h61⟩, ⟨g62, h62⟩, ⟨g63, h63⟩, ⟨g64, h64⟩, ⟨g65, h65⟩, ⟨g66, h66⟩, ⟨g67, h67⟩, ⟨g68, h68⟩, ⟨g69, h69⟩, ⟨g70, h70⟩, ⟨g71, h71⟩, ⟨g72, h72⟩, ⟨g73, h73⟩⟩ := hMS
  have hn := hM.hn
  have ha := hM.ha
  refine z_aload_n kd_M_group_0 0 rfl ?_
  refine z_iconst (v := 0) kd_M_group_1 (by decide) ?_
  refine z_putE (fs' := [_, _, _, _, _, _, _, _, _, _, _, _, _, _, _, _, _, _, _, _, _, _, _, _, _]) kd_M_group_2 (kp_M_69 _) hM.h1 (Nat.le_of_ble_eq_true rfl) rfl rfl rfl ?_
  refine z_upd (fun σ_1 x54_1 q_1 => ?_)
  have x58_1 := (q_1 58 (by omega)).trans h58
  have x59_1 := (q_1 59 (by omega)).trans h59
  have x60_1 := (q_1 60 (by omega)).trans h60
  have x61_1 := (q_1 61 (by omega)).trans h61
  have x62_1 := (q_1 62 (by omega)).trans h62
  have x63_1 := (q_1 63 (by omega)).trans h63
  have x64_1 := (q_1 64 (by omega)).trans h64
  have x65_1 := (q_1 65 (by omega)).trans h65
  have x66_1 := (q_1 66 (by omega)).trans h66
  have x67_1 := (q_1 67 (by omega)).trans h67
  have x68_1 := (q_1 68 (by omega)).trans h68
  have x69_1 := (q_1 69 (by omega)).trans h69
  have x70_1 := (q_1 70 (by omega)).trans h70
  have x71_1 := (q_1 71 (by omega)).trans h71
  have x72_1 := (q_1 72 (by omega)).trans h72
  have x73_1 := (q_1 73 (by omega)).trans h73
  have hM_1 := hM.put x54_1 q_1
  refine z_aload_n kd_M_group_5 0 rfl ?_
  refine z_callV (a := 54) (As := []) kd_M_group_6 (kg_M_197 _) hM_1.h1 kc_M (c_M_findRounds1 ht0 ht1 ht3 ht2 ⟨⟨_, _, _, _, hM_1⟩, x58_1, x59_1, ⟨_, x60_1⟩, ⟨_, x61_1⟩, ⟨_, x62_1⟩, ⟨_, x63_1⟩, ⟨_, x64_1⟩, ⟨_, x65_1⟩, ⟨_, x66_1⟩, ⟨_, x67_1⟩, ⟨_, x68_1⟩, ⟨_, x69_1⟩, ⟨_, x70_1⟩, ⟨_, x71_1⟩, ⟨_, x72_1⟩, ⟨_, x73_1⟩⟩ hn0 h0 hd hd2 hv) rfl rfl (Nat.le_of_ble_eq_true rfl) ⟨Nat.le_of_ble_eq_true rfl, Nat.le_of_ble_eq_true rfl⟩ ⟨Nat.le_of_ble_eq_true rfl, Nat.le_of_ble_eq_true rfl⟩ ?_
  rintro _ _ σ_2 ⟨hv, rfl, ⟨⟨th_2, fa_2, ls_2, rm_2, hM_2⟩, h58_2, h59_2, ⟨g60_2, h60_2⟩, ⟨g61_2, h61_2⟩, ⟨g62_2, h62_2⟩, ⟨g63_2, h63_2⟩, ⟨g64_2, h64_2⟩, ⟨g65_2, h65_2⟩, ⟨g66_2, h66_2⟩, ⟨g67_2, h67_2⟩, ⟨g68_2, h68_2⟩, ⟨g69_2, h69_2⟩, ⟨g70_2, h70_2⟩, ⟨g71_2, h71_2⟩, ⟨g72_2, h72_2⟩, ⟨g73_2, h73_2⟩⟩, ⟨th5_2, fa5_2, ls5_2, hM5_2⟩, ⟨g7_2, x71_2, hL_2⟩, q_2⟩
  cases hv
  refine z_eq (st' := [_]) rfl rfl rfl rfl ?_
  refine z_if_eq (tgt := 33) kd_M_group_9 (by decide) (fun c9 => absurd c9 (by decide)) (fun c9 => ?_)
  refine z_iload_n kd_M_group_12 1 rfl ?_
  refine z_if_lt (tgt := 33) kd_M_group_13 (by decide) (fun c13 => ?_) (fun c13 => ?_)
  · refine z_ldc2 (v := -1) kd_M_group_33 (List.mem_cons_of_mem _ (zin 918 rfl rfl)) ?_
    exact z_lret kd_M_group_36 rfl (Nat.le_of_ble_eq_true rfl) (Nat.le_of_ble_eq_true rfl) ⟨rfl, rfl, ⟨⟨_, _, _, _, hM5_2⟩, h58_2, h59_2, ⟨_, h60_2⟩, ⟨_, h61_2⟩, ⟨_, h62_2⟩, ⟨_, h63_2⟩, ⟨_, h64_2⟩, ⟨_, h65_2⟩, ⟨_, h66_2⟩, ⟨_, h67_2⟩, ⟨_, h68_2⟩, ⟨_, h69_2⟩, ⟨_, h70_2⟩, ⟨_, x71_2⟩, ⟨_, h72_2⟩, ⟨_, h73_2⟩⟩, (Fr.tr (Fr.tr Fr.rf (q_1.wide (by omega) (by omega))) (q_2.wide (by omega) (by omega)))⟩
  · refine z_iload_n kd_M_group_16 1 rfl ?_
    refine z_aload_n kd_M_group_17 0 rfl ?_
    refine z_get kd_M_group_18 (kf_M_183 _) hM5_2.h1 rfl ?_
    refine z_icmp_ge (tgt := 33) kd_M_group_21 (by decide) (fun c21 => ?_) (fun c21 => ?_)
    · refine z_ldc2 (v := -1) kd_M_group_33 (List.mem_cons_of_mem _ (zin 918 rfl rfl)) ?_
      exact z_lret kd_M_group_36 rfl (Nat.le_of_ble_eq_true rfl) (Nat.le_of_ble_eq_true rfl) ⟨rfl, rfl, ⟨⟨_, _, _, _, hM5_2⟩, h58_2, h59_2, ⟨_, h60_2⟩, ⟨_, h61_2⟩, ⟨_, h62_2⟩, ⟨_, h63_2⟩, ⟨_, h64_2⟩, ⟨_, h65_2⟩, ⟨_, h66_2⟩, ⟨_, h67_2⟩, ⟨_, h68_2⟩, ⟨_, h69_2⟩, ⟨_, h70_2⟩, ⟨_, x71_2⟩, ⟨_, h72_2⟩, ⟨_, h73_2⟩⟩, (Fr.tr (Fr.tr Fr.rf (q_1.wide (by omega) (by omega))) (q_2.wide (by omega) (by omega)))⟩
    · exact absurd hx (fun z => by rcases z with z | z; exact c13 z; exact c21 z)
set_option maxHeartbeats 4000000 in
set_option maxRecDepth 100000 in
theorem c_M_group2 {l : Launch} {D : va_G} {tys : List (ClassId × FieldType)} {b N : Nat} {σ : Nat → Option va_E} {cI cJ cA : ClassId} (ht0 : tys[0]? = some (cI, .int)) (ht1 : tys[1]? = some (cJ, .long)) (ht3 : tys[3]? = some (cA, .array .long)) {cZ : ClassId} (ht2 : tys[2]? = some (cZ, .boolean)) {n a : Nat} {gf gt gw : Nat → Int32} {F T : Nat → Nat} {C K : Nat → Int64} (hMS : MS b cI cJ cZ σ n a gf gt gw F T C K) {k : Nat} (hn0 : 0 < n) (h0 : ¬ cnV n a F T gw x0 (fun v => v) = 0) (hd : 0 < (cnV n a F T gw x0 (fun v => v)).toInt) (hd2 : (cnV n a F T gw x0 (fun v => v)).toInt < 4611686018427387904) {f : Nat} {val : Nat × (Nat → Int64)} (hv : fdV n a F T gw (cnV n a F T gw x0 (fun v => v)) f = some val) (hk : k < val.1) : zM l D kCl tys kNw b ky_M_group (kh_M_group :: zT) 10 360 0 0 [.ref (b + 54), .int (nI k)] N σ ((fun oc N' σ' => oc = .returned (some (.long (val.2 k))) ∧ N' = N ∧ MS b cI cJ cZ σ' n a gf gt gw F T C K ∧ Fr 54 73 σ σ')) := by
  refine zM.of (by decide +kernel) rfl (Nat.le_of_ble_eq_true rfl) ?_
  refine z_pick (lv' := [(0, .ref (b + 54)), (1, .int (nI k))]) [0, 1] rfl ?_
  obtain ⟨⟨th, fa, ls, rm, hM⟩, h58, h59, ⟨g60, h60⟩, ⟨g61, h61⟩, ⟨g62, h62⟩, ⟨g63, h63⟩, ⟨g64, h64⟩, ⟨g65, h65⟩, ⟨g66, h66⟩, ⟨g67, h67⟩, ⟨g68, h68⟩, ⟨g69, h69⟩, ⟨g70, h70⟩, ⟨g71, h71⟩, ⟨g72, h72⟩, ⟨g73, h73⟩⟩ := hMS
  have hn := hM.hn
  have ha := hM.ha
  have hle := fdV_le hv
  refine z_aload_n kd_M_group_0 0 rfl ?_
  refine z_iconst (v := 0) kd_M_group_1 (by decide) ?_
  refine z_putE (fs' := [_, _, _, _, _, _, _, _, _, _, _, _, _, _, _, _, _, _, _, _, _, _, _, _, _]) kd_M_group_2 (kp_M_69 _) hM.h1 (Nat.le_of_ble_eq_true rfl) rfl rfl rfl ?_
  refine z_upd (fun σ_1 x54_1 q_1 => ?_)
  have x58_1 := (q_1 58 (by omega)).trans h58
  have x59_1 := (q_1 59 (by omega)).trans h59
  have x60_1 := (q_1 60 (by omega)).trans h60
  have x61_1 := (q_1 61 (by omega)).trans h61
  have x62_1 := (q_1 62 (by omega)).trans h62
  have x63_1 := (q_1 63 (by omega)).trans h63
  have x64_1 := (q_1 64 (by omega)).trans h64
  have x65_1 := (q_1 65 (by omega)).trans h65
  have x66_1 := (q_1 66 (by omega)).trans h66
  have x67_1 := (q_1 67 (by omega)).trans h67
  have x68_1 := (q_1 68 (by omega)).trans h68
  have x69_1 := (q_1 69 (by omega)).trans h69
  have x70_1 := (q_1 70 (by omega)).trans h70
  have x71_1 := (q_1 71 (by omega)).trans h71
  have x72_1 := (q_1 72 (by omega)).trans h72
  have x73_1 := (q_1 73 (by omega)).trans h73
  have hM_1 := hM.put x54_1 q_1
  refine z_aload_n kd_M_group_5 0 rfl ?_
  refine z_callV (a := 54) (As := []) kd_M_group_6 (kg_M_197 _) hM_1.h1 kc_M (c_M_findRounds1 ht0 ht1 ht3 ht2 ⟨⟨_, _, _, _, hM_1⟩, x58_1, x59_1, ⟨_, x60_1⟩, ⟨_, x61_1⟩, ⟨_, x62_1⟩, ⟨_, x63_1⟩, ⟨_, x64_1⟩, ⟨_, x65_1⟩, ⟨_, x66_1⟩, ⟨_, x67_1⟩, ⟨_, x68_1⟩, ⟨_, x69_1⟩, ⟨_, x70_1⟩, ⟨_, x71_1⟩, ⟨_, x72_1⟩, ⟨_, x73_1⟩⟩ hn0 h0 hd hd2 hv) rfl rfl (Nat.le_of_ble_eq_true rfl) ⟨Nat.le_of_ble_eq_true rfl, Nat.le_of_ble_eq_true rfl⟩ ⟨Nat.le_of_ble_eq_true rfl, Nat.le_of_ble_eq_true rfl⟩ ?_
  rintro _ _ σ_2 ⟨hv, rfl, ⟨⟨th_2, fa_2, ls_2, rm_2, hM_2⟩, h58_2, h59_2, ⟨g60_2, h60_2⟩, ⟨g61_2, h61_2⟩, ⟨g62_2, h62_2⟩, ⟨g63_2, h63_2⟩, ⟨g64_2, h64_2⟩, ⟨g65_2, h65_2⟩, ⟨g66_2, h66_2⟩, ⟨g67_2, h67_2⟩, ⟨g68_2, h68_2⟩, ⟨g69_2, h69_2⟩, ⟨g70_2, h70_2⟩, ⟨g71_2, h71_2⟩, ⟨g72_2, h72_2⟩, ⟨g73_2, h73_2⟩⟩, ⟨th5_2, fa5_2, ls5_2, hM5_2⟩, ⟨g7_2, x71_2, hL_2⟩, q_2⟩
  cases hv
  refine z_eq (st' := [_]) rfl rfl rfl rfl ?_
  refine z_if_eq (tgt := 33) kd_M_group_9 (by decide) (fun c9 => absurd c9 (by decide)) (fun c9 => ?_)
  refine z_iload_n kd_M_group_12 1 rfl ?_
  refine z_if_lt (tgt := 33) kd_M_group_13 (by decide) (fun c13 => ?_) (fun c13 => ?_)
  · exact absurd c13 (nI_pos (by omega))
  · refine z_iload_n kd_M_group_16 1 rfl ?_
    refine z_aload_n kd_M_group_17 0 rfl ?_
    refine z_get kd_M_group_18 (kf_M_183 _) hM5_2.h1 rfl ?_
    refine z_icmp_ge (tgt := 33) kd_M_group_21 (by decide) (fun c21 => ?_) (fun c21 => ?_)
    · exact absurd c21 (nI_ge hk (by omega))
    · refine z_aload_n kd_M_group_24 0 rfl ?_
      refine z_get kd_M_group_25 (kf_M_60 _) hM5_2.h1 rfl ?_
      refine z_iload_n kd_M_group_28 1 rfl ?_
      refine z_laldN (t0 := 1) kd_M_group_29 (by assumption) x71_2 (by omega) (by decide) ?_
      refine z_topl (hL_2 k hk) ?_
      refine z_goto (tgt := 36) kd_M_group_30 (by decide) ?_
      exact z_lret kd_M_group_36 rfl (Nat.le_of_ble_eq_true rfl) (Nat.le_of_ble_eq_true rfl) ⟨rfl, rfl, ⟨⟨_, _, _, _, hM5_2⟩, h58_2, h59_2, ⟨_, h60_2⟩, ⟨_, h61_2⟩, ⟨_, h62_2⟩, ⟨_, h63_2⟩, ⟨_, h64_2⟩, ⟨_, h65_2⟩, ⟨_, h66_2⟩, ⟨_, h67_2⟩, ⟨_, h68_2⟩, ⟨_, h69_2⟩, ⟨_, h70_2⟩, ⟨_, x71_2⟩, ⟨_, h72_2⟩, ⟨_, h73_2⟩⟩, (Fr.tr (Fr.tr Fr.rf (q_1.wide (by omega) (by omega))) (q_2.wide (by omega) (by omega)))⟩
set_option maxHeartbeats 4000000 in
set_option maxRecDepth 100000 in
theorem c_M_told5a {l : Launch} {D : va_G} {tys : List (ClassId × FieldType)} {b N : Nat} {σ : Nat → Option va_E} {cI cJ cA : ClassId} (ht0 : tys[0]? = some (cI, .int)) (ht1 : tys[1]? = some (cJ, .long)) (ht3 : tys[3]? = some (cA, .array .long)) {cZ : ClassId} (ht2 : tys[2]? = some (cZ, .boolean)) {n a : Nat} {gf gt gw : Nat → Int32} {F T : Nat → Nat} {C K : Nat → Int64} (hMS : MS b cI cJ cZ σ n a gf gt gw F T C K) (h0 : cnV n a F T gw x0 (fun v => v) = 0) : zM l D kCl tys kNw b ky_M_told (kh_M_told :: zT) 10 360 0 0 [.ref (b + 54), .int 5] N σ ((fun oc N' σ' => oc = .returned (some (.int 0)) ∧ N' = N ∧ MS b cI cJ cZ σ' n a gf gt gw F T C K ∧ Fr 54 73 σ σ')) := by
  refine zM.of (by decide +kernel) rfl (Nat.le_of_ble_eq_true rfl) ?_
  refine z_pick (lv' := [(0, .ref (b + 54)), (1, .int 5)]) [0, 1] rfl ?_
  obtain ⟨⟨th, fa, ls, rm, hM⟩, h58, h59, ⟨g60, h60⟩, ⟨g61, h61⟩, ⟨g62, h62⟩, ⟨g63, h63⟩, ⟨g64, h64⟩, ⟨g65, h65⟩, ⟨g66, h66⟩, ⟨g67, h67⟩, ⟨g68, h68⟩, ⟨g69, h69⟩, ⟨g70, h70⟩, ⟨g71, h71⟩, ⟨g72, h72⟩, ⟨g73, h73⟩⟩ := hMS
  have hn := hM.hn
  have ha := hM.ha
  refine z_aload_n kd_M_told_0 0 rfl ?_
  refine z_iconst (v := 0) kd_M_told_1 (by decide) ?_
  refine z_putE (fs' := [_, _, _, _, _, _, _, _, _, _, _, _, _, _, _, _, _, _, _, _, _, _, _, _, _]) kd_M_told_2 (kp_M_69 _) hM.h1 (Nat.le_of_ble_eq_true rfl) rfl rfl rfl ?_
  refine z_upd (fun σ_1 x54_1 q_1 => ?_)
  have x58_1 := (q_1 58 (by omega)).trans h58
  have x59_1 := (q_1 59 (by omega)).trans h59
  have x60_1 := (q_1 60 (by omega)).trans h60
  have x61_1 := (q_1 61 (by omega)).trans h61
  have x62_1 := (q_1 62 (by omega)).trans h62
  have x63_1 := (q_1 63 (by omega)).trans h63
  have x64_1 := (q_1 64 (by omega)).trans h64
  have x65_1 := (q_1 65 (by omega)).trans h65
  have x66_1 := (q_1 66 (by omega)).trans h66
  have x67_1 := (q_1 67 (by omega)).trans h67
  have x68_1 := (q_1 68 (by omega)).trans h68
  have x69_1 := (q_1 69 (by omega)).trans h69
  have x70_1 := (q_1 70 (by omega)).trans h70
  have x71_1 := (q_1 71 (by omega)).trans h71
  have x72_1 := (q_1 72 (by omega)).trans h72
  have x73_1 := (q_1 73 (by omega)).trans h73
  have hM_1 := hM.put x54_1 q_1
  refine z_iload_n kd_M_told_5 1 rfl ?_
  refine z_tableOut (tgt := 89) kd_M_told_6 (Or.inr (by decide)) (by decide) ?_
  refine z_iload_n kd_M_told_89 1 rfl ?_
  refine z_iconst (v := 5) kd_M_told_90 (by decide) ?_
  refine z_icmp_ne (tgt := 112) kd_M_told_91 (by decide) (fun c91 => absurd c91 (by decide)) (fun c91 => ?_)
  refine z_aload_n kd_M_told_94 0 rfl ?_
  refine z_callV (a := 54) (As := []) kd_M_told_95 (kg_M_197 _) hM_1.h1 kc_M (c_M_findRounds0 ht0 ht1 ht3 ht2 ⟨⟨_, _, _, _, hM_1⟩, x58_1, x59_1, ⟨_, x60_1⟩, ⟨_, x61_1⟩, ⟨_, x62_1⟩, ⟨_, x63_1⟩, ⟨_, x64_1⟩, ⟨_, x65_1⟩, ⟨_, x66_1⟩, ⟨_, x67_1⟩, ⟨_, x68_1⟩, ⟨_, x69_1⟩, ⟨_, x70_1⟩, ⟨_, x71_1⟩, ⟨_, x72_1⟩, ⟨_, x73_1⟩⟩ h0) rfl rfl (Nat.le_of_ble_eq_true rfl) ⟨Nat.le_of_ble_eq_true rfl, Nat.le_of_ble_eq_true rfl⟩ ⟨Nat.le_of_ble_eq_true rfl, Nat.le_of_ble_eq_true rfl⟩ ?_
  rintro _ _ σ_2 ⟨hv, rfl, ⟨⟨th_2, fa_2, ls_2, rm_2, hM_2⟩, h58_2, h59_2, ⟨g60_2, h60_2⟩, ⟨g61_2, h61_2⟩, ⟨g62_2, h62_2⟩, ⟨g63_2, h63_2⟩, ⟨g64_2, h64_2⟩, ⟨g65_2, h65_2⟩, ⟨g66_2, h66_2⟩, ⟨g67_2, h67_2⟩, ⟨g68_2, h68_2⟩, ⟨g69_2, h69_2⟩, ⟨g70_2, h70_2⟩, ⟨g71_2, h71_2⟩, ⟨g72_2, h72_2⟩, ⟨g73_2, h73_2⟩⟩, ⟨th5_2, fa5_2, ls5_2, hM5_2⟩, ⟨g7_2, x71_2, hL_2⟩, q_2⟩
  cases hv
  refine z_eq (st' := [_]) rfl rfl rfl rfl ?_
  refine z_if_eq (tgt := 108) kd_M_told_98 (by decide) (fun c98 => ?_) (fun c98 => absurd c98 (by decide))
  refine z_iconst (v := 0) kd_M_told_108 (by decide) ?_
  refine z_goto (tgt := 113) kd_M_told_109 (by decide) ?_
  exact z_iret kd_M_told_113 rfl (Nat.le_of_ble_eq_true rfl) (Nat.le_of_ble_eq_true rfl) ⟨rfl, rfl, ⟨⟨_, _, _, _, hM5_2⟩, h58_2, h59_2, ⟨_, h60_2⟩, ⟨_, h61_2⟩, ⟨_, h62_2⟩, ⟨_, h63_2⟩, ⟨_, h64_2⟩, ⟨_, h65_2⟩, ⟨_, h66_2⟩, ⟨_, h67_2⟩, ⟨_, h68_2⟩, ⟨_, h69_2⟩, ⟨_, h70_2⟩, ⟨_, x71_2⟩, ⟨_, h72_2⟩, ⟨_, h73_2⟩⟩, (Fr.tr (Fr.tr Fr.rf (q_1.wide (by omega) (by omega))) (q_2.wide (by omega) (by omega)))⟩
set_option maxHeartbeats 4000000 in
set_option maxRecDepth 100000 in
theorem c_M_told5b {l : Launch} {D : va_G} {tys : List (ClassId × FieldType)} {b N : Nat} {σ : Nat → Option va_E} {cI cJ cA : ClassId} (ht0 : tys[0]? = some (cI, .int)) (ht1 : tys[1]? = some (cJ, .long)) (ht3 : tys[3]? = some (cA, .array .long)) {cZ : ClassId} (ht2 : tys[2]? = some (cZ, .boolean)) {n a : Nat} {gf gt gw : Nat → Int32} {F T : Nat → Nat} {C K : Nat → Int64} (hMS : MS b cI cJ cZ σ n a gf gt gw F T C K) (hn0 : 0 < n) (h0 : ¬ cnV n a F T gw x0 (fun v => v) = 0) (hd : 0 < (cnV n a F T gw x0 (fun v => v)).toInt) (hd2 : (cnV n a F T gw x0 (fun v => v)).toInt < 4611686018427387904) {f : Nat} {val : Nat × (Nat → Int64)} (hv : fdV n a F T gw (cnV n a F T gw x0 (fun v => v)) f = some val) : zM l D kCl tys kNw b ky_M_told (kh_M_told :: zT) 10 360 0 0 [.ref (b + 54), .int 5] N σ ((fun oc N' σ' => oc = .returned (some (.int (nI val.1))) ∧ N' = N ∧ MS b cI cJ cZ σ' n a gf gt gw F T C K ∧ Fr 54 73 σ σ')) := by
  refine zM.of (by decide +kernel) rfl (Nat.le_of_ble_eq_true rfl) ?_
  refine z_pick (lv' := [(0, .ref (b + 54)), (1, .int 5)]) [0, 1] rfl ?_
  obtain ⟨⟨th, fa, ls, rm, hM⟩, h58, h59, ⟨g60, h60⟩, ⟨g61, h61⟩, ⟨g62, h62⟩, ⟨g63, h63⟩, ⟨g64, h64⟩, ⟨g65, h65⟩, ⟨g66, h66⟩, ⟨g67, h67⟩, ⟨g68, h68⟩, ⟨g69, h69⟩, ⟨g70, h70⟩, ⟨g71, h71⟩, ⟨g72, h72⟩, ⟨g73, h73⟩⟩ := hMS
  have hn := hM.hn
  have ha := hM.ha
  refine z_aload_n kd_M_told_0 0 rfl ?_
  refine z_iconst (v := 0) kd_M_told_1 (by decide) ?_
  refine z_putE (fs' := [_, _, _, _, _, _, _, _, _, _, _, _, _, _, _, _, _, _, _, _, _, _, _, _, _]) kd_M_told_2 (kp_M_69 _) hM.h1 (Nat.le_of_ble_eq_true rfl) rfl rfl rfl ?_
  refine z_upd (fun σ_1 x54_1 q_1 => ?_)
  have x58_1 := (q_1 58 (by omega)).trans h58
  have x59_1 := (q_1 59 (by omega)).trans h59
  have x60_1 := (q_1 60 (by omega)).trans h60
  have x61_1 := (q_1 61 (by omega)).trans h61
  have x62_1 := (q_1 62 (by omega)).trans h62
  have x63_1 := (q_1 63 (by omega)).trans h63
  have x64_1 := (q_1 64 (by omega)).trans h64
  have x65_1 := (q_1 65 (by omega)).trans h65
  have x66_1 := (q_1 66 (by omega)).trans h66
  have x67_1 := (q_1 67 (by omega)).trans h67
  have x68_1 := (q_1 68 (by omega)).trans h68
  have x69_1 := (q_1 69 (by omega)).trans h69
  have x70_1 := (q_1 70 (by omega)).trans h70
  have x71_1 := (q_1 71 (by omega)).trans h71
  have x72_1 := (q_1 72 (by omega)).trans h72
  have x73_1 := (q_1 73 (by omega)).trans h73
  have hM_1 := hM.put x54_1 q_1
  refine z_iload_n kd_M_told_5 1 rfl ?_
  refine z_tableOut (tgt := 89) kd_M_told_6 (Or.inr (by decide)) (by decide) ?_
  refine z_iload_n kd_M_told_89 1 rfl ?_
  refine z_iconst (v := 5) kd_M_told_90 (by decide) ?_
  refine z_icmp_ne (tgt := 112) kd_M_told_91 (by decide) (fun c91 => absurd c91 (by decide)) (fun c91 => ?_)
  refine z_aload_n kd_M_told_94 0 rfl ?_
  refine z_callV (a := 54) (As := []) kd_M_told_95 (kg_M_197 _) hM_1.h1 kc_M (c_M_findRounds1 ht0 ht1 ht3 ht2 ⟨⟨_, _, _, _, hM_1⟩, x58_1, x59_1, ⟨_, x60_1⟩, ⟨_, x61_1⟩, ⟨_, x62_1⟩, ⟨_, x63_1⟩, ⟨_, x64_1⟩, ⟨_, x65_1⟩, ⟨_, x66_1⟩, ⟨_, x67_1⟩, ⟨_, x68_1⟩, ⟨_, x69_1⟩, ⟨_, x70_1⟩, ⟨_, x71_1⟩, ⟨_, x72_1⟩, ⟨_, x73_1⟩⟩ hn0 h0 hd hd2 hv) rfl rfl (Nat.le_of_ble_eq_true rfl) ⟨Nat.le_of_ble_eq_true rfl, Nat.le_of_ble_eq_true rfl⟩ ⟨Nat.le_of_ble_eq_true rfl, Nat.le_of_ble_eq_true rfl⟩ ?_
  rintro _ _ σ_2 ⟨hv, rfl, ⟨⟨th_2, fa_2, ls_2, rm_2, hM_2⟩, h58_2, h59_2, ⟨g60_2, h60_2⟩, ⟨g61_2, h61_2⟩, ⟨g62_2, h62_2⟩, ⟨g63_2, h63_2⟩, ⟨g64_2, h64_2⟩, ⟨g65_2, h65_2⟩, ⟨g66_2, h66_2⟩, ⟨g67_2, h67_2⟩, ⟨g68_2, h68_2⟩, ⟨g69_2, h69_2⟩, ⟨g70_2, h70_2⟩, ⟨g71_2, h71_2⟩, ⟨g72_2, h72_2⟩, ⟨g73_2, h73_2⟩⟩, ⟨th5_2, fa5_2, ls5_2, hM5_2⟩, ⟨g7_2, x71_2, hL_2⟩, q_2⟩
  cases hv
  refine z_eq (st' := [_]) rfl rfl rfl rfl ?_
  refine z_if_eq (tgt := 108) kd_M_told_98 (by decide) (fun c98 => absurd c98 (by decide)) (fun c98 => ?_)
  refine z_aload_n kd_M_told_101 0 rfl ?_
  refine z_get kd_M_told_102 (kf_M_183 _) hM5_2.h1 rfl ?_
  refine z_goto (tgt := 113) kd_M_told_105 (by decide) ?_
  exact z_iret kd_M_told_113 rfl (Nat.le_of_ble_eq_true rfl) (Nat.le_of_ble_eq_true rfl) ⟨rfl, rfl, ⟨⟨_, _, _, _, hM5_2⟩, h58_2, h59_2, ⟨_, h60_2⟩, ⟨_, h61_2⟩, ⟨_, h62_2⟩, ⟨_, h63_2⟩, ⟨_, h64_2⟩, ⟨_, h65_2⟩, ⟨_, h66_2⟩, ⟨_, h67_2⟩, ⟨_, h68_2⟩, ⟨_, h69_2⟩, ⟨_, h70_2⟩, ⟨_, x71_2⟩, ⟨_, h72_2⟩, ⟨_, h73_2⟩⟩, (Fr.tr (Fr.tr Fr.rf (q_1.wide (by omega) (by omega))) (q_2.wide (by omega) (by omega)))⟩
set_option maxHeartbeats 4000000 in
set_option maxRecDepth 100000 in
theorem c_M_toldN {l : Launch} {D : va_G} {tys : List (ClassId × FieldType)} {b N : Nat} {σ : Nat → Option va_E} {cI cJ cA : ClassId} (ht0 : tys[0]? = some (cI, .int)) (ht1 : tys[1]? = some (cJ, .long)) (ht3 : tys[3]? = some (cA, .array .long)) {cZ : ClassId} (ht2 : tys[2]? = some (cZ, .boolean)) {n a : Nat} {gf gt gw : Nat → Int32} {F T : Nat → Nat} {C K : Nat → Int64} (hMS : MS b cI cJ cZ σ n a gf gt gw F T C K) {x : Int32} (hx : x.toInt < 0 ∨ 5 < x.toInt) : zM l D kCl tys kNw b ky_M_told (kh_M_told :: zT) 10 360 0 0 [.ref (b + 54), .int x] N σ ((fun oc N' σ' => oc = .returned (some (.int (-1))) ∧ N' = N ∧ MS b cI cJ cZ σ' n a gf gt gw F T C K ∧ Fr 54 73 σ σ')) := by
  refine zM.of (by decide +kernel) rfl (Nat.le_of_ble_eq_true rfl) ?_
  refine z_pick (lv' := [(0, .ref (b + 54)), (1, .int x)]) [0, 1] rfl ?_
  obtain ⟨⟨th, fa, ls, rm, hM⟩, h58, h59, ⟨g60, h60⟩, ⟨g61, h61⟩, ⟨g62, h62⟩, ⟨g63, h63⟩, ⟨g64, h64⟩, ⟨g65, h65⟩, ⟨g66, h66⟩, ⟨g67, h67⟩, ⟨g68, h68⟩, ⟨g69, h69⟩, ⟨g70, h70⟩, ⟨g71, h71⟩, ⟨g72, h72⟩, ⟨g73, h73⟩⟩ := hMS
  have hn := hM.hn
  have ha := hM.ha
  refine z_aload_n kd_M_told_0 0 rfl ?_
  refine z_iconst (v := 0) kd_M_told_1 (by decide) ?_
  refine z_putE (fs' := [_, _, _, _, _, _, _, _, _, _, _, _, _, _, _, _, _, _, _, _, _, _, _, _, _]) kd_M_told_2 (kp_M_69 _) hM.h1 (Nat.le_of_ble_eq_true rfl) rfl rfl rfl ?_
  refine z_upd (fun σ_1 x54_1 q_1 => ?_)
  have x58_1 := (q_1 58 (by omega)).trans h58
  have x59_1 := (q_1 59 (by omega)).trans h59
  have x60_1 := (q_1 60 (by omega)).trans h60
  have x61_1 := (q_1 61 (by omega)).trans h61
  have x62_1 := (q_1 62 (by omega)).trans h62
  have x63_1 := (q_1 63 (by omega)).trans h63
  have x64_1 := (q_1 64 (by omega)).trans h64
  have x65_1 := (q_1 65 (by omega)).trans h65
  have x66_1 := (q_1 66 (by omega)).trans h66
  have x67_1 := (q_1 67 (by omega)).trans h67
  have x68_1 := (q_1 68 (by omega)).trans h68
  have x69_1 := (q_1 69 (by omega)).trans h69
  have x70_1 := (q_1 70 (by omega)).trans h70
  have x71_1 := (q_1 71 (by omega)).trans h71
  have x72_1 := (q_1 72 (by omega)).trans h72
  have x73_1 := (q_1 73 (by omega)).trans h73
  have hM_1 := hM.put x54_1 q_1
  refine z_iload_n kd_M_told_5 1 rfl ?_
  refine z_tableOut (tgt := 89) kd_M_told_6 (by rcases hx with z | z; exact Or.inl z; exact Or.inr (by omega)) (by decide) ?_
  refine z_iload_n kd_M_told_89 1 rfl ?_
  refine z_iconst (v := 5) kd_M_told_90 (by decide) ?_
  refine z_icmp_ne (tgt := 112) kd_M_told_91 (by decide) (fun c91 => ?_) (fun c91 => ?_)
  · refine z_iconst (v := -1) kd_M_told_112 (by decide) ?_
    exact z_iret kd_M_told_113 rfl (Nat.le_of_ble_eq_true rfl) (Nat.le_of_ble_eq_true rfl) ⟨rfl, rfl, ⟨⟨_, _, _, _, hM_1⟩, x58_1, x59_1, ⟨_, x60_1⟩, ⟨_, x61_1⟩, ⟨_, x62_1⟩, ⟨_, x63_1⟩, ⟨_, x64_1⟩, ⟨_, x65_1⟩, ⟨_, x66_1⟩, ⟨_, x67_1⟩, ⟨_, x68_1⟩, ⟨_, x69_1⟩, ⟨_, x70_1⟩, ⟨_, x71_1⟩, ⟨_, x72_1⟩, ⟨_, x73_1⟩⟩, (Fr.tr Fr.rf (q_1.wide (by omega) (by omega)))⟩
  · exact absurd hx (by rw [c91]; decide)
