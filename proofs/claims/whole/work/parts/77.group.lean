def cdL : Nat → Int64 → Int64 → Int64
  | 0, d, _ => d
  | m + 1, d, x => if x = 0 then d else cdL m x (jrem d x)
/-- the class's common divisor -/
def cdV (x y : Int64) : Int64 := cdL 128 x y
def rdV (od x : Int64) : Int64 := if od < 1 then 0 else if jrem x od < 0 then jrem x od + od else jrem x od
def tmS (od x y p : Int64) (s : Int32) : Int64 := rdV od (p * 4096 + x * ((y >>> (s.toInt64 &&& 63)) &&& 4095))
def tmV (od x y : Int64) : Int64 := tmS od x y (tmS od x y (tmS od x y (tmS od x y (rdV od (0 + x * ((y >>> ((48 : Int32).toInt64 &&& 63)) &&& 4095))) 36) 24) 12) 0
/-- common, timesPivot, timesOther -/
def msL : Nat → Int64 → Int64 → Int64 → Int64 → Int64 → Int64 → Int64 × Int64 × Int64
  | 0, _, _, _, c, tO, tP => (c, tP, tO)
  | m + 1, d, oT, pT, c, tO, tP => if d = 0 then (c, tP, tO) else msL m (c - c / d * d) (tO - c / d * oT) (tP - c / d * pT) d oT pT
def msV (x y : Int64) : Int64 × Int64 × Int64 := msL 128 x 0 1 y 1 0
set_option maxHeartbeats 4000000 in
set_option maxRecDepth 100000 in
theorem l_C_cd {l : Launch} {D : va_G} {tys : List (ClassId × FieldType)} {b N : Nat} {σ : Nat → Option va_E} {R : Room} {v0 v2 val : Int64} : ∀ (m s : Nat) (d y : Int64), s + m = 128 → cdL m d y = val → Z l D kCl tys (kh_C_commonDivisor :: zT) kNw ky_C_commonDivisor.cls ky_C_commonDivisor.name kb_C_commonDivisor 11 (some FieldType.long) R b (zFi D kCl b 0 0 (zD (some (.long val)) N σ)) 0 0 N (σ) 9 [(8, .int (nI s)), (6, .long y), (4, .long d), (0, .long v0), (2, .long v2)] [] := by
  intro m
  induction m with
  | zero =>
    intro s d y hs hv
    obtain rfl : s = 128 := by omega
    have hv : d = val := hv
    subst hv
    refine z_iload kd_C_commonDivisor_9 0 rfl ?_
    refine z_sipush (v := 128) kd_C_commonDivisor_11 (by decide +kernel) ?_
    refine z_icmp_ge (tgt := 45) kd_C_commonDivisor_14 (by decide) (fun c14 => ?_) (fun c14 => ?_)
    · refine z_lload kd_C_commonDivisor_45 2 rfl ?_
      exact z_lret kd_C_commonDivisor_47 rfl (Nat.le_of_ble_eq_true rfl) (Nat.le_of_ble_eq_true rfl) ⟨rfl, rfl, rfl⟩
    · exact absurd (nI_le (a := 128) (Nat.le_refl 128) (by decide)) c14
  | succ m ih =>
    intro s d y hs hv
    unfold cdL at hv
    refine z_iload kd_C_commonDivisor_9 0 rfl ?_
    refine z_sipush (v := 128) kd_C_commonDivisor_11 (by decide +kernel) ?_
    refine z_icmp_ge (tgt := 45) kd_C_commonDivisor_14 (by decide) (fun c14 => ?_) (fun c14 => ?_)
    · exact absurd c14 (nI_ge (b := 128) (by omega) (by decide))
    · refine z_lload kd_C_commonDivisor_17 1 rfl ?_
      refine z_lconst (v := 0) kd_C_commonDivisor_19 (by decide +kernel) ?_
      refine z_lcmp kd_C_commonDivisor_20 ?_
      refine z_if_eq (tgt := 45) kd_C_commonDivisor_21 (by decide) (fun c21 => ?_) (fun c21 => ?_)
      · rw [if_pos ((lg_cmp_0 _ _).mp c21)] at hv
        subst hv
        refine z_lload kd_C_commonDivisor_45 2 rfl ?_
        exact z_lret kd_C_commonDivisor_47 rfl (Nat.le_of_ble_eq_true rfl) (Nat.le_of_ble_eq_true rfl) ⟨rfl, rfl, rfl⟩
      · have hne : ¬ y = 0 := fun q => c21 ((lg_cmp_0 _ _).mpr q)
        rw [if_neg hne] at hv
        refine z_lload kd_C_commonDivisor_24 2 rfl ?_
        refine z_lload kd_C_commonDivisor_26 1 rfl ?_
        refine z_lrem kd_C_commonDivisor_28 hne ?_
        refine z_lstore (lv' := [(9, .long _), (8, .int _), (6, .long _), (4, .long _), (0, .long _), (2, .long _)]) kd_C_commonDivisor_29 (by decide) rfl ?_
        refine z_lload kd_C_commonDivisor_31 2 rfl ?_
        refine z_lstore (lv' := [(4, .long _), (9, .long _), (8, .int _), (6, .long _), (0, .long _), (2, .long _)]) kd_C_commonDivisor_33 (by decide) rfl ?_
        refine z_lload kd_C_commonDivisor_35 1 rfl ?_
        refine z_lstore (lv' := [(6, .long _), (4, .long _), (9, .long _), (8, .int _), (0, .long _), (2, .long _)]) kd_C_commonDivisor_37 (by decide) rfl ?_
        refine z_iinc (v := (nI (s + 1))) (lv' := [(8, .int _), (6, .long _), (4, .long _), (9, .long _), (0, .long _), (2, .long _)]) kd_C_commonDivisor_39 3 rfl (nI_1 _) (by decide) rfl ?_
        refine z_goto (tgt := 9) kd_C_commonDivisor_42 (by decide) ?_
        refine z_pick (lv' := [(8, .int (nI (s + 1))), (6, .long _), (4, .long _), (0, .long v0), (2, .long v2)]) [0, 1, 2, 4, 5] rfl ?_
        exact ih (s + 1) _ _ (by omega) hv
set_option maxHeartbeats 4000000 in
set_option maxRecDepth 100000 in
theorem c_C_commonDivisor {l : Launch} {D : va_G} {tys : List (ClassId × FieldType)} {b N : Nat} {σ : Nat → Option va_E} {x y : Int64} : zM l D kCl tys kNw b ky_C_commonDivisor (kh_C_commonDivisor :: zT) 0 0 0 0 [.long x, .long y] N σ (zD (some (.long (cdV x y))) N σ) := by
  refine zM.of (by decide +kernel) rfl (Nat.le_of_ble_eq_true rfl) ?_
  refine z_pick (lv' := [(0, .long x), (2, .long y)]) [0, 1] rfl ?_
  refine z_lload_n kd_C_commonDivisor_0 0 rfl ?_
  refine z_lstore (lv' := [(4, .long _), (0, .long _), (2, .long _)]) kd_C_commonDivisor_1 (by decide) rfl ?_
  refine z_lload_n kd_C_commonDivisor_3 2 rfl ?_
  refine z_lstore (lv' := [(6, .long _), (4, .long _), (0, .long _), (2, .long _)]) kd_C_commonDivisor_4 (by decide) rfl ?_
  refine z_iconst (v := 0) kd_C_commonDivisor_6 (by decide) ?_
  refine z_istore (lv' := [(8, .int _), (6, .long _), (4, .long _), (0, .long _), (2, .long _)]) kd_C_commonDivisor_7 (by decide) rfl ?_
  refine z_pick (lv' := [(8, .int (nI 0)), (6, .long y), (4, .long x), (0, .long x), (2, .long y)]) [0, 1, 2, 3, 4] rfl ?_
  exact l_C_cd 128 0 _ _ (by omega) rfl
set_option maxHeartbeats 4000000 in
set_option maxRecDepth 100000 in
theorem c_U_reduced {l : Launch} {D : va_G} {tys : List (ClassId × FieldType)} {b N : Nat} {σ : Nat → Option va_E} {cn cm tp to : Value} {od : Int64} (h23 : σ 23 = some (.inr (6, [cn, .ref (b + 24), .ref (b + 1), .ref (b + 19), .ref (b + 7), .long od, cm, tp, to]))) {x : Int64} : zM l D kCl tys kNw b ky_U_reduced (kh_U_reduced :: zT) 0 0 0 0 [.ref (b + 23), .long x] N σ (zD (some (.long (rdV od x))) N σ) := by
  refine zM.of (by decide +kernel) rfl (Nat.le_of_ble_eq_true rfl) ?_
  refine z_pick (lv' := [(0, .ref (b + 23)), (1, .long x)]) [0, 1] rfl ?_
  refine z_aload_n kd_U_reduced_0 0 rfl ?_
  refine z_get kd_U_reduced_1 (kf_U_42 _) h23 rfl ?_
  refine z_lconst (v := 1) kd_U_reduced_4 (by decide +kernel) ?_
  refine z_lcmp kd_U_reduced_5 ?_
  refine z_if_ge (tgt := 11) kd_U_reduced_6 (by decide) (fun c6 => ?_) (fun c6 => ?_)
  · have h1 : ¬ od < 1 := fun q => absurd ((lg_cmp_ge _ _).mp c6) (Int64.not_le.mpr q)
    have hne : ¬ od = 0 := fun q => by rw [q] at h1; exact h1 (by decide)
    refine z_lload_n kd_U_reduced_11 1 rfl ?_
    refine z_aload_n kd_U_reduced_12 0 rfl ?_
    refine z_get kd_U_reduced_13 (kf_U_42 _) h23 rfl ?_
    refine z_lrem kd_U_reduced_16 hne ?_
    refine z_lstore_n (lv' := [(3, .long _), (0, .ref (b + 23)), (1, .long _)]) kd_U_reduced_17 (by decide) rfl ?_
    refine z_lload_n kd_U_reduced_18 0 rfl ?_
    refine z_lconst (v := 0) kd_U_reduced_19 (by decide +kernel) ?_
    refine z_lcmp kd_U_reduced_20 ?_
    refine z_if_ge (tgt := 33) kd_U_reduced_21 (by decide) (fun c21 => ?_) (fun c21 => ?_)
    · have h2 : ¬ jrem x od < 0 := fun q => absurd ((lg_cmp_ge _ _).mp c21) (Int64.not_le.mpr q)
      refine z_lload_n kd_U_reduced_33 0 rfl ?_
      exact z_lret kd_U_reduced_34 rfl (Nat.le_of_ble_eq_true rfl) (Nat.le_of_ble_eq_true rfl) ⟨by unfold rdV; rw [if_neg h1]; first | (rw [if_pos h2]; rfl) | (rw [if_neg h2]; rfl), rfl, rfl⟩
    · have h2 : jrem x od < 0 := Int64.not_le.mp (fun q => c21 ((lg_cmp_ge _ _).mpr q))
      refine z_lload_n kd_U_reduced_24 0 rfl ?_
      refine z_aload_n kd_U_reduced_25 1 rfl ?_
      refine z_get kd_U_reduced_26 (kf_U_42 _) h23 rfl ?_
      refine z_ladd kd_U_reduced_29 ?_
      refine z_goto (tgt := 34) kd_U_reduced_30 (by decide) ?_
      exact z_lret kd_U_reduced_34 rfl (Nat.le_of_ble_eq_true rfl) (Nat.le_of_ble_eq_true rfl) ⟨by unfold rdV; rw [if_neg h1]; first | (rw [if_pos h2]; rfl) | (rw [if_neg h2]; rfl), rfl, rfl⟩
  · have h1 : od < 1 := Int64.not_le.mp (fun q => c6 ((lg_cmp_ge _ _).mpr q))
    refine z_lconst (v := 0) kd_U_reduced_9 (by decide +kernel) ?_
    exact z_lret kd_U_reduced_10 rfl (Nat.le_of_ble_eq_true rfl) (Nat.le_of_ble_eq_true rfl) ⟨by unfold rdV; rw [if_pos h1], rfl, rfl⟩
set_option maxHeartbeats 4000000 in
set_option maxRecDepth 100000 in
theorem c_U_times {l : Launch} {D : va_G} {tys : List (ClassId × FieldType)} {b N : Nat} {σ : Nat → Option va_E} {cn cm tp to : Value} {od : Int64} (h23 : σ 23 = some (.inr (6, [cn, .ref (b + 24), .ref (b + 1), .ref (b + 19), .ref (b + 7), .long od, cm, tp, to]))) {x y : Int64} : zM l D kCl tys kNw b ky_U_times (kh_U_times :: zT) 1 30 0 0 [.ref (b + 23), .long x, .long y] N σ (zD (some (.long (tmV od x y))) N σ) := by
  refine zM.of (by decide +kernel) rfl (Nat.le_of_ble_eq_true rfl) ?_
  refine z_pick (lv' := [(0, .ref (b + 23)), (1, .long x), (3, .long y)]) [0, 1, 2] rfl ?_
  refine z_lconst (v := 0) kd_U_times_0 (by decide +kernel) ?_
  refine z_lstore (lv' := [(5, .long _), (0, .ref (b + 23)), (1, .long _), (3, .long _)]) kd_U_times_1 (by decide) rfl ?_
  refine z_bipush (v := 48) kd_U_times_3 (by decide +kernel) ?_
  refine z_istore (lv' := [(7, .int _), (5, .long _), (0, .ref (b + 23)), (1, .long _), (3, .long _)]) kd_U_times_5 (by decide) rfl ?_
  refine z_iload kd_U_times_7 0 rfl ?_
  refine z_if_lt (tgt := 41) kd_U_times_9 (by decide) (fun c9 => absurd c9 (by decide)) (fun c9 => ?_)
  refine z_aload_n kd_U_times_12 2 rfl ?_
  refine z_lload kd_U_times_13 1 rfl ?_
  refine z_ldc2 (v := 4096) kd_U_times_15 (List.mem_cons_of_mem _ (zin 578 rfl rfl)) ?_
  refine z_lmul kd_U_times_18 ?_
  refine z_topl (show _ = (0 : Int64) from by decide +kernel) ?_
  refine z_lload_n kd_U_times_19 3 rfl ?_
  refine z_lload_n kd_U_times_20 4 rfl ?_
  refine z_iload kd_U_times_21 0 rfl ?_
  refine z_lshr kd_U_times_23 ?_
  refine z_ldc2 (v := 4095) kd_U_times_24 (List.mem_cons_of_mem _ (zin 579 rfl rfl)) ?_
  refine z_land kd_U_times_27 ?_
  refine z_lmul kd_U_times_28 ?_
  refine z_ladd kd_U_times_29 ?_
  refine z_V1 (a := 23) (As := [_]) kd_U_times_30 (kg_U_78 _) h23 kc_U (c_U_reduced h23) rfl rfl (Nat.le_of_ble_eq_true rfl) ⟨Nat.le_of_ble_eq_true rfl, Nat.le_of_ble_eq_true rfl⟩ ⟨Nat.le_of_ble_eq_true rfl, Nat.le_of_ble_eq_true rfl⟩ ?_
  refine z_lstore (lv' := [(5, .long _), (7, .int _), (0, .ref (b + 23)), (1, .long _), (3, .long _)]) kd_U_times_33 (by decide) rfl ?_
  refine z_iinc (v := 36) (lv' := [(7, .int _), (5, .long _), (0, .ref (b + 23)), (1, .long _), (3, .long _)]) kd_U_times_35 1 rfl (by decide) (by decide) rfl ?_
  refine z_goto (tgt := 7) kd_U_times_38 (by decide) ?_
  refine z_iload kd_U_times_7 0 rfl ?_
  refine z_if_lt (tgt := 41) kd_U_times_9 (by decide) (fun c9 => absurd c9 (by decide)) (fun c9 => ?_)
  refine z_aload_n kd_U_times_12 2 rfl ?_
  refine z_lload kd_U_times_13 1 rfl ?_
  refine z_ldc2 (v := 4096) kd_U_times_15 (List.mem_cons_of_mem _ (zin 578 rfl rfl)) ?_
  refine z_lmul kd_U_times_18 ?_
  refine z_lload_n kd_U_times_19 3 rfl ?_
  refine z_lload_n kd_U_times_20 4 rfl ?_
  refine z_iload kd_U_times_21 0 rfl ?_
  refine z_lshr kd_U_times_23 ?_
  refine z_ldc2 (v := 4095) kd_U_times_24 (List.mem_cons_of_mem _ (zin 579 rfl rfl)) ?_
  refine z_land kd_U_times_27 ?_
  refine z_lmul kd_U_times_28 ?_
  refine z_ladd kd_U_times_29 ?_
  refine z_V1 (a := 23) (As := [_]) kd_U_times_30 (kg_U_78 _) h23 kc_U (c_U_reduced h23) rfl rfl (Nat.le_of_ble_eq_true rfl) ⟨Nat.le_of_ble_eq_true rfl, Nat.le_of_ble_eq_true rfl⟩ ⟨Nat.le_of_ble_eq_true rfl, Nat.le_of_ble_eq_true rfl⟩ ?_
  refine z_lstore (lv' := [(5, .long _), (7, .int _), (0, .ref (b + 23)), (1, .long _), (3, .long _)]) kd_U_times_33 (by decide) rfl ?_
  refine z_iinc (v := 24) (lv' := [(7, .int _), (5, .long _), (0, .ref (b + 23)), (1, .long _), (3, .long _)]) kd_U_times_35 1 rfl (by decide) (by decide) rfl ?_
  refine z_goto (tgt := 7) kd_U_times_38 (by decide) ?_
  refine z_iload kd_U_times_7 0 rfl ?_
  refine z_if_lt (tgt := 41) kd_U_times_9 (by decide) (fun c9 => absurd c9 (by decide)) (fun c9 => ?_)
  refine z_aload_n kd_U_times_12 2 rfl ?_
  refine z_lload kd_U_times_13 1 rfl ?_
  refine z_ldc2 (v := 4096) kd_U_times_15 (List.mem_cons_of_mem _ (zin 578 rfl rfl)) ?_
  refine z_lmul kd_U_times_18 ?_
  refine z_lload_n kd_U_times_19 3 rfl ?_
  refine z_lload_n kd_U_times_20 4 rfl ?_
  refine z_iload kd_U_times_21 0 rfl ?_
  refine z_lshr kd_U_times_23 ?_
  refine z_ldc2 (v := 4095) kd_U_times_24 (List.mem_cons_of_mem _ (zin 579 rfl rfl)) ?_
  refine z_land kd_U_times_27 ?_
  refine z_lmul kd_U_times_28 ?_
  refine z_ladd kd_U_times_29 ?_
  refine z_V1 (a := 23) (As := [_]) kd_U_times_30 (kg_U_78 _) h23 kc_U (c_U_reduced h23) rfl rfl (Nat.le_of_ble_eq_true rfl) ⟨Nat.le_of_ble_eq_true rfl, Nat.le_of_ble_eq_true rfl⟩ ⟨Nat.le_of_ble_eq_true rfl, Nat.le_of_ble_eq_true rfl⟩ ?_
  refine z_lstore (lv' := [(5, .long _), (7, .int _), (0, .ref (b + 23)), (1, .long _), (3, .long _)]) kd_U_times_33 (by decide) rfl ?_
  refine z_iinc (v := 12) (lv' := [(7, .int _), (5, .long _), (0, .ref (b + 23)), (1, .long _), (3, .long _)]) kd_U_times_35 1 rfl (by decide) (by decide) rfl ?_
  refine z_goto (tgt := 7) kd_U_times_38 (by decide) ?_
  refine z_iload kd_U_times_7 0 rfl ?_
  refine z_if_lt (tgt := 41) kd_U_times_9 (by decide) (fun c9 => absurd c9 (by decide)) (fun c9 => ?_)
  refine z_aload_n kd_U_times_12 2 rfl ?_
  refine z_lload kd_U_times_13 1 rfl ?_
  refine z_ldc2 (v := 4096) kd_U_times_15 (List.mem_cons_of_mem _ (zin 578 rfl rfl)) ?_
  refine z_lmul kd_U_times_18 ?_
  refine z_lload_n kd_U_times_19 3 rfl ?_
  refine z_lload_n kd_U_times_20 4 rfl ?_
  refine z_iload kd_U_times_21 0 rfl ?_
  refine z_lshr kd_U_times_23 ?_
  refine z_ldc2 (v := 4095) kd_U_times_24 (List.mem_cons_of_mem _ (zin 579 rfl rfl)) ?_
  refine z_land kd_U_times_27 ?_
  refine z_lmul kd_U_times_28 ?_
  refine z_ladd kd_U_times_29 ?_
  refine z_V1 (a := 23) (As := [_]) kd_U_times_30 (kg_U_78 _) h23 kc_U (c_U_reduced h23) rfl rfl (Nat.le_of_ble_eq_true rfl) ⟨Nat.le_of_ble_eq_true rfl, Nat.le_of_ble_eq_true rfl⟩ ⟨Nat.le_of_ble_eq_true rfl, Nat.le_of_ble_eq_true rfl⟩ ?_
  refine z_lstore (lv' := [(5, .long _), (7, .int _), (0, .ref (b + 23)), (1, .long _), (3, .long _)]) kd_U_times_33 (by decide) rfl ?_
  refine z_iinc (v := 0) (lv' := [(7, .int _), (5, .long _), (0, .ref (b + 23)), (1, .long _), (3, .long _)]) kd_U_times_35 1 rfl (by decide) (by decide) rfl ?_
  refine z_goto (tgt := 7) kd_U_times_38 (by decide) ?_
  refine z_iload kd_U_times_7 0 rfl ?_
  refine z_if_lt (tgt := 41) kd_U_times_9 (by decide) (fun c9 => absurd c9 (by decide)) (fun c9 => ?_)
  refine z_aload_n kd_U_times_12 2 rfl ?_
  refine z_lload kd_U_times_13 1 rfl ?_
  refine z_ldc2 (v := 4096) kd_U_times_15 (List.mem_cons_of_mem _ (zin 578 rfl rfl)) ?_
  refine z_lmul kd_U_times_18 ?_
  refine z_lload_n kd_U_times_19 3 rfl ?_
  refine z_lload_n kd_U_times_20 4 rfl ?_
  refine z_iload kd_U_times_21 0 rfl ?_
  refine z_lshr kd_U_times_23 ?_
  refine z_ldc2 (v := 4095) kd_U_times_24 (List.mem_cons_of_mem _ (zin 579 rfl rfl)) ?_
  refine z_land kd_U_times_27 ?_
  refine z_lmul kd_U_times_28 ?_
  refine z_ladd kd_U_times_29 ?_
  refine z_V1 (a := 23) (As := [_]) kd_U_times_30 (kg_U_78 _) h23 kc_U (c_U_reduced h23) rfl rfl (Nat.le_of_ble_eq_true rfl) ⟨Nat.le_of_ble_eq_true rfl, Nat.le_of_ble_eq_true rfl⟩ ⟨Nat.le_of_ble_eq_true rfl, Nat.le_of_ble_eq_true rfl⟩ ?_
  refine z_lstore (lv' := [(5, .long _), (7, .int _), (0, .ref (b + 23)), (1, .long _), (3, .long _)]) kd_U_times_33 (by decide) rfl ?_
  refine z_iinc (v := -12) (lv' := [(7, .int _), (5, .long _), (0, .ref (b + 23)), (1, .long _), (3, .long _)]) kd_U_times_35 1 rfl (by decide) (by decide) rfl ?_
  refine z_goto (tgt := 7) kd_U_times_38 (by decide) ?_
  refine z_iload kd_U_times_7 0 rfl ?_
  refine z_if_lt (tgt := 41) kd_U_times_9 (by decide) (fun c9 => ?_) (fun c9 => absurd c9 (by decide))
  refine z_lload kd_U_times_41 1 rfl ?_
  exact z_lret kd_U_times_43 rfl (Nat.le_of_ble_eq_true rfl) (Nat.le_of_ble_eq_true rfl) ⟨rfl, rfl, rfl⟩
