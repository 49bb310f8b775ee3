def jrem (x y : Int64) : Int64 := x - x / y * y
/-- the reference's power: square and multiply -/
def pwN (p : Int64) : Nat → Int64 → Int64 → Nat → Int64
  | 0, r, _, _ => r
  | n + 1, r, x, a => if a = 0 then r else pwN p n (if a % 2 = 1 then jrem (r * x) p else r) (jrem (x * x) p) (a / 2)
theorem lg_cmp_0 (x y : Int64) : lg_cmp x y = 0 ↔ x = y := by
  unfold lg_cmp
  by_cases h : x > y
  · have hne : ¬ x = y := fun e => by subst e; exact absurd h (by rw [gt_iff_lt, Int64.lt_iff_toInt_lt]; omega)
    simp [h, hne]
  · by_cases e : x = y <;> simp [h, e]
theorem lN_pos {a : Nat} (h : 0 < a) (h2 : a < 2 ^ 62) : ¬ lN a ≤ 0 := by
  have := pk_lLE (a := a) (b := 0) (by omega) (by decide)
  intro q
  have q' : a ≤ 0 := this.mp q
  omega
theorem lN_sh1 {a : Nat} (h : a < 2 ^ 62) : lN a >>> ((1 : Int32).toInt64 &&& 63) = lN (a / 2) := pf_shr (d := 1) (by decide) h
theorem lN_odd {a : Nat} (h : a < 2 ^ 62) : (lN a &&& 1 = 1) ↔ a % 2 = 1 := by
  rw [wb_a1 (by omega)]
  have := pk_lEQ (a := a % 2) (b := 1) (by omega) (by decide)
  exact this
set_option maxHeartbeats 4000000 in
set_option maxRecDepth 100000 in
theorem l_M_power {l : Launch} {D : va_G} {tys : List (ClassId × FieldType)} {b N : Nat} {σ : Nat → Option va_E} {b0 e0 p : Int64} (hp : ¬ p = 0) {R : Room} {v : Int64} : ∀ (n : Nat) (a : Nat) (r x : Int64), n ≤ 62 → a < 2 ^ n → pwN p n r x a = v → Z l D kCl tys (kh_M_power :: zT) kNw ky_M_power.cls ky_M_power.name kb_M_power 12 (some FieldType.long) R b (zFi D kCl b 0 0 (zD (some (.long v)) N σ)) 0 0 N (σ) 18 [(10, .long (lN a)), (8, .long x), (6, .long r), (0, .long b0), (2, .long e0), (4, .long p)] [] := by
  intro n
  induction n with
  | zero =>
    intro a r x hn ha hv
    obtain rfl : a = 0 := by simp at ha; exact ha
    have hv : r = v := hv
    subst hv
    refine z_lload kd_M_power_18 0 rfl ?_
    refine z_lconst (v := 0) kd_M_power_20 (by decide +kernel) ?_
    refine z_lcmp kd_M_power_21 ?_
    refine z_if_le (tgt := 63) kd_M_power_22 (by decide) (fun c22 => ?_) (fun c22 => ?_)
    · refine z_lload kd_M_power_63 2 rfl ?_
      exact z_lret kd_M_power_65 rfl (Nat.le_of_ble_eq_true rfl) (Nat.le_of_ble_eq_true rfl) ⟨rfl, rfl, rfl⟩
    · exact absurd ((lg_cmp_le _ _).mpr (by decide)) c22
  | succ n ih =>
    intro a r x hn ha hv
    have ha62 : a < 2 ^ 62 := Nat.lt_of_lt_of_le ha (Nat.pow_le_pow_right (by decide) hn)
    unfold pwN at hv
    by_cases h0 : a = 0
    · rw [if_pos h0] at hv
      subst hv
      subst h0
      refine z_lload kd_M_power_18 0 rfl ?_
      refine z_lconst (v := 0) kd_M_power_20 (by decide +kernel) ?_
      refine z_lcmp kd_M_power_21 ?_
      refine z_if_le (tgt := 63) kd_M_power_22 (by decide) (fun c22 => ?_) (fun c22 => ?_)
      · refine z_lload kd_M_power_63 2 rfl ?_
        exact z_lret kd_M_power_65 rfl (Nat.le_of_ble_eq_true rfl) (Nat.le_of_ble_eq_true rfl) ⟨rfl, rfl, rfl⟩
      · exact absurd ((lg_cmp_le _ _).mpr (by decide)) c22
    · rw [if_neg h0] at hv
      refine z_lload kd_M_power_18 0 rfl ?_
      refine z_lconst (v := 0) kd_M_power_20 (by decide +kernel) ?_
      refine z_lcmp kd_M_power_21 ?_
      refine z_if_le (tgt := 63) kd_M_power_22 (by decide) (fun c22 => ?_) (fun c22 => ?_)
      · exact absurd ((lg_cmp_le _ _).mp c22) (lN_pos (by omega) ha62)
      · refine z_lload kd_M_power_25 0 rfl ?_
        refine z_lconst (v := 1) kd_M_power_27 (by decide +kernel) ?_
        refine z_land kd_M_power_28 ?_
        refine z_lconst (v := 1) kd_M_power_29 (by decide +kernel) ?_
        refine z_lcmp kd_M_power_30 ?_
        refine z_if_ne (tgt := 44) kd_M_power_31 (by decide) (fun c31 => ?_) (fun c31 => ?_)
        · have hodd : ¬ a % 2 = 1 := fun q => c31 ((lg_cmp_0 _ _).mpr ((lN_odd ha62).mpr q))
          rw [if_neg hodd] at hv
          refine z_lload kd_M_power_44 1 rfl ?_
          refine z_lload kd_M_power_46 1 rfl ?_
          refine z_lmul kd_M_power_48 ?_
          refine z_lload kd_M_power_49 5 rfl ?_
          refine z_lrem kd_M_power_51 hp ?_
          refine z_lstore (lv' := [(8, .long _), (10, .long _), (6, .long _), (0, .long _), (2, .long _), (4, .long _)]) kd_M_power_52 (by decide) rfl ?_
          refine z_lload kd_M_power_54 1 rfl ?_
          refine z_iconst (v := 1) kd_M_power_56 (by decide) ?_
          refine z_lshr kd_M_power_57 ?_
          refine z_lstore (lv' := [(10, .long _), (8, .long _), (6, .long _), (0, .long _), (2, .long _), (4, .long _)]) kd_M_power_58 (by decide) rfl ?_
          refine z_goto (tgt := 18) kd_M_power_60 (by decide) ?_
          have hd2 : a / 2 < 2 ^ n := by rw [Nat.pow_succ] at ha; omega
          rw [lN_sh1 ha62]
          exact ih (a / 2) _ _ (by omega) hd2 hv
        · have hodd : a % 2 = 1 := (lN_odd ha62).mp ((lg_cmp_0 _ _).mp c31)
          rw [if_pos hodd] at hv
          refine z_lload kd_M_power_34 2 rfl ?_
          refine z_lload kd_M_power_36 1 rfl ?_
          refine z_lmul kd_M_power_38 ?_
          refine z_lload kd_M_power_39 5 rfl ?_
          refine z_lrem kd_M_power_41 hp ?_
          refine z_lstore (lv' := [(6, .long _), (10, .long _), (8, .long _), (0, .long _), (2, .long _), (4, .long _)]) kd_M_power_42 (by decide) rfl ?_
          refine z_lload kd_M_power_44 2 rfl ?_
          refine z_lload kd_M_power_46 2 rfl ?_
          refine z_lmul kd_M_power_48 ?_
          refine z_lload kd_M_power_49 5 rfl ?_
          refine z_lrem kd_M_power_51 hp ?_
          refine z_lstore (lv' := [(8, .long _), (6, .long _), (10, .long _), (0, .long _), (2, .long _), (4, .long _)]) kd_M_power_52 (by decide) rfl ?_
          refine z_lload kd_M_power_54 2 rfl ?_
          refine z_iconst (v := 1) kd_M_power_56 (by decide) ?_
          refine z_lshr kd_M_power_57 ?_
          refine z_lstore (lv' := [(10, .long _), (8, .long _), (6, .long _), (0, .long _), (2, .long _), (4, .long _)]) kd_M_power_58 (by decide) rfl ?_
          refine z_goto (tgt := 18) kd_M_power_60 (by decide) ?_
          have hd2 : a / 2 < 2 ^ n := by rw [Nat.pow_succ] at ha; omega
          rw [lN_sh1 ha62]
          exact ih (a / 2) _ _ (by omega) hd2 hv
set_option maxHeartbeats 4000000 in
set_option maxRecDepth 100000 in
theorem c_M_power {l : Launch} {D : va_G} {tys : List (ClassId × FieldType)} {b N : Nat} {σ : Nat → Option va_E} {b0 p : Int64} {a : Nat} (ha : a < 2 ^ 62) (hp : ¬ p = 0) : zM l D kCl tys kNw b ky_M_power (kh_M_power :: zT) 0 0 0 0 [.long b0, .long (lN a), .long p] N σ (zD (some (.long (pwN p 62 1 (jrem (jrem b0 p + p) p) a))) N σ) := by
  refine zM.of (by decide +kernel) rfl (Nat.le_of_ble_eq_true rfl) ?_
  refine z_pick (lv' := [(0, .long b0), (2, .long (lN a)), (4, .long p)]) [0, 1, 2] rfl ?_
  refine z_lconst (v := 1) kd_M_power_0 (by decide +kernel) ?_
  refine z_lstore (lv' := [(6, .long _), (0, .long _), (2, .long _), (4, .long _)]) kd_M_power_1 (by decide) rfl ?_
  refine z_lload_n kd_M_power_3 1 rfl ?_
  refine z_lload kd_M_power_4 3 rfl ?_
  refine z_lrem kd_M_power_6 hp ?_
  refine z_lload kd_M_power_7 3 rfl ?_
  refine z_ladd kd_M_power_9 ?_
  refine z_lload kd_M_power_10 3 rfl ?_
  refine z_lrem kd_M_power_12 hp ?_
  refine z_lstore (lv' := [(8, .long _), (6, .long _), (0, .long _), (2, .long _), (4, .long _)]) kd_M_power_13 (by decide) rfl ?_
  refine z_lload_n kd_M_power_15 3 rfl ?_
  refine z_lstore (lv' := [(10, .long _), (8, .long _), (6, .long _), (0, .long _), (2, .long _), (4, .long _)]) kd_M_power_16 (by decide) rfl ?_
  exact l_M_power hp 62 a _ _ (by omega) ha rfl
set_option maxHeartbeats 4000000 in
set_option maxRecDepth 100000 in
theorem e_M_modulo {l : Launch} {D : va_G} {tys : List (ClassId × FieldType)} {b N : Nat} {σ : Nat → Option va_E} {p : Int64} {th fa ls rm : Value} (h54 : σ 54 = some (.inr (9, [th, .int 0, .int 0, .ref (b + 55), .ref (b + 56), .ref (b + 57), .ref (b + 58), .ref (b + 59), .ref (b + 60), .ref (b + 61), .ref (b + 62), .ref (b + 63), .ref (b + 64), .ref (b + 65), fa, .ref (b + 66), .ref (b + 67), ls, .ref (b + 68), .ref (b + 69), .ref (b + 70), .ref (b + 71), rm, .ref (b + 72), .ref (b + 73)]))) : zM l D kCl tys kNw b ky_M_modulo (kh_M_modulo :: zT) 0 0 0 0 [.ref (b + 54), .int 0, .long p] N σ (zD (some (.long 1)) N σ) := by
  refine zM.of (by decide +kernel) rfl (Nat.le_of_ble_eq_true rfl) ?_
  refine z_pick (lv' := [(0, .ref (b + 54)), (1, .int 0), (2, .long p)]) [0, 1, 2] rfl ?_
  refine z_iconst (v := 0) kd_M_modulo_0 (by decide) ?_
  refine z_istore (lv' := [(4, .int _), (0, .ref (b + 54)), (1, .int _), (2, .long _)]) kd_M_modulo_1 (by decide) rfl ?_
  refine z_iload kd_M_modulo_3 0 rfl ?_
  refine z_iload_n kd_M_modulo_5 2 rfl ?_
  refine z_icmp_ge (tgt := 62) kd_M_modulo_6 (by decide) (fun c6 => ?_) (fun c6 => absurd c6 (by decide))
  refine z_lconst (v := 1) kd_M_modulo_62 (by decide +kernel) ?_
  refine z_lstore (lv' := [(4, .long _), (0, .ref (b + 54)), (1, .int _), (2, .long _)]) kd_M_modulo_63 (by decide) rfl ?_
  refine z_iconst (v := 0) kd_M_modulo_65 (by decide) ?_
  refine z_istore (lv' := [(6, .int _), (4, .long _), (0, .ref (b + 54)), (1, .int _), (2, .long _)]) kd_M_modulo_66 (by decide) rfl ?_
  refine z_iload kd_M_modulo_68 0 rfl ?_
  refine z_iload_n kd_M_modulo_70 3 rfl ?_
  refine z_icmp_ge (tgt := 372) kd_M_modulo_71 (by decide) (fun c71 => ?_) (fun c71 => absurd c71 (by decide))
  refine z_lload kd_M_modulo_372 1 rfl ?_
  exact z_lret kd_M_modulo_374 rfl (Nat.le_of_ble_eq_true rfl) (Nat.le_of_ble_eq_true rfl) ⟨rfl, rfl, rfl⟩
set_option maxHeartbeats 4000000 in
set_option maxRecDepth 100000 in
theorem e_M_determinant {l : Launch} {D : va_G} {tys : List (ClassId × FieldType)} {b N : Nat} {σ : Nat → Option va_E} {th fa ls rm : Value} (h54 : σ 54 = some (.inr (9, [th, .int 0, .int 0, .ref (b + 55), .ref (b + 56), .ref (b + 57), .ref (b + 58), .ref (b + 59), .ref (b + 60), .ref (b + 61), .ref (b + 62), .ref (b + 63), .ref (b + 64), .ref (b + 65), fa, .ref (b + 66), .ref (b + 67), ls, .ref (b + 68), .ref (b + 69), .ref (b + 70), .ref (b + 71), rm, .ref (b + 72), .ref (b + 73)]))) : zM l D kCl tys kNw b ky_M_determinant (kh_M_determinant :: zT) 1 60 0 0 [.ref (b + 54), .int 0] N σ (zD (some (.long 1)) N σ) := by
  refine zM.of (by decide +kernel) rfl (Nat.le_of_ble_eq_true rfl) ?_
  refine z_pick (lv' := [(0, .ref (b + 54)), (1, .int 0)]) [0, 1] rfl ?_
  refine z_aload_n kd_M_determinant_0 0 rfl ?_
  refine z_iload_n kd_M_determinant_1 1 rfl ?_
  refine z_ldc2 (v := 2147483647) kd_M_determinant_2 (List.mem_cons_of_mem _ (zin 903 rfl rfl)) ?_
  refine z_V1 (a := 54) (As := [_, _]) kd_M_determinant_5 (kg_M_91 _) h54 kc_M (e_M_modulo h54) rfl rfl (Nat.le_of_ble_eq_true rfl) ⟨Nat.le_of_ble_eq_true rfl, Nat.le_of_ble_eq_true rfl⟩ ⟨Nat.le_of_ble_eq_true rfl, Nat.le_of_ble_eq_true rfl⟩ ?_
  refine z_lstore_n (lv' := [(2, .long _), (0, .ref (b + 54)), (1, .int _)]) kd_M_determinant_8 (by decide) rfl ?_
  refine z_aload_n kd_M_determinant_9 1 rfl ?_
  refine z_iload_n kd_M_determinant_10 2 rfl ?_
  refine z_ldc2 (v := 2147483629) kd_M_determinant_11 (List.mem_cons_of_mem _ (zin 912 rfl rfl)) ?_
  refine z_V1 (a := 54) (As := [_, _]) kd_M_determinant_14 (kg_M_91 _) h54 kc_M (e_M_modulo h54) rfl rfl (Nat.le_of_ble_eq_true rfl) ⟨Nat.le_of_ble_eq_true rfl, Nat.le_of_ble_eq_true rfl⟩ ⟨Nat.le_of_ble_eq_true rfl, Nat.le_of_ble_eq_true rfl⟩ ?_
  refine z_lstore (lv' := [(4, .long _), (2, .long _), (0, .ref (b + 54)), (1, .int _)]) kd_M_determinant_17 (by decide) rfl ?_
  refine z_lload kd_M_determinant_19 0 rfl ?_
  refine z_lload_n kd_M_determinant_21 1 rfl ?_
  refine z_lsub kd_M_determinant_22 ?_
  refine z_topl (show _ = (0 : Int64) from by decide +kernel) ?_
  refine z_ldc2 (v := 2147483629) kd_M_determinant_23 (List.mem_cons_of_mem _ (zin 912 rfl rfl)) ?_
  refine z_lrem kd_M_determinant_26 (by decide) ?_
  refine z_topl (show _ = (0 : Int64) from by decide +kernel) ?_
  refine z_ldc2 (v := 2147483629) kd_M_determinant_27 (List.mem_cons_of_mem _ (zin 912 rfl rfl)) ?_
  refine z_ladd kd_M_determinant_30 ?_
  refine z_topl (show _ = (2147483629 : Int64) from by decide +kernel) ?_
  refine z_ldc2 (v := 2147483629) kd_M_determinant_31 (List.mem_cons_of_mem _ (zin 912 rfl rfl)) ?_
  refine z_lrem kd_M_determinant_34 (by decide) ?_
  refine z_topl (show _ = (0 : Int64) from by decide +kernel) ?_
  refine z_ldc2 (v := 2147483647) kd_M_determinant_35 (List.mem_cons_of_mem _ (zin 903 rfl rfl)) ?_
  refine z_ldc2 (v := 2147483627) kd_M_determinant_38 (List.mem_cons_of_mem _ (zin 913 rfl rfl)) ?_
  refine z_ldc2 (v := 2147483629) kd_M_determinant_41 (List.mem_cons_of_mem _ (zin 912 rfl rfl)) ?_
  refine z_S1 (As := [_, _, _]) kd_M_determinant_44 (kg_M_85 _) (c_M_power (a := 2147483627) (by decide) (by decide)) rfl rfl (Nat.le_of_ble_eq_true rfl) ⟨Nat.le_of_ble_eq_true rfl, Nat.le_of_ble_eq_true rfl⟩ ⟨Nat.le_of_ble_eq_true rfl, Nat.le_of_ble_eq_true rfl⟩ ?_
  refine z_lmul kd_M_determinant_47 ?_
  refine z_topl (Int64.zero_mul) ?_
  refine z_ldc2 (v := 2147483629) kd_M_determinant_48 (List.mem_cons_of_mem _ (zin 912 rfl rfl)) ?_
  refine z_lrem kd_M_determinant_51 (by decide) ?_
  refine z_topl (show _ = (0 : Int64) from by decide +kernel) ?_
  refine z_lstore (lv' := [(6, .long _), (4, .long _), (2, .long _), (0, .ref (b + 54)), (1, .int _)]) kd_M_determinant_52 (by decide) rfl ?_
  refine z_lload_n kd_M_determinant_54 2 rfl ?_
  refine z_ldc2 (v := 2147483647) kd_M_determinant_55 (List.mem_cons_of_mem _ (zin 903 rfl rfl)) ?_
  refine z_lload kd_M_determinant_58 0 rfl ?_
  refine z_lmul kd_M_determinant_60 ?_
  refine z_topl (show _ = (0 : Int64) from by decide +kernel) ?_
  refine z_ladd kd_M_determinant_61 ?_
  refine z_topl (show _ = (1 : Int64) from by decide +kernel) ?_
  exact z_lret kd_M_determinant_62 rfl (Nat.le_of_ble_eq_true rfl) (Nat.le_of_ble_eq_true rfl) ⟨rfl, rfl, rfl⟩
set_option maxHeartbeats 4000000 in
set_option maxRecDepth 100000 in
theorem e_M_number {l : Launch} {D : va_G} {tys : List (ClassId × FieldType)} {b N : Nat} {σ : Nat → Option va_E} {x y : Int32} {th fa ls rm : Value} (h54 : σ 54 = some (.inr (9, [th, .int 0, .int 0, .ref (b + 55), .ref (b + 56), .ref (b + 57), .ref (b + 58), .ref (b + 59), .ref (b + 60), .ref (b + 61), .ref (b + 62), .ref (b + 63), .ref (b + 64), .ref (b + 65), fa, .ref (b + 66), .ref (b + 67), ls, .ref (b + 68), .ref (b + 69), .ref (b + 70), .ref (b + 71), rm, .ref (b + 72), .ref (b + 73)]))) : zM l D kCl tys kNw b ky_M_number (kh_M_number :: zT) 0 0 0 0 [.ref (b + 54), .int x, .int y] N σ (zD (some (.int 0)) N σ) := by
  refine zM.of (by decide +kernel) rfl (Nat.le_of_ble_eq_true rfl) ?_
  refine z_pick (lv' := [(0, .ref (b + 54)), (1, .int x), (2, .int y)]) [0, 1, 2] rfl ?_
  refine z_iconst (v := 0) kd_M_number_0 (by decide) ?_
  refine z_istore_n (lv' := [(3, .int _), (0, .ref (b + 54)), (1, .int _), (2, .int _)]) kd_M_number_1 (by decide) rfl ?_
  refine z_iconst (v := 0) kd_M_number_2 (by decide) ?_
  refine z_istore (lv' := [(4, .int _), (3, .int _), (0, .ref (b + 54)), (1, .int _), (2, .int _)]) kd_M_number_3 (by decide) rfl ?_
  refine z_iload kd_M_number_5 0 rfl ?_
  refine z_aload_n kd_M_number_7 2 rfl ?_
  refine z_get kd_M_number_8 (kf_M_73 _) h54 rfl ?_
  refine z_icmp_ge (tgt := 28) kd_M_number_11 (by decide) (fun c11 => ?_) (fun c11 => absurd c11 (by decide))
  refine z_iconst (v := 0) kd_M_number_28 (by decide) ?_
  refine z_istore (lv' := [(4, .int _), (3, .int _), (0, .ref (b + 54)), (1, .int _), (2, .int _)]) kd_M_number_29 (by decide) rfl ?_
  refine z_iload kd_M_number_31 0 rfl ?_
  refine z_aload_n kd_M_number_33 2 rfl ?_
  refine z_get kd_M_number_34 (kf_M_73 _) h54 rfl ?_
  refine z_icmp_ge (tgt := 155) kd_M_number_37 (by decide) (fun c37 => ?_) (fun c37 => absurd c37 (by decide))
  refine z_iload_n kd_M_number_155 1 rfl ?_
  exact z_iret kd_M_number_156 rfl (Nat.le_of_ble_eq_true rfl) (Nat.le_of_ble_eq_true rfl) ⟨rfl, rfl, rfl⟩
set_option maxHeartbeats 4000000 in
set_option maxRecDepth 100000 in
theorem l_M_rows {l : Launch} {D : va_G} {tys : List (ClassId × FieldType)} {b N : Nat} {σ : Nat → Option va_E} {cJ : ClassId} (ht1 : tys[1]? = some (cJ, .long)) {th nd ar fa ls rm : Value} (h54 : σ 54 = some (.inr (9, [th, nd, ar, .ref (b + 55), .ref (b + 56), .ref (b + 57), .ref (b + 58), .ref (b + 59), .ref (b + 60), .ref (b + 61), .ref (b + 62), .ref (b + 63), .ref (b + 64), .ref (b + 65), fa, .ref (b + 66), .ref (b + 67), ls, .ref (b + 68), .ref (b + 69), .ref (b + 70), .ref (b + 71), rm, .ref (b + 72), .ref (b + 73)]))) {pl : Int64} {R : Room} {Q : Outcome → Nat → (Nat → Option va_E) → Prop} (hQ : ∀ g : Nat → Int64, Q (.returned none) N (zUp σ 60 (.inl (cJ, 100, .inr (.inl g))))) : ∀ (m i : Nat) (g : Nat → Int64), i + m = 10 → Z l D kCl tys (kh_M_rows :: zT) kNw ky_M_rows.cls ky_M_rows.name kb_M_rows 6 none R b (zFi D kCl b 0 0 Q) 0 0 N (zUp σ 60 (.inl (cJ, 100, .inr (.inl g)))) 144 [(3, .int (nI i)), (0, .ref (b + 54)), (1, .long pl)] [] := by
  intro m
  induction m with
  | zero =>
    intro i g hi
    obtain rfl : i = 10 := by omega
    refine z_iload_n kd_M_rows_144 0 rfl ?_
    refine z_bipush (v := 10) kd_M_rows_145 (by decide +kernel) ?_
    refine z_icmp_ge (tgt := 169) kd_M_rows_147 (by decide) (fun c147 => ?_) (fun c147 => ?_)
    · exact z_vret kd_M_rows_169 rfl (Nat.le_of_ble_eq_true rfl) (Nat.le_of_ble_eq_true rfl) (hQ g)
    · exact absurd (nI_le (Nat.le_refl 10) (by decide)) c147
  | succ m ih =>
    intro i g hi
    have hlt : i < 10 := by omega
    refine z_iload_n kd_M_rows_144 0 rfl ?_
    refine z_bipush (v := 10) kd_M_rows_145 (by decide +kernel) ?_
    refine z_icmp_ge (tgt := 169) kd_M_rows_147 (by decide) (fun c147 => ?_) (fun c147 => ?_)
    · exact absurd c147 (nI_ge hlt (by decide))
    · refine z_aload_n kd_M_rows_150 1 rfl ?_
      refine z_get kd_M_rows_151 (kf_M_26 _) h54 rfl ?_
      refine z_bipush (v := 11) kd_M_rows_154 (by decide +kernel) ?_
      refine z_iload_n kd_M_rows_156 0 rfl ?_
      refine z_imul kd_M_rows_157 ?_
      refine z_dup2_11 kd_M_rows_158 rfl rfl ?_
      refine z_lald (t0 := 1) kd_M_rows_159 (by assumption) rfl (z_11 hlt) ?_
      refine z_lload_n kd_M_rows_160 2 rfl ?_
      refine z_ladd kd_M_rows_161 ?_
      refine z_last (t0 := 1) kd_M_rows_162 (by assumption) rfl (z_11 hlt) ?_
      refine z_iinc (v := (nI (i + 1))) (lv' := [(3, .int _), (0, .ref (b + 54)), (1, .long _)]) kd_M_rows_163 0 rfl (nI_1 _) (by decide) rfl ?_
      refine z_goto (tgt := 144) kd_M_rows_166 (by decide) ?_
      refine z_eq (zUp_zUp _ _ _ _) rfl rfl rfl ?_
      exact ih (i + 1) _ (by omega)
set_option maxHeartbeats 4000000 in
set_option maxRecDepth 100000 in
theorem e_M_rows {l : Launch} {D : va_G} {tys : List (ClassId × FieldType)} {b N : Nat} {σ : Nat → Option va_E} {cI cJ cZ : ClassId} (ht0 : tys[0]? = some (cI, .int)) (ht1 : tys[1]? = some (cJ, .long)) (ht2 : tys[2]? = some (cZ, .boolean)) {pl : Int64} {th fa ls rm : Value} (h54 : σ 54 = some (.inr (9, [th, .int 0, .int 0, .ref (b + 55), .ref (b + 56), .ref (b + 57), .ref (b + 58), .ref (b + 59), .ref (b + 60), .ref (b + 61), .ref (b + 62), .ref (b + 63), .ref (b + 64), .ref (b + 65), fa, .ref (b + 66), .ref (b + 67), ls, .ref (b + 68), .ref (b + 69), .ref (b + 70), .ref (b + 71), rm, .ref (b + 72), .ref (b + 73)]))) {g60 : Nat → Int64} (h60 : σ 60 = some (.inl (cJ, 100, .inr (.inl g60)))) : zM l D kCl tys kNw b ky_M_rows (kh_M_rows :: zT) 1 60 0 0 [.ref (b + 54), .long pl] N σ (fun oc N' σ' => oc = .returned none ∧ N' = N ∧ ∃ g : Nat → Int64, σ' = zUp σ 60 (.inl (cJ, 100, .inr (.inl g)))) := by
  refine zM.of (by decide +kernel) rfl (Nat.le_of_ble_eq_true rfl) ?_
  refine z_pick (lv' := [(0, .ref (b + 54)), (1, .long pl)]) [0, 1] rfl ?_
  refine z_aload_n kd_M_rows_0 0 rfl ?_
  refine z_callV (a := 54) (As := []) kd_M_rows_1 (kg_M_102 _) h54 kc_M (c_M_clearRows ht1 h54 h60) rfl rfl (Nat.le_of_ble_eq_true rfl) ⟨Nat.le_of_ble_eq_true rfl, Nat.le_of_ble_eq_true rfl⟩ ⟨Nat.le_of_ble_eq_true rfl, Nat.le_of_ble_eq_true rfl⟩ ?_
  rintro _ _ _ ⟨hv, rfl, gc, hgc, rfl⟩
  cases hv
  refine z_eq (st' := []) rfl rfl rfl rfl ?_
  refine z_iconst (v := 0) kd_M_rows_4 (by decide) ?_
  refine z_istore_n (lv' := [(3, .int _), (0, .ref (b + 54)), (1, .long _)]) kd_M_rows_5 (by decide) rfl ?_
  refine z_iload_n kd_M_rows_6 0 rfl ?_
  refine z_aload_n kd_M_rows_7 1 rfl ?_
  refine z_get kd_M_rows_8 (kf_M_80 _) h54 rfl ?_
  refine z_icmp_ge (tgt := 142) kd_M_rows_11 (by decide) (fun c11 => ?_) (fun c11 => absurd c11 (by decide))
  refine z_iconst (v := 0) kd_M_rows_142 (by decide) ?_
  refine z_istore_n (lv' := [(3, .int _), (0, .ref (b + 54)), (1, .long _)]) kd_M_rows_143 (by decide) rfl ?_
  exact l_M_rows ht1 (by exact h54) (fun g => ⟨rfl, rfl, g, rfl⟩) 10 0 gc (by omega)
set_option maxHeartbeats 4000000 in
set_option maxRecDepth 100000 in
theorem e_M_forests {l : Launch} {D : va_G} {tys : List (ClassId × FieldType)} {b N : Nat} {σ : Nat → Option va_E} {cI cJ cZ : ClassId} (ht0 : tys[0]? = some (cI, .int)) (ht1 : tys[1]? = some (cJ, .long)) (ht2 : tys[2]? = some (cZ, .boolean)) {th fa ls rm : Value} (h54 : σ 54 = some (.inr (9, [th, .int 0, .int 0, .ref (b + 55), .ref (b + 56), .ref (b + 57), .ref (b + 58), .ref (b + 59), .ref (b + 60), .ref (b + 61), .ref (b + 62), .ref (b + 63), .ref (b + 64), .ref (b + 65), fa, .ref (b + 66), .ref (b + 67), ls, .ref (b + 68), .ref (b + 69), .ref (b + 70), .ref (b + 71), rm, .ref (b + 72), .ref (b + 73)]))) {g60 : Nat → Int64} (h60 : σ 60 = some (.inl (cJ, 100, .inr (.inl g60)))) {g63 : Nat → Int32} (h63 : σ 63 = some (.inl (cZ, 30, .inl g63))) : zM l D kCl tys kNw b ky_M_forests (kh_M_forests :: zT) 2 100 0 0 [.ref (b + 54)] N σ (zY (some (.long 1)) N) := by
  refine zM.of (by decide +kernel) rfl (Nat.le_of_ble_eq_true rfl) ?_
  refine z_pick (lv' := [(0, .ref (b + 54))]) [0] rfl ?_
  refine z_aload_n kd_M_forests_0 0 rfl ?_
  refine z_iconst (v := 0) kd_M_forests_1 (by decide) ?_
  refine z_putE (fs' := [_, _, _, _, _, _, _, _, _, _, _, _, _, _, _, _, _, _, _, _, _, _, _, _, _]) kd_M_forests_2 (kp_M_69 _) h54 (Nat.le_of_ble_eq_true rfl) rfl rfl rfl ?_
  refine z_aload_n kd_M_forests_5 0 rfl ?_
  refine z_V0 (a := 54) (As := []) kd_M_forests_6 (kg_M_121 _) rfl kc_M (e_M_apartAll rfl) rfl rfl (Nat.le_of_ble_eq_true rfl) ⟨Nat.le_of_ble_eq_true rfl, Nat.le_of_ble_eq_true rfl⟩ ⟨Nat.le_of_ble_eq_true rfl, Nat.le_of_ble_eq_true rfl⟩ ?_
  refine z_aload_n kd_M_forests_9 0 rfl ?_
  refine z_callV (a := 54) (As := []) kd_M_forests_10 (kg_M_124 _) rfl kc_M (c_M_noneOut ht2 rfl h63) rfl rfl (Nat.le_of_ble_eq_true rfl) ⟨Nat.le_of_ble_eq_true rfl, Nat.le_of_ble_eq_true rfl⟩ ⟨Nat.le_of_ble_eq_true rfl, Nat.le_of_ble_eq_true rfl⟩ ?_
  rintro _ _ _ ⟨hv, rfl, gz, hgz, rfl⟩
  cases hv
  refine z_eq (st' := []) rfl rfl rfl rfl ?_
  refine z_aload_n kd_M_forests_13 0 rfl ?_
  refine z_iconst (v := -1) kd_M_forests_14 (by decide) ?_
  refine z_iconst (v := -1) kd_M_forests_15 (by decide) ?_
  refine z_V1 (a := 54) (As := [_, _]) kd_M_forests_16 (kg_M_109 _) rfl kc_M (e_M_number rfl) rfl rfl (Nat.le_of_ble_eq_true rfl) ⟨Nat.le_of_ble_eq_true rfl, Nat.le_of_ble_eq_true rfl⟩ ⟨Nat.le_of_ble_eq_true rfl, Nat.le_of_ble_eq_true rfl⟩ ?_
  refine z_istore_n (lv' := [(1, .int _), (0, .ref (b + 54))]) kd_M_forests_19 (by decide) rfl ?_
  refine z_aload_n kd_M_forests_20 1 rfl ?_
  refine z_lconst (v := 1) kd_M_forests_21 (by decide +kernel) ?_
  refine z_callV (a := 54) (As := [_]) kd_M_forests_22 (kg_M_113 _) rfl kc_M (e_M_rows ht0 ht1 ht2 rfl h60) rfl rfl (Nat.le_of_ble_eq_true rfl) ⟨Nat.le_of_ble_eq_true rfl, Nat.le_of_ble_eq_true rfl⟩ ⟨Nat.le_of_ble_eq_true rfl, Nat.le_of_ble_eq_true rfl⟩ ?_
  rintro _ _ _ ⟨hv, rfl, gr, rfl⟩
  cases hv
  refine z_eq (st' := []) rfl rfl rfl rfl ?_
  refine z_aload_n kd_M_forests_25 1 rfl ?_
  refine z_iload_n kd_M_forests_26 0 rfl ?_
  refine z_V1 (a := 54) (As := [_]) kd_M_forests_27 (kg_M_117 _) rfl kc_M (e_M_determinant rfl) rfl rfl (Nat.le_of_ble_eq_true rfl) ⟨Nat.le_of_ble_eq_true rfl, Nat.le_of_ble_eq_true rfl⟩ ⟨Nat.le_of_ble_eq_true rfl, Nat.le_of_ble_eq_true rfl⟩ ?_
  exact z_lret kd_M_forests_30 rfl (Nat.le_of_ble_eq_true rfl) (Nat.le_of_ble_eq_true rfl) ⟨rfl, rfl⟩
