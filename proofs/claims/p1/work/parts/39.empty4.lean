set_option maxHeartbeats 4000000 in
set_option maxRecDepth 100000 in
theorem l_S_fillPowers32 {l : Launch} {D : va_G} {tys : List (ClassId × FieldType)} {b N : Nat} {σ : Nat → Option va_E} {cJ : ClassId} (ht1 : tys[1]? = some (cJ, .long)) {y : Int64} {R : Room} {Q : Outcome → Nat → (Nat → Option va_E) → Prop} (hQ : ∀ g : Nat → Int64, (∀ j, j < 11 → g j = lpw y j) → Q (.returned none) N (zUp σ 32 (.inl (cJ, 11, .inr (.inl g))))) : ∀ (m i : Nat) (g : Nat → Int64), i + m = 11 → (∀ j, j < i → g j = lpw y j) → Z l D kCl tys (kh_S_fillPowers :: zT) kNw ky_S_fillPowers.cls ky_S_fillPowers.name kb_S_fillPowers 6 none R b (zFi D kCl b 0 0 Q) 0 0 N (zUp σ 32 (.inl (cJ, 11, .inr (.inl g)))) 5 [(5, .int (nI i)), (3, .long (lpw y i)), (0, .ref (b + 32)), (1, .long y)] [] := by
  intro m
  induction m with
  | zero =>
    intro i g hi hg
    obtain rfl : i = 11 := by omega
    refine z_iload kd_S_fillPowers_5 0 rfl ?_
    refine z_aload_n kd_S_fillPowers_7 2 rfl ?_
    refine z_alen (t0 := 1) kd_S_fillPowers_8 (by assumption) rfl rfl ?_
    refine z_icmp_ge (tgt := 27) kd_S_fillPowers_9 (by decide) (fun c9 => ?_) (fun c9 => ?_)
    · exact z_vret kd_S_fillPowers_27 rfl (Nat.le_of_ble_eq_true rfl) (Nat.le_of_ble_eq_true rfl) (hQ g hg)
    · exact absurd (nI_le (Nat.le_refl 11) (by decide)) c9
  | succ m ih =>
    intro i g hi hg
    have hlt : i < 11 := by omega
    refine z_iload kd_S_fillPowers_5 0 rfl ?_
    refine z_aload_n kd_S_fillPowers_7 2 rfl ?_
    refine z_alen (t0 := 1) kd_S_fillPowers_8 (by assumption) rfl rfl ?_
    refine z_icmp_ge (tgt := 27) kd_S_fillPowers_9 (by decide) (fun c9 => ?_) (fun c9 => ?_)
    · exact absurd c9 (nI_ge (b := 11) hlt (by decide))
    · refine z_aload_n kd_S_fillPowers_12 2 rfl ?_
      refine z_iload kd_S_fillPowers_13 0 rfl ?_
      refine z_lload_n kd_S_fillPowers_15 1 rfl ?_
      refine z_last (t0 := 1) kd_S_fillPowers_16 (by assumption) rfl (vp_in_nI hlt (by decide)) ?_
      refine z_lload_n kd_S_fillPowers_17 1 rfl ?_
      refine z_lload_n kd_S_fillPowers_18 3 rfl ?_
      refine z_lmul kd_S_fillPowers_19 ?_
      refine z_lstore_n (lv' := [(3, .long _), (5, .int _), (0, .ref (b + 32)), (1, .long _)]) kd_S_fillPowers_20 (by decide) rfl ?_
      refine z_iinc (v := (nI (i + 1))) (lv' := [(5, .int _), (3, .long _), (0, .ref (b + 32)), (1, .long _)]) kd_S_fillPowers_21 1 rfl (nI_1 _) (by decide) rfl ?_
      refine z_goto (tgt := 5) kd_S_fillPowers_24 (by decide) ?_
      refine z_eq (zUp_zUp _ _ _ _) rfl rfl rfl ?_
      refine ih (i + 1) _ (by omega) (fun j hj => ?_)
      rw [nI_clamp (by omega)]
      by_cases e : j = i
      · subst e; simp [vp_updL]
      · simp [vp_updL, e]; exact hg j (by omega)
set_option maxHeartbeats 4000000 in
set_option maxRecDepth 100000 in
theorem c_S_fillPowers32 {l : Launch} {D : va_G} {tys : List (ClassId × FieldType)} {b N : Nat} {σ : Nat → Option va_E} {cJ : ClassId} (ht1 : tys[1]? = some (cJ, .long)) {y : Int64} {g0 : Nat → Int64} (hc : σ 32 = some (.inl (cJ, 11, .inr (.inl g0)))) : zM l D kCl tys kNw b ky_S_fillPowers (kh_S_fillPowers :: zT) 0 0 0 0 [.ref (b + 32), .long y] N σ (fun oc N' σ' => oc = .returned none ∧ N' = N ∧ ∃ g : Nat → Int64, (∀ j, j < 11 → g j = lpw y j) ∧ σ' = zUp σ 32 (.inl (cJ, 11, .inr (.inl g)))) := by
  refine zM.of (by decide +kernel) rfl (Nat.le_of_ble_eq_true rfl) ?_
  refine z_pick (lv' := [(0, .ref (b + 32)), (1, .long y)]) [0, 1] rfl ?_
  refine z_lconst (v := 1) kd_S_fillPowers_0 (by decide +kernel) ?_
  refine z_lstore_n (lv' := [(3, .long _), (0, .ref (b + 32)), (1, .long _)]) kd_S_fillPowers_1 (by decide) rfl ?_
  refine z_iconst (v := 0) kd_S_fillPowers_2 (by decide) ?_
  refine z_istore (lv' := [(5, .int _), (3, .long _), (0, .ref (b + 32)), (1, .long _)]) kd_S_fillPowers_3 (by decide) rfl ?_
  refine z_eq (zUp_id hc).symm rfl rfl rfl ?_
  refine l_S_fillPowers32 ht1 (fun g hg => ⟨rfl, rfl, g, hg, rfl⟩) 11 0 g0 (by omega) (fun j hj => absurd hj (by omega))
set_option maxHeartbeats 4000000 in
set_option maxRecDepth 100000 in
theorem l_S_fillPowers33 {l : Launch} {D : va_G} {tys : List (ClassId × FieldType)} {b N : Nat} {σ : Nat → Option va_E} {cJ : ClassId} (ht1 : tys[1]? = some (cJ, .long)) {y : Int64} {R : Room} {Q : Outcome → Nat → (Nat → Option va_E) → Prop} (hQ : ∀ g : Nat → Int64, (∀ j, j < 15 → g j = lpw y j) → Q (.returned none) N (zUp σ 33 (.inl (cJ, 15, .inr (.inl g))))) : ∀ (m i : Nat) (g : Nat → Int64), i + m = 15 → (∀ j, j < i → g j = lpw y j) → Z l D kCl tys (kh_S_fillPowers :: zT) kNw ky_S_fillPowers.cls ky_S_fillPowers.name kb_S_fillPowers 6 none R b (zFi D kCl b 0 0 Q) 0 0 N (zUp σ 33 (.inl (cJ, 15, .inr (.inl g)))) 5 [(5, .int (nI i)), (3, .long (lpw y i)), (0, .ref (b + 33)), (1, .long y)] [] := by
  intro m
  induction m with
  | zero =>
    intro i g hi hg
    obtain rfl : i = 15 := by omega
    refine z_iload kd_S_fillPowers_5 0 rfl ?_
    refine z_aload_n kd_S_fillPowers_7 2 rfl ?_
    refine z_alen (t0 := 1) kd_S_fillPowers_8 (by assumption) rfl rfl ?_
    refine z_icmp_ge (tgt := 27) kd_S_fillPowers_9 (by decide) (fun c9 => ?_) (fun c9 => ?_)
    · exact z_vret kd_S_fillPowers_27 rfl (Nat.le_of_ble_eq_true rfl) (Nat.le_of_ble_eq_true rfl) (hQ g hg)
    · exact absurd (nI_le (Nat.le_refl 15) (by decide)) c9
  | succ m ih =>
    intro i g hi hg
    have hlt : i < 15 := by omega
    refine z_iload kd_S_fillPowers_5 0 rfl ?_
    refine z_aload_n kd_S_fillPowers_7 2 rfl ?_
    refine z_alen (t0 := 1) kd_S_fillPowers_8 (by assumption) rfl rfl ?_
    refine z_icmp_ge (tgt := 27) kd_S_fillPowers_9 (by decide) (fun c9 => ?_) (fun c9 => ?_)
    · exact absurd c9 (nI_ge (b := 15) hlt (by decide))
    · refine z_aload_n kd_S_fillPowers_12 2 rfl ?_
      refine z_iload kd_S_fillPowers_13 0 rfl ?_
      refine z_lload_n kd_S_fillPowers_15 1 rfl ?_
      refine z_last (t0 := 1) kd_S_fillPowers_16 (by assumption) rfl (vp_in_nI hlt (by decide)) ?_
      refine z_lload_n kd_S_fillPowers_17 1 rfl ?_
      refine z_lload_n kd_S_fillPowers_18 3 rfl ?_
      refine z_lmul kd_S_fillPowers_19 ?_
      refine z_lstore_n (lv' := [(3, .long _), (5, .int _), (0, .ref (b + 33)), (1, .long _)]) kd_S_fillPowers_20 (by decide) rfl ?_
      refine z_iinc (v := (nI (i + 1))) (lv' := [(5, .int _), (3, .long _), (0, .ref (b + 33)), (1, .long _)]) kd_S_fillPowers_21 1 rfl (nI_1 _) (by decide) rfl ?_
      refine z_goto (tgt := 5) kd_S_fillPowers_24 (by decide) ?_
      refine z_eq (zUp_zUp _ _ _ _) rfl rfl rfl ?_
      refine ih (i + 1) _ (by omega) (fun j hj => ?_)
      rw [nI_clamp (by omega)]
      by_cases e : j = i
      · subst e; simp [vp_updL]
      · simp [vp_updL, e]; exact hg j (by omega)
set_option maxHeartbeats 4000000 in
set_option maxRecDepth 100000 in
theorem c_S_fillPowers33 {l : Launch} {D : va_G} {tys : List (ClassId × FieldType)} {b N : Nat} {σ : Nat → Option va_E} {cJ : ClassId} (ht1 : tys[1]? = some (cJ, .long)) {y : Int64} {g0 : Nat → Int64} (hc : σ 33 = some (.inl (cJ, 15, .inr (.inl g0)))) : zM l D kCl tys kNw b ky_S_fillPowers (kh_S_fillPowers :: zT) 0 0 0 0 [.ref (b + 33), .long y] N σ (fun oc N' σ' => oc = .returned none ∧ N' = N ∧ ∃ g : Nat → Int64, (∀ j, j < 15 → g j = lpw y j) ∧ σ' = zUp σ 33 (.inl (cJ, 15, .inr (.inl g)))) := by
  refine zM.of (by decide +kernel) rfl (Nat.le_of_ble_eq_true rfl) ?_
  refine z_pick (lv' := [(0, .ref (b + 33)), (1, .long y)]) [0, 1] rfl ?_
  refine z_lconst (v := 1) kd_S_fillPowers_0 (by decide +kernel) ?_
  refine z_lstore_n (lv' := [(3, .long _), (0, .ref (b + 33)), (1, .long _)]) kd_S_fillPowers_1 (by decide) rfl ?_
  refine z_iconst (v := 0) kd_S_fillPowers_2 (by decide) ?_
  refine z_istore (lv' := [(5, .int _), (3, .long _), (0, .ref (b + 33)), (1, .long _)]) kd_S_fillPowers_3 (by decide) rfl ?_
  refine z_eq (zUp_id hc).symm rfl rfl rfl ?_
  refine l_S_fillPowers33 ht1 (fun g hg => ⟨rfl, rfl, g, hg, rfl⟩) 15 0 g0 (by omega) (fun j hj => absurd hj (by omega))
set_option maxHeartbeats 4000000 in
set_option maxRecDepth 100000 in
theorem e_S_sumFrom {l : Launch} {D : va_G} {tys : List (ClassId × FieldType)} {b N : Nat} {σ : Nat → Option va_E} {cJ cP : ClassId} (ht1 : tys[1]? = some (cJ, .long)) (ht4 : tys[4]? = some (cP, .object "TreeCounts$Parts")) {j31 : Nat → Option Nat} {s34 : Value} {g33 : Nat → Int64} (hg0 : g33 0 = 1) (h1 : σ 1 = some (.inr (1, [.int 0, .int 0, .ref (b + 2), .ref (b + 3), .ref (b + 4)]))) (h30 : σ 30 = some (.inr (8, [.ref (b + 1), .ref (b + 5), .ref (b + 31), .ref (b + 32), .ref (b + 33), .int 0]))) (h31 : σ 31 = some (.inl (cP, 10, .inr (.inr (.inr (.inr j31)))))) (hj : j31 0 = some (b + 34)) (h33 : σ 33 = some (.inl (cJ, 15, .inr (.inl g33)))) (h34 : σ 34 = some (.inr (2, [s34, .int 0, .ref (b + 35)]))) : zM l D kCl tys kNw b ky_S_sumFrom (kh_S_sumFrom :: zT) 0 0 0 0 [.ref (b + 30), .int 0, .int 0] N σ (zD (some (.long 1)) N σ) := by
  refine zM.of (by decide +kernel) rfl (Nat.le_of_ble_eq_true rfl) ?_
  refine z_pick (lv' := [(0, .ref (b + 30)), (1, .int 0), (2, .int 0)]) [0, 1, 2] rfl ?_
  refine z_aload_n kd_S_sumFrom_0 0 rfl ?_
  refine z_get kd_S_sumFrom_1 (kf_S_24 _) h30 rfl ?_
  refine z_astore_n (lv' := [(3, .ref (b + 1)), (0, .ref (b + 30)), (1, .int _), (2, .int _)]) kd_S_sumFrom_4 (by decide) rfl ?_
  refine z_aload_n kd_S_sumFrom_5 1 rfl ?_
  refine z_get kd_S_sumFrom_6 (kf_S_11 _) h30 rfl ?_
  refine z_iload_n kd_S_sumFrom_9 3 rfl ?_
  refine z_aaldR (t0 := 4) (a2 := 34) kd_S_sumFrom_10 ht4 h31 (show vp_in (nI 0) 10 from vp_in_nI (by decide) (by decide)) hj ?_
  refine z_astore (lv' := [(4, .ref (b + 34)), (3, .ref (b + 1)), (0, .ref (b + 30)), (1, .int _), (2, .int _)]) kd_S_sumFrom_11 (by decide) rfl ?_
  refine z_aload kd_S_sumFrom_13 0 rfl ?_
  refine z_get kd_S_sumFrom_15 (kf_S_43 _) h34 rfl ?_
  refine z_aload_n kd_S_sumFrom_18 2 rfl ?_
  refine z_get kd_S_sumFrom_19 (kf_S_47 _) h30 rfl ?_
  refine z_isub kd_S_sumFrom_22 ?_
  refine z_topi (show _ = (0 : Int32) from by decide) ?_
  refine z_istore (lv' := [(5, .int _), (4, .ref (b + 34)), (3, .ref (b + 1)), (0, .ref (b + 30)), (1, .int _), (2, .int _)]) kd_S_sumFrom_23 (by decide) rfl ?_
  refine z_iload kd_S_sumFrom_25 0 rfl ?_
  refine z_if_ne (tgt := 42) kd_S_sumFrom_27 (by decide) (fun c27 => absurd c27 (by decide)) (fun c27 => ?_)
  refine z_aload_n kd_S_sumFrom_30 3 rfl ?_
  refine z_get kd_S_sumFrom_31 (kf_S_21 _) h30 rfl ?_
  refine z_aload_n kd_S_sumFrom_34 2 rfl ?_
  refine z_get kd_S_sumFrom_35 (kf_S_61 _) h1 rfl ?_
  refine z_iload_n kd_S_sumFrom_38 4 rfl ?_
  refine z_isub kd_S_sumFrom_39 ?_
  refine z_topi (show _ = (0 : Int32) from by decide) ?_
  refine z_lald (t0 := 1) kd_S_sumFrom_40 (by assumption) h33 (show vp_in (nI 0) 15 from vp_in_nI (by decide) (by decide)) ?_
  exact z_lret kd_S_sumFrom_41 rfl (Nat.le_of_ble_eq_true rfl) (Nat.le_of_ble_eq_true rfl) ⟨by show Outcome.returned (some (Value.long (g33 0))) = _; rw [hg0], rfl, rfl⟩
set_option maxHeartbeats 4000000 in
set_option maxRecDepth 100000 in
theorem e_S_sumAt {l : Launch} {D : va_G} {tys : List (ClassId × FieldType)} {b N : Nat} {σ : Nat → Option va_E} {cJ cP : ClassId} (ht1 : tys[1]? = some (cJ, .long)) (ht4 : tys[4]? = some (cP, .object "TreeCounts$Parts")) {j31 : Nat → Option Nat} {x y : Int64} {f30 s34 c34 : Value} {s5 c5 : Value} {g0 g1 : Nat → Int64} (h1 : σ 1 = some (.inr (1, [.int 0, .int 0, .ref (b + 2), .ref (b + 3), .ref (b + 4)]))) (h5 : σ 5 = some (.inr (2, [s5, c5, .ref (b + 6)]))) (h30 : σ 30 = some (.inr (8, [.ref (b + 1), .ref (b + 5), .ref (b + 31), .ref (b + 32), .ref (b + 33), f30]))) (h31 : σ 31 = some (.inl (cP, 10, .inr (.inr (.inr (.inr j31)))))) (hj : j31 0 = some (b + 34)) (h32 : σ 32 = some (.inl (cJ, 11, .inr (.inl g0)))) (h33 : σ 33 = some (.inl (cJ, 15, .inr (.inl g1)))) (h34 : σ 34 = some (.inr (2, [s34, c34, .ref (b + 35)]))) : zM l D kCl tys kNw b ky_S_sumAt (kh_S_sumAt :: zT) 3 100 0 0 [.ref (b + 30), .long x, .long y] N σ (zX (some (.long 1)) N σ) := by
  refine zM.of (by decide +kernel) rfl (Nat.le_of_ble_eq_true rfl) ?_
  refine z_pick (lv' := [(0, .ref (b + 30)), (1, .long x), (3, .long y)]) [0, 1, 2] rfl ?_
  refine z_aload_n kd_S_sumAt_0 0 rfl ?_
  refine z_get kd_S_sumAt_1 (kf_S_17 _) h30 rfl ?_
  refine z_lload_n kd_S_sumAt_4 1 rfl ?_
  refine z_lconst (v := 1) kd_S_sumAt_5 (by decide +kernel) ?_
  refine z_lsub kd_S_sumAt_6 ?_
  refine z_callS (As := [_, _]) kd_S_sumAt_7 (kg_S_33 _) (c_S_fillPowers32 ht1 h32) rfl rfl (Nat.le_of_ble_eq_true rfl) ⟨Nat.le_of_ble_eq_true rfl, Nat.le_of_ble_eq_true rfl⟩ ⟨Nat.le_of_ble_eq_true rfl, Nat.le_of_ble_eq_true rfl⟩ ?_
  rintro _ _ _ ⟨hv, rfl, g32, hg32, rfl⟩
  cases hv
  refine z_eq (st' := []) rfl rfl rfl rfl ?_
  refine z_aload_n kd_S_sumAt_10 0 rfl ?_
  refine z_get kd_S_sumAt_11 (kf_S_21 _) h30 rfl ?_
  refine z_lload_n kd_S_sumAt_14 2 rfl ?_
  refine z_callS (As := [_, _]) kd_S_sumAt_15 (kg_S_33 _) (c_S_fillPowers33 ht1 h33) rfl rfl (Nat.le_of_ble_eq_true rfl) ⟨Nat.le_of_ble_eq_true rfl, Nat.le_of_ble_eq_true rfl⟩ ⟨Nat.le_of_ble_eq_true rfl, Nat.le_of_ble_eq_true rfl⟩ ?_
  rintro _ _ _ ⟨hv, rfl, g33, hg33, rfl⟩
  cases hv
  refine z_eq (st' := []) rfl rfl rfl rfl ?_
  refine z_aload_n kd_S_sumAt_18 0 rfl ?_
  refine z_get kd_S_sumAt_19 (kf_S_24 _) h30 rfl ?_
  refine z_aload_n kd_S_sumAt_22 0 rfl ?_
  refine z_get kd_S_sumAt_23 (kf_S_28 _) h30 rfl ?_
  refine z_V1 (a := 1) (As := [_]) kd_S_sumAt_26 (kg_S_37 _) h1 kc_N (e_N_firstTrees h1 h5) rfl rfl (Nat.le_of_ble_eq_true rfl) ⟨Nat.le_of_ble_eq_true rfl, Nat.le_of_ble_eq_true rfl⟩ ⟨Nat.le_of_ble_eq_true rfl, Nat.le_of_ble_eq_true rfl⟩ ?_
  refine z_pop kd_S_sumAt_29 rfl ?_
  refine z_aload_n kd_S_sumAt_30 0 rfl ?_
  refine z_aload_n kd_S_sumAt_31 0 rfl ?_
  refine z_get kd_S_sumAt_32 (kf_S_28 _) h30 rfl ?_
  refine z_get kd_S_sumAt_35 (kf_S_43 _) rfl rfl ?_
  refine z_putE (fs' := [_, _, _, _, _, _]) kd_S_sumAt_38 (kp_S_47 _) h30 (Nat.le_of_ble_eq_true rfl) rfl rfl rfl ?_
  refine z_aload_n kd_S_sumAt_41 0 rfl ?_
  refine z_get kd_S_sumAt_42 (kf_S_11 _) rfl rfl ?_
  refine z_iconst (v := 0) kd_S_sumAt_45 (by decide) ?_
  refine z_aaldR (t0 := 4) (a2 := 34) kd_S_sumAt_46 ht4 h31 (show vp_in (nI 0) 10 from vp_in_nI (by decide) (by decide)) hj ?_
  refine z_aload_n kd_S_sumAt_47 0 rfl ?_
  refine z_get kd_S_sumAt_48 (kf_S_24 _) rfl rfl ?_
  refine z_get kd_S_sumAt_51 (kf_S_50 _) h1 rfl ?_
  refine z_V0 (a := 34) (As := [_]) kd_S_sumAt_54 (kg_S_53 _) h34 kc_P (e_P_split (a := 34) h34) rfl rfl (Nat.le_of_ble_eq_true rfl) ⟨Nat.le_of_ble_eq_true rfl, Nat.le_of_ble_eq_true rfl⟩ ⟨Nat.le_of_ble_eq_true rfl, Nat.le_of_ble_eq_true rfl⟩ ?_
  refine z_aload_n kd_S_sumAt_57 0 rfl ?_
  refine z_iconst (v := 0) kd_S_sumAt_58 (by decide) ?_
  refine z_iconst (v := 0) kd_S_sumAt_59 (by decide) ?_
  refine z_S1 (As := [_, _, _]) kd_S_sumAt_60 (kg_S_57 _) (e_S_sumFrom ht1 ht4 (hg33 0 (by decide)) h1 rfl h31 hj rfl rfl) rfl rfl (Nat.le_of_ble_eq_true rfl) ⟨Nat.le_of_ble_eq_true rfl, Nat.le_of_ble_eq_true rfl⟩ ⟨Nat.le_of_ble_eq_true rfl, Nat.le_of_ble_eq_true rfl⟩ ?_
  exact z_lret kd_S_sumAt_63 rfl (Nat.le_of_ble_eq_true rfl) (Nat.le_of_ble_eq_true rfl) ⟨rfl, rfl, (fun j hj => by first | rfl | (repeat rw [zUp_n (by omega)]))⟩
set_option maxHeartbeats 4000000 in
set_option maxRecDepth 100000 in
theorem e_C_point {l : Launch} {D : va_G} {tys : List (ClassId × FieldType)} {b N : Nat} {σ : Nat → Option va_E} {cJ cP : ClassId} (ht1 : tys[1]? = some (cJ, .long)) (ht4 : tys[4]? = some (cP, .object "TreeCounts$Parts")) {j31 : Nat → Option Nat} {x y : Int64} {f30 s34 c34 : Value} {s5 c5 : Value} {g0 g1 : Nat → Int64} (h1 : σ 1 = some (.inr (1, [.int 0, .int 0, .ref (b + 2), .ref (b + 3), .ref (b + 4)]))) (h5 : σ 5 = some (.inr (2, [s5, c5, .ref (b + 6)]))) (h30 : σ 30 = some (.inr (8, [.ref (b + 1), .ref (b + 5), .ref (b + 31), .ref (b + 32), .ref (b + 33), f30]))) (h31 : σ 31 = some (.inl (cP, 10, .inr (.inr (.inr (.inr j31)))))) (hj : j31 0 = some (b + 34)) (h32 : σ 32 = some (.inl (cJ, 11, .inr (.inl g0)))) (h33 : σ 33 = some (.inl (cJ, 15, .inr (.inl g1)))) (h34 : σ 34 = some (.inr (2, [s34, c34, .ref (b + 35)]))) (h0 : σ 0 = some (.inr (0, [.ref (b + 1), .ref (b + 19), .ref (b + 20), .ref (b + 23), .ref (b + 25), .ref (b + 30)]))) : zM l D kCl tys kNw b ky_C_point (kh_C_point :: zT) 4 130 0 0 [.ref (b + 0), .long x, .long y] N σ (zX (some (.long 1)) N σ) := by
  refine zM.of (by decide +kernel) rfl (Nat.le_of_ble_eq_true rfl) ?_
  refine z_pick (lv' := [(0, .ref (b + 0)), (1, .long x), (3, .long y)]) [0, 1, 2] rfl ?_
  refine z_aload_n kd_C_point_0 0 rfl ?_
  refine z_get kd_C_point_1 (kf_C_10 _) h0 rfl ?_
  refine z_get kd_C_point_4 (kf_C_76 _) h1 rfl ?_
  refine z_bipush (v := 14) kd_C_point_7 (by decide +kernel) ?_
  refine z_icmp_le (tgt := 22) kd_C_point_9 (by decide) (fun c9 => ?_) (fun c9 => absurd c9 (by decide))
  refine z_aload_n kd_C_point_22 0 rfl ?_
  refine z_get kd_C_point_23 (kf_C_61 _) h0 rfl ?_
  refine z_lload_n kd_C_point_26 1 rfl ?_
  refine z_lload_n kd_C_point_27 2 rfl ?_
  refine z_callV (a := 30) (As := [_, _]) kd_C_point_28 (kg_C_175 _) h30 kc_S (e_S_sumAt ht1 ht4 h1 h5 h30 h31 hj h32 h33 h34) rfl rfl (Nat.le_of_ble_eq_true rfl) ⟨Nat.le_of_ble_eq_true rfl, Nat.le_of_ble_eq_true rfl⟩ ⟨Nat.le_of_ble_eq_true rfl, Nat.le_of_ble_eq_true rfl⟩ ?_
  rintro _ _ σ' ⟨hv, rfl, hfr⟩
  cases hv
  refine z_eq (st' := [.long 1]) rfl rfl rfl rfl ?_
  exact z_lret kd_C_point_31 rfl (Nat.le_of_ble_eq_true rfl) (Nat.le_of_ble_eq_true rfl) ⟨rfl, rfl, hfr⟩
set_option maxHeartbeats 4000000 in
set_option maxRecDepth 100000 in
theorem e_C_told0 {l : Launch} {D : va_G} {tys : List (ClassId × FieldType)} {b N : Nat} {σ : Nat → Option va_E} {s5 c5 : Value} {v19 w19 : Value} {v20 : Value} {a23 b23 c23 d23 e23 : Value} (h0 : σ 0 = some (.inr (0, [.ref (b + 1), .ref (b + 19), .ref (b + 20), .ref (b + 23), .ref (b + 25), .ref (b + 30)]))) (h1 : σ 1 = some (.inr (1, [.int 0, .int 0, .ref (b + 2), .ref (b + 3), .ref (b + 4)]))) (h5 : σ 5 = some (.inr (2, [s5, c5, .ref (b + 6)]))) (h19 : σ 19 = some (.inr (4, [.ref (b + 1), .ref (b + 5), .ref (b + 7), v19, w19]))) (h20 : σ 20 = some (.inr (5, [v20, .ref (b + 21), .ref (b + 22), .ref (b + 1), .ref (b + 5)]))) (h23 : σ 23 = some (.inr (6, [a23, .ref (b + 24), .ref (b + 1), .ref (b + 19), .ref (b + 7), b23, c23, d23, e23]))) : zM l D kCl tys kNw b ky_C_told (kh_C_told :: zT) 3 110 0 0 [.ref (b + 0), .int 0] N σ (zX (some (.int 0)) N σ) := by
  refine zM.of (by decide +kernel) rfl (Nat.le_of_ble_eq_true rfl) ?_
  refine z_pick (lv' := [(0, .ref (b + 0)), (1, .int 0)]) [0, 1] rfl ?_
  refine z_iload_n kd_C_told_0 1 rfl ?_
  refine z_tableIn (off := 39) (tgt := 40) kd_C_told_1 (by decide) (by decide) (by decide +kernel) (by decide) ?_
  refine z_aload_n kd_C_told_40 0 rfl ?_
  refine z_get kd_C_told_41 (kf_C_10 _) h0 rfl ?_
  refine z_get kd_C_told_44 (kf_C_65 _) h1 rfl ?_
  exact z_iret kd_C_told_47 rfl (Nat.le_of_ble_eq_true rfl) (Nat.le_of_ble_eq_true rfl) ⟨rfl, rfl, (fun j hj => by first | rfl | (repeat rw [zUp_n (by omega)]))⟩
set_option maxHeartbeats 4000000 in
set_option maxRecDepth 100000 in
theorem e_C_told1 {l : Launch} {D : va_G} {tys : List (ClassId × FieldType)} {b N : Nat} {σ : Nat → Option va_E} {s5 c5 : Value} {v19 w19 : Value} {v20 : Value} {a23 b23 c23 d23 e23 : Value} (h0 : σ 0 = some (.inr (0, [.ref (b + 1), .ref (b + 19), .ref (b + 20), .ref (b + 23), .ref (b + 25), .ref (b + 30)]))) (h1 : σ 1 = some (.inr (1, [.int 0, .int 0, .ref (b + 2), .ref (b + 3), .ref (b + 4)]))) (h5 : σ 5 = some (.inr (2, [s5, c5, .ref (b + 6)]))) (h19 : σ 19 = some (.inr (4, [.ref (b + 1), .ref (b + 5), .ref (b + 7), v19, w19]))) (h20 : σ 20 = some (.inr (5, [v20, .ref (b + 21), .ref (b + 22), .ref (b + 1), .ref (b + 5)]))) (h23 : σ 23 = some (.inr (6, [a23, .ref (b + 24), .ref (b + 1), .ref (b + 19), .ref (b + 7), b23, c23, d23, e23]))) : zM l D kCl tys kNw b ky_C_told (kh_C_told :: zT) 3 110 0 0 [.ref (b + 0), .int 1] N σ (zX (some (.int 0)) N σ) := by
  refine zM.of (by decide +kernel) rfl (Nat.le_of_ble_eq_true rfl) ?_
  refine z_pick (lv' := [(0, .ref (b + 0)), (1, .int 1)]) [0, 1] rfl ?_
  refine z_iload_n kd_C_told_0 1 rfl ?_
  refine z_tableIn (off := 47) (tgt := 48) kd_C_told_1 (by decide) (by decide) (by decide +kernel) (by decide) ?_
  refine z_aload_n kd_C_told_48 0 rfl ?_
  refine z_get kd_C_told_49 (kf_C_10 _) h0 rfl ?_
  refine z_get kd_C_told_52 (kf_C_76 _) h1 rfl ?_
  exact z_iret kd_C_told_55 rfl (Nat.le_of_ble_eq_true rfl) (Nat.le_of_ble_eq_true rfl) ⟨rfl, rfl, (fun j hj => by first | rfl | (repeat rw [zUp_n (by omega)]))⟩
set_option maxHeartbeats 4000000 in
set_option maxRecDepth 100000 in
theorem e_C_told2 {l : Launch} {D : va_G} {tys : List (ClassId × FieldType)} {b N : Nat} {σ : Nat → Option va_E} {s5 c5 : Value} {v19 w19 : Value} {v20 : Value} {a23 b23 c23 d23 e23 : Value} (h0 : σ 0 = some (.inr (0, [.ref (b + 1), .ref (b + 19), .ref (b + 20), .ref (b + 23), .ref (b + 25), .ref (b + 30)]))) (h1 : σ 1 = some (.inr (1, [.int 0, .int 0, .ref (b + 2), .ref (b + 3), .ref (b + 4)]))) (h5 : σ 5 = some (.inr (2, [s5, c5, .ref (b + 6)]))) (h19 : σ 19 = some (.inr (4, [.ref (b + 1), .ref (b + 5), .ref (b + 7), v19, w19]))) (h20 : σ 20 = some (.inr (5, [v20, .ref (b + 21), .ref (b + 22), .ref (b + 1), .ref (b + 5)]))) (h23 : σ 23 = some (.inr (6, [a23, .ref (b + 24), .ref (b + 1), .ref (b + 19), .ref (b + 7), b23, c23, d23, e23]))) : zM l D kCl tys kNw b ky_C_told (kh_C_told :: zT) 3 110 0 0 [.ref (b + 0), .int 2] N σ (zX (some (.int 0)) N σ) := by
  refine zM.of (by decide +kernel) rfl (Nat.le_of_ble_eq_true rfl) ?_
  refine z_pick (lv' := [(0, .ref (b + 0)), (1, .int 2)]) [0, 1] rfl ?_
  refine z_iload_n kd_C_told_0 1 rfl ?_
  refine z_tableIn (off := 55) (tgt := 56) kd_C_told_1 (by decide) (by decide) (by decide +kernel) (by decide) ?_
  refine z_aload_n kd_C_told_56 0 rfl ?_
  refine z_get kd_C_told_57 (kf_C_36 _) h0 rfl ?_
  refine z_V1 (a := 20) (As := []) kd_C_told_60 (kg_C_155 _) h20 kc_R (e_R_partsOfNet h1 h5 h20) rfl rfl (Nat.le_of_ble_eq_true rfl) ⟨Nat.le_of_ble_eq_true rfl, Nat.le_of_ble_eq_true rfl⟩ ⟨Nat.le_of_ble_eq_true rfl, Nat.le_of_ble_eq_true rfl⟩ ?_
  exact z_iret kd_C_told_63 rfl (Nat.le_of_ble_eq_true rfl) (Nat.le_of_ble_eq_true rfl) ⟨rfl, rfl, (fun j hj => by first | rfl | (repeat rw [zUp_n (by omega)]))⟩
set_option maxHeartbeats 4000000 in
set_option maxRecDepth 100000 in
theorem e_C_told3 {l : Launch} {D : va_G} {tys : List (ClassId × FieldType)} {b N : Nat} {σ : Nat → Option va_E} {s5 c5 : Value} {v19 w19 : Value} {v20 : Value} {a23 b23 c23 d23 e23 : Value} (h0 : σ 0 = some (.inr (0, [.ref (b + 1), .ref (b + 19), .ref (b + 20), .ref (b + 23), .ref (b + 25), .ref (b + 30)]))) (h1 : σ 1 = some (.inr (1, [.int 0, .int 0, .ref (b + 2), .ref (b + 3), .ref (b + 4)]))) (h5 : σ 5 = some (.inr (2, [s5, c5, .ref (b + 6)]))) (h19 : σ 19 = some (.inr (4, [.ref (b + 1), .ref (b + 5), .ref (b + 7), v19, w19]))) (h20 : σ 20 = some (.inr (5, [v20, .ref (b + 21), .ref (b + 22), .ref (b + 1), .ref (b + 5)]))) (h23 : σ 23 = some (.inr (6, [a23, .ref (b + 24), .ref (b + 1), .ref (b + 19), .ref (b + 7), b23, c23, d23, e23]))) : zM l D kCl tys kNw b ky_C_told (kh_C_told :: zT) 3 110 0 0 [.ref (b + 0), .int 3] N σ (zX (some (.int 0)) N σ) := by
  refine zM.of (by decide +kernel) rfl (Nat.le_of_ble_eq_true rfl) ?_
  refine z_pick (lv' := [(0, .ref (b + 0)), (1, .int 3)]) [0, 1] rfl ?_
  refine z_iload_n kd_C_told_0 1 rfl ?_
  refine z_tableIn (off := 63) (tgt := 64) kd_C_told_1 (by decide) (by decide) (by decide +kernel) (by decide) ?_
  refine z_aload_n kd_C_told_64 0 rfl ?_
  refine z_get kd_C_told_65 (kf_C_36 _) h0 rfl ?_
  refine z_V1 (a := 20) (As := []) kd_C_told_68 (kg_C_178 _) h20 kc_R (e_R_count h1 h5 h20) rfl rfl (Nat.le_of_ble_eq_true rfl) ⟨Nat.le_of_ble_eq_true rfl, Nat.le_of_ble_eq_true rfl⟩ ⟨Nat.le_of_ble_eq_true rfl, Nat.le_of_ble_eq_true rfl⟩ ?_
  exact z_iret kd_C_told_71 rfl (Nat.le_of_ble_eq_true rfl) (Nat.le_of_ble_eq_true rfl) ⟨rfl, rfl, (fun j hj => by first | rfl | (repeat rw [zUp_n (by omega)]))⟩
set_option maxHeartbeats 4000000 in
set_option maxRecDepth 100000 in
theorem e_C_told4 {l : Launch} {D : va_G} {tys : List (ClassId × FieldType)} {b N : Nat} {σ : Nat → Option va_E} {s5 c5 : Value} {v19 w19 : Value} {v20 : Value} {a23 b23 c23 d23 e23 : Value} (h0 : σ 0 = some (.inr (0, [.ref (b + 1), .ref (b + 19), .ref (b + 20), .ref (b + 23), .ref (b + 25), .ref (b + 30)]))) (h1 : σ 1 = some (.inr (1, [.int 0, .int 0, .ref (b + 2), .ref (b + 3), .ref (b + 4)]))) (h5 : σ 5 = some (.inr (2, [s5, c5, .ref (b + 6)]))) (h19 : σ 19 = some (.inr (4, [.ref (b + 1), .ref (b + 5), .ref (b + 7), v19, w19]))) (h20 : σ 20 = some (.inr (5, [v20, .ref (b + 21), .ref (b + 22), .ref (b + 1), .ref (b + 5)]))) (h23 : σ 23 = some (.inr (6, [a23, .ref (b + 24), .ref (b + 1), .ref (b + 19), .ref (b + 7), b23, c23, d23, e23]))) : zM l D kCl tys kNw b ky_C_told (kh_C_told :: zT) 3 110 0 0 [.ref (b + 0), .int 4] N σ (zX (some (.int 0)) N σ) := by
  refine zM.of (by decide +kernel) rfl (Nat.le_of_ble_eq_true rfl) ?_
  refine z_pick (lv' := [(0, .ref (b + 0)), (1, .int 4)]) [0, 1] rfl ?_
  refine z_iload_n kd_C_told_0 1 rfl ?_
  refine z_tableIn (off := 71) (tgt := 72) kd_C_told_1 (by decide) (by decide) (by decide +kernel) (by decide) ?_
  refine z_aload_n kd_C_told_72 0 rfl ?_
  refine z_get kd_C_told_73 (kf_C_36 _) h0 rfl ?_
  refine z_iconst (v := 0) kd_C_told_76 (by decide) ?_
  refine z_V0 (a := 20) (As := [_]) kd_C_told_77 (kg_C_132 _) h20 kc_R (e_R_lay h1 h5 h20) rfl rfl (Nat.le_of_ble_eq_true rfl) ⟨Nat.le_of_ble_eq_true rfl, Nat.le_of_ble_eq_true rfl⟩ ⟨Nat.le_of_ble_eq_true rfl, Nat.le_of_ble_eq_true rfl⟩ ?_
  refine z_aload_n kd_C_told_80 0 rfl ?_
  refine z_get kd_C_told_81 (kf_C_36 _) h0 rfl ?_
  refine z_get kd_C_told_84 (kf_C_136 _) rfl rfl ?_
  exact z_iret kd_C_told_87 rfl (Nat.le_of_ble_eq_true rfl) (Nat.le_of_ble_eq_true rfl) ⟨rfl, rfl, (fun j hj => by first | rfl | (repeat rw [zUp_n (by omega)]))⟩
set_option maxHeartbeats 4000000 in
set_option maxRecDepth 100000 in
theorem e_C_told5 {l : Launch} {D : va_G} {tys : List (ClassId × FieldType)} {b N : Nat} {σ : Nat → Option va_E} {s5 c5 : Value} {v19 w19 : Value} {v20 : Value} {a23 b23 c23 d23 e23 : Value} (h0 : σ 0 = some (.inr (0, [.ref (b + 1), .ref (b + 19), .ref (b + 20), .ref (b + 23), .ref (b + 25), .ref (b + 30)]))) (h1 : σ 1 = some (.inr (1, [.int 0, .int 0, .ref (b + 2), .ref (b + 3), .ref (b + 4)]))) (h5 : σ 5 = some (.inr (2, [s5, c5, .ref (b + 6)]))) (h19 : σ 19 = some (.inr (4, [.ref (b + 1), .ref (b + 5), .ref (b + 7), v19, w19]))) (h20 : σ 20 = some (.inr (5, [v20, .ref (b + 21), .ref (b + 22), .ref (b + 1), .ref (b + 5)]))) (h23 : σ 23 = some (.inr (6, [a23, .ref (b + 24), .ref (b + 1), .ref (b + 19), .ref (b + 7), b23, c23, d23, e23]))) : zM l D kCl tys kNw b ky_C_told (kh_C_told :: zT) 3 110 0 0 [.ref (b + 0), .int 5] N σ (zX (some (.int 0)) N σ) := by
  refine zM.of (by decide +kernel) rfl (Nat.le_of_ble_eq_true rfl) ?_
  refine z_pick (lv' := [(0, .ref (b + 0)), (1, .int 5)]) [0, 1] rfl ?_
  refine z_iload_n kd_C_told_0 1 rfl ?_
  refine z_tableIn (off := 87) (tgt := 88) kd_C_told_1 (by decide) (by decide) (by decide +kernel) (by decide) ?_
  refine z_aload_n kd_C_told_88 0 rfl ?_
  refine z_get kd_C_told_89 (kf_C_45 _) h0 rfl ?_
  refine z_V0 (a := 23) (As := []) kd_C_told_92 (kg_C_142 _) h23 kc_U (e_U_find h1 h5 h19 h23) rfl rfl (Nat.le_of_ble_eq_true rfl) ⟨Nat.le_of_ble_eq_true rfl, Nat.le_of_ble_eq_true rfl⟩ ⟨Nat.le_of_ble_eq_true rfl, Nat.le_of_ble_eq_true rfl⟩ ?_
  refine z_aload_n kd_C_told_95 0 rfl ?_
  refine z_get kd_C_told_96 (kf_C_45 _) h0 rfl ?_
  refine z_get kd_C_told_99 (kf_C_145 _) rfl rfl ?_
  exact z_iret kd_C_told_102 rfl (Nat.le_of_ble_eq_true rfl) (Nat.le_of_ble_eq_true rfl) ⟨rfl, rfl, (fun j hj => by first | rfl | (repeat rw [zUp_n (by omega)]))⟩
set_option maxHeartbeats 4000000 in
set_option maxRecDepth 100000 in
theorem e_C_told {l : Launch} {D : va_G} {tys : List (ClassId × FieldType)} {b N : Nat} {σ : Nat → Option va_E} {x : Int32} (hx : x.toInt < 0 ∨ 5 < x.toInt) {s5 c5 : Value} {v19 w19 : Value} {v20 : Value} {a23 b23 c23 d23 e23 : Value} (h0 : σ 0 = some (.inr (0, [.ref (b + 1), .ref (b + 19), .ref (b + 20), .ref (b + 23), .ref (b + 25), .ref (b + 30)]))) (h1 : σ 1 = some (.inr (1, [.int 0, .int 0, .ref (b + 2), .ref (b + 3), .ref (b + 4)]))) (h5 : σ 5 = some (.inr (2, [s5, c5, .ref (b + 6)]))) (h19 : σ 19 = some (.inr (4, [.ref (b + 1), .ref (b + 5), .ref (b + 7), v19, w19]))) (h20 : σ 20 = some (.inr (5, [v20, .ref (b + 21), .ref (b + 22), .ref (b + 1), .ref (b + 5)]))) (h23 : σ 23 = some (.inr (6, [a23, .ref (b + 24), .ref (b + 1), .ref (b + 19), .ref (b + 7), b23, c23, d23, e23]))) : zM l D kCl tys kNw b ky_C_told (kh_C_told :: zT) 3 110 0 0 [.ref (b + 0), .int x] N σ (zX (some (.int (-1))) N σ) := by
  refine zM.of (by decide +kernel) rfl (Nat.le_of_ble_eq_true rfl) ?_
  refine z_pick (lv' := [(0, .ref (b + 0)), (1, .int x)]) [0, 1] rfl ?_
  refine z_iload_n kd_C_told_0 1 rfl ?_
  refine z_tableOut (tgt := 103) kd_C_told_1 hx (by decide) ?_
  refine z_iconst (v := -1) kd_C_told_103 (by decide) ?_
  exact z_iret kd_C_told_104 rfl (Nat.le_of_ble_eq_true rfl) (Nat.le_of_ble_eq_true rfl) ⟨rfl, rfl, fun _ _ => rfl⟩
set_option maxHeartbeats 4000000 in
set_option maxRecDepth 100000 in
theorem e_C_node {l : Launch} {D : va_G} {tys : List (ClassId × FieldType)} {b N : Nat} {σ : Nat → Option va_E} (h0 : σ 0 = some (.inr (0, [.ref (b + 1), .ref (b + 19), .ref (b + 20), .ref (b + 23), .ref (b + 25), .ref (b + 30)]))) (h1 : σ 1 = some (.inr (1, [.int 0, .int 0, .ref (b + 2), .ref (b + 3), .ref (b + 4)]))) : zM l D kCl tys kNw b ky_C_node (kh_C_node :: zT) 0 0 0 0 [.ref (b + 0)] N σ (zX (some (.int 0)) N σ) := by
  refine zM.of (by decide +kernel) rfl (Nat.le_of_ble_eq_true rfl) ?_
  refine z_pick (lv' := [(0, .ref (b + 0))]) [0] rfl ?_
  refine z_aload_n kd_C_node_0 0 rfl ?_
  refine z_get kd_C_node_1 (kf_C_10 _) h0 rfl ?_
  refine z_get kd_C_node_4 (kf_C_65 _) h1 rfl ?_
  refine z_bipush (v := 10) kd_C_node_7 (by decide +kernel) ?_
  refine z_icmp_lt (tgt := 14) kd_C_node_9 (by decide) (fun c9 => ?_) (fun c9 => absurd c9 (by decide))
  refine z_aload_n kd_C_node_14 0 rfl ?_
  refine z_get kd_C_node_15 (kf_C_10 _) h0 rfl ?_
  refine z_dup kd_C_node_18 rfl ?_
  refine z_get kd_C_node_19 (kf_C_65 _) h1 rfl ?_
  refine z_dup_x1 kd_C_node_22 rfl rfl ?_
  refine z_iconst (v := 1) kd_C_node_23 (by decide) ?_
  refine z_iadd kd_C_node_24 ?_
  refine z_topi (show _ = (1 : Int32) from by decide) ?_
  refine z_putE (fs' := [_, _, _, _, _]) kd_C_node_25 (kp_C_65 _) h1 (Nat.le_of_ble_eq_true rfl) rfl rfl rfl ?_
  exact z_iret kd_C_node_28 rfl (Nat.le_of_ble_eq_true rfl) (Nat.le_of_ble_eq_true rfl) ⟨rfl, rfl, (fun j hj => by first | rfl | (repeat rw [zUp_n (by omega)]))⟩
set_option maxHeartbeats 4000000 in
set_option maxRecDepth 100000 in
theorem e_C_drop {l : Launch} {D : va_G} {tys : List (ClassId × FieldType)} {b N : Nat} {σ : Nat → Option va_E} (h0 : σ 0 = some (.inr (0, [.ref (b + 1), .ref (b + 19), .ref (b + 20), .ref (b + 23), .ref (b + 25), .ref (b + 30)]))) (h1 : σ 1 = some (.inr (1, [.int 0, .int 0, .ref (b + 2), .ref (b + 3), .ref (b + 4)]))) : zM l D kCl tys kNw b ky_C_drop (kh_C_drop :: zT) 0 0 0 0 [.ref (b + 0)] N σ (zX (some (.int 0)) N σ) := by
  refine zM.of (by decide +kernel) rfl (Nat.le_of_ble_eq_true rfl) ?_
  refine z_pick (lv' := [(0, .ref (b + 0))]) [0] rfl ?_
  refine z_aload_n kd_C_drop_0 0 rfl ?_
  refine z_get kd_C_drop_1 (kf_C_10 _) h0 rfl ?_
  refine z_get kd_C_drop_4 (kf_C_76 _) h1 rfl ?_
  refine z_if_ne (tgt := 12) kd_C_drop_7 (by decide) (fun c7 => absurd c7 (by decide)) (fun c7 => ?_)
  refine z_iconst (v := 0) kd_C_drop_10 (by decide) ?_
  exact z_zret kd_C_drop_11 rfl rfl (Nat.le_of_ble_eq_true rfl) (Nat.le_of_ble_eq_true rfl) ⟨rfl, rfl, (fun j hj => by first | rfl | (repeat rw [zUp_n (by omega)]))⟩
