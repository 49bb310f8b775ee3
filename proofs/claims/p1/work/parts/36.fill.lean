theorem zV_nI {i n : Nat} (h : i < n) (hn : n < 2 ^ 31) : vp_in (nI i) n := vp_in_nI h hn
set_option maxHeartbeats 4000000 in
set_option maxRecDepth 100000 in
theorem l_M_noneOut {l : Launch} {D : va_G} {tys : List (ClassId × FieldType)} {b N : Nat} {σ : Nat → Option va_E} {cZ : ClassId} (ht2 : tys[2]? = some (cZ, .boolean)) {th nd ar fa ls rm : Value} (h54 : σ 54 = some (.inr (9, [th, nd, ar, .ref (b + 55), .ref (b + 56), .ref (b + 57), .ref (b + 58), .ref (b + 59), .ref (b + 60), .ref (b + 61), .ref (b + 62), .ref (b + 63), .ref (b + 64), .ref (b + 65), fa, .ref (b + 66), .ref (b + 67), ls, .ref (b + 68), .ref (b + 69), .ref (b + 70), .ref (b + 71), rm, .ref (b + 72), .ref (b + 73)]))) {R : Room} {Q : Outcome → Nat → (Nat → Option va_E) → Prop} (hQ : ∀ g : Nat → Int32, (∀ j, j < 30 → g j = 0) → Q (.returned none) N (zUp σ 63 (.inl (cZ, 30, .inl g)))) : ∀ (m i : Nat) (g : Nat → Int32), i + m = 30 → (∀ j, j < i → g j = 0) → Z l D kCl tys (kh_M_noneOut :: zT) kNw ky_M_noneOut.cls ky_M_noneOut.name kb_M_noneOut 2 none R b (zFi D kCl b 0 0 Q) 0 0 N (zUp σ 63 (.inl (cZ, 30, .inl g))) 2 [(1, .int (nI i)), (0, .ref (b + 54))] [] := by
  intro m
  induction m with
  | zero =>
    intro i g hi hg
    obtain rfl : i = 30 := by omega
    refine z_iload_n kd_M_noneOut_2 0 rfl ?_
    refine z_bipush (v := 30) kd_M_noneOut_3 (by decide +kernel) ?_
    refine z_icmp_ge (tgt := 21) kd_M_noneOut_5 (by decide) (fun c5 => ?_) (fun c5 => ?_)
    · exact z_vret kd_M_noneOut_21 rfl (Nat.le_of_ble_eq_true rfl) (Nat.le_of_ble_eq_true rfl) (hQ g hg)
    · exact absurd (nI_le (Nat.le_refl 30) (by decide)) c5
  | succ m ih =>
    intro i g hi hg
    have hlt : i < 30 := by omega
    refine z_iload_n kd_M_noneOut_2 0 rfl ?_
    refine z_bipush (v := 30) kd_M_noneOut_3 (by decide +kernel) ?_
    refine z_icmp_ge (tgt := 21) kd_M_noneOut_5 (by decide) (fun c5 => ?_) (fun c5 => ?_)
    · exact absurd c5 (nI_ge hlt (by decide))
    · refine z_aload_n kd_M_noneOut_8 1 rfl ?_
      refine z_get kd_M_noneOut_9 (kf_M_35 _) h54 rfl ?_
      refine z_iload_n kd_M_noneOut_12 0 rfl ?_
      refine z_iconst (v := 0) kd_M_noneOut_13 (by decide) ?_
      refine z_zast (t0 := 2) kd_M_noneOut_14 (by assumption) rfl (zV_nI hlt (by decide)) rfl ?_
      refine z_iinc (v := (nI (i + 1))) (lv' := [(1, .int _), (0, .ref (b + 54))]) kd_M_noneOut_15 0 rfl (nI_1 _) (by decide) rfl ?_
      refine z_goto (tgt := 2) kd_M_noneOut_18 (by decide) ?_
      refine z_eq (zUp_zUp _ _ _ _) rfl rfl rfl ?_
      refine ih (i + 1) _ (by omega) (fun j hj => ?_)
      rw [nI_clamp (by omega)]
      by_cases e : j = i
      · subst e; simp [upd, vp_updL]
      · simp [upd, vp_updL, e]; exact hg j (by omega)
set_option maxHeartbeats 4000000 in
set_option maxRecDepth 100000 in
theorem c_M_noneOut {l : Launch} {D : va_G} {tys : List (ClassId × FieldType)} {b N : Nat} {σ : Nat → Option va_E} {cZ : ClassId} (ht2 : tys[2]? = some (cZ, .boolean)) {th nd ar fa ls rm : Value} (h54 : σ 54 = some (.inr (9, [th, nd, ar, .ref (b + 55), .ref (b + 56), .ref (b + 57), .ref (b + 58), .ref (b + 59), .ref (b + 60), .ref (b + 61), .ref (b + 62), .ref (b + 63), .ref (b + 64), .ref (b + 65), fa, .ref (b + 66), .ref (b + 67), ls, .ref (b + 68), .ref (b + 69), .ref (b + 70), .ref (b + 71), rm, .ref (b + 72), .ref (b + 73)]))) {g : Nat → Int32} (hc : σ 63 = some (.inl (cZ, 30, .inl g))) : zM l D kCl tys kNw b ky_M_noneOut (kh_M_noneOut :: zT) 0 0 0 0 [.ref (b + 54)] N σ (fun oc N' σ' => oc = .returned none ∧ N' = N ∧ ∃ g : Nat → Int32, (∀ j, j < 30 → g j = 0) ∧ σ' = zUp σ 63 (.inl (cZ, 30, .inl g))) := by
  refine zM.of (by decide +kernel) rfl (Nat.le_of_ble_eq_true rfl) ?_
  refine z_pick (lv' := [(0, .ref (b + 54))]) [0] rfl ?_
  refine z_iconst (v := 0) kd_M_noneOut_0 (by decide) ?_
  refine z_istore_n (lv' := [(1, .int _), (0, .ref (b + 54))]) kd_M_noneOut_1 (by decide) rfl ?_
  refine z_eq (zUp_id hc).symm rfl rfl rfl ?_
  refine l_M_noneOut ht2 h54 (fun g hg => ⟨rfl, rfl, g, hg, rfl⟩) 30 0 g (by omega) (fun j hj => absurd hj (by omega))
set_option maxHeartbeats 4000000 in
set_option maxRecDepth 100000 in
theorem l_M_clearRows {l : Launch} {D : va_G} {tys : List (ClassId × FieldType)} {b N : Nat} {σ : Nat → Option va_E} {cJ : ClassId} (ht1 : tys[1]? = some (cJ, .long)) {th nd ar fa ls rm : Value} (h54 : σ 54 = some (.inr (9, [th, nd, ar, .ref (b + 55), .ref (b + 56), .ref (b + 57), .ref (b + 58), .ref (b + 59), .ref (b + 60), .ref (b + 61), .ref (b + 62), .ref (b + 63), .ref (b + 64), .ref (b + 65), fa, .ref (b + 66), .ref (b + 67), ls, .ref (b + 68), .ref (b + 69), .ref (b + 70), .ref (b + 71), rm, .ref (b + 72), .ref (b + 73)]))) {R : Room} {Q : Outcome → Nat → (Nat → Option va_E) → Prop} (hQ : ∀ g : Nat → Int64, (∀ j, j < 100 → g j = 0) → Q (.returned none) N (zUp σ 60 (.inl (cJ, 100, .inr (.inl g))))) : ∀ (m i : Nat) (g : Nat → Int64), i + m = 100 → (∀ j, j < i → g j = 0) → Z l D kCl tys (kh_M_clearRows :: zT) kNw ky_M_clearRows.cls ky_M_clearRows.name kb_M_clearRows 2 none R b (zFi D kCl b 0 0 Q) 0 0 N (zUp σ 60 (.inl (cJ, 100, .inr (.inl g)))) 2 [(1, .int (nI i)), (0, .ref (b + 54))] [] := by
  intro m
  induction m with
  | zero =>
    intro i g hi hg
    obtain rfl : i = 100 := by omega
    refine z_iload_n kd_M_clearRows_2 0 rfl ?_
    refine z_bipush (v := 100) kd_M_clearRows_3 (by decide +kernel) ?_
    refine z_icmp_ge (tgt := 21) kd_M_clearRows_5 (by decide) (fun c5 => ?_) (fun c5 => ?_)
    · exact z_vret kd_M_clearRows_21 rfl (Nat.le_of_ble_eq_true rfl) (Nat.le_of_ble_eq_true rfl) (hQ g hg)
    · exact absurd (nI_le (Nat.le_refl 100) (by decide)) c5
  | succ m ih =>
    intro i g hi hg
    have hlt : i < 100 := by omega
    refine z_iload_n kd_M_clearRows_2 0 rfl ?_
    refine z_bipush (v := 100) kd_M_clearRows_3 (by decide +kernel) ?_
    refine z_icmp_ge (tgt := 21) kd_M_clearRows_5 (by decide) (fun c5 => ?_) (fun c5 => ?_)
    · exact absurd c5 (nI_ge hlt (by decide))
    · refine z_aload_n kd_M_clearRows_8 1 rfl ?_
      refine z_get kd_M_clearRows_9 (kf_M_26 _) h54 rfl ?_
      refine z_iload_n kd_M_clearRows_12 0 rfl ?_
      refine z_lconst (v := 0) kd_M_clearRows_13 (by decide +kernel) ?_
      refine z_last (t0 := 1) kd_M_clearRows_14 (by assumption) rfl (zV_nI hlt (by decide)) ?_
      refine z_iinc (v := (nI (i + 1))) (lv' := [(1, .int _), (0, .ref (b + 54))]) kd_M_clearRows_15 0 rfl (nI_1 _) (by decide) rfl ?_
      refine z_goto (tgt := 2) kd_M_clearRows_18 (by decide) ?_
      refine z_eq (zUp_zUp _ _ _ _) rfl rfl rfl ?_
      refine ih (i + 1) _ (by omega) (fun j hj => ?_)
      rw [nI_clamp (by omega)]
      by_cases e : j = i
      · subst e; simp [upd, vp_updL]
      · simp [upd, vp_updL, e]; exact hg j (by omega)
set_option maxHeartbeats 4000000 in
set_option maxRecDepth 100000 in
theorem c_M_clearRows {l : Launch} {D : va_G} {tys : List (ClassId × FieldType)} {b N : Nat} {σ : Nat → Option va_E} {cJ : ClassId} (ht1 : tys[1]? = some (cJ, .long)) {th nd ar fa ls rm : Value} (h54 : σ 54 = some (.inr (9, [th, nd, ar, .ref (b + 55), .ref (b + 56), .ref (b + 57), .ref (b + 58), .ref (b + 59), .ref (b + 60), .ref (b + 61), .ref (b + 62), .ref (b + 63), .ref (b + 64), .ref (b + 65), fa, .ref (b + 66), .ref (b + 67), ls, .ref (b + 68), .ref (b + 69), .ref (b + 70), .ref (b + 71), rm, .ref (b + 72), .ref (b + 73)]))) {g : Nat → Int64} (hc : σ 60 = some (.inl (cJ, 100, .inr (.inl g)))) : zM l D kCl tys kNw b ky_M_clearRows (kh_M_clearRows :: zT) 0 0 0 0 [.ref (b + 54)] N σ (fun oc N' σ' => oc = .returned none ∧ N' = N ∧ ∃ g : Nat → Int64, (∀ j, j < 100 → g j = 0) ∧ σ' = zUp σ 60 (.inl (cJ, 100, .inr (.inl g)))) := by
  refine zM.of (by decide +kernel) rfl (Nat.le_of_ble_eq_true rfl) ?_
  refine z_pick (lv' := [(0, .ref (b + 54))]) [0] rfl ?_
  refine z_iconst (v := 0) kd_M_clearRows_0 (by decide) ?_
  refine z_istore_n (lv' := [(1, .int _), (0, .ref (b + 54))]) kd_M_clearRows_1 (by decide) rfl ?_
  refine z_eq (zUp_id hc).symm rfl rfl rfl ?_
  refine l_M_clearRows ht1 h54 (fun g hg => ⟨rfl, rfl, g, hg, rfl⟩) 100 0 g (by omega) (fun j hj => absurd hj (by omega))
