set_option maxHeartbeats 4000000 in
set_option maxRecDepth 100000 in
theorem l_U_transposeI {l : Launch} {D : va_G} {tys : List (ClassId × FieldType)} {b N : Nat} {σ0 : Nat → Option va_E} {cI cJ cA : ClassId} (ht0 : tys[0]? = some (cI, .int)) (ht1 : tys[1]? = some (cJ, .long)) (ht3 : tys[3]? = some (cA, .array .long)) {n x : Nat} (hn : n ≤ 10) {cn cm tp to : Value} {od : Int64} {row : Nat} (hrow : row < n) {Mf : Nat → Nat → Int64} {Q : Outcome → Nat → (Nat → Option va_E) → Prop} (hc : ∀ σ, GS b cA cJ σ (nI n) (Mf) → σ 23 = some (.inr (6, [cn, .ref (b + 24), .ref (b + 1), .ref (b + 19), .ref (b + 7), .long od, cm, tp, to])) → Fr 7 18 σ0 σ → Z l D kCl tys (kh_U_transpose :: zT) kNw ky_U_transpose.cls ky_U_transpose.name kb_U_transpose 6 none { frames := 0, cells := 0, slots := 0, locals := 0 } b (zFi D kCl b 0 0 Q) 0 0 N (σ) 82 [(3, .int (nI n)), (2, .int (nI row)), (0, .ref (b + 23)), (1, .int (nI x))] []) : ∀ (m c : Nat) (σ : Nat → Option va_E) (M : Nat → Nat → Int64), c + m = n → GS b cA cJ σ (nI n) (M) → σ 23 = some (.inr (6, [cn, .ref (b + 24), .ref (b + 1), .ref (b + 19), .ref (b + 7), .long od, cm, tp, to])) → Fr 7 18 σ0 σ → tpI row m c M = Mf → Z l D kCl tys (kh_U_transpose :: zT) kNw ky_U_transpose.cls ky_U_transpose.name kb_U_transpose 6 none { frames := 0, cells := 0, slots := 0, locals := 0 } b (zFi D kCl b 0 0 Q) 0 0 N (σ) 17 [(3, .int (nI c)), (2, .int (nI row)), (0, .ref (b + 23)), (1, .int (nI x))] [] := by
  intro m
  induction m with
  | zero =>
    intro c σ M hcm hS h23 hF hv
    obtain rfl : c = n := by omega
    have hv : M = Mf := hv
    subst hv
    refine z_iload_n kd_U_transpose_17 0 rfl ?_
    refine z_aload_n kd_U_transpose_18 2 rfl ?_
    refine z_get kd_U_transpose_19 (kf_U_23 _) h23 rfl ?_
    refine z_get kd_U_transpose_22 (kf_U_61 _) hS.1 rfl ?_
    refine z_icmp_ge (tgt := 82) kd_U_transpose_25 (by decide) (fun c25 => ?_) (fun c25 => ?_)
    · exact hc σ hS h23 hF
    · exact absurd (nI_le (Nat.le_refl c) (by omega)) c25
  | succ m ih =>
    intro c σ M hcm hS h23 hF hv
    have hlt : c < n := by omega
    obtain ⟨h7, f, r, hG⟩ := id hS
    refine z_iload_n kd_U_transpose_17 0 rfl ?_
    refine z_aload_n kd_U_transpose_18 2 rfl ?_
    refine z_get kd_U_transpose_19 (kf_U_23 _) h23 rfl ?_
    refine z_get kd_U_transpose_22 (kf_U_61 _) hS.1 rfl ?_
    refine z_icmp_ge (tgt := 82) kd_U_transpose_25 (by decide) (fun c25 => ?_) (fun c25 => ?_)
    · exact absurd c25 (nI_ge hlt (by omega))
    · refine z_aload_n kd_U_transpose_28 2 rfl ?_
      refine z_get kd_U_transpose_29 (kf_U_23 _) h23 rfl ?_
      refine z_get kd_U_transpose_32 (kf_U_67 _) hS.1 rfl ?_
      refine z_iload_n kd_U_transpose_35 1 rfl ?_
      refine z_gal kd_U_transpose_36 ht3 hG (by omega) ?_
      refine z_iload_n kd_U_transpose_37 0 rfl ?_
      refine z_gld kd_U_transpose_38 ht1 hG (by omega) (by omega) ?_
      refine z_lstore (lv' := [(4, .long _), (3, .int _), (2, .int _), (0, .ref (b + 23)), (1, .int _)]) kd_U_transpose_39 (by decide) rfl ?_
      refine z_aload_n kd_U_transpose_41 3 rfl ?_
      refine z_get kd_U_transpose_42 (kf_U_23 _) h23 rfl ?_
      refine z_get kd_U_transpose_45 (kf_U_67 _) hS.1 rfl ?_
      refine z_iload_n kd_U_transpose_48 2 rfl ?_
      refine z_gal kd_U_transpose_49 ht3 hG (by omega) ?_
      refine z_iload_n kd_U_transpose_50 1 rfl ?_
      refine z_aload_n kd_U_transpose_51 3 rfl ?_
      refine z_get kd_U_transpose_52 (kf_U_23 _) h23 rfl ?_
      refine z_get kd_U_transpose_55 (kf_U_67 _) hS.1 rfl ?_
      refine z_iload_n kd_U_transpose_58 1 rfl ?_
      refine z_gal kd_U_transpose_59 ht3 hG (by omega) ?_
      refine z_iload_n kd_U_transpose_60 2 rfl ?_
      refine z_gld kd_U_transpose_61 ht1 hG (by omega) (by omega) ?_
      refine z_gst kd_U_transpose_62 ht1 hG (by omega) (by omega) (fun σ_1 g_1 q_1 => ?_)
      have x23_1 := (q_1 23 (by omega)).trans h23
      have hS_1 : GS _ _ _ _ _ _ := ⟨(q_1 7 (by omega)).trans hS.1, f, r, g_1⟩
      refine z_aload_n kd_U_transpose_63 3 rfl ?_
      refine z_get kd_U_transpose_64 (kf_U_23 _) x23_1 rfl ?_
      refine z_get kd_U_transpose_67 (kf_U_67 _) hS_1.1 rfl ?_
      refine z_iload_n kd_U_transpose_70 1 rfl ?_
      refine z_gal kd_U_transpose_71 ht3 g_1 (by omega) ?_
      refine z_iload_n kd_U_transpose_72 2 rfl ?_
      refine z_lload kd_U_transpose_73 0 rfl ?_
      refine z_gst kd_U_transpose_75 ht1 g_1 (by omega) (by omega) (fun σ_2 g_2 q_2 => ?_)
      have x23_2 := (q_2 23 (by omega)).trans x23_1
      have hS_2 : GS _ _ _ _ _ _ := ⟨(q_2 7 (by omega)).trans hS_1.1, f, r, g_2⟩
      refine z_iinc (v := (nI (c + 1))) (lv' := [(3, .int _), (4, .long _), (2, .int _), (0, .ref (b + 23)), (1, .int _)]) kd_U_transpose_76 1 rfl (nI_1 _) (by decide) rfl ?_
      refine z_goto (tgt := 17) kd_U_transpose_79 (by decide) ?_
      refine z_pick (lv' := [(3, .int (nI (c + 1))), (2, .int (nI row)), (0, .ref (b + 23)), (1, .int (nI x))]) [0, 2, 3, 4] rfl ?_
      exact ih (c + 1) _ _ (by omega) hS_2 x23_2 (Fr.tr (Fr.tr hF (q_1.wide (by omega) (by omega))) (q_2.wide (by omega) (by omega))) hv
set_option maxHeartbeats 4000000 in
set_option maxRecDepth 100000 in
theorem l_U_transposeO {l : Launch} {D : va_G} {tys : List (ClassId × FieldType)} {b N : Nat} {σ0 : Nat → Option va_E} {cI cJ cA : ClassId} (ht0 : tys[0]? = some (cI, .int)) (ht1 : tys[1]? = some (cJ, .long)) (ht3 : tys[3]? = some (cA, .array .long)) {n x : Nat} (hn : n ≤ 10) {cn cm tp to : Value} {od : Int64} {Mf : Nat → Nat → Int64} : ∀ (m row : Nat) (σ : Nat → Option va_E) (M : Nat → Nat → Int64), row + m = n → GS b cA cJ σ (nI n) (M) → σ 23 = some (.inr (6, [cn, .ref (b + 24), .ref (b + 1), .ref (b + 19), .ref (b + 7), .long od, cm, tp, to])) → Fr 7 18 σ0 σ → tpO n m row M = Mf → Z l D kCl tys (kh_U_transpose :: zT) kNw ky_U_transpose.cls ky_U_transpose.name kb_U_transpose 6 none { frames := 0, cells := 0, slots := 0, locals := 0 } b (zFi D kCl b 0 0 (fun oc N' σ' => oc = .returned none ∧ N' = N ∧ GS b cA cJ σ' (nI n) (Mf) ∧ Fr 7 18 σ0 σ')) 0 0 N (σ) 2 [(2, .int (nI row)), (0, .ref (b + 23)), (1, .int (nI x))] [] := by
  intro m
  induction m with
  | zero =>
    intro row σ M hcm hS h23 hF hv
    obtain rfl : row = n := by omega
    have hv : M = Mf := hv
    subst hv
    refine z_iload_n kd_U_transpose_2 0 rfl ?_
    refine z_aload_n kd_U_transpose_3 1 rfl ?_
    refine z_get kd_U_transpose_4 (kf_U_23 _) h23 rfl ?_
    refine z_get kd_U_transpose_7 (kf_U_61 _) hS.1 rfl ?_
    refine z_icmp_ge (tgt := 88) kd_U_transpose_10 (by decide) (fun c10 => ?_) (fun c10 => ?_)
    · exact z_vret kd_U_transpose_88 rfl (Nat.le_of_ble_eq_true rfl) (Nat.le_of_ble_eq_true rfl) ⟨rfl, rfl, hS, hF⟩
    · exact absurd (nI_le (Nat.le_refl row) (by omega)) c10
  | succ m ih =>
    intro row σ M hcm hS h23 hF hv
    have hlt : row < n := by omega
    refine z_iload_n kd_U_transpose_2 0 rfl ?_
    refine z_aload_n kd_U_transpose_3 1 rfl ?_
    refine z_get kd_U_transpose_4 (kf_U_23 _) h23 rfl ?_
    refine z_get kd_U_transpose_7 (kf_U_61 _) hS.1 rfl ?_
    refine z_icmp_ge (tgt := 88) kd_U_transpose_10 (by decide) (fun c10 => ?_) (fun c10 => ?_)
    · exact absurd c10 (nI_ge hlt (by omega))
    · refine z_iload_n kd_U_transpose_13 0 rfl ?_
      refine z_iconst (v := 1) kd_U_transpose_14 (by decide) ?_
      refine z_iadd kd_U_transpose_15 ?_
      refine z_topi (nI_add row 1) ?_
      refine z_istore_n (lv' := [(3, .int _), (2, .int _), (0, .ref (b + 23)), (1, .int _)]) kd_U_transpose_16 (by decide) rfl ?_
      refine z_pick (lv' := [(3, .int (nI (row + 1))), (2, .int (nI row)), (0, .ref (b + 23)), (1, .int (nI x))]) [0, 1, 2, 3] rfl ?_
      refine l_U_transposeI ht0 ht1 ht3 (x := x) hn hlt (fun σ hS h23 hF => ?_) (n - (row + 1)) (row + 1) σ M (by omega) hS h23 hF rfl
      refine z_iinc (v := (nI (row + 1))) (lv' := [(2, .int _), (3, .int _), (0, .ref (b + 23)), (1, .int _)]) kd_U_transpose_82 1 rfl (nI_1 _) (by decide) rfl ?_
      refine z_goto (tgt := 2) kd_U_transpose_85 (by decide) ?_
      refine z_pick (lv' := [(2, .int (nI (row + 1))), (0, .ref (b + 23)), (1, .int (nI x))]) [0, 2, 3] rfl ?_
      exact ih (row + 1) σ _ (by omega) hS h23 hF hv
set_option maxHeartbeats 4000000 in
set_option maxRecDepth 100000 in
theorem c_U_transpose {l : Launch} {D : va_G} {tys : List (ClassId × FieldType)} {b N : Nat} {σ : Nat → Option va_E} {cI cJ cA : ClassId} (ht0 : tys[0]? = some (cI, .int)) (ht1 : tys[1]? = some (cJ, .long)) (ht3 : tys[3]? = some (cA, .array .long)) {n x : Nat} (hn : n ≤ 10) {M : Nat → Nat → Int64} {cn cm tp to : Value} {od : Int64} (h23 : σ 23 = some (.inr (6, [cn, .ref (b + 24), .ref (b + 1), .ref (b + 19), .ref (b + 7), .long od, cm, tp, to]))) (hS : GS b cA cJ σ (nI n) (M)) (hx : x < n) : zM l D kCl tys kNw b ky_U_transpose (kh_U_transpose :: zT) 0 0 0 0 [.ref (b + 23), .int (nI x)] N σ ((fun oc N' σ' => oc = .returned none ∧ N' = N ∧ GS b cA cJ σ' (nI n) (tpV n x M) ∧ Fr 7 18 σ σ')) := by
  refine zM.of (by decide +kernel) rfl (Nat.le_of_ble_eq_true rfl) ?_
  refine z_pick (lv' := [(0, .ref (b + 23)), (1, .int (nI x))]) [0, 1] rfl ?_
  refine z_iload_n kd_U_transpose_0 1 rfl ?_
  refine z_istore_n (lv' := [(2, .int _), (0, .ref (b + 23)), (1, .int _)]) kd_U_transpose_1 (by decide) rfl ?_
  refine z_pick (lv' := [(2, .int (nI x)), (0, .ref (b + 23)), (1, .int (nI x))]) [0, 1, 2] rfl ?_
  exact l_U_transposeO ht0 ht1 ht3 hn (n - x) x σ M (by omega) hS h23 Fr.rf rfl
set_option maxHeartbeats 4000000 in
set_option maxRecDepth 100000 in
theorem l_U_reduceAllI {l : Launch} {D : va_G} {tys : List (ClassId × FieldType)} {b N : Nat} {σ0 : Nat → Option va_E} {cI cJ cA : ClassId} (ht0 : tys[0]? = some (cI, .int)) (ht1 : tys[1]? = some (cJ, .long)) (ht3 : tys[3]? = some (cA, .array .long)) {n x : Nat} (hn : n ≤ 10) {cn cm tp to : Value} {od : Int64} {row : Nat} (hrow : row < n) {Mf : Nat → Nat → Int64} {Q : Outcome → Nat → (Nat → Option va_E) → Prop} (hc : ∀ σ, GS b cA cJ σ (nI n) (Mf) → σ 23 = some (.inr (6, [cn, .ref (b + 24), .ref (b + 1), .ref (b + 19), .ref (b + 7), .long od, cm, tp, to])) → Fr 7 18 σ0 σ → Z l D kCl tys (kh_U_reduceAll :: zT) kNw ky_U_reduceAll.cls ky_U_reduceAll.name kb_U_reduceAll 3 none { frames := 1, cells := 0, slots := 0, locals := 40 } b (zFi D kCl b 0 0 Q) 0 0 N (σ) 58 [(2, .int (nI n)), (1, .int (nI row)), (0, .ref (b + 23))] []) : ∀ (m c : Nat) (σ : Nat → Option va_E) (M : Nat → Nat → Int64), c + m = n → GS b cA cJ σ (nI n) (M) → σ 23 = some (.inr (6, [cn, .ref (b + 24), .ref (b + 1), .ref (b + 19), .ref (b + 7), .long od, cm, tp, to])) → Fr 7 18 σ0 σ → raI od row m c M = Mf → Z l D kCl tys (kh_U_reduceAll :: zT) kNw ky_U_reduceAll.cls ky_U_reduceAll.name kb_U_reduceAll 3 none { frames := 1, cells := 0, slots := 0, locals := 40 } b (zFi D kCl b 0 0 Q) 0 0 N (σ) 15 [(2, .int (nI c)), (1, .int (nI row)), (0, .ref (b + 23))] [] := by
  intro m
  induction m with
  | zero =>
    intro c σ M hcm hS h23 hF hv
    obtain rfl : c = n := by omega
    have hv : M = Mf := hv
    subst hv
    refine z_iload_n kd_U_reduceAll_15 0 rfl ?_
    refine z_aload_n kd_U_reduceAll_16 2 rfl ?_
    refine z_get kd_U_reduceAll_17 (kf_U_23 _) h23 rfl ?_
    refine z_get kd_U_reduceAll_20 (kf_U_61 _) hS.1 rfl ?_
    refine z_icmp_ge (tgt := 58) kd_U_reduceAll_23 (by decide) (fun c23 => ?_) (fun c23 => ?_)
    · exact hc σ hS h23 hF
    · exact absurd (nI_le (Nat.le_refl c) (by omega)) c23
  | succ m ih =>
    intro c σ M hcm hS h23 hF hv
    have hlt : c < n := by omega
    obtain ⟨h7, f, r, hG⟩ := id hS
    refine z_iload_n kd_U_reduceAll_15 0 rfl ?_
    refine z_aload_n kd_U_reduceAll_16 2 rfl ?_
    refine z_get kd_U_reduceAll_17 (kf_U_23 _) h23 rfl ?_
    refine z_get kd_U_reduceAll_20 (kf_U_61 _) hS.1 rfl ?_
    refine z_icmp_ge (tgt := 58) kd_U_reduceAll_23 (by decide) (fun c23 => ?_) (fun c23 => ?_)
    · exact absurd c23 (nI_ge hlt (by omega))
    · refine z_aload_n kd_U_reduceAll_26 2 rfl ?_
      refine z_get kd_U_reduceAll_27 (kf_U_23 _) h23 rfl ?_
      refine z_get kd_U_reduceAll_30 (kf_U_67 _) hS.1 rfl ?_
      refine z_iload_n kd_U_reduceAll_33 1 rfl ?_
      refine z_gal kd_U_reduceAll_34 ht3 hG (by omega) ?_
      refine z_iload_n kd_U_reduceAll_35 0 rfl ?_
      refine z_aload_n kd_U_reduceAll_36 2 rfl ?_
      refine z_aload_n kd_U_reduceAll_37 2 rfl ?_
      refine z_get kd_U_reduceAll_38 (kf_U_23 _) h23 rfl ?_
      refine z_get kd_U_reduceAll_41 (kf_U_67 _) hS.1 rfl ?_
      refine z_iload_n kd_U_reduceAll_44 1 rfl ?_
      refine z_gal kd_U_reduceAll_45 ht3 hG (by omega) ?_
      refine z_iload_n kd_U_reduceAll_46 0 rfl ?_
      refine z_gld kd_U_reduceAll_47 ht1 hG (by omega) (by omega) ?_
      refine z_V1 (a := 23) (As := [_]) kd_U_reduceAll_48 (kg_U_78 _) h23 kc_U (c_U_reduced h23) rfl rfl (Nat.le_of_ble_eq_true rfl) ⟨Nat.le_of_ble_eq_true rfl, Nat.le_of_ble_eq_true rfl⟩ ⟨Nat.le_of_ble_eq_true rfl, Nat.le_of_ble_eq_true rfl⟩ ?_
      refine z_gst kd_U_reduceAll_51 ht1 hG (by omega) (by omega) (fun σ_1 g_1 q_1 => ?_)
      have x23_1 := (q_1 23 (by omega)).trans h23
      have hS_1 : GS _ _ _ _ _ _ := ⟨(q_1 7 (by omega)).trans hS.1, f, r, g_1⟩
      refine z_iinc (v := (nI (c + 1))) (lv' := [(2, .int _), (1, .int _), (0, .ref (b + 23))]) kd_U_reduceAll_52 0 rfl (nI_1 _) (by decide) rfl ?_
      refine z_goto (tgt := 15) kd_U_reduceAll_55 (by decide) ?_
      refine z_pick (lv' := [(2, .int (nI (c + 1))), (1, .int (nI row)), (0, .ref (b + 23))]) [0, 1, 2] rfl ?_
      exact ih (c + 1) _ _ (by omega) hS_1 x23_1 (Fr.tr hF (q_1.wide (by omega) (by omega))) hv
set_option maxHeartbeats 4000000 in
set_option maxRecDepth 100000 in
theorem l_U_reduceAllO {l : Launch} {D : va_G} {tys : List (ClassId × FieldType)} {b N : Nat} {σ0 : Nat → Option va_E} {cI cJ cA : ClassId} (ht0 : tys[0]? = some (cI, .int)) (ht1 : tys[1]? = some (cJ, .long)) (ht3 : tys[3]? = some (cA, .array .long)) {n x : Nat} (hn : n ≤ 10) {cn cm tp to : Value} {od : Int64} {Mf : Nat → Nat → Int64} : ∀ (m row : Nat) (σ : Nat → Option va_E) (M : Nat → Nat → Int64), row + m = n → GS b cA cJ σ (nI n) (M) → σ 23 = some (.inr (6, [cn, .ref (b + 24), .ref (b + 1), .ref (b + 19), .ref (b + 7), .long od, cm, tp, to])) → Fr 7 18 σ0 σ → raO od n m row M = Mf → Z l D kCl tys (kh_U_reduceAll :: zT) kNw ky_U_reduceAll.cls ky_U_reduceAll.name kb_U_reduceAll 3 none { frames := 1, cells := 0, slots := 0, locals := 40 } b (zFi D kCl b 0 0 (fun oc N' σ' => oc = .returned none ∧ N' = N ∧ GS b cA cJ σ' (nI n) (Mf) ∧ Fr 7 18 σ0 σ')) 0 0 N (σ) 2 [(1, .int (nI row)), (0, .ref (b + 23))] [] := by
  intro m
  induction m with
  | zero =>
    intro row σ M hcm hS h23 hF hv
    obtain rfl : row = n := by omega
    have hv : M = Mf := hv
    subst hv
    refine z_iload_n kd_U_reduceAll_2 0 rfl ?_
    refine z_aload_n kd_U_reduceAll_3 1 rfl ?_
    refine z_get kd_U_reduceAll_4 (kf_U_23 _) h23 rfl ?_
    refine z_get kd_U_reduceAll_7 (kf_U_61 _) hS.1 rfl ?_
    refine z_icmp_ge (tgt := 64) kd_U_reduceAll_10 (by decide) (fun c10 => ?_) (fun c10 => ?_)
    · exact z_vret kd_U_reduceAll_64 rfl (Nat.le_of_ble_eq_true rfl) (Nat.le_of_ble_eq_true rfl) ⟨rfl, rfl, hS, hF⟩
    · exact absurd (nI_le (Nat.le_refl row) (by omega)) c10
  | succ m ih =>
    intro row σ M hcm hS h23 hF hv
    have hlt : row < n := by omega
    refine z_iload_n kd_U_reduceAll_2 0 rfl ?_
    refine z_aload_n kd_U_reduceAll_3 1 rfl ?_
    refine z_get kd_U_reduceAll_4 (kf_U_23 _) h23 rfl ?_
    refine z_get kd_U_reduceAll_7 (kf_U_61 _) hS.1 rfl ?_
    refine z_icmp_ge (tgt := 64) kd_U_reduceAll_10 (by decide) (fun c10 => ?_) (fun c10 => ?_)
    · exact absurd c10 (nI_ge hlt (by omega))
    · refine z_iconst (v := 0) kd_U_reduceAll_13 (by decide) ?_
      refine z_istore_n (lv' := [(2, .int _), (1, .int _), (0, .ref (b + 23))]) kd_U_reduceAll_14 (by decide) rfl ?_
      refine z_pick (lv' := [(2, .int (nI 0)), (1, .int (nI row)), (0, .ref (b + 23))]) [0, 1, 2] rfl ?_
      refine l_U_reduceAllI ht0 ht1 ht3 (x := x) hn hlt (fun σ hS h23 hF => ?_) (n) 0 σ M (by omega) hS h23 hF rfl
      refine z_iinc (v := (nI (row + 1))) (lv' := [(1, .int _), (2, .int _), (0, .ref (b + 23))]) kd_U_reduceAll_58 1 rfl (nI_1 _) (by decide) rfl ?_
      refine z_goto (tgt := 2) kd_U_reduceAll_61 (by decide) ?_
      refine z_pick (lv' := [(1, .int (nI (row + 1))), (0, .ref (b + 23))]) [0, 2] rfl ?_
      exact ih (row + 1) σ _ (by omega) hS h23 hF hv
set_option maxHeartbeats 4000000 in
set_option maxRecDepth 100000 in
theorem c_U_reduceAll {l : Launch} {D : va_G} {tys : List (ClassId × FieldType)} {b N : Nat} {σ : Nat → Option va_E} {cI cJ cA : ClassId} (ht0 : tys[0]? = some (cI, .int)) (ht1 : tys[1]? = some (cJ, .long)) (ht3 : tys[3]? = some (cA, .array .long)) {n x : Nat} (hn : n ≤ 10) {M : Nat → Nat → Int64} {cn cm tp to : Value} {od : Int64} (h23 : σ 23 = some (.inr (6, [cn, .ref (b + 24), .ref (b + 1), .ref (b + 19), .ref (b + 7), .long od, cm, tp, to]))) (hS : GS b cA cJ σ (nI n) (M)) : zM l D kCl tys kNw b ky_U_reduceAll (kh_U_reduceAll :: zT) 1 40 0 0 [.ref (b + 23)] N σ ((fun oc N' σ' => oc = .returned none ∧ N' = N ∧ GS b cA cJ σ' (nI n) (raO od n n 0 M) ∧ Fr 7 18 σ σ')) := by
  refine zM.of (by decide +kernel) rfl (Nat.le_of_ble_eq_true rfl) ?_
  refine z_pick (lv' := [(0, .ref (b + 23))]) [0] rfl ?_
  refine z_iconst (v := 0) kd_U_reduceAll_0 (by decide) ?_
  refine z_istore_n (lv' := [(1, .int _), (0, .ref (b + 23))]) kd_U_reduceAll_1 (by decide) rfl ?_
  refine z_pick (lv' := [(1, .int (nI 0)), (0, .ref (b + 23))]) [0, 1] rfl ?_
  exact l_U_reduceAllO ht0 ht1 ht3 (x := x) hn n 0 σ M (by omega) hS h23 Fr.rf rfl
