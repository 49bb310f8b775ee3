set_option maxHeartbeats 4000000 in
set_option maxRecDepth 100000 in
theorem l_U_measure {l : Launch} {D : va_G} {tys : List (ClassId × FieldType)} {b N : Nat} {σ0 : Nat → Option va_E} {cn : Value} {od : Int64} {val : Int64 × Int64 × Int64} : ∀ (m s : Nat) (σ : Nat → Option va_E) (d oT pT c tO tP : Int64), s + m = 128 → σ 23 = some (.inr (6, [cn, .ref (b + 24), .ref (b + 1), .ref (b + 19), .ref (b + 7), .long od, .long c, .long tP, .long tO])) → Fr 23 23 σ0 σ → msL m d oT pT c tO tP = val → Z l D kCl tys (kh_U_measure :: zT) kNw ky_U_measure.cls ky_U_measure.name kb_U_measure 20 none { frames := 1, cells := 0, slots := 0, locals := 40 } b (zFi D kCl b 0 0 (fun oc N' σ' => oc = .returned none ∧ N' = N ∧ σ' 23 = some (.inr (6, [cn, .ref (b + 24), .ref (b + 1), .ref (b + 19), .ref (b + 7), .long od, .long (val).1, .long (rdV od (val).2.1), .long (rdV od (val).2.2)])) ∧ Fr 23 23 σ0 σ')) 0 0 N (σ) 27 [(11, .int (nI s)), (9, .long pT), (7, .long oT), (5, .long d), (0, .ref (b + 23))] [] := by
  intro m
  induction m with
  | zero =>
    intro s σ d oT pT c tO tP hs h23 hF hv
    obtain rfl : s = 128 := by omega
    have hv : (c, tP, tO) = val := hv
    subst hv
    refine z_iload kd_U_measure_27 0 rfl ?_
    refine z_sipush (v := 128) kd_U_measure_29 (by decide +kernel) ?_
    refine z_icmp_ge (tgt := 123) kd_U_measure_32 (by decide) (fun c32 => ?_) (fun c32 => ?_)
    · refine z_aload_n kd_U_measure_123 4 rfl ?_
      refine z_aload_n kd_U_measure_124 4 rfl ?_
      refine z_aload_n kd_U_measure_125 4 rfl ?_
      refine z_get kd_U_measure_126 (kf_U_100 _) h23 rfl ?_
      refine z_V1 (a := 23) (As := [_]) kd_U_measure_129 (kg_U_78 _) h23 kc_U (c_U_reduced h23) rfl rfl (Nat.le_of_ble_eq_true rfl) ⟨Nat.le_of_ble_eq_true rfl, Nat.le_of_ble_eq_true rfl⟩ ⟨Nat.le_of_ble_eq_true rfl, Nat.le_of_ble_eq_true rfl⟩ ?_
      refine z_putE (fs' := [_, _, _, _, _, _, _, _, _]) kd_U_measure_132 (kp_U_100 _) h23 (Nat.le_of_ble_eq_true rfl) rfl rfl rfl ?_
      refine z_upd (fun σ_1 x23_1 q_1 => ?_)
      refine z_aload_n kd_U_measure_135 4 rfl ?_
      refine z_aload_n kd_U_measure_136 4 rfl ?_
      refine z_aload_n kd_U_measure_137 4 rfl ?_
      refine z_get kd_U_measure_138 (kf_U_106 _) x23_1 rfl ?_
      refine z_V1 (a := 23) (As := [_]) kd_U_measure_141 (kg_U_78 _) x23_1 kc_U (c_U_reduced x23_1) rfl rfl (Nat.le_of_ble_eq_true rfl) ⟨Nat.le_of_ble_eq_true rfl, Nat.le_of_ble_eq_true rfl⟩ ⟨Nat.le_of_ble_eq_true rfl, Nat.le_of_ble_eq_true rfl⟩ ?_
      refine z_putE (fs' := [_, _, _, _, _, _, _, _, _]) kd_U_measure_144 (kp_U_106 _) x23_1 (Nat.le_of_ble_eq_true rfl) rfl rfl rfl ?_
      refine z_upd (fun σ_2 x23_2 q_2 => ?_)
      exact z_vret kd_U_measure_147 rfl (Nat.le_of_ble_eq_true rfl) (Nat.le_of_ble_eq_true rfl) ⟨rfl, rfl, x23_2, (Fr.tr (Fr.tr hF (q_1.wide (by omega) (by omega))) (q_2.wide (by omega) (by omega)))⟩
    · exact absurd (nI_le (a := 128) (Nat.le_refl 128) (by decide)) c32
  | succ m ih =>
    intro s σ d oT pT c tO tP hs h23 hF hv
    unfold msL at hv
    refine z_iload kd_U_measure_27 0 rfl ?_
    refine z_sipush (v := 128) kd_U_measure_29 (by decide +kernel) ?_
    refine z_icmp_ge (tgt := 123) kd_U_measure_32 (by decide) (fun c32 => ?_) (fun c32 => ?_)
    · exact absurd c32 (nI_ge (b := 128) (by omega) (by decide))
    · refine z_lload kd_U_measure_35 3 rfl ?_
      refine z_lconst (v := 0) kd_U_measure_37 (by decide +kernel) ?_
      refine z_lcmp kd_U_measure_38 ?_
      refine z_if_eq (tgt := 123) kd_U_measure_39 (by decide) (fun c39 => ?_) (fun c39 => ?_)
      · rw [if_pos ((lg_cmp_0 _ _).mp c39)] at hv
        subst hv
        refine z_aload_n kd_U_measure_123 4 rfl ?_
        refine z_aload_n kd_U_measure_124 4 rfl ?_
        refine z_aload_n kd_U_measure_125 4 rfl ?_
        refine z_get kd_U_measure_126 (kf_U_100 _) h23 rfl ?_
        refine z_V1 (a := 23) (As := [_]) kd_U_measure_129 (kg_U_78 _) h23 kc_U (c_U_reduced h23) rfl rfl (Nat.le_of_ble_eq_true rfl) ⟨Nat.le_of_ble_eq_true rfl, Nat.le_of_ble_eq_true rfl⟩ ⟨Nat.le_of_ble_eq_true rfl, Nat.le_of_ble_eq_true rfl⟩ ?_
        refine z_putE (fs' := [_, _, _, _, _, _, _, _, _]) kd_U_measure_132 (kp_U_100 _) h23 (Nat.le_of_ble_eq_true rfl) rfl rfl rfl ?_
        refine z_upd (fun σ_1 x23_1 q_1 => ?_)
        refine z_aload_n kd_U_measure_135 4 rfl ?_
        refine z_aload_n kd_U_measure_136 4 rfl ?_
        refine z_aload_n kd_U_measure_137 4 rfl ?_
        refine z_get kd_U_measure_138 (kf_U_106 _) x23_1 rfl ?_
        refine z_V1 (a := 23) (As := [_]) kd_U_measure_141 (kg_U_78 _) x23_1 kc_U (c_U_reduced x23_1) rfl rfl (Nat.le_of_ble_eq_true rfl) ⟨Nat.le_of_ble_eq_true rfl, Nat.le_of_ble_eq_true rfl⟩ ⟨Nat.le_of_ble_eq_true rfl, Nat.le_of_ble_eq_true rfl⟩ ?_
        refine z_putE (fs' := [_, _, _, _, _, _, _, _, _]) kd_U_measure_144 (kp_U_106 _) x23_1 (Nat.le_of_ble_eq_true rfl) rfl rfl rfl ?_
        refine z_upd (fun σ_2 x23_2 q_2 => ?_)
        exact z_vret kd_U_measure_147 rfl (Nat.le_of_ble_eq_true rfl) (Nat.le_of_ble_eq_true rfl) ⟨rfl, rfl, x23_2, (Fr.tr (Fr.tr hF (q_1.wide (by omega) (by omega))) (q_2.wide (by omega) (by omega)))⟩
      · have hne : ¬ d = 0 := fun q => c39 ((lg_cmp_0 _ _).mpr q)
        rw [if_neg hne] at hv
        refine z_aload_n kd_U_measure_42 4 rfl ?_
        refine z_get kd_U_measure_43 (kf_U_97 _) h23 rfl ?_
        refine z_lload kd_U_measure_46 3 rfl ?_
        refine z_ldiv kd_U_measure_48 hne ?_
        refine z_lstore (lv' := [(12, .long _), (11, .int _), (9, .long _), (7, .long _), (5, .long _), (0, .ref (b + 23))]) kd_U_measure_49 (by decide) rfl ?_
        refine z_aload_n kd_U_measure_51 5 rfl ?_
        refine z_get kd_U_measure_52 (kf_U_97 _) h23 rfl ?_
        refine z_lload kd_U_measure_55 0 rfl ?_
        refine z_lload kd_U_measure_57 4 rfl ?_
        refine z_lmul kd_U_measure_59 ?_
        refine z_lsub kd_U_measure_60 ?_
        refine z_lstore (lv' := [(14, .long _), (12, .long _), (11, .int _), (9, .long _), (7, .long _), (5, .long _), (0, .ref (b + 23))]) kd_U_measure_61 (by decide) rfl ?_
        refine z_aload_n kd_U_measure_63 6 rfl ?_
        refine z_get kd_U_measure_64 (kf_U_106 _) h23 rfl ?_
        refine z_lload kd_U_measure_67 1 rfl ?_
        refine z_lload kd_U_measure_69 4 rfl ?_
        refine z_lmul kd_U_measure_71 ?_
        refine z_lsub kd_U_measure_72 ?_
        refine z_lstore (lv' := [(16, .long _), (14, .long _), (12, .long _), (11, .int _), (9, .long _), (7, .long _), (5, .long _), (0, .ref (b + 23))]) kd_U_measure_73 (by decide) rfl ?_
        refine z_aload_n kd_U_measure_75 7 rfl ?_
        refine z_get kd_U_measure_76 (kf_U_100 _) h23 rfl ?_
        refine z_lload kd_U_measure_79 2 rfl ?_
        refine z_lload kd_U_measure_81 4 rfl ?_
        refine z_lmul kd_U_measure_83 ?_
        refine z_lsub kd_U_measure_84 ?_
        refine z_lstore (lv' := [(18, .long _), (16, .long _), (14, .long _), (12, .long _), (11, .int _), (9, .long _), (7, .long _), (5, .long _), (0, .ref (b + 23))]) kd_U_measure_85 (by decide) rfl ?_
        refine z_aload_n kd_U_measure_87 8 rfl ?_
        refine z_lload kd_U_measure_88 7 rfl ?_
        refine z_putE (fs' := [_, _, _, _, _, _, _, _, _]) kd_U_measure_90 (kp_U_97 _) h23 (Nat.le_of_ble_eq_true rfl) rfl rfl rfl ?_
        refine z_upd (fun σ_3 x23_3 q_3 => ?_)
        refine z_aload_n kd_U_measure_93 8 rfl ?_
        refine z_lload kd_U_measure_94 6 rfl ?_
        refine z_putE (fs' := [_, _, _, _, _, _, _, _, _]) kd_U_measure_96 (kp_U_106 _) x23_3 (Nat.le_of_ble_eq_true rfl) rfl rfl rfl ?_
        refine z_upd (fun σ_4 x23_4 q_4 => ?_)
        refine z_aload_n kd_U_measure_99 8 rfl ?_
        refine z_lload kd_U_measure_100 5 rfl ?_
        refine z_putE (fs' := [_, _, _, _, _, _, _, _, _]) kd_U_measure_102 (kp_U_100 _) x23_4 (Nat.le_of_ble_eq_true rfl) rfl rfl rfl ?_
        refine z_upd (fun σ_5 x23_5 q_5 => ?_)
        refine z_lload kd_U_measure_105 2 rfl ?_
        refine z_lstore (lv' := [(5, .long _), (18, .long _), (16, .long _), (14, .long _), (12, .long _), (11, .int _), (9, .long _), (7, .long _), (0, .ref (b + 23))]) kd_U_measure_107 (by decide) rfl ?_
        refine z_lload kd_U_measure_109 2 rfl ?_
        refine z_lstore (lv' := [(7, .long _), (5, .long _), (18, .long _), (16, .long _), (14, .long _), (12, .long _), (11, .int _), (9, .long _), (0, .ref (b + 23))]) kd_U_measure_111 (by decide) rfl ?_
        refine z_lload kd_U_measure_113 2 rfl ?_
        refine z_lstore (lv' := [(9, .long _), (7, .long _), (5, .long _), (18, .long _), (16, .long _), (14, .long _), (12, .long _), (11, .int _), (0, .ref (b + 23))]) kd_U_measure_115 (by decide) rfl ?_
        refine z_iinc (v := (nI (s + 1))) (lv' := [(11, .int _), (9, .long _), (7, .long _), (5, .long _), (18, .long _), (16, .long _), (14, .long _), (12, .long _), (0, .ref (b + 23))]) kd_U_measure_117 7 rfl (nI_1 _) (by decide) rfl ?_
        refine z_goto (tgt := 27) kd_U_measure_120 (by decide) ?_
        refine z_pick (lv' := [(11, .int (nI (s + 1))), (9, .long _), (7, .long _), (5, .long _), (0, .ref (b + 23))]) [0, 1, 2, 3, 8] rfl ?_
        exact ih (s + 1) _ _ _ _ _ _ _ (by omega) x23_5 (Fr.tr (Fr.tr (Fr.tr hF (q_3.wide (by omega) (by omega))) (q_4.wide (by omega) (by omega))) (q_5.wide (by omega) (by omega))) hv
set_option maxHeartbeats 4000000 in
set_option maxRecDepth 100000 in
theorem c_U_measure {l : Launch} {D : va_G} {tys : List (ClassId × FieldType)} {b N : Nat} {σ : Nat → Option va_E} {cn cm tp to : Value} {od : Int64} (h23 : σ 23 = some (.inr (6, [cn, .ref (b + 24), .ref (b + 1), .ref (b + 19), .ref (b + 7), .long od, cm, tp, to]))) {x y : Int64} : zM l D kCl tys kNw b ky_U_measure (kh_U_measure :: zT) 1 40 0 0 [.ref (b + 23), .long x, .long y] N σ ((fun oc N' σ' => oc = .returned none ∧ N' = N ∧ σ' 23 = some (.inr (6, [cn, .ref (b + 24), .ref (b + 1), .ref (b + 19), .ref (b + 7), .long od, .long (msV x y).1, .long (rdV od (msV x y).2.1), .long (rdV od (msV x y).2.2)])) ∧ Fr 23 23 σ σ')) := by
  refine zM.of (by decide +kernel) rfl (Nat.le_of_ble_eq_true rfl) ?_
  refine z_pick (lv' := [(0, .ref (b + 23)), (1, .long x), (3, .long y)]) [0, 1, 2] rfl ?_
  refine z_lload_n kd_U_measure_0 1 rfl ?_
  refine z_lstore (lv' := [(5, .long _), (0, .ref (b + 23)), (1, .long _), (3, .long _)]) kd_U_measure_1 (by decide) rfl ?_
  refine z_lconst (v := 0) kd_U_measure_3 (by decide +kernel) ?_
  refine z_lstore (lv' := [(7, .long _), (5, .long _), (0, .ref (b + 23)), (1, .long _), (3, .long _)]) kd_U_measure_4 (by decide) rfl ?_
  refine z_lconst (v := 1) kd_U_measure_6 (by decide +kernel) ?_
  refine z_lstore (lv' := [(9, .long _), (7, .long _), (5, .long _), (0, .ref (b + 23)), (1, .long _), (3, .long _)]) kd_U_measure_7 (by decide) rfl ?_
  refine z_aload_n kd_U_measure_9 3 rfl ?_
  refine z_lload_n kd_U_measure_10 5 rfl ?_
  refine z_putE (fs' := [_, _, _, _, _, _, _, _, _]) kd_U_measure_11 (kp_U_97 _) h23 (Nat.le_of_ble_eq_true rfl) rfl rfl rfl ?_
  refine z_upd (fun σ_1 x23_1 q_1 => ?_)
  refine z_aload_n kd_U_measure_14 3 rfl ?_
  refine z_lconst (v := 1) kd_U_measure_15 (by decide +kernel) ?_
  refine z_putE (fs' := [_, _, _, _, _, _, _, _, _]) kd_U_measure_16 (kp_U_106 _) x23_1 (Nat.le_of_ble_eq_true rfl) rfl rfl rfl ?_
  refine z_upd (fun σ_2 x23_2 q_2 => ?_)
  refine z_aload_n kd_U_measure_19 3 rfl ?_
  refine z_lconst (v := 0) kd_U_measure_20 (by decide +kernel) ?_
  refine z_putE (fs' := [_, _, _, _, _, _, _, _, _]) kd_U_measure_21 (kp_U_100 _) x23_2 (Nat.le_of_ble_eq_true rfl) rfl rfl rfl ?_
  refine z_upd (fun σ_3 x23_3 q_3 => ?_)
  refine z_iconst (v := 0) kd_U_measure_24 (by decide) ?_
  refine z_istore (lv' := [(11, .int _), (9, .long _), (7, .long _), (5, .long _), (0, .ref (b + 23)), (1, .long _), (3, .long _)]) kd_U_measure_25 (by decide) rfl ?_
  refine z_pick (lv' := [(11, .int (nI 0)), (9, .long 1), (7, .long 0), (5, .long x), (0, .ref (b + 23))]) [0, 1, 2, 3, 4] rfl ?_
  exact l_U_measure 128 0 _ _ _ _ _ _ _ (by omega) x23_3 (Fr.tr (Fr.tr (Fr.tr Fr.rf (q_1.wide (by omega) (by omega))) (q_2.wide (by omega) (by omega))) (q_3.wide (by omega) (by omega))) rfl
def rwL (M : Nat → Nat → Int64) (x : Nat) : Nat → Nat → Int32
  | 0, _ => 1
  | m + 1, c => if M x c = 0 then rwL M x m (c + 1) else 0
def rwV (M : Nat → Nat → Int64) (n x : Nat) : Int32 := rwL M x (n - (x + 1)) (x + 1)
def tpI (row : Nat) : Nat → Nat → (Nat → Nat → Int64) → Nat → Nat → Int64
  | 0, _, M => M
  | m + 1, c, M => tpI row m (c + 1) (mset (mset M row c (M c row)) c row (M row c))
def tpO (n : Nat) : Nat → Nat → (Nat → Nat → Int64) → Nat → Nat → Int64
  | 0, _, M => M
  | m + 1, row, M => tpO n m (row + 1) (tpI row (n - (row + 1)) (row + 1) M)
def tpV (n x : Nat) (M : Nat → Nat → Int64) : Nat → Nat → Int64 := tpO n (n - x) x M
def raI (od : Int64) (row : Nat) : Nat → Nat → (Nat → Nat → Int64) → Nat → Nat → Int64
  | 0, _, M => M
  | m + 1, c, M => raI od row m (c + 1) (mset M row c (rdV od (M row c)))
def raO (od : Int64) (n : Nat) : Nat → Nat → (Nat → Nat → Int64) → Nat → Nat → Int64
  | 0, _, M => M
  | m + 1, row, M => raO od n m (row + 1) (raI od row n 0 M)
def mxI (od tP tO sh os : Int64) (x y : Nat) : Nat → Nat → (Nat → Nat → Int64) → Nat → Nat → Int64
  | 0, _, M => M
  | m + 1, c, M => mxI od tP tO sh os x y m (c + 1) (mset (mset M x c (rdV od (tmV od tP (M x c) + tmV od tO (M y c)))) y c (rdV od (tmV od sh (M y c) - tmV od os (M x c))))
def mxV (od : Int64) (n x y : Nat) (M : Nat → Nat → Int64) : Nat → Nat → Int64 := if (msV (M x x) (M y x)).1 = 0 then M else mxI od (rdV od (msV (M x x) (M y x)).2.1) (rdV od (msV (M x x) (M y x)).2.2) (M x x / (msV (M x x) (M y x)).1) (M y x / (msV (M x x) (M y x)).1) x y (n - x) x M
set_option maxHeartbeats 4000000 in
set_option maxRecDepth 100000 in
theorem l_U_rw {l : Launch} {D : va_G} {tys : List (ClassId × FieldType)} {b N : Nat} {σ : Nat → Option va_E} {cI cJ cA : ClassId} (ht0 : tys[0]? = some (cI, .int)) (ht1 : tys[1]? = some (cJ, .long)) (ht3 : tys[3]? = some (cA, .array .long)) {n x : Nat} (hn : n ≤ 10) (hx : x < n) {M : Nat → Nat → Int64} {cn cm tp to : Value} {od : Int64} (h23 : σ 23 = some (.inr (6, [cn, .ref (b + 24), .ref (b + 1), .ref (b + 19), .ref (b + 7), .long od, cm, tp, to]))) {R : Room} {val : Int32} (hS : GS b cA cJ σ (nI n) M) : ∀ (m c : Nat), c + m = n → rwL M x m c = val → Z l D kCl tys (kh_U_isRowClear :: zT) kNw ky_U_isRowClear.cls ky_U_isRowClear.name kb_U_isRowClear 3 (some FieldType.boolean) R b (zFi D kCl b 0 0 (zD (some (.int val)) N σ)) 0 0 N (σ) 4 [(2, .int (nI c)), (0, .ref (b + 23)), (1, .int (nI x))] [] := by
  obtain ⟨h7, f, r, hG⟩ := id hS
  intro m
  induction m with
  | zero =>
    intro c hc hv
    obtain rfl : c = n := by omega
    have hv : (1 : Int32) = val := hv
    subst hv
    refine z_iload_n kd_U_isRowClear_4 0 rfl ?_
    refine z_aload_n kd_U_isRowClear_5 1 rfl ?_
    refine z_get kd_U_isRowClear_6 (kf_U_23 _) h23 rfl ?_
    refine z_get kd_U_isRowClear_9 (kf_U_61 _) hS.1 rfl ?_
    refine z_icmp_ge (tgt := 39) kd_U_isRowClear_12 (by decide) (fun c12 => ?_) (fun c12 => ?_)
    · refine z_iconst (v := 1) kd_U_isRowClear_39 (by decide) ?_
      exact z_zret kd_U_isRowClear_40 rfl rfl (Nat.le_of_ble_eq_true rfl) (Nat.le_of_ble_eq_true rfl) ⟨rfl, rfl, rfl⟩
    · exact absurd (nI_le (Nat.le_refl c) (by omega)) c12
  | succ m ih =>
    intro c hc hv
    unfold rwL at hv
    refine z_iload_n kd_U_isRowClear_4 0 rfl ?_
    refine z_aload_n kd_U_isRowClear_5 1 rfl ?_
    refine z_get kd_U_isRowClear_6 (kf_U_23 _) h23 rfl ?_
    refine z_get kd_U_isRowClear_9 (kf_U_61 _) hS.1 rfl ?_
    refine z_icmp_ge (tgt := 39) kd_U_isRowClear_12 (by decide) (fun c12 => ?_) (fun c12 => ?_)
    · exact absurd c12 (nI_ge (by omega) (by omega))
    · refine z_aload_n kd_U_isRowClear_15 1 rfl ?_
      refine z_get kd_U_isRowClear_16 (kf_U_23 _) h23 rfl ?_
      refine z_get kd_U_isRowClear_19 (kf_U_67 _) hS.1 rfl ?_
      refine z_iload_n kd_U_isRowClear_22 2 rfl ?_
      refine z_gal kd_U_isRowClear_23 ht3 hG (by omega) ?_
      refine z_iload_n kd_U_isRowClear_24 0 rfl ?_
      refine z_gld kd_U_isRowClear_25 ht1 hG (by omega) (by omega) ?_
      refine z_lconst (v := 0) kd_U_isRowClear_26 (by decide +kernel) ?_
      refine z_lcmp kd_U_isRowClear_27 ?_
      refine z_if_eq (tgt := 33) kd_U_isRowClear_28 (by decide) (fun c28 => ?_) (fun c28 => ?_)
      · rw [if_pos ((lg_cmp_0 _ _).mp c28)] at hv
        refine z_iinc (v := (nI (c + 1))) (lv' := [(2, .int _), (0, .ref (b + 23)), (1, .int _)]) kd_U_isRowClear_33 0 rfl (nI_1 _) (by decide) rfl ?_
        refine z_goto (tgt := 4) kd_U_isRowClear_36 (by decide) ?_
        refine z_pick (lv' := [(2, .int (nI (c + 1))), (0, .ref (b + 23)), (1, .int (nI x))]) [0, 1, 2] rfl ?_
        exact ih (c + 1) (by omega) hv
      · rw [if_neg (fun q => c28 ((lg_cmp_0 _ _).mpr q))] at hv
        subst hv
        refine z_iconst (v := 0) kd_U_isRowClear_31 (by decide) ?_
        exact z_zret kd_U_isRowClear_32 rfl rfl (Nat.le_of_ble_eq_true rfl) (Nat.le_of_ble_eq_true rfl) ⟨rfl, rfl, rfl⟩
set_option maxHeartbeats 4000000 in
set_option maxRecDepth 100000 in
theorem c_U_isRowClear {l : Launch} {D : va_G} {tys : List (ClassId × FieldType)} {b N : Nat} {σ : Nat → Option va_E} {cI cJ cA : ClassId} (ht0 : tys[0]? = some (cI, .int)) (ht1 : tys[1]? = some (cJ, .long)) (ht3 : tys[3]? = some (cA, .array .long)) {n x : Nat} (hn : n ≤ 10) (hx : x < n) {M : Nat → Nat → Int64} {cn cm tp to : Value} {od : Int64} (h23 : σ 23 = some (.inr (6, [cn, .ref (b + 24), .ref (b + 1), .ref (b + 19), .ref (b + 7), .long od, cm, tp, to]))) (hS : GS b cA cJ σ (nI n) M) : zM l D kCl tys kNw b ky_U_isRowClear (kh_U_isRowClear :: zT) 0 0 0 0 [.ref (b + 23), .int (nI x)] N σ (zD (some (.int (rwV M n x))) N σ) := by
  refine zM.of (by decide +kernel) rfl (Nat.le_of_ble_eq_true rfl) ?_
  refine z_pick (lv' := [(0, .ref (b + 23)), (1, .int (nI x))]) [0, 1] rfl ?_
  refine z_iload_n kd_U_isRowClear_0 1 rfl ?_
  refine z_iconst (v := 1) kd_U_isRowClear_1 (by decide) ?_
  refine z_iadd kd_U_isRowClear_2 ?_
  refine z_topi (nI_add x 1) ?_
  refine z_istore_n (lv' := [(2, .int _), (0, .ref (b + 23)), (1, .int _)]) kd_U_isRowClear_3 (by decide) rfl ?_
  exact l_U_rw ht0 ht1 ht3 hn hx h23 hS (n - (x + 1)) (x + 1) (by omega) rfl
