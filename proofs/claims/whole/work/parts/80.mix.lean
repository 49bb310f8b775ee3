set_option maxHeartbeats 4000000 in
set_option maxRecDepth 100000 in
theorem l_U_mix {l : Launch} {D : va_G} {tys : List (ClassId × FieldType)} {b N : Nat} {σ0 : Nat → Option va_E} {cI cJ cA : ClassId} (ht0 : tys[0]? = some (cI, .int)) (ht1 : tys[1]? = some (cJ, .long)) (ht3 : tys[3]? = some (cA, .array .long)) {n x y : Nat} (hn : n ≤ 10) (hx : x < n) (hy : y < n) {cn cm : Value} {od tP tO sh os : Int64} {Mf : Nat → Nat → Int64} {Q : Outcome → Nat → (Nat → Option va_E) → Prop} (hQ : ∀ σ, GS b cA cJ σ (nI n) (Mf) → σ 23 = some (.inr (6, [cn, .ref (b + 24), .ref (b + 1), .ref (b + 19), .ref (b + 7), .long od, cm, .long tP, .long tO])) → Fr 7 18 σ0 σ → Q (.returned none) N σ) : ∀ (m c : Nat) (σ : Nat → Option va_E) (M : Nat → Nat → Int64), c + m = n → GS b cA cJ σ (nI n) (M) → σ 23 = some (.inr (6, [cn, .ref (b + 24), .ref (b + 1), .ref (b + 19), .ref (b + 7), .long od, cm, .long tP, .long tO])) → Fr 7 18 σ0 σ → mxI od tP tO sh os x y m c M = Mf → Z l D kCl tys (kh_U_mixRows :: zT) kNw ky_U_mixRows.cls ky_U_mixRows.name kb_U_mixRows 16 none { frames := 2, cells := 0, slots := 0, locals := 100 } b (zFi D kCl b 0 0 Q) 0 0 N (σ) 62 [(11, .int (nI c)), (9, .long os), (7, .long sh), (0, .ref (b + 23)), (1, .int (nI x)), (2, .int (nI y))] [] := by
  intro m
  induction m with
  | zero =>
    intro c σ M hcm hS h23 hF hv
    obtain rfl : c = n := by omega
    have hv : M = Mf := hv
    subst hv
    refine z_iload kd_U_mixRows_62 0 rfl ?_
    refine z_aload_n kd_U_mixRows_64 3 rfl ?_
    refine z_get kd_U_mixRows_65 (kf_U_23 _) h23 rfl ?_
    refine z_get kd_U_mixRows_68 (kf_U_61 _) hS.1 rfl ?_
    refine z_icmp_ge (tgt := 178) kd_U_mixRows_71 (by decide) (fun c71 => ?_) (fun c71 => ?_)
    · exact z_vret kd_U_mixRows_178 rfl (Nat.le_of_ble_eq_true rfl) (Nat.le_of_ble_eq_true rfl) (hQ σ hS h23 hF)
    · exact absurd (nI_le (Nat.le_refl c) (by omega)) c71
  | succ m ih =>
    intro c σ M hcm hS h23 hF hv
    have hlt : c < n := by omega
    obtain ⟨h7, f, r, hG⟩ := id hS
    refine z_iload kd_U_mixRows_62 0 rfl ?_
    refine z_aload_n kd_U_mixRows_64 3 rfl ?_
    refine z_get kd_U_mixRows_65 (kf_U_23 _) h23 rfl ?_
    refine z_get kd_U_mixRows_68 (kf_U_61 _) hS.1 rfl ?_
    refine z_icmp_ge (tgt := 178) kd_U_mixRows_71 (by decide) (fun c71 => ?_) (fun c71 => ?_)
    · exact absurd c71 (nI_ge hlt (by omega))
    · refine z_aload_n kd_U_mixRows_74 3 rfl ?_
      refine z_get kd_U_mixRows_75 (kf_U_23 _) h23 rfl ?_
      refine z_get kd_U_mixRows_78 (kf_U_67 _) hS.1 rfl ?_
      refine z_iload_n kd_U_mixRows_81 4 rfl ?_
      refine z_gal kd_U_mixRows_82 ht3 hG (by omega) ?_
      refine z_iload kd_U_mixRows_83 0 rfl ?_
      refine z_gld kd_U_mixRows_85 ht1 hG (by omega) (by omega) ?_
      refine z_lstore (lv' := [(12, .long _), (11, .int _), (9, .long _), (7, .long _), (0, .ref (b + 23)), (1, .int _), (2, .int _)]) kd_U_mixRows_86 (by decide) rfl ?_
      refine z_aload_n kd_U_mixRows_88 4 rfl ?_
      refine z_get kd_U_mixRows_89 (kf_U_23 _) h23 rfl ?_
      refine z_get kd_U_mixRows_92 (kf_U_67 _) hS.1 rfl ?_
      refine z_iload_n kd_U_mixRows_95 6 rfl ?_
      refine z_gal kd_U_mixRows_96 ht3 hG (by omega) ?_
      refine z_iload kd_U_mixRows_97 1 rfl ?_
      refine z_gld kd_U_mixRows_99 ht1 hG (by omega) (by omega) ?_
      refine z_lstore (lv' := [(14, .long _), (12, .long _), (11, .int _), (9, .long _), (7, .long _), (0, .ref (b + 23)), (1, .int _), (2, .int _)]) kd_U_mixRows_100 (by decide) rfl ?_
      refine z_aload_n kd_U_mixRows_102 5 rfl ?_
      refine z_get kd_U_mixRows_103 (kf_U_23 _) h23 rfl ?_
      refine z_get kd_U_mixRows_106 (kf_U_67 _) hS.1 rfl ?_
      refine z_iload_n kd_U_mixRows_109 6 rfl ?_
      refine z_gal kd_U_mixRows_110 ht3 hG (by omega) ?_
      refine z_iload kd_U_mixRows_111 2 rfl ?_
      refine z_aload_n kd_U_mixRows_113 5 rfl ?_
      refine z_aload_n kd_U_mixRows_114 5 rfl ?_
      refine z_aload_n kd_U_mixRows_115 5 rfl ?_
      refine z_get kd_U_mixRows_116 (kf_U_100 _) h23 rfl ?_
      refine z_lload kd_U_mixRows_119 1 rfl ?_
      refine z_V1 (a := 23) (As := [_, _]) kd_U_mixRows_121 (kg_U_103 _) h23 kc_U (c_U_times h23) rfl rfl (Nat.le_of_ble_eq_true rfl) ⟨Nat.le_of_ble_eq_true rfl, Nat.le_of_ble_eq_true rfl⟩ ⟨Nat.le_of_ble_eq_true rfl, Nat.le_of_ble_eq_true rfl⟩ ?_
      refine z_aload_n kd_U_mixRows_124 5 rfl ?_
      refine z_aload_n kd_U_mixRows_125 5 rfl ?_
      refine z_get kd_U_mixRows_126 (kf_U_106 _) h23 rfl ?_
      refine z_lload kd_U_mixRows_129 0 rfl ?_
      refine z_V1 (a := 23) (As := [_, _]) kd_U_mixRows_131 (kg_U_103 _) h23 kc_U (c_U_times h23) rfl rfl (Nat.le_of_ble_eq_true rfl) ⟨Nat.le_of_ble_eq_true rfl, Nat.le_of_ble_eq_true rfl⟩ ⟨Nat.le_of_ble_eq_true rfl, Nat.le_of_ble_eq_true rfl⟩ ?_
      refine z_ladd kd_U_mixRows_134 ?_
      refine z_V1 (a := 23) (As := [_]) kd_U_mixRows_135 (kg_U_78 _) h23 kc_U (c_U_reduced h23) rfl rfl (Nat.le_of_ble_eq_true rfl) ⟨Nat.le_of_ble_eq_true rfl, Nat.le_of_ble_eq_true rfl⟩ ⟨Nat.le_of_ble_eq_true rfl, Nat.le_of_ble_eq_true rfl⟩ ?_
      refine z_gst kd_U_mixRows_138 ht1 hG (by omega) (by omega) (fun σ_1 g_1 q_1 => ?_)
      have x23_1 := (q_1 23 (by omega)).trans h23
      have hS_1 : GS _ _ _ _ _ _ := ⟨(q_1 7 (by omega)).trans hS.1, f, r, g_1⟩
      refine z_aload_n kd_U_mixRows_139 5 rfl ?_
      refine z_get kd_U_mixRows_140 (kf_U_23 _) x23_1 rfl ?_
      refine z_get kd_U_mixRows_143 (kf_U_67 _) hS_1.1 rfl ?_
      refine z_iload_n kd_U_mixRows_146 7 rfl ?_
      refine z_gal kd_U_mixRows_147 ht3 g_1 (by omega) ?_
      refine z_iload kd_U_mixRows_148 2 rfl ?_
      refine z_aload_n kd_U_mixRows_150 5 rfl ?_
      refine z_aload_n kd_U_mixRows_151 5 rfl ?_
      refine z_lload kd_U_mixRows_152 4 rfl ?_
      refine z_lload kd_U_mixRows_154 0 rfl ?_
      refine z_V1 (a := 23) (As := [_, _]) kd_U_mixRows_156 (kg_U_103 _) x23_1 kc_U (c_U_times x23_1) rfl rfl (Nat.le_of_ble_eq_true rfl) ⟨Nat.le_of_ble_eq_true rfl, Nat.le_of_ble_eq_true rfl⟩ ⟨Nat.le_of_ble_eq_true rfl, Nat.le_of_ble_eq_true rfl⟩ ?_
      refine z_aload_n kd_U_mixRows_159 5 rfl ?_
      refine z_lload kd_U_mixRows_160 3 rfl ?_
      refine z_lload kd_U_mixRows_162 1 rfl ?_
      refine z_V1 (a := 23) (As := [_, _]) kd_U_mixRows_164 (kg_U_103 _) x23_1 kc_U (c_U_times x23_1) rfl rfl (Nat.le_of_ble_eq_true rfl) ⟨Nat.le_of_ble_eq_true rfl, Nat.le_of_ble_eq_true rfl⟩ ⟨Nat.le_of_ble_eq_true rfl, Nat.le_of_ble_eq_true rfl⟩ ?_
      refine z_lsub kd_U_mixRows_167 ?_
      refine z_V1 (a := 23) (As := [_]) kd_U_mixRows_168 (kg_U_78 _) x23_1 kc_U (c_U_reduced x23_1) rfl rfl (Nat.le_of_ble_eq_true rfl) ⟨Nat.le_of_ble_eq_true rfl, Nat.le_of_ble_eq_true rfl⟩ ⟨Nat.le_of_ble_eq_true rfl, Nat.le_of_ble_eq_true rfl⟩ ?_
      refine z_gst kd_U_mixRows_171 ht1 g_1 (by omega) (by omega) (fun σ_2 g_2 q_2 => ?_)
      have x23_2 := (q_2 23 (by omega)).trans x23_1
      have hS_2 : GS _ _ _ _ _ _ := ⟨(q_2 7 (by omega)).trans hS_1.1, f, r, g_2⟩
      refine z_iinc (v := (nI (c + 1))) (lv' := [(11, .int _), (14, .long _), (12, .long _), (9, .long _), (7, .long _), (0, .ref (b + 23)), (1, .int _), (2, .int _)]) kd_U_mixRows_172 2 rfl (nI_1 _) (by decide) rfl ?_
      refine z_goto (tgt := 62) kd_U_mixRows_175 (by decide) ?_
      refine z_pick (lv' := [(11, .int (nI (c + 1))), (9, .long os), (7, .long sh), (0, .ref (b + 23)), (1, .int (nI x)), (2, .int (nI y))]) [0, 3, 4, 5, 6, 7] rfl ?_
      exact ih (c + 1) _ _ (by omega) hS_2 x23_2 (Fr.tr (Fr.tr hF (q_1.wide (by omega) (by omega))) (q_2.wide (by omega) (by omega))) hv
set_option maxHeartbeats 4000000 in
set_option maxRecDepth 100000 in
theorem c_U_mixRows {l : Launch} {D : va_G} {tys : List (ClassId × FieldType)} {b N : Nat} {σ : Nat → Option va_E} {cI cJ cA : ClassId} (ht0 : tys[0]? = some (cI, .int)) (ht1 : tys[1]? = some (cJ, .long)) (ht3 : tys[3]? = some (cA, .array .long)) {n x y : Nat} (hn : n ≤ 10) (hx : x < n) (hy : y < n) {M : Nat → Nat → Int64} {cn cm tp to : Value} {od : Int64} (h23 : σ 23 = some (.inr (6, [cn, .ref (b + 24), .ref (b + 1), .ref (b + 19), .ref (b + 7), .long od, cm, tp, to]))) (hS : GS b cA cJ σ (nI n) (M)) : zM l D kCl tys kNw b ky_U_mixRows (kh_U_mixRows :: zT) 2 100 0 0 [.ref (b + 23), .int (nI x), .int (nI y)] N σ ((fun oc N' σ' => oc = .returned none ∧ N' = N ∧ GS b cA cJ σ' (nI n) (mxV od n x y M) ∧ (∃ cm tp to, σ' 23 = some (.inr (6, [cn, .ref (b + 24), .ref (b + 1), .ref (b + 19), .ref (b + 7), .long od, cm, tp, to]))) ∧ F2 7 18 23 23 σ σ')) := by
  refine zM.of (by decide +kernel) rfl (Nat.le_of_ble_eq_true rfl) ?_
  refine z_pick (lv' := [(0, .ref (b + 23)), (1, .int (nI x)), (2, .int (nI y))]) [0, 1, 2] rfl ?_
  obtain ⟨h7, f, r, hG⟩ := id hS
  refine z_aload_n kd_U_mixRows_0 0 rfl ?_
  refine z_get kd_U_mixRows_1 (kf_U_23 _) h23 rfl ?_
  refine z_get kd_U_mixRows_4 (kf_U_67 _) hS.1 rfl ?_
  refine z_iload_n kd_U_mixRows_7 1 rfl ?_
  refine z_gal kd_U_mixRows_8 ht3 hG (by omega) ?_
  refine z_iload_n kd_U_mixRows_9 1 rfl ?_
  refine z_gld kd_U_mixRows_10 ht1 hG (by omega) (by omega) ?_
  refine z_lstore_n (lv' := [(3, .long _), (0, .ref (b + 23)), (1, .int _), (2, .int _)]) kd_U_mixRows_11 (by decide) rfl ?_
  refine z_aload_n kd_U_mixRows_12 1 rfl ?_
  refine z_get kd_U_mixRows_13 (kf_U_23 _) h23 rfl ?_
  refine z_get kd_U_mixRows_16 (kf_U_67 _) hS.1 rfl ?_
  refine z_iload_n kd_U_mixRows_19 3 rfl ?_
  refine z_gal kd_U_mixRows_20 ht3 hG (by omega) ?_
  refine z_iload_n kd_U_mixRows_21 2 rfl ?_
  refine z_gld kd_U_mixRows_22 ht1 hG (by omega) (by omega) ?_
  refine z_lstore (lv' := [(5, .long _), (3, .long _), (0, .ref (b + 23)), (1, .int _), (2, .int _)]) kd_U_mixRows_23 (by decide) rfl ?_
  refine z_aload_n kd_U_mixRows_25 2 rfl ?_
  refine z_lload_n kd_U_mixRows_26 1 rfl ?_
  refine z_lload kd_U_mixRows_27 0 rfl ?_
  refine z_callV (a := 23) (As := [_, _]) kd_U_mixRows_29 (kg_U_93 _) h23 kc_U (c_U_measure h23) rfl rfl (Nat.le_of_ble_eq_true rfl) ⟨Nat.le_of_ble_eq_true rfl, Nat.le_of_ble_eq_true rfl⟩ ⟨Nat.le_of_ble_eq_true rfl, Nat.le_of_ble_eq_true rfl⟩ ?_
  rintro _ _ σ_1 ⟨hv, rfl, x23_1, q_1⟩
  cases hv
  refine z_eq (st' := []) rfl rfl rfl rfl ?_
  have hS_1 := hS.fr q_1 (by omega)
  refine z_aload_n kd_U_mixRows_32 2 rfl ?_
  refine z_get kd_U_mixRows_33 (kf_U_97 _) x23_1 rfl ?_
  refine z_lconst (v := 0) kd_U_mixRows_36 (by decide +kernel) ?_
  refine z_lcmp kd_U_mixRows_37 ?_
  refine z_if_ne (tgt := 42) kd_U_mixRows_38 (by decide) (fun c38 => ?_) (fun c38 => ?_)
  · have hne : ¬ (msV (M x x) (M y x)).1 = 0 := fun q => c38 ((lg_cmp_0 _ _).mpr q)
    refine z_lload_n kd_U_mixRows_42 1 rfl ?_
    refine z_aload_n kd_U_mixRows_43 2 rfl ?_
    refine z_get kd_U_mixRows_44 (kf_U_97 _) x23_1 rfl ?_
    refine z_ldiv kd_U_mixRows_47 hne ?_
    refine z_lstore (lv' := [(7, .long _), (5, .long _), (3, .long _), (0, .ref (b + 23)), (1, .int _), (2, .int _)]) kd_U_mixRows_48 (by decide) rfl ?_
    refine z_lload kd_U_mixRows_50 1 rfl ?_
    refine z_aload_n kd_U_mixRows_52 3 rfl ?_
    refine z_get kd_U_mixRows_53 (kf_U_97 _) x23_1 rfl ?_
    refine z_ldiv kd_U_mixRows_56 hne ?_
    refine z_lstore (lv' := [(9, .long _), (7, .long _), (5, .long _), (3, .long _), (0, .ref (b + 23)), (1, .int _), (2, .int _)]) kd_U_mixRows_57 (by decide) rfl ?_
    refine z_iload_n kd_U_mixRows_59 5 rfl ?_
    refine z_istore (lv' := [(11, .int _), (9, .long _), (7, .long _), (5, .long _), (3, .long _), (0, .ref (b + 23)), (1, .int _), (2, .int _)]) kd_U_mixRows_60 (by decide) rfl ?_
    refine z_pick (lv' := [(11, .int (nI x)), (9, .long _), (7, .long _), (0, .ref (b + 23)), (1, .int (nI x)), (2, .int (nI y))]) [0, 1, 2, 5, 6, 7] rfl ?_
    exact l_U_mix ht0 ht1 ht3 hn hx hy (fun σ' hS' h23' q' => ⟨rfl, rfl, by unfold mxV; rw [if_neg hne]; exact hS', ⟨_, _, _, h23'⟩, (F2.rf.tr q_1 (by omega)).tr q' (by omega)⟩) (n - x) x _ _ (by omega) hS_1 x23_1 Fr.rf rfl
  · have hz : (msV (M x x) (M y x)).1 = 0 := (lg_cmp_0 _ _).mp c38
    exact z_vret kd_U_mixRows_41 rfl (Nat.le_of_ble_eq_true rfl) (Nat.le_of_ble_eq_true rfl) ⟨rfl, rfl, by unfold mxV; rw [if_pos hz]; exact hS_1, ⟨_, _, _, x23_1⟩, (F2.rf.tr q_1 (by omega))⟩
def clI (od : Int64) (n x : Nat) : Nat → Nat → (Nat → Nat → Int64) → Nat → Nat → Int64
  | 0, _, M => M
  | m + 1, row, M => clI od n x m (row + 1) (if M row x = 0 then M else mxV od n x row M)
def clO (od : Int64) (n x : Nat) : Nat → (Nat → Nat → Int64) → Nat → Nat → Int64
  | 0, M => M
  | m + 1, M => if rwV (clI od n x (n - (x + 1)) (x + 1) M) n x = 0 then clO od n x m (tpV n x (clI od n x (n - (x + 1)) (x + 1) M)) else clI od n x (n - (x + 1)) (x + 1) M
def clV (od : Int64) (n x : Nat) (M : Nat → Nat → Int64) : Nat → Nat → Int64 := clO od n x 128 M
theorem F2.tr2 {lo hi lo2 hi2 : Nat} {σ σ1 σ2 : Nat → Option va_E} (h : F2 lo hi lo2 hi2 σ σ1) (q : F2 lo hi lo2 hi2 σ1 σ2) : F2 lo hi lo2 hi2 σ σ2 := fun k h1 h2 => (q k h1 h2).trans (h k h1 h2)
set_option maxHeartbeats 4000000 in
set_option maxRecDepth 100000 in
theorem l_U_clI {l : Launch} {D : va_G} {tys : List (ClassId × FieldType)} {b N : Nat} {σ0 : Nat → Option va_E} {cI cJ cA : ClassId} (ht0 : tys[0]? = some (cI, .int)) (ht1 : tys[1]? = some (cJ, .long)) (ht3 : tys[3]? = some (cA, .array .long)) {n x : Nat} (hn : n ≤ 10) (hx : x < n) {cn : Value} {od : Int64} {s : Nat} {Mf : Nat → Nat → Int64} {Q : Outcome → Nat → (Nat → Option va_E) → Prop} (hc : ∀ σ (cm tp to : Value), GS b cA cJ σ (nI n) (Mf) → σ 23 = some (.inr (6, [cn, .ref (b + 24), .ref (b + 1), .ref (b + 19), .ref (b + 7), .long od, cm, tp, to])) → F2 7 18 23 23 σ0 σ → Z l D kCl tys (kh_U_clearLine :: zT) kNw ky_U_clearLine.cls ky_U_clearLine.name kb_U_clearLine 4 none { frames := 3, cells := 0, slots := 0, locals := 150 } b (zFi D kCl b 0 0 Q) 0 0 N (σ) 52 [(3, .int (nI n)), (2, .int (nI s)), (0, .ref (b + 23)), (1, .int (nI x))] []) : ∀ (m row : Nat) (σ : Nat → Option va_E) (M : Nat → Nat → Int64) (cm tp to : Value), row + m = n → x < row → GS b cA cJ σ (nI n) (M) → σ 23 = some (.inr (6, [cn, .ref (b + 24), .ref (b + 1), .ref (b + 19), .ref (b + 7), .long od, cm, tp, to])) → F2 7 18 23 23 σ0 σ → clI od n x m row M = Mf → Z l D kCl tys (kh_U_clearLine :: zT) kNw ky_U_clearLine.cls ky_U_clearLine.name kb_U_clearLine 4 none { frames := 3, cells := 0, slots := 0, locals := 150 } b (zFi D kCl b 0 0 Q) 0 0 N (σ) 13 [(3, .int (nI row)), (2, .int (nI s)), (0, .ref (b + 23)), (1, .int (nI x))] [] := by
  intro m
  induction m with
  | zero =>
    intro row σ M cm tp to hcm hxr hS h23 hF hv
    obtain rfl : row = n := by omega
    have hv : M = Mf := hv
    subst hv
    refine z_iload_n kd_U_clearLine_13 0 rfl ?_
    refine z_aload_n kd_U_clearLine_14 2 rfl ?_
    refine z_get kd_U_clearLine_15 (kf_U_23 _) h23 rfl ?_
    refine z_get kd_U_clearLine_18 (kf_U_61 _) hS.1 rfl ?_
    refine z_icmp_ge (tgt := 52) kd_U_clearLine_21 (by decide) (fun c21 => ?_) (fun c21 => ?_)
    · exact hc σ _ _ _ hS h23 hF
    · exact absurd (nI_le (Nat.le_refl row) (by omega)) c21
  | succ m ih =>
    intro row σ M cm tp to hcm hxr hS h23 hF hv
    have hlt : row < n := by omega
    obtain ⟨h7, f, r, hG⟩ := id hS
    unfold clI at hv
    refine z_iload_n kd_U_clearLine_13 0 rfl ?_
    refine z_aload_n kd_U_clearLine_14 2 rfl ?_
    refine z_get kd_U_clearLine_15 (kf_U_23 _) h23 rfl ?_
    refine z_get kd_U_clearLine_18 (kf_U_61 _) hS.1 rfl ?_
    refine z_icmp_ge (tgt := 52) kd_U_clearLine_21 (by decide) (fun c21 => ?_) (fun c21 => ?_)
    · exact absurd c21 (nI_ge hlt (by omega))
    · refine z_aload_n kd_U_clearLine_24 2 rfl ?_
      refine z_get kd_U_clearLine_25 (kf_U_23 _) h23 rfl ?_
      refine z_get kd_U_clearLine_28 (kf_U_67 _) hS.1 rfl ?_
      refine z_iload_n kd_U_clearLine_31 0 rfl ?_
      refine z_gal kd_U_clearLine_32 ht3 hG (by omega) ?_
      refine z_iload_n kd_U_clearLine_33 3 rfl ?_
      refine z_gld kd_U_clearLine_34 ht1 hG (by omega) (by omega) ?_
      refine z_lconst (v := 0) kd_U_clearLine_35 (by decide +kernel) ?_
      refine z_lcmp kd_U_clearLine_36 ?_
      refine z_if_eq (tgt := 46) kd_U_clearLine_37 (by decide) (fun c37 => ?_) (fun c37 => ?_)
      · rw [if_pos ((lg_cmp_0 _ _).mp c37)] at hv
        refine z_iinc (v := (nI (row + 1))) (lv' := [(3, .int _), (2, .int _), (0, .ref (b + 23)), (1, .int _)]) kd_U_clearLine_46 0 rfl (nI_1 _) (by decide) rfl ?_
        refine z_goto (tgt := 13) kd_U_clearLine_49 (by decide) ?_
        refine z_pick (lv' := [(3, .int (nI (row + 1))), (2, .int (nI s)), (0, .ref (b + 23)), (1, .int (nI x))]) [0, 1, 2, 3] rfl ?_
        exact ih (row + 1) _ _ _ _ _ (by omega) (by omega) hS h23 hF hv
      · rw [if_neg (fun q => c37 ((lg_cmp_0 _ _).mpr q))] at hv
        refine z_aload_n kd_U_clearLine_40 2 rfl ?_
        refine z_iload_n kd_U_clearLine_41 3 rfl ?_
        refine z_iload_n kd_U_clearLine_42 0 rfl ?_
        refine z_callV (a := 23) (As := [_, _]) kd_U_clearLine_43 (kg_U_82 _) h23 kc_U (c_U_mixRows ht0 ht1 ht3 hn hx (y := row) (by omega) h23 hS) rfl rfl (Nat.le_of_ble_eq_true rfl) ⟨Nat.le_of_ble_eq_true rfl, Nat.le_of_ble_eq_true rfl⟩ ⟨Nat.le_of_ble_eq_true rfl, Nat.le_of_ble_eq_true rfl⟩ ?_
        rintro _ _ σ_1 ⟨hv, rfl, hS_1, ⟨cm_1, tp_1, to_1, x23_1⟩, q_1⟩
        cases hv
        refine z_eq (st' := []) rfl rfl rfl rfl ?_
        refine z_iinc (v := (nI (row + 1))) (lv' := [(3, .int _), (2, .int _), (0, .ref (b + 23)), (1, .int _)]) kd_U_clearLine_46 0 rfl (nI_1 _) (by decide) rfl ?_
        refine z_goto (tgt := 13) kd_U_clearLine_49 (by decide) ?_
        refine z_pick (lv' := [(3, .int (nI (row + 1))), (2, .int (nI s)), (0, .ref (b + 23)), (1, .int (nI x))]) [0, 1, 2, 3] rfl ?_
        exact ih (row + 1) _ _ _ _ _ (by omega) (by omega) hS_1 x23_1 (F2.tr2 hF q_1) hv
set_option maxHeartbeats 4000000 in
set_option maxRecDepth 100000 in
theorem t_U_cl {l : Launch} {D : va_G} {tys : List (ClassId × FieldType)} {b N : Nat} {σ0 : Nat → Option va_E} {cI cJ cA : ClassId} (ht0 : tys[0]? = some (cI, .int)) (ht1 : tys[1]? = some (cJ, .long)) (ht3 : tys[3]? = some (cA, .array .long)) {n x : Nat} (hn : n ≤ 10) (hx : x < n) {cn : Value} {od : Int64} {s : Nat} {σ : Nat → Option va_E} {M Mf : Nat → Nat → Int64} {cm tp to : Value} (hS : GS b cA cJ σ (nI n) (M)) (h23 : σ 23 = some (.inr (6, [cn, .ref (b + 24), .ref (b + 1), .ref (b + 19), .ref (b + 7), .long od, cm, tp, to]))) (hF : F2 7 18 23 23 σ0 σ) (hc : rwV M n x = 0 → ∀ σ, GS b cA cJ σ (nI n) (tpV n x M) → σ 23 = some (.inr (6, [cn, .ref (b + 24), .ref (b + 1), .ref (b + 19), .ref (b + 7), .long od, cm, tp, to])) → F2 7 18 23 23 σ0 σ → Z l D kCl tys (kh_U_clearLine :: zT) kNw ky_U_clearLine.cls ky_U_clearLine.name kb_U_clearLine 4 none { frames := 3, cells := 0, slots := 0, locals := 150 } b (zFi D kCl b 0 0 (fun oc N' σ' => oc = .returned none ∧ N' = N ∧ GS b cA cJ σ' (nI n) (Mf) ∧ (∃ cm tp to, σ' 23 = some (.inr (6, [cn, .ref (b + 24), .ref (b + 1), .ref (b + 19), .ref (b + 7), .long od, cm, tp, to]))) ∧ F2 7 18 23 23 σ0 σ')) 0 0 N (σ) 2 [(2, .int (nI (s + 1))), (0, .ref (b + 23)), (1, .int (nI x))] []) (he : ¬ rwV M n x = 0 → M = Mf) : Z l D kCl tys (kh_U_clearLine :: zT) kNw ky_U_clearLine.cls ky_U_clearLine.name kb_U_clearLine 4 none { frames := 3, cells := 0, slots := 0, locals := 150 } b (zFi D kCl b 0 0 (fun oc N' σ' => oc = .returned none ∧ N' = N ∧ GS b cA cJ σ' (nI n) (Mf) ∧ (∃ cm tp to, σ' 23 = some (.inr (6, [cn, .ref (b + 24), .ref (b + 1), .ref (b + 19), .ref (b + 7), .long od, cm, tp, to]))) ∧ F2 7 18 23 23 σ0 σ')) 0 0 N (σ) 52 [(3, .int (nI n)), (2, .int (nI s)), (0, .ref (b + 23)), (1, .int (nI x))] [] := by
  refine z_aload_n kd_U_clearLine_52 2 rfl ?_
  refine z_iload_n kd_U_clearLine_53 3 rfl ?_
  refine z_V1 (a := 23) (As := [_]) kd_U_clearLine_54 (kg_U_86 _) h23 kc_U (c_U_isRowClear ht0 ht1 ht3 hn hx h23 hS) rfl rfl (Nat.le_of_ble_eq_true rfl) ⟨Nat.le_of_ble_eq_true rfl, Nat.le_of_ble_eq_true rfl⟩ ⟨Nat.le_of_ble_eq_true rfl, Nat.le_of_ble_eq_true rfl⟩ ?_
  refine z_if_eq (tgt := 61) kd_U_clearLine_57 (by decide) (fun c57 => ?_) (fun c57 => ?_)
  · refine z_aload_n kd_U_clearLine_61 2 rfl ?_
    refine z_iload_n kd_U_clearLine_62 3 rfl ?_
    refine z_callV (a := 23) (As := [_]) kd_U_clearLine_63 (kg_U_90 _) h23 kc_U (c_U_transpose ht0 ht1 ht3 hn h23 hS hx) rfl rfl (Nat.le_of_ble_eq_true rfl) ⟨Nat.le_of_ble_eq_true rfl, Nat.le_of_ble_eq_true rfl⟩ ⟨Nat.le_of_ble_eq_true rfl, Nat.le_of_ble_eq_true rfl⟩ ?_
    rintro _ _ σ_1 ⟨hv, rfl, hS_1, q_1⟩
    cases hv
    refine z_eq (st' := []) rfl rfl rfl rfl ?_
    have x23_1 := (q_1 23 (by omega)).trans h23
    refine z_iinc (v := (nI (s + 1))) (lv' := [(2, .int _), (3, .int _), (0, .ref (b + 23)), (1, .int _)]) kd_U_clearLine_66 1 rfl (nI_1 _) (by decide) rfl ?_
    refine z_goto (tgt := 2) kd_U_clearLine_69 (by decide) ?_
    refine z_pick (lv' := [(2, .int (nI (s + 1))), (0, .ref (b + 23)), (1, .int (nI x))]) [0, 2, 3] rfl ?_
    exact hc c57 _ hS_1 x23_1 (hF.tr q_1 (by omega))
  · have he := he c57
    subst he
    exact z_vret kd_U_clearLine_60 rfl (Nat.le_of_ble_eq_true rfl) (Nat.le_of_ble_eq_true rfl) ⟨rfl, rfl, hS, ⟨_, _, _, h23⟩, hF⟩
set_option maxHeartbeats 4000000 in
set_option maxRecDepth 100000 in
theorem l_U_clO {l : Launch} {D : va_G} {tys : List (ClassId × FieldType)} {b N : Nat} {σ0 : Nat → Option va_E} {cI cJ cA : ClassId} (ht0 : tys[0]? = some (cI, .int)) (ht1 : tys[1]? = some (cJ, .long)) (ht3 : tys[3]? = some (cA, .array .long)) {n x : Nat} (hn : n ≤ 10) (hx : x < n) {cn : Value} {od : Int64} {Mf : Nat → Nat → Int64} : ∀ (m s : Nat) (σ : Nat → Option va_E) (M : Nat → Nat → Int64) (cm tp to : Value), s + m = 128 → GS b cA cJ σ (nI n) (M) → σ 23 = some (.inr (6, [cn, .ref (b + 24), .ref (b + 1), .ref (b + 19), .ref (b + 7), .long od, cm, tp, to])) → F2 7 18 23 23 σ0 σ → clO od n x m M = Mf → Z l D kCl tys (kh_U_clearLine :: zT) kNw ky_U_clearLine.cls ky_U_clearLine.name kb_U_clearLine 4 none { frames := 3, cells := 0, slots := 0, locals := 150 } b (zFi D kCl b 0 0 (fun oc N' σ' => oc = .returned none ∧ N' = N ∧ GS b cA cJ σ' (nI n) (Mf) ∧ (∃ cm tp to, σ' 23 = some (.inr (6, [cn, .ref (b + 24), .ref (b + 1), .ref (b + 19), .ref (b + 7), .long od, cm, tp, to]))) ∧ F2 7 18 23 23 σ0 σ')) 0 0 N (σ) 2 [(2, .int (nI s)), (0, .ref (b + 23)), (1, .int (nI x))] [] := by
  intro m
  induction m with
  | zero =>
    intro s σ M cm tp to hcm hS h23 hF hv
    obtain rfl : s = 128 := by omega
    have hv : M = Mf := hv
    subst hv
    refine z_iload_n kd_U_clearLine_2 0 rfl ?_
    refine z_sipush (v := 128) kd_U_clearLine_3 (by decide +kernel) ?_
    refine z_icmp_ge (tgt := 72) kd_U_clearLine_6 (by decide) (fun c6 => ?_) (fun c6 => ?_)
    · exact z_vret kd_U_clearLine_72 rfl (Nat.le_of_ble_eq_true rfl) (Nat.le_of_ble_eq_true rfl) ⟨rfl, rfl, hS, ⟨_, _, _, h23⟩, hF⟩
    · exact absurd (nI_le (a := 128) (Nat.le_refl 128) (by decide)) c6
  | succ m ih =>
    intro s σ M cm tp to hcm hS h23 hF hv
    unfold clO at hv
    refine z_iload_n kd_U_clearLine_2 0 rfl ?_
    refine z_sipush (v := 128) kd_U_clearLine_3 (by decide +kernel) ?_
    refine z_icmp_ge (tgt := 72) kd_U_clearLine_6 (by decide) (fun c6 => ?_) (fun c6 => ?_)
    · exact absurd c6 (nI_ge (b := 128) (by omega) (by decide))
    · refine z_iload_n kd_U_clearLine_9 2 rfl ?_
      refine z_iconst (v := 1) kd_U_clearLine_10 (by decide) ?_
      refine z_iadd kd_U_clearLine_11 ?_
      refine z_topi (nI_add x 1) ?_
      refine z_istore_n (lv' := [(3, .int _), (2, .int _), (0, .ref (b + 23)), (1, .int _)]) kd_U_clearLine_12 (by decide) rfl ?_
      refine z_pick (lv' := [(3, .int (nI (x + 1))), (2, .int (nI s)), (0, .ref (b + 23)), (1, .int (nI x))]) [0, 1, 2, 3] rfl ?_
      exact l_U_clI ht0 ht1 ht3 hn hx (fun σ cm tp to hS h23 hF => t_U_cl ht0 ht1 ht3 hn hx hS h23 hF (fun h0 σ hS h23 hF => ih (s + 1) σ _ _ _ _ (by omega) hS h23 hF (by rw [if_pos h0] at hv; exact hv)) (fun h0 => by rw [if_neg h0] at hv; exact hv)) (n - (x + 1)) (x + 1) σ M _ _ _ (by omega) (by omega) hS h23 hF rfl
set_option maxHeartbeats 4000000 in
set_option maxRecDepth 100000 in
theorem c_U_clearLine {l : Launch} {D : va_G} {tys : List (ClassId × FieldType)} {b N : Nat} {σ : Nat → Option va_E} {cI cJ cA : ClassId} (ht0 : tys[0]? = some (cI, .int)) (ht1 : tys[1]? = some (cJ, .long)) (ht3 : tys[3]? = some (cA, .array .long)) {n x : Nat} (hn : n ≤ 10) (hx : x < n) {M : Nat → Nat → Int64} {cn cm tp to : Value} {od : Int64} (h23 : σ 23 = some (.inr (6, [cn, .ref (b + 24), .ref (b + 1), .ref (b + 19), .ref (b + 7), .long od, cm, tp, to]))) (hS : GS b cA cJ σ (nI n) (M)) : zM l D kCl tys kNw b ky_U_clearLine (kh_U_clearLine :: zT) 3 150 0 0 [.ref (b + 23), .int (nI x)] N σ ((fun oc N' σ' => oc = .returned none ∧ N' = N ∧ GS b cA cJ σ' (nI n) (clV od n x M) ∧ (∃ cm tp to, σ' 23 = some (.inr (6, [cn, .ref (b + 24), .ref (b + 1), .ref (b + 19), .ref (b + 7), .long od, cm, tp, to]))) ∧ F2 7 18 23 23 σ σ')) := by
  refine zM.of (by decide +kernel) rfl (Nat.le_of_ble_eq_true rfl) ?_
  refine z_pick (lv' := [(0, .ref (b + 23)), (1, .int (nI x))]) [0, 1] rfl ?_
  refine z_iconst (v := 0) kd_U_clearLine_0 (by decide) ?_
  refine z_istore_n (lv' := [(2, .int _), (0, .ref (b + 23)), (1, .int _)]) kd_U_clearLine_1 (by decide) rfl ?_
  refine z_pick (lv' := [(2, .int (nI 0)), (0, .ref (b + 23)), (1, .int (nI x))]) [0, 1, 2] rfl ?_
  exact l_U_clO ht0 ht1 ht3 hn hx 128 0 σ M _ _ _ (by omega) hS h23 F2.rf rfl
