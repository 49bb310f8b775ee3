theorem BX.eq {a : Nat} {g : Nat → Int32} {X Y : Nat → Bool} (h : BX a g X) (e : X = Y) : BX a g Y := by rw [← e]; exact h
set_option maxHeartbeats 4000000 in
set_option maxRecDepth 100000 in
theorem l_M_drawn {l : Launch} {D : va_G} {tys : List (ClassId × FieldType)} {b N : Nat} {σ0 : Nat → Option va_E} {cI cJ cA : ClassId} (ht0 : tys[0]? = some (cI, .int)) (ht1 : tys[1]? = some (cJ, .long)) (ht3 : tys[3]? = some (cA, .array .long)) {cZ : ClassId} (ht2 : tys[2]? = some (cZ, .boolean)) {n a : Nat} {gf gt gw : Nat → Int32} {F T : Nat → Nat} {val : Int32} {Q : Outcome → Nat → (Nat → Option va_E) → Prop} (hQ : ∀ (σ' : Nat → Option va_E) (th fa ls rm : Value), MN b cI σ' th fa ls rm n a gf gt gw F T → (∃ g, σ' 60 = some (.inl (cJ, 100, .inr (.inl g)))) → (∃ g, σ' 61 = some (.inl (cJ, 100, .inr (.inl g)))) → (∃ g, σ' 62 = some (.inl (cI, 10, .inl g))) → (∃ g, σ' 63 = some (.inl (cZ, 30, .inl g))) → (∃ g, σ' 64 = some (.inl (cI, 10, .inl g))) → (∃ g, σ' 65 = some (.inl (cI, 10, .inl g))) → F2 54 54 60 65 σ0 σ' → Q (.returned (some (.int (val)))) N σ') : ∀ (m k : Nat) (σ : Nat → Option va_E) (th ls rm : Value) (g2 g3 : Nat → Int32) (X : Nat → Bool) (P : Nat → Nat) (f : Int64) (t : Int32) (r : Int64), k + m = a → MN b cI σ th (.long f) ls rm n a gf gt gw F T → (∃ g, σ 60 = some (.inl (cJ, 100, .inr (.inl g)))) → (∃ g, σ 61 = some (.inl (cJ, 100, .inr (.inl g)))) → (∃ g, σ 64 = some (.inl (cI, 10, .inl g))) → (∃ g, σ 65 = some (.inl (cI, 10, .inl g))) → σ 62 = some (.inl (cI, 10, .inl g2)) → PH n n g2 (P) → σ 63 = some (.inl (cZ, 30, .inl g3)) → BX a g3 (X) → F2 54 54 60 65 σ0 σ → drL n a F T gw m k X P f t r = val → Z l D kCl tys (kh_M_drawn :: zT) kNw ky_M_drawn.cls ky_M_drawn.name kb_M_drawn 10 (some FieldType.int) { frames := 10, cells := 0, slots := 0, locals := 360 } b (zFi D kCl b 0 0 Q) 0 0 N (σ) 43 [(6, .int (nI k)), (5, .int t), (3, .long r), (0, .ref (b + 54))] [] := by
  intro m
  induction m with
  | zero =>
    intro k σ th ls rm g2 g3 X P f t r hk hM h60 h61 h64 h65 h62 hp h63 hX hF hv
    obtain rfl : k = a := by omega
    obtain ⟨g60, h60⟩ := h60
    obtain ⟨g61, h61⟩ := h61
    obtain ⟨g64, h64⟩ := h64
    obtain ⟨g65, h65⟩ := h65
    have hn := hM.hn
    have ha := hM.ha
    have hv : t = val := hv
    subst hv
    refine z_iload kd_M_drawn_43 0 rfl ?_
    refine z_aload_n kd_M_drawn_45 3 rfl ?_
    refine z_get kd_M_drawn_46 (kf_M_80 _) hM.h1 rfl ?_
    refine z_icmp_ge (tgt := 140) kd_M_drawn_49 (by decide) (fun c49 => ?_) (fun c49 => ?_)
    · refine z_iload kd_M_drawn_140 1 rfl ?_
      exact z_iret kd_M_drawn_142 rfl (Nat.le_of_ble_eq_true rfl) (Nat.le_of_ble_eq_true rfl) (hQ _ _ _ _ _ hM ⟨_, h60⟩ ⟨_, h61⟩ ⟨_, h62⟩ ⟨_, h63⟩ ⟨_, h64⟩ ⟨_, h65⟩ hF)
    · exact absurd (nI_le (Nat.le_refl k) (by omega)) c49
  | succ m ih =>
    intro k σ th ls rm g2 g3 X P f t r hk hM h60 h61 h64 h65 h62 hp h63 hX hF hv
    have hlt : k < a := by omega
    obtain ⟨g60, h60⟩ := h60
    obtain ⟨g61, h61⟩ := h61
    obtain ⟨g64, h64⟩ := h64
    obtain ⟨g65, h65⟩ := h65
    have hn := hM.hn
    have ha := hM.ha
    obtain ⟨kf, kfn, kt, ktn⟩ := hM.hft k hlt
    unfold drL at hv
    refine z_iload kd_M_drawn_43 0 rfl ?_
    refine z_aload_n kd_M_drawn_45 3 rfl ?_
    refine z_get kd_M_drawn_46 (kf_M_80 _) hM.h1 rfl ?_
    refine z_icmp_ge (tgt := 140) kd_M_drawn_49 (by decide) (fun c49 => ?_) (fun c49 => ?_)
    · exact absurd c49 (nI_ge hlt (by omega))
    · refine z_aload_n kd_M_drawn_52 3 rfl ?_
      refine z_iload kd_M_drawn_53 0 rfl ?_
      refine z_callV (a := 54) (As := [_]) kd_M_drawn_55 (kg_M_152 _) hM.h1 kc_M (c_M_with ht0 ht1 ht3 ht2 hM hp hX h60 h61 h62 h63 h64 h65 hlt) rfl rfl (Nat.le_of_ble_eq_true rfl) ⟨Nat.le_of_ble_eq_true rfl, Nat.le_of_ble_eq_true rfl⟩ ⟨Nat.le_of_ble_eq_true rfl, Nat.le_of_ble_eq_true rfl⟩ ?_
      rintro _ _ σ_1 ⟨hv, rfl, ⟨g0_1, x60_1⟩, ⟨g1_1, x61_1⟩, ⟨g2_1, hp_1, x62_1⟩, ⟨g3_1, X_1, x63_1, hX_1, hXe_1⟩, ⟨g4_1, x64_1⟩, ⟨g5_1, x65_1⟩, q_1⟩
      cases hv
      refine z_eq (st' := [_]) rfl rfl rfl rfl ?_
      have hM_1 := hM.fr q_1 (by omega)
      refine z_aload_n kd_M_drawn_58 3 rfl ?_
      refine z_get kd_M_drawn_59 (kf_M_148 _) hM_1.h1 rfl ?_
      refine z_lmul kd_M_drawn_62 ?_
      refine z_lstore (lv' := [(7, .long _), (6, .int _), (5, .int _), (3, .long _), (0, .ref (b + 54))]) kd_M_drawn_63 (by decide) rfl ?_
      refine z_aload_n kd_M_drawn_65 4 rfl ?_
      refine z_get kd_M_drawn_66 (kf_M_35 _) hM_1.h1 rfl ?_
      refine z_iload kd_M_drawn_69 1 rfl ?_
      refine z_iconst (v := 1) kd_M_drawn_71 (by decide) ?_
      refine z_zastN (t0 := 2) kd_M_drawn_72 (by assumption) x63_1 (by omega) (by decide) rfl ?_
      refine z_upd (fun σ_2 x63_2 q_2 => ?_)
      have x60_2 := (q_2 60 (by omega)).trans x60_1
      have x61_2 := (q_2 61 (by omega)).trans x61_1
      have x62_2 := (q_2 62 (by omega)).trans x62_1
      have x64_2 := (q_2 64 (by omega)).trans x64_1
      have x65_2 := (q_2 65 (by omega)).trans x65_1
      have hM_2 := hM_1.fr q_2 (by omega)
      refine z_lload_n kd_M_drawn_73 3 rfl ?_
      refine z_lload kd_M_drawn_74 0 rfl ?_
      refine z_lcmp kd_M_drawn_76 ?_
      refine z_if_ge (tgt := 129) kd_M_drawn_77 (by decide) (fun c77 => ?_) (fun c77 => ?_)
      · rw [if_neg (Int64.not_lt.mpr ((lg_cmp_ge _ _).mp c77))] at hv
        refine z_lload_n kd_M_drawn_129 3 rfl ?_
        refine z_lload kd_M_drawn_130 0 rfl ?_
        refine z_lsub kd_M_drawn_132 ?_
        refine z_lstore_n (lv' := [(3, .long _), (7, .long _), (6, .int _), (5, .int _), (0, .ref (b + 54))]) kd_M_drawn_133 (by decide) rfl ?_
        refine z_iinc (v := (nI (k + 1))) (lv' := [(6, .int _), (3, .long _), (7, .long _), (5, .int _), (0, .ref (b + 54))]) kd_M_drawn_134 2 rfl (nI_1 _) (by decide) rfl ?_
        refine z_goto (tgt := 43) kd_M_drawn_137 (by decide) ?_
        refine z_pick (lv' := [(6, .int (nI (k + 1))), (5, .int _), (3, .long _), (0, .ref (b + 54))]) [0, 3, 1, 4] rfl ?_
        exact ih (k + 1) _ _ _ _ _ _ _ _ _ _ _ (by omega) hM_2 ⟨_, x60_2⟩ ⟨_, x61_2⟩ ⟨_, x64_2⟩ ⟨_, x65_2⟩ x62_2 hp_1 x63_2 ((BX.set hX_1).eq hXe_1) ((hF.tr q_1 (by omega)).tr q_2 (by omega)) hv
      · rw [if_pos (Int64.not_le.mp (fun z => c77 ((lg_cmp_ge _ _).mpr z)))] at hv
        refine z_aload_n kd_M_drawn_80 4 rfl ?_
        refine z_aload_n kd_M_drawn_81 4 rfl ?_
        refine z_get kd_M_drawn_82 (kf_M_7 _) hM_2.h1 rfl ?_
        refine z_iload kd_M_drawn_85 1 rfl ?_
        refine z_ialdN (t0 := 0) kd_M_drawn_87 (by assumption) hM_2.h2 (by omega) (by decide) ?_
        refine z_topi kf ?_
        refine z_aload_n kd_M_drawn_88 4 rfl ?_
        refine z_get kd_M_drawn_89 (kf_M_13 _) hM_2.h1 rfl ?_
        refine z_iload kd_M_drawn_92 1 rfl ?_
        refine z_ialdN (t0 := 0) kd_M_drawn_94 (by assumption) hM_2.h3 (by omega) (by decide) ?_
        refine z_topi kt ?_
        refine z_callV (a := 54) (As := [_, _]) kd_M_drawn_95 (kg_M_144 _) hM_2.h1 kc_M (c_M_join ht0 ht1 ht3 hM_2 kfn ktn hp_1 x62_2) rfl rfl (Nat.le_of_ble_eq_true rfl) ⟨Nat.le_of_ble_eq_true rfl, Nat.le_of_ble_eq_true rfl⟩ ⟨Nat.le_of_ble_eq_true rfl, Nat.le_of_ble_eq_true rfl⟩ ?_
        rintro _ _ σ_3 ⟨hv, rfl, ⟨g2_3, hp_3, x62_3⟩, q_3⟩
        cases hv
        refine z_eq (st' := [_]) rfl rfl rfl rfl ?_
        have x60_3 := (q_3 60 (by omega)).trans x60_2
        have x61_3 := (q_3 61 (by omega)).trans x61_2
        have x63_3 := (q_3 63 (by omega)).trans x63_2
        have x64_3 := (q_3 64 (by omega)).trans x64_2
        have x65_3 := (q_3 65 (by omega)).trans x65_2
        have hM_3 := hM_2.fr q_3 (by omega)
        refine z_istore (lv' := [(9, .int _), (7, .long _), (6, .int _), (5, .int _), (3, .long _), (0, .ref (b + 54))]) kd_M_drawn_98 (by decide) rfl ?_
        refine z_iload kd_M_drawn_100 3 rfl ?_
        refine z_iconst (v := 1) kd_M_drawn_102 (by decide) ?_
        refine z_iload kd_M_drawn_103 2 rfl ?_
        refine z_ishl kd_M_drawn_105 ?_
        refine z_ior kd_M_drawn_106 ?_
        refine z_istore (lv' := [(5, .int _), (9, .int _), (7, .long _), (6, .int _), (3, .long _), (0, .ref (b + 54))]) kd_M_drawn_107 (by decide) rfl ?_
        refine z_aload_n kd_M_drawn_109 5 rfl ?_
        refine z_dup kd_M_drawn_110 rfl ?_
        refine z_get kd_M_drawn_111 (kf_M_148 _) hM_3.h1 rfl ?_
        refine z_aload_n kd_M_drawn_114 5 rfl ?_
        refine z_get kd_M_drawn_115 (kf_M_16 _) hM_3.h1 rfl ?_
        refine z_iload kd_M_drawn_118 3 rfl ?_
        refine z_ialdN (t0 := 0) kd_M_drawn_120 (by assumption) hM_3.h4 (by omega) (by decide) ?_
        refine z_i2l kd_M_drawn_121 ?_
        refine z_lmul kd_M_drawn_122 ?_
        refine z_putE (fs' := [_, _, _, _, _, _, _, _, _, _, _, _, _, _, _, _, _, _, _, _, _, _, _, _, _]) kd_M_drawn_123 (kp_M_148 _) hM_3.h1 (Nat.le_of_ble_eq_true rfl) rfl rfl rfl ?_
        refine z_upd (fun σ_4 x54_4 q_4 => ?_)
        have x60_4 := (q_4 60 (by omega)).trans x60_3
        have x61_4 := (q_4 61 (by omega)).trans x61_3
        have x62_4 := (q_4 62 (by omega)).trans x62_3
        have x63_4 := (q_4 63 (by omega)).trans x63_3
        have x64_4 := (q_4 64 (by omega)).trans x64_3
        have x65_4 := (q_4 65 (by omega)).trans x65_3
        have hM_4 := hM_3.put x54_4 q_4
        refine z_goto (tgt := 134) kd_M_drawn_126 (by decide) ?_
        refine z_iinc (v := (nI (k + 1))) (lv' := [(6, .int _), (5, .int _), (9, .int _), (7, .long _), (3, .long _), (0, .ref (b + 54))]) kd_M_drawn_134 3 rfl (nI_1 _) (by decide) rfl ?_
        refine z_goto (tgt := 43) kd_M_drawn_137 (by decide) ?_
        refine z_pick (lv' := [(6, .int (nI (k + 1))), (5, .int _), (3, .long _), (0, .ref (b + 54))]) [0, 1, 4, 5] rfl ?_
        exact ih (k + 1) _ _ _ _ _ _ _ _ _ _ _ (by omega) hM_4 ⟨_, x60_4⟩ ⟨_, x61_4⟩ ⟨_, x64_4⟩ ⟨_, x65_4⟩ x62_4 hp_3 x63_4 ((BX.set hX_1).eq hXe_1) ((((hF.tr q_1 (by omega)).tr q_2 (by omega)).tr q_3 (by omega)).tr q_4 (by omega)) hv
set_option maxHeartbeats 4000000 in
set_option maxRecDepth 100000 in
theorem c_M_drawn0 {l : Launch} {D : va_G} {tys : List (ClassId × FieldType)} {b N : Nat} {σ : Nat → Option va_E} {cI cJ cA : ClassId} (ht0 : tys[0]? = some (cI, .int)) (ht1 : tys[1]? = some (cJ, .long)) (ht3 : tys[3]? = some (cA, .array .long)) {cZ : ClassId} (ht2 : tys[2]? = some (cZ, .boolean)) {n a : Nat} {gf gt gw : Nat → Int32} {F T : Nat → Nat} {C K : Nat → Int64} (hMS : MS b cI cJ cZ σ n a gf gt gw F T C K) {p : Int64} (hp0 : p < 0) : zM l D kCl tys kNw b ky_M_drawn (kh_M_drawn :: zT) 10 360 0 0 [.ref (b + 54), .long p] N σ ((fun oc N' σ' => oc = .returned (some (.int (-1))) ∧ N' = N ∧ MS b cI cJ cZ σ' n a gf gt gw F T C K ∧ Fr 54 73 σ σ')) := by
  refine zM.of (by decide +kernel) rfl (Nat.le_of_ble_eq_true rfl) ?_
  refine z_pick (lv' := [(0, .ref (b + 54)), (1, .long p)]) [0, 1] rfl ?_
  obtain ⟨⟨th, fa, ls, rm, hM⟩, h58, h59, ⟨g60, h60⟩, ⟨g61, h61⟩, ⟨g62, h62⟩, ⟨g63, h63⟩, ⟨g64, h64⟩, ⟨g65, h65⟩, ⟨g66, h66⟩, ⟨g67, h67⟩, ⟨g68, h68⟩, ⟨g69, h69⟩, ⟨g70, h70⟩, ⟨g71, h71⟩, ⟨g72, h72⟩, ⟨g73, h73⟩⟩ := hMS
  have hn := hM.hn
  have ha := hM.ha
  refine z_aload_n kd_M_drawn_0 0 rfl ?_
  refine z_iconst (v := 0) kd_M_drawn_1 (by decide) ?_
  refine z_putE (fs' := [_, _, _, _, _, _, _, _, _, _, _, _, _, _, _, _, _, _, _, _, _, _, _, _, _]) kd_M_drawn_2 (kp_M_69 _) hM.h1 (Nat.le_of_ble_eq_true rfl) rfl rfl rfl ?_
  refine z_upd (fun σ_1 x54_1 q_1 => ?_)
  have x58_1 := (q_1 58 (by omega)).trans h58
  have x59_1 := (q_1 59 (by omega)).trans h59
  have x60_1 := (q_1 60 (by omega)).trans h60
  have x61_1 := (q_1 61 (by omega)).trans h61
  have x62_1 := (q_1 62 (by omega)).trans h62
  have x63_1 := (q_1 63 (by omega)).trans h63
  have x64_1 := (q_1 64 (by omega)).trans h64
  have x65_1 := (q_1 65 (by omega)).trans h65
  have x66_1 := (q_1 66 (by omega)).trans h66
  have x67_1 := (q_1 67 (by omega)).trans h67
  have x68_1 := (q_1 68 (by omega)).trans h68
  have x69_1 := (q_1 69 (by omega)).trans h69
  have x70_1 := (q_1 70 (by omega)).trans h70
  have x71_1 := (q_1 71 (by omega)).trans h71
  have x72_1 := (q_1 72 (by omega)).trans h72
  have x73_1 := (q_1 73 (by omega)).trans h73
  have hM_1 := hM.put x54_1 q_1
  refine z_lload_n kd_M_drawn_5 1 rfl ?_
  refine z_lconst (v := 0) kd_M_drawn_6 (by decide +kernel) ?_
  refine z_lcmp kd_M_drawn_7 ?_
  refine z_if_lt (tgt := 20) kd_M_drawn_8 (by decide) (fun c8 => ?_) (fun c8 => ?_)
  · refine z_iconst (v := -1) kd_M_drawn_20 (by decide) ?_
    exact z_iret kd_M_drawn_21 rfl (Nat.le_of_ble_eq_true rfl) (Nat.le_of_ble_eq_true rfl) ⟨rfl, rfl, ⟨⟨_, _, _, _, hM_1⟩, x58_1, x59_1, ⟨_, x60_1⟩, ⟨_, x61_1⟩, ⟨_, x62_1⟩, ⟨_, x63_1⟩, ⟨_, x64_1⟩, ⟨_, x65_1⟩, ⟨_, x66_1⟩, ⟨_, x67_1⟩, ⟨_, x68_1⟩, ⟨_, x69_1⟩, ⟨_, x70_1⟩, ⟨_, x71_1⟩, ⟨_, x72_1⟩, ⟨_, x73_1⟩⟩, (Fr.tr Fr.rf (q_1.wide (by omega) (by omega)))⟩
  · exact absurd ((lg_cmp_lt _ _).mpr hp0) c8
set_option maxHeartbeats 4000000 in
set_option maxRecDepth 100000 in
theorem c_M_drawn1 {l : Launch} {D : va_G} {tys : List (ClassId × FieldType)} {b N : Nat} {σ : Nat → Option va_E} {cI cJ cA : ClassId} (ht0 : tys[0]? = some (cI, .int)) (ht1 : tys[1]? = some (cJ, .long)) (ht3 : tys[3]? = some (cA, .array .long)) {cZ : ClassId} (ht2 : tys[2]? = some (cZ, .boolean)) {n a : Nat} {gf gt gw : Nat → Int32} {F T : Nat → Nat} {C K : Nat → Int64} (hMS : MS b cI cJ cZ σ n a gf gt gw F T C K) {p : Int64} (hp0 : ¬ p < 0) (hpt : cnV n a F T gw x0 (fun v => v) ≤ p) : zM l D kCl tys kNw b ky_M_drawn (kh_M_drawn :: zT) 10 360 0 0 [.ref (b + 54), .long p] N σ ((fun oc N' σ' => oc = .returned (some (.int (-1))) ∧ N' = N ∧ MS b cI cJ cZ σ' n a gf gt gw F T C K ∧ Fr 54 73 σ σ')) := by
  refine zM.of (by decide +kernel) rfl (Nat.le_of_ble_eq_true rfl) ?_
  refine z_pick (lv' := [(0, .ref (b + 54)), (1, .long p)]) [0, 1] rfl ?_
  obtain ⟨⟨th, fa, ls, rm, hM⟩, h58, h59, ⟨g60, h60⟩, ⟨g61, h61⟩, ⟨g62, h62⟩, ⟨g63, h63⟩, ⟨g64, h64⟩, ⟨g65, h65⟩, ⟨g66, h66⟩, ⟨g67, h67⟩, ⟨g68, h68⟩, ⟨g69, h69⟩, ⟨g70, h70⟩, ⟨g71, h71⟩, ⟨g72, h72⟩, ⟨g73, h73⟩⟩ := hMS
  have hn := hM.hn
  have ha := hM.ha
  refine z_aload_n kd_M_drawn_0 0 rfl ?_
  refine z_iconst (v := 0) kd_M_drawn_1 (by decide) ?_
  refine z_putE (fs' := [_, _, _, _, _, _, _, _, _, _, _, _, _, _, _, _, _, _, _, _, _, _, _, _, _]) kd_M_drawn_2 (kp_M_69 _) hM.h1 (Nat.le_of_ble_eq_true rfl) rfl rfl rfl ?_
  refine z_upd (fun σ_1 x54_1 q_1 => ?_)
  have x58_1 := (q_1 58 (by omega)).trans h58
  have x59_1 := (q_1 59 (by omega)).trans h59
  have x60_1 := (q_1 60 (by omega)).trans h60
  have x61_1 := (q_1 61 (by omega)).trans h61
  have x62_1 := (q_1 62 (by omega)).trans h62
  have x63_1 := (q_1 63 (by omega)).trans h63
  have x64_1 := (q_1 64 (by omega)).trans h64
  have x65_1 := (q_1 65 (by omega)).trans h65
  have x66_1 := (q_1 66 (by omega)).trans h66
  have x67_1 := (q_1 67 (by omega)).trans h67
  have x68_1 := (q_1 68 (by omega)).trans h68
  have x69_1 := (q_1 69 (by omega)).trans h69
  have x70_1 := (q_1 70 (by omega)).trans h70
  have x71_1 := (q_1 71 (by omega)).trans h71
  have x72_1 := (q_1 72 (by omega)).trans h72
  have x73_1 := (q_1 73 (by omega)).trans h73
  have hM_1 := hM.put x54_1 q_1
  refine z_lload_n kd_M_drawn_5 1 rfl ?_
  refine z_lconst (v := 0) kd_M_drawn_6 (by decide +kernel) ?_
  refine z_lcmp kd_M_drawn_7 ?_
  refine z_if_lt (tgt := 20) kd_M_drawn_8 (by decide) (fun c8 => ?_) (fun c8 => ?_)
  · exact absurd ((lg_cmp_lt _ _).mp c8) hp0
  · refine z_lload_n kd_M_drawn_11 1 rfl ?_
    refine z_aload_n kd_M_drawn_12 0 rfl ?_
    refine z_callV (a := 54) (As := []) kd_M_drawn_13 (kg_M_133 _) hM_1.h1 kc_M (c_M_trees ht0 ht1 ht3 ht2 ⟨⟨_, _, _, _, hM_1⟩, x58_1, x59_1, ⟨_, x60_1⟩, ⟨_, x61_1⟩, ⟨_, x62_1⟩, ⟨_, x63_1⟩, ⟨_, x64_1⟩, ⟨_, x65_1⟩, ⟨_, x66_1⟩, ⟨_, x67_1⟩, ⟨_, x68_1⟩, ⟨_, x69_1⟩, ⟨_, x70_1⟩, ⟨_, x71_1⟩, ⟨_, x72_1⟩, ⟨_, x73_1⟩⟩) rfl rfl (Nat.le_of_ble_eq_true rfl) ⟨Nat.le_of_ble_eq_true rfl, Nat.le_of_ble_eq_true rfl⟩ ⟨Nat.le_of_ble_eq_true rfl, Nat.le_of_ble_eq_true rfl⟩ ?_
    rintro _ _ σ_2 ⟨hv, rfl, ⟨⟨th_2, fa_2, ls_2, rm_2, hM_2⟩, h58_2, h59_2, ⟨g60_2, h60_2⟩, ⟨g61_2, h61_2⟩, ⟨g62_2, h62_2⟩, ⟨g63_2, h63_2⟩, ⟨g64_2, h64_2⟩, ⟨g65_2, h65_2⟩, ⟨g66_2, h66_2⟩, ⟨g67_2, h67_2⟩, ⟨g68_2, h68_2⟩, ⟨g69_2, h69_2⟩, ⟨g70_2, h70_2⟩, ⟨g71_2, h71_2⟩, ⟨g72_2, h72_2⟩, ⟨g73_2, h73_2⟩⟩, ⟨g2_2, g3_2, x62_2, hp_2, x63_2, hX_2⟩, q_2⟩
    cases hv
    refine z_eq (st' := [_, _]) rfl rfl rfl rfl ?_
    refine z_lcmp kd_M_drawn_16 ?_
    refine z_if_lt (tgt := 22) kd_M_drawn_17 (by decide) (fun c17 => ?_) (fun c17 => ?_)
    · exact absurd ((lg_cmp_lt _ _).mp c17) (Int64.not_lt.mpr hpt)
    · refine z_iconst (v := -1) kd_M_drawn_20 (by decide) ?_
      exact z_iret kd_M_drawn_21 rfl (Nat.le_of_ble_eq_true rfl) (Nat.le_of_ble_eq_true rfl) ⟨rfl, rfl, ⟨⟨_, _, _, _, hM_2⟩, h58_2, h59_2, ⟨_, h60_2⟩, ⟨_, h61_2⟩, ⟨_, x62_2⟩, ⟨_, x63_2⟩, ⟨_, h64_2⟩, ⟨_, h65_2⟩, ⟨_, h66_2⟩, ⟨_, h67_2⟩, ⟨_, h68_2⟩, ⟨_, h69_2⟩, ⟨_, h70_2⟩, ⟨_, h71_2⟩, ⟨_, h72_2⟩, ⟨_, h73_2⟩⟩, (Fr.tr (Fr.tr Fr.rf (q_1.wide (by omega) (by omega))) (q_2.wide (by omega) (by omega)))⟩
set_option maxHeartbeats 4000000 in
set_option maxRecDepth 100000 in
theorem c_M_drawn2 {l : Launch} {D : va_G} {tys : List (ClassId × FieldType)} {b N : Nat} {σ : Nat → Option va_E} {cI cJ cA : ClassId} (ht0 : tys[0]? = some (cI, .int)) (ht1 : tys[1]? = some (cJ, .long)) (ht3 : tys[3]? = some (cA, .array .long)) {cZ : ClassId} (ht2 : tys[2]? = some (cZ, .boolean)) {n a : Nat} {gf gt gw : Nat → Int32} {F T : Nat → Nat} {C K : Nat → Int64} (hMS : MS b cI cJ cZ σ n a gf gt gw F T C K) {p : Int64} (hp0 : ¬ p < 0) (hpt : ¬ cnV n a F T gw x0 (fun v => v) ≤ p) : zM l D kCl tys kNw b ky_M_drawn (kh_M_drawn :: zT) 10 360 0 0 [.ref (b + 54), .long p] N σ ((fun oc N' σ' => oc = .returned (some (.int (drV n a F T gw p))) ∧ N' = N ∧ MS b cI cJ cZ σ' n a gf gt gw F T C K ∧ Fr 54 73 σ σ')) := by
  refine zM.of (by decide +kernel) rfl (Nat.le_of_ble_eq_true rfl) ?_
  refine z_pick (lv' := [(0, .ref (b + 54)), (1, .long p)]) [0, 1] rfl ?_
  obtain ⟨⟨th, fa, ls, rm, hM⟩, h58, h59, ⟨g60, h60⟩, ⟨g61, h61⟩, ⟨g62, h62⟩, ⟨g63, h63⟩, ⟨g64, h64⟩, ⟨g65, h65⟩, ⟨g66, h66⟩, ⟨g67, h67⟩, ⟨g68, h68⟩, ⟨g69, h69⟩, ⟨g70, h70⟩, ⟨g71, h71⟩, ⟨g72, h72⟩, ⟨g73, h73⟩⟩ := hMS
  have hn := hM.hn
  have ha := hM.ha
  refine z_aload_n kd_M_drawn_0 0 rfl ?_
  refine z_iconst (v := 0) kd_M_drawn_1 (by decide) ?_
  refine z_putE (fs' := [_, _, _, _, _, _, _, _, _, _, _, _, _, _, _, _, _, _, _, _, _, _, _, _, _]) kd_M_drawn_2 (kp_M_69 _) hM.h1 (Nat.le_of_ble_eq_true rfl) rfl rfl rfl ?_
  refine z_upd (fun σ_1 x54_1 q_1 => ?_)
  have x58_1 := (q_1 58 (by omega)).trans h58
  have x59_1 := (q_1 59 (by omega)).trans h59
  have x60_1 := (q_1 60 (by omega)).trans h60
  have x61_1 := (q_1 61 (by omega)).trans h61
  have x62_1 := (q_1 62 (by omega)).trans h62
  have x63_1 := (q_1 63 (by omega)).trans h63
  have x64_1 := (q_1 64 (by omega)).trans h64
  have x65_1 := (q_1 65 (by omega)).trans h65
  have x66_1 := (q_1 66 (by omega)).trans h66
  have x67_1 := (q_1 67 (by omega)).trans h67
  have x68_1 := (q_1 68 (by omega)).trans h68
  have x69_1 := (q_1 69 (by omega)).trans h69
  have x70_1 := (q_1 70 (by omega)).trans h70
  have x71_1 := (q_1 71 (by omega)).trans h71
  have x72_1 := (q_1 72 (by omega)).trans h72
  have x73_1 := (q_1 73 (by omega)).trans h73
  have hM_1 := hM.put x54_1 q_1
  refine z_lload_n kd_M_drawn_5 1 rfl ?_
  refine z_lconst (v := 0) kd_M_drawn_6 (by decide +kernel) ?_
  refine z_lcmp kd_M_drawn_7 ?_
  refine z_if_lt (tgt := 20) kd_M_drawn_8 (by decide) (fun c8 => ?_) (fun c8 => ?_)
  · exact absurd ((lg_cmp_lt _ _).mp c8) hp0
  · refine z_lload_n kd_M_drawn_11 1 rfl ?_
    refine z_aload_n kd_M_drawn_12 0 rfl ?_
    refine z_callV (a := 54) (As := []) kd_M_drawn_13 (kg_M_133 _) hM_1.h1 kc_M (c_M_trees ht0 ht1 ht3 ht2 ⟨⟨_, _, _, _, hM_1⟩, x58_1, x59_1, ⟨_, x60_1⟩, ⟨_, x61_1⟩, ⟨_, x62_1⟩, ⟨_, x63_1⟩, ⟨_, x64_1⟩, ⟨_, x65_1⟩, ⟨_, x66_1⟩, ⟨_, x67_1⟩, ⟨_, x68_1⟩, ⟨_, x69_1⟩, ⟨_, x70_1⟩, ⟨_, x71_1⟩, ⟨_, x72_1⟩, ⟨_, x73_1⟩⟩) rfl rfl (Nat.le_of_ble_eq_true rfl) ⟨Nat.le_of_ble_eq_true rfl, Nat.le_of_ble_eq_true rfl⟩ ⟨Nat.le_of_ble_eq_true rfl, Nat.le_of_ble_eq_true rfl⟩ ?_
    rintro _ _ σ_2 ⟨hv, rfl, ⟨⟨th_2, fa_2, ls_2, rm_2, hM_2⟩, h58_2, h59_2, ⟨g60_2, h60_2⟩, ⟨g61_2, h61_2⟩, ⟨g62_2, h62_2⟩, ⟨g63_2, h63_2⟩, ⟨g64_2, h64_2⟩, ⟨g65_2, h65_2⟩, ⟨g66_2, h66_2⟩, ⟨g67_2, h67_2⟩, ⟨g68_2, h68_2⟩, ⟨g69_2, h69_2⟩, ⟨g70_2, h70_2⟩, ⟨g71_2, h71_2⟩, ⟨g72_2, h72_2⟩, ⟨g73_2, h73_2⟩⟩, ⟨g2_2, g3_2, x62_2, hp_2, x63_2, hX_2⟩, q_2⟩
    cases hv
    refine z_eq (st' := [_, _]) rfl rfl rfl rfl ?_
    refine z_lcmp kd_M_drawn_16 ?_
    refine z_if_lt (tgt := 22) kd_M_drawn_17 (by decide) (fun c17 => ?_) (fun c17 => ?_)
    · refine z_aload_n kd_M_drawn_22 0 rfl ?_
      refine z_callV (a := 54) (As := []) kd_M_drawn_23 (kg_M_121 _) hM_2.h1 kc_M (c_M_apartAll ht0 ht1 ht3 hM_2 x62_2) rfl rfl (Nat.le_of_ble_eq_true rfl) ⟨Nat.le_of_ble_eq_true rfl, Nat.le_of_ble_eq_true rfl⟩ ⟨Nat.le_of_ble_eq_true rfl, Nat.le_of_ble_eq_true rfl⟩ ?_
      rintro _ _ σ_3 ⟨hv, rfl, ⟨g2_3, hp_3, x62_3⟩, q_3⟩
      cases hv
      refine z_eq (st' := []) rfl rfl rfl rfl ?_
      have x58_3 := (q_3 58 (by omega)).trans h58_2
      have x59_3 := (q_3 59 (by omega)).trans h59_2
      have x60_3 := (q_3 60 (by omega)).trans h60_2
      have x61_3 := (q_3 61 (by omega)).trans h61_2
      have x63_3 := (q_3 63 (by omega)).trans x63_2
      have x64_3 := (q_3 64 (by omega)).trans h64_2
      have x65_3 := (q_3 65 (by omega)).trans h65_2
      have x66_3 := (q_3 66 (by omega)).trans h66_2
      have x67_3 := (q_3 67 (by omega)).trans h67_2
      have x68_3 := (q_3 68 (by omega)).trans h68_2
      have x69_3 := (q_3 69 (by omega)).trans h69_2
      have x70_3 := (q_3 70 (by omega)).trans h70_2
      have x71_3 := (q_3 71 (by omega)).trans h71_2
      have x72_3 := (q_3 72 (by omega)).trans h72_2
      have x73_3 := (q_3 73 (by omega)).trans h73_2
      have hM_3 := hM_2.fr q_3 (by omega)
      refine z_aload_n kd_M_drawn_26 0 rfl ?_
      refine z_callV (a := 54) (As := []) kd_M_drawn_27 (kg_M_124 _) hM_3.h1 kc_M (c_M_noneOut ht2 hM_3.h1 x63_3) rfl rfl (Nat.le_of_ble_eq_true rfl) ⟨Nat.le_of_ble_eq_true rfl, Nat.le_of_ble_eq_true rfl⟩ ⟨Nat.le_of_ble_eq_true rfl, Nat.le_of_ble_eq_true rfl⟩ ?_
      rintro _ _ _ ⟨hv, rfl, g3_4, hg3_4, rfl⟩
      cases hv
      refine z_eq (st' := []) rfl rfl rfl rfl ?_
      refine z_upd (fun σ_4 x63_4 q_4 => ?_)
      have x58_4 := (q_4 58 (by omega)).trans x58_3
      have x59_4 := (q_4 59 (by omega)).trans x59_3
      have x60_4 := (q_4 60 (by omega)).trans x60_3
      have x61_4 := (q_4 61 (by omega)).trans x61_3
      have x62_4 := (q_4 62 (by omega)).trans x62_3
      have x64_4 := (q_4 64 (by omega)).trans x64_3
      have x65_4 := (q_4 65 (by omega)).trans x65_3
      have x66_4 := (q_4 66 (by omega)).trans x66_3
      have x67_4 := (q_4 67 (by omega)).trans x67_3
      have x68_4 := (q_4 68 (by omega)).trans x68_3
      have x69_4 := (q_4 69 (by omega)).trans x69_3
      have x70_4 := (q_4 70 (by omega)).trans x70_3
      have x71_4 := (q_4 71 (by omega)).trans x71_3
      have x72_4 := (q_4 72 (by omega)).trans x72_3
      have x73_4 := (q_4 73 (by omega)).trans x73_3
      have hM_4 := hM_3.fr q_4 (by omega)
      refine z_lload_n kd_M_drawn_30 1 rfl ?_
      refine z_lstore_n (lv' := [(3, .long _), (0, .ref (b + 54)), (1, .long _)]) kd_M_drawn_31 (by decide) rfl ?_
      refine z_iconst (v := 0) kd_M_drawn_32 (by decide) ?_
      refine z_istore (lv' := [(5, .int _), (3, .long _), (0, .ref (b + 54)), (1, .long _)]) kd_M_drawn_33 (by decide) rfl ?_
      refine z_aload_n kd_M_drawn_35 2 rfl ?_
      refine z_lconst (v := 1) kd_M_drawn_36 (by decide +kernel) ?_
      refine z_putE (fs' := [_, _, _, _, _, _, _, _, _, _, _, _, _, _, _, _, _, _, _, _, _, _, _, _, _]) kd_M_drawn_37 (kp_M_148 _) hM_4.h1 (Nat.le_of_ble_eq_true rfl) rfl rfl rfl ?_
      refine z_upd (fun σ_5 x54_5 q_5 => ?_)
      have x58_5 := (q_5 58 (by omega)).trans x58_4
      have x59_5 := (q_5 59 (by omega)).trans x59_4
      have x60_5 := (q_5 60 (by omega)).trans x60_4
      have x61_5 := (q_5 61 (by omega)).trans x61_4
      have x62_5 := (q_5 62 (by omega)).trans x62_4
      have x63_5 := (q_5 63 (by omega)).trans x63_4
      have x64_5 := (q_5 64 (by omega)).trans x64_4
      have x65_5 := (q_5 65 (by omega)).trans x65_4
      have x66_5 := (q_5 66 (by omega)).trans x66_4
      have x67_5 := (q_5 67 (by omega)).trans x67_4
      have x68_5 := (q_5 68 (by omega)).trans x68_4
      have x69_5 := (q_5 69 (by omega)).trans x69_4
      have x70_5 := (q_5 70 (by omega)).trans x70_4
      have x71_5 := (q_5 71 (by omega)).trans x71_4
      have x72_5 := (q_5 72 (by omega)).trans x72_4
      have x73_5 := (q_5 73 (by omega)).trans x73_4
      have hM_5 := hM_4.put x54_5 q_5
      refine z_iconst (v := 0) kd_M_drawn_40 (by decide) ?_
      refine z_istore (lv' := [(6, .int _), (5, .int _), (3, .long _), (0, .ref (b + 54)), (1, .long _)]) kd_M_drawn_41 (by decide) rfl ?_
      refine z_pick (lv' := [(6, .int (nI 0)), (5, .int 0), (3, .long p), (0, .ref (b + 54))]) [0, 1, 2, 3] rfl ?_
      exact l_M_drawn ht0 ht1 ht3 ht2 (val := drV n a F T gw p) (fun σ9 th9 fa9 ls9 rm9 hM9 z60 z61 z62 z63 z64 z65 q9 => ⟨rfl, rfl, ⟨⟨_, _, _, _, hM9⟩, (q9 58 (by omega) (by omega)).trans x58_5, (q9 59 (by omega) (by omega)).trans x59_5, z60, z61, z62, z63, z64, z65, ⟨_, (q9 66 (by omega) (by omega)).trans x66_5⟩, ⟨_, (q9 67 (by omega) (by omega)).trans x67_5⟩, ⟨_, (q9 68 (by omega) (by omega)).trans x68_5⟩, ⟨_, (q9 69 (by omega) (by omega)).trans x69_5⟩, ⟨_, (q9 70 (by omega) (by omega)).trans x70_5⟩, ⟨_, (q9 71 (by omega) (by omega)).trans x71_5⟩, ⟨_, (q9 72 (by omega) (by omega)).trans x72_5⟩, ⟨_, (q9 73 (by omega) (by omega)).trans x73_5⟩⟩, Fr.tr (Fr.tr (Fr.tr (Fr.tr (Fr.tr (Fr.tr Fr.rf (q_1.wide (by omega) (by omega))) (q_2.wide (by omega) (by omega))) (q_3.wide (by omega) (by omega))) (q_4.wide (by omega) (by omega))) (q_5.wide (by omega) (by omega))) (fun k hk => q9 k (by omega) (by omega))⟩) a 0 _ _ _ _ _ _ _ _ _ _ _ (by omega) hM_5 ⟨_, x60_5⟩ ⟨_, x61_5⟩ ⟨_, x64_5⟩ ⟨_, x65_5⟩ x62_5 hp_3 x63_5 (BX.z (by omega) hg3_4) F2.rf (by unfold drV; rw [if_neg (fun z => by rcases z with z | z; exact hp0 z; exact hpt z)])
    · exact absurd ((lg_cmp_lt _ _).mpr (Int64.not_le.mp hpt)) c17
theorem c_M_drawn {l : Launch} {D : va_G} {tys : List (ClassId × FieldType)} {b N : Nat} {σ : Nat → Option va_E} {cI cJ cA : ClassId} (ht0 : tys[0]? = some (cI, .int)) (ht1 : tys[1]? = some (cJ, .long)) (ht3 : tys[3]? = some (cA, .array .long)) {cZ : ClassId} (ht2 : tys[2]? = some (cZ, .boolean)) {n a : Nat} {gf gt gw : Nat → Int32} {F T : Nat → Nat} {C K : Nat → Int64} (hMS : MS b cI cJ cZ σ n a gf gt gw F T C K) {p : Int64} : zM l D kCl tys kNw b ky_M_drawn (kh_M_drawn :: zT) 10 360 0 0 [.ref (b + 54), .long p] N σ (fun oc N' σ' => oc = .returned (some (.int (drV n a F T gw p))) ∧ N' = N ∧ MS b cI cJ cZ σ' n a gf gt gw F T C K ∧ Fr 54 73 σ σ') := by
  by_cases h0 : p < 0
  · have e : drV n a F T gw p = -1 := by unfold drV; rw [if_pos (Or.inl h0)]
    rw [e]
    exact c_M_drawn0 ht0 ht1 ht3 ht2 hMS h0
  · by_cases h1 : cnV n a F T gw x0 (fun v => v) ≤ p
    · have e : drV n a F T gw p = -1 := by unfold drV; rw [if_pos (Or.inr h1)]
      rw [e]
      exact c_M_drawn1 ht0 ht1 ht3 ht2 hMS h0 h1
    · exact c_M_drawn2 ht0 ht1 ht3 ht2 hMS h0 h1
set_option maxHeartbeats 4000000 in
set_option maxRecDepth 100000 in
theorem l_M_plg {l : Launch} {D : va_G} {tys : List (ClassId × FieldType)} {b N : Nat} {σ0 : Nat → Option va_E} {cI cJ cA : ClassId} (ht0 : tys[0]? = some (cI, .int)) (ht1 : tys[1]? = some (cJ, .long)) (ht3 : tys[3]? = some (cA, .array .long)) {th fa ls rm : Value} {n a : Nat} {gf gt gw : Nat → Int32} {F T : Nat → Nat} {tree : Int32} {Q : Outcome → Nat → (Nat → Option va_E) → Prop} {val : Nat × Bool} (kk : ∀ (σ : Nat → Option va_E) (g2 : Nat → Int32), MN b cI σ th fa ls rm n a gf gt gw F T → σ 62 = some (.inl (cI, 10, .inl g2)) → Fr 62 62 σ0 σ → Z l D kCl tys (kh_M_place :: zT) kNw ky_M_place.cls ky_M_place.name kb_M_place 11 (some FieldType.long) { frames := 10, cells := 0, slots := 0, locals := 360 } b (zFi D kCl b 0 0 Q) 0 0 N (σ) 99 [(3, .int (zB val.2)), (2, .int (nI val.1)), (0, .ref (b + 54)), (1, .int tree)] []) : ∀ (m k : Nat) (σ : Nat → Option va_E) (g2 : Nat → Int32) (P : Nat → Nat) (c : Nat) (q : Bool), k + m = a → MN b cI σ th fa ls rm n a gf gt gw F T → σ 62 = some (.inl (cI, 10, .inl g2)) → PH n n g2 (P) → Fr 62 62 σ0 σ → plG F T tree m k P c q = val → Z l D kCl tys (kh_M_place :: zT) kNw ky_M_place.cls ky_M_place.name kb_M_place 11 (some FieldType.long) { frames := 10, cells := 0, slots := 0, locals := 360 } b (zFi D kCl b 0 0 Q) 0 0 N (σ) 40 [(4, .int (nI k)), (3, .int (zB q)), (2, .int (nI c)), (0, .ref (b + 54)), (1, .int tree)] [] := by
  intro m
  induction m with
  | zero =>
    intro k σ g2 P c q hk hM h62 hp hF hv
    obtain rfl : k = a := by omega
    have ha := hM.ha
    have hv : (c, q) = val := hv
    subst hv
    refine z_iload kd_M_place_40 0 rfl ?_
    refine z_aload_n kd_M_place_42 3 rfl ?_
    refine z_get kd_M_place_43 (kf_M_80 _) hM.h1 rfl ?_
    refine z_icmp_ge (tgt := 99) kd_M_place_46 (by decide) (fun c46 => ?_) (fun c46 => ?_)
    · refine z_pick (lv' := [(3, .int (zB q)), (2, .int (nI c)), (0, .ref (b + 54)), (1, .int tree)]) [1, 2, 3, 4] rfl ?_
      exact kk σ g2 hM h62 hF
    · exact absurd (nI_le (Nat.le_refl k) (by omega)) c46
  | succ m ih =>
    intro k σ g2 P c q hk hM h62 hp hF hv
    have hlt : k < a := by omega
    have hn := hM.hn
    have ha := hM.ha
    obtain ⟨kf, kfn, kt, ktn⟩ := hM.hft k hlt
    unfold plG at hv
    refine z_iload kd_M_place_40 0 rfl ?_
    refine z_aload_n kd_M_place_42 3 rfl ?_
    refine z_get kd_M_place_43 (kf_M_80 _) hM.h1 rfl ?_
    refine z_icmp_ge (tgt := 99) kd_M_place_46 (by decide) (fun c46 => ?_) (fun c46 => ?_)
    · exact absurd c46 (nI_ge hlt (by omega))
    · refine z_iload_n kd_M_place_49 4 rfl ?_
      refine z_iload kd_M_place_50 0 rfl ?_
      refine z_ishr kd_M_place_52 ?_
      refine z_iconst (v := 1) kd_M_place_53 (by decide) ?_
      refine z_iand kd_M_place_54 ?_
      refine z_iconst (v := 1) kd_M_place_55 (by decide) ?_
      refine z_icmp_ne (tgt := 93) kd_M_place_56 (by decide) (fun c56 => ?_) (fun c56 => ?_)
      · have hb : ¬ tb tree k = true := by unfold tb; simp; exact c56
        rw [if_neg hb] at hv
        refine z_iinc (v := (nI (k + 1))) (lv' := [(4, .int _), (3, .int _), (2, .int _), (0, .ref (b + 54)), (1, .int _)]) kd_M_place_93 0 rfl (nI_1 _) (by decide) rfl ?_
        refine z_goto (tgt := 40) kd_M_place_96 (by decide) ?_
        refine z_pick (lv' := [(4, .int (nI (k + 1))), (3, .int (zB q)), (2, .int (nI c)), (0, .ref (b + 54)), (1, .int tree)]) [0, 1, 2, 3, 4] rfl ?_
        exact ih (k + 1) _ _ _ _ _ (by omega) hM h62 hp hF hv
      · have hb : tb tree k = true := by unfold tb; simp; exact c56
        rw [if_pos hb] at hv
        refine z_iload_n kd_M_place_59 1 rfl ?_
        refine z_if_eq (tgt := 88) kd_M_place_60 (by decide) (fun c60 => ?_) (fun c60 => ?_)
        · have hq : q = false := zB_0.mp c60
          subst hq
          rw [if_neg (by decide), Bool.false_and] at hv
          refine z_iconst (v := 0) kd_M_place_88 (by decide) ?_
          refine z_istore_n (lv' := [(3, .int _), (4, .int _), (2, .int _), (0, .ref (b + 54)), (1, .int _)]) kd_M_place_89 (by decide) rfl ?_
          refine z_iinc (v := (nI (c + 1))) (lv' := [(2, .int _), (3, .int _), (4, .int _), (0, .ref (b + 54)), (1, .int _)]) kd_M_place_90 2 rfl (nI_1 _) (by decide) rfl ?_
          refine z_iinc (v := (nI (k + 1))) (lv' := [(4, .int _), (2, .int _), (3, .int _), (0, .ref (b + 54)), (1, .int _)]) kd_M_place_93 2 rfl (nI_1 _) (by decide) rfl ?_
          refine z_goto (tgt := 40) kd_M_place_96 (by decide) ?_
          refine z_pick (lv' := [(4, .int (nI (k + 1))), (3, .int (zB false)), (2, .int (nI (c + 1))), (0, .ref (b + 54)), (1, .int tree)]) [0, 2, 1, 3, 4] rfl ?_
          exact ih (k + 1) _ _ _ _ _ (by omega) hM h62 hp hF hv
        · have hq : q = true := zB_t c60
          subst hq
          rw [if_pos rfl, Bool.true_and] at hv
          refine z_aload_n kd_M_place_63 3 rfl ?_
          refine z_aload_n kd_M_place_64 3 rfl ?_
          refine z_get kd_M_place_65 (kf_M_7 _) hM.h1 rfl ?_
          refine z_iload kd_M_place_68 0 rfl ?_
          refine z_ialdN (t0 := 0) kd_M_place_70 (by assumption) hM.h2 (by omega) (by decide) ?_
          refine z_topi kf ?_
          refine z_aload_n kd_M_place_71 3 rfl ?_
          refine z_get kd_M_place_72 (kf_M_13 _) hM.h1 rfl ?_
          refine z_iload kd_M_place_75 0 rfl ?_
          refine z_ialdN (t0 := 0) kd_M_place_77 (by assumption) hM.h3 (by omega) (by decide) ?_
          refine z_topi kt ?_
          refine z_callV (a := 54) (As := [_, _]) kd_M_place_78 (kg_M_144 _) hM.h1 kc_M (c_M_join ht0 ht1 ht3 hM kfn ktn hp h62) rfl rfl (Nat.le_of_ble_eq_true rfl) ⟨Nat.le_of_ble_eq_true rfl, Nat.le_of_ble_eq_true rfl⟩ ⟨Nat.le_of_ble_eq_true rfl, Nat.le_of_ble_eq_true rfl⟩ ?_
          rintro _ _ σ_1 ⟨hv, rfl, ⟨g2_1, hp_1, x62_1⟩, q_1⟩
          cases hv
          refine z_eq (st' := [_]) rfl rfl rfl rfl ?_
          have hM_1 := hM.fr q_1 (by omega)
          refine z_if_eq (tgt := 88) kd_M_place_81 (by decide) (fun c81 => ?_) (fun c81 => ?_)
          · rw [decide_eq_false (zBz c81)] at hv
            refine z_iconst (v := 0) kd_M_place_88 (by decide) ?_
            refine z_istore_n (lv' := [(3, .int _), (4, .int _), (2, .int _), (0, .ref (b + 54)), (1, .int _)]) kd_M_place_89 (by decide) rfl ?_
            refine z_iinc (v := (nI (c + 1))) (lv' := [(2, .int _), (3, .int _), (4, .int _), (0, .ref (b + 54)), (1, .int _)]) kd_M_place_90 2 rfl (nI_1 _) (by decide) rfl ?_
            refine z_iinc (v := (nI (k + 1))) (lv' := [(4, .int _), (2, .int _), (3, .int _), (0, .ref (b + 54)), (1, .int _)]) kd_M_place_93 2 rfl (nI_1 _) (by decide) rfl ?_
            refine z_goto (tgt := 40) kd_M_place_96 (by decide) ?_
            refine z_pick (lv' := [(4, .int (nI (k + 1))), (3, .int (zB false)), (2, .int (nI (c + 1))), (0, .ref (b + 54)), (1, .int tree)]) [0, 2, 1, 3, 4] rfl ?_
            exact ih (k + 1) _ _ _ _ _ (by omega) hM_1 x62_1 hp_1 (Fr.tr hF (q_1.wide (by omega) (by omega))) hv
          · rw [decide_eq_true (zBn c81)] at hv
            refine z_iconst (v := 1) kd_M_place_84 (by decide) ?_
            refine z_goto (tgt := 89) kd_M_place_85 (by decide) ?_
            refine z_istore_n (lv' := [(3, .int _), (4, .int _), (2, .int _), (0, .ref (b + 54)), (1, .int _)]) kd_M_place_89 (by decide) rfl ?_
            refine z_iinc (v := (nI (c + 1))) (lv' := [(2, .int _), (3, .int _), (4, .int _), (0, .ref (b + 54)), (1, .int _)]) kd_M_place_90 2 rfl (nI_1 _) (by decide) rfl ?_
            refine z_iinc (v := (nI (k + 1))) (lv' := [(4, .int _), (2, .int _), (3, .int _), (0, .ref (b + 54)), (1, .int _)]) kd_M_place_93 2 rfl (nI_1 _) (by decide) rfl ?_
            refine z_goto (tgt := 40) kd_M_place_96 (by decide) ?_
            refine z_pick (lv' := [(4, .int (nI (k + 1))), (3, .int (zB true)), (2, .int (nI (c + 1))), (0, .ref (b + 54)), (1, .int tree)]) [0, 2, 1, 3, 4] rfl ?_
            exact ih (k + 1) _ _ _ _ _ (by omega) hM_1 x62_1 hp_1 (Fr.tr hF (q_1.wide (by omega) (by omega))) hv
set_option maxHeartbeats 4000000 in
set_option maxRecDepth 100000 in
theorem l_M_pls {l : Launch} {D : va_G} {tys : List (ClassId × FieldType)} {b N : Nat} {σ0 : Nat → Option va_E} {cI cJ cA : ClassId} (ht0 : tys[0]? = some (cI, .int)) (ht1 : tys[1]? = some (cJ, .long)) (ht3 : tys[3]? = some (cA, .array .long)) {cZ : ClassId} (ht2 : tys[2]? = some (cZ, .boolean)) {n a : Nat} {gf gt gw : Nat → Int32} {F T : Nat → Nat} {tree : Int32} {val : Int64} {Q : Outcome → Nat → (Nat → Option va_E) → Prop} (hQ : ∀ (σ' : Nat → Option va_E) (th fa ls rm : Value), MN b cI σ' th fa ls rm n a gf gt gw F T → (∃ g, σ' 60 = some (.inl (cJ, 100, .inr (.inl g)))) → (∃ g, σ' 61 = some (.inl (cJ, 100, .inr (.inl g)))) → (∃ g, σ' 62 = some (.inl (cI, 10, .inl g))) → (∃ g, σ' 63 = some (.inl (cZ, 30, .inl g))) → (∃ g, σ' 64 = some (.inl (cI, 10, .inl g))) → (∃ g, σ' 65 = some (.inl (cI, 10, .inl g))) → F2 54 54 60 65 σ0 σ' → Q (.returned (some (.long (val)))) N σ') : ∀ (m k : Nat) (σ : Nat → Option va_E) (th ls rm : Value) (g2 g3 : Nat → Int32) (X : Nat → Bool) (P : Nat → Nat) (f : Int64) (r : Int64), k + m = a → MN b cI σ th (.long f) ls rm n a gf gt gw F T → (∃ g, σ 60 = some (.inl (cJ, 100, .inr (.inl g)))) → (∃ g, σ 61 = some (.inl (cJ, 100, .inr (.inl g)))) → (∃ g, σ 64 = some (.inl (cI, 10, .inl g))) → (∃ g, σ 65 = some (.inl (cI, 10, .inl g))) → σ 62 = some (.inl (cI, 10, .inl g2)) → PH n n g2 (P) → σ 63 = some (.inl (cZ, 30, .inl g3)) → BX a g3 (X) → F2 54 54 60 65 σ0 σ → plL n a F T gw tree m k X P f r = val → Z l D kCl tys (kh_M_place :: zT) kNw ky_M_place.cls ky_M_place.name kb_M_place 11 (some FieldType.long) { frames := 10, cells := 0, slots := 0, locals := 360 } b (zFi D kCl b 0 0 Q) 0 0 N (σ) 136 [(6, .int (nI k)), (4, .long r), (0, .ref (b + 54)), (1, .int tree)] [] := by
  intro m
  induction m with
  | zero =>
    intro k σ th ls rm g2 g3 X P f r hk hM h60 h61 h64 h65 h62 hp h63 hX hF hv
    obtain rfl : k = a := by omega
    obtain ⟨g60, h60⟩ := h60
    obtain ⟨g61, h61⟩ := h61
    obtain ⟨g64, h64⟩ := h64
    obtain ⟨g65, h65⟩ := h65
    have hn := hM.hn
    have ha := hM.ha
    have hv : r = val := hv
    subst hv
    refine z_iload kd_M_place_136 0 rfl ?_
    refine z_aload_n kd_M_place_138 2 rfl ?_
    refine z_get kd_M_place_139 (kf_M_80 _) hM.h1 rfl ?_
    refine z_icmp_ge (tgt := 247) kd_M_place_142 (by decide) (fun c142 => ?_) (fun c142 => ?_)
    · refine z_lload kd_M_place_247 1 rfl ?_
      exact z_lret kd_M_place_249 rfl (Nat.le_of_ble_eq_true rfl) (Nat.le_of_ble_eq_true rfl) (hQ _ _ _ _ _ hM ⟨_, h60⟩ ⟨_, h61⟩ ⟨_, h62⟩ ⟨_, h63⟩ ⟨_, h64⟩ ⟨_, h65⟩ hF)
    · exact absurd (nI_le (Nat.le_refl k) (by omega)) c142
  | succ m ih =>
    intro k σ th ls rm g2 g3 X P f r hk hM h60 h61 h64 h65 h62 hp h63 hX hF hv
    have hlt : k < a := by omega
    obtain ⟨g60, h60⟩ := h60
    obtain ⟨g61, h61⟩ := h61
    obtain ⟨g64, h64⟩ := h64
    obtain ⟨g65, h65⟩ := h65
    have hn := hM.hn
    have ha := hM.ha
    obtain ⟨kf, kfn, kt, ktn⟩ := hM.hft k hlt
    unfold plL at hv
    refine z_iload kd_M_place_136 0 rfl ?_
    refine z_aload_n kd_M_place_138 2 rfl ?_
    refine z_get kd_M_place_139 (kf_M_80 _) hM.h1 rfl ?_
    refine z_icmp_ge (tgt := 247) kd_M_place_142 (by decide) (fun c142 => ?_) (fun c142 => ?_)
    · exact absurd c142 (nI_ge hlt (by omega))
    · refine z_iload_n kd_M_place_145 3 rfl ?_
      refine z_iload kd_M_place_146 0 rfl ?_
      refine z_ishr kd_M_place_148 ?_
      refine z_iconst (v := 1) kd_M_place_149 (by decide) ?_
      refine z_iand kd_M_place_150 ?_
      refine z_iconst (v := 1) kd_M_place_151 (by decide) ?_
      refine z_icmp_ne (tgt := 159) kd_M_place_152 (by decide) (fun c152 => ?_) (fun c152 => ?_)
      · have hb : ¬ tb tree k = true := by unfold tb; simp; exact c152
        rw [if_neg hb] at hv
        refine z_iconst (v := 0) kd_M_place_159 (by decide) ?_
        refine z_istore (lv' := [(7, .int _), (6, .int _), (4, .long _), (0, .ref (b + 54)), (1, .int _)]) kd_M_place_160 (by decide) rfl ?_
        refine z_iload kd_M_place_162 0 rfl ?_
        refine z_if_eq (tgt := 171) kd_M_place_164 (by decide) (fun c164 => ?_) (fun c164 => absurd c164 (by decide))
        refine z_aload_n kd_M_place_171 3 rfl ?_
        refine z_iload kd_M_place_172 1 rfl ?_
        refine z_callV (a := 54) (As := [_]) kd_M_place_174 (kg_M_152 _) hM.h1 kc_M (c_M_with ht0 ht1 ht3 ht2 hM hp hX h60 h61 h62 h63 h64 h65 hlt) rfl rfl (Nat.le_of_ble_eq_true rfl) ⟨Nat.le_of_ble_eq_true rfl, Nat.le_of_ble_eq_true rfl⟩ ⟨Nat.le_of_ble_eq_true rfl, Nat.le_of_ble_eq_true rfl⟩ ?_
        rintro _ _ σ_1 ⟨hv, rfl, ⟨g0_1, x60_1⟩, ⟨g1_1, x61_1⟩, ⟨g2_1, hp_1, x62_1⟩, ⟨g3_1, X_1, x63_1, hX_1, hXe_1⟩, ⟨g4_1, x64_1⟩, ⟨g5_1, x65_1⟩, q_1⟩
        cases hv
        refine z_eq (st' := [_]) rfl rfl rfl rfl ?_
        have hM_1 := hM.fr q_1 (by omega)
        refine z_aload_n kd_M_place_177 3 rfl ?_
        refine z_get kd_M_place_178 (kf_M_148 _) hM_1.h1 rfl ?_
        refine z_lmul kd_M_place_181 ?_
        refine z_lstore (lv' := [(8, .long _), (7, .int _), (6, .int _), (4, .long _), (0, .ref (b + 54)), (1, .int _)]) kd_M_place_182 (by decide) rfl ?_
        refine z_aload_n kd_M_place_184 4 rfl ?_
        refine z_get kd_M_place_185 (kf_M_35 _) hM_1.h1 rfl ?_
        refine z_iload kd_M_place_188 2 rfl ?_
        refine z_iconst (v := 1) kd_M_place_190 (by decide) ?_
        refine z_zastN (t0 := 2) kd_M_place_191 (by assumption) x63_1 (by omega) (by decide) rfl ?_
        refine z_upd (fun σ_2 x63_2 q_2 => ?_)
        have x60_2 := (q_2 60 (by omega)).trans x60_1
        have x61_2 := (q_2 61 (by omega)).trans x61_1
        have x62_2 := (q_2 62 (by omega)).trans x62_1
        have x64_2 := (q_2 64 (by omega)).trans x64_1
        have x65_2 := (q_2 65 (by omega)).trans x65_1
        have hM_2 := hM_1.fr q_2 (by omega)
        refine z_iload kd_M_place_192 1 rfl ?_
        refine z_if_eq (tgt := 234) kd_M_place_194 (by decide) (fun c194 => ?_) (fun c194 => absurd c194 (by decide))
        refine z_lload kd_M_place_234 3 rfl ?_
        refine z_lload kd_M_place_236 0 rfl ?_
        refine z_ladd kd_M_place_238 ?_
        refine z_lstore (lv' := [(4, .long _), (8, .long _), (7, .int _), (6, .int _), (0, .ref (b + 54)), (1, .int _)]) kd_M_place_239 (by decide) rfl ?_
        refine z_iinc (v := (nI (k + 1))) (lv' := [(6, .int _), (4, .long _), (8, .long _), (7, .int _), (0, .ref (b + 54)), (1, .int _)]) kd_M_place_241 3 rfl (nI_1 _) (by decide) rfl ?_
        refine z_goto (tgt := 136) kd_M_place_244 (by decide) ?_
        refine z_pick (lv' := [(6, .int (nI (k + 1))), (4, .long _), (0, .ref (b + 54)), (1, .int tree)]) [0, 1, 4, 5] rfl ?_
        exact ih (k + 1) _ _ _ _ _ _ _ _ _ _ (by omega) hM_2 ⟨_, x60_2⟩ ⟨_, x61_2⟩ ⟨_, x64_2⟩ ⟨_, x65_2⟩ x62_2 hp_1 x63_2 ((BX.set hX_1).eq hXe_1) ((hF.tr q_1 (by omega)).tr q_2 (by omega)) hv
      · have hb : tb tree k = true := by unfold tb; simp; exact c152
        rw [if_pos hb] at hv
        refine z_iconst (v := 1) kd_M_place_155 (by decide) ?_
        refine z_goto (tgt := 160) kd_M_place_156 (by decide) ?_
        refine z_istore (lv' := [(7, .int _), (6, .int _), (4, .long _), (0, .ref (b + 54)), (1, .int _)]) kd_M_place_160 (by decide) rfl ?_
        refine z_iload kd_M_place_162 0 rfl ?_
        refine z_if_eq (tgt := 171) kd_M_place_164 (by decide) (fun c164 => absurd c164 (by decide)) (fun c164 => ?_)
        refine z_lconst (v := 0) kd_M_place_167 (by decide +kernel) ?_
        refine z_goto (tgt := 182) kd_M_place_168 (by decide) ?_
        refine z_lstore (lv' := [(8, .long _), (7, .int _), (6, .int _), (4, .long _), (0, .ref (b + 54)), (1, .int _)]) kd_M_place_182 (by decide) rfl ?_
        refine z_aload_n kd_M_place_184 4 rfl ?_
        refine z_get kd_M_place_185 (kf_M_35 _) hM.h1 rfl ?_
        refine z_iload kd_M_place_188 2 rfl ?_
        refine z_iconst (v := 1) kd_M_place_190 (by decide) ?_
        refine z_zastN (t0 := 2) kd_M_place_191 (by assumption) h63 (by omega) (by decide) rfl ?_
        refine z_upd (fun σ_3 x63_3 q_3 => ?_)
        have x60_3 := (q_3 60 (by omega)).trans h60
        have x61_3 := (q_3 61 (by omega)).trans h61
        have x62_3 := (q_3 62 (by omega)).trans h62
        have x64_3 := (q_3 64 (by omega)).trans h64
        have x65_3 := (q_3 65 (by omega)).trans h65
        have hM_3 := hM.fr q_3 (by omega)
        refine z_iload kd_M_place_192 1 rfl ?_
        refine z_if_eq (tgt := 234) kd_M_place_194 (by decide) (fun c194 => absurd c194 (by decide)) (fun c194 => ?_)
        refine z_aload_n kd_M_place_197 4 rfl ?_
        refine z_aload_n kd_M_place_198 4 rfl ?_
        refine z_get kd_M_place_199 (kf_M_7 _) hM_3.h1 rfl ?_
        refine z_iload kd_M_place_202 2 rfl ?_
        refine z_ialdN (t0 := 0) kd_M_place_204 (by assumption) hM_3.h2 (by omega) (by decide) ?_
        refine z_topi kf ?_
        refine z_aload_n kd_M_place_205 4 rfl ?_
        refine z_get kd_M_place_206 (kf_M_13 _) hM_3.h1 rfl ?_
        refine z_iload kd_M_place_209 2 rfl ?_
        refine z_ialdN (t0 := 0) kd_M_place_211 (by assumption) hM_3.h3 (by omega) (by decide) ?_
        refine z_topi kt ?_
        refine z_callV (a := 54) (As := [_, _]) kd_M_place_212 (kg_M_144 _) hM_3.h1 kc_M (c_M_join ht0 ht1 ht3 hM_3 kfn ktn hp x62_3) rfl rfl (Nat.le_of_ble_eq_true rfl) ⟨Nat.le_of_ble_eq_true rfl, Nat.le_of_ble_eq_true rfl⟩ ⟨Nat.le_of_ble_eq_true rfl, Nat.le_of_ble_eq_true rfl⟩ ?_
        rintro _ _ σ_4 ⟨hv, rfl, ⟨g2_4, hp_4, x62_4⟩, q_4⟩
        cases hv
        refine z_eq (st' := [_]) rfl rfl rfl rfl ?_
        have x60_4 := (q_4 60 (by omega)).trans x60_3
        have x61_4 := (q_4 61 (by omega)).trans x61_3
        have x63_4 := (q_4 63 (by omega)).trans x63_3
        have x64_4 := (q_4 64 (by omega)).trans x64_3
        have x65_4 := (q_4 65 (by omega)).trans x65_3
        have hM_4 := hM_3.fr q_4 (by omega)
        refine z_istore (lv' := [(10, .int _), (8, .long _), (7, .int _), (6, .int _), (4, .long _), (0, .ref (b + 54)), (1, .int _)]) kd_M_place_215 (by decide) rfl ?_
        refine z_aload_n kd_M_place_217 5 rfl ?_
        refine z_dup kd_M_place_218 rfl ?_
        refine z_get kd_M_place_219 (kf_M_148 _) hM_4.h1 rfl ?_
        refine z_aload_n kd_M_place_222 5 rfl ?_
        refine z_get kd_M_place_223 (kf_M_16 _) hM_4.h1 rfl ?_
        refine z_iload kd_M_place_226 3 rfl ?_
        refine z_ialdN (t0 := 0) kd_M_place_228 (by assumption) hM_4.h4 (by omega) (by decide) ?_
        refine z_i2l kd_M_place_229 ?_
        refine z_lmul kd_M_place_230 ?_
        refine z_putE (fs' := [_, _, _, _, _, _, _, _, _, _, _, _, _, _, _, _, _, _, _, _, _, _, _, _, _]) kd_M_place_231 (kp_M_148 _) hM_4.h1 (Nat.le_of_ble_eq_true rfl) rfl rfl rfl ?_
        refine z_upd (fun σ_5 x54_5 q_5 => ?_)
        have x60_5 := (q_5 60 (by omega)).trans x60_4
        have x61_5 := (q_5 61 (by omega)).trans x61_4
        have x62_5 := (q_5 62 (by omega)).trans x62_4
        have x63_5 := (q_5 63 (by omega)).trans x63_4
        have x64_5 := (q_5 64 (by omega)).trans x64_4
        have x65_5 := (q_5 65 (by omega)).trans x65_4
        have hM_5 := hM_4.put x54_5 q_5
        refine z_lload kd_M_place_234 4 rfl ?_
        refine z_lload kd_M_place_236 1 rfl ?_
        refine z_ladd kd_M_place_238 ?_
        refine z_topl (Int64.add_zero _) ?_
        refine z_lstore (lv' := [(4, .long _), (10, .int _), (8, .long _), (7, .int _), (6, .int _), (0, .ref (b + 54)), (1, .int _)]) kd_M_place_239 (by decide) rfl ?_
        refine z_iinc (v := (nI (k + 1))) (lv' := [(6, .int _), (4, .long _), (10, .int _), (8, .long _), (7, .int _), (0, .ref (b + 54)), (1, .int _)]) kd_M_place_241 4 rfl (nI_1 _) (by decide) rfl ?_
        refine z_goto (tgt := 136) kd_M_place_244 (by decide) ?_
        refine z_pick (lv' := [(6, .int (nI (k + 1))), (4, .long _), (0, .ref (b + 54)), (1, .int tree)]) [0, 1, 5, 6] rfl ?_
        exact ih (k + 1) _ _ _ _ _ _ _ _ _ _ (by omega) hM_5 ⟨_, x60_5⟩ ⟨_, x61_5⟩ ⟨_, x64_5⟩ ⟨_, x65_5⟩ x62_5 hp_4 x63_5 (BX.set hX) (((hF.tr q_3 (by omega)).tr q_4 (by omega)).tr q_5 (by omega)) hv
set_option maxHeartbeats 4000000 in
set_option maxRecDepth 100000 in
theorem c_M_place0 {l : Launch} {D : va_G} {tys : List (ClassId × FieldType)} {b N : Nat} {σ : Nat → Option va_E} {cI cJ cA : ClassId} (ht0 : tys[0]? = some (cI, .int)) (ht1 : tys[1]? = some (cJ, .long)) (ht3 : tys[3]? = some (cA, .array .long)) {cZ : ClassId} (ht2 : tys[2]? = some (cZ, .boolean)) {n a : Nat} {gf gt gw : Nat → Int32} {F T : Nat → Nat} {C K : Nat → Int64} (hMS : MS b cI cJ cZ σ n a gf gt gw F T C K) {tree : Int32} (hb : n = 0 ∨ tree < 0 ∨ ¬ tree >>> (nI a &&& 31) = 0) : zM l D kCl tys kNw b ky_M_place (kh_M_place :: zT) 10 360 0 0 [.ref (b + 54), .int tree] N σ ((fun oc N' σ' => oc = .returned (some (.long (-1))) ∧ N' = N ∧ MS b cI cJ cZ σ' n a gf gt gw F T C K ∧ Fr 54 73 σ σ')) := by
  refine zM.of (by decide +kernel) rfl (Nat.le_of_ble_eq_true rfl) ?_
  refine z_pick (lv' := [(0, .ref (b + 54)), (1, .int tree)]) [0, 1] rfl ?_
  obtain ⟨⟨th, fa, ls, rm, hM⟩, h58, h59, ⟨g60, h60⟩, ⟨g61, h61⟩, ⟨g62, h62⟩, ⟨g63, h63⟩, ⟨g64, h64⟩, ⟨g65, h65⟩, ⟨g66, h66⟩, ⟨g67, h67⟩, ⟨g68, h68⟩, ⟨g69, h69⟩, ⟨g70, h70⟩, ⟨g71, h71⟩, ⟨g72, h72⟩, ⟨g73, h73⟩⟩ := hMS
  have hn := hM.hn
  have ha := hM.ha
  refine z_aload_n kd_M_place_0 0 rfl ?_
  refine z_iconst (v := 0) kd_M_place_1 (by decide) ?_
  refine z_putE (fs' := [_, _, _, _, _, _, _, _, _, _, _, _, _, _, _, _, _, _, _, _, _, _, _, _, _]) kd_M_place_2 (kp_M_69 _) hM.h1 (Nat.le_of_ble_eq_true rfl) rfl rfl rfl ?_
  refine z_upd (fun σ_1 x54_1 q_1 => ?_)
  have x58_1 := (q_1 58 (by omega)).trans h58
  have x59_1 := (q_1 59 (by omega)).trans h59
  have x60_1 := (q_1 60 (by omega)).trans h60
  have x61_1 := (q_1 61 (by omega)).trans h61
  have x62_1 := (q_1 62 (by omega)).trans h62
  have x63_1 := (q_1 63 (by omega)).trans h63
  have x64_1 := (q_1 64 (by omega)).trans h64
  have x65_1 := (q_1 65 (by omega)).trans h65
  have x66_1 := (q_1 66 (by omega)).trans h66
  have x67_1 := (q_1 67 (by omega)).trans h67
  have x68_1 := (q_1 68 (by omega)).trans h68
  have x69_1 := (q_1 69 (by omega)).trans h69
  have x70_1 := (q_1 70 (by omega)).trans h70
  have x71_1 := (q_1 71 (by omega)).trans h71
  have x72_1 := (q_1 72 (by omega)).trans h72
  have x73_1 := (q_1 73 (by omega)).trans h73
  have hM_1 := hM.put x54_1 q_1
  refine z_aload_n kd_M_place_5 0 rfl ?_
  refine z_get kd_M_place_6 (kf_M_73 _) hM_1.h1 rfl ?_
  refine z_if_eq (tgt := 25) kd_M_place_9 (by decide) (fun c9 => ?_) (fun c9 => ?_)
  · refine z_ldc2 (v := -1) kd_M_place_25 (List.mem_cons_of_mem _ (zin 918 rfl rfl)) ?_
    exact z_lret kd_M_place_28 rfl (Nat.le_of_ble_eq_true rfl) (Nat.le_of_ble_eq_true rfl) ⟨rfl, rfl, ⟨⟨_, _, _, _, hM_1⟩, x58_1, x59_1, ⟨_, x60_1⟩, ⟨_, x61_1⟩, ⟨_, x62_1⟩, ⟨_, x63_1⟩, ⟨_, x64_1⟩, ⟨_, x65_1⟩, ⟨_, x66_1⟩, ⟨_, x67_1⟩, ⟨_, x68_1⟩, ⟨_, x69_1⟩, ⟨_, x70_1⟩, ⟨_, x71_1⟩, ⟨_, x72_1⟩, ⟨_, x73_1⟩⟩, (Fr.tr Fr.rf (q_1.wide (by omega) (by omega)))⟩
  · refine z_iload_n kd_M_place_12 1 rfl ?_
    refine z_if_lt (tgt := 25) kd_M_place_13 (by decide) (fun c13 => ?_) (fun c13 => ?_)
    · refine z_ldc2 (v := -1) kd_M_place_25 (List.mem_cons_of_mem _ (zin 918 rfl rfl)) ?_
      exact z_lret kd_M_place_28 rfl (Nat.le_of_ble_eq_true rfl) (Nat.le_of_ble_eq_true rfl) ⟨rfl, rfl, ⟨⟨_, _, _, _, hM_1⟩, x58_1, x59_1, ⟨_, x60_1⟩, ⟨_, x61_1⟩, ⟨_, x62_1⟩, ⟨_, x63_1⟩, ⟨_, x64_1⟩, ⟨_, x65_1⟩, ⟨_, x66_1⟩, ⟨_, x67_1⟩, ⟨_, x68_1⟩, ⟨_, x69_1⟩, ⟨_, x70_1⟩, ⟨_, x71_1⟩, ⟨_, x72_1⟩, ⟨_, x73_1⟩⟩, (Fr.tr Fr.rf (q_1.wide (by omega) (by omega)))⟩
    · refine z_iload_n kd_M_place_16 1 rfl ?_
      refine z_aload_n kd_M_place_17 0 rfl ?_
      refine z_get kd_M_place_18 (kf_M_80 _) hM_1.h1 rfl ?_
      refine z_ishr kd_M_place_21 ?_
      refine z_if_eq (tgt := 29) kd_M_place_22 (by decide) (fun c22 => ?_) (fun c22 => ?_)
      · exact absurd hb (fun z => by rcases z with z | z | z; exact c9 (by rw [z]; rfl); exact c13 z; exact z c22)
      · refine z_ldc2 (v := -1) kd_M_place_25 (List.mem_cons_of_mem _ (zin 918 rfl rfl)) ?_
        exact z_lret kd_M_place_28 rfl (Nat.le_of_ble_eq_true rfl) (Nat.le_of_ble_eq_true rfl) ⟨rfl, rfl, ⟨⟨_, _, _, _, hM_1⟩, x58_1, x59_1, ⟨_, x60_1⟩, ⟨_, x61_1⟩, ⟨_, x62_1⟩, ⟨_, x63_1⟩, ⟨_, x64_1⟩, ⟨_, x65_1⟩, ⟨_, x66_1⟩, ⟨_, x67_1⟩, ⟨_, x68_1⟩, ⟨_, x69_1⟩, ⟨_, x70_1⟩, ⟨_, x71_1⟩, ⟨_, x72_1⟩, ⟨_, x73_1⟩⟩, (Fr.tr Fr.rf (q_1.wide (by omega) (by omega)))⟩
theorem plG_le {F T : Nat → Nat} {tree : Int32} : ∀ (m k : Nat) (P : Nat → Nat) (c : Nat) (q : Bool), (plG F T tree m k P c q).1 ≤ c + m := by
  intro m
  induction m with
  | zero => intro k P c q; exact Nat.le_refl _
  | succ m ih =>
    intro k P c q
    unfold plG
    split
    · have := ih (k + 1) (if q = true then jmP (F k) (T k) P else P) (c + 1) (q && decide (¬ P (F k) = P (T k))); omega
    · have := ih (k + 1) P c q; omega
set_option maxHeartbeats 4000000 in
set_option maxRecDepth 100000 in
theorem c_M_place1 {l : Launch} {D : va_G} {tys : List (ClassId × FieldType)} {b N : Nat} {σ : Nat → Option va_E} {cI cJ cA : ClassId} (ht0 : tys[0]? = some (cI, .int)) (ht1 : tys[1]? = some (cJ, .long)) (ht3 : tys[3]? = some (cA, .array .long)) {cZ : ClassId} (ht2 : tys[2]? = some (cZ, .boolean)) {n a : Nat} {gf gt gw : Nat → Int32} {F T : Nat → Nat} {C K : Nat → Int64} (hMS : MS b cI cJ cZ σ n a gf gt gw F T C K) {tree : Int32} (h0 : ¬ n = 0) (h1 : ¬ tree < 0) (h2 : tree >>> (nI a &&& 31) = 0) (hb : ¬ ((plG F T tree a 0 (fun v => v) 0 true).2 = true ∧ (plG F T tree a 0 (fun v => v) 0 true).1 + 1 = n)) : zM l D kCl tys kNw b ky_M_place (kh_M_place :: zT) 10 360 0 0 [.ref (b + 54), .int tree] N σ ((fun oc N' σ' => oc = .returned (some (.long (-1))) ∧ N' = N ∧ MS b cI cJ cZ σ' n a gf gt gw F T C K ∧ Fr 54 73 σ σ')) := by
  refine zM.of (by decide +kernel) rfl (Nat.le_of_ble_eq_true rfl) ?_
  refine z_pick (lv' := [(0, .ref (b + 54)), (1, .int tree)]) [0, 1] rfl ?_
  obtain ⟨⟨th, fa, ls, rm, hM⟩, h58, h59, ⟨g60, h60⟩, ⟨g61, h61⟩, ⟨g62, h62⟩, ⟨g63, h63⟩, ⟨g64, h64⟩, ⟨g65, h65⟩, ⟨g66, h66⟩, ⟨g67, h67⟩, ⟨g68, h68⟩, ⟨g69, h69⟩, ⟨g70, h70⟩, ⟨g71, h71⟩, ⟨g72, h72⟩, ⟨g73, h73⟩⟩ := hMS
  have hn := hM.hn
  have ha := hM.ha
  refine z_aload_n kd_M_place_0 0 rfl ?_
  refine z_iconst (v := 0) kd_M_place_1 (by decide) ?_
  refine z_putE (fs' := [_, _, _, _, _, _, _, _, _, _, _, _, _, _, _, _, _, _, _, _, _, _, _, _, _]) kd_M_place_2 (kp_M_69 _) hM.h1 (Nat.le_of_ble_eq_true rfl) rfl rfl rfl ?_
  refine z_upd (fun σ_1 x54_1 q_1 => ?_)
  have x58_1 := (q_1 58 (by omega)).trans h58
  have x59_1 := (q_1 59 (by omega)).trans h59
  have x60_1 := (q_1 60 (by omega)).trans h60
  have x61_1 := (q_1 61 (by omega)).trans h61
  have x62_1 := (q_1 62 (by omega)).trans h62
  have x63_1 := (q_1 63 (by omega)).trans h63
  have x64_1 := (q_1 64 (by omega)).trans h64
  have x65_1 := (q_1 65 (by omega)).trans h65
  have x66_1 := (q_1 66 (by omega)).trans h66
  have x67_1 := (q_1 67 (by omega)).trans h67
  have x68_1 := (q_1 68 (by omega)).trans h68
  have x69_1 := (q_1 69 (by omega)).trans h69
  have x70_1 := (q_1 70 (by omega)).trans h70
  have x71_1 := (q_1 71 (by omega)).trans h71
  have x72_1 := (q_1 72 (by omega)).trans h72
  have x73_1 := (q_1 73 (by omega)).trans h73
  have hM_1 := hM.put x54_1 q_1
  refine z_aload_n kd_M_place_5 0 rfl ?_
  refine z_get kd_M_place_6 (kf_M_73 _) hM_1.h1 rfl ?_
  refine z_if_eq (tgt := 25) kd_M_place_9 (by decide) (fun c9 => ?_) (fun c9 => ?_)
  · exact absurd ((nI_eq (b := 0) (by omega) (by decide)).mp c9) h0
  · refine z_iload_n kd_M_place_12 1 rfl ?_
    refine z_if_lt (tgt := 25) kd_M_place_13 (by decide) (fun c13 => ?_) (fun c13 => ?_)
    · exact absurd c13 h1
    · refine z_iload_n kd_M_place_16 1 rfl ?_
      refine z_aload_n kd_M_place_17 0 rfl ?_
      refine z_get kd_M_place_18 (kf_M_80 _) hM_1.h1 rfl ?_
      refine z_ishr kd_M_place_21 ?_
      refine z_if_eq (tgt := 29) kd_M_place_22 (by decide) (fun c22 => ?_) (fun c22 => ?_)
      · refine z_aload_n kd_M_place_29 0 rfl ?_
        refine z_callV (a := 54) (As := []) kd_M_place_30 (kg_M_121 _) hM_1.h1 kc_M (c_M_apartAll ht0 ht1 ht3 hM_1 x62_1) rfl rfl (Nat.le_of_ble_eq_true rfl) ⟨Nat.le_of_ble_eq_true rfl, Nat.le_of_ble_eq_true rfl⟩ ⟨Nat.le_of_ble_eq_true rfl, Nat.le_of_ble_eq_true rfl⟩ ?_
        rintro _ _ σ_2 ⟨hv, rfl, ⟨g2_2, hp_2, x62_2⟩, q_2⟩
        cases hv
        refine z_eq (st' := []) rfl rfl rfl rfl ?_
        have x58_2 := (q_2 58 (by omega)).trans x58_1
        have x59_2 := (q_2 59 (by omega)).trans x59_1
        have x60_2 := (q_2 60 (by omega)).trans x60_1
        have x61_2 := (q_2 61 (by omega)).trans x61_1
        have x63_2 := (q_2 63 (by omega)).trans x63_1
        have x64_2 := (q_2 64 (by omega)).trans x64_1
        have x65_2 := (q_2 65 (by omega)).trans x65_1
        have x66_2 := (q_2 66 (by omega)).trans x66_1
        have x67_2 := (q_2 67 (by omega)).trans x67_1
        have x68_2 := (q_2 68 (by omega)).trans x68_1
        have x69_2 := (q_2 69 (by omega)).trans x69_1
        have x70_2 := (q_2 70 (by omega)).trans x70_1
        have x71_2 := (q_2 71 (by omega)).trans x71_1
        have x72_2 := (q_2 72 (by omega)).trans x72_1
        have x73_2 := (q_2 73 (by omega)).trans x73_1
        have hM_2 := hM_1.fr q_2 (by omega)
        refine z_iconst (v := 0) kd_M_place_33 (by decide) ?_
        refine z_istore_n (lv' := [(2, .int _), (0, .ref (b + 54)), (1, .int _)]) kd_M_place_34 (by decide) rfl ?_
        refine z_iconst (v := 1) kd_M_place_35 (by decide) ?_
        refine z_istore_n (lv' := [(3, .int _), (2, .int _), (0, .ref (b + 54)), (1, .int _)]) kd_M_place_36 (by decide) rfl ?_
        refine z_iconst (v := 0) kd_M_place_37 (by decide) ?_
        refine z_istore (lv' := [(4, .int _), (3, .int _), (2, .int _), (0, .ref (b + 54)), (1, .int _)]) kd_M_place_38 (by decide) rfl ?_
        refine z_pick (lv' := [(4, .int (nI 0)), (3, .int (zB true)), (2, .int (nI 0)), (0, .ref (b + 54)), (1, .int tree)]) [0, 1, 2, 3, 4] rfl ?_
        refine l_M_plg ht0 ht1 ht3 (val := plG F T tree a 0 (fun v => v) 0 true) (fun σ_3 g2_3 hM_3 x62_3 q_3 => ?_) a 0 _ _ _ _ _ (by omega) hM_2 x62_2 hp_2 Fr.rf rfl
        have x58_3 := (q_3 58 (by omega)).trans x58_2
        have x59_3 := (q_3 59 (by omega)).trans x59_2
        have x60_3 := (q_3 60 (by omega)).trans x60_2
        have x61_3 := (q_3 61 (by omega)).trans x61_2
        have x63_3 := (q_3 63 (by omega)).trans x63_2
        have x64_3 := (q_3 64 (by omega)).trans x64_2
        have x65_3 := (q_3 65 (by omega)).trans x65_2
        have x66_3 := (q_3 66 (by omega)).trans x66_2
        have x67_3 := (q_3 67 (by omega)).trans x67_2
        have x68_3 := (q_3 68 (by omega)).trans x68_2
        have x69_3 := (q_3 69 (by omega)).trans x69_2
        have x70_3 := (q_3 70 (by omega)).trans x70_2
        have x71_3 := (q_3 71 (by omega)).trans x71_2
        have x72_3 := (q_3 72 (by omega)).trans x72_2
        have x73_3 := (q_3 73 (by omega)).trans x73_2
        refine z_iload_n kd_M_place_99 0 rfl ?_
        refine z_if_eq (tgt := 113) kd_M_place_100 (by decide) (fun c100 => ?_) (fun c100 => ?_)
        · refine z_ldc2 (v := -1) kd_M_place_113 (List.mem_cons_of_mem _ (zin 918 rfl rfl)) ?_
          exact z_lret kd_M_place_116 rfl (Nat.le_of_ble_eq_true rfl) (Nat.le_of_ble_eq_true rfl) ⟨rfl, rfl, ⟨⟨_, _, _, _, hM_3⟩, x58_3, x59_3, ⟨_, x60_3⟩, ⟨_, x61_3⟩, ⟨_, x62_3⟩, ⟨_, x63_3⟩, ⟨_, x64_3⟩, ⟨_, x65_3⟩, ⟨_, x66_3⟩, ⟨_, x67_3⟩, ⟨_, x68_3⟩, ⟨_, x69_3⟩, ⟨_, x70_3⟩, ⟨_, x71_3⟩, ⟨_, x72_3⟩, ⟨_, x73_3⟩⟩, (Fr.tr (Fr.tr (Fr.tr Fr.rf (q_1.wide (by omega) (by omega))) (q_2.wide (by omega) (by omega))) (q_3.wide (by omega) (by omega)))⟩
        · refine z_iload_n kd_M_place_103 1 rfl ?_
          refine z_aload_n kd_M_place_104 2 rfl ?_
          refine z_get kd_M_place_105 (kf_M_73 _) hM_3.h1 rfl ?_
          refine z_iconst (v := 1) kd_M_place_108 (by decide) ?_
          refine z_isub kd_M_place_109 ?_
          refine z_topi (pk_sub (a := n) (b := 1) (by omega)) ?_
          refine z_icmp_eq (tgt := 117) kd_M_place_110 (by decide) (fun c110 => ?_) (fun c110 => ?_)
          · exact absurd hb (fun z => z ⟨zB_t c100, by have e := (nI_eq (a := (plG F T tree a 0 (fun v => v) 0 true).1) (b := n - 1) (by have := plG_le (F := F) (T := T) (tree := tree) a 0 (fun v => v) 0 true; omega) (by omega)).mp c110; omega⟩)
          · refine z_ldc2 (v := -1) kd_M_place_113 (List.mem_cons_of_mem _ (zin 918 rfl rfl)) ?_
            exact z_lret kd_M_place_116 rfl (Nat.le_of_ble_eq_true rfl) (Nat.le_of_ble_eq_true rfl) ⟨rfl, rfl, ⟨⟨_, _, _, _, hM_3⟩, x58_3, x59_3, ⟨_, x60_3⟩, ⟨_, x61_3⟩, ⟨_, x62_3⟩, ⟨_, x63_3⟩, ⟨_, x64_3⟩, ⟨_, x65_3⟩, ⟨_, x66_3⟩, ⟨_, x67_3⟩, ⟨_, x68_3⟩, ⟨_, x69_3⟩, ⟨_, x70_3⟩, ⟨_, x71_3⟩, ⟨_, x72_3⟩, ⟨_, x73_3⟩⟩, (Fr.tr (Fr.tr (Fr.tr Fr.rf (q_1.wide (by omega) (by omega))) (q_2.wide (by omega) (by omega))) (q_3.wide (by omega) (by omega)))⟩
      · exact absurd h2 c22
set_option maxHeartbeats 4000000 in
set_option maxRecDepth 100000 in
theorem c_M_place2 {l : Launch} {D : va_G} {tys : List (ClassId × FieldType)} {b N : Nat} {σ : Nat → Option va_E} {cI cJ cA : ClassId} (ht0 : tys[0]? = some (cI, .int)) (ht1 : tys[1]? = some (cJ, .long)) (ht3 : tys[3]? = some (cA, .array .long)) {cZ : ClassId} (ht2 : tys[2]? = some (cZ, .boolean)) {n a : Nat} {gf gt gw : Nat → Int32} {F T : Nat → Nat} {C K : Nat → Int64} (hMS : MS b cI cJ cZ σ n a gf gt gw F T C K) {tree : Int32} (h0 : ¬ n = 0) (h1 : ¬ tree < 0) (h2 : tree >>> (nI a &&& 31) = 0) (hb : (plG F T tree a 0 (fun v => v) 0 true).2 = true ∧ (plG F T tree a 0 (fun v => v) 0 true).1 + 1 = n) : zM l D kCl tys kNw b ky_M_place (kh_M_place :: zT) 10 360 0 0 [.ref (b + 54), .int tree] N σ ((fun oc N' σ' => oc = .returned (some (.long (plV n a F T gw tree))) ∧ N' = N ∧ MS b cI cJ cZ σ' n a gf gt gw F T C K ∧ Fr 54 73 σ σ')) := by
  refine zM.of (by decide +kernel) rfl (Nat.le_of_ble_eq_true rfl) ?_
  refine z_pick (lv' := [(0, .ref (b + 54)), (1, .int tree)]) [0, 1] rfl ?_
  obtain ⟨⟨th, fa, ls, rm, hM⟩, h58, h59, ⟨g60, h60⟩, ⟨g61, h61⟩, ⟨g62, h62⟩, ⟨g63, h63⟩, ⟨g64, h64⟩, ⟨g65, h65⟩, ⟨g66, h66⟩, ⟨g67, h67⟩, ⟨g68, h68⟩, ⟨g69, h69⟩, ⟨g70, h70⟩, ⟨g71, h71⟩, ⟨g72, h72⟩, ⟨g73, h73⟩⟩ := hMS
  have hn := hM.hn
  have ha := hM.ha
  refine z_aload_n kd_M_place_0 0 rfl ?_
  refine z_iconst (v := 0) kd_M_place_1 (by decide) ?_
  refine z_putE (fs' := [_, _, _, _, _, _, _, _, _, _, _, _, _, _, _, _, _, _, _, _, _, _, _, _, _]) kd_M_place_2 (kp_M_69 _) hM.h1 (Nat.le_of_ble_eq_true rfl) rfl rfl rfl ?_
  refine z_upd (fun σ_1 x54_1 q_1 => ?_)
  have x58_1 := (q_1 58 (by omega)).trans h58
  have x59_1 := (q_1 59 (by omega)).trans h59
  have x60_1 := (q_1 60 (by omega)).trans h60
  have x61_1 := (q_1 61 (by omega)).trans h61
  have x62_1 := (q_1 62 (by omega)).trans h62
  have x63_1 := (q_1 63 (by omega)).trans h63
  have x64_1 := (q_1 64 (by omega)).trans h64
  have x65_1 := (q_1 65 (by omega)).trans h65
  have x66_1 := (q_1 66 (by omega)).trans h66
  have x67_1 := (q_1 67 (by omega)).trans h67
  have x68_1 := (q_1 68 (by omega)).trans h68
  have x69_1 := (q_1 69 (by omega)).trans h69
  have x70_1 := (q_1 70 (by omega)).trans h70
  have x71_1 := (q_1 71 (by omega)).trans h71
  have x72_1 := (q_1 72 (by omega)).trans h72
  have x73_1 := (q_1 73 (by omega)).trans h73
  have hM_1 := hM.put x54_1 q_1
  refine z_aload_n kd_M_place_5 0 rfl ?_
  refine z_get kd_M_place_6 (kf_M_73 _) hM_1.h1 rfl ?_
  refine z_if_eq (tgt := 25) kd_M_place_9 (by decide) (fun c9 => ?_) (fun c9 => ?_)
  · exact absurd ((nI_eq (b := 0) (by omega) (by decide)).mp c9) h0
  · refine z_iload_n kd_M_place_12 1 rfl ?_
    refine z_if_lt (tgt := 25) kd_M_place_13 (by decide) (fun c13 => ?_) (fun c13 => ?_)
    · exact absurd c13 h1
    · refine z_iload_n kd_M_place_16 1 rfl ?_
      refine z_aload_n kd_M_place_17 0 rfl ?_
      refine z_get kd_M_place_18 (kf_M_80 _) hM_1.h1 rfl ?_
      refine z_ishr kd_M_place_21 ?_
      refine z_if_eq (tgt := 29) kd_M_place_22 (by decide) (fun c22 => ?_) (fun c22 => ?_)
      · refine z_aload_n kd_M_place_29 0 rfl ?_
        refine z_callV (a := 54) (As := []) kd_M_place_30 (kg_M_121 _) hM_1.h1 kc_M (c_M_apartAll ht0 ht1 ht3 hM_1 x62_1) rfl rfl (Nat.le_of_ble_eq_true rfl) ⟨Nat.le_of_ble_eq_true rfl, Nat.le_of_ble_eq_true rfl⟩ ⟨Nat.le_of_ble_eq_true rfl, Nat.le_of_ble_eq_true rfl⟩ ?_
        rintro _ _ σ_2 ⟨hv, rfl, ⟨g2_2, hp_2, x62_2⟩, q_2⟩
        cases hv
        refine z_eq (st' := []) rfl rfl rfl rfl ?_
        have x58_2 := (q_2 58 (by omega)).trans x58_1
        have x59_2 := (q_2 59 (by omega)).trans x59_1
        have x60_2 := (q_2 60 (by omega)).trans x60_1
        have x61_2 := (q_2 61 (by omega)).trans x61_1
        have x63_2 := (q_2 63 (by omega)).trans x63_1
        have x64_2 := (q_2 64 (by omega)).trans x64_1
        have x65_2 := (q_2 65 (by omega)).trans x65_1
        have x66_2 := (q_2 66 (by omega)).trans x66_1
        have x67_2 := (q_2 67 (by omega)).trans x67_1
        have x68_2 := (q_2 68 (by omega)).trans x68_1
        have x69_2 := (q_2 69 (by omega)).trans x69_1
        have x70_2 := (q_2 70 (by omega)).trans x70_1
        have x71_2 := (q_2 71 (by omega)).trans x71_1
        have x72_2 := (q_2 72 (by omega)).trans x72_1
        have x73_2 := (q_2 73 (by omega)).trans x73_1
        have hM_2 := hM_1.fr q_2 (by omega)
        refine z_iconst (v := 0) kd_M_place_33 (by decide) ?_
        refine z_istore_n (lv' := [(2, .int _), (0, .ref (b + 54)), (1, .int _)]) kd_M_place_34 (by decide) rfl ?_
        refine z_iconst (v := 1) kd_M_place_35 (by decide) ?_
        refine z_istore_n (lv' := [(3, .int _), (2, .int _), (0, .ref (b + 54)), (1, .int _)]) kd_M_place_36 (by decide) rfl ?_
        refine z_iconst (v := 0) kd_M_place_37 (by decide) ?_
        refine z_istore (lv' := [(4, .int _), (3, .int _), (2, .int _), (0, .ref (b + 54)), (1, .int _)]) kd_M_place_38 (by decide) rfl ?_
        refine z_pick (lv' := [(4, .int (nI 0)), (3, .int (zB true)), (2, .int (nI 0)), (0, .ref (b + 54)), (1, .int tree)]) [0, 1, 2, 3, 4] rfl ?_
        refine l_M_plg ht0 ht1 ht3 (val := plG F T tree a 0 (fun v => v) 0 true) (fun σ_3 g2_3 hM_3 x62_3 q_3 => ?_) a 0 _ _ _ _ _ (by omega) hM_2 x62_2 hp_2 Fr.rf rfl
        have x58_3 := (q_3 58 (by omega)).trans x58_2
        have x59_3 := (q_3 59 (by omega)).trans x59_2
        have x60_3 := (q_3 60 (by omega)).trans x60_2
        have x61_3 := (q_3 61 (by omega)).trans x61_2
        have x63_3 := (q_3 63 (by omega)).trans x63_2
        have x64_3 := (q_3 64 (by omega)).trans x64_2
        have x65_3 := (q_3 65 (by omega)).trans x65_2
        have x66_3 := (q_3 66 (by omega)).trans x66_2
        have x67_3 := (q_3 67 (by omega)).trans x67_2
        have x68_3 := (q_3 68 (by omega)).trans x68_2
        have x69_3 := (q_3 69 (by omega)).trans x69_2
        have x70_3 := (q_3 70 (by omega)).trans x70_2
        have x71_3 := (q_3 71 (by omega)).trans x71_2
        have x72_3 := (q_3 72 (by omega)).trans x72_2
        have x73_3 := (q_3 73 (by omega)).trans x73_2
        refine z_iload_n kd_M_place_99 0 rfl ?_
        refine z_if_eq (tgt := 113) kd_M_place_100 (by decide) (fun c100 => ?_) (fun c100 => ?_)
        · exact absurd (c100.symm.trans (by rw [hb.1])) (by decide)
        · refine z_iload_n kd_M_place_103 1 rfl ?_
          refine z_aload_n kd_M_place_104 2 rfl ?_
          refine z_get kd_M_place_105 (kf_M_73 _) hM_3.h1 rfl ?_
          refine z_iconst (v := 1) kd_M_place_108 (by decide) ?_
          refine z_isub kd_M_place_109 ?_
          refine z_topi (pk_sub (a := n) (b := 1) (by omega)) ?_
          refine z_icmp_eq (tgt := 117) kd_M_place_110 (by decide) (fun c110 => ?_) (fun c110 => ?_)
          · refine z_aload_n kd_M_place_117 2 rfl ?_
            refine z_callV (a := 54) (As := []) kd_M_place_118 (kg_M_121 _) hM_3.h1 kc_M (c_M_apartAll ht0 ht1 ht3 hM_3 x62_3) rfl rfl (Nat.le_of_ble_eq_true rfl) ⟨Nat.le_of_ble_eq_true rfl, Nat.le_of_ble_eq_true rfl⟩ ⟨Nat.le_of_ble_eq_true rfl, Nat.le_of_ble_eq_true rfl⟩ ?_
            rintro _ _ σ_4 ⟨hv, rfl, ⟨g2_4, hp_4, x62_4⟩, q_4⟩
            cases hv
            refine z_eq (st' := []) rfl rfl rfl rfl ?_
            have x58_4 := (q_4 58 (by omega)).trans x58_3
            have x59_4 := (q_4 59 (by omega)).trans x59_3
            have x60_4 := (q_4 60 (by omega)).trans x60_3
            have x61_4 := (q_4 61 (by omega)).trans x61_3
            have x63_4 := (q_4 63 (by omega)).trans x63_3
            have x64_4 := (q_4 64 (by omega)).trans x64_3
            have x65_4 := (q_4 65 (by omega)).trans x65_3
            have x66_4 := (q_4 66 (by omega)).trans x66_3
            have x67_4 := (q_4 67 (by omega)).trans x67_3
            have x68_4 := (q_4 68 (by omega)).trans x68_3
            have x69_4 := (q_4 69 (by omega)).trans x69_3
            have x70_4 := (q_4 70 (by omega)).trans x70_3
            have x71_4 := (q_4 71 (by omega)).trans x71_3
            have x72_4 := (q_4 72 (by omega)).trans x72_3
            have x73_4 := (q_4 73 (by omega)).trans x73_3
            have hM_4 := hM_3.fr q_4 (by omega)
            refine z_aload_n kd_M_place_121 2 rfl ?_
            refine z_callV (a := 54) (As := []) kd_M_place_122 (kg_M_124 _) hM_4.h1 kc_M (c_M_noneOut ht2 hM_4.h1 x63_4) rfl rfl (Nat.le_of_ble_eq_true rfl) ⟨Nat.le_of_ble_eq_true rfl, Nat.le_of_ble_eq_true rfl⟩ ⟨Nat.le_of_ble_eq_true rfl, Nat.le_of_ble_eq_true rfl⟩ ?_
            rintro _ _ _ ⟨hv, rfl, g3_5, hg3_5, rfl⟩
            cases hv
            refine z_eq (st' := []) rfl rfl rfl rfl ?_
            refine z_upd (fun σ_5 x63_5 q_5 => ?_)
            have x58_5 := (q_5 58 (by omega)).trans x58_4
            have x59_5 := (q_5 59 (by omega)).trans x59_4
            have x60_5 := (q_5 60 (by omega)).trans x60_4
            have x61_5 := (q_5 61 (by omega)).trans x61_4
            have x62_5 := (q_5 62 (by omega)).trans x62_4
            have x64_5 := (q_5 64 (by omega)).trans x64_4
            have x65_5 := (q_5 65 (by omega)).trans x65_4
            have x66_5 := (q_5 66 (by omega)).trans x66_4
            have x67_5 := (q_5 67 (by omega)).trans x67_4
            have x68_5 := (q_5 68 (by omega)).trans x68_4
            have x69_5 := (q_5 69 (by omega)).trans x69_4
            have x70_5 := (q_5 70 (by omega)).trans x70_4
            have x71_5 := (q_5 71 (by omega)).trans x71_4
            have x72_5 := (q_5 72 (by omega)).trans x72_4
            have x73_5 := (q_5 73 (by omega)).trans x73_4
            have hM_5 := hM_4.fr q_5 (by omega)
            refine z_lconst (v := 0) kd_M_place_125 (by decide +kernel) ?_
            refine z_lstore (lv' := [(4, .long _), (3, .int _), (2, .int _), (0, .ref (b + 54)), (1, .int _)]) kd_M_place_126 (by decide) rfl ?_
            refine z_aload_n kd_M_place_128 3 rfl ?_
            refine z_lconst (v := 1) kd_M_place_129 (by decide +kernel) ?_
            refine z_putE (fs' := [_, _, _, _, _, _, _, _, _, _, _, _, _, _, _, _, _, _, _, _, _, _, _, _, _]) kd_M_place_130 (kp_M_148 _) hM_5.h1 (Nat.le_of_ble_eq_true rfl) rfl rfl rfl ?_
            refine z_upd (fun σ_6 x54_6 q_6 => ?_)
            have x58_6 := (q_6 58 (by omega)).trans x58_5
            have x59_6 := (q_6 59 (by omega)).trans x59_5
            have x60_6 := (q_6 60 (by omega)).trans x60_5
            have x61_6 := (q_6 61 (by omega)).trans x61_5
            have x62_6 := (q_6 62 (by omega)).trans x62_5
            have x63_6 := (q_6 63 (by omega)).trans x63_5
            have x64_6 := (q_6 64 (by omega)).trans x64_5
            have x65_6 := (q_6 65 (by omega)).trans x65_5
            have x66_6 := (q_6 66 (by omega)).trans x66_5
            have x67_6 := (q_6 67 (by omega)).trans x67_5
            have x68_6 := (q_6 68 (by omega)).trans x68_5
            have x69_6 := (q_6 69 (by omega)).trans x69_5
            have x70_6 := (q_6 70 (by omega)).trans x70_5
            have x71_6 := (q_6 71 (by omega)).trans x71_5
            have x72_6 := (q_6 72 (by omega)).trans x72_5
            have x73_6 := (q_6 73 (by omega)).trans x73_5
            have hM_6 := hM_5.put x54_6 q_6
            refine z_iconst (v := 0) kd_M_place_133 (by decide) ?_
            refine z_istore (lv' := [(6, .int _), (4, .long _), (3, .int _), (2, .int _), (0, .ref (b + 54)), (1, .int _)]) kd_M_place_134 (by decide) rfl ?_
            refine z_pick (lv' := [(6, .int (nI 0)), (4, .long 0), (0, .ref (b + 54)), (1, .int tree)]) [0, 1, 4, 5] rfl ?_
            exact l_M_pls ht0 ht1 ht3 ht2 (val := plV n a F T gw tree) (fun σ9 th9 fa9 ls9 rm9 hM9 z60 z61 z62 z63 z64 z65 q9 => ⟨rfl, rfl, ⟨⟨_, _, _, _, hM9⟩, (q9 58 (by omega) (by omega)).trans x58_6, (q9 59 (by omega) (by omega)).trans x59_6, z60, z61, z62, z63, z64, z65, ⟨_, (q9 66 (by omega) (by omega)).trans x66_6⟩, ⟨_, (q9 67 (by omega) (by omega)).trans x67_6⟩, ⟨_, (q9 68 (by omega) (by omega)).trans x68_6⟩, ⟨_, (q9 69 (by omega) (by omega)).trans x69_6⟩, ⟨_, (q9 70 (by omega) (by omega)).trans x70_6⟩, ⟨_, (q9 71 (by omega) (by omega)).trans x71_6⟩, ⟨_, (q9 72 (by omega) (by omega)).trans x72_6⟩, ⟨_, (q9 73 (by omega) (by omega)).trans x73_6⟩⟩, Fr.tr (Fr.tr (Fr.tr (Fr.tr (Fr.tr (Fr.tr (Fr.tr Fr.rf (q_1.wide (by omega) (by omega))) (q_2.wide (by omega) (by omega))) (q_3.wide (by omega) (by omega))) (q_4.wide (by omega) (by omega))) (q_5.wide (by omega) (by omega))) (q_6.wide (by omega) (by omega))) (fun k hk => q9 k (by omega) (by omega))⟩) a 0 _ _ _ _ _ _ _ _ _ _ (by omega) hM_6 ⟨_, x60_6⟩ ⟨_, x61_6⟩ ⟨_, x64_6⟩ ⟨_, x65_6⟩ x62_6 hp_4 x63_6 (BX.z (by omega) hg3_5) F2.rf (by unfold plV; rw [if_neg (fun z => by rcases z with z | z | z; exact h0 z; exact h1 z; exact z h2), if_pos hb])
          · exact absurd (by congr 1; omega) c110
      · exact absurd h2 c22
theorem c_M_place {l : Launch} {D : va_G} {tys : List (ClassId × FieldType)} {b N : Nat} {σ : Nat → Option va_E} {cI cJ cA : ClassId} (ht0 : tys[0]? = some (cI, .int)) (ht1 : tys[1]? = some (cJ, .long)) (ht3 : tys[3]? = some (cA, .array .long)) {cZ : ClassId} (ht2 : tys[2]? = some (cZ, .boolean)) {n a : Nat} {gf gt gw : Nat → Int32} {F T : Nat → Nat} {C K : Nat → Int64} (hMS : MS b cI cJ cZ σ n a gf gt gw F T C K) {tree : Int32} : zM l D kCl tys kNw b ky_M_place (kh_M_place :: zT) 10 360 0 0 [.ref (b + 54), .int tree] N σ (fun oc N' σ' => oc = .returned (some (.long (plV n a F T gw tree))) ∧ N' = N ∧ MS b cI cJ cZ σ' n a gf gt gw F T C K ∧ Fr 54 73 σ σ') := by
  by_cases h : n = 0 ∨ tree < 0 ∨ ¬ tree >>> (nI a &&& 31) = 0
  · have e : plV n a F T gw tree = -1 := by unfold plV; rw [if_pos h]
    rw [e]
    exact c_M_place0 ht0 ht1 ht3 ht2 hMS h
  · have h0 : ¬ n = 0 := fun z => h (Or.inl z)
    have h1 : ¬ tree < 0 := fun z => h (Or.inr (Or.inl z))
    have h2 : tree >>> (nI a &&& 31) = 0 := Classical.not_not.mp (fun z => h (Or.inr (Or.inr z)))
    by_cases hb : (plG F T tree a 0 (fun v => v) 0 true).2 = true ∧ (plG F T tree a 0 (fun v => v) 0 true).1 + 1 = n
    · exact c_M_place2 ht0 ht1 ht3 ht2 hMS h0 h1 h2 hb
    · have e : plV n a F T gw tree = -1 := by unfold plV; rw [if_neg h, if_neg hb]
      rw [e]
      exact c_M_place1 ht0 ht1 ht3 ht2 hMS h0 h1 h2 hb
