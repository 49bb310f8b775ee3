set_option maxHeartbeats 4000000 in
set_option maxRecDepth 100000 in
theorem l_L_rnI26 {l : Launch} {D : va_G} {tys : List (ClassId × FieldType)} {b N : Nat} {σ0 : Nat → Option va_E} {cI cJ cA : ClassId} (ht0 : tys[0]? = some (cI, .int)) (ht1 : tys[1]? = some (cJ, .long)) (ht3 : tys[3]? = some (cA, .array .long)) {n a : Nat} {gf gt gw : Nat → Int32} {F T : Nat → Nat} {M : Nat → Nat → Int64} {sk : Nat} (hsk : sk < n) {s : Nat} {Sf : (Nat → Int64) × (Nat → Int64) × Int32} {Q : Outcome → Nat → (Nat → Option va_E) → Prop} (hc : ∀ σ, NS b cI σ n a gf gt gw F T → GS b cA cJ σ (nI n) (M) → σ 25 = some (.inr (7, [.ref (b + 26), .ref (b + 27), .ref (b + 28), .ref (b + 29), .ref (b + 1), .ref (b + 7)])) → σ 26 = some (.inl (cJ, 10, .inr (.inl Sf.1))) → σ 27 = some (.inl (cJ, 10, .inr (.inl Sf.2.1))) → Fr 26 27 σ0 σ → Z l D kCl tys (kh_L_run :: zT) kNw ky_L_run.cls ky_L_run.name kb_L_run 11 none { frames := 1, cells := 0, slots := 0, locals := 40 } b (zFi D kCl b 0 0 Q) 0 0 N (σ) 131 [(6, .int (nI n)), (5, .int (nI s)), (4, .int Sf.2.2), (0, .ref (b + 25)), (1, .ref (b + 26)), (2, .ref (b + 27)), (3, .int (nI sk))] []) : ∀ (m v : Nat) (σ : Nat → Option va_E) (C K : Nat → Int64) (mv : Int32), v + m = n → NS b cI σ n a gf gt gw F T → GS b cA cJ σ (nI n) (M) → σ 25 = some (.inr (7, [.ref (b + 26), .ref (b + 27), .ref (b + 28), .ref (b + 29), .ref (b + 1), .ref (b + 7)])) → σ 26 = some (.inl (cJ, 10, .inr (.inl C))) → σ 27 = some (.inl (cJ, 10, .inr (.inl K))) → Fr 26 27 σ0 σ → rnI M n sk m v C K mv = Sf → Z l D kCl tys (kh_L_run :: zT) kNw ky_L_run.cls ky_L_run.name kb_L_run 11 none { frames := 1, cells := 0, slots := 0, locals := 40 } b (zFi D kCl b 0 0 Q) 0 0 N (σ) 45 [(6, .int (nI v)), (5, .int (nI s)), (4, .int mv), (0, .ref (b + 25)), (1, .ref (b + 26)), (2, .ref (b + 27)), (3, .int (nI sk))] [] := by
  intro m
  induction m with
  | zero =>
    intro v σ C K mv hcm hN hS h25 hh hk hF hv
    obtain rfl : v = n := by omega
    have hn := hN.hn
    have hv : (C, K, mv) = Sf := hv
    subst hv
    refine z_iload kd_L_run_45 0 rfl ?_
    refine z_aload_n kd_L_run_47 3 rfl ?_
    refine z_get kd_L_run_48 (kf_L_24 _) h25 rfl ?_
    refine z_get kd_L_run_51 (kf_L_42 _) hN.h1 rfl ?_
    refine z_icmp_ge (tgt := 131) kd_L_run_54 (by decide) (fun c54 => ?_) (fun c54 => ?_)
    · exact hc σ hN hS h25 hh hk hF
    · exact absurd (nI_le (Nat.le_refl v) (by omega)) c54
  | succ m ih =>
    intro v σ C K mv hcm hN hS h25 hh hk hF hv
    have hlt : v < n := by omega
    have hn := hN.hn
    obtain ⟨h7, f, r, hG⟩ := id hS
    unfold rnI at hv
    refine z_iload kd_L_run_45 0 rfl ?_
    refine z_aload_n kd_L_run_47 3 rfl ?_
    refine z_get kd_L_run_48 (kf_L_24 _) h25 rfl ?_
    refine z_get kd_L_run_51 (kf_L_42 _) hN.h1 rfl ?_
    refine z_icmp_ge (tgt := 131) kd_L_run_54 (by decide) (fun c54 => ?_) (fun c54 => ?_)
    · exact absurd c54 (nI_ge hlt (by omega))
    · refine z_aload_n kd_L_run_57 3 rfl ?_
      refine z_get kd_L_run_58 (kf_L_28 _) h25 rfl ?_
      refine z_get kd_L_run_61 (kf_L_48 _) hS.1 rfl ?_
      refine z_iload kd_L_run_64 0 rfl ?_
      refine z_gal kd_L_run_66 ht3 hG (by omega) ?_
      refine z_iload kd_L_run_67 0 rfl ?_
      refine z_gld kd_L_run_69 ht1 hG (by omega) (by omega) ?_
      refine z_lstore (lv' := [(7, .long _), (6, .int _), (5, .int _), (4, .int _), (0, .ref (b + 25)), (1, .ref (b + 26)), (2, .ref (b + 27)), (3, .int _)]) kd_L_run_70 (by decide) rfl ?_
      refine z_iload kd_L_run_72 1 rfl ?_
      refine z_iload_n kd_L_run_74 7 rfl ?_
      refine z_icmp_eq (tgt := 125) kd_L_run_75 (by decide) (fun c75 => ?_) (fun c75 => ?_)
      · rw [if_pos (Or.inl ((nI_eq (by omega) (by omega)).mp c75))] at hv
        refine z_iinc (v := (nI (v + 1))) (lv' := [(6, .int _), (7, .long _), (5, .int _), (4, .int _), (0, .ref (b + 25)), (1, .ref (b + 26)), (2, .ref (b + 27)), (3, .int _)]) kd_L_run_125 1 rfl (nI_1 _) (by decide) rfl ?_
        refine z_goto (tgt := 45) kd_L_run_128 (by decide) ?_
        refine z_pick (lv' := [(6, .int (nI (v + 1))), (5, .int (nI s)), (4, .int _), (0, .ref (b + 25)), (1, .ref (b + 26)), (2, .ref (b + 27)), (3, .int (nI sk))]) [0, 2, 3, 4, 5, 6, 7] rfl ?_
        exact ih (v + 1) _ _ _ _ (by omega) hN hS h25 hh hk hF hv
      · refine z_lload kd_L_run_78 0 rfl ?_
        refine z_lconst (v := 0) kd_L_run_80 (by decide +kernel) ?_
        refine z_lcmp kd_L_run_81 ?_
        refine z_if_le (tgt := 125) kd_L_run_82 (by decide) (fun c82 => ?_) (fun c82 => ?_)
        · rw [if_pos (Or.inr (Or.inl ((lg_cmp_le _ _).mp c82)))] at hv
          refine z_iinc (v := (nI (v + 1))) (lv' := [(6, .int _), (7, .long _), (5, .int _), (4, .int _), (0, .ref (b + 25)), (1, .ref (b + 26)), (2, .ref (b + 27)), (3, .int _)]) kd_L_run_125 1 rfl (nI_1 _) (by decide) rfl ?_
          refine z_goto (tgt := 45) kd_L_run_128 (by decide) ?_
          refine z_pick (lv' := [(6, .int (nI (v + 1))), (5, .int (nI s)), (4, .int _), (0, .ref (b + 25)), (1, .ref (b + 26)), (2, .ref (b + 27)), (3, .int (nI sk))]) [0, 2, 3, 4, 5, 6, 7] rfl ?_
          exact ih (v + 1) _ _ _ _ (by omega) hN hS h25 hh hk hF hv
        · have hp : ¬ M v v ≤ 0 := fun q => c82 ((lg_cmp_le _ _).mpr q)
          have hne : ¬ M v v = 0 := fun q => hp (by rw [q]; decide)
          refine z_aload_n kd_L_run_85 5 rfl ?_
          refine z_iload kd_L_run_86 1 rfl ?_
          refine z_laldN (t0 := 1) kd_L_run_88 (by assumption) hh (by omega) (by decide) ?_
          refine z_lload kd_L_run_89 0 rfl ?_
          refine z_lcmp kd_L_run_91 ?_
          refine z_if_lt (tgt := 125) kd_L_run_92 (by decide) (fun c92 => ?_) (fun c92 => ?_)
          · rw [if_pos (Or.inr (Or.inr ((lg_cmp_lt _ _).mp c92)))] at hv
            refine z_iinc (v := (nI (v + 1))) (lv' := [(6, .int _), (7, .long _), (5, .int _), (4, .int _), (0, .ref (b + 25)), (1, .ref (b + 26)), (2, .ref (b + 27)), (3, .int _)]) kd_L_run_125 1 rfl (nI_1 _) (by decide) rfl ?_
            refine z_goto (tgt := 45) kd_L_run_128 (by decide) ?_
            refine z_pick (lv' := [(6, .int (nI (v + 1))), (5, .int (nI s)), (4, .int _), (0, .ref (b + 25)), (1, .ref (b + 26)), (2, .ref (b + 27)), (3, .int (nI sk))]) [0, 2, 3, 4, 5, 6, 7] rfl ?_
            exact ih (v + 1) _ _ _ _ (by omega) hN hS h25 hh hk hF hv
          · rw [if_neg (fun q => q.elim (fun q => c75 (by rw [q])) (fun q => q.elim hp (fun q => c92 ((lg_cmp_lt _ _).mpr q))))] at hv
            refine z_aload_n kd_L_run_95 5 rfl ?_
            refine z_iload kd_L_run_96 1 rfl ?_
            refine z_laldN (t0 := 1) kd_L_run_98 (by assumption) hh (by omega) (by decide) ?_
            refine z_lload kd_L_run_99 0 rfl ?_
            refine z_ldiv kd_L_run_101 hne ?_
            refine z_lstore (lv' := [(9, .long _), (7, .long _), (6, .int _), (5, .int _), (4, .int _), (0, .ref (b + 25)), (1, .ref (b + 26)), (2, .ref (b + 27)), (3, .int _)]) kd_L_run_102 (by decide) rfl ?_
            refine z_aload_n kd_L_run_104 5 rfl ?_
            refine z_aload_n kd_L_run_105 6 rfl ?_
            refine z_iload kd_L_run_106 2 rfl ?_
            refine z_lload kd_L_run_108 0 rfl ?_
            refine z_callV (a := 25) (As := [_, _, _]) kd_L_run_110 (kg_L_52 _) h25 kc_L (c_L_fire26 ht0 ht1 ht3 hN hS hlt h25 hh) rfl rfl (Nat.le_of_ble_eq_true rfl) ⟨Nat.le_of_ble_eq_true rfl, Nat.le_of_ble_eq_true rfl⟩ ⟨Nat.le_of_ble_eq_true rfl, Nat.le_of_ble_eq_true rfl⟩ ?_
            rintro _ _ σ_1 ⟨hv, rfl, x26_1, q_1⟩
            cases hv
            refine z_eq (st' := []) rfl rfl rfl rfl ?_
            have hN_1 := hN.fr q_1 (by omega)
            have hS_1 := hS.fr q_1 (by omega)
            have x25_1 := (q_1 25 (by omega)).trans h25
            have x27_1 := (q_1 27 (by omega)).trans hk
            refine z_aload_n kd_L_run_113 7 rfl ?_
            refine z_iload kd_L_run_114 2 rfl ?_
            refine z_dup2_11 kd_L_run_116 rfl rfl ?_
            refine z_laldN (t0 := 1) kd_L_run_117 (by assumption) x27_1 (by omega) (by decide) ?_
            refine z_lload kd_L_run_118 0 rfl ?_
            refine z_ladd kd_L_run_120 ?_
            refine z_lastN (t0 := 1) kd_L_run_121 (by assumption) x27_1 (by omega) (by decide) ?_
            refine z_upd (fun σ_2 x27_2 q_2 => ?_)
            have hN_2 := hN_1.fr q_2 (by omega)
            have hS_2 := hS_1.fr q_2 (by omega)
            have x25_2 := (q_2 25 (by omega)).trans x25_1
            have x26_2 := (q_2 26 (by omega)).trans x26_1
            refine z_iconst (v := 1) kd_L_run_122 (by decide) ?_
            refine z_istore (lv' := [(4, .int _), (9, .long _), (7, .long _), (6, .int _), (5, .int _), (0, .ref (b + 25)), (1, .ref (b + 26)), (2, .ref (b + 27)), (3, .int _)]) kd_L_run_123 (by decide) rfl ?_
            refine z_iinc (v := (nI (v + 1))) (lv' := [(6, .int _), (4, .int _), (9, .long _), (7, .long _), (5, .int _), (0, .ref (b + 25)), (1, .ref (b + 26)), (2, .ref (b + 27)), (3, .int _)]) kd_L_run_125 3 rfl (nI_1 _) (by decide) rfl ?_
            refine z_goto (tgt := 45) kd_L_run_128 (by decide) ?_
            refine z_pick (lv' := [(6, .int (nI (v + 1))), (5, .int (nI s)), (4, .int _), (0, .ref (b + 25)), (1, .ref (b + 26)), (2, .ref (b + 27)), (3, .int (nI sk))]) [0, 4, 1, 5, 6, 7, 8] rfl ?_
            exact ih (v + 1) _ _ _ _ (by omega) hN_2 hS_2 x25_2 x26_2 x27_2 (Fr.tr (Fr.tr hF (q_1.wide (by omega) (by omega))) (q_2.wide (by omega) (by omega))) hv
set_option maxHeartbeats 4000000 in
set_option maxRecDepth 100000 in
theorem l_L_rnO26 {l : Launch} {D : va_G} {tys : List (ClassId × FieldType)} {b N : Nat} {σ0 : Nat → Option va_E} {cI cJ cA : ClassId} (ht0 : tys[0]? = some (cI, .int)) (ht1 : tys[1]? = some (cJ, .long)) (ht3 : tys[3]? = some (cA, .array .long)) {n a : Nat} {gf gt gw : Nat → Int32} {F T : Nat → Nat} {M : Nat → Nat → Int64} {sk : Nat} (hsk : sk < n) {val : (Nat → Int64) × (Nat → Int64)} : ∀ (m s : Nat) (σ : Nat → Option va_E) (C K : Nat → Int64) (mv : Int32), s + m = 1000000 → NS b cI σ n a gf gt gw F T → GS b cA cJ σ (nI n) (M) → σ 25 = some (.inr (7, [.ref (b + 26), .ref (b + 27), .ref (b + 28), .ref (b + 29), .ref (b + 1), .ref (b + 7)])) → σ 26 = some (.inl (cJ, 10, .inr (.inl C))) → σ 27 = some (.inl (cJ, 10, .inr (.inl K))) → Fr 26 27 σ0 σ → rnO M n sk m (C, K, mv) = val → Z l D kCl tys (kh_L_run :: zT) kNw ky_L_run.cls ky_L_run.name kb_L_run 11 none { frames := 1, cells := 0, slots := 0, locals := 40 } b (zFi D kCl b 0 0 (fun oc N' σ' => oc = .returned none ∧ N' = N ∧ σ' 26 = some (.inl (cJ, 10, .inr (.inl (val).1))) ∧ σ' 27 = some (.inl (cJ, 10, .inr (.inl (val).2))) ∧ Fr 26 27 σ0 σ')) 0 0 N (σ) 27 [(5, .int (nI s)), (4, .int mv), (0, .ref (b + 25)), (1, .ref (b + 26)), (2, .ref (b + 27)), (3, .int (nI sk))] [] := by
  intro m
  induction m with
  | zero =>
    intro s σ C K mv hcm hN hS h25 hh hk hF hv
    obtain rfl : s = 1000000 := by omega
    have hn := hN.hn
    have hv : (C, K) = val := hv
    subst hv
    refine z_iload kd_L_run_27 0 rfl ?_
    refine z_ldc (v := 1000000) kd_L_run_29 (List.mem_cons_of_mem _ (zin 622 rfl rfl)) ?_
    refine z_icmp_ge (tgt := 137) kd_L_run_31 (by decide) (fun c31 => ?_) (fun c31 => ?_)
    · exact z_vret kd_L_run_137 rfl (Nat.le_of_ble_eq_true rfl) (Nat.le_of_ble_eq_true rfl) ⟨rfl, rfl, hh, hk, hF⟩
    · exact absurd (nI_le (a := 1000000) (Nat.le_refl 1000000) (by decide)) c31
  | succ m ih =>
    intro s σ C K mv hcm hN hS h25 hh hk hF hv
    have hn := hN.hn
    have hv : (if mv = 0 then (C, K) else rnO M n sk m (rnI M n sk n 0 C K 0)) = val := hv
    refine z_iload kd_L_run_27 0 rfl ?_
    refine z_ldc (v := 1000000) kd_L_run_29 (List.mem_cons_of_mem _ (zin 622 rfl rfl)) ?_
    refine z_icmp_ge (tgt := 137) kd_L_run_31 (by decide) (fun c31 => ?_) (fun c31 => ?_)
    · exact absurd c31 (nI_ge (b := 1000000) (by omega) (by decide))
    · refine z_iload kd_L_run_34 1 rfl ?_
      refine z_if_eq (tgt := 137) kd_L_run_36 (by decide) (fun c36 => ?_) (fun c36 => ?_)
      · rw [if_pos c36] at hv
        subst hv
        exact z_vret kd_L_run_137 rfl (Nat.le_of_ble_eq_true rfl) (Nat.le_of_ble_eq_true rfl) ⟨rfl, rfl, hh, hk, hF⟩
      · rw [if_neg c36] at hv
        refine z_iconst (v := 0) kd_L_run_39 (by decide) ?_
        refine z_istore (lv' := [(4, .int _), (5, .int _), (0, .ref (b + 25)), (1, .ref (b + 26)), (2, .ref (b + 27)), (3, .int _)]) kd_L_run_40 (by decide) rfl ?_
        refine z_iconst (v := 0) kd_L_run_42 (by decide) ?_
        refine z_istore (lv' := [(6, .int _), (4, .int _), (5, .int _), (0, .ref (b + 25)), (1, .ref (b + 26)), (2, .ref (b + 27)), (3, .int _)]) kd_L_run_43 (by decide) rfl ?_
        refine z_pick (lv' := [(6, .int (nI 0)), (5, .int (nI s)), (4, .int 0), (0, .ref (b + 25)), (1, .ref (b + 26)), (2, .ref (b + 27)), (3, .int (nI sk))]) [0, 2, 1, 3, 4, 5, 6] rfl ?_
        refine l_L_rnI26 ht0 ht1 ht3 hsk (fun σ hN hS h25 hh hk hF => ?_) n 0 σ C K 0 (by omega) hN hS h25 hh hk hF rfl
        refine z_iinc (v := (nI (s + 1))) (lv' := [(5, .int _), (6, .int _), (4, .int _), (0, .ref (b + 25)), (1, .ref (b + 26)), (2, .ref (b + 27)), (3, .int _)]) kd_L_run_131 1 rfl (nI_1 _) (by decide) rfl ?_
        refine z_goto (tgt := 27) kd_L_run_134 (by decide) ?_
        refine z_pick (lv' := [(5, .int (nI (s + 1))), (4, .int _), (0, .ref (b + 25)), (1, .ref (b + 26)), (2, .ref (b + 27)), (3, .int (nI sk))]) [0, 2, 3, 4, 5, 6] rfl ?_
        exact ih (s + 1) σ _ _ _ (by omega) hN hS h25 hh hk hF hv
set_option maxHeartbeats 4000000 in
set_option maxRecDepth 100000 in
theorem l_L_rnZ26 {l : Launch} {D : va_G} {tys : List (ClassId × FieldType)} {b N : Nat} {σ0 : Nat → Option va_E} {cI cJ cA : ClassId} (ht0 : tys[0]? = some (cI, .int)) (ht1 : tys[1]? = some (cJ, .long)) (ht3 : tys[3]? = some (cA, .array .long)) {n a : Nat} {gf gt gw : Nat → Int32} {F T : Nat → Nat} {M : Nat → Nat → Int64} {sk : Nat} (hsk : sk < n) {C K : Nat → Int64} : ∀ (m i : Nat) (σ : Nat → Option va_E), i + m = 10 → NS b cI σ n a gf gt gw F T → GS b cA cJ σ (nI n) (M) → σ 25 = some (.inr (7, [.ref (b + 26), .ref (b + 27), .ref (b + 28), .ref (b + 29), .ref (b + 1), .ref (b + 7)])) → σ 26 = some (.inl (cJ, 10, .inr (.inl C))) → σ 27 = some (.inl (cJ, 10, .inr (.inl (zrA i K)))) → Fr 26 27 σ0 σ → Z l D kCl tys (kh_L_run :: zT) kNw ky_L_run.cls ky_L_run.name kb_L_run 11 none { frames := 1, cells := 0, slots := 0, locals := 40 } b (zFi D kCl b 0 0 (fun oc N' σ' => oc = .returned none ∧ N' = N ∧ σ' 26 = some (.inl (cJ, 10, .inr (.inl (rnV M n sk C K).1))) ∧ σ' 27 = some (.inl (cJ, 10, .inr (.inl (rnV M n sk C K).2))) ∧ Fr 26 27 σ0 σ')) 0 0 N (σ) 3 [(4, .int (nI i)), (0, .ref (b + 25)), (1, .ref (b + 26)), (2, .ref (b + 27)), (3, .int (nI sk))] [] := by
  intro m
  induction m with
  | zero =>
    intro i σ hcm hN hS h25 hh hk hF
    obtain rfl : i = 10 := by omega
    have hn := hN.hn
    refine z_iload kd_L_run_3 0 rfl ?_
    refine z_bipush (v := 10) kd_L_run_5 (by decide +kernel) ?_
    refine z_icmp_ge (tgt := 21) kd_L_run_7 (by decide) (fun c7 => ?_) (fun c7 => ?_)
    · refine z_iconst (v := 1) kd_L_run_21 (by decide) ?_
      refine z_istore (lv' := [(4, .int _), (0, .ref (b + 25)), (1, .ref (b + 26)), (2, .ref (b + 27)), (3, .int _)]) kd_L_run_22 (by decide) rfl ?_
      refine z_iconst (v := 0) kd_L_run_24 (by decide) ?_
      refine z_istore (lv' := [(5, .int _), (4, .int _), (0, .ref (b + 25)), (1, .ref (b + 26)), (2, .ref (b + 27)), (3, .int _)]) kd_L_run_25 (by decide) rfl ?_
      refine z_pick (lv' := [(5, .int (nI 0)), (4, .int 1), (0, .ref (b + 25)), (1, .ref (b + 26)), (2, .ref (b + 27)), (3, .int (nI sk))]) [0, 1, 2, 3, 4, 5] rfl ?_
      exact l_L_rnO26 ht0 ht1 ht3 hsk 1000000 0 σ C _ 1 (by omega) hN hS h25 hh hk hF rfl
    · exact absurd (nI_le (a := 10) (Nat.le_refl 10) (by decide)) c7
  | succ m ih =>
    intro i σ hcm hN hS h25 hh hk hF
    have hn := hN.hn
    refine z_iload kd_L_run_3 0 rfl ?_
    refine z_bipush (v := 10) kd_L_run_5 (by decide +kernel) ?_
    refine z_icmp_ge (tgt := 21) kd_L_run_7 (by decide) (fun c7 => ?_) (fun c7 => ?_)
    · exact absurd c7 (nI_ge (b := 10) (by omega) (by decide))
    · refine z_aload_n kd_L_run_10 3 rfl ?_
      refine z_iload kd_L_run_11 0 rfl ?_
      refine z_lconst (v := 0) kd_L_run_13 (by decide +kernel) ?_
      refine z_lastN (t0 := 1) kd_L_run_14 (by assumption) hk (by omega) (by decide) ?_
      refine z_upd (fun σ_1 x27_1 q_1 => ?_)
      have hN_1 := hN.fr q_1 (by omega)
      have hS_1 := hS.fr q_1 (by omega)
      have x25_1 := (q_1 25 (by omega)).trans h25
      have x26_1 := (q_1 26 (by omega)).trans hh
      refine z_iinc (v := (nI (i + 1))) (lv' := [(4, .int _), (0, .ref (b + 25)), (1, .ref (b + 26)), (2, .ref (b + 27)), (3, .int _)]) kd_L_run_15 0 rfl (nI_1 _) (by decide) rfl ?_
      refine z_goto (tgt := 3) kd_L_run_18 (by decide) ?_
      refine z_pick (lv' := [(4, .int (nI (i + 1))), (0, .ref (b + 25)), (1, .ref (b + 26)), (2, .ref (b + 27)), (3, .int (nI sk))]) [0, 1, 2, 3, 4] rfl ?_
      exact ih (i + 1) _ (by omega) hN_1 hS_1 x25_1 x26_1 (by rw [← zrA_s]; exact x27_1) (Fr.tr hF (q_1.wide (by omega) (by omega)))
set_option maxHeartbeats 4000000 in
set_option maxRecDepth 100000 in
theorem c_L_run26 {l : Launch} {D : va_G} {tys : List (ClassId × FieldType)} {b N : Nat} {σ : Nat → Option va_E} {cI cJ cA : ClassId} (ht0 : tys[0]? = some (cI, .int)) (ht1 : tys[1]? = some (cJ, .long)) (ht3 : tys[3]? = some (cA, .array .long)) {n a : Nat} {gf gt gw : Nat → Int32} {F T : Nat → Nat} (hN : NS b cI σ n a gf gt gw F T) {M : Nat → Nat → Int64} (hS : GS b cA cJ σ (nI n) (M)) {sk : Nat} (hsk : sk < n) {C K : Nat → Int64} (h25 : σ 25 = some (.inr (7, [.ref (b + 26), .ref (b + 27), .ref (b + 28), .ref (b + 29), .ref (b + 1), .ref (b + 7)]))) (hh : σ 26 = some (.inl (cJ, 10, .inr (.inl C)))) (hk : σ 27 = some (.inl (cJ, 10, .inr (.inl K)))) : zM l D kCl tys kNw b ky_L_run (kh_L_run :: zT) 1 40 0 0 [.ref (b + 25), .ref (b + 26), .ref (b + 27), .int (nI sk)] N σ ((fun oc N' σ' => oc = .returned none ∧ N' = N ∧ σ' 26 = some (.inl (cJ, 10, .inr (.inl (rnV M n sk C K).1))) ∧ σ' 27 = some (.inl (cJ, 10, .inr (.inl (rnV M n sk C K).2))) ∧ Fr 26 27 σ σ')) := by
  refine zM.of (by decide +kernel) rfl (Nat.le_of_ble_eq_true rfl) ?_
  refine z_pick (lv' := [(0, .ref (b + 25)), (1, .ref (b + 26)), (2, .ref (b + 27)), (3, .int (nI sk))]) [0, 1, 2, 3] rfl ?_
  refine z_iconst (v := 0) kd_L_run_0 (by decide) ?_
  refine z_istore (lv' := [(4, .int _), (0, .ref (b + 25)), (1, .ref (b + 26)), (2, .ref (b + 27)), (3, .int _)]) kd_L_run_1 (by decide) rfl ?_
  refine z_pick (lv' := [(4, .int (nI 0)), (0, .ref (b + 25)), (1, .ref (b + 26)), (2, .ref (b + 27)), (3, .int (nI sk))]) [0, 1, 2, 3, 4] rfl ?_
  exact l_L_rnZ26 ht0 ht1 ht3 hsk 10 0 σ (by omega) hN hS h25 hh (by rw [zrA_0]; exact hk) Fr.rf
set_option maxHeartbeats 4000000 in
set_option maxRecDepth 100000 in
theorem l_L_rnI28 {l : Launch} {D : va_G} {tys : List (ClassId × FieldType)} {b N : Nat} {σ0 : Nat → Option va_E} {cI cJ cA : ClassId} (ht0 : tys[0]? = some (cI, .int)) (ht1 : tys[1]? = some (cJ, .long)) (ht3 : tys[3]? = some (cA, .array .long)) {n a : Nat} {gf gt gw : Nat → Int32} {F T : Nat → Nat} {M : Nat → Nat → Int64} {sk : Nat} (hsk : sk < n) {s : Nat} {Sf : (Nat → Int64) × (Nat → Int64) × Int32} {Q : Outcome → Nat → (Nat → Option va_E) → Prop} (hc : ∀ σ, NS b cI σ n a gf gt gw F T → GS b cA cJ σ (nI n) (M) → σ 25 = some (.inr (7, [.ref (b + 26), .ref (b + 27), .ref (b + 28), .ref (b + 29), .ref (b + 1), .ref (b + 7)])) → σ 28 = some (.inl (cJ, 10, .inr (.inl Sf.1))) → σ 29 = some (.inl (cJ, 10, .inr (.inl Sf.2.1))) → Fr 28 29 σ0 σ → Z l D kCl tys (kh_L_run :: zT) kNw ky_L_run.cls ky_L_run.name kb_L_run 11 none { frames := 1, cells := 0, slots := 0, locals := 40 } b (zFi D kCl b 0 0 Q) 0 0 N (σ) 131 [(6, .int (nI n)), (5, .int (nI s)), (4, .int Sf.2.2), (0, .ref (b + 25)), (1, .ref (b + 28)), (2, .ref (b + 29)), (3, .int (nI sk))] []) : ∀ (m v : Nat) (σ : Nat → Option va_E) (C K : Nat → Int64) (mv : Int32), v + m = n → NS b cI σ n a gf gt gw F T → GS b cA cJ σ (nI n) (M) → σ 25 = some (.inr (7, [.ref (b + 26), .ref (b + 27), .ref (b + 28), .ref (b + 29), .ref (b + 1), .ref (b + 7)])) → σ 28 = some (.inl (cJ, 10, .inr (.inl C))) → σ 29 = some (.inl (cJ, 10, .inr (.inl K))) → Fr 28 29 σ0 σ → rnI M n sk m v C K mv = Sf → Z l D kCl tys (kh_L_run :: zT) kNw ky_L_run.cls ky_L_run.name kb_L_run 11 none { frames := 1, cells := 0, slots := 0, locals := 40 } b (zFi D kCl b 0 0 Q) 0 0 N (σ) 45 [(6, .int (nI v)), (5, .int (nI s)), (4, .int mv), (0, .ref (b + 25)), (1, .ref (b + 28)), (2, .ref (b + 29)), (3, .int (nI sk))] [] := by
  intro m
  induction m with
  | zero =>
    intro v σ C K mv hcm hN hS h25 hh hk hF hv
    obtain rfl : v = n := by omega
    have hn := hN.hn
    have hv : (C, K, mv) = Sf := hv
    subst hv
    refine z_iload kd_L_run_45 0 rfl ?_
    refine z_aload_n kd_L_run_47 3 rfl ?_
    refine z_get kd_L_run_48 (kf_L_24 _) h25 rfl ?_
    refine z_get kd_L_run_51 (kf_L_42 _) hN.h1 rfl ?_
    refine z_icmp_ge (tgt := 131) kd_L_run_54 (by decide) (fun c54 => ?_) (fun c54 => ?_)
    · exact hc σ hN hS h25 hh hk hF
    · exact absurd (nI_le (Nat.le_refl v) (by omega)) c54
  | succ m ih =>
    intro v σ C K mv hcm hN hS h25 hh hk hF hv
    have hlt : v < n := by omega
    have hn := hN.hn
    obtain ⟨h7, f, r, hG⟩ := id hS
    unfold rnI at hv
    refine z_iload kd_L_run_45 0 rfl ?_
    refine z_aload_n kd_L_run_47 3 rfl ?_
    refine z_get kd_L_run_48 (kf_L_24 _) h25 rfl ?_
    refine z_get kd_L_run_51 (kf_L_42 _) hN.h1 rfl ?_
    refine z_icmp_ge (tgt := 131) kd_L_run_54 (by decide) (fun c54 => ?_) (fun c54 => ?_)
    · exact absurd c54 (nI_ge hlt (by omega))
    · refine z_aload_n kd_L_run_57 3 rfl ?_
      refine z_get kd_L_run_58 (kf_L_28 _) h25 rfl ?_
      refine z_get kd_L_run_61 (kf_L_48 _) hS.1 rfl ?_
      refine z_iload kd_L_run_64 0 rfl ?_
      refine z_gal kd_L_run_66 ht3 hG (by omega) ?_
      refine z_iload kd_L_run_67 0 rfl ?_
      refine z_gld kd_L_run_69 ht1 hG (by omega) (by omega) ?_
      refine z_lstore (lv' := [(7, .long _), (6, .int _), (5, .int _), (4, .int _), (0, .ref (b + 25)), (1, .ref (b + 28)), (2, .ref (b + 29)), (3, .int _)]) kd_L_run_70 (by decide) rfl ?_
      refine z_iload kd_L_run_72 1 rfl ?_
      refine z_iload_n kd_L_run_74 7 rfl ?_
      refine z_icmp_eq (tgt := 125) kd_L_run_75 (by decide) (fun c75 => ?_) (fun c75 => ?_)
      · rw [if_pos (Or.inl ((nI_eq (by omega) (by omega)).mp c75))] at hv
        refine z_iinc (v := (nI (v + 1))) (lv' := [(6, .int _), (7, .long _), (5, .int _), (4, .int _), (0, .ref (b + 25)), (1, .ref (b + 28)), (2, .ref (b + 29)), (3, .int _)]) kd_L_run_125 1 rfl (nI_1 _) (by decide) rfl ?_
        refine z_goto (tgt := 45) kd_L_run_128 (by decide) ?_
        refine z_pick (lv' := [(6, .int (nI (v + 1))), (5, .int (nI s)), (4, .int _), (0, .ref (b + 25)), (1, .ref (b + 28)), (2, .ref (b + 29)), (3, .int (nI sk))]) [0, 2, 3, 4, 5, 6, 7] rfl ?_
        exact ih (v + 1) _ _ _ _ (by omega) hN hS h25 hh hk hF hv
      · refine z_lload kd_L_run_78 0 rfl ?_
        refine z_lconst (v := 0) kd_L_run_80 (by decide +kernel) ?_
        refine z_lcmp kd_L_run_81 ?_
        refine z_if_le (tgt := 125) kd_L_run_82 (by decide) (fun c82 => ?_) (fun c82 => ?_)
        · rw [if_pos (Or.inr (Or.inl ((lg_cmp_le _ _).mp c82)))] at hv
          refine z_iinc (v := (nI (v + 1))) (lv' := [(6, .int _), (7, .long _), (5, .int _), (4, .int _), (0, .ref (b + 25)), (1, .ref (b + 28)), (2, .ref (b + 29)), (3, .int _)]) kd_L_run_125 1 rfl (nI_1 _) (by decide) rfl ?_
          refine z_goto (tgt := 45) kd_L_run_128 (by decide) ?_
          refine z_pick (lv' := [(6, .int (nI (v + 1))), (5, .int (nI s)), (4, .int _), (0, .ref (b + 25)), (1, .ref (b + 28)), (2, .ref (b + 29)), (3, .int (nI sk))]) [0, 2, 3, 4, 5, 6, 7] rfl ?_
          exact ih (v + 1) _ _ _ _ (by omega) hN hS h25 hh hk hF hv
        · have hp : ¬ M v v ≤ 0 := fun q => c82 ((lg_cmp_le _ _).mpr q)
          have hne : ¬ M v v = 0 := fun q => hp (by rw [q]; decide)
          refine z_aload_n kd_L_run_85 5 rfl ?_
          refine z_iload kd_L_run_86 1 rfl ?_
          refine z_laldN (t0 := 1) kd_L_run_88 (by assumption) hh (by omega) (by decide) ?_
          refine z_lload kd_L_run_89 0 rfl ?_
          refine z_lcmp kd_L_run_91 ?_
          refine z_if_lt (tgt := 125) kd_L_run_92 (by decide) (fun c92 => ?_) (fun c92 => ?_)
          · rw [if_pos (Or.inr (Or.inr ((lg_cmp_lt _ _).mp c92)))] at hv
            refine z_iinc (v := (nI (v + 1))) (lv' := [(6, .int _), (7, .long _), (5, .int _), (4, .int _), (0, .ref (b + 25)), (1, .ref (b + 28)), (2, .ref (b + 29)), (3, .int _)]) kd_L_run_125 1 rfl (nI_1 _) (by decide) rfl ?_
            refine z_goto (tgt := 45) kd_L_run_128 (by decide) ?_
            refine z_pick (lv' := [(6, .int (nI (v + 1))), (5, .int (nI s)), (4, .int _), (0, .ref (b + 25)), (1, .ref (b + 28)), (2, .ref (b + 29)), (3, .int (nI sk))]) [0, 2, 3, 4, 5, 6, 7] rfl ?_
            exact ih (v + 1) _ _ _ _ (by omega) hN hS h25 hh hk hF hv
          · rw [if_neg (fun q => q.elim (fun q => c75 (by rw [q])) (fun q => q.elim hp (fun q => c92 ((lg_cmp_lt _ _).mpr q))))] at hv
            refine z_aload_n kd_L_run_95 5 rfl ?_
            refine z_iload kd_L_run_96 1 rfl ?_
            refine z_laldN (t0 := 1) kd_L_run_98 (by assumption) hh (by omega) (by decide) ?_
            refine z_lload kd_L_run_99 0 rfl ?_
            refine z_ldiv kd_L_run_101 hne ?_
            refine z_lstore (lv' := [(9, .long _), (7, .long _), (6, .int _), (5, .int _), (4, .int _), (0, .ref (b + 25)), (1, .ref (b + 28)), (2, .ref (b + 29)), (3, .int _)]) kd_L_run_102 (by decide) rfl ?_
            refine z_aload_n kd_L_run_104 5 rfl ?_
            refine z_aload_n kd_L_run_105 6 rfl ?_
            refine z_iload kd_L_run_106 2 rfl ?_
            refine z_lload kd_L_run_108 0 rfl ?_
            refine z_callV (a := 25) (As := [_, _, _]) kd_L_run_110 (kg_L_52 _) h25 kc_L (c_L_fire28 ht0 ht1 ht3 hN hS hlt h25 hh) rfl rfl (Nat.le_of_ble_eq_true rfl) ⟨Nat.le_of_ble_eq_true rfl, Nat.le_of_ble_eq_true rfl⟩ ⟨Nat.le_of_ble_eq_true rfl, Nat.le_of_ble_eq_true rfl⟩ ?_
            rintro _ _ σ_1 ⟨hv, rfl, x28_1, q_1⟩
            cases hv
            refine z_eq (st' := []) rfl rfl rfl rfl ?_
            have hN_1 := hN.fr q_1 (by omega)
            have hS_1 := hS.fr q_1 (by omega)
            have x25_1 := (q_1 25 (by omega)).trans h25
            have x29_1 := (q_1 29 (by omega)).trans hk
            refine z_aload_n kd_L_run_113 7 rfl ?_
            refine z_iload kd_L_run_114 2 rfl ?_
            refine z_dup2_11 kd_L_run_116 rfl rfl ?_
            refine z_laldN (t0 := 1) kd_L_run_117 (by assumption) x29_1 (by omega) (by decide) ?_
            refine z_lload kd_L_run_118 0 rfl ?_
            refine z_ladd kd_L_run_120 ?_
            refine z_lastN (t0 := 1) kd_L_run_121 (by assumption) x29_1 (by omega) (by decide) ?_
            refine z_upd (fun σ_2 x29_2 q_2 => ?_)
            have hN_2 := hN_1.fr q_2 (by omega)
            have hS_2 := hS_1.fr q_2 (by omega)
            have x25_2 := (q_2 25 (by omega)).trans x25_1
            have x28_2 := (q_2 28 (by omega)).trans x28_1
            refine z_iconst (v := 1) kd_L_run_122 (by decide) ?_
            refine z_istore (lv' := [(4, .int _), (9, .long _), (7, .long _), (6, .int _), (5, .int _), (0, .ref (b + 25)), (1, .ref (b + 28)), (2, .ref (b + 29)), (3, .int _)]) kd_L_run_123 (by decide) rfl ?_
            refine z_iinc (v := (nI (v + 1))) (lv' := [(6, .int _), (4, .int _), (9, .long _), (7, .long _), (5, .int _), (0, .ref (b + 25)), (1, .ref (b + 28)), (2, .ref (b + 29)), (3, .int _)]) kd_L_run_125 3 rfl (nI_1 _) (by decide) rfl ?_
            refine z_goto (tgt := 45) kd_L_run_128 (by decide) ?_
            refine z_pick (lv' := [(6, .int (nI (v + 1))), (5, .int (nI s)), (4, .int _), (0, .ref (b + 25)), (1, .ref (b + 28)), (2, .ref (b + 29)), (3, .int (nI sk))]) [0, 4, 1, 5, 6, 7, 8] rfl ?_
            exact ih (v + 1) _ _ _ _ (by omega) hN_2 hS_2 x25_2 x28_2 x29_2 (Fr.tr (Fr.tr hF (q_1.wide (by omega) (by omega))) (q_2.wide (by omega) (by omega))) hv
set_option maxHeartbeats 4000000 in
set_option maxRecDepth 100000 in
theorem l_L_rnO28 {l : Launch} {D : va_G} {tys : List (ClassId × FieldType)} {b N : Nat} {σ0 : Nat → Option va_E} {cI cJ cA : ClassId} (ht0 : tys[0]? = some (cI, .int)) (ht1 : tys[1]? = some (cJ, .long)) (ht3 : tys[3]? = some (cA, .array .long)) {n a : Nat} {gf gt gw : Nat → Int32} {F T : Nat → Nat} {M : Nat → Nat → Int64} {sk : Nat} (hsk : sk < n) {val : (Nat → Int64) × (Nat → Int64)} : ∀ (m s : Nat) (σ : Nat → Option va_E) (C K : Nat → Int64) (mv : Int32), s + m = 1000000 → NS b cI σ n a gf gt gw F T → GS b cA cJ σ (nI n) (M) → σ 25 = some (.inr (7, [.ref (b + 26), .ref (b + 27), .ref (b + 28), .ref (b + 29), .ref (b + 1), .ref (b + 7)])) → σ 28 = some (.inl (cJ, 10, .inr (.inl C))) → σ 29 = some (.inl (cJ, 10, .inr (.inl K))) → Fr 28 29 σ0 σ → rnO M n sk m (C, K, mv) = val → Z l D kCl tys (kh_L_run :: zT) kNw ky_L_run.cls ky_L_run.name kb_L_run 11 none { frames := 1, cells := 0, slots := 0, locals := 40 } b (zFi D kCl b 0 0 (fun oc N' σ' => oc = .returned none ∧ N' = N ∧ σ' 28 = some (.inl (cJ, 10, .inr (.inl (val).1))) ∧ σ' 29 = some (.inl (cJ, 10, .inr (.inl (val).2))) ∧ Fr 28 29 σ0 σ')) 0 0 N (σ) 27 [(5, .int (nI s)), (4, .int mv), (0, .ref (b + 25)), (1, .ref (b + 28)), (2, .ref (b + 29)), (3, .int (nI sk))] [] := by
  intro m
  induction m with
  | zero =>
    intro s σ C K mv hcm hN hS h25 hh hk hF hv
    obtain rfl : s = 1000000 := by omega
    have hn := hN.hn
    have hv : (C, K) = val := hv
    subst hv
    refine z_iload kd_L_run_27 0 rfl ?_
    refine z_ldc (v := 1000000) kd_L_run_29 (List.mem_cons_of_mem _ (zin 622 rfl rfl)) ?_
    refine z_icmp_ge (tgt := 137) kd_L_run_31 (by decide) (fun c31 => ?_) (fun c31 => ?_)
    · exact z_vret kd_L_run_137 rfl (Nat.le_of_ble_eq_true rfl) (Nat.le_of_ble_eq_true rfl) ⟨rfl, rfl, hh, hk, hF⟩
    · exact absurd (nI_le (a := 1000000) (Nat.le_refl 1000000) (by decide)) c31
  | succ m ih =>
    intro s σ C K mv hcm hN hS h25 hh hk hF hv
    have hn := hN.hn
    have hv : (if mv = 0 then (C, K) else rnO M n sk m (rnI M n sk n 0 C K 0)) = val := hv
    refine z_iload kd_L_run_27 0 rfl ?_
    refine z_ldc (v := 1000000) kd_L_run_29 (List.mem_cons_of_mem _ (zin 622 rfl rfl)) ?_
    refine z_icmp_ge (tgt := 137) kd_L_run_31 (by decide) (fun c31 => ?_) (fun c31 => ?_)
    · exact absurd c31 (nI_ge (b := 1000000) (by omega) (by decide))
    · refine z_iload kd_L_run_34 1 rfl ?_
      refine z_if_eq (tgt := 137) kd_L_run_36 (by decide) (fun c36 => ?_) (fun c36 => ?_)
      · rw [if_pos c36] at hv
        subst hv
        exact z_vret kd_L_run_137 rfl (Nat.le_of_ble_eq_true rfl) (Nat.le_of_ble_eq_true rfl) ⟨rfl, rfl, hh, hk, hF⟩
      · rw [if_neg c36] at hv
        refine z_iconst (v := 0) kd_L_run_39 (by decide) ?_
        refine z_istore (lv' := [(4, .int _), (5, .int _), (0, .ref (b + 25)), (1, .ref (b + 28)), (2, .ref (b + 29)), (3, .int _)]) kd_L_run_40 (by decide) rfl ?_
        refine z_iconst (v := 0) kd_L_run_42 (by decide) ?_
        refine z_istore (lv' := [(6, .int _), (4, .int _), (5, .int _), (0, .ref (b + 25)), (1, .ref (b + 28)), (2, .ref (b + 29)), (3, .int _)]) kd_L_run_43 (by decide) rfl ?_
        refine z_pick (lv' := [(6, .int (nI 0)), (5, .int (nI s)), (4, .int 0), (0, .ref (b + 25)), (1, .ref (b + 28)), (2, .ref (b + 29)), (3, .int (nI sk))]) [0, 2, 1, 3, 4, 5, 6] rfl ?_
        refine l_L_rnI28 ht0 ht1 ht3 hsk (fun σ hN hS h25 hh hk hF => ?_) n 0 σ C K 0 (by omega) hN hS h25 hh hk hF rfl
        refine z_iinc (v := (nI (s + 1))) (lv' := [(5, .int _), (6, .int _), (4, .int _), (0, .ref (b + 25)), (1, .ref (b + 28)), (2, .ref (b + 29)), (3, .int _)]) kd_L_run_131 1 rfl (nI_1 _) (by decide) rfl ?_
        refine z_goto (tgt := 27) kd_L_run_134 (by decide) ?_
        refine z_pick (lv' := [(5, .int (nI (s + 1))), (4, .int _), (0, .ref (b + 25)), (1, .ref (b + 28)), (2, .ref (b + 29)), (3, .int (nI sk))]) [0, 2, 3, 4, 5, 6] rfl ?_
        exact ih (s + 1) σ _ _ _ (by omega) hN hS h25 hh hk hF hv
set_option maxHeartbeats 4000000 in
set_option maxRecDepth 100000 in
theorem l_L_rnZ28 {l : Launch} {D : va_G} {tys : List (ClassId × FieldType)} {b N : Nat} {σ0 : Nat → Option va_E} {cI cJ cA : ClassId} (ht0 : tys[0]? = some (cI, .int)) (ht1 : tys[1]? = some (cJ, .long)) (ht3 : tys[3]? = some (cA, .array .long)) {n a : Nat} {gf gt gw : Nat → Int32} {F T : Nat → Nat} {M : Nat → Nat → Int64} {sk : Nat} (hsk : sk < n) {C K : Nat → Int64} : ∀ (m i : Nat) (σ : Nat → Option va_E), i + m = 10 → NS b cI σ n a gf gt gw F T → GS b cA cJ σ (nI n) (M) → σ 25 = some (.inr (7, [.ref (b + 26), .ref (b + 27), .ref (b + 28), .ref (b + 29), .ref (b + 1), .ref (b + 7)])) → σ 28 = some (.inl (cJ, 10, .inr (.inl C))) → σ 29 = some (.inl (cJ, 10, .inr (.inl (zrA i K)))) → Fr 28 29 σ0 σ → Z l D kCl tys (kh_L_run :: zT) kNw ky_L_run.cls ky_L_run.name kb_L_run 11 none { frames := 1, cells := 0, slots := 0, locals := 40 } b (zFi D kCl b 0 0 (fun oc N' σ' => oc = .returned none ∧ N' = N ∧ σ' 28 = some (.inl (cJ, 10, .inr (.inl (rnV M n sk C K).1))) ∧ σ' 29 = some (.inl (cJ, 10, .inr (.inl (rnV M n sk C K).2))) ∧ Fr 28 29 σ0 σ')) 0 0 N (σ) 3 [(4, .int (nI i)), (0, .ref (b + 25)), (1, .ref (b + 28)), (2, .ref (b + 29)), (3, .int (nI sk))] [] := by
  intro m
  induction m with
  | zero =>
    intro i σ hcm hN hS h25 hh hk hF
    obtain rfl : i = 10 := by omega
    have hn := hN.hn
    refine z_iload kd_L_run_3 0 rfl ?_
    refine z_bipush (v := 10) kd_L_run_5 (by decide +kernel) ?_
    refine z_icmp_ge (tgt := 21) kd_L_run_7 (by decide) (fun c7 => ?_) (fun c7 => ?_)
    · refine z_iconst (v := 1) kd_L_run_21 (by decide) ?_
      refine z_istore (lv' := [(4, .int _), (0, .ref (b + 25)), (1, .ref (b + 28)), (2, .ref (b + 29)), (3, .int _)]) kd_L_run_22 (by decide) rfl ?_
      refine z_iconst (v := 0) kd_L_run_24 (by decide) ?_
      refine z_istore (lv' := [(5, .int _), (4, .int _), (0, .ref (b + 25)), (1, .ref (b + 28)), (2, .ref (b + 29)), (3, .int _)]) kd_L_run_25 (by decide) rfl ?_
      refine z_pick (lv' := [(5, .int (nI 0)), (4, .int 1), (0, .ref (b + 25)), (1, .ref (b + 28)), (2, .ref (b + 29)), (3, .int (nI sk))]) [0, 1, 2, 3, 4, 5] rfl ?_
      exact l_L_rnO28 ht0 ht1 ht3 hsk 1000000 0 σ C _ 1 (by omega) hN hS h25 hh hk hF rfl
    · exact absurd (nI_le (a := 10) (Nat.le_refl 10) (by decide)) c7
  | succ m ih =>
    intro i σ hcm hN hS h25 hh hk hF
    have hn := hN.hn
    refine z_iload kd_L_run_3 0 rfl ?_
    refine z_bipush (v := 10) kd_L_run_5 (by decide +kernel) ?_
    refine z_icmp_ge (tgt := 21) kd_L_run_7 (by decide) (fun c7 => ?_) (fun c7 => ?_)
    · exact absurd c7 (nI_ge (b := 10) (by omega) (by decide))
    · refine z_aload_n kd_L_run_10 3 rfl ?_
      refine z_iload kd_L_run_11 0 rfl ?_
      refine z_lconst (v := 0) kd_L_run_13 (by decide +kernel) ?_
      refine z_lastN (t0 := 1) kd_L_run_14 (by assumption) hk (by omega) (by decide) ?_
      refine z_upd (fun σ_1 x29_1 q_1 => ?_)
      have hN_1 := hN.fr q_1 (by omega)
      have hS_1 := hS.fr q_1 (by omega)
      have x25_1 := (q_1 25 (by omega)).trans h25
      have x28_1 := (q_1 28 (by omega)).trans hh
      refine z_iinc (v := (nI (i + 1))) (lv' := [(4, .int _), (0, .ref (b + 25)), (1, .ref (b + 28)), (2, .ref (b + 29)), (3, .int _)]) kd_L_run_15 0 rfl (nI_1 _) (by decide) rfl ?_
      refine z_goto (tgt := 3) kd_L_run_18 (by decide) ?_
      refine z_pick (lv' := [(4, .int (nI (i + 1))), (0, .ref (b + 25)), (1, .ref (b + 28)), (2, .ref (b + 29)), (3, .int (nI sk))]) [0, 1, 2, 3, 4] rfl ?_
      exact ih (i + 1) _ (by omega) hN_1 hS_1 x25_1 x28_1 (by rw [← zrA_s]; exact x29_1) (Fr.tr hF (q_1.wide (by omega) (by omega)))
set_option maxHeartbeats 4000000 in
set_option maxRecDepth 100000 in
theorem c_L_run28 {l : Launch} {D : va_G} {tys : List (ClassId × FieldType)} {b N : Nat} {σ : Nat → Option va_E} {cI cJ cA : ClassId} (ht0 : tys[0]? = some (cI, .int)) (ht1 : tys[1]? = some (cJ, .long)) (ht3 : tys[3]? = some (cA, .array .long)) {n a : Nat} {gf gt gw : Nat → Int32} {F T : Nat → Nat} (hN : NS b cI σ n a gf gt gw F T) {M : Nat → Nat → Int64} (hS : GS b cA cJ σ (nI n) (M)) {sk : Nat} (hsk : sk < n) {C K : Nat → Int64} (h25 : σ 25 = some (.inr (7, [.ref (b + 26), .ref (b + 27), .ref (b + 28), .ref (b + 29), .ref (b + 1), .ref (b + 7)]))) (hh : σ 28 = some (.inl (cJ, 10, .inr (.inl C)))) (hk : σ 29 = some (.inl (cJ, 10, .inr (.inl K)))) : zM l D kCl tys kNw b ky_L_run (kh_L_run :: zT) 1 40 0 0 [.ref (b + 25), .ref (b + 28), .ref (b + 29), .int (nI sk)] N σ ((fun oc N' σ' => oc = .returned none ∧ N' = N ∧ σ' 28 = some (.inl (cJ, 10, .inr (.inl (rnV M n sk C K).1))) ∧ σ' 29 = some (.inl (cJ, 10, .inr (.inl (rnV M n sk C K).2))) ∧ Fr 28 29 σ σ')) := by
  refine zM.of (by decide +kernel) rfl (Nat.le_of_ble_eq_true rfl) ?_
  refine z_pick (lv' := [(0, .ref (b + 25)), (1, .ref (b + 28)), (2, .ref (b + 29)), (3, .int (nI sk))]) [0, 1, 2, 3] rfl ?_
  refine z_iconst (v := 0) kd_L_run_0 (by decide) ?_
  refine z_istore (lv' := [(4, .int _), (0, .ref (b + 25)), (1, .ref (b + 28)), (2, .ref (b + 29)), (3, .int _)]) kd_L_run_1 (by decide) rfl ?_
  refine z_pick (lv' := [(4, .int (nI 0)), (0, .ref (b + 25)), (1, .ref (b + 28)), (2, .ref (b + 29)), (3, .int (nI sk))]) [0, 1, 2, 3, 4] rfl ?_
  exact l_L_rnZ28 ht0 ht1 ht3 hsk 10 0 σ (by omega) hN hS h25 hh (by rw [zrA_0]; exact hk) Fr.rf
