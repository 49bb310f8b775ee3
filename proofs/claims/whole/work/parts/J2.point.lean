theorem zMX.weak {l : Launch} {D : va_G} {cl : List vw_C} {tys : List (ClassId × FieldType)} {Nw : List Cond} {b : Nat} {y : MethodName} {ws : List Cond} {fr lo mc ms : Nat} {av : List Value} {N : Nat} {σ : Nat → Option va_E} {Q Q' : Outcome → Nat → (Nat → Option va_E) → Prop} (h : zMX l D cl tys Nw b y ws fr lo mc ms av N σ Q) (hq : ∀ oc N' σ', Q oc N' σ' → Q' oc N' σ') : zMX l D cl tys Nw b y ws fr lo mc ms av N σ Q' := by
  intro p e ha hc hk s m args below hf happ hP hK
  obtain ⟨k, o, h1, h2, h3, ⟨⟨N', σ', hQ, hz⟩, hF⟩, hL⟩ := h p e ha hc hk s m args below hf happ hP hK
  exact ⟨k, o, h1, h2, h3, ⟨⟨N', σ', hq _ _ _ hQ, hz⟩, hF⟩, hL⟩
/-- point: the law's try and the reference -/
def RP (l : Launch) (D : va_G) (tys : List (ClassId × FieldType)) (b : Nat) (cI cJ cA cP cZ : ClassId) (q : Nat) (x y : Int64) (kk : Int32) (N : Nat) (σ : Nat → Option va_E) : Prop :=
  ∃ g, σ 74 = some (.inl (cJ, 1, .inr (.inl g))) ∧ (∃ fs, σ 54 = some (.inr (9, fs))) ∧ ∃ v : Int64, (kk = 0 → g 0 = v) ∧ zM l D kCl tys kNw b ky_M_point (kh_M_point :: zT) 10 360 0 0 [.ref (b + 54), .long x, .long y] N σ (fun oc N'' σ'' => oc = .returned (some (.long v)) ∧ N'' = N ∧ LV b cI cJ cA cP cZ (q + 1) σ'' ∧ σ'' 74 = σ 74 ∧ ∃ fa ls rm n a gf gt gw F T, MN b cI σ'' (.int kk) fa ls rm n a gf gt gw F T)
theorem j_point {l : Launch} {D : va_G} {tys : List (ClassId × FieldType)} {b N q : Nat} {σ : Nat → Option va_E} {cI cJ cA cP cZ : ClassId} (ht0 : tys[0]? = some (cI, .int)) (ht1 : tys[1]? = some (cJ, .long)) (ht2 : tys[2]? = some (cZ, .boolean)) (ht3 : tys[3]? = some (cA, .array .long)) (ht4 : tys[4]? = some (cP, .object "TreeCounts$Parts")) (hfl : l.flags = flags0) (hI : LV b cI cJ cA cP cZ q σ) {g74 : Nat → Int64} (h74 : σ 74 = some (.inl (cJ, 1, .inr (.inl g74)))) (x y : Int64) : ∃ (kk : Int32) (mm : Nat), zMX l D kCl tys kNw b ky_W_point (kh_W_point :: zT) 30 900 1 6 [.ref (b + 0), .long x, .long y, .ref (b + 74)] N σ (fun oc N' σ' => oc = .returned (some (.int kk)) ∧ N' = N + mm ∧ RP l D tys b cI cJ cA cP cZ q x y kk N' σ') := by
  obtain ⟨n, a, gf, gt, gw, F, T, C, K, C', K', W, hC, hM, hX⟩ := hI
  obtain ⟨hO, hW, hc, hk, hz, ho⟩ := id hX
  obtain ⟨hn, ha, hft, hwt⟩ := id hO
  rcases Nat.lt_or_ge 14 a with h14 | h14
  · refine ⟨1, 1, (x_W_point1 hfl hC h14 h74).weak ?_⟩
    rintro oc N' σ' ⟨h1, h2, rfl⟩
    refine ⟨h1, h2, _, h74, hM.ob, 0, fun h => absurd h (by decide), (c_M_point0 ht0 ht1 ht3 ht2 hM h14).weak ?_⟩
    rintro oc2 N2 σ2 ⟨h3, h4, hM', ⟨fa, ls, rm, hmn⟩, q2⟩
    exact ⟨h3, h4, ⟨n, a, gf, gt, gw, F, T, C, K, C', K', W, hC.fx q2 (by omega), hM', hX.s⟩, q2 74 (by omega), fa, ls, rm, n, a, gf, gt, gw, F, T, hmn⟩
  · refine ⟨0, 0, (x_W_point0 ht0 ht1 ht3 ht4 hC h14 (fun h => ftV_1 hft h) h74).weak ?_⟩
    rintro oc N' σ' ⟨h1, h2, hC', ⟨g, hg, hg74⟩, hfr⟩
    have hM1 := hM.ft (σ' := σ') (fun k h1 h2 => hfr k (by omega) (by omega))
    refine ⟨h1, h2, g, hg74, hM1.ob, ptV n a F T x y, fun _ => hg, (c_M_point1 ht0 ht1 ht3 ht2 hM1 h14).weak ?_⟩
    rintro oc2 N2 σ2 ⟨h3, h4, hM', ⟨fa, ls, rm, hmn⟩, q2⟩
    exact ⟨by rw [h3, ppV_ok hft hn h14], h4, ⟨n, a, gf, gt, gw, F, T, C, K, C', K', W, hC'.fx q2 (by omega), hM', hX.s⟩, q2 74 (by omega), fa, ls, rm, n, a, gf, gt, gw, F, T, hmn⟩
set_option maxHeartbeats 4000000 in
set_option maxRecDepth 100000 in
theorem z_jpoint {l : Launch} {D : va_G} {tys : List (ClassId × FieldType)} {nm : String} {b b0 L : Nat} {xs : Nat → Int32} {k n N : Nat} {σ : Nat → Option va_E} {lv : List (Nat × Value)} {x y : Int64} {R : Int32 → Nat → (Nat → Option va_E) → Prop} (hk : k + 1 ≤ 601024) (hn : n + 6 ≤ 7293034) (hJ : ∃ (kk : Int32) (mm : Nat), zMX l D kCl tys kNw b ky_W_point (kh_W_point :: zT) 30 900 1 6 [.ref (b + 0), .long x, .long y, .ref (b + 74)] N σ (fun oc N' σ' => oc = .returned (some (.int kk)) ∧ N' = N + mm ∧ R kk N' σ'))
    (kk : ∀ (v : Int32) (N' : Nat) (σ' : Nat → Option va_E), R v N' σ' → Z l D kCl tys (kh_C_init :: zT) kNw "TreeCountsLaw" nm code 8 ret room_1 b (zLFi b0 L b xs) (k + 1) (n + 6) N' (σ') 774 lv [.int v]) : Z l D kCl tys (kh_C_init :: zT) kNw "TreeCountsLaw" nm code 8 ret room_1 b (zLFi b0 L b xs) k n N (σ) 771 lv [.ref (b + 74), .long y, .long x, .ref (b + 0)] := by
  obtain ⟨v, mm, hv⟩ := hJ
  refine z_callSX (Pz := zLX b0 L b xs) (G := fun below args s t => lw_Z below args s t) (i := 4) (As := [.ref (b + 0), .long x, .long y, .ref (b + 74)]) (rest := []) zLX.xl kd_W_law_771 (mk_good kz_W_point) (List.mem_cons_of_mem _ (zin 661 rfl rfl)) (List.mem_cons_of_mem _ (zin 662 rfl rfl)) (List.mem_cons_of_mem _ (zin 49 rfl rfl)) ⟨by decide, by decide⟩ (by decide +kernel) hv rfl rfl (Nat.le_of_ble_eq_true rfl) ⟨Nat.le_of_ble_eq_true rfl, Nat.le_of_ble_eq_true rfl⟩ ⟨hk, hn⟩ ?_
  rintro _ N' σ' ⟨h1, h2, h3⟩
  cases h1
  exact kk v N' σ' h3
set_option maxHeartbeats 4000000 in
set_option maxRecDepth 100000 in
theorem lc_20 {l : Launch} {D : va_G} {tys : List (ClassId × FieldType)} {nm : String} {b b0 L q : Nat} {xs : Nat → Int32} {k n N : Nat} {σ : Nat → Option va_E} {cI cJ cZ cA cP : ClassId} (ht0 : tys[0]? = some (cI, .int)) (ht1 : tys[1]? = some (cJ, .long)) (ht2 : tys[2]? = some (cZ, .boolean)) (ht3 : tys[3]? = some (cA, .array .long)) (ht4 : tys[4]? = some (cP, .object "TreeCounts$Parts")) (hfl : l.flags = flags0) (hL : L ≤ 2560) (hq5 : 5 * q + 5 ≤ L) (hk : k + 1 ≤ 601024) (hn : n + 6 ≤ 7293034) (hI : LV b cI cJ cA cP cZ q σ) {g74 : Nat → Int64} (h74 : σ 74 = some (.inl (cJ, 1, .inr (.inl g74)))) (ih : ∀ (k' n' N' : Nat) (σ' : Nat → Option va_E), k' ≤ k + 1 → n' ≤ n + 6 → LV b cI cJ cA cP cZ (q + 1) σ' → (∃ g, σ' 74 = some (.inl (cJ, 1, .inr (.inl g)))) → Z l D kCl tys (kh_C_init :: zT) kNw "TreeCountsLaw" nm code 8 ret room_1 b (zLFi b0 L b xs) k' n' N' (σ') 23 [(4, .int (nI (5 * (q + 1)))), (3, .ref (b + 74)), (2, .ref (b + 54)), (1, .ref (b + 0)), (0, .ref b0)] []) : Z l D kCl tys (kh_C_init :: zT) kNw "TreeCountsLaw" nm code 8 ret room_1 b (zLFi b0 L b xs) k n N (σ) 725 [(4, .int (nI (5 * q))), (3, .ref (b + 74)), (2, .ref (b + 54)), (1, .ref (b + 0)), (0, .ref b0)] [] := by
  refine z_aload_n kd_W_law_725 3 rfl ?_
  refine z_aload_n kd_W_law_726 4 rfl ?_
  refine z_iload kd_W_law_727 0 rfl ?_
  refine z_iconst (v := 1) kd_W_law_729 (by decide) ?_
  refine z_iadd kd_W_law_730 ?_
  refine z_topi (nI_add (5 * q) 1) ?_
  refine z_sld kd_W_law_731 (show vp_in (nI ((5 * q) + 1)) L from vp_in_nI (by omega) (by omega)) ?_
  refine z_i2l kd_W_law_732 ?_
  refine z_bipush (v := 32) kd_W_law_733 (by decide +kernel) ?_
  refine z_lshl kd_W_law_735 ?_
  refine z_aload_n kd_W_law_736 4 rfl ?_
  refine z_iload kd_W_law_737 0 rfl ?_
  refine z_iconst (v := 2) kd_W_law_739 (by decide) ?_
  refine z_iadd kd_W_law_740 ?_
  refine z_topi (nI_add (5 * q) 2) ?_
  refine z_sld kd_W_law_741 (show vp_in (nI ((5 * q) + 2)) L from vp_in_nI (by omega) (by omega)) ?_
  refine z_i2l kd_W_law_742 ?_
  refine z_ldc2 (v := 4294967295) kd_W_law_743 (List.mem_cons_of_mem _ (zin 1066 rfl rfl)) ?_
  refine z_land kd_W_law_746 ?_
  refine z_lor kd_W_law_747 ?_
  refine z_aload_n kd_W_law_748 4 rfl ?_
  refine z_iload kd_W_law_749 0 rfl ?_
  refine z_iconst (v := 3) kd_W_law_751 (by decide) ?_
  refine z_iadd kd_W_law_752 ?_
  refine z_topi (nI_add (5 * q) 3) ?_
  refine z_sld kd_W_law_753 (show vp_in (nI ((5 * q) + 3)) L from vp_in_nI (by omega) (by omega)) ?_
  refine z_i2l kd_W_law_754 ?_
  refine z_bipush (v := 32) kd_W_law_755 (by decide +kernel) ?_
  refine z_lshl kd_W_law_757 ?_
  refine z_aload_n kd_W_law_758 4 rfl ?_
  refine z_iload kd_W_law_759 0 rfl ?_
  refine z_iconst (v := 4) kd_W_law_761 (by decide) ?_
  refine z_iadd kd_W_law_762 ?_
  refine z_topi (nI_add (5 * q) 4) ?_
  refine z_sld kd_W_law_763 (show vp_in (nI ((5 * q) + 4)) L from vp_in_nI (by omega) (by omega)) ?_
  refine z_i2l kd_W_law_764 ?_
  refine z_ldc2 (v := 4294967295) kd_W_law_765 (List.mem_cons_of_mem _ (zin 1066 rfl rfl)) ?_
  refine z_land kd_W_law_768 ?_
  refine z_lor kd_W_law_769 ?_
  refine z_aload_n kd_W_law_770 1 rfl ?_
  refine z_jpoint hk hn (j_point ht0 ht1 ht2 ht3 ht4 hfl hI h74 _ _) ?_
  rintro kk N1 σ1 ⟨g1, hg1, ⟨fs1, h54⟩, v1, hg0, hm⟩
  refine z_istore (lv' := [(5, .int _), (4, .int _), (3, .ref (b + 74)), (2, .ref (b + 54)), (1, .ref (b + 0)), (0, .ref _)]) kd_W_law_774 (by decide) rfl ?_
  refine z_aload_n kd_W_law_776 3 rfl ?_
  refine z_aload_n kd_W_law_777 5 rfl ?_
  refine z_iload kd_W_law_778 1 rfl ?_
  refine z_iconst (v := 1) kd_W_law_780 (by decide) ?_
  refine z_iadd kd_W_law_781 ?_
  refine z_topi (nI_add (5 * q) 1) ?_
  refine z_sld kd_W_law_782 (show vp_in (nI ((5 * q) + 1)) L from vp_in_nI (by omega) (by omega)) ?_
  refine z_i2l kd_W_law_783 ?_
  refine z_bipush (v := 32) kd_W_law_784 (by decide +kernel) ?_
  refine z_lshl kd_W_law_786 ?_
  refine z_aload_n kd_W_law_787 5 rfl ?_
  refine z_iload kd_W_law_788 1 rfl ?_
  refine z_iconst (v := 2) kd_W_law_790 (by decide) ?_
  refine z_iadd kd_W_law_791 ?_
  refine z_topi (nI_add (5 * q) 2) ?_
  refine z_sld kd_W_law_792 (show vp_in (nI ((5 * q) + 2)) L from vp_in_nI (by omega) (by omega)) ?_
  refine z_i2l kd_W_law_793 ?_
  refine z_ldc2 (v := 4294967295) kd_W_law_794 (List.mem_cons_of_mem _ (zin 1066 rfl rfl)) ?_
  refine z_land kd_W_law_797 ?_
  refine z_lor kd_W_law_798 ?_
  refine z_aload_n kd_W_law_799 5 rfl ?_
  refine z_iload kd_W_law_800 1 rfl ?_
  refine z_iconst (v := 3) kd_W_law_802 (by decide) ?_
  refine z_iadd kd_W_law_803 ?_
  refine z_topi (nI_add (5 * q) 3) ?_
  refine z_sld kd_W_law_804 (show vp_in (nI ((5 * q) + 3)) L from vp_in_nI (by omega) (by omega)) ?_
  refine z_i2l kd_W_law_805 ?_
  refine z_bipush (v := 32) kd_W_law_806 (by decide +kernel) ?_
  refine z_lshl kd_W_law_808 ?_
  refine z_aload_n kd_W_law_809 5 rfl ?_
  refine z_iload kd_W_law_810 1 rfl ?_
  refine z_iconst (v := 4) kd_W_law_812 (by decide) ?_
  refine z_iadd kd_W_law_813 ?_
  refine z_topi (nI_add (5 * q) 4) ?_
  refine z_sld kd_W_law_814 (show vp_in (nI ((5 * q) + 4)) L from vp_in_nI (by omega) (by omega)) ?_
  refine z_i2l kd_W_law_815 ?_
  refine z_ldc2 (v := 4294967295) kd_W_law_816 (List.mem_cons_of_mem _ (zin 1066 rfl rfl)) ?_
  refine z_land kd_W_law_819 ?_
  refine z_lor kd_W_law_820 ?_
  refine z_callV (a := 54) (As := [_, _]) kd_W_law_821 (kg_W_116 _) h54 kc_M hm rfl rfl (Nat.le_of_ble_eq_true rfl) ⟨Nat.le_of_ble_eq_true rfl, Nat.le_of_ble_eq_true rfl⟩ ⟨hk, hn⟩ ?_
  rintro _ _ σ2 ⟨hv2, rfl, hI2, h742, fa, ls, rm, n2, a2, gf, gt, gw, F, T, hmn⟩
  cases hv2
  refine z_eq (st' := [.long v1]) rfl rfl rfl rfl ?_
  refine z_lstore (lv' := [(6, .long _), (5, .int _), (4, .int _), (3, .ref (b + 74)), (2, .ref (b + 54)), (1, .ref (b + 0)), (0, .ref _)]) kd_W_law_824 (by decide) rfl ?_
  refine z_aload_n kd_W_law_826 4 rfl ?_
  refine z_callV (a := 54) (As := []) kd_W_law_827 (kg_W_117 _) hmn.h1 kc_M (c_M_thrown ht0 ht1 ht3 hmn) rfl rfl (Nat.le_of_ble_eq_true rfl) ⟨Nat.le_of_ble_eq_true rfl, Nat.le_of_ble_eq_true rfl⟩ ⟨hk, hn⟩ ?_
  rintro _ _ _ ⟨hv3, rfl, rfl⟩
  cases hv3
  refine z_eq (st' := [.int kk]) rfl rfl rfl rfl ?_
  refine z_iload kd_W_law_830 1 rfl ?_
  refine z_icmp_eq (tgt := 837) kd_W_law_832 (by decide) (fun c832 => ?_) (fun c832 => ?_)
  · refine z_iload kd_W_law_837 1 rfl ?_
    refine z_if_ne (tgt := 853) kd_W_law_839 (by decide) (fun c839 => ?_) (fun c839 => ?_)
    · refine z_goto (tgt := 892) kd_W_law_853 (by decide) ?_
      refine z_pick [2, 3, 4, 5, 6] rfl ?_
      exact lw_next (ih (k + 1) (n + 6) _ _ (Nat.le_refl _) (Nat.le_refl _) hI2 ⟨_, h742.trans hg1⟩)
    · refine z_aload_n kd_W_law_842 3 rfl ?_
      refine z_iconst (v := 0) kd_W_law_843 (by decide) ?_
      refine z_lald (t0 := 1) kd_W_law_844 (by assumption) (h742.trans hg1) (show vp_in (nI 0) 1 from vp_in_nI (by decide) (by decide)) ?_
      refine z_lload kd_W_law_845 0 rfl ?_
      refine z_lcmp kd_W_law_847 ?_
      refine z_if_eq (tgt := 853) kd_W_law_848 (by decide) (fun c848 => ?_) (fun c848 => ?_)
      · refine z_goto (tgt := 892) kd_W_law_853 (by decide) ?_
        refine z_pick [2, 3, 4, 5, 6] rfl ?_
        exact lw_next (ih (k + 1) (n + 6) _ _ (Nat.le_refl _) (Nat.le_refl _) hI2 ⟨_, h742.trans hg1⟩)
      · exact absurd ((lg_cmp_0 _ _).mpr (hg0 c839)) c848
  · exact absurd rfl c832
