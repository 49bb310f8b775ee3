def itL (F T : Nat → Nat) (tree : Int32) : Nat → Nat → Nat → (Nat → Nat) → Int32
  | 0, _, c, _ => if c = 1 then 1 else 0
  | m + 1, k, c, P => if (tree >>> (nI k &&& 31)) &&& 1 = 1 then (if P (F k) = P (T k) then 0 else itL F T tree m (k + 1) (jnC (F k) (T k) P c) (jnP (F k) (T k) P)) else itL F T tree m (k + 1) c P
def itV (n a : Nat) (F T : Nat → Nat) (tree : Int32) : Int32 := if tree < 0 then 0 else if tree >>> (nI a &&& 31) = 0 then itL F T tree a 0 n (fun v => v) else 0
def ftL (F T : Nat → Nat) : Nat → Nat → Int32 → Nat → (Nat → Nat) → Int32 × Nat × (Nat → Nat)
  | 0, _, t, c, P => (t, c, P)
  | m + 1, k, t, c, P => ftL F T m (k + 1) (if P (F k) = P (T k) then t else t ||| (1 <<< (nI k &&& 31))) (jnC (F k) (T k) P c) (jnP (F k) (T k) P)
def ftV (n a : Nat) (F T : Nat → Nat) : Int32 × Nat × (Nat → Nat) := ftL F T a 0 0 n (fun v => v)
theorem ftL_c (F T : Nat → Nat) : ∀ m k t c P, (ftL F T m k t c P).2.1 ≤ c := by
  intro m
  induction m with
  | zero => intro k t c P; exact Nat.le_refl _
  | succ m ih => intro k t c P; exact Nat.le_trans (ih _ _ _ _) (jnC_le _ _ _ _)
theorem ftV_c (n a : Nat) (F T : Nat → Nat) : (ftV n a F T).2.1 ≤ n := ftL_c F T _ _ _ _ _
set_option maxHeartbeats 4000000 in
set_option maxRecDepth 100000 in
theorem l_T_isTree {l : Launch} {D : va_G} {tys : List (ClassId × FieldType)} {b N : Nat} {σ0 : Nat → Option va_E} {cI cJ cA : ClassId} (ht0 : tys[0]? = some (cI, .int)) (ht1 : tys[1]? = some (cJ, .long)) (ht3 : tys[3]? = some (cA, .array .long)) {n a : Nat} {gf gt gw : Nat → Int32} {F T : Nat → Nat} {v19 w19 : Value} {tree val : Int32} : ∀ (m k : Nat) (σ : Nat → Option va_E) (c : Nat) (P : Nat → Nat), k + m = a → c ≤ 10 → NS b cI σ n a gf gt gw F T → PS b cI σ 5 n c P → σ 19 = some (.inr (4, [.ref (b + 1), .ref (b + 5), .ref (b + 7), v19, w19])) → Fr 5 6 σ0 σ → itL F T tree m k c P = val → Z l D kCl tys (kh_T_isTree :: zT) kNw ky_T_isTree.cls ky_T_isTree.name kb_T_isTree 4 (some FieldType.boolean) { frames := 2, cells := 0, slots := 0, locals := 50 } b (zFi D kCl b 0 0 (fun oc N' σ' => oc = .returned (some (.int val)) ∧ N' = N ∧ PA b cI σ' 5 ∧ Fr 5 6 σ0 σ')) 0 0 N (σ) 34 [(2, .int (nI k)), (0, .ref (b + 19)), (1, .int tree)] [] := by
  intro m
  induction m with
  | zero =>
    intro k σ c P hkm hc hN hP h19 hF hv
    obtain rfl : k = a := by omega
    have hn := hN.hn
    have ha := hN.ha
    have hv : (if c = 1 then (1 : Int32) else 0) = val := hv
    refine z_iload_n kd_T_isTree_34 0 rfl ?_
    refine z_aload_n kd_T_isTree_35 1 rfl ?_
    refine z_get kd_T_isTree_36 (kf_T_9 _) h19 rfl ?_
    refine z_get kd_T_isTree_39 (kf_T_47 _) hN.h1 rfl ?_
    refine z_icmp_ge (tgt := 100) kd_T_isTree_42 (by decide) (fun c42 => ?_) (fun c42 => ?_)
    · refine z_aload_n kd_T_isTree_100 1 rfl ?_
      refine z_get kd_T_isTree_101 (kf_T_15 _) h19 rfl ?_
      refine z_get kd_T_isTree_104 (kf_T_39 _) hP.1 rfl ?_
      refine z_iconst (v := 1) kd_T_isTree_107 (by decide) ?_
      refine z_icmp_ne (tgt := 115) kd_T_isTree_108 (by decide) (fun c108 => ?_) (fun c108 => ?_)
      · rw [if_neg (fun q => c108 (by rw [q]; rfl))] at hv
        subst hv
        refine z_iconst (v := 0) kd_T_isTree_115 (by decide) ?_
        exact z_zret kd_T_isTree_116 rfl rfl (Nat.le_of_ble_eq_true rfl) (Nat.le_of_ble_eq_true rfl) ⟨rfl, rfl, hP.pa, hF⟩
      · rw [if_pos ((nI_eq (a := c) (b := 1) (by omega) (by omega)).mp c108)] at hv
        subst hv
        refine z_iconst (v := 1) kd_T_isTree_111 (by decide) ?_
        refine z_goto (tgt := 116) kd_T_isTree_112 (by decide) ?_
        exact z_zret kd_T_isTree_116 rfl rfl (Nat.le_of_ble_eq_true rfl) (Nat.le_of_ble_eq_true rfl) ⟨rfl, rfl, hP.pa, hF⟩
    · exact absurd (nI_le (Nat.le_refl k) (by omega)) c42
  | succ m ih =>
    intro k σ c P hkm hc hN hP h19 hF hv
    have hk : k < a := by omega
    have hn := hN.hn
    have ha := hN.ha
    unfold itL at hv
    refine z_iload_n kd_T_isTree_34 0 rfl ?_
    refine z_aload_n kd_T_isTree_35 1 rfl ?_
    refine z_get kd_T_isTree_36 (kf_T_9 _) h19 rfl ?_
    refine z_get kd_T_isTree_39 (kf_T_47 _) hN.h1 rfl ?_
    refine z_icmp_ge (tgt := 100) kd_T_isTree_42 (by decide) (fun c42 => ?_) (fun c42 => ?_)
    · exact absurd c42 (nI_ge hk (by omega))
    · refine z_iload_n kd_T_isTree_45 2 rfl ?_
      refine z_iload_n kd_T_isTree_46 0 rfl ?_
      refine z_ishr kd_T_isTree_47 ?_
      refine z_iconst (v := 1) kd_T_isTree_48 (by decide) ?_
      refine z_iand kd_T_isTree_49 ?_
      refine z_iconst (v := 1) kd_T_isTree_50 (by decide) ?_
      refine z_icmp_ne (tgt := 58) kd_T_isTree_51 (by decide) (fun c51 => ?_) (fun c51 => ?_)
      · rw [if_neg c51] at hv
        refine z_iconst (v := 0) kd_T_isTree_58 (by decide) ?_
        refine z_istore_n (lv' := [(3, .int _), (2, .int _), (0, .ref (b + 19)), (1, .int _)]) kd_T_isTree_59 (by decide) rfl ?_
        refine z_iload_n kd_T_isTree_60 0 rfl ?_
        refine z_if_eq (tgt := 94) kd_T_isTree_61 (by decide) (fun c61 => ?_) (fun c61 => absurd c61 (by decide))
        refine z_iinc (v := (nI (k + 1))) (lv' := [(2, .int _), (3, .int _), (0, .ref (b + 19)), (1, .int _)]) kd_T_isTree_94 1 rfl (nI_1 _) (by decide) rfl ?_
        refine z_goto (tgt := 34) kd_T_isTree_97 (by decide) ?_
        refine z_pick (lv' := [(2, .int (nI (k + 1))), (0, .ref (b + 19)), (1, .int _)]) [0, 2, 3] rfl ?_
        exact ih (k + 1) _ _ _ (by omega) (by first | exact hc | exact Nat.le_trans (jnC_le _ _ _ _) hc) hN hP h19 hF hv
      · rw [if_pos c51] at hv
        refine z_iconst (v := 1) kd_T_isTree_54 (by decide) ?_
        refine z_goto (tgt := 59) kd_T_isTree_55 (by decide) ?_
        refine z_istore_n (lv' := [(3, .int _), (2, .int _), (0, .ref (b + 19)), (1, .int _)]) kd_T_isTree_59 (by decide) rfl ?_
        refine z_iload_n kd_T_isTree_60 0 rfl ?_
        refine z_if_eq (tgt := 94) kd_T_isTree_61 (by decide) (fun c61 => absurd c61 (by decide)) (fun c61 => ?_)
        refine z_aload_n kd_T_isTree_64 2 rfl ?_
        refine z_get kd_T_isTree_65 (kf_T_15 _) h19 rfl ?_
        refine z_aload_n kd_T_isTree_68 2 rfl ?_
        refine z_get kd_T_isTree_69 (kf_T_9 _) h19 rfl ?_
        refine z_get kd_T_isTree_72 (kf_T_54 _) hN.h1 rfl ?_
        refine z_iload_n kd_T_isTree_75 1 rfl ?_
        refine z_ialdN (t0 := 0) kd_T_isTree_76 (by assumption) hN.h2 (by omega) (by decide) ?_
        refine z_topi (hN.hft k hk).1 ?_
        refine z_aload_n kd_T_isTree_77 2 rfl ?_
        refine z_get kd_T_isTree_78 (kf_T_9 _) h19 rfl ?_
        refine z_get kd_T_isTree_81 (kf_T_57 _) hN.h1 rfl ?_
        refine z_iload_n kd_T_isTree_84 1 rfl ?_
        refine z_ialdN (t0 := 0) kd_T_isTree_85 (by assumption) hN.h3 (by omega) (by decide) ?_
        refine z_topi (hN.hft k hk).2.2.1 ?_
        refine z_callV (a := 5) (As := [_, _]) kd_T_isTree_86 (kg_T_74 _) hP.1 kc_P (c_P_uniteS ht0 (a := 5) (x := F k) (y := T k) hn hc (hN.ft k hk).1 (hN.ft k hk).2 hP) rfl rfl (Nat.le_of_ble_eq_true rfl) ⟨Nat.le_of_ble_eq_true rfl, Nat.le_of_ble_eq_true rfl⟩ ⟨Nat.le_of_ble_eq_true rfl, Nat.le_of_ble_eq_true rfl⟩ ?_
        rintro _ _ σ_1 ⟨hv, rfl, hP_1, q_1⟩
        cases hv
        refine z_eq (st' := [_]) rfl rfl rfl rfl ?_
        have hN_1 := hN.fr q_1 (by omega)
        have x19_1 := (q_1 19 (by omega)).trans h19
        refine z_if_ne (tgt := 94) kd_T_isTree_89 (by decide) (fun c89 => ?_) (fun c89 => ?_)
        · rw [if_neg (zBn c89)] at hv
          refine z_iinc (v := (nI (k + 1))) (lv' := [(2, .int _), (3, .int _), (0, .ref (b + 19)), (1, .int _)]) kd_T_isTree_94 1 rfl (nI_1 _) (by decide) rfl ?_
          refine z_goto (tgt := 34) kd_T_isTree_97 (by decide) ?_
          refine z_pick (lv' := [(2, .int (nI (k + 1))), (0, .ref (b + 19)), (1, .int _)]) [0, 2, 3] rfl ?_
          exact ih (k + 1) _ _ _ (by omega) (by first | exact hc | exact Nat.le_trans (jnC_le _ _ _ _) hc) hN_1 hP_1 x19_1 (Fr.tr hF (q_1.wide (by omega) (by omega))) hv
        · rw [if_pos (Classical.not_not.mp (zBz c89))] at hv
          subst hv
          refine z_iconst (v := 0) kd_T_isTree_92 (by decide) ?_
          exact z_zret kd_T_isTree_93 rfl rfl (Nat.le_of_ble_eq_true rfl) (Nat.le_of_ble_eq_true rfl) ⟨rfl, rfl, hP_1.pa, (Fr.tr hF (q_1.wide (by omega) (by omega)))⟩
set_option maxHeartbeats 4000000 in
set_option maxRecDepth 100000 in
theorem c_T_isTree {l : Launch} {D : va_G} {tys : List (ClassId × FieldType)} {b N : Nat} {σ : Nat → Option va_E} {cI cJ cA : ClassId} (ht0 : tys[0]? = some (cI, .int)) (ht1 : tys[1]? = some (cJ, .long)) (ht3 : tys[3]? = some (cA, .array .long)) {n a : Nat} {gf gt gw : Nat → Int32} {F T : Nat → Nat} (hN : NS b cI σ n a gf gt gw F T) {v19 w19 : Value} (h19 : σ 19 = some (.inr (4, [.ref (b + 1), .ref (b + 5), .ref (b + 7), v19, w19]))) (hPA : PA b cI σ 5) {tree : Int32} : zM l D kCl tys kNw b ky_T_isTree (kh_T_isTree :: zT) 2 50 0 0 [.ref (b + 19), .int tree] N σ ((fun oc N' σ' => oc = .returned (some (.int (itV n a F T tree))) ∧ N' = N ∧ PA b cI σ' 5 ∧ Fr 5 6 σ σ')) := by
  refine zM.of (by decide +kernel) rfl (Nat.le_of_ble_eq_true rfl) ?_
  refine z_pick (lv' := [(0, .ref (b + 19)), (1, .int tree)]) [0, 1] rfl ?_
  obtain ⟨u5, x5, g5, h5, h6⟩ := hPA
  have hn := hN.hn
  have ha := hN.ha
  refine z_iload_n kd_T_isTree_0 1 rfl ?_
  refine z_if_lt (tgt := 16) kd_T_isTree_1 (by decide) (fun c1 => ?_) (fun c1 => ?_)
  · have hr : tree < 0 := c1
    refine z_iconst (v := 0) kd_T_isTree_16 (by decide) ?_
    exact z_zret kd_T_isTree_17 rfl rfl (Nat.le_of_ble_eq_true rfl) (Nat.le_of_ble_eq_true rfl) ⟨by unfold itV; rw [if_pos hr], rfl, ⟨_, _, _, h5, h6⟩, Fr.rf⟩
  · have hr : ¬ tree < 0 := c1
    refine z_iload_n kd_T_isTree_4 1 rfl ?_
    refine z_aload_n kd_T_isTree_5 0 rfl ?_
    refine z_get kd_T_isTree_6 (kf_T_9 _) h19 rfl ?_
    refine z_get kd_T_isTree_9 (kf_T_47 _) hN.h1 rfl ?_
    refine z_ishr kd_T_isTree_12 ?_
    refine z_if_eq (tgt := 18) kd_T_isTree_13 (by decide) (fun c13 => ?_) (fun c13 => ?_)
    · have hs : tree >>> (nI a &&& 31) = 0 := c13
      refine z_aload_n kd_T_isTree_18 0 rfl ?_
      refine z_get kd_T_isTree_19 (kf_T_15 _) h19 rfl ?_
      refine z_aload_n kd_T_isTree_22 0 rfl ?_
      refine z_get kd_T_isTree_23 (kf_T_9 _) h19 rfl ?_
      refine z_get kd_T_isTree_26 (kf_T_23 _) hN.h1 rfl ?_
      refine z_callV (a := 5) (As := [_]) kd_T_isTree_29 (kg_T_29 _) h5 kc_P (c_P_splitS ht0 (a := 5) (n := n) hn ⟨_, _, _, h5, h6⟩) rfl rfl (Nat.le_of_ble_eq_true rfl) ⟨Nat.le_of_ble_eq_true rfl, Nat.le_of_ble_eq_true rfl⟩ ⟨Nat.le_of_ble_eq_true rfl, Nat.le_of_ble_eq_true rfl⟩ ?_
      rintro _ _ σ_1 ⟨hv, rfl, hP_1, q_1⟩
      cases hv
      refine z_eq (st' := []) rfl rfl rfl rfl ?_
      have hN_1 := hN.fr q_1 (by omega)
      have x19_1 := (q_1 19 (by omega)).trans h19
      refine z_iconst (v := 0) kd_T_isTree_32 (by decide) ?_
      refine z_istore_n (lv' := [(2, .int _), (0, .ref (b + 19)), (1, .int _)]) kd_T_isTree_33 (by decide) rfl ?_
      refine z_pick (lv' := [(2, .int (nI 0)), (0, .ref (b + 19)), (1, .int tree)]) [0, 1, 2] rfl ?_
      exact l_T_isTree ht0 ht1 ht3 a 0 _ _ _ (by omega) hn hN_1 hP_1 x19_1 (Fr.tr Fr.rf (q_1.wide (by omega) (by omega))) (by unfold itV; rw [if_neg hr, if_pos hs])
    · have hs : ¬ tree >>> (nI a &&& 31) = 0 := c13
      refine z_iconst (v := 0) kd_T_isTree_16 (by decide) ?_
      exact z_zret kd_T_isTree_17 rfl rfl (Nat.le_of_ble_eq_true rfl) (Nat.le_of_ble_eq_true rfl) ⟨by unfold itV; rw [if_neg hr, if_neg hs], rfl, ⟨_, _, _, h5, h6⟩, Fr.rf⟩
set_option maxHeartbeats 4000000 in
set_option maxRecDepth 100000 in
theorem l_N_firstTrees {l : Launch} {D : va_G} {tys : List (ClassId × FieldType)} {b N : Nat} {σ0 : Nat → Option va_E} {cI cJ cA : ClassId} (ht0 : tys[0]? = some (cI, .int)) (ht1 : tys[1]? = some (cJ, .long)) (ht3 : tys[3]? = some (cA, .array .long)) {n a : Nat} {gf gt gw : Nat → Int32} {F T : Nat → Nat} {val : Int32 × Nat × (Nat → Nat)} : ∀ (m k : Nat) (σ : Nat → Option va_E) (t : Int32) (c : Nat) (P : Nat → Nat), k + m = a → c ≤ 10 → NS b cI σ n a gf gt gw F T → PS b cI σ 5 n c P → Fr 5 6 σ0 σ → ftL F T m k t c P = val → Z l D kCl tys (kh_N_firstTrees :: zT) kNw ky_N_firstTrees.cls ky_N_firstTrees.name kb_N_firstTrees 4 (some FieldType.int) { frames := 2, cells := 0, slots := 0, locals := 50 } b (zFi D kCl b 0 0 (fun oc N' σ' => oc = .returned (some (.int (val).1)) ∧ N' = N ∧ PS b cI σ' 5 n (val).2.1 (val).2.2 ∧ Fr 5 6 σ0 σ')) 0 0 N (σ) 12 [(3, .int (nI k)), (2, .int t), (0, .ref (b + 1)), (1, .ref (b + 5))] [] := by
  intro m
  induction m with
  | zero =>
    intro k σ t c P hkm hc hN hP hF hv
    obtain rfl : k = a := by omega
    have hn := hN.hn
    have ha := hN.ha
    have hv : (t, c, P) = val := hv
    subst hv
    refine z_iload_n kd_N_firstTrees_12 0 rfl ?_
    refine z_aload_n kd_N_firstTrees_13 2 rfl ?_
    refine z_get kd_N_firstTrees_14 (kf_N_25 _) hN.h1 rfl ?_
    refine z_icmp_ge (tgt := 51) kd_N_firstTrees_17 (by decide) (fun c17 => ?_) (fun c17 => ?_)
    · refine z_iload_n kd_N_firstTrees_51 1 rfl ?_
      exact z_iret kd_N_firstTrees_52 rfl (Nat.le_of_ble_eq_true rfl) (Nat.le_of_ble_eq_true rfl) ⟨rfl, rfl, hP, hF⟩
    · exact absurd (nI_le (Nat.le_refl k) (by omega)) c17
  | succ m ih =>
    intro k σ t c P hkm hc hN hP hF hv
    have hk : k < a := by omega
    have hn := hN.hn
    have ha := hN.ha
    unfold ftL at hv
    refine z_iload_n kd_N_firstTrees_12 0 rfl ?_
    refine z_aload_n kd_N_firstTrees_13 2 rfl ?_
    refine z_get kd_N_firstTrees_14 (kf_N_25 _) hN.h1 rfl ?_
    refine z_icmp_ge (tgt := 51) kd_N_firstTrees_17 (by decide) (fun c17 => ?_) (fun c17 => ?_)
    · exact absurd c17 (nI_ge hk (by omega))
    · refine z_aload_n kd_N_firstTrees_20 3 rfl ?_
      refine z_aload_n kd_N_firstTrees_21 2 rfl ?_
      refine z_get kd_N_firstTrees_22 (kf_N_9 _) hN.h1 rfl ?_
      refine z_iload_n kd_N_firstTrees_25 0 rfl ?_
      refine z_ialdN (t0 := 0) kd_N_firstTrees_26 (by assumption) hN.h2 (by omega) (by decide) ?_
      refine z_topi (hN.hft k hk).1 ?_
      refine z_aload_n kd_N_firstTrees_27 2 rfl ?_
      refine z_get kd_N_firstTrees_28 (kf_N_15 _) hN.h1 rfl ?_
      refine z_iload_n kd_N_firstTrees_31 0 rfl ?_
      refine z_ialdN (t0 := 0) kd_N_firstTrees_32 (by assumption) hN.h3 (by omega) (by decide) ?_
      refine z_topi (hN.hft k hk).2.2.1 ?_
      refine z_callV (a := 5) (As := [_, _]) kd_N_firstTrees_33 (kg_N_34 _) hP.1 kc_P (c_P_uniteS ht0 (a := 5) (x := F k) (y := T k) hn hc (hN.ft k hk).1 (hN.ft k hk).2 hP) rfl rfl (Nat.le_of_ble_eq_true rfl) ⟨Nat.le_of_ble_eq_true rfl, Nat.le_of_ble_eq_true rfl⟩ ⟨Nat.le_of_ble_eq_true rfl, Nat.le_of_ble_eq_true rfl⟩ ?_
      rintro _ _ σ_1 ⟨hv, rfl, hP_1, q_1⟩
      cases hv
      refine z_eq (st' := [_]) rfl rfl rfl rfl ?_
      have hN_1 := hN.fr q_1 (by omega)
      refine z_if_eq (tgt := 45) kd_N_firstTrees_36 (by decide) (fun c36 => ?_) (fun c36 => ?_)
      · rw [if_pos (Classical.not_not.mp (zBz c36))] at hv
        refine z_iinc (v := (nI (k + 1))) (lv' := [(3, .int _), (2, .int _), (0, .ref (b + 1)), (1, .ref (b + 5))]) kd_N_firstTrees_45 0 rfl (nI_1 _) (by decide) rfl ?_
        refine z_goto (tgt := 12) kd_N_firstTrees_48 (by decide) ?_
        refine z_pick (lv' := [(3, .int (nI (k + 1))), (2, .int _), (0, .ref (b + 1)), (1, .ref (b + 5))]) [0, 1, 2, 3] rfl ?_
        exact ih (k + 1) _ _ _ _ (by omega) (Nat.le_trans (jnC_le _ _ _ _) hc) hN_1 hP_1 (Fr.tr hF (q_1.wide (by omega) (by omega))) hv
      · rw [if_neg (zBn c36)] at hv
        refine z_iload_n kd_N_firstTrees_39 1 rfl ?_
        refine z_iconst (v := 1) kd_N_firstTrees_40 (by decide) ?_
        refine z_iload_n kd_N_firstTrees_41 0 rfl ?_
        refine z_ishl kd_N_firstTrees_42 ?_
        refine z_ior kd_N_firstTrees_43 ?_
        refine z_istore_n (lv' := [(2, .int _), (3, .int _), (0, .ref (b + 1)), (1, .ref (b + 5))]) kd_N_firstTrees_44 (by decide) rfl ?_
        refine z_iinc (v := (nI (k + 1))) (lv' := [(3, .int _), (2, .int _), (0, .ref (b + 1)), (1, .ref (b + 5))]) kd_N_firstTrees_45 1 rfl (nI_1 _) (by decide) rfl ?_
        refine z_goto (tgt := 12) kd_N_firstTrees_48 (by decide) ?_
        refine z_pick (lv' := [(3, .int (nI (k + 1))), (2, .int _), (0, .ref (b + 1)), (1, .ref (b + 5))]) [0, 1, 2, 3] rfl ?_
        exact ih (k + 1) _ _ _ _ (by omega) (Nat.le_trans (jnC_le _ _ _ _) hc) hN_1 hP_1 (Fr.tr hF (q_1.wide (by omega) (by omega))) hv
set_option maxHeartbeats 4000000 in
set_option maxRecDepth 100000 in
theorem c_N_firstTrees {l : Launch} {D : va_G} {tys : List (ClassId × FieldType)} {b N : Nat} {σ : Nat → Option va_E} {cI cJ cA : ClassId} (ht0 : tys[0]? = some (cI, .int)) (ht1 : tys[1]? = some (cJ, .long)) (ht3 : tys[3]? = some (cA, .array .long)) {n a : Nat} {gf gt gw : Nat → Int32} {F T : Nat → Nat} (hN : NS b cI σ n a gf gt gw F T) (hPA : PA b cI σ 5) : zM l D kCl tys kNw b ky_N_firstTrees (kh_N_firstTrees :: zT) 2 50 0 0 [.ref (b + 1), .ref (b + 5)] N σ ((fun oc N' σ' => oc = .returned (some (.int (ftV n a F T).1)) ∧ N' = N ∧ PS b cI σ' 5 n (ftV n a F T).2.1 (ftV n a F T).2.2 ∧ Fr 5 6 σ σ')) := by
  refine zM.of (by decide +kernel) rfl (Nat.le_of_ble_eq_true rfl) ?_
  refine z_pick (lv' := [(0, .ref (b + 1)), (1, .ref (b + 5))]) [0, 1] rfl ?_
  obtain ⟨u5, x5, g5, h5, h6⟩ := hPA
  have hn := hN.hn
  have ha := hN.ha
  refine z_iconst (v := 0) kd_N_firstTrees_0 (by decide) ?_
  refine z_istore_n (lv' := [(2, .int _), (0, .ref (b + 1)), (1, .ref (b + 5))]) kd_N_firstTrees_1 (by decide) rfl ?_
  refine z_aload_n kd_N_firstTrees_2 2 rfl ?_
  refine z_aload_n kd_N_firstTrees_3 1 rfl ?_
  refine z_get kd_N_firstTrees_4 (kf_N_21 _) hN.h1 rfl ?_
  refine z_callV (a := 5) (As := [_]) kd_N_firstTrees_7 (kg_N_28 _) h5 kc_P (c_P_splitS ht0 (a := 5) (n := n) hn ⟨_, _, _, h5, h6⟩) rfl rfl (Nat.le_of_ble_eq_true rfl) ⟨Nat.le_of_ble_eq_true rfl, Nat.le_of_ble_eq_true rfl⟩ ⟨Nat.le_of_ble_eq_true rfl, Nat.le_of_ble_eq_true rfl⟩ ?_
  rintro _ _ σ_1 ⟨hv, rfl, hP_1, q_1⟩
  cases hv
  refine z_eq (st' := []) rfl rfl rfl rfl ?_
  have hN_1 := hN.fr q_1 (by omega)
  refine z_iconst (v := 0) kd_N_firstTrees_10 (by decide) ?_
  refine z_istore_n (lv' := [(3, .int _), (2, .int _), (0, .ref (b + 1)), (1, .ref (b + 5))]) kd_N_firstTrees_11 (by decide) rfl ?_
  refine z_pick (lv' := [(3, .int (nI 0)), (2, .int 0), (0, .ref (b + 1)), (1, .ref (b + 5))]) [0, 1, 2, 3] rfl ?_
  exact l_N_firstTrees ht0 ht1 ht3 a 0 _ _ _ _ (by omega) hn hN_1 hP_1 (Fr.tr Fr.rf (q_1.wide (by omega) (by omega))) rfl
set_option maxHeartbeats 4000000 in
set_option maxRecDepth 100000 in
theorem c_R_partsOfNet {l : Launch} {D : va_G} {tys : List (ClassId × FieldType)} {b N : Nat} {σ : Nat → Option va_E} {cI cJ cA : ClassId} (ht0 : tys[0]? = some (cI, .int)) (ht1 : tys[1]? = some (cJ, .long)) (ht3 : tys[3]? = some (cA, .array .long)) {n a : Nat} {gf gt gw : Nat → Int32} {F T : Nat → Nat} (hN : NS b cI σ n a gf gt gw F T) {v20 : Value} (h20 : σ 20 = some (.inr (5, [v20, .ref (b + 21), .ref (b + 22), .ref (b + 1), .ref (b + 5)]))) (hPA : PA b cI σ 5) : zM l D kCl tys kNw b ky_R_partsOfNet (kh_R_partsOfNet :: zT) 3 90 0 0 [.ref (b + 20)] N σ ((fun oc N' σ' => oc = .returned (some (.int (nI (ftV n a F T).2.1))) ∧ N' = N ∧ PA b cI σ' 5 ∧ Fr 5 6 σ σ')) := by
  refine zM.of (by decide +kernel) rfl (Nat.le_of_ble_eq_true rfl) ?_
  refine z_pick (lv' := [(0, .ref (b + 20))]) [0] rfl ?_
  obtain ⟨u5, x5, g5, h5, h6⟩ := hPA
  have hn := hN.hn
  have ha := hN.ha
  refine z_aload_n kd_R_partsOfNet_0 0 rfl ?_
  refine z_get kd_R_partsOfNet_1 (kf_R_18 _) h20 rfl ?_
  refine z_aload_n kd_R_partsOfNet_4 0 rfl ?_
  refine z_get kd_R_partsOfNet_5 (kf_R_22 _) h20 rfl ?_
  refine z_callV (a := 1) (As := [_]) kd_R_partsOfNet_8 (kg_R_26 _) hN.h1 kc_N (c_N_firstTrees ht0 ht1 ht3 hN ⟨_, _, _, h5, h6⟩) rfl rfl (Nat.le_of_ble_eq_true rfl) ⟨Nat.le_of_ble_eq_true rfl, Nat.le_of_ble_eq_true rfl⟩ ⟨Nat.le_of_ble_eq_true rfl, Nat.le_of_ble_eq_true rfl⟩ ?_
  rintro _ _ σ_1 ⟨hv, rfl, hP_1, q_1⟩
  cases hv
  refine z_eq (st' := [_]) rfl rfl rfl rfl ?_
  have hN_1 := hN.fr q_1 (by omega)
  have x20_1 := (q_1 20 (by omega)).trans h20
  refine z_pop kd_R_partsOfNet_11 rfl ?_
  refine z_aload_n kd_R_partsOfNet_12 0 rfl ?_
  refine z_get kd_R_partsOfNet_13 (kf_R_22 _) x20_1 rfl ?_
  refine z_get kd_R_partsOfNet_16 (kf_R_32 _) hP_1.1 rfl ?_
  exact z_iret kd_R_partsOfNet_19 rfl (Nat.le_of_ble_eq_true rfl) (Nat.le_of_ble_eq_true rfl) ⟨rfl, rfl, hP_1.pa, (Fr.tr Fr.rf (q_1.wide (by omega) (by omega)))⟩
set_option maxHeartbeats 4000000 in
set_option maxRecDepth 100000 in
theorem c_R_count {l : Launch} {D : va_G} {tys : List (ClassId × FieldType)} {b N : Nat} {σ : Nat → Option va_E} {cI cJ cA : ClassId} (ht0 : tys[0]? = some (cI, .int)) (ht1 : tys[1]? = some (cJ, .long)) (ht3 : tys[3]? = some (cA, .array .long)) {n a : Nat} {gf gt gw : Nat → Int32} {F T : Nat → Nat} (hN : NS b cI σ n a gf gt gw F T) {v20 : Value} (h20 : σ 20 = some (.inr (5, [v20, .ref (b + 21), .ref (b + 22), .ref (b + 1), .ref (b + 5)]))) (hPA : PA b cI σ 5) : zM l D kCl tys kNw b ky_R_count (kh_R_count :: zT) 3 90 0 0 [.ref (b + 20)] N σ ((fun oc N' σ' => oc = .returned (some (.int (nI a - jbc (ftV n a F T).1))) ∧ N' = N ∧ PA b cI σ' 5 ∧ Fr 5 6 σ σ')) := by
  refine zM.of (by decide +kernel) rfl (Nat.le_of_ble_eq_true rfl) ?_
  refine z_pick (lv' := [(0, .ref (b + 20))]) [0] rfl ?_
  obtain ⟨u5, x5, g5, h5, h6⟩ := hPA
  have hn := hN.hn
  have ha := hN.ha
  refine z_aload_n kd_R_count_0 0 rfl ?_
  refine z_get kd_R_count_1 (kf_R_18 _) h20 rfl ?_
  refine z_get kd_R_count_4 (kf_R_38 _) hN.h1 rfl ?_
  refine z_aload_n kd_R_count_7 0 rfl ?_
  refine z_get kd_R_count_8 (kf_R_18 _) h20 rfl ?_
  refine z_aload_n kd_R_count_11 0 rfl ?_
  refine z_get kd_R_count_12 (kf_R_22 _) h20 rfl ?_
  refine z_callV (a := 1) (As := [_]) kd_R_count_15 (kg_R_26 _) hN.h1 kc_N (c_N_firstTrees ht0 ht1 ht3 hN ⟨_, _, _, h5, h6⟩) rfl rfl (Nat.le_of_ble_eq_true rfl) ⟨Nat.le_of_ble_eq_true rfl, Nat.le_of_ble_eq_true rfl⟩ ⟨Nat.le_of_ble_eq_true rfl, Nat.le_of_ble_eq_true rfl⟩ ?_
  rintro _ _ σ_1 ⟨hv, rfl, hP_1, q_1⟩
  cases hv
  refine z_eq (st' := [_, _]) rfl rfl rfl rfl ?_
  have hN_1 := hN.fr q_1 (by omega)
  have x20_1 := (q_1 20 (by omega)).trans h20
  refine z_T1 (As := [_]) kd_R_count_18 (kg_R_41 _) (c_J_bitCount) rfl rfl (Nat.le_of_ble_eq_true rfl) ⟨Nat.le_of_ble_eq_true rfl, Nat.le_of_ble_eq_true rfl⟩ ⟨Nat.le_of_ble_eq_true rfl, Nat.le_of_ble_eq_true rfl⟩ ?_
  refine z_isub kd_R_count_21 ?_
  exact z_iret kd_R_count_22 rfl (Nat.le_of_ble_eq_true rfl) (Nat.le_of_ble_eq_true rfl) ⟨rfl, rfl, hP_1.pa, (Fr.tr Fr.rf (q_1.wide (by omega) (by omega)))⟩
