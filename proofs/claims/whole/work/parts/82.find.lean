theorem F2.tr3 {lo hi lo2 hi2 a b c d : Nat} {σ σ1 σ2 : Nat → Option va_E} (h : F2 lo hi lo2 hi2 σ σ1) (q : F2 a b c d σ1 σ2) (hh : lo ≤ a ∧ b ≤ hi ∧ lo2 ≤ c ∧ d ≤ hi2) : F2 lo hi lo2 hi2 σ σ2 := fun k h1 h2 => (q k (by omega) (by omega)).trans (h k h1 h2)
def gpM (n a : Nat) (F T : Nat → Nat) (w : Nat → Int32) (od : Int64) : Nat → Nat → Int64 := raO od n n 0 (strM n 0 (fbM F T w Z0 a))
/-- how many rounds, and the row of them -/
def gpO (od : Int64) (n a : Nat) (F T : Nat → Nat) (w : Nat → Int32) (G : Nat → Int64) : Nat × (Nat → Int64) := if od < 2 then (0, G) else (ctL (mcV n (fgL od n n 0 (gpM n a F T w od) G)) n 0 0, mcV n (fgL od n n 0 (gpM n a F T w od) G))
def gpV (n a : Nat) (F T : Nat → Nat) (w : Nat → Int32) (G : Nat → Int64) : Nat × (Nat → Int64) := gpO (sopV n 0 a F T w (fun v => v)) n a F T w G
set_option maxHeartbeats 4000000 in
set_option maxRecDepth 100000 in
theorem l_U_ct {l : Launch} {D : va_G} {tys : List (ClassId × FieldType)} {b N : Nat} {σ0 : Nat → Option va_E} {cI cJ cA : ClassId} (ht0 : tys[0]? = some (cI, .int)) (ht1 : tys[1]? = some (cJ, .long)) (ht3 : tys[3]? = some (cA, .array .long)) {n : Nat} (hn : n ≤ 10) {od : Int64} {G : Nat → Int64} {M : Nat → Nat → Int64} {cf : Nat} : ∀ (m x : Nat) (σ : Nat → Option va_E) (c : Nat) (cm tp to : Value), x + m = n → PA b cI σ 5 → GS b cA cJ σ (nI n) (M) → σ 23 = some (.inr (6, [.int (nI c), .ref (b + 24), .ref (b + 1), .ref (b + 19), .ref (b + 7), .long od, cm, tp, to])) → σ 24 = some (.inl (cJ, 10, .inr (.inl G))) → F2 5 18 23 24 σ0 σ → ctL G m x c = cf → Z l D kCl tys (kh_U_find :: zT) kNw ky_U_find.cls ky_U_find.name kb_U_find 2 none { frames := 5, cells := 0, slots := 0, locals := 200 } b (zFi D kCl b 0 0 (fun oc N' σ' => oc = .returned none ∧ N' = N ∧ PA b cI σ' 5 ∧ GA b cA cJ σ' ∧ (∃ cm tp to, σ' 23 = some (.inr (6, [.int (nI ((cf, G)).1), .ref (b + 24), .ref (b + 1), .ref (b + 19), .ref (b + 7), .long od, cm, tp, to]))) ∧ σ' 24 = some (.inl (cJ, 10, .inr (.inl ((cf, G)).2))) ∧ F2 5 18 23 24 σ0 σ')) 0 0 N (σ) 105 [(1, .int (nI x)), (0, .ref (b + 23))] [] := by
  intro m
  induction m with
  | zero =>
    intro x σ c cm tp to hcm hPA hS h23 h24 hF hv
    obtain rfl : x = n := by omega
    obtain ⟨u5, x5, g5, h5, h6⟩ := hPA
    have hv : c = cf := hv
    subst hv
    refine z_iload_n kd_U_find_105 0 rfl ?_
    refine z_aload_n kd_U_find_106 1 rfl ?_
    refine z_get kd_U_find_107 (kf_U_23 _) h23 rfl ?_
    refine z_get kd_U_find_110 (kf_U_61 _) hS.1 rfl ?_
    refine z_icmp_ge (tgt := 147) kd_U_find_113 (by decide) (fun c113 => ?_) (fun c113 => ?_)
    · exact z_vret kd_U_find_147 rfl (Nat.le_of_ble_eq_true rfl) (Nat.le_of_ble_eq_true rfl) ⟨rfl, rfl, ⟨_, _, _, h5, h6⟩, ⟨_, _, hS⟩, ⟨_, _, _, h23⟩, h24, hF⟩
    · exact absurd (nI_le (Nat.le_refl x) (by omega)) c113
  | succ m ih =>
    intro x σ c cm tp to hcm hPA hS h23 h24 hF hv
    have hlt : x < n := by omega
    obtain ⟨u5, x5, g5, h5, h6⟩ := hPA
    unfold ctL at hv
    refine z_iload_n kd_U_find_105 0 rfl ?_
    refine z_aload_n kd_U_find_106 1 rfl ?_
    refine z_get kd_U_find_107 (kf_U_23 _) h23 rfl ?_
    refine z_get kd_U_find_110 (kf_U_61 _) hS.1 rfl ?_
    refine z_icmp_ge (tgt := 147) kd_U_find_113 (by decide) (fun c113 => ?_) (fun c113 => ?_)
    · exact absurd c113 (nI_ge hlt (by omega))
    · refine z_aload_n kd_U_find_116 1 rfl ?_
      refine z_dup kd_U_find_117 rfl ?_
      refine z_get kd_U_find_118 (kf_U_33 _) h23 rfl ?_
      refine z_aload_n kd_U_find_121 1 rfl ?_
      refine z_get kd_U_find_122 (kf_U_9 _) h23 rfl ?_
      refine z_iload_n kd_U_find_125 0 rfl ?_
      refine z_laldN (t0 := 1) kd_U_find_126 (by assumption) h24 (by omega) (by decide) ?_
      refine z_lconst (v := 1) kd_U_find_127 (by decide +kernel) ?_
      refine z_lcmp kd_U_find_128 ?_
      refine z_if_le (tgt := 136) kd_U_find_129 (by decide) (fun c129 => ?_) (fun c129 => ?_)
      · rw [if_pos ((lg_cmp_le _ _).mp c129)] at hv
        refine z_iconst (v := 0) kd_U_find_136 (by decide) ?_
        refine z_iadd kd_U_find_137 ?_
        refine z_topi (nI_add c 0) ?_
        refine z_putE (fs' := [_, _, _, _, _, _, _, _, _]) kd_U_find_138 (kp_U_33 _) h23 (Nat.le_of_ble_eq_true rfl) rfl rfl rfl ?_
        refine z_upd (fun σ_1 x23_1 q_1 => ?_)
        have h5_1 := (q_1 5 (by omega)).trans h5
        have h6_1 := (q_1 6 (by omega)).trans h6
        have hS_1 := hS.fr q_1 (by omega)
        have x24_1 := (q_1 24 (by omega)).trans h24
        refine z_iinc (v := (nI (x + 1))) (lv' := [(1, .int _), (0, .ref (b + 23))]) kd_U_find_141 0 rfl (nI_1 _) (by decide) rfl ?_
        refine z_goto (tgt := 105) kd_U_find_144 (by decide) ?_
        refine z_pick (lv' := [(1, .int (nI (x + 1))), (0, .ref (b + 23))]) [0, 1] rfl ?_
        exact ih (x + 1) _ _ _ _ _ (by omega) ⟨_, _, _, h5_1, h6_1⟩ hS_1 x23_1 x24_1 (hF.tr q_1 (by omega)) hv
      · rw [if_neg (fun q => c129 ((lg_cmp_le _ _).mpr q))] at hv
        refine z_iconst (v := 1) kd_U_find_132 (by decide) ?_
        refine z_goto (tgt := 137) kd_U_find_133 (by decide) ?_
        refine z_iadd kd_U_find_137 ?_
        refine z_topi (nI_add c 1) ?_
        refine z_putE (fs' := [_, _, _, _, _, _, _, _, _]) kd_U_find_138 (kp_U_33 _) h23 (Nat.le_of_ble_eq_true rfl) rfl rfl rfl ?_
        refine z_upd (fun σ_2 x23_2 q_2 => ?_)
        have h5_2 := (q_2 5 (by omega)).trans h5
        have h6_2 := (q_2 6 (by omega)).trans h6
        have hS_2 := hS.fr q_2 (by omega)
        have x24_2 := (q_2 24 (by omega)).trans h24
        refine z_iinc (v := (nI (x + 1))) (lv' := [(1, .int _), (0, .ref (b + 23))]) kd_U_find_141 0 rfl (nI_1 _) (by decide) rfl ?_
        refine z_goto (tgt := 105) kd_U_find_144 (by decide) ?_
        refine z_pick (lv' := [(1, .int (nI (x + 1))), (0, .ref (b + 23))]) [0, 1] rfl ?_
        exact ih (x + 1) _ _ _ _ _ (by omega) ⟨_, _, _, h5_2, h6_2⟩ hS_2 x23_2 x24_2 (hF.tr q_2 (by omega)) hv
set_option maxHeartbeats 4000000 in
set_option maxRecDepth 100000 in
theorem l_U_fg {l : Launch} {D : va_G} {tys : List (ClassId × FieldType)} {b N : Nat} {σ0 : Nat → Option va_E} {cI cJ cA : ClassId} (ht0 : tys[0]? = some (cI, .int)) (ht1 : tys[1]? = some (cJ, .long)) (ht3 : tys[3]? = some (cA, .array .long)) {n : Nat} (hn : n ≤ 10) {od : Int64} {Gf : Nat → Int64} : ∀ (m x : Nat) (σ : Nat → Option va_E) (M : Nat → Nat → Int64) (G : Nat → Int64) (cm tp to : Value), x + m = n → PA b cI σ 5 → GS b cA cJ σ (nI n) (M) → σ 23 = some (.inr (6, [.int (nI 0), .ref (b + 24), .ref (b + 1), .ref (b + 19), .ref (b + 7), .long od, cm, tp, to])) → σ 24 = some (.inl (cJ, 10, .inr (.inl G))) → F2 5 18 23 24 σ0 σ → fgL od n m x M G = Gf → Z l D kCl tys (kh_U_find :: zT) kNw ky_U_find.cls ky_U_find.name kb_U_find 2 none { frames := 5, cells := 0, slots := 0, locals := 200 } b (zFi D kCl b 0 0 (fun oc N' σ' => oc = .returned none ∧ N' = N ∧ PA b cI σ' 5 ∧ GA b cA cJ σ' ∧ (∃ cm tp to, σ' 23 = some (.inr (6, [.int (nI ((ctL (mcV n Gf) n 0 0, mcV n Gf)).1), .ref (b + 24), .ref (b + 1), .ref (b + 19), .ref (b + 7), .long od, cm, tp, to]))) ∧ σ' 24 = some (.inl (cJ, 10, .inr (.inl ((ctL (mcV n Gf) n 0 0, mcV n Gf)).2))) ∧ F2 5 18 23 24 σ0 σ')) 0 0 N (σ) 53 [(1, .int (nI x)), (0, .ref (b + 23))] [] := by
  intro m
  induction m with
  | zero =>
    intro x σ M G cm tp to hcm hPA hS h23 h24 hF hv
    obtain rfl : x = n := by omega
    obtain ⟨u5, x5, g5, h5, h6⟩ := hPA
    have hv : G = Gf := hv
    subst hv
    refine z_iload_n kd_U_find_53 0 rfl ?_
    refine z_aload_n kd_U_find_54 1 rfl ?_
    refine z_get kd_U_find_55 (kf_U_23 _) h23 rfl ?_
    refine z_get kd_U_find_58 (kf_U_61 _) hS.1 rfl ?_
    refine z_icmp_ge (tgt := 99) kd_U_find_61 (by decide) (fun c61 => ?_) (fun c61 => ?_)
    · refine z_aload_n kd_U_find_99 1 rfl ?_
      refine z_callV (a := 23) (As := []) kd_U_find_100 (kg_U_75 _) h23 kc_U (c_U_makeChain ht0 ht1 ht3 hn h23 hS.1 h24) rfl rfl (Nat.le_of_ble_eq_true rfl) ⟨Nat.le_of_ble_eq_true rfl, Nat.le_of_ble_eq_true rfl⟩ ⟨Nat.le_of_ble_eq_true rfl, Nat.le_of_ble_eq_true rfl⟩ ?_
      rintro _ _ σ_1 ⟨hv, rfl, x24_1, q_1⟩
      cases hv
      refine z_eq (st' := []) rfl rfl rfl rfl ?_
      have h5_1 := (q_1 5 (by omega)).trans h5
      have h6_1 := (q_1 6 (by omega)).trans h6
      have hS_1 := hS.fr q_1 (by omega)
      have x23_1 := (q_1 23 (by omega)).trans h23
      refine z_iconst (v := 0) kd_U_find_103 (by decide) ?_
      refine z_istore_n (lv' := [(1, .int _), (0, .ref (b + 23))]) kd_U_find_104 (by decide) rfl ?_
      refine z_pick (lv' := [(1, .int (nI 0)), (0, .ref (b + 23))]) [0, 1] rfl ?_
      exact l_U_ct ht0 ht1 ht3 hn x 0 _ _ _ _ _ (by omega) ⟨_, _, _, h5_1, h6_1⟩ hS_1 x23_1 x24_1 (hF.tr q_1 (by omega)) rfl
    · exact absurd (nI_le (Nat.le_refl x) (by omega)) c61
  | succ m ih =>
    intro x σ M G cm tp to hcm hPA hS h23 h24 hF hv
    have hlt : x < n := by omega
    obtain ⟨u5, x5, g5, h5, h6⟩ := hPA
    refine z_iload_n kd_U_find_53 0 rfl ?_
    refine z_aload_n kd_U_find_54 1 rfl ?_
    refine z_get kd_U_find_55 (kf_U_23 _) h23 rfl ?_
    refine z_get kd_U_find_58 (kf_U_61 _) hS.1 rfl ?_
    refine z_icmp_ge (tgt := 99) kd_U_find_61 (by decide) (fun c61 => ?_) (fun c61 => ?_)
    · exact absurd c61 (nI_ge hlt (by omega))
    · refine z_aload_n kd_U_find_64 1 rfl ?_
      refine z_iload_n kd_U_find_65 0 rfl ?_
      refine z_callV (a := 23) (As := [_]) kd_U_find_66 (kg_U_64 _) h23 kc_U (c_U_clearLine ht0 ht1 ht3 hn hlt h23 hS) rfl rfl (Nat.le_of_ble_eq_true rfl) ⟨Nat.le_of_ble_eq_true rfl, Nat.le_of_ble_eq_true rfl⟩ ⟨Nat.le_of_ble_eq_true rfl, Nat.le_of_ble_eq_true rfl⟩ ?_
      rintro _ _ σ_1 ⟨hv, rfl, hS_1, ⟨cm_1, tp_1, to_1, x23_1⟩, q_1⟩
      cases hv
      refine z_eq (st' := []) rfl rfl rfl rfl ?_
      have h5_1 := (q_1 5 (by omega) (by omega)).trans h5
      have h6_1 := (q_1 6 (by omega) (by omega)).trans h6
      have x24_1 := (q_1 24 (by omega) (by omega)).trans h24
      obtain ⟨h7, f, r, hG⟩ := id hS_1
      refine z_aload_n kd_U_find_69 1 rfl ?_
      refine z_get kd_U_find_70 (kf_U_9 _) x23_1 rfl ?_
      refine z_iload_n kd_U_find_73 0 rfl ?_
      refine z_aload_n kd_U_find_74 1 rfl ?_
      refine z_get kd_U_find_75 (kf_U_23 _) x23_1 rfl ?_
      refine z_get kd_U_find_78 (kf_U_67 _) hS_1.1 rfl ?_
      refine z_iload_n kd_U_find_81 0 rfl ?_
      refine z_gal kd_U_find_82 ht3 hG (by omega) ?_
      refine z_iload_n kd_U_find_83 0 rfl ?_
      refine z_gld kd_U_find_84 ht1 hG (by omega) (by omega) ?_
      refine z_aload_n kd_U_find_85 1 rfl ?_
      refine z_get kd_U_find_86 (kf_U_42 _) x23_1 rfl ?_
      refine z_SN1 (As := [_, _]) kd_U_find_89 (kg_U_71 _) (List.mem_cons_of_mem _ (zin 459 rfl rfl)) (c_C_commonDivisor) rfl rfl (Nat.le_of_ble_eq_true rfl) ⟨Nat.le_of_ble_eq_true rfl, Nat.le_of_ble_eq_true rfl⟩ ⟨Nat.le_of_ble_eq_true rfl, Nat.le_of_ble_eq_true rfl⟩ ?_
      refine z_lastN (t0 := 1) kd_U_find_92 (by assumption) x24_1 (by omega) (by decide) ?_
      refine z_upd (fun σ_2 x24_2 q_2 => ?_)
      have h5_2 := (q_2 5 (by omega)).trans h5_1
      have h6_2 := (q_2 6 (by omega)).trans h6_1
      have hS_2 := hS_1.fr q_2 (by omega)
      have x23_2 := (q_2 23 (by omega)).trans x23_1
      refine z_iinc (v := (nI (x + 1))) (lv' := [(1, .int _), (0, .ref (b + 23))]) kd_U_find_93 0 rfl (nI_1 _) (by decide) rfl ?_
      refine z_goto (tgt := 53) kd_U_find_96 (by decide) ?_
      refine z_pick (lv' := [(1, .int (nI (x + 1))), (0, .ref (b + 23))]) [0, 1] rfl ?_
      exact ih (x + 1) _ _ _ _ _ _ (by omega) ⟨_, _, _, h5_2, h6_2⟩ hS_2 x23_2 x24_2 ((F2.tr3 hF q_1 (by omega)).tr q_2 (by omega)) hv
set_option maxHeartbeats 4000000 in
set_option maxRecDepth 100000 in
theorem c_U_find {l : Launch} {D : va_G} {tys : List (ClassId × FieldType)} {b N : Nat} {σ : Nat → Option va_E} {cI cJ cA : ClassId} (ht0 : tys[0]? = some (cI, .int)) (ht1 : tys[1]? = some (cJ, .long)) (ht3 : tys[3]? = some (cA, .array .long)) {n a : Nat} {gf gt gw : Nat → Int32} {F T : Nat → Nat} (hN : NS b cI σ n a gf gt gw F T) {v19 w19 : Value} (h19 : σ 19 = some (.inr (4, [.ref (b + 1), .ref (b + 5), .ref (b + 7), v19, w19]))) (hPA : PA b cI σ 5) (hA : GA b cA cJ σ) {cn cm tp to vod : Value} {G : Nat → Int64} (h23 : σ 23 = some (.inr (6, [cn, .ref (b + 24), .ref (b + 1), .ref (b + 19), .ref (b + 7), vod, cm, tp, to]))) (h24 : σ 24 = some (.inl (cJ, 10, .inr (.inl G)))) : zM l D kCl tys kNw b ky_U_find (kh_U_find :: zT) 5 200 0 0 [.ref (b + 23)] N σ ((fun oc N' σ' => oc = .returned none ∧ N' = N ∧ PA b cI σ' 5 ∧ GA b cA cJ σ' ∧ (∃ cm tp to, σ' 23 = some (.inr (6, [.int (nI (gpV n a F T gw G).1), .ref (b + 24), .ref (b + 1), .ref (b + 19), .ref (b + 7), .long (sopV n 0 a F T gw (fun v => v)), cm, tp, to]))) ∧ σ' 24 = some (.inl (cJ, 10, .inr (.inl (gpV n a F T gw G).2))) ∧ F2 5 18 23 24 σ σ')) := by
  refine zM.of (by decide +kernel) rfl (Nat.le_of_ble_eq_true rfl) ?_
  refine z_pick (lv' := [(0, .ref (b + 23))]) [0] rfl ?_
  obtain ⟨s0, M0, hS0⟩ := hA
  obtain ⟨u5, x5, g5, h5, h6⟩ := hPA
  have hn := hN.hn
  have ha := hN.ha
  refine z_aload_n kd_U_find_0 0 rfl ?_
  refine z_iconst (v := 0) kd_U_find_1 (by decide) ?_
  refine z_putE (fs' := [_, _, _, _, _, _, _, _, _]) kd_U_find_2 (kp_U_33 _) h23 (Nat.le_of_ble_eq_true rfl) rfl rfl rfl ?_
  refine z_upd (fun σ_1 x23_1 q_1 => ?_)
  have hN_1 := hN.fr q_1 (by omega)
  have h5_1 := (q_1 5 (by omega)).trans h5
  have h6_1 := (q_1 6 (by omega)).trans h6
  have hS_1 := hS0.fr q_1 (by omega)
  have x19_1 := (q_1 19 (by omega)).trans h19
  have x24_1 := (q_1 24 (by omega)).trans h24
  refine z_aload_n kd_U_find_5 0 rfl ?_
  refine z_aload_n kd_U_find_6 0 rfl ?_
  refine z_get kd_U_find_7 (kf_U_19 _) x23_1 rfl ?_
  refine z_callV (a := 19) (As := []) kd_U_find_10 (kg_U_36 _) x19_1 kc_T (c_T_sumOfAll ht0 ht1 ht3 hN_1 x19_1 ⟨_, _, _, h5_1, h6_1⟩ ⟨_, _, hS_1⟩) rfl rfl (Nat.le_of_ble_eq_true rfl) ⟨Nat.le_of_ble_eq_true rfl, Nat.le_of_ble_eq_true rfl⟩ ⟨Nat.le_of_ble_eq_true rfl, Nat.le_of_ble_eq_true rfl⟩ ?_
  rintro _ _ σ_2 ⟨hv, rfl, ⟨u5_2, x5_2, g5_2, h5_2, h6_2⟩, ⟨s_2, M_2, hS_2⟩, q_2⟩
  cases hv
  refine z_eq (st' := [_, _]) rfl rfl rfl rfl ?_
  have hN_2 := hN_1.fr q_2 (by omega)
  have x19_2 := (q_2 19 (by omega)).trans x19_1
  have x23_2 := (q_2 23 (by omega)).trans x23_1
  have x24_2 := (q_2 24 (by omega)).trans x24_1
  refine z_putE (fs' := [_, _, _, _, _, _, _, _, _]) kd_U_find_13 (kp_U_42 _) x23_2 (Nat.le_of_ble_eq_true rfl) rfl rfl rfl ?_
  refine z_upd (fun σ_3 x23_3 q_3 => ?_)
  have hN_3 := hN_2.fr q_3 (by omega)
  have h5_3 := (q_3 5 (by omega)).trans h5_2
  have h6_3 := (q_3 6 (by omega)).trans h6_2
  have hS_3 := hS_2.fr q_3 (by omega)
  have x19_3 := (q_3 19 (by omega)).trans x19_2
  have x24_3 := (q_3 24 (by omega)).trans x24_2
  refine z_aload_n kd_U_find_16 0 rfl ?_
  refine z_get kd_U_find_17 (kf_U_42 _) x23_3 rfl ?_
  refine z_ldc2 (v := 2) kd_U_find_20 (List.mem_cons_of_mem _ (zin 551 rfl rfl)) ?_
  refine z_lcmp kd_U_find_23 ?_
  refine z_if_ge (tgt := 28) kd_U_find_24 (by decide) (fun c24 => ?_) (fun c24 => ?_)
  · have hod : ¬ sopV n 0 a F T gw (fun v => v) < 2 := fun q => absurd ((lg_cmp_ge _ _).mp c24) (Int64.not_le.mpr q)
    have h0 : 0 < n := by
      rcases Nat.eq_zero_or_pos n with q | q
      · subst q; exact absurd (show (0 : Int64) < 2 by decide) hod
      · exact q
    refine z_aload_n kd_U_find_28 0 rfl ?_
    refine z_get kd_U_find_29 (kf_U_23 _) x23_3 rfl ?_
    refine z_aload_n kd_U_find_32 0 rfl ?_
    refine z_get kd_U_find_33 (kf_U_15 _) x23_3 rfl ?_
    refine z_callV (a := 7) (As := [_]) kd_U_find_36 (kg_U_48 _) hS_3.1 kc_G (c_G_fillBothWaysS ht0 ht1 ht3 hN_3 ⟨_, _, hS_3⟩) rfl rfl (Nat.le_of_ble_eq_true rfl) ⟨Nat.le_of_ble_eq_true rfl, Nat.le_of_ble_eq_true rfl⟩ ⟨Nat.le_of_ble_eq_true rfl, Nat.le_of_ble_eq_true rfl⟩ ?_
    rintro _ _ σ_4 ⟨hv, rfl, ⟨M_4, hS_4, hM_4⟩, q_4⟩
    cases hv
    refine z_eq (st' := []) rfl rfl rfl rfl ?_
    have hN_4 := hN_3.fr q_4 (by omega)
    have h5_4 := (q_4 5 (by omega)).trans h5_3
    have h6_4 := (q_4 6 (by omega)).trans h6_3
    have x19_4 := (q_4 19 (by omega)).trans x19_3
    have x23_4 := (q_4 23 (by omega)).trans x23_3
    have x24_4 := (q_4 24 (by omega)).trans x24_3
    refine z_aload_n kd_U_find_39 0 rfl ?_
    refine z_get kd_U_find_40 (kf_U_23 _) x23_4 rfl ?_
    refine z_iconst (v := 0) kd_U_find_43 (by decide) ?_
    refine z_callV (a := 7) (As := [_]) kd_U_find_44 (kg_U_54 _) hS_4.1 kc_G (c_G_strikeS ht0 ht1 ht3 (x := 0) hn h0 ⟨_, hS_4, hM_4⟩) rfl rfl (Nat.le_of_ble_eq_true rfl) ⟨Nat.le_of_ble_eq_true rfl, Nat.le_of_ble_eq_true rfl⟩ ⟨Nat.le_of_ble_eq_true rfl, Nat.le_of_ble_eq_true rfl⟩ ?_
    rintro _ _ σ_5 ⟨hv, rfl, ⟨M_5, hS_5, hM_5⟩, q_5⟩
    cases hv
    refine z_eq (st' := []) rfl rfl rfl rfl ?_
    have hN_5 := hN_4.fr q_5 (by omega)
    have h5_5 := (q_5 5 (by omega)).trans h5_4
    have h6_5 := (q_5 6 (by omega)).trans h6_4
    have x19_5 := (q_5 19 (by omega)).trans x19_4
    have x23_5 := (q_5 23 (by omega)).trans x23_4
    have x24_5 := (q_5 24 (by omega)).trans x24_4
    refine z_aload_n kd_U_find_47 0 rfl ?_
    refine z_callV (a := 23) (As := []) kd_U_find_48 (kg_U_58 _) x23_5 kc_U (c_U_reduceAll ht0 ht1 ht3 (x := 0) hn x23_5 hS_5) rfl rfl (Nat.le_of_ble_eq_true rfl) ⟨Nat.le_of_ble_eq_true rfl, Nat.le_of_ble_eq_true rfl⟩ ⟨Nat.le_of_ble_eq_true rfl, Nat.le_of_ble_eq_true rfl⟩ ?_
    rintro _ _ σ_6 ⟨hv, rfl, hS_6, q_6⟩
    cases hv
    refine z_eq (st' := []) rfl rfl rfl rfl ?_
    have hN_6 := hN_5.fr q_6 (by omega)
    have h5_6 := (q_6 5 (by omega)).trans h5_5
    have h6_6 := (q_6 6 (by omega)).trans h6_5
    have x19_6 := (q_6 19 (by omega)).trans x19_5
    have x23_6 := (q_6 23 (by omega)).trans x23_5
    have x24_6 := (q_6 24 (by omega)).trans x24_5
    refine z_iconst (v := 0) kd_U_find_51 (by decide) ?_
    refine z_istore_n (lv' := [(1, .int _), (0, .ref (b + 23))]) kd_U_find_52 (by decide) rfl ?_
    refine z_pick (lv' := [(1, .int (nI 0)), (0, .ref (b + 23))]) [0, 1] rfl ?_
    unfold gpV gpO
    rw [if_neg hod]
    exact l_U_fg ht0 ht1 ht3 hn n 0 _ _ _ _ _ _ (by omega) ⟨_, _, _, h5_6, h6_6⟩ hS_6 x23_6 x24_6 ((((((F2.rf.tr q_1 (by omega)).tr q_2 (by omega)).tr q_3 (by omega)).tr q_4 (by omega)).tr q_5 (by omega)).tr q_6 (by omega)) (fgL_agr n 0 _ _ _ (by omega) (agr.raOE n 0 _ _ (by omega) hM_5))
  · have hod : sopV n 0 a F T gw (fun v => v) < 2 := Int64.not_le.mp (fun q => c24 ((lg_cmp_ge _ _).mpr q))
    exact z_vret kd_U_find_27 rfl (Nat.le_of_ble_eq_true rfl) (Nat.le_of_ble_eq_true rfl) ⟨rfl, rfl, ⟨_, _, _, h5_3, h6_3⟩, ⟨_, _, hS_3⟩, ⟨_, _, _, by unfold gpV gpO; rw [if_pos hod]; exact x23_3⟩, by unfold gpV gpO; rw [if_pos hod]; exact x24_3, (((F2.rf.tr q_1 (by omega)).tr q_2 (by omega)).tr q_3 (by omega))⟩
