def wtN (F W : Nat → Nat) (x : Nat) : Nat → Nat → Nat → Nat
  | 0, _, s => s
  | m + 1, k, s => wtN F W x m (k + 1) (s + (if F k = x then W k else 0))
/-- the sum of the weights of the arcs at x -/
def wtV (F W : Nat → Nat) (a x : Nat) : Nat := wtN F W x a 0 0
theorem wtN_le {F W : Nat → Nat} {x a : Nat} (hw : ∀ k, k < a → W k ≤ 9) : ∀ m k s, k + m ≤ a → wtN F W x m k s ≤ s + 9 * m := by
  intro m
  induction m with
  | zero => intro k s _; exact Nat.le_refl _
  | succ m ih =>
    intro k s h
    have h1 := ih (k + 1) (s + (if F k = x then W k else 0)) (by omega)
    have h2 := hw k (by omega)
    unfold wtN
    by_cases c : F k = x
    · rw [if_pos c] at h1 ⊢; omega
    · rw [if_neg c] at h1 ⊢; omega
theorem wtV_le {F W : Nat → Nat} {x a : Nat} (ha : a ≤ 30) (hw : ∀ k, k < a → W k ≤ 9) : wtV F W a x ≤ 270 := by
  have := wtN_le (F := F) (x := x) hw a 0 0 (by omega)
  unfold wtV; omega
theorem woL_N {F W : Nat → Nat} {w : Nat → Int32} {x a : Nat} (hw : ∀ k, k < a → w k = nI (W k)) : ∀ m k s, k + m ≤ a → woL F w x m k (nI s) = nI (wtN F W x m k s) := by
  intro m
  induction m with
  | zero => intro k s _; rfl
  | succ m ih =>
    intro k s h
    unfold woL wtN
    by_cases c : F k = x
    · rw [if_pos c, if_pos c, hw k (by omega), nI_add]; exact ih _ _ (by omega)
    · rw [if_neg c, if_neg c]; exact (congrArg (woL F w x m (k + 1)) (nI_add s 0)).trans (ih _ _ (by omega))
theorem wiL_N {F W : Nat → Nat} {w : Nat → Int32} {x a : Nat} (hw : ∀ k, k < a → w k = nI (W k)) : ∀ m k s, k + m ≤ a → wiL F w x m k (nI s) = nI (wtN F W x m k s) := by
  intro m
  induction m with
  | zero => intro k s _; rfl
  | succ m ih =>
    intro k s h
    unfold wiL wtN
    by_cases c : F k = x
    · rw [if_pos c, if_pos c, hw k (by omega), nI_add]; exact ih _ _ (by omega)
    · rw [if_neg c, if_neg c]; exact (congrArg (wiL F w x m (k + 1)) (nI_add s 0)).trans (ih _ _ (by omega))
def trL (F T W : Nat → Nat) (n a : Nat) : Nat → Nat → (Nat → Nat → Int64) → Int64 → Int64
  | 0, _, M, o => o * dtN n (strM n (F 0) M)
  | m + 1, v, M, o => if wtV F W a v = wtV T W a v then trL F T W n a m (v + 1) (if wtV F W a v = 0 then strM n v M else M) (o * fcN (wtV F W a v - 1)) else 0
def trV (F T W : Nat → Nat) (w : Nat → Int32) (n a : Nat) : Int64 := if a = 0 then 0 else trL F T W n a n 0 (foM F T w Z0 a) 1
set_option maxHeartbeats 4000000 in
set_option maxRecDepth 100000 in
theorem l_T_tours {l : Launch} {D : va_G} {tys : List (ClassId × FieldType)} {b N : Nat} {σ0 : Nat → Option va_E} {cI cJ cA : ClassId} (ht0 : tys[0]? = some (cI, .int)) (ht1 : tys[1]? = some (cJ, .long)) (ht3 : tys[3]? = some (cA, .array .long)) {n a : Nat} {gf gt gw : Nat → Int32} {F T : Nat → Nat} {W : Nat → Nat} (hw : ∀ k, k < a → gw k = nI (W k) ∧ W k ≤ 9) {v19 w19 : Value} (ha0 : 0 < a) {val : Int64} : ∀ (m v : Nat) (σ : Nat → Option va_E) (M : Nat → Nat → Int64) (o : Int64), v + m = n → NS b cI σ n a gf gt gw F T → GN b cA cJ σ n M → σ 19 = some (.inr (4, [.ref (b + 1), .ref (b + 5), .ref (b + 7), v19, w19])) → Fr 7 18 σ0 σ → trL F T W n a m v M o = val → Z l D kCl tys (kh_T_toursAlongAll :: zT) kNw ky_T_toursAlongAll.cls ky_T_toursAlongAll.name kb_T_toursAlongAll 5 (some FieldType.long) { frames := 3, cells := 0, slots := 0, locals := 130 } b (zFi D kCl b 0 0 (fun oc N' σ' => oc = .returned (some (.long val)) ∧ N' = N ∧ GA b cA cJ σ' ∧ Fr 7 18 σ0 σ')) 0 0 N (σ) 27 [(3, .int (nI v)), (1, .long o), (0, .ref (b + 19))] [] := by
  intro m
  induction m with
  | zero =>
    intro v σ M o hvm hN hG h19 hF hv
    obtain rfl : v = n := by omega
    obtain ⟨M0, hS0, hM0⟩ := hG
    have hn := hN.hn
    have ha := hN.ha
    have hv : o * dtN v (strM v (F 0) M) = val := hv
    subst hv
    refine z_iload_n kd_T_toursAlongAll_27 0 rfl ?_
    refine z_aload_n kd_T_toursAlongAll_28 2 rfl ?_
    refine z_get kd_T_toursAlongAll_29 (kf_T_9 _) h19 rfl ?_
    refine z_get kd_T_toursAlongAll_32 (kf_T_23 _) hN.h1 rfl ?_
    refine z_icmp_ge (tgt := 92) kd_T_toursAlongAll_35 (by decide) (fun c35 => ?_) (fun c35 => ?_)
    · refine z_aload_n kd_T_toursAlongAll_92 2 rfl ?_
      refine z_get kd_T_toursAlongAll_93 (kf_T_19 _) h19 rfl ?_
      refine z_aload_n kd_T_toursAlongAll_96 2 rfl ?_
      refine z_get kd_T_toursAlongAll_97 (kf_T_9 _) h19 rfl ?_
      refine z_get kd_T_toursAlongAll_100 (kf_T_54 _) hN.h1 rfl ?_
      refine z_iconst (v := 0) kd_T_toursAlongAll_103 (by decide) ?_
      refine z_iald (t0 := 0) kd_T_toursAlongAll_104 (by assumption) hN.h2 (show vp_in (nI 0) 30 from vp_in_nI (by decide) (by decide)) ?_
      refine z_topi (hN.hft 0 ha0).1 ?_
      refine z_callV (a := 7) (As := [_]) kd_T_toursAlongAll_105 (kg_T_67 _) hS0.1 kc_G (c_G_strikeS ht0 ht1 ht3 (x := F 0) hn (hN.ft 0 ha0).1 ⟨_, hS0, hM0⟩) rfl rfl (Nat.le_of_ble_eq_true rfl) ⟨Nat.le_of_ble_eq_true rfl, Nat.le_of_ble_eq_true rfl⟩ ⟨Nat.le_of_ble_eq_true rfl, Nat.le_of_ble_eq_true rfl⟩ ?_
      rintro _ _ σ_1 ⟨hv, rfl, ⟨M_1, hS_1, hM_1⟩, q_1⟩
      cases hv
      refine z_eq (st' := []) rfl rfl rfl rfl ?_
      have hN_1 := hN.fr q_1 (by omega)
      have x19_1 := (q_1 19 (by omega)).trans h19
      refine z_lload_n kd_T_toursAlongAll_108 1 rfl ?_
      refine z_aload_n kd_T_toursAlongAll_109 2 rfl ?_
      refine z_get kd_T_toursAlongAll_110 (kf_T_19 _) x19_1 rfl ?_
      refine z_callV (a := 7) (As := []) kd_T_toursAlongAll_113 (kg_T_70 _) hS_1.1 kc_G (c_G_determinantS ht0 ht1 ht3 (n := v) hn ⟨_, hS_1, hM_1⟩) rfl rfl (Nat.le_of_ble_eq_true rfl) ⟨Nat.le_of_ble_eq_true rfl, Nat.le_of_ble_eq_true rfl⟩ ⟨Nat.le_of_ble_eq_true rfl, Nat.le_of_ble_eq_true rfl⟩ ?_
      rintro _ _ σ_2 ⟨hv, rfl, ⟨s_2, M_2, hS_2⟩, q_2⟩
      cases hv
      refine z_eq (st' := [_, _]) rfl rfl rfl rfl ?_
      have hN_2 := hN_1.fr q_2 (by omega)
      have x19_2 := (q_2 19 (by omega)).trans x19_1
      refine z_lmul kd_T_toursAlongAll_116 ?_
      exact z_lret kd_T_toursAlongAll_117 rfl (Nat.le_of_ble_eq_true rfl) (Nat.le_of_ble_eq_true rfl) ⟨rfl, rfl, ⟨_, _, hS_2⟩, (Fr.tr (Fr.tr hF (q_1.wide (by omega) (by omega))) (q_2.wide (by omega) (by omega)))⟩
    · exact absurd (nI_le (Nat.le_refl v) (by omega)) c35
  | succ m ih =>
    intro v σ M o hvm hN hG h19 hF hv
    have hlt : v < n := by omega
    obtain ⟨M0, hS0, hM0⟩ := hG
    have hn := hN.hn
    have ha := hN.ha
    have l1 : wtV F W a v ≤ 270 := wtV_le ha (fun k hk => (hw k hk).2)
    have l2 : wtV T W a v ≤ 270 := wtV_le ha (fun k hk => (hw k hk).2)
    have e1 : woL F gw v a 0 0 = nI (wtV F W a v) := woL_N (fun k hk => (hw k hk).1) a 0 0 (by omega)
    have e2 : wiL T gw v a 0 0 = nI (wtV T W a v) := wiL_N (fun k hk => (hw k hk).1) a 0 0 (by omega)
    unfold trL at hv
    refine z_iload_n kd_T_toursAlongAll_27 0 rfl ?_
    refine z_aload_n kd_T_toursAlongAll_28 2 rfl ?_
    refine z_get kd_T_toursAlongAll_29 (kf_T_9 _) h19 rfl ?_
    refine z_get kd_T_toursAlongAll_32 (kf_T_23 _) hN.h1 rfl ?_
    refine z_icmp_ge (tgt := 92) kd_T_toursAlongAll_35 (by decide) (fun c35 => ?_) (fun c35 => ?_)
    · exact absurd c35 (nI_ge hlt (by omega))
    · refine z_aload_n kd_T_toursAlongAll_38 2 rfl ?_
      refine z_get kd_T_toursAlongAll_39 (kf_T_9 _) h19 rfl ?_
      refine z_iload_n kd_T_toursAlongAll_42 0 rfl ?_
      refine z_V1 (a := 1) (As := [_]) kd_T_toursAlongAll_43 (kg_T_89 _) hN.h1 kc_N (c_N_weightOutOf ht0 ht1 ht3 hN (x := v) (by omega)) rfl rfl (Nat.le_of_ble_eq_true rfl) ⟨Nat.le_of_ble_eq_true rfl, Nat.le_of_ble_eq_true rfl⟩ ⟨Nat.le_of_ble_eq_true rfl, Nat.le_of_ble_eq_true rfl⟩ ?_
      refine z_topi e1 ?_
      refine z_istore (lv' := [(4, .int _), (3, .int _), (1, .long _), (0, .ref (b + 19))]) kd_T_toursAlongAll_46 (by decide) rfl ?_
      refine z_iload kd_T_toursAlongAll_48 0 rfl ?_
      refine z_aload_n kd_T_toursAlongAll_50 3 rfl ?_
      refine z_get kd_T_toursAlongAll_51 (kf_T_9 _) h19 rfl ?_
      refine z_iload_n kd_T_toursAlongAll_54 1 rfl ?_
      refine z_V1 (a := 1) (As := [_]) kd_T_toursAlongAll_55 (kg_T_93 _) hN.h1 kc_N (c_N_weightInto ht0 ht1 ht3 hN (x := v) (by omega)) rfl rfl (Nat.le_of_ble_eq_true rfl) ⟨Nat.le_of_ble_eq_true rfl, Nat.le_of_ble_eq_true rfl⟩ ⟨Nat.le_of_ble_eq_true rfl, Nat.le_of_ble_eq_true rfl⟩ ?_
      refine z_topi e2 ?_
      refine z_icmp_eq (tgt := 63) kd_T_toursAlongAll_58 (by decide) (fun c58 => ?_) (fun c58 => ?_)
      · rw [if_pos ((nI_eq (by omega) (by omega)).mp c58)] at hv
        refine z_iload kd_T_toursAlongAll_63 0 rfl ?_
        refine z_if_ne (tgt := 76) kd_T_toursAlongAll_65 (by decide) (fun c65 => ?_) (fun c65 => ?_)
        · rw [if_neg (fun q => c65 (by rw [q]; rfl))] at hv
          refine z_lload_n kd_T_toursAlongAll_76 2 rfl ?_
          refine z_iload kd_T_toursAlongAll_77 0 rfl ?_
          refine z_iconst (v := 1) kd_T_toursAlongAll_79 (by decide) ?_
          refine z_isub kd_T_toursAlongAll_80 ?_
          refine z_S1 (As := [_]) kd_T_toursAlongAll_81 (kg_T_96 _) (c_T_factorial (o := wtV F W a v) (by omega)) rfl rfl (Nat.le_of_ble_eq_true rfl) ⟨Nat.le_of_ble_eq_true rfl, Nat.le_of_ble_eq_true rfl⟩ ⟨Nat.le_of_ble_eq_true rfl, Nat.le_of_ble_eq_true rfl⟩ ?_
          refine z_lmul kd_T_toursAlongAll_84 ?_
          refine z_lstore_n (lv' := [(1, .long _), (4, .int _), (3, .int _), (0, .ref (b + 19))]) kd_T_toursAlongAll_85 (by decide) rfl ?_
          refine z_iinc (v := (nI (v + 1))) (lv' := [(3, .int _), (1, .long _), (4, .int _), (0, .ref (b + 19))]) kd_T_toursAlongAll_86 2 rfl (nI_1 _) (by decide) rfl ?_
          refine z_goto (tgt := 27) kd_T_toursAlongAll_89 (by decide) ?_
          refine z_pick (lv' := [(3, .int (nI (v + 1))), (1, .long _), (0, .ref (b + 19))]) [0, 1, 3] rfl ?_
          exact ih (v + 1) _ _ _ (by omega) hN ⟨_, hS0, hM0⟩ h19 hF hv
        · have hz : wtV F W a v = 0 := by rcases Nat.eq_zero_or_pos (wtV F W a v) with q | q; exact q; exact absurd c65 (nI_ne0 q (by omega))
          rw [if_pos hz] at hv
          refine z_aload_n kd_T_toursAlongAll_68 3 rfl ?_
          refine z_get kd_T_toursAlongAll_69 (kf_T_19 _) h19 rfl ?_
          refine z_iload_n kd_T_toursAlongAll_72 1 rfl ?_
          refine z_callV (a := 7) (As := [_]) kd_T_toursAlongAll_73 (kg_T_67 _) hS0.1 kc_G (c_G_strikeS ht0 ht1 ht3 (x := v) hn hlt ⟨_, hS0, hM0⟩) rfl rfl (Nat.le_of_ble_eq_true rfl) ⟨Nat.le_of_ble_eq_true rfl, Nat.le_of_ble_eq_true rfl⟩ ⟨Nat.le_of_ble_eq_true rfl, Nat.le_of_ble_eq_true rfl⟩ ?_
          rintro _ _ σ_1 ⟨hv, rfl, ⟨M_1, hS_1, hM_1⟩, q_1⟩
          cases hv
          refine z_eq (st' := []) rfl rfl rfl rfl ?_
          have hN_1 := hN.fr q_1 (by omega)
          have x19_1 := (q_1 19 (by omega)).trans h19
          refine z_lload_n kd_T_toursAlongAll_76 2 rfl ?_
          refine z_iload kd_T_toursAlongAll_77 0 rfl ?_
          refine z_iconst (v := 1) kd_T_toursAlongAll_79 (by decide) ?_
          refine z_isub kd_T_toursAlongAll_80 ?_
          refine z_S1 (As := [_]) kd_T_toursAlongAll_81 (kg_T_96 _) (c_T_factorial (o := wtV F W a v) (by omega)) rfl rfl (Nat.le_of_ble_eq_true rfl) ⟨Nat.le_of_ble_eq_true rfl, Nat.le_of_ble_eq_true rfl⟩ ⟨Nat.le_of_ble_eq_true rfl, Nat.le_of_ble_eq_true rfl⟩ ?_
          refine z_lmul kd_T_toursAlongAll_84 ?_
          refine z_lstore_n (lv' := [(1, .long _), (4, .int _), (3, .int _), (0, .ref (b + 19))]) kd_T_toursAlongAll_85 (by decide) rfl ?_
          refine z_iinc (v := (nI (v + 1))) (lv' := [(3, .int _), (1, .long _), (4, .int _), (0, .ref (b + 19))]) kd_T_toursAlongAll_86 2 rfl (nI_1 _) (by decide) rfl ?_
          refine z_goto (tgt := 27) kd_T_toursAlongAll_89 (by decide) ?_
          refine z_pick (lv' := [(3, .int (nI (v + 1))), (1, .long _), (0, .ref (b + 19))]) [0, 1, 3] rfl ?_
          exact ih (v + 1) _ _ _ (by omega) hN_1 ⟨_, hS_1, hM_1⟩ x19_1 (Fr.tr hF (q_1.wide (by omega) (by omega))) hv
      · rw [if_neg (fun q => c58 (by rw [q]))] at hv
        subst hv
        refine z_lconst (v := 0) kd_T_toursAlongAll_61 (by decide +kernel) ?_
        exact z_lret kd_T_toursAlongAll_62 rfl (Nat.le_of_ble_eq_true rfl) (Nat.le_of_ble_eq_true rfl) ⟨rfl, rfl, ⟨_, _, hS0⟩, hF⟩
set_option maxHeartbeats 4000000 in
set_option maxRecDepth 100000 in
theorem c_T_toursAlongAll {l : Launch} {D : va_G} {tys : List (ClassId × FieldType)} {b N : Nat} {σ : Nat → Option va_E} {cI cJ cA : ClassId} (ht0 : tys[0]? = some (cI, .int)) (ht1 : tys[1]? = some (cJ, .long)) (ht3 : tys[3]? = some (cA, .array .long)) {n a : Nat} {gf gt gw : Nat → Int32} {F T : Nat → Nat} (hN : NS b cI σ n a gf gt gw F T) {v19 w19 : Value} (h19 : σ 19 = some (.inr (4, [.ref (b + 1), .ref (b + 5), .ref (b + 7), v19, w19]))) (hA : GA b cA cJ σ) {W : Nat → Nat} (hw : ∀ k, k < a → gw k = nI (W k) ∧ W k ≤ 9) : zM l D kCl tys kNw b ky_T_toursAlongAll (kh_T_toursAlongAll :: zT) 3 130 0 0 [.ref (b + 19)] N σ ((fun oc N' σ' => oc = .returned (some (.long (trV F T W gw n a))) ∧ N' = N ∧ GA b cA cJ σ' ∧ Fr 7 18 σ σ')) := by
  refine zM.of (by decide +kernel) rfl (Nat.le_of_ble_eq_true rfl) ?_
  refine z_pick (lv' := [(0, .ref (b + 19))]) [0] rfl ?_
  obtain ⟨s0, M0, hS0⟩ := hA
  have hn := hN.hn
  have ha := hN.ha
  refine z_aload_n kd_T_toursAlongAll_0 0 rfl ?_
  refine z_get kd_T_toursAlongAll_1 (kf_T_9 _) h19 rfl ?_
  refine z_get kd_T_toursAlongAll_4 (kf_T_47 _) hN.h1 rfl ?_
  refine z_if_ne (tgt := 12) kd_T_toursAlongAll_7 (by decide) (fun c7 => ?_) (fun c7 => ?_)
  · have hne : ¬ a = 0 := fun q => c7 (by rw [q]; rfl)
    refine z_aload_n kd_T_toursAlongAll_12 0 rfl ?_
    refine z_get kd_T_toursAlongAll_13 (kf_T_19 _) h19 rfl ?_
    refine z_aload_n kd_T_toursAlongAll_16 0 rfl ?_
    refine z_get kd_T_toursAlongAll_17 (kf_T_9 _) h19 rfl ?_
    refine z_callV (a := 7) (As := [_]) kd_T_toursAlongAll_20 (kg_T_78 _) hS0.1 kc_G (c_G_fillOneWayS ht0 ht1 ht3 hN ⟨_, _, hS0⟩) rfl rfl (Nat.le_of_ble_eq_true rfl) ⟨Nat.le_of_ble_eq_true rfl, Nat.le_of_ble_eq_true rfl⟩ ⟨Nat.le_of_ble_eq_true rfl, Nat.le_of_ble_eq_true rfl⟩ ?_
    rintro _ _ σ_1 ⟨hv, rfl, ⟨M_1, hS_1, hM_1⟩, q_1⟩
    cases hv
    refine z_eq (st' := []) rfl rfl rfl rfl ?_
    have hN_1 := hN.fr q_1 (by omega)
    have x19_1 := (q_1 19 (by omega)).trans h19
    refine z_lconst (v := 1) kd_T_toursAlongAll_23 (by decide +kernel) ?_
    refine z_lstore_n (lv' := [(1, .long _), (0, .ref (b + 19))]) kd_T_toursAlongAll_24 (by decide) rfl ?_
    refine z_iconst (v := 0) kd_T_toursAlongAll_25 (by decide) ?_
    refine z_istore_n (lv' := [(3, .int _), (1, .long _), (0, .ref (b + 19))]) kd_T_toursAlongAll_26 (by decide) rfl ?_
    refine z_pick (lv' := [(3, .int (nI 0)), (1, .long 1), (0, .ref (b + 19))]) [0, 1, 2] rfl ?_
    exact l_T_tours ht0 ht1 ht3 hw (by omega) n 0 _ _ 1 (by omega) hN_1 ⟨_, hS_1, hM_1⟩ x19_1 (Fr.tr Fr.rf (q_1.wide (by omega) (by omega))) (by unfold trV; rw [if_neg hne])
  · have hz : a = 0 := by rcases Nat.eq_zero_or_pos a with q | q; exact q; exact absurd c7 (nI_ne0 q (by omega))
    refine z_lconst (v := 0) kd_T_toursAlongAll_10 (by decide +kernel) ?_
    exact z_lret kd_T_toursAlongAll_11 rfl (Nat.le_of_ble_eq_true rfl) (Nat.le_of_ble_eq_true rfl) ⟨by unfold trV; rw [if_pos hz], rfl, ⟨_, _, hS0⟩, Fr.rf⟩
