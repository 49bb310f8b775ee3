theorem frL_agr {n v : Nat} {M M' : Nat → Nat → Int64} {t : Int64} (h : agr n M M') (hv : v < n) : ∀ m j C, j + m = n → frL M v t m j C = frL M' v t m j C := by
  intro m
  induction m with
  | zero => intro j C _; rfl
  | succ m ih => intro j C hj; unfold frL; rw [h v j hv (by omega)]; exact ih _ _ (by omega)
theorem frV_agr {n v : Nat} {M M' : Nat → Nat → Int64} (h : agr n M M') (hv : v < n) (t : Int64) (C : Nat → Int64) : frV M n v t C = frV M' n v t C := frL_agr h hv n 0 C (by omega)
theorem rnI_agr {n s : Nat} {M M' : Nat → Nat → Int64} (h : agr n M M') : ∀ m v C K mv, v + m = n → rnI M n s m v C K mv = rnI M' n s m v C K mv := by
  intro m
  induction m with
  | zero => intro v C K mv _; rfl
  | succ m ih =>
    intro v C K mv hv
    unfold rnI
    rw [h v v (by omega) (by omega), frV_agr h (by omega), ih _ _ _ _ (by omega), ih _ _ _ _ (by omega)]
theorem rnO_agr {n s : Nat} {M M' : Nat → Nat → Int64} (h : agr n M M') : ∀ m S, rnO M n s m S = rnO M' n s m S := by
  intro m
  induction m with
  | zero => intro S; rfl
  | succ m ih => intro S; unfold rnO; rw [rnI_agr h _ _ _ _ _ (by omega), ih]
theorem rnV_agr {n s : Nat} {M M' : Nat → Nat → Int64} (h : agr n M M') (C K : Nat → Int64) : rnV M n s C K = rnV M' n s C K := rnO_agr h _ _
def smL (K : Nat → Int64) : Nat → Nat → Int64 → Int64
  | 0, _, s => s
  | m + 1, v, s => smL K m (v + 1) (s + K v)
def ckL (K : Nat → Int64) (s : Nat) : Nat → Nat → Int32
  | 0, _ => 1
  | m + 1, v => if v = s then ckL K s m (v + 1) else if K v = 1 then ckL K s m (v + 1) else 0
def cbX (M : Nat → Nat → Int64) (n s : Nat) (C Kt : Nat → Int64) : Nat → Nat → (Nat → Int64) → Int32
  | 0, _, Th => ckL (rnV M n s (frV M n s 1 Th) Kt).2 s n 0
  | m + 1, v, Th => if ¬ v = s ∧ M v v ≤ C v then 0 else cbX M n s C Kt m (v + 1) (vp_updL Th v (C v))
theorem cbX_agr {n s : Nat} {M M' : Nat → Nat → Int64} (h : agr n M M') (hs : s < n) (C Kt : Nat → Int64) : ∀ m v Th, v + m = n → cbX M n s C Kt m v Th = cbX M' n s C Kt m v Th := by
  intro m
  induction m with
  | zero => intro v Th _; unfold cbX; rw [frV_agr h hs, rnV_agr h]
  | succ m ih => intro v Th hv; unfold cbX; rw [h v v (by omega) (by omega), ih _ _ (by omega)]
set_option maxHeartbeats 4000000 in
set_option maxRecDepth 100000 in
theorem l_L_sm {l : Launch} {D : va_G} {tys : List (ClassId × FieldType)} {b N : Nat} {σ : Nat → Option va_E} {σ0 : Nat → Option va_E} {cI cJ cA : ClassId} (ht0 : tys[0]? = some (cI, .int)) (ht1 : tys[1]? = some (cJ, .long)) (ht3 : tys[3]? = some (cA, .array .long)) {n a : Nat} {gf gt gw : Nat → Int32} {F T : Nat → Nat} (hN : NS b cI σ n a gf gt gw F T) {s0 : Int32} {M : Nat → Nat → Int64} {C K : Nat → Int64} {R : Room} {val : Int64} (hS : GS b cA cJ σ s0 M) (h25 : σ 25 = some (.inr (7, [.ref (b + 26), .ref (b + 27), .ref (b + 28), .ref (b + 29), .ref (b + 1), .ref (b + 7)]))) (hh : σ 26 = some (.inl (cJ, 10, .inr (.inl C)))) (hk : σ 27 = some (.inl (cJ, 10, .inr (.inl K)))) (hF : F2 7 18 26 27 σ0 σ) : ∀ (m v : Nat) (s : Int64), v + m = n → smL K m v s = val → Z l D kCl tys (kh_L_settleAll :: zT) kNw ky_L_settleAll.cls ky_L_settleAll.name kb_L_settleAll 5 (some FieldType.long) R b (zFi D kCl b 0 0 (fun oc N' σ' => oc = .returned (some (.long (val))) ∧ N' = N ∧ GA b cA cJ σ' ∧ σ' 26 = some (.inl (cJ, 10, .inr (.inl C))) ∧ σ' 27 = some (.inl (cJ, 10, .inr (.inl K))) ∧ F2 7 18 26 27 σ0 σ')) 0 0 N (σ) 29 [(4, .int (nI v)), (2, .long s), (0, .ref (b + 25))] [] := by
  have hn := hN.hn
  intro m
  induction m with
  | zero =>
    intro v s hcm hv
    obtain rfl : v = n := by omega
    have hv : s = val := hv
    subst hv
    refine z_iload kd_L_settleAll_29 0 rfl ?_
    refine z_aload_n kd_L_settleAll_31 2 rfl ?_
    refine z_get kd_L_settleAll_32 (kf_L_24 _) h25 rfl ?_
    refine z_get kd_L_settleAll_35 (kf_L_42 _) hN.h1 rfl ?_
    refine z_icmp_ge (tgt := 57) kd_L_settleAll_38 (by decide) (fun c38 => ?_) (fun c38 => ?_)
    · refine z_lload_n kd_L_settleAll_57 1 rfl ?_
      exact z_lret kd_L_settleAll_58 rfl (Nat.le_of_ble_eq_true rfl) (Nat.le_of_ble_eq_true rfl) ⟨rfl, rfl, ⟨_, _, hS⟩, hh, hk, hF⟩
    · exact absurd (nI_le (Nat.le_refl v) (by omega)) c38
  | succ m ih =>
    intro v s hcm hv
    have hlt : v < n := by omega
    refine z_iload kd_L_settleAll_29 0 rfl ?_
    refine z_aload_n kd_L_settleAll_31 2 rfl ?_
    refine z_get kd_L_settleAll_32 (kf_L_24 _) h25 rfl ?_
    refine z_get kd_L_settleAll_35 (kf_L_42 _) hN.h1 rfl ?_
    refine z_icmp_ge (tgt := 57) kd_L_settleAll_38 (by decide) (fun c38 => ?_) (fun c38 => ?_)
    · exact absurd c38 (nI_ge hlt (by omega))
    · refine z_lload_n kd_L_settleAll_41 1 rfl ?_
      refine z_aload_n kd_L_settleAll_42 2 rfl ?_
      refine z_get kd_L_settleAll_43 (kf_L_15 _) h25 rfl ?_
      refine z_iload kd_L_settleAll_46 0 rfl ?_
      refine z_laldN (t0 := 1) kd_L_settleAll_48 (by assumption) hk (by omega) (by decide) ?_
      refine z_ladd kd_L_settleAll_49 ?_
      refine z_lstore_n (lv' := [(2, .long _), (4, .int _), (0, .ref (b + 25))]) kd_L_settleAll_50 (by decide) rfl ?_
      refine z_iinc (v := (nI (v + 1))) (lv' := [(4, .int _), (2, .long _), (0, .ref (b + 25))]) kd_L_settleAll_51 1 rfl (nI_1 _) (by decide) rfl ?_
      refine z_goto (tgt := 29) kd_L_settleAll_54 (by decide) ?_
      refine z_pick (lv' := [(4, .int (nI (v + 1))), (2, .long _), (0, .ref (b + 25))]) [0, 1, 2] rfl ?_
      exact ih (v + 1) _ (by omega) hv
set_option maxHeartbeats 4000000 in
set_option maxRecDepth 100000 in
theorem c_L_settleAll {l : Launch} {D : va_G} {tys : List (ClassId × FieldType)} {b N : Nat} {σ : Nat → Option va_E} {cI cJ cA : ClassId} (ht0 : tys[0]? = some (cI, .int)) (ht1 : tys[1]? = some (cJ, .long)) (ht3 : tys[3]? = some (cA, .array .long)) {n a : Nat} {gf gt gw : Nat → Int32} {F T : Nat → Nat} (hN : NS b cI σ n a gf gt gw F T) (hA : GA b cA cJ σ) {sk : Nat} (hsk : sk < n) {C K : Nat → Int64} (h25 : σ 25 = some (.inr (7, [.ref (b + 26), .ref (b + 27), .ref (b + 28), .ref (b + 29), .ref (b + 1), .ref (b + 7)]))) (hh : σ 26 = some (.inl (cJ, 10, .inr (.inl C)))) (hk : σ 27 = some (.inl (cJ, 10, .inr (.inl K)))) : zM l D kCl tys kNw b ky_L_settleAll (kh_L_settleAll :: zT) 3 130 0 0 [.ref (b + 25), .int (nI sk)] N σ ((fun oc N' σ' => oc = .returned (some (.long (smL (rnV (fbM F T gw Z0 a) n sk C K).2 n 0 0))) ∧ N' = N ∧ GA b cA cJ σ' ∧ σ' 26 = some (.inl (cJ, 10, .inr (.inl (rnV (fbM F T gw Z0 a) n sk C K).1))) ∧ σ' 27 = some (.inl (cJ, 10, .inr (.inl (rnV (fbM F T gw Z0 a) n sk C K).2))) ∧ F2 7 18 26 27 σ σ')) := by
  refine zM.of (by decide +kernel) rfl (Nat.le_of_ble_eq_true rfl) ?_
  refine z_pick (lv' := [(0, .ref (b + 25)), (1, .int (nI sk))]) [0, 1] rfl ?_
  obtain ⟨s0, M0, hS0⟩ := hA
  have hn := hN.hn
  have ha := hN.ha
  refine z_aload_n kd_L_settleAll_0 0 rfl ?_
  refine z_get kd_L_settleAll_1 (kf_L_28 _) h25 rfl ?_
  refine z_aload_n kd_L_settleAll_4 0 rfl ?_
  refine z_get kd_L_settleAll_5 (kf_L_24 _) h25 rfl ?_
  refine z_callV (a := 7) (As := [_]) kd_L_settleAll_8 (kg_L_32 _) hS0.1 kc_G (c_G_fillBothWaysS ht0 ht1 ht3 hN ⟨_, _, hS0⟩) rfl rfl (Nat.le_of_ble_eq_true rfl) ⟨Nat.le_of_ble_eq_true rfl, Nat.le_of_ble_eq_true rfl⟩ ⟨Nat.le_of_ble_eq_true rfl, Nat.le_of_ble_eq_true rfl⟩ ?_
  rintro _ _ σ_1 ⟨hv, rfl, ⟨M_1, hS_1, hM_1⟩, q_1⟩
  cases hv
  refine z_eq (st' := []) rfl rfl rfl rfl ?_
  have hN_1 := hN.fr q_1 (by omega)
  have x25_1 := (q_1 25 (by omega)).trans h25
  have x26_1 := (q_1 26 (by omega)).trans hh
  have x27_1 := (q_1 27 (by omega)).trans hk
  refine z_aload_n kd_L_settleAll_11 0 rfl ?_
  refine z_aload_n kd_L_settleAll_12 0 rfl ?_
  refine z_get kd_L_settleAll_13 (kf_L_9 _) x25_1 rfl ?_
  refine z_aload_n kd_L_settleAll_16 0 rfl ?_
  refine z_get kd_L_settleAll_17 (kf_L_15 _) x25_1 rfl ?_
  refine z_iload_n kd_L_settleAll_20 1 rfl ?_
  refine z_callV (a := 25) (As := [_, _, _]) kd_L_settleAll_21 (kg_L_38 _) x25_1 kc_L (c_L_run26 ht0 ht1 ht3 hN_1 hS_1 hsk x25_1 x26_1 x27_1) rfl rfl (Nat.le_of_ble_eq_true rfl) ⟨Nat.le_of_ble_eq_true rfl, Nat.le_of_ble_eq_true rfl⟩ ⟨Nat.le_of_ble_eq_true rfl, Nat.le_of_ble_eq_true rfl⟩ ?_
  rintro _ _ σ_2 ⟨hv, rfl, x26_2, x27_2, q_2⟩
  cases hv
  refine z_eq (st' := []) rfl rfl rfl rfl ?_
  have hN_2 := hN_1.fr q_2 (by omega)
  have hS_2 := hS_1.fr q_2 (by omega)
  have x25_2 := (q_2 25 (by omega)).trans x25_1
  refine z_lconst (v := 0) kd_L_settleAll_24 (by decide +kernel) ?_
  refine z_lstore_n (lv' := [(2, .long _), (0, .ref (b + 25)), (1, .int _)]) kd_L_settleAll_25 (by decide) rfl ?_
  refine z_iconst (v := 0) kd_L_settleAll_26 (by decide) ?_
  refine z_istore (lv' := [(4, .int _), (2, .long _), (0, .ref (b + 25)), (1, .int _)]) kd_L_settleAll_27 (by decide) rfl ?_
  refine z_pick (lv' := [(4, .int (nI 0)), (2, .long 0), (0, .ref (b + 25))]) [0, 1, 2] rfl ?_
  rw [← rnV_agr hM_1]
  exact l_L_sm ht0 ht1 ht3 hN_2 hS_2 x25_2 x26_2 x27_2 ((F2.rf.tr q_1 (by omega)).tr q_2 (by omega)) n 0 0 (by omega) rfl
set_option maxHeartbeats 4000000 in
set_option maxRecDepth 100000 in
theorem l_L_ck {l : Launch} {D : va_G} {tys : List (ClassId × FieldType)} {b N : Nat} {σ : Nat → Option va_E} {σ0 : Nat → Option va_E} {cI cJ cA : ClassId} (ht0 : tys[0]? = some (cI, .int)) (ht1 : tys[1]? = some (cJ, .long)) (ht3 : tys[3]? = some (cA, .array .long)) {n a : Nat} {gf gt gw : Nat → Int32} {F T : Nat → Nat} (hN : NS b cI σ n a gf gt gw F T) {s0 : Int32} {M : Nat → Nat → Int64} {C K : Nat → Int64} {R : Room} {sk : Nat} (hsk : sk < n) {val : Int32} (hS : GS b cA cJ σ s0 M) (h25 : σ 25 = some (.inr (7, [.ref (b + 26), .ref (b + 27), .ref (b + 28), .ref (b + 29), .ref (b + 1), .ref (b + 7)]))) (h28 : σ 28 = some (.inl (cJ, 10, .inr (.inl C)))) (h29 : σ 29 = some (.inl (cJ, 10, .inr (.inl K)))) (hF : F2 7 18 28 29 σ0 σ) : ∀ (m v : Nat), v + m = n → ckL K sk m v = val → Z l D kCl tys (kh_L_comeBack :: zT) kNw ky_L_comeBack.cls ky_L_comeBack.name kb_L_comeBack 3 (some FieldType.boolean) R b (zFi D kCl b 0 0 (fun oc N' σ' => oc = .returned (some (.int (val))) ∧ N' = N ∧ GA b cA cJ σ' ∧ (∃ g, σ' 28 = some (.inl (cJ, 10, .inr (.inl g)))) ∧ (∃ g, σ' 29 = some (.inl (cJ, 10, .inr (.inl g)))) ∧ F2 7 18 28 29 σ0 σ')) 0 0 N (σ) 95 [(2, .int (nI v)), (0, .ref (b + 25)), (1, .int (nI sk))] [] := by
  have hn := hN.hn
  intro m
  induction m with
  | zero =>
    intro v hcm hv
    obtain rfl : v = n := by omega
    have hv : (1 : Int32) = val := hv
    subst hv
    refine z_iload_n kd_L_comeBack_95 0 rfl ?_
    refine z_aload_n kd_L_comeBack_96 1 rfl ?_
    refine z_get kd_L_comeBack_97 (kf_L_24 _) h25 rfl ?_
    refine z_get kd_L_comeBack_100 (kf_L_42 _) hN.h1 rfl ?_
    refine z_icmp_ge (tgt := 130) kd_L_comeBack_103 (by decide) (fun c103 => ?_) (fun c103 => ?_)
    · refine z_iconst (v := 1) kd_L_comeBack_130 (by decide) ?_
      exact z_zret kd_L_comeBack_131 rfl rfl (Nat.le_of_ble_eq_true rfl) (Nat.le_of_ble_eq_true rfl) ⟨rfl, rfl, ⟨_, _, hS⟩, ⟨_, h28⟩, ⟨_, h29⟩, hF⟩
    · exact absurd (nI_le (Nat.le_refl v) (by omega)) c103
  | succ m ih =>
    intro v hcm hv
    have hlt : v < n := by omega
    unfold ckL at hv
    refine z_iload_n kd_L_comeBack_95 0 rfl ?_
    refine z_aload_n kd_L_comeBack_96 1 rfl ?_
    refine z_get kd_L_comeBack_97 (kf_L_24 _) h25 rfl ?_
    refine z_get kd_L_comeBack_100 (kf_L_42 _) hN.h1 rfl ?_
    refine z_icmp_ge (tgt := 130) kd_L_comeBack_103 (by decide) (fun c103 => ?_) (fun c103 => ?_)
    · exact absurd c103 (nI_ge hlt (by omega))
    · refine z_iload_n kd_L_comeBack_106 0 rfl ?_
      refine z_iload_n kd_L_comeBack_107 2 rfl ?_
      refine z_icmp_eq (tgt := 124) kd_L_comeBack_108 (by decide) (fun c108 => ?_) (fun c108 => ?_)
      · rw [if_pos ((nI_eq (by omega) (by omega)).mp c108)] at hv
        refine z_iinc (v := (nI (v + 1))) (lv' := [(2, .int _), (0, .ref (b + 25)), (1, .int _)]) kd_L_comeBack_124 0 rfl (nI_1 _) (by decide) rfl ?_
        refine z_goto (tgt := 95) kd_L_comeBack_127 (by decide) ?_
        refine z_pick (lv' := [(2, .int (nI (v + 1))), (0, .ref (b + 25)), (1, .int (nI sk))]) [0, 1, 2] rfl ?_
        exact ih (v + 1) (by omega) hv
      · rw [if_neg (fun q => c108 (by rw [q]))] at hv
        refine z_aload_n kd_L_comeBack_111 1 rfl ?_
        refine z_get kd_L_comeBack_112 (kf_L_21 _) h25 rfl ?_
        refine z_iload_n kd_L_comeBack_115 0 rfl ?_
        refine z_laldN (t0 := 1) kd_L_comeBack_116 (by assumption) h29 (by omega) (by decide) ?_
        refine z_lconst (v := 1) kd_L_comeBack_117 (by decide +kernel) ?_
        refine z_lcmp kd_L_comeBack_118 ?_
        refine z_if_eq (tgt := 124) kd_L_comeBack_119 (by decide) (fun c119 => ?_) (fun c119 => ?_)
        · rw [if_pos ((lg_cmp_0 _ _).mp c119)] at hv
          refine z_iinc (v := (nI (v + 1))) (lv' := [(2, .int _), (0, .ref (b + 25)), (1, .int _)]) kd_L_comeBack_124 0 rfl (nI_1 _) (by decide) rfl ?_
          refine z_goto (tgt := 95) kd_L_comeBack_127 (by decide) ?_
          refine z_pick (lv' := [(2, .int (nI (v + 1))), (0, .ref (b + 25)), (1, .int (nI sk))]) [0, 1, 2] rfl ?_
          exact ih (v + 1) (by omega) hv
        · rw [if_neg (fun q => c119 ((lg_cmp_0 _ _).mpr q))] at hv
          subst hv
          refine z_iconst (v := 0) kd_L_comeBack_122 (by decide) ?_
          exact z_zret kd_L_comeBack_123 rfl rfl (Nat.le_of_ble_eq_true rfl) (Nat.le_of_ble_eq_true rfl) ⟨rfl, rfl, ⟨_, _, hS⟩, ⟨_, h28⟩, ⟨_, h29⟩, hF⟩
set_option maxHeartbeats 4000000 in
set_option maxRecDepth 100000 in
theorem l_L_cb {l : Launch} {D : va_G} {tys : List (ClassId × FieldType)} {b N : Nat} {σ0 : Nat → Option va_E} {cI cJ cA : ClassId} (ht0 : tys[0]? = some (cI, .int)) (ht1 : tys[1]? = some (cJ, .long)) (ht3 : tys[3]? = some (cA, .array .long)) {n a : Nat} {gf gt gw : Nat → Int32} {F T : Nat → Nat} {M : Nat → Nat → Int64} {C Kt : Nat → Int64} {sk : Nat} (hsk : sk < n) {val : Int32} : ∀ (m v : Nat) (σ : Nat → Option va_E) (Th : Nat → Int64), v + m = n → NS b cI σ n a gf gt gw F T → GS b cA cJ σ (nI n) (M) → σ 25 = some (.inr (7, [.ref (b + 26), .ref (b + 27), .ref (b + 28), .ref (b + 29), .ref (b + 1), .ref (b + 7)])) → σ 26 = some (.inl (cJ, 10, .inr (.inl C))) → σ 28 = some (.inl (cJ, 10, .inr (.inl Th))) → σ 29 = some (.inl (cJ, 10, .inr (.inl Kt))) → F2 7 18 28 29 σ0 σ → cbX M n sk C Kt m v Th = val → Z l D kCl tys (kh_L_comeBack :: zT) kNw ky_L_comeBack.cls ky_L_comeBack.name kb_L_comeBack 3 (some FieldType.boolean) { frames := 3, cells := 0, slots := 0, locals := 130 } b (zFi D kCl b 0 0 (fun oc N' σ' => oc = .returned (some (.int (val))) ∧ N' = N ∧ GA b cA cJ σ' ∧ (∃ g, σ' 28 = some (.inl (cJ, 10, .inr (.inl g)))) ∧ (∃ g, σ' 29 = some (.inl (cJ, 10, .inr (.inl g)))) ∧ F2 7 18 28 29 σ0 σ')) 0 0 N (σ) 13 [(2, .int (nI v)), (0, .ref (b + 25)), (1, .int (nI sk))] [] := by
  intro m
  induction m with
  | zero =>
    intro v σ Th hcm hN hS h25 hh h28 h29 hF hv
    obtain rfl : v = n := by omega
    have hn := hN.hn
    have hv : ckL (rnV M v sk (frV M v sk 1 Th) Kt).2 sk v 0 = val := hv
    refine z_iload_n kd_L_comeBack_13 0 rfl ?_
    refine z_aload_n kd_L_comeBack_14 1 rfl ?_
    refine z_get kd_L_comeBack_15 (kf_L_24 _) h25 rfl ?_
    refine z_get kd_L_comeBack_18 (kf_L_42 _) hN.h1 rfl ?_
    refine z_icmp_ge (tgt := 70) kd_L_comeBack_21 (by decide) (fun c21 => ?_) (fun c21 => ?_)
    · refine z_aload_n kd_L_comeBack_70 1 rfl ?_
      refine z_aload_n kd_L_comeBack_71 1 rfl ?_
      refine z_get kd_L_comeBack_72 (kf_L_18 _) h25 rfl ?_
      refine z_iload_n kd_L_comeBack_75 2 rfl ?_
      refine z_lconst (v := 1) kd_L_comeBack_76 (by decide +kernel) ?_
      refine z_callV (a := 25) (As := [_, _, _]) kd_L_comeBack_77 (kg_L_52 _) h25 kc_L (c_L_fire28 ht0 ht1 ht3 hN hS hsk h25 h28) rfl rfl (Nat.le_of_ble_eq_true rfl) ⟨Nat.le_of_ble_eq_true rfl, Nat.le_of_ble_eq_true rfl⟩ ⟨Nat.le_of_ble_eq_true rfl, Nat.le_of_ble_eq_true rfl⟩ ?_
      rintro _ _ σ_1 ⟨hv, rfl, x28_1, q_1⟩
      cases hv
      refine z_eq (st' := []) rfl rfl rfl rfl ?_
      have hN_1 := hN.fr q_1 (by omega)
      have hS_1 := hS.fr q_1 (by omega)
      have x25_1 := (q_1 25 (by omega)).trans h25
      have x26_1 := (q_1 26 (by omega)).trans hh
      have x29_1 := (q_1 29 (by omega)).trans h29
      refine z_aload_n kd_L_comeBack_80 1 rfl ?_
      refine z_aload_n kd_L_comeBack_81 1 rfl ?_
      refine z_get kd_L_comeBack_82 (kf_L_18 _) x25_1 rfl ?_
      refine z_aload_n kd_L_comeBack_85 1 rfl ?_
      refine z_get kd_L_comeBack_86 (kf_L_21 _) x25_1 rfl ?_
      refine z_iload_n kd_L_comeBack_89 2 rfl ?_
      refine z_callV (a := 25) (As := [_, _, _]) kd_L_comeBack_90 (kg_L_38 _) x25_1 kc_L (c_L_run28 ht0 ht1 ht3 hN_1 hS_1 hsk x25_1 x28_1 x29_1) rfl rfl (Nat.le_of_ble_eq_true rfl) ⟨Nat.le_of_ble_eq_true rfl, Nat.le_of_ble_eq_true rfl⟩ ⟨Nat.le_of_ble_eq_true rfl, Nat.le_of_ble_eq_true rfl⟩ ?_
      rintro _ _ σ_2 ⟨hv, rfl, x28_2, x29_2, q_2⟩
      cases hv
      refine z_eq (st' := []) rfl rfl rfl rfl ?_
      have hN_2 := hN_1.fr q_2 (by omega)
      have hS_2 := hS_1.fr q_2 (by omega)
      have x25_2 := (q_2 25 (by omega)).trans x25_1
      have x26_2 := (q_2 26 (by omega)).trans x26_1
      refine z_iconst (v := 0) kd_L_comeBack_93 (by decide) ?_
      refine z_istore_n (lv' := [(2, .int _), (0, .ref (b + 25)), (1, .int _)]) kd_L_comeBack_94 (by decide) rfl ?_
      refine z_pick (lv' := [(2, .int (nI 0)), (0, .ref (b + 25)), (1, .int (nI sk))]) [0, 1, 2] rfl ?_
      exact l_L_ck ht0 ht1 ht3 hN_2 hsk hS_2 x25_2 x28_2 x29_2 ((hF.tr q_1 (by omega)).tr q_2 (by omega)) v 0 (by omega) hv
    · exact absurd (nI_le (Nat.le_refl v) (by omega)) c21
  | succ m ih =>
    intro v σ Th hcm hN hS h25 hh h28 h29 hF hv
    have hlt : v < n := by omega
    have hn := hN.hn
    obtain ⟨h7, f, r, hG⟩ := id hS
    unfold cbX at hv
    refine z_iload_n kd_L_comeBack_13 0 rfl ?_
    refine z_aload_n kd_L_comeBack_14 1 rfl ?_
    refine z_get kd_L_comeBack_15 (kf_L_24 _) h25 rfl ?_
    refine z_get kd_L_comeBack_18 (kf_L_42 _) hN.h1 rfl ?_
    refine z_icmp_ge (tgt := 70) kd_L_comeBack_21 (by decide) (fun c21 => ?_) (fun c21 => ?_)
    · exact absurd c21 (nI_ge hlt (by omega))
    · refine z_iload_n kd_L_comeBack_24 0 rfl ?_
      refine z_iload_n kd_L_comeBack_25 2 rfl ?_
      refine z_icmp_eq (tgt := 52) kd_L_comeBack_26 (by decide) (fun c26 => ?_) (fun c26 => ?_)
      · rw [if_neg (fun q => q.1 ((nI_eq (by omega) (by omega)).mp c26))] at hv
        refine z_aload_n kd_L_comeBack_52 1 rfl ?_
        refine z_get kd_L_comeBack_53 (kf_L_18 _) h25 rfl ?_
        refine z_iload_n kd_L_comeBack_56 0 rfl ?_
        refine z_aload_n kd_L_comeBack_57 1 rfl ?_
        refine z_get kd_L_comeBack_58 (kf_L_9 _) h25 rfl ?_
        refine z_iload_n kd_L_comeBack_61 0 rfl ?_
        refine z_laldN (t0 := 1) kd_L_comeBack_62 (by assumption) hh (by omega) (by decide) ?_
        refine z_lastN (t0 := 1) kd_L_comeBack_63 (by assumption) h28 (by omega) (by decide) ?_
        refine z_upd (fun σ_1 x28_1 q_1 => ?_)
        have hN_1 := hN.fr q_1 (by omega)
        have hS_1 := hS.fr q_1 (by omega)
        have x25_1 := (q_1 25 (by omega)).trans h25
        have x26_1 := (q_1 26 (by omega)).trans hh
        have x29_1 := (q_1 29 (by omega)).trans h29
        refine z_iinc (v := (nI (v + 1))) (lv' := [(2, .int _), (0, .ref (b + 25)), (1, .int _)]) kd_L_comeBack_64 0 rfl (nI_1 _) (by decide) rfl ?_
        refine z_goto (tgt := 13) kd_L_comeBack_67 (by decide) ?_
        refine z_pick (lv' := [(2, .int (nI (v + 1))), (0, .ref (b + 25)), (1, .int (nI sk))]) [0, 1, 2] rfl ?_
        exact ih (v + 1) _ _ (by omega) hN_1 hS_1 x25_1 x26_1 x28_1 x29_1 (hF.tr q_1 (by omega)) hv
      · refine z_aload_n kd_L_comeBack_29 1 rfl ?_
        refine z_get kd_L_comeBack_30 (kf_L_9 _) h25 rfl ?_
        refine z_iload_n kd_L_comeBack_33 0 rfl ?_
        refine z_laldN (t0 := 1) kd_L_comeBack_34 (by assumption) hh (by omega) (by decide) ?_
        refine z_aload_n kd_L_comeBack_35 1 rfl ?_
        refine z_get kd_L_comeBack_36 (kf_L_28 _) h25 rfl ?_
        refine z_get kd_L_comeBack_39 (kf_L_48 _) hS.1 rfl ?_
        refine z_iload_n kd_L_comeBack_42 0 rfl ?_
        refine z_gal kd_L_comeBack_43 ht3 hG (by omega) ?_
        refine z_iload_n kd_L_comeBack_44 0 rfl ?_
        refine z_gld kd_L_comeBack_45 ht1 hG (by omega) (by omega) ?_
        refine z_lcmp kd_L_comeBack_46 ?_
        refine z_if_lt (tgt := 52) kd_L_comeBack_47 (by decide) (fun c47 => ?_) (fun c47 => ?_)
        · rw [if_neg (fun q => absurd ((lg_cmp_lt _ _).mp c47) (Int64.not_lt.mpr q.2))] at hv
          refine z_aload_n kd_L_comeBack_52 1 rfl ?_
          refine z_get kd_L_comeBack_53 (kf_L_18 _) h25 rfl ?_
          refine z_iload_n kd_L_comeBack_56 0 rfl ?_
          refine z_aload_n kd_L_comeBack_57 1 rfl ?_
          refine z_get kd_L_comeBack_58 (kf_L_9 _) h25 rfl ?_
          refine z_iload_n kd_L_comeBack_61 0 rfl ?_
          refine z_laldN (t0 := 1) kd_L_comeBack_62 (by assumption) hh (by omega) (by decide) ?_
          refine z_lastN (t0 := 1) kd_L_comeBack_63 (by assumption) h28 (by omega) (by decide) ?_
          refine z_upd (fun σ_2 x28_2 q_2 => ?_)
          have hN_2 := hN.fr q_2 (by omega)
          have hS_2 := hS.fr q_2 (by omega)
          have x25_2 := (q_2 25 (by omega)).trans h25
          have x26_2 := (q_2 26 (by omega)).trans hh
          have x29_2 := (q_2 29 (by omega)).trans h29
          refine z_iinc (v := (nI (v + 1))) (lv' := [(2, .int _), (0, .ref (b + 25)), (1, .int _)]) kd_L_comeBack_64 0 rfl (nI_1 _) (by decide) rfl ?_
          refine z_goto (tgt := 13) kd_L_comeBack_67 (by decide) ?_
          refine z_pick (lv' := [(2, .int (nI (v + 1))), (0, .ref (b + 25)), (1, .int (nI sk))]) [0, 1, 2] rfl ?_
          exact ih (v + 1) _ _ (by omega) hN_2 hS_2 x25_2 x26_2 x28_2 x29_2 (hF.tr q_2 (by omega)) hv
        · rw [if_pos ⟨fun q => c26 (by rw [q]), Int64.not_lt.mp (fun q => c47 ((lg_cmp_lt _ _).mpr q))⟩] at hv
          subst hv
          refine z_iconst (v := 0) kd_L_comeBack_50 (by decide) ?_
          exact z_zret kd_L_comeBack_51 rfl rfl (Nat.le_of_ble_eq_true rfl) (Nat.le_of_ble_eq_true rfl) ⟨rfl, rfl, ⟨_, _, hS⟩, ⟨_, h28⟩, ⟨_, h29⟩, hF⟩
set_option maxHeartbeats 4000000 in
set_option maxRecDepth 100000 in
theorem c_L_comeBack {l : Launch} {D : va_G} {tys : List (ClassId × FieldType)} {b N : Nat} {σ : Nat → Option va_E} {cI cJ cA : ClassId} (ht0 : tys[0]? = some (cI, .int)) (ht1 : tys[1]? = some (cJ, .long)) (ht3 : tys[3]? = some (cA, .array .long)) {n a : Nat} {gf gt gw : Nat → Int32} {F T : Nat → Nat} (hN : NS b cI σ n a gf gt gw F T) (hA : GA b cA cJ σ) {sk : Nat} (hsk : sk < n) {C Th Kt : Nat → Int64} (h25 : σ 25 = some (.inr (7, [.ref (b + 26), .ref (b + 27), .ref (b + 28), .ref (b + 29), .ref (b + 1), .ref (b + 7)]))) (hh : σ 26 = some (.inl (cJ, 10, .inr (.inl C)))) (h28 : σ 28 = some (.inl (cJ, 10, .inr (.inl Th)))) (h29 : σ 29 = some (.inl (cJ, 10, .inr (.inl Kt)))) : zM l D kCl tys kNw b ky_L_comeBack (kh_L_comeBack :: zT) 3 130 0 0 [.ref (b + 25), .int (nI sk)] N σ ((fun oc N' σ' => oc = .returned (some (.int (cbX (fbM F T gw Z0 a) n sk C Kt n 0 Th))) ∧ N' = N ∧ GA b cA cJ σ' ∧ (∃ g, σ' 28 = some (.inl (cJ, 10, .inr (.inl g)))) ∧ (∃ g, σ' 29 = some (.inl (cJ, 10, .inr (.inl g)))) ∧ F2 7 18 28 29 σ σ')) := by
  refine zM.of (by decide +kernel) rfl (Nat.le_of_ble_eq_true rfl) ?_
  refine z_pick (lv' := [(0, .ref (b + 25)), (1, .int (nI sk))]) [0, 1] rfl ?_
  obtain ⟨s0, M0, hS0⟩ := hA
  have hn := hN.hn
  have ha := hN.ha
  refine z_aload_n kd_L_comeBack_0 0 rfl ?_
  refine z_get kd_L_comeBack_1 (kf_L_28 _) h25 rfl ?_
  refine z_aload_n kd_L_comeBack_4 0 rfl ?_
  refine z_get kd_L_comeBack_5 (kf_L_24 _) h25 rfl ?_
  refine z_callV (a := 7) (As := [_]) kd_L_comeBack_8 (kg_L_32 _) hS0.1 kc_G (c_G_fillBothWaysS ht0 ht1 ht3 hN ⟨_, _, hS0⟩) rfl rfl (Nat.le_of_ble_eq_true rfl) ⟨Nat.le_of_ble_eq_true rfl, Nat.le_of_ble_eq_true rfl⟩ ⟨Nat.le_of_ble_eq_true rfl, Nat.le_of_ble_eq_true rfl⟩ ?_
  rintro _ _ σ_1 ⟨hv, rfl, ⟨M_1, hS_1, hM_1⟩, q_1⟩
  cases hv
  refine z_eq (st' := []) rfl rfl rfl rfl ?_
  have hN_1 := hN.fr q_1 (by omega)
  have x25_1 := (q_1 25 (by omega)).trans h25
  have x26_1 := (q_1 26 (by omega)).trans hh
  have x28_1 := (q_1 28 (by omega)).trans h28
  have x29_1 := (q_1 29 (by omega)).trans h29
  refine z_iconst (v := 0) kd_L_comeBack_11 (by decide) ?_
  refine z_istore_n (lv' := [(2, .int _), (0, .ref (b + 25)), (1, .int _)]) kd_L_comeBack_12 (by decide) rfl ?_
  refine z_pick (lv' := [(2, .int (nI 0)), (0, .ref (b + 25)), (1, .int (nI sk))]) [0, 1, 2] rfl ?_
  rw [← cbX_agr hM_1 hsk C Kt n 0 Th (by omega)]
  exact l_L_cb ht0 ht1 ht3 hsk n 0 _ _ (by omega) hN_1 hS_1 x25_1 x26_1 x28_1 x29_1 (F2.rf.tr q_1 (by omega)) rfl
