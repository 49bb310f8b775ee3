def fbF (F T : Nat → Nat) (w : Nat → Int32) : Nat → Nat → (Nat → Nat → Int64) → Nat → Nat → Int64
  | 0, _, M => M
  | m + 1, k, M => fbF F T w m (k + 1) (abw M (F k) (T k) (w k).toInt64)
/-- the grid of the parts P with the arcs from f0 on, the first part struck -/
def sopM (c f0 a : Nat) (F T : Nat → Nat) (w : Nat → Int32) (P : Nat → Nat) (M : Nat → Nat → Int64) : Nat → Nat → Int64 := strM c 0 (fbF (fun k => P (F k)) (fun k => P (T k)) w (a - f0) f0 (bk c c 0 M))
def sopN (c f0 a : Nat) (F T : Nat → Nat) (w : Nat → Int32) (P : Nat → Nat) (M : Nat → Nat → Int64) : Int64 := if c = 0 then 0 else dtN c (sopM c f0 a F T w P M)
set_option maxHeartbeats 4000000 in
set_option maxRecDepth 100000 in
theorem l_T_sop {l : Launch} {D : va_G} {tys : List (ClassId × FieldType)} {b N : Nat} {σ0 : Nat → Option va_E} {cI cJ cA : ClassId} (ht0 : tys[0]? = some (cI, .int)) (ht1 : tys[1]? = some (cJ, .long)) (ht3 : tys[3]? = some (cA, .array .long)) {n a : Nat} {gf gt gw : Nat → Int32} {F T : Nat → Nat} (h1 : σ0 1 = some (.inr (1, [.int (nI n), .int (nI a), .ref (b + 2), .ref (b + 3), .ref (b + 4)]))) (h2 : σ0 2 = some (.inl (cI, 30, .inl gf))) (h3 : σ0 3 = some (.inl (cI, 30, .inl gt))) (h4 : σ0 4 = some (.inl (cI, 30, .inl gw))) (hn : n ≤ 10) (ha : a ≤ 30) (hft : ∀ k, k < a → gf k = nI (F k) ∧ F k < n ∧ gt k = nI (T k) ∧ T k < n) {c : Nat} {g : Nat → Int32} {P : Nat → Nat} (h5 : σ0 5 = some (.inr (2, [.int (nI n), .int (nI c), .ref (b + 6)]))) (h6 : σ0 6 = some (.inl (cI, 10, .inl g))) (hp : PH n c g P) (hc : c ≤ 10) {v19 w19 : Value} (h19 : σ0 19 = some (.inr (4, [.ref (b + 1), .ref (b + 5), .ref (b + 7), v19, w19]))) {f0 : Nat} (hc0 : 0 < c) {Mf : Nat → Nat → Int64} : ∀ (m k : Nat) (σ : Nat → Option va_E) (M : Nat → Nat → Int64), k + m = a → GS b cA cJ σ (nI c) M → Fr 7 18 σ0 σ → fbF (fun k => P (F k)) (fun k => P (T k)) gw m k M = Mf → Z l D kCl tys (kh_T_sumOverParts :: zT) kNw ky_T_sumOverParts.cls ky_T_sumOverParts.name kb_T_sumOverParts 3 (some FieldType.long) { frames := 3, cells := 0, slots := 0, locals := 130 } b (zFi D kCl b 0 0 (fun oc N' σ' => oc = .returned (some (.long (dtN c (strM c 0 Mf)))) ∧ N' = N ∧ (∃ s M', GS b cA cJ σ' s M') ∧ Fr 7 18 σ0 σ')) 0 0 N (σ) 28 [(2, .int (nI k)), (0, .ref (b + 19)), (1, .int (nI f0))] [] := by
  intro m
  induction m with
  | zero =>
    intro k σ M hkm hS hF he
    obtain rfl : k = a := by omega
    have he : M = Mf := he
    subst he
    refine z_iload_n kd_T_sumOverParts_28 0 rfl ?_
    refine z_aload_n kd_T_sumOverParts_29 1 rfl ?_
    refine z_get kd_T_sumOverParts_30 (kf_T_9 _) ((hF 19 (by omega)).trans h19) rfl ?_
    refine z_get kd_T_sumOverParts_33 (kf_T_47 _) ((hF 1 (by omega)).trans h1) rfl ?_
    refine z_icmp_ge (tgt := 95) kd_T_sumOverParts_36 (by decide) (fun c36 => ?_) (fun c36 => ?_)
    · refine z_aload_n kd_T_sumOverParts_95 1 rfl ?_
      refine z_get kd_T_sumOverParts_96 (kf_T_19 _) ((hF 19 (by omega)).trans h19) rfl ?_
      refine z_iconst (v := 0) kd_T_sumOverParts_99 (by decide) ?_
      refine z_callV (a := 7) (As := [_]) kd_T_sumOverParts_100 (kg_T_67 _) hS.1 kc_G (c_G_strike ht0 ht1 ht3 (n := c) (x := 0) hc hc0 hS) rfl rfl (Nat.le_of_ble_eq_true rfl) ⟨Nat.le_of_ble_eq_true rfl, Nat.le_of_ble_eq_true rfl⟩ ⟨Nat.le_of_ble_eq_true rfl, Nat.le_of_ble_eq_true rfl⟩ ?_
      rintro _ _ σA1 ⟨hv, rfl, hSA1, qA1⟩
      cases hv
      refine z_eq (st' := []) rfl rfl rfl rfl ?_
      refine z_aload_n kd_T_sumOverParts_103 1 rfl ?_
      refine z_get kd_T_sumOverParts_104 (kf_T_19 _) ((qA1 19 (by omega)).trans ((hF 19 (by omega)).trans h19)) rfl ?_
      refine z_callV (a := 7) (As := []) kd_T_sumOverParts_107 (kg_T_70 _) hSA1.1 kc_G (c_G_determinant ht0 ht1 ht3 (n := c) hc hSA1) rfl rfl (Nat.le_of_ble_eq_true rfl) ⟨Nat.le_of_ble_eq_true rfl, Nat.le_of_ble_eq_true rfl⟩ ⟨Nat.le_of_ble_eq_true rfl, Nat.le_of_ble_eq_true rfl⟩ ?_
      rintro _ _ σA2 ⟨hv, rfl, ⟨MA2, hSA2⟩, qA2⟩
      cases hv
      refine z_eq (st' := [_]) rfl rfl rfl rfl ?_
      exact z_lret kd_T_sumOverParts_110 rfl (Nat.le_of_ble_eq_true rfl) (Nat.le_of_ble_eq_true rfl) ⟨rfl, rfl, ⟨_, _, hSA2⟩, (Fr.tr (Fr.tr hF qA1) qA2)⟩
    · exact absurd (nI_le (Nat.le_refl k) (by omega)) c36
  | succ m ih =>
    intro k σ M hkm hS hF he
    have hlt : k < a := by omega
    obtain ⟨e1, l1, e2, l2⟩ := hft k hlt
    obtain ⟨e3, l3⟩ := hp (F k) l1
    obtain ⟨e4, l4⟩ := hp (T k) l2
    refine z_iload_n kd_T_sumOverParts_28 0 rfl ?_
    refine z_aload_n kd_T_sumOverParts_29 1 rfl ?_
    refine z_get kd_T_sumOverParts_30 (kf_T_9 _) ((hF 19 (by omega)).trans h19) rfl ?_
    refine z_get kd_T_sumOverParts_33 (kf_T_47 _) ((hF 1 (by omega)).trans h1) rfl ?_
    refine z_icmp_ge (tgt := 95) kd_T_sumOverParts_36 (by decide) (fun c36 => ?_) (fun c36 => ?_)
    · exact absurd c36 (nI_ge hlt (by omega))
    · refine z_aload_n kd_T_sumOverParts_39 1 rfl ?_
      refine z_get kd_T_sumOverParts_40 (kf_T_19 _) ((hF 19 (by omega)).trans h19) rfl ?_
      refine z_aload_n kd_T_sumOverParts_43 1 rfl ?_
      refine z_get kd_T_sumOverParts_44 (kf_T_15 _) ((hF 19 (by omega)).trans h19) rfl ?_
      refine z_get kd_T_sumOverParts_47 (kf_T_50 _) ((hF 5 (by omega)).trans h5) rfl ?_
      refine z_aload_n kd_T_sumOverParts_50 1 rfl ?_
      refine z_get kd_T_sumOverParts_51 (kf_T_9 _) ((hF 19 (by omega)).trans h19) rfl ?_
      refine z_get kd_T_sumOverParts_54 (kf_T_54 _) ((hF 1 (by omega)).trans h1) rfl ?_
      refine z_iload_n kd_T_sumOverParts_57 0 rfl ?_
      refine z_ialdN (t0 := 0) kd_T_sumOverParts_58 (by assumption) ((hF 2 (by omega)).trans h2) (by omega) (by decide) ?_
      refine z_topi e1 ?_
      refine z_ialdN (t0 := 0) kd_T_sumOverParts_59 (by assumption) ((hF 6 (by omega)).trans h6) (by omega) (by decide) ?_
      refine z_topi e3 ?_
      refine z_aload_n kd_T_sumOverParts_60 1 rfl ?_
      refine z_get kd_T_sumOverParts_61 (kf_T_15 _) ((hF 19 (by omega)).trans h19) rfl ?_
      refine z_get kd_T_sumOverParts_64 (kf_T_50 _) ((hF 5 (by omega)).trans h5) rfl ?_
      refine z_aload_n kd_T_sumOverParts_67 1 rfl ?_
      refine z_get kd_T_sumOverParts_68 (kf_T_9 _) ((hF 19 (by omega)).trans h19) rfl ?_
      refine z_get kd_T_sumOverParts_71 (kf_T_57 _) ((hF 1 (by omega)).trans h1) rfl ?_
      refine z_iload_n kd_T_sumOverParts_74 0 rfl ?_
      refine z_ialdN (t0 := 0) kd_T_sumOverParts_75 (by assumption) ((hF 3 (by omega)).trans h3) (by omega) (by decide) ?_
      refine z_topi e2 ?_
      refine z_ialdN (t0 := 0) kd_T_sumOverParts_76 (by assumption) ((hF 6 (by omega)).trans h6) (by omega) (by decide) ?_
      refine z_topi e4 ?_
      refine z_aload_n kd_T_sumOverParts_77 1 rfl ?_
      refine z_get kd_T_sumOverParts_78 (kf_T_9 _) ((hF 19 (by omega)).trans h19) rfl ?_
      refine z_get kd_T_sumOverParts_81 (kf_T_60 _) ((hF 1 (by omega)).trans h1) rfl ?_
      refine z_iload_n kd_T_sumOverParts_84 0 rfl ?_
      refine z_ialdN (t0 := 0) kd_T_sumOverParts_85 (by assumption) ((hF 4 (by omega)).trans h4) (by omega) (by decide) ?_
      refine z_callV (a := 7) (As := [_, _, _]) kd_T_sumOverParts_86 (kg_T_63 _) hS.1 kc_G (c_G_addBothWays ht0 ht1 ht3 (x := P (F k)) (y := P (T k)) (by omega) (by omega) hS) rfl rfl (Nat.le_of_ble_eq_true rfl) ⟨Nat.le_of_ble_eq_true rfl, Nat.le_of_ble_eq_true rfl⟩ ⟨Nat.le_of_ble_eq_true rfl, Nat.le_of_ble_eq_true rfl⟩ ?_
      rintro _ _ σA1 ⟨hv, rfl, hSA1, qA1⟩
      cases hv
      refine z_eq (st' := []) rfl rfl rfl rfl ?_
      refine z_iinc (v := (nI (k + 1))) (lv' := [(2, .int _), (0, .ref (b + 19)), (1, .int _)]) kd_T_sumOverParts_89 0 rfl (nI_1 _) (by decide) rfl ?_
      refine z_goto (tgt := 28) kd_T_sumOverParts_92 (by decide) ?_
      exact ih (k + 1) _ _ (by omega) hSA1 (Fr.tr hF qA1) he
set_option maxHeartbeats 4000000 in
set_option maxRecDepth 100000 in
theorem c_T_sop0 {l : Launch} {D : va_G} {tys : List (ClassId × FieldType)} {b N : Nat} {σ : Nat → Option va_E} {cI cJ cA : ClassId} (ht0 : tys[0]? = some (cI, .int)) (ht1 : tys[1]? = some (cJ, .long)) (ht3 : tys[3]? = some (cA, .array .long)) {n a : Nat} {gf gt gw : Nat → Int32} {F T : Nat → Nat} (h1 : σ 1 = some (.inr (1, [.int (nI n), .int (nI a), .ref (b + 2), .ref (b + 3), .ref (b + 4)]))) (h2 : σ 2 = some (.inl (cI, 30, .inl gf))) (h3 : σ 3 = some (.inl (cI, 30, .inl gt))) (h4 : σ 4 = some (.inl (cI, 30, .inl gw))) (hn : n ≤ 10) (ha : a ≤ 30) (hft : ∀ k, k < a → gf k = nI (F k) ∧ F k < n ∧ gt k = nI (T k) ∧ T k < n) {c : Nat} {g : Nat → Int32} {P : Nat → Nat} (h5 : σ 5 = some (.inr (2, [.int (nI n), .int (nI c), .ref (b + 6)]))) (h6 : σ 6 = some (.inl (cI, 10, .inl g))) (hp : PH n c g P) (hc : c ≤ 10) {v19 w19 : Value} (h19 : σ 19 = some (.inr (4, [.ref (b + 1), .ref (b + 5), .ref (b + 7), v19, w19]))) {f0 : Nat} {s0 : Int32} {M : Nat → Nat → Int64} (hS : GS b cA cJ σ s0 M) (hc0 : c = 0) : zM l D kCl tys kNw b ky_T_sumOverParts (kh_T_sumOverParts :: zT) 3 130 0 0 [.ref (b + 19), .int (nI f0)] N σ ((fun oc N' σ' => oc = .returned (some (.long 0)) ∧ N' = N ∧ (∃ s M', GS b cA cJ σ' s M') ∧ Fr 7 18 σ σ')) := by
  refine zM.of (by decide +kernel) rfl (Nat.le_of_ble_eq_true rfl) ?_
  refine z_pick (lv' := [(0, .ref (b + 19)), (1, .int (nI f0))]) [0, 1] rfl ?_
  refine z_aload_n kd_T_sumOverParts_0 0 rfl ?_
  refine z_get kd_T_sumOverParts_1 (kf_T_15 _) h19 rfl ?_
  refine z_get kd_T_sumOverParts_4 (kf_T_39 _) h5 rfl ?_
  refine z_if_ne (tgt := 12) kd_T_sumOverParts_7 (by decide) (fun c7 => ?_) (fun c7 => ?_)
  · exact absurd (by rw [hc0]; rfl) c7
  · refine z_lconst (v := 0) kd_T_sumOverParts_10 (by decide +kernel) ?_
    exact z_lret kd_T_sumOverParts_11 rfl (Nat.le_of_ble_eq_true rfl) (Nat.le_of_ble_eq_true rfl) ⟨rfl, rfl, ⟨_, _, hS⟩, Fr.rf⟩
set_option maxHeartbeats 4000000 in
set_option maxRecDepth 100000 in
theorem c_T_sop1 {l : Launch} {D : va_G} {tys : List (ClassId × FieldType)} {b N : Nat} {σ : Nat → Option va_E} {cI cJ cA : ClassId} (ht0 : tys[0]? = some (cI, .int)) (ht1 : tys[1]? = some (cJ, .long)) (ht3 : tys[3]? = some (cA, .array .long)) {n a : Nat} {gf gt gw : Nat → Int32} {F T : Nat → Nat} (h1 : σ 1 = some (.inr (1, [.int (nI n), .int (nI a), .ref (b + 2), .ref (b + 3), .ref (b + 4)]))) (h2 : σ 2 = some (.inl (cI, 30, .inl gf))) (h3 : σ 3 = some (.inl (cI, 30, .inl gt))) (h4 : σ 4 = some (.inl (cI, 30, .inl gw))) (hn : n ≤ 10) (ha : a ≤ 30) (hft : ∀ k, k < a → gf k = nI (F k) ∧ F k < n ∧ gt k = nI (T k) ∧ T k < n) {c : Nat} {g : Nat → Int32} {P : Nat → Nat} (h5 : σ 5 = some (.inr (2, [.int (nI n), .int (nI c), .ref (b + 6)]))) (h6 : σ 6 = some (.inl (cI, 10, .inl g))) (hp : PH n c g P) (hc : c ≤ 10) {v19 w19 : Value} (h19 : σ 19 = some (.inr (4, [.ref (b + 1), .ref (b + 5), .ref (b + 7), v19, w19]))) {f0 : Nat} {s0 : Int32} {M : Nat → Nat → Int64} (hS : GS b cA cJ σ s0 M) (hc0 : 0 < c) (hf0 : f0 ≤ a) : zM l D kCl tys kNw b ky_T_sumOverParts (kh_T_sumOverParts :: zT) 3 130 0 0 [.ref (b + 19), .int (nI f0)] N σ ((fun oc N' σ' => oc = .returned (some (.long (dtN c (sopM c f0 a F T gw P M)))) ∧ N' = N ∧ (∃ s M', GS b cA cJ σ' s M') ∧ Fr 7 18 σ σ')) := by
  refine zM.of (by decide +kernel) rfl (Nat.le_of_ble_eq_true rfl) ?_
  refine z_pick (lv' := [(0, .ref (b + 19)), (1, .int (nI f0))]) [0, 1] rfl ?_
  refine z_aload_n kd_T_sumOverParts_0 0 rfl ?_
  refine z_get kd_T_sumOverParts_1 (kf_T_15 _) h19 rfl ?_
  refine z_get kd_T_sumOverParts_4 (kf_T_39 _) h5 rfl ?_
  refine z_if_ne (tgt := 12) kd_T_sumOverParts_7 (by decide) (fun c7 => ?_) (fun c7 => ?_)
  · refine z_aload_n kd_T_sumOverParts_12 0 rfl ?_
    refine z_get kd_T_sumOverParts_13 (kf_T_19 _) h19 rfl ?_
    refine z_aload_n kd_T_sumOverParts_16 0 rfl ?_
    refine z_get kd_T_sumOverParts_17 (kf_T_15 _) h19 rfl ?_
    refine z_get kd_T_sumOverParts_20 (kf_T_39 _) h5 rfl ?_
    refine z_callV (a := 7) (As := [_]) kd_T_sumOverParts_23 (kg_T_42 _) hS.1 kc_G (c_G_blank ht0 ht1 ht3 (n := c) hc hS) rfl rfl (Nat.le_of_ble_eq_true rfl) ⟨Nat.le_of_ble_eq_true rfl, Nat.le_of_ble_eq_true rfl⟩ ⟨Nat.le_of_ble_eq_true rfl, Nat.le_of_ble_eq_true rfl⟩ ?_
    rintro _ _ σA1 ⟨hv, rfl, hSA1, qA1⟩
    cases hv
    refine z_eq (st' := []) rfl rfl rfl rfl ?_
    refine z_iload_n kd_T_sumOverParts_26 1 rfl ?_
    refine z_istore_n (lv' := [(2, .int _), (0, .ref (b + 19)), (1, .int _)]) kd_T_sumOverParts_27 (by decide) rfl ?_
    exact l_T_sop ht0 ht1 ht3 h1 h2 h3 h4 hn ha hft h5 h6 hp hc h19 hc0 (a - f0) f0 _ _ (by omega) hSA1 (Fr.tr Fr.rf qA1) rfl
  · exact absurd c7 (nI_ne0 hc0 (by omega))
theorem c_T_sop {l : Launch} {D : va_G} {tys : List (ClassId × FieldType)} {b N : Nat} {σ : Nat → Option va_E} {cI cJ cA : ClassId} (ht0 : tys[0]? = some (cI, .int)) (ht1 : tys[1]? = some (cJ, .long)) (ht3 : tys[3]? = some (cA, .array .long)) {n a : Nat} {gf gt gw : Nat → Int32} {F T : Nat → Nat} (h1 : σ 1 = some (.inr (1, [.int (nI n), .int (nI a), .ref (b + 2), .ref (b + 3), .ref (b + 4)]))) (h2 : σ 2 = some (.inl (cI, 30, .inl gf))) (h3 : σ 3 = some (.inl (cI, 30, .inl gt))) (h4 : σ 4 = some (.inl (cI, 30, .inl gw))) (hn : n ≤ 10) (ha : a ≤ 30) (hft : ∀ k, k < a → gf k = nI (F k) ∧ F k < n ∧ gt k = nI (T k) ∧ T k < n) {c : Nat} {g : Nat → Int32} {P : Nat → Nat} (h5 : σ 5 = some (.inr (2, [.int (nI n), .int (nI c), .ref (b + 6)]))) (h6 : σ 6 = some (.inl (cI, 10, .inl g))) (hp : PH n c g P) (hc : c ≤ 10) {v19 w19 : Value} (h19 : σ 19 = some (.inr (4, [.ref (b + 1), .ref (b + 5), .ref (b + 7), v19, w19]))) {f0 : Nat} {s0 : Int32} {M : Nat → Nat → Int64} (hS : GS b cA cJ σ s0 M) (hf0 : f0 ≤ a) : zM l D kCl tys kNw b ky_T_sumOverParts (kh_T_sumOverParts :: zT) 3 130 0 0 [.ref (b + 19), .int (nI f0)] N σ (fun oc N' σ' => oc = .returned (some (.long (sopN c f0 a F T gw P M))) ∧ N' = N ∧ (∃ s M', GS b cA cJ σ' s M') ∧ Fr 7 18 σ σ') := by
  unfold sopN
  by_cases h0 : c = 0
  · rw [if_pos h0]
    exact c_T_sop0 ht0 ht1 ht3 h1 h2 h3 h4 hn ha hft h5 h6 hp hc h19 hS h0
  · rw [if_neg h0]
    exact c_T_sop1 ht0 ht1 ht3 h1 h2 h3 h4 hn ha hft h5 h6 hp hc h19 hS (by omega) hf0
theorem PH.id (n : Nat) (g : Nat → Int32) : PH n n (splA n g) (fun v => v) := fun v hv => ⟨by simp [splA, hv], hv⟩
theorem GS.keep {b : Nat} {cA cJ : ClassId} {σ σ' : Nat → Option va_E} {s : Int32} {M : Nat → Nat → Int64} (h : GS b cA cJ σ s M) (hk : ∀ k, 7 ≤ k → k ≤ 18 → σ' k = σ k) : GS b cA cJ σ' s M := by
  obtain ⟨h7, f, r, hG⟩ := h
  exact ⟨(hk 7 (by omega) (by omega)).trans h7, f, r, hG.keep (fun k h1 h2 => hk k (by omega) h2)⟩
