/-- nothing but the cells lo .. hi and lo2 .. hi2 has changed -/
def F2 (lo hi lo2 hi2 : Nat) (σ σ' : Nat → Option va_E) : Prop := ∀ k, k < lo ∨ hi < k → k < lo2 ∨ hi2 < k → σ' k = σ k
theorem F2.rf {lo hi lo2 hi2 : Nat} {σ : Nat → Option va_E} : F2 lo hi lo2 hi2 σ σ := fun _ _ _ => rfl
theorem F2.tr {lo hi lo2 hi2 a b : Nat} {σ σ1 σ2 : Nat → Option va_E} (h : F2 lo hi lo2 hi2 σ σ1) (q : Fr a b σ1 σ2) (hab : (lo ≤ a ∧ b ≤ hi) ∨ (lo2 ≤ a ∧ b ≤ hi2)) : F2 lo hi lo2 hi2 σ σ2 := fun k h1 h2 => (q k (by omega)).trans (h k h1 h2)
theorem F2.two {lo hi lo2 hi2 : Nat} {σ σ' : Nat → Option va_E} (h : F2 lo hi lo2 hi2 σ σ') : ∃ σ1, Fr lo hi σ σ1 ∧ Fr lo2 hi2 σ1 σ' := by
  refine ⟨fun k => if lo ≤ k ∧ k ≤ hi then σ' k else σ k, fun k hk => if_neg (by omega), fun k hk => ?_⟩
  show σ' k = if lo ≤ k ∧ k ≤ hi then σ' k else σ k
  by_cases c : lo ≤ k ∧ k ≤ hi
  · rw [if_pos c]
  · rw [if_neg c]; exact h k (by omega) hk
theorem upd_m1 {i : Nat} {g : Nat → Int32} (h : ∀ v, v < i → g v = -1) : ∀ v, v < i + 1 → upd g i (-1) v = -1 := by
  intro v hv
  by_cases e : v = i
  · simp [upd, e]
  · have := h v (by omega)
    simp [upd, e, this]
theorem nI_nm1 {k : Nat} (h : k < 2 ^ 31) : ¬ nI k = -1 := by
  intro q
  have h1 : (0 : Int32) ≤ nI k := nI_le (a := 0) (Nat.zero_le k) h
  rw [q] at h1
  exact absurd h1 (by decide)
set_option maxHeartbeats 4000000 in
set_option maxRecDepth 100000 in
theorem l_R_fwI {l : Launch} {D : va_G} {tys : List (ClassId × FieldType)} {b N : Nat} {σ0 : Nat → Option va_E} {cI cJ cA : ClassId} (ht0 : tys[0]? = some (cI, .int)) (ht1 : tys[1]? = some (cJ, .long)) (ht3 : tys[3]? = some (cA, .array .long)) {n a : Nat} {gf gt gw : Nat → Int32} {F T : Nat → Nat} {v20 : Value} {tk : Int32} {go : Nat} {d : Nat} {Sf : Int32 × (Nat → Option Nat)} {Q : Outcome → Nat → (Nat → Option va_E) → Prop} (hc : ∀ σ g, NS b cI σ n a gf gt gw F T → σ 20 = some (.inr (5, [v20, .ref (b + 21), .ref (b + 22), .ref (b + 1), .ref (b + 5)])) → σ 22 = some (.inl (cI, 10, .inl g)) → BH n a g Sf.2 → Fr 22 22 σ0 σ → Z l D kCl tys (kh_R_findWaysBack :: zT) kNw ky_R_findWaysBack.cls ky_R_findWaysBack.name kb_R_findWaysBack 6 none { frames := 1, cells := 0, slots := 0, locals := 40 } b (zFi D kCl b 0 0 Q) 0 0 N (σ) 84 [(5, .int (nI a)), (3, .int Sf.1), (4, .int (nI d)), (0, .ref (b + 20)), (1, .int tk), (2, .int (nI go))] []) : ∀ (m k : Nat) (σ : Nat → Option va_E) (g : Nat → Int32) (S : Int32 × (Nat → Option Nat)), k + m = a → NS b cI σ n a gf gt gw F T → σ 20 = some (.inr (5, [v20, .ref (b + 21), .ref (b + 22), .ref (b + 1), .ref (b + 5)])) → σ 22 = some (.inl (cI, 10, .inl g)) → BH n a g S.2 → Fr 22 22 σ0 σ → fwI F T tk m k S = Sf → Z l D kCl tys (kh_R_findWaysBack :: zT) kNw ky_R_findWaysBack.cls ky_R_findWaysBack.name kb_R_findWaysBack 6 none { frames := 1, cells := 0, slots := 0, locals := 40 } b (zFi D kCl b 0 0 Q) 0 0 N (σ) 48 [(5, .int (nI k)), (3, .int S.1), (4, .int (nI d)), (0, .ref (b + 20)), (1, .int tk), (2, .int (nI go))] [] := by
  intro m
  induction m with
  | zero =>
    intro k σ g S hkm hN h20 h22 hB hF hv
    obtain rfl : k = a := by omega
    have hn := hN.hn
    have ha := hN.ha
    have hv : S = Sf := hv
    subst hv
    refine z_iload kd_R_findWaysBack_48 0 rfl ?_
    refine z_aload_n kd_R_findWaysBack_50 3 rfl ?_
    refine z_get kd_R_findWaysBack_51 (kf_R_18 _) h20 rfl ?_
    refine z_get kd_R_findWaysBack_54 (kf_R_38 _) hN.h1 rfl ?_
    refine z_icmp_ge (tgt := 84) kd_R_findWaysBack_57 (by decide) (fun c57 => ?_) (fun c57 => ?_)
    · exact hc σ g hN h20 h22 hB hF
    · exact absurd (nI_le (Nat.le_refl k) (by omega)) c57
  | succ m ih =>
    intro k σ g S hkm hN h20 h22 hB hF hv
    have hk : k < a := by omega
    have hn := hN.hn
    have ha := hN.ha
    unfold fwI at hv
    refine z_iload kd_R_findWaysBack_48 0 rfl ?_
    refine z_aload_n kd_R_findWaysBack_50 3 rfl ?_
    refine z_get kd_R_findWaysBack_51 (kf_R_18 _) h20 rfl ?_
    refine z_get kd_R_findWaysBack_54 (kf_R_38 _) hN.h1 rfl ?_
    refine z_icmp_ge (tgt := 84) kd_R_findWaysBack_57 (by decide) (fun c57 => ?_) (fun c57 => ?_)
    · exact absurd c57 (nI_ge hk (by omega))
    · refine z_iload_n kd_R_findWaysBack_60 4 rfl ?_
      refine z_iload kd_R_findWaysBack_61 0 rfl ?_
      refine z_ishr kd_R_findWaysBack_63 ?_
      refine z_iconst (v := 1) kd_R_findWaysBack_64 (by decide) ?_
      refine z_iand kd_R_findWaysBack_65 ?_
      refine z_iconst (v := 1) kd_R_findWaysBack_66 (by decide) ?_
      refine z_icmp_ne (tgt := 78) kd_R_findWaysBack_67 (by decide) (fun c67 => ?_) (fun c67 => ?_)
      · rw [if_neg c67] at hv
        refine z_iinc (v := (nI (k + 1))) (lv' := [(5, .int _), (3, .int _), (4, .int _), (0, .ref (b + 20)), (1, .int _), (2, .int _)]) kd_R_findWaysBack_78 0 rfl (nI_1 _) (by decide) rfl ?_
        refine z_goto (tgt := 48) kd_R_findWaysBack_81 (by decide) ?_
        refine z_pick (lv' := [(5, .int (nI (k + 1))), (3, .int _), (4, .int _), (0, .ref (b + 20)), (1, .int _), (2, .int _)]) [0, 1, 2, 3, 4, 5] rfl ?_
        exact ih (k + 1) _ _ _ (by omega) hN h20 h22 hB hF hv
      · rw [if_pos c67] at hv
        refine z_aload_n kd_R_findWaysBack_70 3 rfl ?_
        refine z_iload kd_R_findWaysBack_71 0 rfl ?_
        refine z_iload_n kd_R_findWaysBack_73 1 rfl ?_
        refine z_callV (a := 20) (As := [_, _]) kd_R_findWaysBack_74 (kg_R_67 _) h20 kc_R (c_R_reach ht0 ht1 ht3 hN h20 h22 hB hk) rfl rfl (Nat.le_of_ble_eq_true rfl) ⟨Nat.le_of_ble_eq_true rfl, Nat.le_of_ble_eq_true rfl⟩ ⟨Nat.le_of_ble_eq_true rfl, Nat.le_of_ble_eq_true rfl⟩ ?_
        rintro _ _ σ_1 ⟨hv, rfl, ⟨g_1, hB_1, x22_1⟩, q_1⟩
        cases hv
        refine z_eq (st' := [_]) rfl rfl rfl rfl ?_
        have hN_1 := hN.fr q_1 (by omega)
        have x20_1 := (q_1 20 (by omega)).trans h20
        refine z_istore_n (lv' := [(3, .int _), (5, .int _), (4, .int _), (0, .ref (b + 20)), (1, .int _), (2, .int _)]) kd_R_findWaysBack_77 (by decide) rfl ?_
        refine z_iinc (v := (nI (k + 1))) (lv' := [(5, .int _), (3, .int _), (4, .int _), (0, .ref (b + 20)), (1, .int _), (2, .int _)]) kd_R_findWaysBack_78 1 rfl (nI_1 _) (by decide) rfl ?_
        refine z_goto (tgt := 48) kd_R_findWaysBack_81 (by decide) ?_
        refine z_pick (lv' := [(5, .int (nI (k + 1))), (3, .int _), (4, .int _), (0, .ref (b + 20)), (1, .int _), (2, .int _)]) [0, 1, 2, 3, 4, 5] rfl ?_
        exact ih (k + 1) _ _ _ (by omega) hN_1 x20_1 x22_1 hB_1 (Fr.tr hF (q_1.wide (by omega) (by omega))) hv
set_option maxHeartbeats 4000000 in
set_option maxRecDepth 100000 in
theorem l_R_fwO {l : Launch} {D : va_G} {tys : List (ClassId × FieldType)} {b N : Nat} {σ0 : Nat → Option va_E} {cI cJ cA : ClassId} (ht0 : tys[0]? = some (cI, .int)) (ht1 : tys[1]? = some (cJ, .long)) (ht3 : tys[3]? = some (cA, .array .long)) {n a : Nat} {gf gt gw : Nat → Int32} {F T : Nat → Nat} {v20 : Value} {tk : Int32} {go : Nat} {Sf : Int32 × (Nat → Option Nat)} : ∀ (m d : Nat) (σ : Nat → Option va_E) (g : Nat → Int32) (S : Int32 × (Nat → Option Nat)), d + m = n → NS b cI σ n a gf gt gw F T → σ 20 = some (.inr (5, [v20, .ref (b + 21), .ref (b + 22), .ref (b + 1), .ref (b + 5)])) → σ 22 = some (.inl (cI, 10, .inl g)) → BH n a g S.2 → Fr 22 22 σ0 σ → fwO F T tk a m S = Sf → Z l D kCl tys (kh_R_findWaysBack :: zT) kNw ky_R_findWaysBack.cls ky_R_findWaysBack.name kb_R_findWaysBack 6 none { frames := 1, cells := 0, slots := 0, locals := 40 } b (zFi D kCl b 0 0 (fun oc N' σ' => oc = .returned none ∧ N' = N ∧ (∃ g, BH n a g (Sf.2) ∧ σ' 22 = some (.inl (cI, 10, .inl g))) ∧ Fr 22 22 σ0 σ')) 0 0 N (σ) 33 [(4, .int (nI d)), (3, .int S.1), (0, .ref (b + 20)), (1, .int tk), (2, .int (nI go))] [] := by
  intro m
  induction m with
  | zero =>
    intro d σ g S hkm hN h20 h22 hB hF hv
    obtain rfl : d = n := by omega
    have hn := hN.hn
    have ha := hN.ha
    have hv : S = Sf := hv
    subst hv
    refine z_iload kd_R_findWaysBack_33 0 rfl ?_
    refine z_aload_n kd_R_findWaysBack_35 2 rfl ?_
    refine z_get kd_R_findWaysBack_36 (kf_R_18 _) h20 rfl ?_
    refine z_get kd_R_findWaysBack_39 (kf_R_64 _) hN.h1 rfl ?_
    refine z_icmp_ge (tgt := 90) kd_R_findWaysBack_42 (by decide) (fun c42 => ?_) (fun c42 => ?_)
    · exact z_vret kd_R_findWaysBack_90 rfl (Nat.le_of_ble_eq_true rfl) (Nat.le_of_ble_eq_true rfl) ⟨rfl, rfl, ⟨g, hB, h22⟩, hF⟩
    · exact absurd (nI_le (Nat.le_refl d) (by omega)) c42
  | succ m ih =>
    intro d σ g S hkm hN h20 h22 hB hF hv
    have hd : d < n := by omega
    have hn := hN.hn
    have ha := hN.ha
    unfold fwO at hv
    refine z_iload kd_R_findWaysBack_33 0 rfl ?_
    refine z_aload_n kd_R_findWaysBack_35 2 rfl ?_
    refine z_get kd_R_findWaysBack_36 (kf_R_18 _) h20 rfl ?_
    refine z_get kd_R_findWaysBack_39 (kf_R_64 _) hN.h1 rfl ?_
    refine z_icmp_ge (tgt := 90) kd_R_findWaysBack_42 (by decide) (fun c42 => ?_) (fun c42 => ?_)
    · exact absurd c42 (nI_ge hd (by omega))
    · refine z_iconst (v := 0) kd_R_findWaysBack_45 (by decide) ?_
      refine z_istore (lv' := [(5, .int _), (4, .int _), (3, .int _), (0, .ref (b + 20)), (1, .int _), (2, .int _)]) kd_R_findWaysBack_46 (by decide) rfl ?_
      refine z_pick (lv' := [(5, .int (nI 0)), (3, .int S.1), (4, .int (nI d)), (0, .ref (b + 20)), (1, .int tk), (2, .int (nI go))]) [0, 2, 1, 3, 4, 5] rfl ?_
      refine l_R_fwI ht0 ht1 ht3 (fun σ g hN h20 h22 hB hF => ?_) a 0 σ g S (by omega) hN h20 h22 hB hF rfl
      refine z_iinc (v := (nI (d + 1))) (lv' := [(4, .int _), (5, .int _), (3, .int _), (0, .ref (b + 20)), (1, .int _), (2, .int _)]) kd_R_findWaysBack_84 2 rfl (nI_1 _) (by decide) rfl ?_
      refine z_goto (tgt := 33) kd_R_findWaysBack_87 (by decide) ?_
      refine z_pick (lv' := [(4, .int (nI (d + 1))), (3, .int _), (0, .ref (b + 20)), (1, .int tk), (2, .int (nI go))]) [0, 2, 3, 4, 5] rfl ?_
      exact ih (d + 1) σ g _ (by omega) hN h20 h22 hB hF hv
set_option maxHeartbeats 4000000 in
set_option maxRecDepth 100000 in
theorem l_R_fw {l : Launch} {D : va_G} {tys : List (ClassId × FieldType)} {b N : Nat} {σ0 : Nat → Option va_E} {cI cJ cA : ClassId} (ht0 : tys[0]? = some (cI, .int)) (ht1 : tys[1]? = some (cJ, .long)) (ht3 : tys[3]? = some (cA, .array .long)) {n a : Nat} {gf gt gw : Nat → Int32} {F T : Nat → Nat} {v20 : Value} {tk : Int32} {go : Nat} (h0 : 0 < n) : ∀ (m i : Nat) (σ : Nat → Option va_E) (g : Nat → Int32), i + m = n → NS b cI σ n a gf gt gw F T → σ 20 = some (.inr (5, [v20, .ref (b + 21), .ref (b + 22), .ref (b + 1), .ref (b + 5)])) → σ 22 = some (.inl (cI, 10, .inl g)) → (∀ v, v < i → g v = -1) → Fr 22 22 σ0 σ → Z l D kCl tys (kh_R_findWaysBack :: zT) kNw ky_R_findWaysBack.cls ky_R_findWaysBack.name kb_R_findWaysBack 6 none { frames := 1, cells := 0, slots := 0, locals := 40 } b (zFi D kCl b 0 0 (fun oc N' σ' => oc = .returned none ∧ N' = N ∧ (∃ g, BH n a g (fwV F T tk n a go) ∧ σ' 22 = some (.inl (cI, 10, .inl g))) ∧ Fr 22 22 σ0 σ')) 0 0 N (σ) 2 [(3, .int (nI i)), (0, .ref (b + 20)), (1, .int tk), (2, .int (nI go))] [] := by
  intro m
  induction m with
  | zero =>
    intro i σ g hkm hN h20 h22 hB hF
    obtain rfl : i = n := by omega
    have hn := hN.hn
    have ha := hN.ha
    refine z_iload_n kd_R_findWaysBack_2 0 rfl ?_
    refine z_aload_n kd_R_findWaysBack_3 1 rfl ?_
    refine z_get kd_R_findWaysBack_4 (kf_R_18 _) h20 rfl ?_
    refine z_get kd_R_findWaysBack_7 (kf_R_64 _) hN.h1 rfl ?_
    refine z_icmp_ge (tgt := 26) kd_R_findWaysBack_10 (by decide) (fun c10 => ?_) (fun c10 => ?_)
    · refine z_iconst (v := 1) kd_R_findWaysBack_26 (by decide) ?_
      refine z_iload_n kd_R_findWaysBack_27 3 rfl ?_
      refine z_ishl kd_R_findWaysBack_28 ?_
      refine z_istore_n (lv' := [(3, .int _), (0, .ref (b + 20)), (1, .int _), (2, .int _)]) kd_R_findWaysBack_29 (by decide) rfl ?_
      refine z_iconst (v := 1) kd_R_findWaysBack_30 (by decide) ?_
      refine z_istore (lv' := [(4, .int _), (3, .int _), (0, .ref (b + 20)), (1, .int _), (2, .int _)]) kd_R_findWaysBack_31 (by decide) rfl ?_
      refine z_pick (lv' := [(4, .int (nI 1)), (3, .int _), (0, .ref (b + 20)), (1, .int tk), (2, .int (nI go))]) [0, 1, 2, 3, 4] rfl ?_
      exact l_R_fwO ht0 ht1 ht3 (i - 1) 1 σ g (1 <<< (nI go &&& 31), fun _ => none) (by omega) hN h20 h22 (fun v hv => ⟨hB v hv, fun k q => by cases q⟩) hF rfl
    · exact absurd (nI_le (Nat.le_refl i) (by omega)) c10
  | succ m ih =>
    intro i σ g hkm hN h20 h22 hB hF
    have hlt : i < n := by omega
    have hn := hN.hn
    have ha := hN.ha
    refine z_iload_n kd_R_findWaysBack_2 0 rfl ?_
    refine z_aload_n kd_R_findWaysBack_3 1 rfl ?_
    refine z_get kd_R_findWaysBack_4 (kf_R_18 _) h20 rfl ?_
    refine z_get kd_R_findWaysBack_7 (kf_R_64 _) hN.h1 rfl ?_
    refine z_icmp_ge (tgt := 26) kd_R_findWaysBack_10 (by decide) (fun c10 => ?_) (fun c10 => ?_)
    · exact absurd c10 (nI_ge hlt (by omega))
    · refine z_aload_n kd_R_findWaysBack_13 1 rfl ?_
      refine z_get kd_R_findWaysBack_14 (kf_R_15 _) h20 rfl ?_
      refine z_iload_n kd_R_findWaysBack_17 0 rfl ?_
      refine z_iconst (v := -1) kd_R_findWaysBack_18 (by decide) ?_
      refine z_iastN (t0 := 0) kd_R_findWaysBack_19 (by assumption) h22 (by omega) (by decide) ?_
      refine z_upd (fun σ_1 x22_1 q_1 => ?_)
      have hN_1 := hN.fr q_1 (by omega)
      have x20_1 := (q_1 20 (by omega)).trans h20
      refine z_iinc (v := (nI (i + 1))) (lv' := [(3, .int _), (0, .ref (b + 20)), (1, .int _), (2, .int _)]) kd_R_findWaysBack_20 0 rfl (nI_1 _) (by decide) rfl ?_
      refine z_goto (tgt := 2) kd_R_findWaysBack_23 (by decide) ?_
      refine z_pick (lv' := [(3, .int (nI (i + 1))), (0, .ref (b + 20)), (1, .int _), (2, .int _)]) [0, 1, 2, 3] rfl ?_
      exact ih (i + 1) _ _ (by omega) hN_1 x20_1 x22_1 (upd_m1 hB) (Fr.tr hF (q_1.wide (by omega) (by omega)))
set_option maxHeartbeats 4000000 in
set_option maxRecDepth 100000 in
theorem c_R_findWaysBack {l : Launch} {D : va_G} {tys : List (ClassId × FieldType)} {b N : Nat} {σ : Nat → Option va_E} {cI cJ cA : ClassId} (ht0 : tys[0]? = some (cI, .int)) (ht1 : tys[1]? = some (cJ, .long)) (ht3 : tys[3]? = some (cA, .array .long)) {n a : Nat} {gf gt gw : Nat → Int32} {F T : Nat → Nat} (hN : NS b cI σ n a gf gt gw F T) {v20 : Value} {tk : Int32} {go : Nat} {g : Nat → Int32} (h20 : σ 20 = some (.inr (5, [v20, .ref (b + 21), .ref (b + 22), .ref (b + 1), .ref (b + 5)]))) (h22 : σ 22 = some (.inl (cI, 10, .inl g))) (h0 : 0 < n) : zM l D kCl tys kNw b ky_R_findWaysBack (kh_R_findWaysBack :: zT) 1 40 0 0 [.ref (b + 20), .int tk, .int (nI go)] N σ ((fun oc N' σ' => oc = .returned none ∧ N' = N ∧ (∃ g, BH n a g (fwV F T tk n a go) ∧ σ' 22 = some (.inl (cI, 10, .inl g))) ∧ Fr 22 22 σ σ')) := by
  refine zM.of (by decide +kernel) rfl (Nat.le_of_ble_eq_true rfl) ?_
  refine z_pick (lv' := [(0, .ref (b + 20)), (1, .int tk), (2, .int (nI go))]) [0, 1, 2] rfl ?_
  have hn := hN.hn
  have ha := hN.ha
  refine z_iconst (v := 0) kd_R_findWaysBack_0 (by decide) ?_
  refine z_istore_n (lv' := [(3, .int _), (0, .ref (b + 20)), (1, .int _), (2, .int _)]) kd_R_findWaysBack_1 (by decide) rfl ?_
  refine z_pick (lv' := [(3, .int (nI 0)), (0, .ref (b + 20)), (1, .int tk), (2, .int (nI go))]) [0, 1, 2, 3] rfl ?_
  exact l_R_fw ht0 ht1 ht3 h0 n 0 σ g (by omega) hN h20 h22 (fun v hv => absurd hv (Nat.not_lt_zero v)) Fr.rf
def lyL (F T : Nat → Nat) (beg : Nat) (B : Nat → Option Nat) : Nat → Nat → Nat → (Nat → Int32) → Nat × (Nat → Int32)
  | 0, len, _, R => (len, R)
  | m + 1, len, at_, R => if at_ = beg then (len, R) else match B at_ with
    | none => (len, R)
    | some k => lyL F T beg B m (len + 1) (if F k = at_ then T k else F k) (upd R len (nI k))
def lyO (F T : Nat → Nat) (tk : Int32) (n a : Nat) (R : Nat → Int32) : Option Nat → Nat × (Nat → Int32)
  | none => (0, R)
  | some j => lyL F T (F j) (fwV F T tk n a (F j)) 9 1 (T j) (upd R 0 (nI j))
def lyV (F T : Nat → Nat) (n a : Nat) (ring : Int32) (R : Nat → Int32) : Nat × (Nat → Int32) := lyO F T (ftV n a F T).1 n a R (utL (ftV n a F T).1 ring a 0 0)
set_option maxHeartbeats 4000000 in
set_option maxRecDepth 100000 in
theorem l_R_lay {l : Launch} {D : va_G} {tys : List (ClassId × FieldType)} {b N : Nat} {σ0 : Nat → Option va_E} {cI cJ cA : ClassId} (ht0 : tys[0]? = some (cI, .int)) (ht1 : tys[1]? = some (cJ, .long)) (ht3 : tys[3]? = some (cA, .array .long)) {n a : Nat} {gf gt gw : Nat → Int32} {F T : Nat → Nat} {R : Room} {beg : Nat} (hbeg : beg < n) {B : Nat → Option Nat} {val : Nat × (Nat → Int32)} : ∀ (m len at_ : Nat) (σ : Nat → Option va_E) (Rw g : Nat → Int32), len + m = 10 → at_ < n → NS b cI σ n a gf gt gw F T → PA b cI σ 5 → σ 20 = some (.inr (5, [.int (nI len), .ref (b + 21), .ref (b + 22), .ref (b + 1), .ref (b + 5)])) → σ 21 = some (.inl (cI, 10, .inl Rw)) → σ 22 = some (.inl (cI, 10, .inl g)) → BH n a g B → F2 5 6 20 22 σ0 σ → lyL F T beg B m len at_ Rw = val → Z l D kCl tys (kh_R_lay :: zT) kNw ky_R_lay.cls ky_R_lay.name kb_R_lay 7 none R b (zFi D kCl b 0 0 (fun oc N' σ' => oc = .returned none ∧ N' = N ∧ PA b cI σ' 5 ∧ σ' 20 = some (.inr (5, [.int (nI (val).1), .ref (b + 21), .ref (b + 22), .ref (b + 1), .ref (b + 5)])) ∧ σ' 21 = some (.inl (cI, 10, .inl (val).2)) ∧ (∃ g, σ' 22 = some (.inl (cI, 10, .inl g))) ∧ F2 5 6 20 22 σ0 σ')) 0 0 N (σ) 76 [(5, .int (nI at_)), (4, .int (nI beg)), (0, .ref (b + 20))] [] := by
  intro m
  induction m with
  | zero =>
    intro len at_ σ Rw g hlen hat hN hPA h20 h21 h22 hB hF hv
    obtain rfl : len = 10 := by omega
    obtain ⟨u5, x5, g5, h5, h6⟩ := hPA
    have hn := hN.hn
    have ha := hN.ha
    have hv : (10, Rw) = val := hv
    subst hv
    refine z_iload kd_R_lay_76 0 rfl ?_
    refine z_iload kd_R_lay_78 1 rfl ?_
    refine z_icmp_eq (tgt := 176) kd_R_lay_80 (by decide) (fun c80 => ?_) (fun c80 => ?_)
    · exact z_vret kd_R_lay_176 rfl (Nat.le_of_ble_eq_true rfl) (Nat.le_of_ble_eq_true rfl) ⟨rfl, rfl, ⟨_, _, _, h5, h6⟩, h20, h21, ⟨_, h22⟩, hF⟩
    · refine z_aload_n kd_R_lay_83 2 rfl ?_
      refine z_get kd_R_lay_84 (kf_R_15 _) h20 rfl ?_
      refine z_iload kd_R_lay_87 0 rfl ?_
      refine z_ialdN (t0 := 0) kd_R_lay_89 (by assumption) h22 (by omega) (by decide) ?_
      refine z_iconst (v := -1) kd_R_lay_90 (by decide) ?_
      refine z_icmp_eq (tgt := 176) kd_R_lay_91 (by decide) (fun c91 => ?_) (fun c91 => ?_)
      · exact z_vret kd_R_lay_176 rfl (Nat.le_of_ble_eq_true rfl) (Nat.le_of_ble_eq_true rfl) ⟨rfl, rfl, ⟨_, _, _, h5, h6⟩, h20, h21, ⟨_, h22⟩, hF⟩
      · refine z_aload_n kd_R_lay_94 2 rfl ?_
        refine z_get kd_R_lay_95 (kf_R_47 _) h20 rfl ?_
        refine z_aload_n kd_R_lay_98 2 rfl ?_
        refine z_get kd_R_lay_99 (kf_R_9 _) h20 rfl ?_
        refine z_alen (t0 := 0) kd_R_lay_102 (by assumption) h21 rfl ?_
        refine z_icmp_ge (tgt := 176) kd_R_lay_103 (by decide) (fun c103 => ?_) (fun c103 => ?_)
        · exact z_vret kd_R_lay_176 rfl (Nat.le_of_ble_eq_true rfl) (Nat.le_of_ble_eq_true rfl) ⟨rfl, rfl, ⟨_, _, _, h5, h6⟩, h20, h21, ⟨_, h22⟩, hF⟩
        · exact absurd (nI_le (a := 10) (Nat.le_refl 10) (by decide)) c103
  | succ m ih =>
    intro len at_ σ Rw g hlen hat hN hPA h20 h21 h22 hB hF hv
    obtain ⟨u5, x5, g5, h5, h6⟩ := hPA
    have hn := hN.hn
    have ha := hN.ha
    unfold lyL at hv
    by_cases hab : at_ = beg
    · rw [if_pos hab] at hv
      subst hv
      refine z_iload kd_R_lay_76 0 rfl ?_
      refine z_iload kd_R_lay_78 1 rfl ?_
      refine z_icmp_eq (tgt := 176) kd_R_lay_80 (by decide) (fun c80 => ?_) (fun c80 => ?_)
      · exact z_vret kd_R_lay_176 rfl (Nat.le_of_ble_eq_true rfl) (Nat.le_of_ble_eq_true rfl) ⟨rfl, rfl, ⟨_, _, _, h5, h6⟩, h20, h21, ⟨_, h22⟩, hF⟩
      · exact absurd (by rw [hab]) c80
    · rw [if_neg hab] at hv
      obtain ⟨eB, lB⟩ := hB at_ hat
      cases hb : B at_ with
      | none =>
        rw [hb] at hv eB
        have hv : (len, Rw) = val := hv
        subst hv
        refine z_iload kd_R_lay_76 0 rfl ?_
        refine z_iload kd_R_lay_78 1 rfl ?_
        refine z_icmp_eq (tgt := 176) kd_R_lay_80 (by decide) (fun c80 => ?_) (fun c80 => ?_)
        · exact absurd ((nI_eq (by omega) (by omega)).mp c80) hab
        · refine z_aload_n kd_R_lay_83 2 rfl ?_
          refine z_get kd_R_lay_84 (kf_R_15 _) h20 rfl ?_
          refine z_iload kd_R_lay_87 0 rfl ?_
          refine z_ialdN (t0 := 0) kd_R_lay_89 (by assumption) h22 (by omega) (by decide) ?_
          refine z_topi eB ?_
          refine z_iconst (v := -1) kd_R_lay_90 (by decide) ?_
          refine z_icmp_eq (tgt := 176) kd_R_lay_91 (by decide) (fun c91 => ?_) (fun c91 => ?_)
          · exact z_vret kd_R_lay_176 rfl (Nat.le_of_ble_eq_true rfl) (Nat.le_of_ble_eq_true rfl) ⟨rfl, rfl, ⟨_, _, _, h5, h6⟩, h20, h21, ⟨_, h22⟩, hF⟩
          · exact absurd rfl c91
      | some k =>
        rw [hb] at hv eB
        have hk : k < a := lB k hb
        obtain ⟨l1, l2⟩ := hN.ft k hk
        have eB : g at_ = nI k := eB
        have hv : lyL F T beg B m (len + 1) (if F k = at_ then T k else F k) (upd Rw len (nI k)) = val := hv
        refine z_iload kd_R_lay_76 0 rfl ?_
        refine z_iload kd_R_lay_78 1 rfl ?_
        refine z_icmp_eq (tgt := 176) kd_R_lay_80 (by decide) (fun c80 => ?_) (fun c80 => ?_)
        · exact absurd ((nI_eq (by omega) (by omega)).mp c80) hab
        · refine z_aload_n kd_R_lay_83 2 rfl ?_
          refine z_get kd_R_lay_84 (kf_R_15 _) h20 rfl ?_
          refine z_iload kd_R_lay_87 0 rfl ?_
          refine z_ialdN (t0 := 0) kd_R_lay_89 (by assumption) h22 (by omega) (by decide) ?_
          refine z_topi eB ?_
          refine z_iconst (v := -1) kd_R_lay_90 (by decide) ?_
          refine z_icmp_eq (tgt := 176) kd_R_lay_91 (by decide) (fun c91 => ?_) (fun c91 => ?_)
          · exact absurd c91 (nI_nm1 (by omega))
          · refine z_aload_n kd_R_lay_94 2 rfl ?_
            refine z_get kd_R_lay_95 (kf_R_47 _) h20 rfl ?_
            refine z_aload_n kd_R_lay_98 2 rfl ?_
            refine z_get kd_R_lay_99 (kf_R_9 _) h20 rfl ?_
            refine z_alen (t0 := 0) kd_R_lay_102 (by assumption) h21 rfl ?_
            refine z_icmp_ge (tgt := 176) kd_R_lay_103 (by decide) (fun c103 => ?_) (fun c103 => ?_)
            · exact absurd c103 (nI_ge (b := 10) (by omega) (by decide))
            · refine z_aload_n kd_R_lay_106 2 rfl ?_
              refine z_get kd_R_lay_107 (kf_R_15 _) h20 rfl ?_
              refine z_iload kd_R_lay_110 0 rfl ?_
              refine z_ialdN (t0 := 0) kd_R_lay_112 (by assumption) h22 (by omega) (by decide) ?_
              refine z_topi eB ?_
              refine z_istore (lv' := [(6, .int _), (5, .int _), (4, .int _), (0, .ref (b + 20))]) kd_R_lay_113 (by decide) rfl ?_
              refine z_aload_n kd_R_lay_115 3 rfl ?_
              refine z_get kd_R_lay_116 (kf_R_9 _) h20 rfl ?_
              refine z_aload_n kd_R_lay_119 3 rfl ?_
              refine z_dup kd_R_lay_120 rfl ?_
              refine z_get kd_R_lay_121 (kf_R_47 _) h20 rfl ?_
              refine z_dup_x1 kd_R_lay_124 rfl rfl ?_
              refine z_iconst (v := 1) kd_R_lay_125 (by decide) ?_
              refine z_iadd kd_R_lay_126 ?_
              refine z_topi (nI_add len 1) ?_
              refine z_putE (fs' := [_, _, _, _, _]) kd_R_lay_127 (kp_R_47 _) h20 (Nat.le_of_ble_eq_true rfl) rfl rfl rfl ?_
              refine z_upd (fun σ_1 x20_1 q_1 => ?_)
              have hN_1 := hN.fr q_1 (by omega)
              have h5_1 := (q_1 5 (by omega)).trans h5
              have h6_1 := (q_1 6 (by omega)).trans h6
              have x21_1 := (q_1 21 (by omega)).trans h21
              have x22_1 := (q_1 22 (by omega)).trans h22
              refine z_iload kd_R_lay_130 0 rfl ?_
              refine z_iastN (t0 := 0) kd_R_lay_132 (by assumption) x21_1 (by omega) (by decide) ?_
              refine z_upd (fun σ_2 x21_2 q_2 => ?_)
              have hN_2 := hN_1.fr q_2 (by omega)
              have h5_2 := (q_2 5 (by omega)).trans h5_1
              have h6_2 := (q_2 6 (by omega)).trans h6_1
              have x20_2 := (q_2 20 (by omega)).trans x20_1
              have x22_2 := (q_2 22 (by omega)).trans x22_1
              refine z_aload_n kd_R_lay_133 3 rfl ?_
              refine z_get kd_R_lay_134 (kf_R_18 _) x20_2 rfl ?_
              refine z_get kd_R_lay_137 (kf_R_54 _) hN_2.h1 rfl ?_
              refine z_iload kd_R_lay_140 0 rfl ?_
              refine z_ialdN (t0 := 0) kd_R_lay_142 (by assumption) hN_2.h2 (by omega) (by decide) ?_
              refine z_topi (hN.hft k hk).1 ?_
              refine z_iload kd_R_lay_143 1 rfl ?_
              refine z_icmp_ne (tgt := 161) kd_R_lay_145 (by decide) (fun c145 => ?_) (fun c145 => ?_)
              · rw [if_neg (fun q => c145 (by rw [q]))] at hv
                refine z_aload_n kd_R_lay_161 3 rfl ?_
                refine z_get kd_R_lay_162 (kf_R_18 _) x20_2 rfl ?_
                refine z_get kd_R_lay_165 (kf_R_54 _) hN_2.h1 rfl ?_
                refine z_iload kd_R_lay_168 0 rfl ?_
                refine z_ialdN (t0 := 0) kd_R_lay_170 (by assumption) hN_2.h2 (by omega) (by decide) ?_
                refine z_topi (hN.hft k hk).1 ?_
                refine z_istore (lv' := [(5, .int _), (6, .int _), (4, .int _), (0, .ref (b + 20))]) kd_R_lay_171 (by decide) rfl ?_
                refine z_goto (tgt := 76) kd_R_lay_173 (by decide) ?_
                refine z_pick (lv' := [(5, .int _), (4, .int (nI beg)), (0, .ref (b + 20))]) [0, 2, 3] rfl ?_
                exact ih (len + 1) _ _ _ _ (by omega) (by assumption) hN_2 ⟨_, _, _, h5_2, h6_2⟩ x20_2 x21_2 x22_2 hB ((hF.tr q_1 (by omega)).tr q_2 (by omega)) hv
              · rw [if_pos ((nI_eq (by omega) (by omega)).mp c145)] at hv
                refine z_aload_n kd_R_lay_148 3 rfl ?_
                refine z_get kd_R_lay_149 (kf_R_18 _) x20_2 rfl ?_
                refine z_get kd_R_lay_152 (kf_R_61 _) hN_2.h1 rfl ?_
                refine z_iload kd_R_lay_155 0 rfl ?_
                refine z_ialdN (t0 := 0) kd_R_lay_157 (by assumption) hN_2.h3 (by omega) (by decide) ?_
                refine z_topi (hN.hft k hk).2.2.1 ?_
                refine z_goto (tgt := 171) kd_R_lay_158 (by decide) ?_
                refine z_istore (lv' := [(5, .int _), (6, .int _), (4, .int _), (0, .ref (b + 20))]) kd_R_lay_171 (by decide) rfl ?_
                refine z_goto (tgt := 76) kd_R_lay_173 (by decide) ?_
                refine z_pick (lv' := [(5, .int _), (4, .int (nI beg)), (0, .ref (b + 20))]) [0, 2, 3] rfl ?_
                exact ih (len + 1) _ _ _ _ (by omega) (by assumption) hN_2 ⟨_, _, _, h5_2, h6_2⟩ x20_2 x21_2 x22_2 hB ((hF.tr q_1 (by omega)).tr q_2 (by omega)) hv
