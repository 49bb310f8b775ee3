def bk (n i j : Nat) (M : Nat → Nat → Int64) : Nat → Nat → Int64 := fun p q => if (p < i ∧ q < n) ∨ (p = i ∧ q < j) then 0 else M p q
theorem bk_0 (n : Nat) (M : Nat → Nat → Int64) : bk n 0 0 M = M := by funext p q; exact if_neg (by omega)
theorem bk_n (n i : Nat) (M : Nat → Nat → Int64) : bk n i n M = bk n (i + 1) 0 M := by
  funext p q
  show (if _ then _ else _) = if _ then _ else _
  by_cases h : (p < i ∧ q < n) ∨ (p = i ∧ q < n)
  · rw [if_pos h, if_pos (by omega)]
  · rw [if_neg h, if_neg (by omega)]
theorem bk_s (n i j : Nat) (M : Nat → Nat → Int64) : mset (bk n i j M) i j 0 = bk n i (j + 1) M := by
  funext p q
  show (if _ then _ else (if _ then _ else _)) = if _ then _ else _
  by_cases h1 : p = i ∧ q = j
  · rw [if_pos h1, if_pos (by omega)]
  · rw [if_neg h1]
    by_cases h : (p < i ∧ q < n) ∨ (p = i ∧ q < j)
    · rw [if_pos h, if_pos (by omega)]
    · rw [if_neg h, if_neg (by omega)]
theorem GS.of {b : Nat} {cA cJ : ClassId} {σ : Nat → Option va_E} {s : Int32} {M M' : Nat → Nat → Int64} (h : GS b cA cJ σ s M) (e : M = M') : GS b cA cJ σ s M' := e ▸ h
theorem GR.of {b : Nat} {cA cJ : ClassId} {σ : Nat → Option va_E} {f : Nat → Option Nat} {r : Nat → Nat} {M M' : Nat → Nat → Int64} (h : GR b cA cJ σ f r M) (e : M = M') : GR b cA cJ σ f r M' := e ▸ h
set_option maxHeartbeats 4000000 in
set_option maxRecDepth 100000 in
theorem l_G_blank2 {l : Launch} {D : va_G} {tys : List (ClassId × FieldType)} {b N : Nat} {σ0 : Nat → Option va_E} {cI cJ cA : ClassId} (ht0 : tys[0]? = some (cI, .int)) (ht1 : tys[1]? = some (cJ, .long)) (ht3 : tys[3]? = some (cA, .array .long)) {n : Nat} (hn : n ≤ 10) {f : Nat → Option Nat} {r : Nat → Nat} {M : Nat → Nat → Int64} {R : Room} {Q : Outcome → Nat → (Nat → Option va_E) → Prop} {i : Nat} (hi : i < n) (hc : ∀ σ, σ 7 = some (.inr (3, [.int (nI n), .ref (b + 8)])) → GR b cA cJ σ f r (bk n i n M) → Fr 7 18 σ0 σ → Z l D kCl tys (kh_G_blank :: zT) kNw ky_G_blank.cls ky_G_blank.name kb_G_blank 4 none R b (zFi D kCl b 0 0 Q) 0 0 N (σ) 40 [(3, .int (nI n)), (2, .int (nI i)), (0, .ref (b + 7)), (1, .int (nI n))] []) : ∀ (m j : Nat) (σ : Nat → Option va_E), j + m = n → σ 7 = some (.inr (3, [.int (nI n), .ref (b + 8)])) → GR b cA cJ σ f r (bk n i j M) → Fr 7 18 σ0 σ → Z l D kCl tys (kh_G_blank :: zT) kNw ky_G_blank.cls ky_G_blank.name kb_G_blank 4 none R b (zFi D kCl b 0 0 Q) 0 0 N (σ) 17 [(3, .int (nI j)), (2, .int (nI i)), (0, .ref (b + 7)), (1, .int (nI n))] [] := by
  intro m
  induction m with
  | zero =>
    intro j σ hi0 h7 hG hF
    obtain rfl : j = n := by omega
    refine z_iload_n kd_G_blank_17 0 rfl ?_
    refine z_aload_n kd_G_blank_18 2 rfl ?_
    refine z_get kd_G_blank_19 (kf_G_16 _) h7 rfl ?_
    refine z_icmp_ge (tgt := 40) kd_G_blank_22 (by decide) (fun c22 => ?_) (fun c22 => ?_)
    · exact hc σ h7 hG hF
    · exact absurd (nI_le (Nat.le_refl j) (by omega)) c22
  | succ m ih =>
    intro j σ hi0 h7 hG hF
    have hlt : j < n := by omega
    refine z_iload_n kd_G_blank_17 0 rfl ?_
    refine z_aload_n kd_G_blank_18 2 rfl ?_
    refine z_get kd_G_blank_19 (kf_G_16 _) h7 rfl ?_
    refine z_icmp_ge (tgt := 40) kd_G_blank_22 (by decide) (fun c22 => ?_) (fun c22 => ?_)
    · exact absurd c22 (nI_ge hlt (by omega))
    · refine z_aload_n kd_G_blank_25 2 rfl ?_
      refine z_get kd_G_blank_26 (kf_G_11 _) h7 rfl ?_
      refine z_iload_n kd_G_blank_29 1 rfl ?_
      refine z_gal kd_G_blank_30 ht3 hG (by omega) ?_
      refine z_iload_n kd_G_blank_31 0 rfl ?_
      refine z_lconst (v := 0) kd_G_blank_32 (by decide +kernel) ?_
      refine z_gst kd_G_blank_33 ht1 hG (by omega) (by omega) (fun σ1 g1 q1 => ?_)
      refine z_iinc (v := (nI (j + 1))) (lv' := [(3, .int _), (2, .int _), (0, .ref (b + 7)), (1, .int _)]) kd_G_blank_34 0 rfl (nI_1 _) (by decide) rfl ?_
      refine z_goto (tgt := 17) kd_G_blank_37 (by decide) ?_
      exact ih (j + 1) _ (by omega) ((q1 7 (by omega)).trans h7) (g1.of (bk_s n i j M)) (Fr.tr hF (q1.wide (by omega) (by omega)))
set_option maxHeartbeats 4000000 in
set_option maxRecDepth 100000 in
theorem l_G_blank {l : Launch} {D : va_G} {tys : List (ClassId × FieldType)} {b N : Nat} {σ0 : Nat → Option va_E} {cI cJ cA : ClassId} (ht0 : tys[0]? = some (cI, .int)) (ht1 : tys[1]? = some (cJ, .long)) (ht3 : tys[3]? = some (cA, .array .long)) {n : Nat} (hn : n ≤ 10) {f : Nat → Option Nat} {r : Nat → Nat} {M : Nat → Nat → Int64} {R : Room} {Q : Outcome → Nat → (Nat → Option va_E) → Prop} (hQ : ∀ σ, σ 7 = some (.inr (3, [.int (nI n), .ref (b + 8)])) → GR b cA cJ σ f r (bk n n 0 M) → Fr 7 18 σ0 σ → Q (.returned none) N σ) : ∀ (m i : Nat) (σ : Nat → Option va_E), i + m = n → σ 7 = some (.inr (3, [.int (nI n), .ref (b + 8)])) → GR b cA cJ σ f r (bk n i 0 M) → Fr 7 18 σ0 σ → Z l D kCl tys (kh_G_blank :: zT) kNw ky_G_blank.cls ky_G_blank.name kb_G_blank 4 none R b (zFi D kCl b 0 0 Q) 0 0 N (σ) 7 [(2, .int (nI i)), (0, .ref (b + 7)), (1, .int (nI n))] [] := by
  intro m
  induction m with
  | zero =>
    intro i σ hi0 h7 hG hF
    obtain rfl : i = n := by omega
    refine z_iload_n kd_G_blank_7 0 rfl ?_
    refine z_aload_n kd_G_blank_8 1 rfl ?_
    refine z_get kd_G_blank_9 (kf_G_16 _) h7 rfl ?_
    refine z_icmp_ge (tgt := 46) kd_G_blank_12 (by decide) (fun c12 => ?_) (fun c12 => ?_)
    · exact z_vret kd_G_blank_46 rfl (Nat.le_of_ble_eq_true rfl) (Nat.le_of_ble_eq_true rfl) (hQ σ h7 hG hF)
    · exact absurd (nI_le (Nat.le_refl i) (by omega)) c12
  | succ m ih =>
    intro i σ hi0 h7 hG hF
    have hlt : i < n := by omega
    refine z_iload_n kd_G_blank_7 0 rfl ?_
    refine z_aload_n kd_G_blank_8 1 rfl ?_
    refine z_get kd_G_blank_9 (kf_G_16 _) h7 rfl ?_
    refine z_icmp_ge (tgt := 46) kd_G_blank_12 (by decide) (fun c12 => ?_) (fun c12 => ?_)
    · exact absurd c12 (nI_ge hlt (by omega))
    · refine z_iconst (v := 0) kd_G_blank_15 (by decide) ?_
      refine z_istore_n (lv' := [(3, .int _), (2, .int _), (0, .ref (b + 7)), (1, .int _)]) kd_G_blank_16 (by decide) rfl ?_
      refine l_G_blank2 ht0 ht1 ht3 hn hlt (fun σ h7 hG hF => ?_) n 0 σ (by omega) h7 hG hF
      refine z_iinc (v := (nI (i + 1))) (lv' := [(2, .int _), (3, .int _), (0, .ref (b + 7)), (1, .int _)]) kd_G_blank_40 1 rfl (nI_1 _) (by decide) rfl ?_
      refine z_goto (tgt := 7) kd_G_blank_43 (by decide) ?_
      refine z_pick (lv' := [(2, .int (nI (i + 1))), (0, .ref (b + 7)), (1, .int (nI n))]) [0, 2, 3] rfl ?_
      exact ih (i + 1) _ (by omega) h7 (hG.of (bk_n n i M)) hF
set_option maxHeartbeats 4000000 in
set_option maxRecDepth 100000 in
theorem c_G_blank {l : Launch} {D : va_G} {tys : List (ClassId × FieldType)} {b N : Nat} {σ : Nat → Option va_E} {cI cJ cA : ClassId} (ht0 : tys[0]? = some (cI, .int)) (ht1 : tys[1]? = some (cJ, .long)) (ht3 : tys[3]? = some (cA, .array .long)) {n : Nat} {s : Int32} {M : Nat → Nat → Int64} (hn : n ≤ 10) (hS : GS b cA cJ σ s M) : zM l D kCl tys kNw b ky_G_blank (kh_G_blank :: zT) 0 0 0 0 [.ref (b + 7), .int (nI n)] N σ (fun oc N' σ' => oc = .returned none ∧ N' = N ∧ GS b cA cJ σ' (nI n) (bk n n 0 M) ∧ Fr 7 18 σ σ') := by
  refine zM.of (by decide +kernel) rfl (Nat.le_of_ble_eq_true rfl) ?_
  refine z_pick (lv' := [(0, .ref (b + 7)), (1, .int (nI n))]) [0, 1] rfl ?_
  obtain ⟨h7, f, r, hG⟩ := hS
  refine z_aload_n kd_G_blank_0 0 rfl ?_
  refine z_iload_n kd_G_blank_1 1 rfl ?_
  refine z_putE (fs' := [_, _]) kd_G_blank_2 (kp_G_16 _) h7 (Nat.le_of_ble_eq_true rfl) rfl rfl rfl ?_
  refine z_iconst (v := 0) kd_G_blank_5 (by decide) ?_
  refine z_istore_n (lv' := [(2, .int _), (0, .ref (b + 7)), (1, .int _)]) kd_G_blank_6 (by decide) rfl ?_
  exact l_G_blank ht0 ht1 ht3 hn (fun σ' h7 hG hF => ⟨rfl, rfl, ⟨h7, f, r, hG⟩, hF⟩) n 0 _ (by omega) rfl ((hG.keep (fun k h1 h2 => zUp_n (by omega))).of (bk_0 n M).symm) (Fr.rf.up (by decide) (by decide))
def fbM (F T : Nat → Nat) (w : Nat → Int32) (M : Nat → Nat → Int64) : Nat → Nat → Nat → Int64
  | 0 => M
  | k + 1 => abw (fbM F T w M k) (F k) (T k) (w k).toInt64
set_option maxHeartbeats 4000000 in
set_option maxRecDepth 100000 in
theorem l_G_fillBothWays {l : Launch} {D : va_G} {tys : List (ClassId × FieldType)} {b N : Nat} {σ0 : Nat → Option va_E} {cI cJ cA : ClassId} (ht0 : tys[0]? = some (cI, .int)) (ht1 : tys[1]? = some (cJ, .long)) (ht3 : tys[3]? = some (cA, .array .long)) {n a : Nat} {gf gt gw : Nat → Int32} {F T : Nat → Nat} (ha : a ≤ 30) (h1 : σ0 1 = some (.inr (1, [.int (nI n), .int (nI a), .ref (b + 2), .ref (b + 3), .ref (b + 4)]))) (h2 : σ0 2 = some (.inl (cI, 30, .inl gf))) (h3 : σ0 3 = some (.inl (cI, 30, .inl gt))) (h4 : σ0 4 = some (.inl (cI, 30, .inl gw))) (hft : ∀ k, k < a → gf k = nI (F k) ∧ F k < 10 ∧ gt k = nI (T k) ∧ T k < 10) {s : Int32} {M : Nat → Nat → Int64} {Q : Outcome → Nat → (Nat → Option va_E) → Prop} (hQ : ∀ σ, GS b cA cJ σ s (fbM F T gw M a) → Fr 7 18 σ0 σ → Q (.returned none) N σ) : ∀ (m k : Nat) (σ : Nat → Option va_E), k + m = a → GS b cA cJ σ s (fbM F T gw M k) → Fr 7 18 σ0 σ → Z l D kCl tys (kh_G_fillBothWays :: zT) kNw ky_G_fillBothWays.cls ky_G_fillBothWays.name kb_G_fillBothWays 3 none { frames := 2, cells := 0, slots := 0, locals := 90 } b (zFi D kCl b 0 0 Q) 0 0 N (σ) 10 [(2, .int (nI k)), (0, .ref (b + 7)), (1, .ref (b + 1))] [] := by
  intro m
  induction m with
  | zero =>
    intro k σ hi0 hS hF
    obtain rfl : k = a := by omega
    refine z_iload_n kd_G_fillBothWays_10 0 rfl ?_
    refine z_aload_n kd_G_fillBothWays_11 2 rfl ?_
    refine z_get kd_G_fillBothWays_12 (kf_G_33 _) ((hF 1 (by omega)).trans h1) rfl ?_
    refine z_icmp_ge (tgt := 46) kd_G_fillBothWays_15 (by decide) (fun c15 => ?_) (fun c15 => ?_)
    · exact z_vret kd_G_fillBothWays_46 rfl (Nat.le_of_ble_eq_true rfl) (Nat.le_of_ble_eq_true rfl) (hQ σ hS hF)
    · exact absurd (nI_le (Nat.le_refl k) (by omega)) c15
  | succ m ih =>
    intro k σ hi0 hS hF
    have hlt : k < a := by omega
    refine z_iload_n kd_G_fillBothWays_10 0 rfl ?_
    refine z_aload_n kd_G_fillBothWays_11 2 rfl ?_
    refine z_get kd_G_fillBothWays_12 (kf_G_33 _) ((hF 1 (by omega)).trans h1) rfl ?_
    refine z_icmp_ge (tgt := 46) kd_G_fillBothWays_15 (by decide) (fun c15 => ?_) (fun c15 => ?_)
    · exact absurd c15 (nI_ge hlt (by omega))
    · refine z_aload_n kd_G_fillBothWays_18 1 rfl ?_
      refine z_aload_n kd_G_fillBothWays_19 2 rfl ?_
      refine z_get kd_G_fillBothWays_20 (kf_G_36 _) ((hF 1 (by omega)).trans h1) rfl ?_
      refine z_iload_n kd_G_fillBothWays_23 0 rfl ?_
      refine z_ialdN (t0 := 0) kd_G_fillBothWays_24 (by assumption) ((hF 2 (by omega)).trans h2) (by omega) (by decide) ?_
      refine z_aload_n kd_G_fillBothWays_25 2 rfl ?_
      refine z_get kd_G_fillBothWays_26 (kf_G_40 _) ((hF 1 (by omega)).trans h1) rfl ?_
      refine z_iload_n kd_G_fillBothWays_29 0 rfl ?_
      refine z_ialdN (t0 := 0) kd_G_fillBothWays_30 (by assumption) ((hF 3 (by omega)).trans h3) (by omega) (by decide) ?_
      refine z_aload_n kd_G_fillBothWays_31 2 rfl ?_
      refine z_get kd_G_fillBothWays_32 (kf_G_43 _) ((hF 1 (by omega)).trans h1) rfl ?_
      refine z_iload_n kd_G_fillBothWays_35 0 rfl ?_
      refine z_ialdN (t0 := 0) kd_G_fillBothWays_36 (by assumption) ((hF 4 (by omega)).trans h4) (by omega) (by decide) ?_
      rw [(hft k hlt).1, (hft k hlt).2.2.1]
      refine z_callV (a := 7) (As := [_, _, _]) kd_G_fillBothWays_37 (kg_G_46 _) hS.1 kc_G (c_G_addBothWays ht0 ht1 ht3 (hft k hlt).2.1 (hft k hlt).2.2.2 hS) rfl rfl (Nat.le_of_ble_eq_true rfl) ⟨Nat.le_of_ble_eq_true rfl, Nat.le_of_ble_eq_true rfl⟩ ⟨Nat.le_of_ble_eq_true rfl, Nat.le_of_ble_eq_true rfl⟩ ?_
      rintro _ _ σ1 ⟨hv, rfl, hS1, q1⟩
      cases hv
      refine z_eq (st' := []) rfl rfl rfl rfl ?_
      refine z_iinc (v := (nI (k + 1))) (lv' := [(2, .int _), (0, .ref (b + 7)), (1, .ref (b + 1))]) kd_G_fillBothWays_40 0 rfl (nI_1 _) (by decide) rfl ?_
      refine z_goto (tgt := 10) kd_G_fillBothWays_43 (by decide) ?_
      exact ih (k + 1) _ (by omega) hS1 (Fr.tr hF q1)
set_option maxHeartbeats 4000000 in
set_option maxRecDepth 100000 in
theorem c_G_fillBothWays {l : Launch} {D : va_G} {tys : List (ClassId × FieldType)} {b N : Nat} {σ : Nat → Option va_E} {cI cJ cA : ClassId} (ht0 : tys[0]? = some (cI, .int)) (ht1 : tys[1]? = some (cJ, .long)) (ht3 : tys[3]? = some (cA, .array .long)) {n a : Nat} {gf gt gw : Nat → Int32} {F T : Nat → Nat} (ha : a ≤ 30) (h1 : σ 1 = some (.inr (1, [.int (nI n), .int (nI a), .ref (b + 2), .ref (b + 3), .ref (b + 4)]))) (h2 : σ 2 = some (.inl (cI, 30, .inl gf))) (h3 : σ 3 = some (.inl (cI, 30, .inl gt))) (h4 : σ 4 = some (.inl (cI, 30, .inl gw))) (hft : ∀ k, k < a → gf k = nI (F k) ∧ F k < 10 ∧ gt k = nI (T k) ∧ T k < 10) {s : Int32} {M : Nat → Nat → Int64} (hn : n ≤ 10) (hS : GS b cA cJ σ s M) : zM l D kCl tys kNw b ky_G_fillBothWays (kh_G_fillBothWays :: zT) 2 90 0 0 [.ref (b + 7), .ref (b + 1)] N σ (fun oc N' σ' => oc = .returned none ∧ N' = N ∧ GS b cA cJ σ' (nI n) (fbM F T gw (bk n n 0 M) a) ∧ Fr 7 18 σ σ') := by
  refine zM.of (by decide +kernel) rfl (Nat.le_of_ble_eq_true rfl) ?_
  refine z_pick (lv' := [(0, .ref (b + 7)), (1, .ref (b + 1))]) [0, 1] rfl ?_
  obtain ⟨h7, f, r, hG⟩ := hS
  refine z_aload_n kd_G_fillBothWays_0 0 rfl ?_
  refine z_aload_n kd_G_fillBothWays_1 1 rfl ?_
  refine z_get kd_G_fillBothWays_2 (kf_G_24 _) h1 rfl ?_
  refine z_callV (a := 7) (As := [_]) kd_G_fillBothWays_5 (kg_G_29 _) h7 kc_G (c_G_blank ht0 ht1 ht3 hn ⟨h7, f, r, hG⟩) rfl rfl (Nat.le_of_ble_eq_true rfl) ⟨Nat.le_of_ble_eq_true rfl, Nat.le_of_ble_eq_true rfl⟩ ⟨Nat.le_of_ble_eq_true rfl, Nat.le_of_ble_eq_true rfl⟩ ?_
  rintro _ _ σ1 ⟨hv, rfl, hS1, q1⟩
  cases hv
  refine z_eq (st' := []) rfl rfl rfl rfl ?_
  refine z_iconst (v := 0) kd_G_fillBothWays_8 (by decide) ?_
  refine z_istore_n (lv' := [(2, .int _), (0, .ref (b + 7)), (1, .ref (b + 1))]) kd_G_fillBothWays_9 (by decide) rfl ?_
  exact l_G_fillBothWays ht0 ht1 ht3 ha h1 h2 h3 h4 hft (fun σ hS hF => ⟨rfl, rfl, hS, hF⟩) a 0 _ (by omega) hS1 q1
def foM (F T : Nat → Nat) (w : Nat → Int32) (M : Nat → Nat → Int64) : Nat → Nat → Nat → Int64
  | 0 => M
  | k + 1 => a1w (foM F T w M k) (F k) (T k) (w k).toInt64
set_option maxHeartbeats 4000000 in
set_option maxRecDepth 100000 in
theorem l_G_fillOneWay {l : Launch} {D : va_G} {tys : List (ClassId × FieldType)} {b N : Nat} {σ0 : Nat → Option va_E} {cI cJ cA : ClassId} (ht0 : tys[0]? = some (cI, .int)) (ht1 : tys[1]? = some (cJ, .long)) (ht3 : tys[3]? = some (cA, .array .long)) {n a : Nat} {gf gt gw : Nat → Int32} {F T : Nat → Nat} (ha : a ≤ 30) (h1 : σ0 1 = some (.inr (1, [.int (nI n), .int (nI a), .ref (b + 2), .ref (b + 3), .ref (b + 4)]))) (h2 : σ0 2 = some (.inl (cI, 30, .inl gf))) (h3 : σ0 3 = some (.inl (cI, 30, .inl gt))) (h4 : σ0 4 = some (.inl (cI, 30, .inl gw))) (hft : ∀ k, k < a → gf k = nI (F k) ∧ F k < 10 ∧ gt k = nI (T k) ∧ T k < 10) {s : Int32} {M : Nat → Nat → Int64} {Q : Outcome → Nat → (Nat → Option va_E) → Prop} (hQ : ∀ σ, GS b cA cJ σ s (foM F T gw M a) → Fr 7 18 σ0 σ → Q (.returned none) N σ) : ∀ (m k : Nat) (σ : Nat → Option va_E), k + m = a → GS b cA cJ σ s (foM F T gw M k) → Fr 7 18 σ0 σ → Z l D kCl tys (kh_G_fillOneWay :: zT) kNw ky_G_fillOneWay.cls ky_G_fillOneWay.name kb_G_fillOneWay 3 none { frames := 2, cells := 0, slots := 0, locals := 90 } b (zFi D kCl b 0 0 Q) 0 0 N (σ) 10 [(2, .int (nI k)), (0, .ref (b + 7)), (1, .ref (b + 1))] [] := by
  intro m
  induction m with
  | zero =>
    intro k σ hi0 hS hF
    obtain rfl : k = a := by omega
    refine z_iload_n kd_G_fillOneWay_10 0 rfl ?_
    refine z_aload_n kd_G_fillOneWay_11 2 rfl ?_
    refine z_get kd_G_fillOneWay_12 (kf_G_33 _) ((hF 1 (by omega)).trans h1) rfl ?_
    refine z_icmp_ge (tgt := 46) kd_G_fillOneWay_15 (by decide) (fun c15 => ?_) (fun c15 => ?_)
    · exact z_vret kd_G_fillOneWay_46 rfl (Nat.le_of_ble_eq_true rfl) (Nat.le_of_ble_eq_true rfl) (hQ σ hS hF)
    · exact absurd (nI_le (Nat.le_refl k) (by omega)) c15
  | succ m ih =>
    intro k σ hi0 hS hF
    have hlt : k < a := by omega
    refine z_iload_n kd_G_fillOneWay_10 0 rfl ?_
    refine z_aload_n kd_G_fillOneWay_11 2 rfl ?_
    refine z_get kd_G_fillOneWay_12 (kf_G_33 _) ((hF 1 (by omega)).trans h1) rfl ?_
    refine z_icmp_ge (tgt := 46) kd_G_fillOneWay_15 (by decide) (fun c15 => ?_) (fun c15 => ?_)
    · exact absurd c15 (nI_ge hlt (by omega))
    · refine z_aload_n kd_G_fillOneWay_18 1 rfl ?_
      refine z_aload_n kd_G_fillOneWay_19 2 rfl ?_
      refine z_get kd_G_fillOneWay_20 (kf_G_36 _) ((hF 1 (by omega)).trans h1) rfl ?_
      refine z_iload_n kd_G_fillOneWay_23 0 rfl ?_
      refine z_ialdN (t0 := 0) kd_G_fillOneWay_24 (by assumption) ((hF 2 (by omega)).trans h2) (by omega) (by decide) ?_
      refine z_aload_n kd_G_fillOneWay_25 2 rfl ?_
      refine z_get kd_G_fillOneWay_26 (kf_G_40 _) ((hF 1 (by omega)).trans h1) rfl ?_
      refine z_iload_n kd_G_fillOneWay_29 0 rfl ?_
      refine z_ialdN (t0 := 0) kd_G_fillOneWay_30 (by assumption) ((hF 3 (by omega)).trans h3) (by omega) (by decide) ?_
      refine z_aload_n kd_G_fillOneWay_31 2 rfl ?_
      refine z_get kd_G_fillOneWay_32 (kf_G_43 _) ((hF 1 (by omega)).trans h1) rfl ?_
      refine z_iload_n kd_G_fillOneWay_35 0 rfl ?_
      refine z_ialdN (t0 := 0) kd_G_fillOneWay_36 (by assumption) ((hF 4 (by omega)).trans h4) (by omega) (by decide) ?_
      rw [(hft k hlt).1, (hft k hlt).2.2.1]
      refine z_callV (a := 7) (As := [_, _, _]) kd_G_fillOneWay_37 (kg_G_20 _) hS.1 kc_G (c_G_addOneWay ht0 ht1 ht3 (hft k hlt).2.1 (hft k hlt).2.2.2 hS) rfl rfl (Nat.le_of_ble_eq_true rfl) ⟨Nat.le_of_ble_eq_true rfl, Nat.le_of_ble_eq_true rfl⟩ ⟨Nat.le_of_ble_eq_true rfl, Nat.le_of_ble_eq_true rfl⟩ ?_
      rintro _ _ σ1 ⟨hv, rfl, hS1, q1⟩
      cases hv
      refine z_eq (st' := []) rfl rfl rfl rfl ?_
      refine z_iinc (v := (nI (k + 1))) (lv' := [(2, .int _), (0, .ref (b + 7)), (1, .ref (b + 1))]) kd_G_fillOneWay_40 0 rfl (nI_1 _) (by decide) rfl ?_
      refine z_goto (tgt := 10) kd_G_fillOneWay_43 (by decide) ?_
      exact ih (k + 1) _ (by omega) hS1 (Fr.tr hF q1)
set_option maxHeartbeats 4000000 in
set_option maxRecDepth 100000 in
theorem c_G_fillOneWay {l : Launch} {D : va_G} {tys : List (ClassId × FieldType)} {b N : Nat} {σ : Nat → Option va_E} {cI cJ cA : ClassId} (ht0 : tys[0]? = some (cI, .int)) (ht1 : tys[1]? = some (cJ, .long)) (ht3 : tys[3]? = some (cA, .array .long)) {n a : Nat} {gf gt gw : Nat → Int32} {F T : Nat → Nat} (ha : a ≤ 30) (h1 : σ 1 = some (.inr (1, [.int (nI n), .int (nI a), .ref (b + 2), .ref (b + 3), .ref (b + 4)]))) (h2 : σ 2 = some (.inl (cI, 30, .inl gf))) (h3 : σ 3 = some (.inl (cI, 30, .inl gt))) (h4 : σ 4 = some (.inl (cI, 30, .inl gw))) (hft : ∀ k, k < a → gf k = nI (F k) ∧ F k < 10 ∧ gt k = nI (T k) ∧ T k < 10) {s : Int32} {M : Nat → Nat → Int64} (hn : n ≤ 10) (hS : GS b cA cJ σ s M) : zM l D kCl tys kNw b ky_G_fillOneWay (kh_G_fillOneWay :: zT) 2 90 0 0 [.ref (b + 7), .ref (b + 1)] N σ (fun oc N' σ' => oc = .returned none ∧ N' = N ∧ GS b cA cJ σ' (nI n) (foM F T gw (bk n n 0 M) a) ∧ Fr 7 18 σ σ') := by
  refine zM.of (by decide +kernel) rfl (Nat.le_of_ble_eq_true rfl) ?_
  refine z_pick (lv' := [(0, .ref (b + 7)), (1, .ref (b + 1))]) [0, 1] rfl ?_
  obtain ⟨h7, f, r, hG⟩ := hS
  refine z_aload_n kd_G_fillOneWay_0 0 rfl ?_
  refine z_aload_n kd_G_fillOneWay_1 1 rfl ?_
  refine z_get kd_G_fillOneWay_2 (kf_G_24 _) h1 rfl ?_
  refine z_callV (a := 7) (As := [_]) kd_G_fillOneWay_5 (kg_G_29 _) h7 kc_G (c_G_blank ht0 ht1 ht3 hn ⟨h7, f, r, hG⟩) rfl rfl (Nat.le_of_ble_eq_true rfl) ⟨Nat.le_of_ble_eq_true rfl, Nat.le_of_ble_eq_true rfl⟩ ⟨Nat.le_of_ble_eq_true rfl, Nat.le_of_ble_eq_true rfl⟩ ?_
  rintro _ _ σ1 ⟨hv, rfl, hS1, q1⟩
  cases hv
  refine z_eq (st' := []) rfl rfl rfl rfl ?_
  refine z_iconst (v := 0) kd_G_fillOneWay_8 (by decide) ?_
  refine z_istore_n (lv' := [(2, .int _), (0, .ref (b + 7)), (1, .ref (b + 1))]) kd_G_fillOneWay_9 (by decide) rfl ?_
  exact l_G_fillOneWay ht0 ht1 ht3 ha h1 h2 h3 h4 hft (fun σ hS hF => ⟨rfl, rfl, hS, hF⟩) a 0 _ (by omega) hS1 q1
