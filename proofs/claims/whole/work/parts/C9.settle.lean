def ag (n : Nat) (L L' : Nat → Int64) : Prop := ∀ j, j < n → L j = L' j
theorem ag.up {n v : Nat} {L L' : Nat → Int64} {x y : Int64} (h : ag n L L') (e : x = y) : ag n (vp_updL L v x) (vp_updL L' v y) := by
  intro j hj
  unfold vp_updL
  by_cases c : j = v
  · rw [if_pos c, if_pos c, e]
  · rw [if_neg c, if_neg c]; exact h j hj
theorem ag.fn {n a : Nat} {F T : Nat → Nat} {w : Nat → Int32} {v : Nat} {q : Int64} (hft : ∀ k, k < a → F k < n ∧ T k < n) (hv : v < n) : ∀ (m k : Nat) (L L' : Nat → Int64), k + m = a → ag n L L' → ag n (fnL F T w v q m k L) (fnL F T w v q m k L') := by
  intro m
  induction m with
  | zero => intro k L L' _ h; exact h
  | succ m ih =>
    intro k L L' hk h
    unfold fnL
    refine ih (k + 1) _ _ (by omega) ?_
    split
    · unfold fnS
      have ho : otN F T v k < n := by unfold otN; split; exact (hft k (by omega)).2; exact (hft k (by omega)).1
      have h1 : ag n (vp_updL L v (L v - q * (w k).toInt64)) (vp_updL L' v (L' v - q * (w k).toInt64)) := h.up (by rw [h v hv])
      exact h1.up (by rw [h1 _ ho])
    · exact h
def ag4 (n : Nat) (x y : (Nat → Int64) × (Nat → Int64) × Int64 × Bool) : Prop := ag n x.1 y.1 ∧ ag n x.2.1 y.2.1 ∧ x.2.2 = y.2.2
theorem ag.sp {n a s : Nat} {F T : Nat → Nat} {w : Nat → Int32} (hft : ∀ k, k < a → F k < n ∧ T k < n) : ∀ (m v : Nat) (L L' G G' : Nat → Int64) (al : Int64) (go : Bool), v + m = n → ag n L L' → ag n G G' → ag4 n (spI F T w a s m v L G al go) (spI F T w a s m v L' G' al go) := by
  intro m
  induction m with
  | zero => intro v L L' G G' al go _ h1 h2; exact ⟨h1, h2, rfl⟩
  | succ m ih =>
    intro v L L' G G' al go hv h1 h2
    have hvn : v < n := by omega
    unfold spI
    rw [h1 v hvn, h2 v hvn]
    split
    · exact ih (v + 1) _ _ _ _ _ _ (by omega) (ag.fn hft hvn a 0 _ _ (by omega) h1) (h2.up rfl)
    · exact ih (v + 1) _ _ _ _ _ _ (by omega) h1 h2
theorem ag.spo {n a s : Nat} {F T : Nat → Nat} {w : Nat → Int32} (hft : ∀ k, k < a → F k < n ∧ T k < n) : ∀ (f : Nat) (L L' G G' : Nat → Int64) (al : Int64) (val : (Nat → Int64) × (Nat → Int64) × Int64), ag n L L' → ag n G G' → spO F T w n a s f L G al = some val → ∃ val', spO F T w n a s f L' G' al = some val' ∧ ag n val.1 val'.1 ∧ ag n val.2.1 val'.2.1 ∧ val.2.2 = val'.2.2 := by
  intro f
  induction f with
  | zero => intro L L' G G' al val _ _ h; cases h
  | succ f ih =>
    intro L L' G G' al val h1 h2 hv
    obtain ⟨e1, e2, e3⟩ := ag.sp (w := w) (s := s) hft n 0 L L' G G' al false (by omega) h1 h2
    unfold spO at hv ⊢
    rw [e3] at hv
    by_cases c : (spI F T w a s n 0 L' G' al false).2.2.2 = true
    · rw [if_pos c] at hv ⊢
      exact ih _ _ _ _ _ _ e1 e2 hv
    · rw [if_neg c] at hv ⊢
      cases hv
      exact ⟨_, rfl, e1, e2, rfl⟩
theorem ag.bp {n : Nat} {C L L' : Nat → Int64} : ag n (bpL n C L) (bpL n C L') := by
  intro j hj
  unfold bpL
  rw [if_pos hj, if_pos hj]
theorem ag.bpE {n : Nat} {L L' C : Nat → Int64} (h : ag n L L') : bpL n L C = bpL n L' C := by
  funext j
  unfold bpL
  by_cases c : j < n
  · rw [if_pos c, if_pos c]; exact h j c
  · rw [if_neg c, if_neg c]
def zz : Nat → Int64 := fun _ => 0
set_option maxHeartbeats 4000000 in
set_option maxRecDepth 100000 in
theorem c_M_settle0 {l : Launch} {D : va_G} {tys : List (ClassId × FieldType)} {b N : Nat} {σ : Nat → Option va_E} {cI cJ cA : ClassId} (ht0 : tys[0]? = some (cI, .int)) (ht1 : tys[1]? = some (cJ, .long)) (ht3 : tys[3]? = some (cA, .array .long)) {cZ : ClassId} (ht2 : tys[2]? = some (cZ, .boolean)) {n a : Nat} {gf gt gw : Nat → Int32} {F T : Nat → Nat} {C K : Nat → Int64} (hMS : MS b cI cJ cZ σ n a gf gt gw F T C K) {x : Int32} (hz : zIn x (nI n) = false) : zM l D kCl tys kNw b ky_M_settle (kh_M_settle :: zT) 10 360 0 0 [.ref (b + 54), .int x] N σ ((fun oc N' σ' => oc = .returned (some (.long (-1))) ∧ N' = N ∧ MS b cI cJ cZ σ' n a gf gt gw F T C K ∧ Fr 54 73 σ σ')) := by
  refine zM.of (by decide +kernel) rfl (Nat.le_of_ble_eq_true rfl) ?_
  refine z_pick (lv' := [(0, .ref (b + 54)), (1, .int x)]) [0, 1] rfl ?_
  obtain ⟨⟨th, fa, ls, rm, hM⟩, h58, h59, ⟨g60, h60⟩, ⟨g61, h61⟩, ⟨g62, h62⟩, ⟨g63, h63⟩, ⟨g64, h64⟩, ⟨g65, h65⟩, ⟨g66, h66⟩, ⟨g67, h67⟩, ⟨g68, h68⟩, ⟨g69, h69⟩, ⟨g70, h70⟩, ⟨g71, h71⟩, ⟨g72, h72⟩, ⟨g73, h73⟩⟩ := hMS
  have hn := hM.hn
  have ha := hM.ha
  refine z_aload_n kd_M_settle_0 0 rfl ?_
  refine z_iconst (v := 0) kd_M_settle_1 (by decide) ?_
  refine z_putE (fs' := [_, _, _, _, _, _, _, _, _, _, _, _, _, _, _, _, _, _, _, _, _, _, _, _, _]) kd_M_settle_2 (kp_M_69 _) hM.h1 (Nat.le_of_ble_eq_true rfl) rfl rfl rfl ?_
  refine z_upd (fun σ_1 x54_1 q_1 => ?_)
  have x58_1 := (q_1 58 (by omega)).trans h58
  have x59_1 := (q_1 59 (by omega)).trans h59
  have x60_1 := (q_1 60 (by omega)).trans h60
  have x61_1 := (q_1 61 (by omega)).trans h61
  have x62_1 := (q_1 62 (by omega)).trans h62
  have x63_1 := (q_1 63 (by omega)).trans h63
  have x64_1 := (q_1 64 (by omega)).trans h64
  have x65_1 := (q_1 65 (by omega)).trans h65
  have x66_1 := (q_1 66 (by omega)).trans h66
  have x67_1 := (q_1 67 (by omega)).trans h67
  have x68_1 := (q_1 68 (by omega)).trans h68
  have x69_1 := (q_1 69 (by omega)).trans h69
  have x70_1 := (q_1 70 (by omega)).trans h70
  have x71_1 := (q_1 71 (by omega)).trans h71
  have x72_1 := (q_1 72 (by omega)).trans h72
  have x73_1 := (q_1 73 (by omega)).trans h73
  have hM_1 := hM.put x54_1 q_1
  refine z_aload_n kd_M_settle_5 0 rfl ?_
  refine z_iload_n kd_M_settle_6 1 rfl ?_
  refine z_V1 (a := 54) (As := [_]) kd_M_settle_7 (kg_M_76 _) hM_1.h1 kc_M (c_M_isNode ht0 ht1 ht3 hM_1) rfl rfl (Nat.le_of_ble_eq_true rfl) ⟨Nat.le_of_ble_eq_true rfl, Nat.le_of_ble_eq_true rfl⟩ ⟨Nat.le_of_ble_eq_true rfl, Nat.le_of_ble_eq_true rfl⟩ ?_
  refine z_topi (show zB (zIn x (nI n)) = 0 by rw [hz]; rfl) ?_
  refine z_if_eq (tgt := 22) kd_M_settle_10 (by decide) (fun c10 => ?_) (fun c10 => absurd c10 (by decide))
  refine z_ldc2 (v := -1) kd_M_settle_22 (List.mem_cons_of_mem _ (zin 918 rfl rfl)) ?_
  exact z_lret kd_M_settle_25 rfl (Nat.le_of_ble_eq_true rfl) (Nat.le_of_ble_eq_true rfl) ⟨rfl, rfl, ⟨⟨_, _, _, _, hM_1⟩, x58_1, x59_1, ⟨_, x60_1⟩, ⟨_, x61_1⟩, ⟨_, x62_1⟩, ⟨_, x63_1⟩, ⟨_, x64_1⟩, ⟨_, x65_1⟩, ⟨_, x66_1⟩, ⟨_, x67_1⟩, ⟨_, x68_1⟩, ⟨_, x69_1⟩, ⟨_, x70_1⟩, ⟨_, x71_1⟩, ⟨_, x72_1⟩, ⟨_, x73_1⟩⟩, (Fr.tr Fr.rf (q_1.wide (by omega) (by omega)))⟩
set_option maxHeartbeats 4000000 in
set_option maxRecDepth 100000 in
theorem c_M_settle1 {l : Launch} {D : va_G} {tys : List (ClassId × FieldType)} {b N : Nat} {σ : Nat → Option va_E} {cI cJ cA : ClassId} (ht0 : tys[0]? = some (cI, .int)) (ht1 : tys[1]? = some (cJ, .long)) (ht3 : tys[3]? = some (cA, .array .long)) {cZ : ClassId} (ht2 : tys[2]? = some (cZ, .boolean)) {n a : Nat} {gf gt gw : Nat → Int32} {F T : Nat → Nat} {C K : Nat → Int64} (hMS : MS b cI cJ cZ σ n a gf gt gw F T C K) {s : Nat} (hs0 : s < n) (hz : zIn (nI s) (nI n) = true) (h0 : cnV n a F T gw x0 (fun v => v) = 0) : zM l D kCl tys kNw b ky_M_settle (kh_M_settle :: zT) 10 360 0 0 [.ref (b + 54), .int (nI s)] N σ ((fun oc N' σ' => oc = .returned (some (.long (-1))) ∧ N' = N ∧ MS b cI cJ cZ σ' n a gf gt gw F T C K ∧ Fr 54 73 σ σ')) := by
  refine zM.of (by decide +kernel) rfl (Nat.le_of_ble_eq_true rfl) ?_
  refine z_pick (lv' := [(0, .ref (b + 54)), (1, .int (nI s))]) [0, 1] rfl ?_
  obtain ⟨⟨th, fa, ls, rm, hM⟩, h58, h59, ⟨g60, h60⟩, ⟨g61, h61⟩, ⟨g62, h62⟩, ⟨g63, h63⟩, ⟨g64, h64⟩, ⟨g65, h65⟩, ⟨g66, h66⟩, ⟨g67, h67⟩, ⟨g68, h68⟩, ⟨g69, h69⟩, ⟨g70, h70⟩, ⟨g71, h71⟩, ⟨g72, h72⟩, ⟨g73, h73⟩⟩ := hMS
  have hn := hM.hn
  have ha := hM.ha
  refine z_aload_n kd_M_settle_0 0 rfl ?_
  refine z_iconst (v := 0) kd_M_settle_1 (by decide) ?_
  refine z_putE (fs' := [_, _, _, _, _, _, _, _, _, _, _, _, _, _, _, _, _, _, _, _, _, _, _, _, _]) kd_M_settle_2 (kp_M_69 _) hM.h1 (Nat.le_of_ble_eq_true rfl) rfl rfl rfl ?_
  refine z_upd (fun σ_1 x54_1 q_1 => ?_)
  have x58_1 := (q_1 58 (by omega)).trans h58
  have x59_1 := (q_1 59 (by omega)).trans h59
  have x60_1 := (q_1 60 (by omega)).trans h60
  have x61_1 := (q_1 61 (by omega)).trans h61
  have x62_1 := (q_1 62 (by omega)).trans h62
  have x63_1 := (q_1 63 (by omega)).trans h63
  have x64_1 := (q_1 64 (by omega)).trans h64
  have x65_1 := (q_1 65 (by omega)).trans h65
  have x66_1 := (q_1 66 (by omega)).trans h66
  have x67_1 := (q_1 67 (by omega)).trans h67
  have x68_1 := (q_1 68 (by omega)).trans h68
  have x69_1 := (q_1 69 (by omega)).trans h69
  have x70_1 := (q_1 70 (by omega)).trans h70
  have x71_1 := (q_1 71 (by omega)).trans h71
  have x72_1 := (q_1 72 (by omega)).trans h72
  have x73_1 := (q_1 73 (by omega)).trans h73
  have hM_1 := hM.put x54_1 q_1
  refine z_aload_n kd_M_settle_5 0 rfl ?_
  refine z_iload_n kd_M_settle_6 1 rfl ?_
  refine z_V1 (a := 54) (As := [_]) kd_M_settle_7 (kg_M_76 _) hM_1.h1 kc_M (c_M_isNode ht0 ht1 ht3 hM_1) rfl rfl (Nat.le_of_ble_eq_true rfl) ⟨Nat.le_of_ble_eq_true rfl, Nat.le_of_ble_eq_true rfl⟩ ⟨Nat.le_of_ble_eq_true rfl, Nat.le_of_ble_eq_true rfl⟩ ?_
  refine z_topi (show zB (zIn (nI s) (nI n)) = 1 by rw [hz]; rfl) ?_
  refine z_if_eq (tgt := 22) kd_M_settle_10 (by decide) (fun c10 => absurd c10 (by decide)) (fun c10 => ?_)
  refine z_aload_n kd_M_settle_13 0 rfl ?_
  refine z_callV (a := 54) (As := []) kd_M_settle_14 (kg_M_133 _) hM_1.h1 kc_M (c_M_trees ht0 ht1 ht3 ht2 ⟨⟨_, _, _, _, hM_1⟩, x58_1, x59_1, ⟨_, x60_1⟩, ⟨_, x61_1⟩, ⟨_, x62_1⟩, ⟨_, x63_1⟩, ⟨_, x64_1⟩, ⟨_, x65_1⟩, ⟨_, x66_1⟩, ⟨_, x67_1⟩, ⟨_, x68_1⟩, ⟨_, x69_1⟩, ⟨_, x70_1⟩, ⟨_, x71_1⟩, ⟨_, x72_1⟩, ⟨_, x73_1⟩⟩) rfl rfl (Nat.le_of_ble_eq_true rfl) ⟨Nat.le_of_ble_eq_true rfl, Nat.le_of_ble_eq_true rfl⟩ ⟨Nat.le_of_ble_eq_true rfl, Nat.le_of_ble_eq_true rfl⟩ ?_
  rintro _ _ σ_2 ⟨hv, rfl, ⟨⟨th_2, fa_2, ls_2, rm_2, hM_2⟩, h58_2, h59_2, ⟨g60_2, h60_2⟩, ⟨g61_2, h61_2⟩, ⟨g62_2, h62_2⟩, ⟨g63_2, h63_2⟩, ⟨g64_2, h64_2⟩, ⟨g65_2, h65_2⟩, ⟨g66_2, h66_2⟩, ⟨g67_2, h67_2⟩, ⟨g68_2, h68_2⟩, ⟨g69_2, h69_2⟩, ⟨g70_2, h70_2⟩, ⟨g71_2, h71_2⟩, ⟨g72_2, h72_2⟩, ⟨g73_2, h73_2⟩⟩, ⟨g2_2, g3_2, x62_2, hp_2, x63_2, hX_2⟩, q_2⟩
  cases hv
  refine z_eq (st' := [_]) rfl rfl rfl rfl ?_
  refine z_lconst (v := 0) kd_M_settle_17 (by decide +kernel) ?_
  refine z_lcmp kd_M_settle_18 ?_
  refine z_if_ne (tgt := 26) kd_M_settle_19 (by decide) (fun c19 => ?_) (fun c19 => ?_)
  · exact absurd ((lg_cmp_0 _ _).mpr h0) c19
  · refine z_ldc2 (v := -1) kd_M_settle_22 (List.mem_cons_of_mem _ (zin 918 rfl rfl)) ?_
    exact z_lret kd_M_settle_25 rfl (Nat.le_of_ble_eq_true rfl) (Nat.le_of_ble_eq_true rfl) ⟨rfl, rfl, ⟨⟨_, _, _, _, hM_2⟩, h58_2, h59_2, ⟨_, h60_2⟩, ⟨_, h61_2⟩, ⟨_, x62_2⟩, ⟨_, x63_2⟩, ⟨_, h64_2⟩, ⟨_, h65_2⟩, ⟨_, h66_2⟩, ⟨_, h67_2⟩, ⟨_, h68_2⟩, ⟨_, h69_2⟩, ⟨_, h70_2⟩, ⟨_, h71_2⟩, ⟨_, h72_2⟩, ⟨_, h73_2⟩⟩, (Fr.tr (Fr.tr Fr.rf (q_1.wide (by omega) (by omega))) (q_2.wide (by omega) (by omega)))⟩
set_option maxHeartbeats 4000000 in
set_option maxRecDepth 100000 in
theorem l_M_back {l : Launch} {D : va_G} {tys : List (ClassId × FieldType)} {b N : Nat} {σ0 : Nat → Option va_E} {cI cJ cA : ClassId} (ht0 : tys[0]? = some (cI, .int)) (ht1 : tys[1]? = some (cJ, .long)) (ht3 : tys[3]? = some (cA, .array .long)) {th fa ls rm : Value} {n a : Nat} {gf gt gw : Nat → Int32} {F T : Nat → Nat} {C K L G : Nat → Int64} {s : Nat} {v : Int64} {Q : Outcome → Nat → (Nat → Option va_E) → Prop} (hQ : ∀ (σ' : Nat → Option va_E), MN b cI σ' th fa ls rm n a gf gt gw F T → σ' 58 = some (.inl (cJ, 10, .inr (.inl (bpL n L C)))) → σ' 59 = some (.inl (cJ, 10, .inr (.inl (bpL n G K)))) → σ' 72 = some (.inl (cJ, 10, .inr (.inl L))) → σ' 73 = some (.inl (cJ, 10, .inr (.inl G))) → Fr 58 59 σ0 σ' → Q (.returned (some (.long v))) N σ') : ∀ (m i : Nat) (σ : Nat → Option va_E), i + m = n → MN b cI σ th fa ls rm n a gf gt gw F T → σ 58 = some (.inl (cJ, 10, .inr (.inl (bpL i L C)))) → σ 59 = some (.inl (cJ, 10, .inr (.inl (bpL i G K)))) → σ 72 = some (.inl (cJ, 10, .inr (.inl L))) → σ 73 = some (.inl (cJ, 10, .inr (.inl G))) → Fr 58 59 σ0 σ → Z l D kCl tys (kh_M_settle :: zT) kNw ky_M_settle.cls ky_M_settle.name kb_M_settle 5 (some FieldType.long) { frames := 10, cells := 0, slots := 0, locals := 360 } b (zFi D kCl b 0 0 Q) 0 0 N (σ) 39 [(4, .int (nI i)), (2, .long v), (0, .ref (b + 54)), (1, .int (nI s))] [] := by
  intro m
  induction m with
  | zero =>
    intro i σ hi hM h58 h59 h72 h73 hF
    obtain rfl : i = n := by omega
    have hn := hM.hn
    refine z_iload kd_M_settle_39 0 rfl ?_
    refine z_aload_n kd_M_settle_41 2 rfl ?_
    refine z_get kd_M_settle_42 (kf_M_73 _) hM.h1 rfl ?_
    refine z_icmp_ge (tgt := 82) kd_M_settle_45 (by decide) (fun c45 => ?_) (fun c45 => ?_)
    · refine z_lload_n kd_M_settle_82 1 rfl ?_
      exact z_lret kd_M_settle_83 rfl (Nat.le_of_ble_eq_true rfl) (Nat.le_of_ble_eq_true rfl) (hQ _ hM h58 h59 h72 h73 hF)
    · exact absurd (nI_le (Nat.le_refl i) (by omega)) c45
  | succ m ih =>
    intro i σ hi hM h58 h59 h72 h73 hF
    have hlt : i < n := by omega
    have hn := hM.hn
    refine z_iload kd_M_settle_39 0 rfl ?_
    refine z_aload_n kd_M_settle_41 2 rfl ?_
    refine z_get kd_M_settle_42 (kf_M_73 _) hM.h1 rfl ?_
    refine z_icmp_ge (tgt := 82) kd_M_settle_45 (by decide) (fun c45 => ?_) (fun c45 => ?_)
    · exact absurd c45 (nI_ge hlt (by omega))
    · refine z_aload_n kd_M_settle_48 2 rfl ?_
      refine z_get kd_M_settle_49 (kf_M_19 _) hM.h1 rfl ?_
      refine z_iload kd_M_settle_52 0 rfl ?_
      refine z_aload_n kd_M_settle_54 2 rfl ?_
      refine z_get kd_M_settle_55 (kf_M_63 _) hM.h1 rfl ?_
      refine z_iload kd_M_settle_58 0 rfl ?_
      refine z_laldN (t0 := 1) kd_M_settle_60 (by assumption) h72 (by omega) (by decide) ?_
      refine z_lastN (t0 := 1) kd_M_settle_61 (by assumption) h58 (by omega) (by decide) ?_
      refine z_upd (fun σ_1 x58_1 q_1 => ?_)
      have x59_1 := (q_1 59 (by omega)).trans h59
      have x72_1 := (q_1 72 (by omega)).trans h72
      have x73_1 := (q_1 73 (by omega)).trans h73
      have hM_1 := hM.fr q_1 (by omega)
      refine z_aload_n kd_M_settle_62 2 rfl ?_
      refine z_get kd_M_settle_63 (kf_M_23 _) hM_1.h1 rfl ?_
      refine z_iload kd_M_settle_66 0 rfl ?_
      refine z_aload_n kd_M_settle_68 2 rfl ?_
      refine z_get kd_M_settle_69 (kf_M_66 _) hM_1.h1 rfl ?_
      refine z_iload kd_M_settle_72 0 rfl ?_
      refine z_laldN (t0 := 1) kd_M_settle_74 (by assumption) x73_1 (by omega) (by decide) ?_
      refine z_lastN (t0 := 1) kd_M_settle_75 (by assumption) x59_1 (by omega) (by decide) ?_
      refine z_upd (fun σ_2 x59_2 q_2 => ?_)
      have x58_2 := (q_2 58 (by omega)).trans x58_1
      have x72_2 := (q_2 72 (by omega)).trans x72_1
      have x73_2 := (q_2 73 (by omega)).trans x73_1
      have hM_2 := hM_1.fr q_2 (by omega)
      refine z_iinc (v := (nI (i + 1))) (lv' := [(4, .int _), (2, .long _), (0, .ref (b + 54)), (1, .int _)]) kd_M_settle_76 0 rfl (nI_1 _) (by decide) rfl ?_
      refine z_goto (tgt := 39) kd_M_settle_79 (by decide) ?_
      refine z_pick (lv' := [(4, .int (nI (i + 1))), (2, .long v), (0, .ref (b + 54)), (1, .int (nI s))]) [0, 1, 2, 3] rfl ?_
      exact ih (i + 1) _ (by omega) hM_2 (by rw [← bpL_s]; exact x58_2) (by rw [← bpL_s]; exact x59_2) x72_2 x73_2 (Fr.tr (Fr.tr hF (q_1.wide (by omega) (by omega))) (q_2.wide (by omega) (by omega)))
set_option maxHeartbeats 4000000 in
set_option maxRecDepth 100000 in
theorem c_M_settle2 {l : Launch} {D : va_G} {tys : List (ClassId × FieldType)} {b N : Nat} {σ : Nat → Option va_E} {cI cJ cA : ClassId} (ht0 : tys[0]? = some (cI, .int)) (ht1 : tys[1]? = some (cJ, .long)) (ht3 : tys[3]? = some (cA, .array .long)) {cZ : ClassId} (ht2 : tys[2]? = some (cZ, .boolean)) {n a : Nat} {gf gt gw : Nat → Int32} {F T : Nat → Nat} {C K : Nat → Int64} (hMS : MS b cI cJ cZ σ n a gf gt gw F T C K) {s : Nat} (hs0 : s < n) (hz : zIn (nI s) (nI n) = true) (h0 : ¬ cnV n a F T gw x0 (fun v => v) = 0) (hdg : ∀ v, v < n → v ≠ s → ¬ dgV F T gw a v = 0) {f : Nat} {val : (Nat → Int64) × (Nat → Int64) × Int64} (hv : spO F T gw n a s f (bpL n C zz) (bpL n (fun _ => 0) zz) 0 = some val) : zM l D kCl tys kNw b ky_M_settle (kh_M_settle :: zT) 10 360 0 0 [.ref (b + 54), .int (nI s)] N σ ((fun oc N' σ' => oc = .returned (some (.long val.2.2)) ∧ N' = N ∧ MS b cI cJ cZ σ' n a gf gt gw F T (bpL n val.1 C) (bpL n val.2.1 K) ∧ Fr 54 73 σ σ')) := by
  refine zM.of (by decide +kernel) rfl (Nat.le_of_ble_eq_true rfl) ?_
  refine z_pick (lv' := [(0, .ref (b + 54)), (1, .int (nI s))]) [0, 1] rfl ?_
  obtain ⟨⟨th, fa, ls, rm, hM⟩, h58, h59, ⟨g60, h60⟩, ⟨g61, h61⟩, ⟨g62, h62⟩, ⟨g63, h63⟩, ⟨g64, h64⟩, ⟨g65, h65⟩, ⟨g66, h66⟩, ⟨g67, h67⟩, ⟨g68, h68⟩, ⟨g69, h69⟩, ⟨g70, h70⟩, ⟨g71, h71⟩, ⟨g72, h72⟩, ⟨g73, h73⟩⟩ := hMS
  have hn := hM.hn
  have ha := hM.ha
  refine z_aload_n kd_M_settle_0 0 rfl ?_
  refine z_iconst (v := 0) kd_M_settle_1 (by decide) ?_
  refine z_putE (fs' := [_, _, _, _, _, _, _, _, _, _, _, _, _, _, _, _, _, _, _, _, _, _, _, _, _]) kd_M_settle_2 (kp_M_69 _) hM.h1 (Nat.le_of_ble_eq_true rfl) rfl rfl rfl ?_
  refine z_upd (fun σ_1 x54_1 q_1 => ?_)
  have x58_1 := (q_1 58 (by omega)).trans h58
  have x59_1 := (q_1 59 (by omega)).trans h59
  have x60_1 := (q_1 60 (by omega)).trans h60
  have x61_1 := (q_1 61 (by omega)).trans h61
  have x62_1 := (q_1 62 (by omega)).trans h62
  have x63_1 := (q_1 63 (by omega)).trans h63
  have x64_1 := (q_1 64 (by omega)).trans h64
  have x65_1 := (q_1 65 (by omega)).trans h65
  have x66_1 := (q_1 66 (by omega)).trans h66
  have x67_1 := (q_1 67 (by omega)).trans h67
  have x68_1 := (q_1 68 (by omega)).trans h68
  have x69_1 := (q_1 69 (by omega)).trans h69
  have x70_1 := (q_1 70 (by omega)).trans h70
  have x71_1 := (q_1 71 (by omega)).trans h71
  have x72_1 := (q_1 72 (by omega)).trans h72
  have x73_1 := (q_1 73 (by omega)).trans h73
  have hM_1 := hM.put x54_1 q_1
  refine z_aload_n kd_M_settle_5 0 rfl ?_
  refine z_iload_n kd_M_settle_6 1 rfl ?_
  refine z_V1 (a := 54) (As := [_]) kd_M_settle_7 (kg_M_76 _) hM_1.h1 kc_M (c_M_isNode ht0 ht1 ht3 hM_1) rfl rfl (Nat.le_of_ble_eq_true rfl) ⟨Nat.le_of_ble_eq_true rfl, Nat.le_of_ble_eq_true rfl⟩ ⟨Nat.le_of_ble_eq_true rfl, Nat.le_of_ble_eq_true rfl⟩ ?_
  refine z_topi (show zB (zIn (nI s) (nI n)) = 1 by rw [hz]; rfl) ?_
  refine z_if_eq (tgt := 22) kd_M_settle_10 (by decide) (fun c10 => absurd c10 (by decide)) (fun c10 => ?_)
  refine z_aload_n kd_M_settle_13 0 rfl ?_
  refine z_callV (a := 54) (As := []) kd_M_settle_14 (kg_M_133 _) hM_1.h1 kc_M (c_M_trees ht0 ht1 ht3 ht2 ⟨⟨_, _, _, _, hM_1⟩, x58_1, x59_1, ⟨_, x60_1⟩, ⟨_, x61_1⟩, ⟨_, x62_1⟩, ⟨_, x63_1⟩, ⟨_, x64_1⟩, ⟨_, x65_1⟩, ⟨_, x66_1⟩, ⟨_, x67_1⟩, ⟨_, x68_1⟩, ⟨_, x69_1⟩, ⟨_, x70_1⟩, ⟨_, x71_1⟩, ⟨_, x72_1⟩, ⟨_, x73_1⟩⟩) rfl rfl (Nat.le_of_ble_eq_true rfl) ⟨Nat.le_of_ble_eq_true rfl, Nat.le_of_ble_eq_true rfl⟩ ⟨Nat.le_of_ble_eq_true rfl, Nat.le_of_ble_eq_true rfl⟩ ?_
  rintro _ _ σ_2 ⟨hv, rfl, ⟨⟨th_2, fa_2, ls_2, rm_2, hM_2⟩, h58_2, h59_2, ⟨g60_2, h60_2⟩, ⟨g61_2, h61_2⟩, ⟨g62_2, h62_2⟩, ⟨g63_2, h63_2⟩, ⟨g64_2, h64_2⟩, ⟨g65_2, h65_2⟩, ⟨g66_2, h66_2⟩, ⟨g67_2, h67_2⟩, ⟨g68_2, h68_2⟩, ⟨g69_2, h69_2⟩, ⟨g70_2, h70_2⟩, ⟨g71_2, h71_2⟩, ⟨g72_2, h72_2⟩, ⟨g73_2, h73_2⟩⟩, ⟨g2_2, g3_2, x62_2, hp_2, x63_2, hX_2⟩, q_2⟩
  cases hv
  refine z_eq (st' := [_]) rfl rfl rfl rfl ?_
  refine z_lconst (v := 0) kd_M_settle_17 (by decide +kernel) ?_
  refine z_lcmp kd_M_settle_18 ?_
  refine z_if_ne (tgt := 26) kd_M_settle_19 (by decide) (fun c19 => ?_) (fun c19 => ?_)
  · refine z_aload_n kd_M_settle_26 0 rfl ?_
    refine z_callV (a := 54) (As := []) kd_M_settle_27 (kg_M_208 _) hM_2.h1 kc_M (c_M_beginPile ht0 ht1 ht3 hM_2 h58_2 h72_2 h73_2) rfl rfl (Nat.le_of_ble_eq_true rfl) ⟨Nat.le_of_ble_eq_true rfl, Nat.le_of_ble_eq_true rfl⟩ ⟨Nat.le_of_ble_eq_true rfl, Nat.le_of_ble_eq_true rfl⟩ ?_
    rintro _ _ σ_3 ⟨hv, rfl, x72_3, x73_3, q_3⟩
    cases hv
    refine z_eq (st' := []) rfl rfl rfl rfl ?_
    have x58_3 := (q_3 58 (by omega)).trans h58_2
    have x59_3 := (q_3 59 (by omega)).trans h59_2
    have x60_3 := (q_3 60 (by omega)).trans h60_2
    have x61_3 := (q_3 61 (by omega)).trans h61_2
    have x62_3 := (q_3 62 (by omega)).trans x62_2
    have x63_3 := (q_3 63 (by omega)).trans x63_2
    have x64_3 := (q_3 64 (by omega)).trans h64_2
    have x65_3 := (q_3 65 (by omega)).trans h65_2
    have x66_3 := (q_3 66 (by omega)).trans h66_2
    have x67_3 := (q_3 67 (by omega)).trans h67_2
    have x68_3 := (q_3 68 (by omega)).trans h68_2
    have x69_3 := (q_3 69 (by omega)).trans h69_2
    have x70_3 := (q_3 70 (by omega)).trans h70_2
    have x71_3 := (q_3 71 (by omega)).trans h71_2
    have hM_3 := hM_2.fr q_3 (by omega)
    refine z_aload_n kd_M_settle_30 0 rfl ?_
    refine z_iload_n kd_M_settle_31 1 rfl ?_
    obtain ⟨val2, hv2, b1, b2, b3⟩ := ag.spo hM.ft f _ _ _ _ 0 val ag.bp ag.bp hv
    refine z_callV (a := 54) (As := [_]) kd_M_settle_32 (kg_M_211 _) hM_3.h1 kc_M (c_M_settlePile ht0 ht1 ht3 hM_3 x72_3 x73_3 hs0 hdg hv2) rfl rfl (Nat.le_of_ble_eq_true rfl) ⟨Nat.le_of_ble_eq_true rfl, Nat.le_of_ble_eq_true rfl⟩ ⟨Nat.le_of_ble_eq_true rfl, Nat.le_of_ble_eq_true rfl⟩ ?_
    rintro _ _ σ_4 ⟨hv, rfl, x72_4, x73_4, q_4⟩
    cases hv
    refine z_eq (st' := [_]) rfl rfl rfl rfl ?_
    have x58_4 := (q_4 58 (by omega)).trans x58_3
    have x59_4 := (q_4 59 (by omega)).trans x59_3
    have x60_4 := (q_4 60 (by omega)).trans x60_3
    have x61_4 := (q_4 61 (by omega)).trans x61_3
    have x62_4 := (q_4 62 (by omega)).trans x62_3
    have x63_4 := (q_4 63 (by omega)).trans x63_3
    have x64_4 := (q_4 64 (by omega)).trans x64_3
    have x65_4 := (q_4 65 (by omega)).trans x65_3
    have x66_4 := (q_4 66 (by omega)).trans x66_3
    have x67_4 := (q_4 67 (by omega)).trans x67_3
    have x68_4 := (q_4 68 (by omega)).trans x68_3
    have x69_4 := (q_4 69 (by omega)).trans x69_3
    have x70_4 := (q_4 70 (by omega)).trans x70_3
    have x71_4 := (q_4 71 (by omega)).trans x71_3
    have hM_4 := hM_3.fr q_4 (by omega)
    refine z_lstore_n (lv' := [(2, .long _), (0, .ref (b + 54)), (1, .int _)]) kd_M_settle_35 (by decide) rfl ?_
    refine z_iconst (v := 0) kd_M_settle_36 (by decide) ?_
    refine z_istore (lv' := [(4, .int _), (2, .long _), (0, .ref (b + 54)), (1, .int _)]) kd_M_settle_37 (by decide) rfl ?_
    refine z_pick (lv' := [(4, .int (nI 0)), (2, .long _), (0, .ref (b + 54)), (1, .int (nI s))]) [0, 1, 2, 3] rfl ?_
    exact l_M_back ht0 ht1 ht3 (fun σ9 hM9 z58 z59 z72 z73 q9 => ⟨by rw [b3], rfl, ⟨⟨_, _, _, _, hM9⟩, by rw [ag.bpE b1]; exact z58, by rw [ag.bpE b2]; exact z59, ⟨_, (q9 60 (by omega)).trans x60_4⟩, ⟨_, (q9 61 (by omega)).trans x61_4⟩, ⟨_, (q9 62 (by omega)).trans x62_4⟩, ⟨_, (q9 63 (by omega)).trans x63_4⟩, ⟨_, (q9 64 (by omega)).trans x64_4⟩, ⟨_, (q9 65 (by omega)).trans x65_4⟩, ⟨_, (q9 66 (by omega)).trans x66_4⟩, ⟨_, (q9 67 (by omega)).trans x67_4⟩, ⟨_, (q9 68 (by omega)).trans x68_4⟩, ⟨_, (q9 69 (by omega)).trans x69_4⟩, ⟨_, (q9 70 (by omega)).trans x70_4⟩, ⟨_, (q9 71 (by omega)).trans x71_4⟩, ⟨_, z72⟩, ⟨_, z73⟩⟩, Fr.tr (Fr.tr (Fr.tr (Fr.tr (Fr.tr Fr.rf (q_1.wide (by omega) (by omega))) (q_2.wide (by omega) (by omega))) (q_3.wide (by omega) (by omega))) (q_4.wide (by omega) (by omega))) (q9.wide (by omega) (by omega))⟩) n 0 _ (by omega) hM_4 (by rw [bpL_0]; exact x58_4) (by rw [bpL_0]; exact x59_4) x72_4 x73_4 Fr.rf
  · exact absurd ((lg_cmp_0 _ _).mp c19) h0
set_option maxHeartbeats 4000000 in
set_option maxRecDepth 100000 in
theorem c_M_recurrent0 {l : Launch} {D : va_G} {tys : List (ClassId × FieldType)} {b N : Nat} {σ : Nat → Option va_E} {cI cJ cA : ClassId} (ht0 : tys[0]? = some (cI, .int)) (ht1 : tys[1]? = some (cJ, .long)) (ht3 : tys[3]? = some (cA, .array .long)) {cZ : ClassId} (ht2 : tys[2]? = some (cZ, .boolean)) {n a : Nat} {gf gt gw : Nat → Int32} {F T : Nat → Nat} {C K : Nat → Int64} (hMS : MS b cI cJ cZ σ n a gf gt gw F T C K) {x : Int32} (hz : zIn x (nI n) = false) : zM l D kCl tys kNw b ky_M_recurrent (kh_M_recurrent :: zT) 10 360 0 0 [.ref (b + 54), .int x] N σ ((fun oc N' σ' => oc = .returned (some (.int (-1))) ∧ N' = N ∧ MS b cI cJ cZ σ' n a gf gt gw F T C K ∧ Fr 54 73 σ σ')) := by
  refine zM.of (by decide +kernel) rfl (Nat.le_of_ble_eq_true rfl) ?_
  refine z_pick (lv' := [(0, .ref (b + 54)), (1, .int x)]) [0, 1] rfl ?_
  obtain ⟨⟨th, fa, ls, rm, hM⟩, h58, h59, ⟨g60, h60⟩, ⟨g61, h61⟩, ⟨g62, h62⟩, ⟨g63, h63⟩, ⟨g64, h64⟩, ⟨g65, h65⟩, ⟨g66, h66⟩, ⟨g67, h67⟩, ⟨g68, h68⟩, ⟨g69, h69⟩, ⟨g70, h70⟩, ⟨g71, h71⟩, ⟨g72, h72⟩, ⟨g73, h73⟩⟩ := hMS
  have hn := hM.hn
  have ha := hM.ha
  refine z_aload_n kd_M_recurrent_0 0 rfl ?_
  refine z_iconst (v := 0) kd_M_recurrent_1 (by decide) ?_
  refine z_putE (fs' := [_, _, _, _, _, _, _, _, _, _, _, _, _, _, _, _, _, _, _, _, _, _, _, _, _]) kd_M_recurrent_2 (kp_M_69 _) hM.h1 (Nat.le_of_ble_eq_true rfl) rfl rfl rfl ?_
  refine z_upd (fun σ_1 x54_1 q_1 => ?_)
  have x58_1 := (q_1 58 (by omega)).trans h58
  have x59_1 := (q_1 59 (by omega)).trans h59
  have x60_1 := (q_1 60 (by omega)).trans h60
  have x61_1 := (q_1 61 (by omega)).trans h61
  have x62_1 := (q_1 62 (by omega)).trans h62
  have x63_1 := (q_1 63 (by omega)).trans h63
  have x64_1 := (q_1 64 (by omega)).trans h64
  have x65_1 := (q_1 65 (by omega)).trans h65
  have x66_1 := (q_1 66 (by omega)).trans h66
  have x67_1 := (q_1 67 (by omega)).trans h67
  have x68_1 := (q_1 68 (by omega)).trans h68
  have x69_1 := (q_1 69 (by omega)).trans h69
  have x70_1 := (q_1 70 (by omega)).trans h70
  have x71_1 := (q_1 71 (by omega)).trans h71
  have x72_1 := (q_1 72 (by omega)).trans h72
  have x73_1 := (q_1 73 (by omega)).trans h73
  have hM_1 := hM.put x54_1 q_1
  refine z_aload_n kd_M_recurrent_5 0 rfl ?_
  refine z_iload_n kd_M_recurrent_6 1 rfl ?_
  refine z_V1 (a := 54) (As := [_]) kd_M_recurrent_7 (kg_M_76 _) hM_1.h1 kc_M (c_M_isNode ht0 ht1 ht3 hM_1) rfl rfl (Nat.le_of_ble_eq_true rfl) ⟨Nat.le_of_ble_eq_true rfl, Nat.le_of_ble_eq_true rfl⟩ ⟨Nat.le_of_ble_eq_true rfl, Nat.le_of_ble_eq_true rfl⟩ ?_
  refine z_topi (show zB (zIn x (nI n)) = 0 by rw [hz]; rfl) ?_
  refine z_if_eq (tgt := 22) kd_M_recurrent_10 (by decide) (fun c10 => ?_) (fun c10 => absurd c10 (by decide))
  refine z_iconst (v := -1) kd_M_recurrent_22 (by decide) ?_
  exact z_iret kd_M_recurrent_23 rfl (Nat.le_of_ble_eq_true rfl) (Nat.le_of_ble_eq_true rfl) ⟨rfl, rfl, ⟨⟨_, _, _, _, hM_1⟩, x58_1, x59_1, ⟨_, x60_1⟩, ⟨_, x61_1⟩, ⟨_, x62_1⟩, ⟨_, x63_1⟩, ⟨_, x64_1⟩, ⟨_, x65_1⟩, ⟨_, x66_1⟩, ⟨_, x67_1⟩, ⟨_, x68_1⟩, ⟨_, x69_1⟩, ⟨_, x70_1⟩, ⟨_, x71_1⟩, ⟨_, x72_1⟩, ⟨_, x73_1⟩⟩, (Fr.tr Fr.rf (q_1.wide (by omega) (by omega)))⟩
set_option maxHeartbeats 4000000 in
set_option maxRecDepth 100000 in
theorem c_M_recurrent1 {l : Launch} {D : va_G} {tys : List (ClassId × FieldType)} {b N : Nat} {σ : Nat → Option va_E} {cI cJ cA : ClassId} (ht0 : tys[0]? = some (cI, .int)) (ht1 : tys[1]? = some (cJ, .long)) (ht3 : tys[3]? = some (cA, .array .long)) {cZ : ClassId} (ht2 : tys[2]? = some (cZ, .boolean)) {n a : Nat} {gf gt gw : Nat → Int32} {F T : Nat → Nat} {C K : Nat → Int64} (hMS : MS b cI cJ cZ σ n a gf gt gw F T C K) {s : Nat} (hs0 : s < n) (hz : zIn (nI s) (nI n) = true) (h0 : cnV n a F T gw x0 (fun v => v) = 0) : zM l D kCl tys kNw b ky_M_recurrent (kh_M_recurrent :: zT) 10 360 0 0 [.ref (b + 54), .int (nI s)] N σ ((fun oc N' σ' => oc = .returned (some (.int (-1))) ∧ N' = N ∧ MS b cI cJ cZ σ' n a gf gt gw F T C K ∧ Fr 54 73 σ σ')) := by
  refine zM.of (by decide +kernel) rfl (Nat.le_of_ble_eq_true rfl) ?_
  refine z_pick (lv' := [(0, .ref (b + 54)), (1, .int (nI s))]) [0, 1] rfl ?_
  obtain ⟨⟨th, fa, ls, rm, hM⟩, h58, h59, ⟨g60, h60⟩, ⟨g61, h61⟩, ⟨g62, h62⟩, ⟨g63, h63⟩, ⟨g64, h64⟩, ⟨g65, h65⟩, ⟨g66, h66⟩, ⟨g67, h67⟩, ⟨g68, h68⟩, ⟨g69, h69⟩, ⟨g70, h70⟩, ⟨g71, h71⟩, ⟨g72, h72⟩, ⟨g73, h73⟩⟩ := hMS
  have hn := hM.hn
  have ha := hM.ha
  refine z_aload_n kd_M_recurrent_0 0 rfl ?_
  refine z_iconst (v := 0) kd_M_recurrent_1 (by decide) ?_
  refine z_putE (fs' := [_, _, _, _, _, _, _, _, _, _, _, _, _, _, _, _, _, _, _, _, _, _, _, _, _]) kd_M_recurrent_2 (kp_M_69 _) hM.h1 (Nat.le_of_ble_eq_true rfl) rfl rfl rfl ?_
  refine z_upd (fun σ_1 x54_1 q_1 => ?_)
  have x58_1 := (q_1 58 (by omega)).trans h58
  have x59_1 := (q_1 59 (by omega)).trans h59
  have x60_1 := (q_1 60 (by omega)).trans h60
  have x61_1 := (q_1 61 (by omega)).trans h61
  have x62_1 := (q_1 62 (by omega)).trans h62
  have x63_1 := (q_1 63 (by omega)).trans h63
  have x64_1 := (q_1 64 (by omega)).trans h64
  have x65_1 := (q_1 65 (by omega)).trans h65
  have x66_1 := (q_1 66 (by omega)).trans h66
  have x67_1 := (q_1 67 (by omega)).trans h67
  have x68_1 := (q_1 68 (by omega)).trans h68
  have x69_1 := (q_1 69 (by omega)).trans h69
  have x70_1 := (q_1 70 (by omega)).trans h70
  have x71_1 := (q_1 71 (by omega)).trans h71
  have x72_1 := (q_1 72 (by omega)).trans h72
  have x73_1 := (q_1 73 (by omega)).trans h73
  have hM_1 := hM.put x54_1 q_1
  refine z_aload_n kd_M_recurrent_5 0 rfl ?_
  refine z_iload_n kd_M_recurrent_6 1 rfl ?_
  refine z_V1 (a := 54) (As := [_]) kd_M_recurrent_7 (kg_M_76 _) hM_1.h1 kc_M (c_M_isNode ht0 ht1 ht3 hM_1) rfl rfl (Nat.le_of_ble_eq_true rfl) ⟨Nat.le_of_ble_eq_true rfl, Nat.le_of_ble_eq_true rfl⟩ ⟨Nat.le_of_ble_eq_true rfl, Nat.le_of_ble_eq_true rfl⟩ ?_
  refine z_topi (show zB (zIn (nI s) (nI n)) = 1 by rw [hz]; rfl) ?_
  refine z_if_eq (tgt := 22) kd_M_recurrent_10 (by decide) (fun c10 => absurd c10 (by decide)) (fun c10 => ?_)
  refine z_aload_n kd_M_recurrent_13 0 rfl ?_
  refine z_callV (a := 54) (As := []) kd_M_recurrent_14 (kg_M_133 _) hM_1.h1 kc_M (c_M_trees ht0 ht1 ht3 ht2 ⟨⟨_, _, _, _, hM_1⟩, x58_1, x59_1, ⟨_, x60_1⟩, ⟨_, x61_1⟩, ⟨_, x62_1⟩, ⟨_, x63_1⟩, ⟨_, x64_1⟩, ⟨_, x65_1⟩, ⟨_, x66_1⟩, ⟨_, x67_1⟩, ⟨_, x68_1⟩, ⟨_, x69_1⟩, ⟨_, x70_1⟩, ⟨_, x71_1⟩, ⟨_, x72_1⟩, ⟨_, x73_1⟩⟩) rfl rfl (Nat.le_of_ble_eq_true rfl) ⟨Nat.le_of_ble_eq_true rfl, Nat.le_of_ble_eq_true rfl⟩ ⟨Nat.le_of_ble_eq_true rfl, Nat.le_of_ble_eq_true rfl⟩ ?_
  rintro _ _ σ_2 ⟨hv, rfl, ⟨⟨th_2, fa_2, ls_2, rm_2, hM_2⟩, h58_2, h59_2, ⟨g60_2, h60_2⟩, ⟨g61_2, h61_2⟩, ⟨g62_2, h62_2⟩, ⟨g63_2, h63_2⟩, ⟨g64_2, h64_2⟩, ⟨g65_2, h65_2⟩, ⟨g66_2, h66_2⟩, ⟨g67_2, h67_2⟩, ⟨g68_2, h68_2⟩, ⟨g69_2, h69_2⟩, ⟨g70_2, h70_2⟩, ⟨g71_2, h71_2⟩, ⟨g72_2, h72_2⟩, ⟨g73_2, h73_2⟩⟩, ⟨g2_2, g3_2, x62_2, hp_2, x63_2, hX_2⟩, q_2⟩
  cases hv
  refine z_eq (st' := [_]) rfl rfl rfl rfl ?_
  refine z_lconst (v := 0) kd_M_recurrent_17 (by decide +kernel) ?_
  refine z_lcmp kd_M_recurrent_18 ?_
  refine z_if_ne (tgt := 24) kd_M_recurrent_19 (by decide) (fun c19 => ?_) (fun c19 => ?_)
  · exact absurd ((lg_cmp_0 _ _).mpr h0) c19
  · refine z_iconst (v := -1) kd_M_recurrent_22 (by decide) ?_
    exact z_iret kd_M_recurrent_23 rfl (Nat.le_of_ble_eq_true rfl) (Nat.le_of_ble_eq_true rfl) ⟨rfl, rfl, ⟨⟨_, _, _, _, hM_2⟩, h58_2, h59_2, ⟨_, h60_2⟩, ⟨_, h61_2⟩, ⟨_, x62_2⟩, ⟨_, x63_2⟩, ⟨_, h64_2⟩, ⟨_, h65_2⟩, ⟨_, h66_2⟩, ⟨_, h67_2⟩, ⟨_, h68_2⟩, ⟨_, h69_2⟩, ⟨_, h70_2⟩, ⟨_, h71_2⟩, ⟨_, h72_2⟩, ⟨_, h73_2⟩⟩, (Fr.tr (Fr.tr Fr.rf (q_1.wide (by omega) (by omega))) (q_2.wide (by omega) (by omega)))⟩
/-- every node but the sink holds less than its degree -/
def rcA (F T : Nat → Nat) (w : Nat → Int32) (a s i : Nat) (L : Nat → Int64) : Prop := ∀ v, v < i → v = s ∨ L v < dgV F T w a v
/-- every node but the sink has fired once -/
def rcB2 (s i : Nat) (G : Nat → Int64) : Prop := ∀ v, v < i → v = s ∨ G v = 1
theorem all_s {p : Nat → Prop} {i : Nat} {q : Bool} (h : q = true ↔ ∀ v, v < i → p v) (hq : q = true) (hn : p i) : true = true ↔ ∀ v, v < i + 1 → p v := by
  refine ⟨fun _ y hy => ?_, fun _ => rfl⟩
  by_cases e : y = i
  · subst e; exact hn
  · exact h.mp hq y (by omega)
theorem all_f {p : Nat → Prop} {i : Nat} {q : Bool} (h : q = true ↔ ∀ v, v < i → p v) (hq : ¬ q = true ∨ ¬ p i) : false = true ↔ ∀ v, v < i + 1 → p v := by
  refine ⟨fun z => absurd z (by decide), fun z => ?_⟩
  rcases hq with c | c
  · exact absurd (h.mpr (fun y hy => z y (by omega))) c
  · exact absurd (z i (by omega)) c
set_option maxHeartbeats 4000000 in
set_option maxRecDepth 100000 in
theorem l_M_rc1 {l : Launch} {D : va_G} {tys : List (ClassId × FieldType)} {b N : Nat} {σ : Nat → Option va_E} {cI cJ cA : ClassId} (ht0 : tys[0]? = some (cI, .int)) (ht1 : tys[1]? = some (cJ, .long)) (ht3 : tys[3]? = some (cA, .array .long)) {th fa ls rm : Value} {n a : Nat} {gf gt gw : Nat → Int32} {F T : Nat → Nat} (hM : MN b cI σ th fa ls rm n a gf gt gw F T) {L : Nat → Int64} (hc : σ 72 = some (.inl (cJ, 10, .inr (.inl L)))) {s : Nat} (hs0 : s < n) {xv : Int64} {Q : Outcome → Nat → (Nat → Option va_E) → Prop} (kk : ∀ q : Bool, (q = true ↔ (∀ v, v < n → v = s ∨ L v < dgV F T gw a v)) → Z l D kCl tys (kh_M_recurrent :: zT) kNw ky_M_recurrent.cls ky_M_recurrent.name kb_M_recurrent 6 (some FieldType.int) { frames := 10, cells := 0, slots := 0, locals := 360 } b (zFi D kCl b 0 0 Q) 0 0 N (σ) 76 [(2, .int (zB q)), (0, .ref (b + 54)), (1, .int (nI s))] []) : ∀ (m i : Nat) (q : Bool), i + m = n → (q = true ↔ (∀ v, v < i → v = s ∨ L v < dgV F T gw a v)) → Z l D kCl tys (kh_M_recurrent :: zT) kNw ky_M_recurrent.cls ky_M_recurrent.name kb_M_recurrent 6 (some FieldType.int) { frames := 10, cells := 0, slots := 0, locals := 360 } b (zFi D kCl b 0 0 Q) 0 0 N (σ) 32 [(3, .int (nI i)), (2, .int (zB q)), (0, .ref (b + 54)), (1, .int (nI s))] [] := by
  have hn := hM.hn
  intro m
  induction m with
  | zero =>
    intro i q hi hq
    obtain rfl : i = n := by omega
    refine z_iload_n kd_M_recurrent_32 0 rfl ?_
    refine z_aload_n kd_M_recurrent_33 2 rfl ?_
    refine z_get kd_M_recurrent_34 (kf_M_73 _) hM.h1 rfl ?_
    refine z_icmp_ge (tgt := 76) kd_M_recurrent_37 (by decide) (fun c37 => ?_) (fun c37 => ?_)
    · refine z_pick (lv' := [(2, .int (zB q)), (0, .ref (b + 54)), (1, .int (nI s))]) [1, 2, 3] rfl ?_
      exact kk q hq
    · exact absurd (nI_le (Nat.le_refl i) (by omega)) c37
  | succ m ih =>
    intro i q hi hq
    have hlt : i < n := by omega
    refine z_iload_n kd_M_recurrent_32 0 rfl ?_
    refine z_aload_n kd_M_recurrent_33 2 rfl ?_
    refine z_get kd_M_recurrent_34 (kf_M_73 _) hM.h1 rfl ?_
    refine z_icmp_ge (tgt := 76) kd_M_recurrent_37 (by decide) (fun c37 => ?_) (fun c37 => ?_)
    · exact absurd c37 (nI_ge hlt (by omega))
    · refine z_iload_n kd_M_recurrent_40 1 rfl ?_
      refine z_if_eq (tgt := 68) kd_M_recurrent_41 (by decide) (fun c41 => ?_) (fun c41 => ?_)
      · have hq2 := all_f hq (Or.inl (fun z => by rw [z] at c41; exact absurd c41 (by decide)))
        refine z_iconst (v := 0) kd_M_recurrent_68 (by decide) ?_
        refine z_istore_n (lv' := [(2, .int _), (3, .int _), (0, .ref (b + 54)), (1, .int _)]) kd_M_recurrent_69 (by decide) rfl ?_
        refine z_iinc (v := (nI (i + 1))) (lv' := [(3, .int _), (2, .int _), (0, .ref (b + 54)), (1, .int _)]) kd_M_recurrent_70 1 rfl (nI_1 _) (by decide) rfl ?_
        refine z_goto (tgt := 32) kd_M_recurrent_73 (by decide) ?_
        refine z_pick (lv' := [(3, .int (nI (i + 1))), (2, .int (zB false)), (0, .ref (b + 54)), (1, .int (nI s))]) [0, 1, 2, 3] rfl ?_
        exact ih (i + 1) false (by omega) hq2
      · have hqt : q = true := zB_t c41
        refine z_iload_n kd_M_recurrent_44 0 rfl ?_
        refine z_iload_n kd_M_recurrent_45 3 rfl ?_
        refine z_icmp_eq (tgt := 64) kd_M_recurrent_46 (by decide) (fun c46 => ?_) (fun c46 => ?_)
        · have hq2 := all_s hq hqt (Or.inl ((nI_eq (by omega) (by omega)).mp c46))
          refine z_iconst (v := 1) kd_M_recurrent_64 (by decide) ?_
          refine z_goto (tgt := 69) kd_M_recurrent_65 (by decide) ?_
          refine z_istore_n (lv' := [(2, .int _), (3, .int _), (0, .ref (b + 54)), (1, .int _)]) kd_M_recurrent_69 (by decide) rfl ?_
          refine z_iinc (v := (nI (i + 1))) (lv' := [(3, .int _), (2, .int _), (0, .ref (b + 54)), (1, .int _)]) kd_M_recurrent_70 1 rfl (nI_1 _) (by decide) rfl ?_
          refine z_goto (tgt := 32) kd_M_recurrent_73 (by decide) ?_
          refine z_pick (lv' := [(3, .int (nI (i + 1))), (2, .int (zB true)), (0, .ref (b + 54)), (1, .int (nI s))]) [0, 1, 2, 3] rfl ?_
          exact ih (i + 1) true (by omega) hq2
        · have his : ¬ i = s := fun z => c46 (by rw [z])
          refine z_aload_n kd_M_recurrent_49 2 rfl ?_
          refine z_get kd_M_recurrent_50 (kf_M_63 _) hM.h1 rfl ?_
          refine z_iload_n kd_M_recurrent_53 0 rfl ?_
          refine z_laldN (t0 := 1) kd_M_recurrent_54 (by assumption) hc (by omega) (by decide) ?_
          refine z_aload_n kd_M_recurrent_55 2 rfl ?_
          refine z_iload_n kd_M_recurrent_56 0 rfl ?_
          refine z_V1 (a := 54) (As := [_]) kd_M_recurrent_57 (kg_M_201 _) hM.h1 kc_M (c_M_degree ht0 ht1 ht3 hM hlt) rfl rfl (Nat.le_of_ble_eq_true rfl) ⟨Nat.le_of_ble_eq_true rfl, Nat.le_of_ble_eq_true rfl⟩ ⟨Nat.le_of_ble_eq_true rfl, Nat.le_of_ble_eq_true rfl⟩ ?_
          refine z_lcmp kd_M_recurrent_60 ?_
          refine z_if_ge (tgt := 68) kd_M_recurrent_61 (by decide) (fun c61 => ?_) (fun c61 => ?_)
          · have hq2 := all_f hq (Or.inr (fun z => by rcases z with z | z; exact his z; exact absurd z (Int64.not_lt.mpr ((lg_cmp_ge _ _).mp c61))))
            refine z_iconst (v := 0) kd_M_recurrent_68 (by decide) ?_
            refine z_istore_n (lv' := [(2, .int _), (3, .int _), (0, .ref (b + 54)), (1, .int _)]) kd_M_recurrent_69 (by decide) rfl ?_
            refine z_iinc (v := (nI (i + 1))) (lv' := [(3, .int _), (2, .int _), (0, .ref (b + 54)), (1, .int _)]) kd_M_recurrent_70 1 rfl (nI_1 _) (by decide) rfl ?_
            refine z_goto (tgt := 32) kd_M_recurrent_73 (by decide) ?_
            refine z_pick (lv' := [(3, .int (nI (i + 1))), (2, .int (zB false)), (0, .ref (b + 54)), (1, .int (nI s))]) [0, 1, 2, 3] rfl ?_
            exact ih (i + 1) false (by omega) hq2
          · have hq2 := all_s hq hqt (Or.inr (Int64.not_le.mp (fun z => c61 ((lg_cmp_ge _ _).mpr z))))
            refine z_iconst (v := 1) kd_M_recurrent_64 (by decide) ?_
            refine z_goto (tgt := 69) kd_M_recurrent_65 (by decide) ?_
            refine z_istore_n (lv' := [(2, .int _), (3, .int _), (0, .ref (b + 54)), (1, .int _)]) kd_M_recurrent_69 (by decide) rfl ?_
            refine z_iinc (v := (nI (i + 1))) (lv' := [(3, .int _), (2, .int _), (0, .ref (b + 54)), (1, .int _)]) kd_M_recurrent_70 1 rfl (nI_1 _) (by decide) rfl ?_
            refine z_goto (tgt := 32) kd_M_recurrent_73 (by decide) ?_
            refine z_pick (lv' := [(3, .int (nI (i + 1))), (2, .int (zB true)), (0, .ref (b + 54)), (1, .int (nI s))]) [0, 1, 2, 3] rfl ?_
            exact ih (i + 1) true (by omega) hq2
set_option maxHeartbeats 4000000 in
set_option maxRecDepth 100000 in
theorem l_M_rc2 {l : Launch} {D : va_G} {tys : List (ClassId × FieldType)} {b N : Nat} {σ : Nat → Option va_E} {cI cJ cA : ClassId} (ht0 : tys[0]? = some (cI, .int)) (ht1 : tys[1]? = some (cJ, .long)) (ht3 : tys[3]? = some (cA, .array .long)) {th fa ls rm : Value} {n a : Nat} {gf gt gw : Nat → Int32} {F T : Nat → Nat} (hM : MN b cI σ th fa ls rm n a gf gt gw F T) {L : Nat → Int64} (hc : σ 73 = some (.inl (cJ, 10, .inr (.inl L)))) {s : Nat} (hs0 : s < n) {xv : Int64} {Q : Outcome → Nat → (Nat → Option va_E) → Prop} (kk : ∀ q : Bool, (q = true ↔ (∀ v, v < n → v = s ∨ L v = 1)) → Z l D kCl tys (kh_M_recurrent :: zT) kNw ky_M_recurrent.cls ky_M_recurrent.name kb_M_recurrent 6 (some FieldType.int) { frames := 10, cells := 0, slots := 0, locals := 360 } b (zFi D kCl b 0 0 Q) 0 0 N (σ) 140 [(2, .int (zB q)), (3, .long xv), (0, .ref (b + 54)), (1, .int (nI s))] []) : ∀ (m i : Nat) (q : Bool), i + m = n → (q = true ↔ (∀ v, v < i → v = s ∨ L v = 1)) → Z l D kCl tys (kh_M_recurrent :: zT) kNw ky_M_recurrent.cls ky_M_recurrent.name kb_M_recurrent 6 (some FieldType.int) { frames := 10, cells := 0, slots := 0, locals := 360 } b (zFi D kCl b 0 0 Q) 0 0 N (σ) 97 [(5, .int (nI i)), (2, .int (zB q)), (3, .long xv), (0, .ref (b + 54)), (1, .int (nI s))] [] := by
  have hn := hM.hn
  intro m
  induction m with
  | zero =>
    intro i q hi hq
    obtain rfl : i = n := by omega
    refine z_iload kd_M_recurrent_97 0 rfl ?_
    refine z_aload_n kd_M_recurrent_99 3 rfl ?_
    refine z_get kd_M_recurrent_100 (kf_M_73 _) hM.h1 rfl ?_
    refine z_icmp_ge (tgt := 140) kd_M_recurrent_103 (by decide) (fun c103 => ?_) (fun c103 => ?_)
    · refine z_pick (lv' := [(2, .int (zB q)), (3, .long xv), (0, .ref (b + 54)), (1, .int (nI s))]) [1, 2, 3, 4] rfl ?_
      exact kk q hq
    · exact absurd (nI_le (Nat.le_refl i) (by omega)) c103
  | succ m ih =>
    intro i q hi hq
    have hlt : i < n := by omega
    refine z_iload kd_M_recurrent_97 0 rfl ?_
    refine z_aload_n kd_M_recurrent_99 3 rfl ?_
    refine z_get kd_M_recurrent_100 (kf_M_73 _) hM.h1 rfl ?_
    refine z_icmp_ge (tgt := 140) kd_M_recurrent_103 (by decide) (fun c103 => ?_) (fun c103 => ?_)
    · exact absurd c103 (nI_ge hlt (by omega))
    · refine z_iload_n kd_M_recurrent_106 1 rfl ?_
      refine z_if_eq (tgt := 132) kd_M_recurrent_107 (by decide) (fun c107 => ?_) (fun c107 => ?_)
      · have hq2 := all_f hq (Or.inl (fun z => by rw [z] at c107; exact absurd c107 (by decide)))
        refine z_iconst (v := 0) kd_M_recurrent_132 (by decide) ?_
        refine z_istore_n (lv' := [(2, .int _), (5, .int _), (3, .long _), (0, .ref (b + 54)), (1, .int _)]) kd_M_recurrent_133 (by decide) rfl ?_
        refine z_iinc (v := (nI (i + 1))) (lv' := [(5, .int _), (2, .int _), (3, .long _), (0, .ref (b + 54)), (1, .int _)]) kd_M_recurrent_134 1 rfl (nI_1 _) (by decide) rfl ?_
        refine z_goto (tgt := 97) kd_M_recurrent_137 (by decide) ?_
        refine z_pick (lv' := [(5, .int (nI (i + 1))), (2, .int (zB false)), (3, .long xv), (0, .ref (b + 54)), (1, .int (nI s))]) [0, 1, 2, 3, 4] rfl ?_
        exact ih (i + 1) false (by omega) hq2
      · have hqt : q = true := zB_t c107
        refine z_iload kd_M_recurrent_110 0 rfl ?_
        refine z_iload_n kd_M_recurrent_112 4 rfl ?_
        refine z_icmp_eq (tgt := 128) kd_M_recurrent_113 (by decide) (fun c113 => ?_) (fun c113 => ?_)
        · have hq2 := all_s hq hqt (Or.inl ((nI_eq (by omega) (by omega)).mp c113))
          refine z_iconst (v := 1) kd_M_recurrent_128 (by decide) ?_
          refine z_goto (tgt := 133) kd_M_recurrent_129 (by decide) ?_
          refine z_istore_n (lv' := [(2, .int _), (5, .int _), (3, .long _), (0, .ref (b + 54)), (1, .int _)]) kd_M_recurrent_133 (by decide) rfl ?_
          refine z_iinc (v := (nI (i + 1))) (lv' := [(5, .int _), (2, .int _), (3, .long _), (0, .ref (b + 54)), (1, .int _)]) kd_M_recurrent_134 1 rfl (nI_1 _) (by decide) rfl ?_
          refine z_goto (tgt := 97) kd_M_recurrent_137 (by decide) ?_
          refine z_pick (lv' := [(5, .int (nI (i + 1))), (2, .int (zB true)), (3, .long xv), (0, .ref (b + 54)), (1, .int (nI s))]) [0, 1, 2, 3, 4] rfl ?_
          exact ih (i + 1) true (by omega) hq2
        · have his : ¬ i = s := fun z => c113 (by rw [z])
          refine z_aload_n kd_M_recurrent_116 3 rfl ?_
          refine z_get kd_M_recurrent_117 (kf_M_66 _) hM.h1 rfl ?_
          refine z_iload kd_M_recurrent_120 0 rfl ?_
          refine z_laldN (t0 := 1) kd_M_recurrent_122 (by assumption) hc (by omega) (by decide) ?_
          refine z_lconst (v := 1) kd_M_recurrent_123 (by decide +kernel) ?_
          refine z_lcmp kd_M_recurrent_124 ?_
          refine z_if_ne (tgt := 132) kd_M_recurrent_125 (by decide) (fun c125 => ?_) (fun c125 => ?_)
          · have hq2 := all_f hq (Or.inr (fun z => by rcases z with z | z; exact his z; exact c125 ((lg_cmp_0 _ _).mpr z)))
            refine z_iconst (v := 0) kd_M_recurrent_132 (by decide) ?_
            refine z_istore_n (lv' := [(2, .int _), (5, .int _), (3, .long _), (0, .ref (b + 54)), (1, .int _)]) kd_M_recurrent_133 (by decide) rfl ?_
            refine z_iinc (v := (nI (i + 1))) (lv' := [(5, .int _), (2, .int _), (3, .long _), (0, .ref (b + 54)), (1, .int _)]) kd_M_recurrent_134 1 rfl (nI_1 _) (by decide) rfl ?_
            refine z_goto (tgt := 97) kd_M_recurrent_137 (by decide) ?_
            refine z_pick (lv' := [(5, .int (nI (i + 1))), (2, .int (zB false)), (3, .long xv), (0, .ref (b + 54)), (1, .int (nI s))]) [0, 1, 2, 3, 4] rfl ?_
            exact ih (i + 1) false (by omega) hq2
          · have hq2 := all_s hq hqt (Or.inr ((lg_cmp_0 _ _).mp c125))
            refine z_iconst (v := 1) kd_M_recurrent_128 (by decide) ?_
            refine z_goto (tgt := 133) kd_M_recurrent_129 (by decide) ?_
            refine z_istore_n (lv' := [(2, .int _), (5, .int _), (3, .long _), (0, .ref (b + 54)), (1, .int _)]) kd_M_recurrent_133 (by decide) rfl ?_
            refine z_iinc (v := (nI (i + 1))) (lv' := [(5, .int _), (2, .int _), (3, .long _), (0, .ref (b + 54)), (1, .int _)]) kd_M_recurrent_134 1 rfl (nI_1 _) (by decide) rfl ?_
            refine z_goto (tgt := 97) kd_M_recurrent_137 (by decide) ?_
            refine z_pick (lv' := [(5, .int (nI (i + 1))), (2, .int (zB true)), (3, .long xv), (0, .ref (b + 54)), (1, .int (nI s))]) [0, 1, 2, 3, 4] rfl ?_
            exact ih (i + 1) true (by omega) hq2
theorem ag.rcA {n a s : Nat} {F T : Nat → Nat} {w : Nat → Int32} {L L' : Nat → Int64} (h : ag n L L') : (∀ v, v < n → v = s ∨ L v < dgV F T w a v) ↔ (∀ v, v < n → v = s ∨ L' v < dgV F T w a v) := by
  constructor
  · intro z v hv; rw [← h v hv]; exact z v hv
  · intro z v hv; rw [h v hv]; exact z v hv
theorem ag.rcB {n s : Nat} {L L' : Nat → Int64} (h : ag n L L') : (∀ v, v < n → v = s ∨ L v = 1) ↔ (∀ v, v < n → v = s ∨ L' v = 1) := by
  constructor
  · intro z v hv; rw [← h v hv]; exact z v hv
  · intro z v hv; rw [h v hv]; exact z v hv
set_option maxHeartbeats 4000000 in
set_option maxRecDepth 100000 in
theorem c_M_recurrent2 {l : Launch} {D : va_G} {tys : List (ClassId × FieldType)} {b N : Nat} {σ : Nat → Option va_E} {cI cJ cA : ClassId} (ht0 : tys[0]? = some (cI, .int)) (ht1 : tys[1]? = some (cJ, .long)) (ht3 : tys[3]? = some (cA, .array .long)) {cZ : ClassId} (ht2 : tys[2]? = some (cZ, .boolean)) {n a : Nat} {gf gt gw : Nat → Int32} {F T : Nat → Nat} {C K : Nat → Int64} (hMS : MS b cI cJ cZ σ n a gf gt gw F T C K) {s : Nat} (hs0 : s < n) (hz : zIn (nI s) (nI n) = true) (h0 : ¬ cnV n a F T gw x0 (fun v => v) = 0) (hb : ¬ (∀ v, v < n → v = s ∨ (bpL n C zz) v < dgV F T gw a v)) : zM l D kCl tys kNw b ky_M_recurrent (kh_M_recurrent :: zT) 10 360 0 0 [.ref (b + 54), .int (nI s)] N σ ((fun oc N' σ' => oc = .returned (some (.int 0)) ∧ N' = N ∧ MS b cI cJ cZ σ' n a gf gt gw F T C K ∧ Fr 54 73 σ σ')) := by
  refine zM.of (by decide +kernel) rfl (Nat.le_of_ble_eq_true rfl) ?_
  refine z_pick (lv' := [(0, .ref (b + 54)), (1, .int (nI s))]) [0, 1] rfl ?_
  obtain ⟨⟨th, fa, ls, rm, hM⟩, h58, h59, ⟨g60, h60⟩, ⟨g61, h61⟩, ⟨g62, h62⟩, ⟨g63, h63⟩, ⟨g64, h64⟩, ⟨g65, h65⟩, ⟨g66, h66⟩, ⟨g67, h67⟩, ⟨g68, h68⟩, ⟨g69, h69⟩, ⟨g70, h70⟩, ⟨g71, h71⟩, ⟨g72, h72⟩, ⟨g73, h73⟩⟩ := hMS
  have hn := hM.hn
  have ha := hM.ha
  refine z_aload_n kd_M_recurrent_0 0 rfl ?_
  refine z_iconst (v := 0) kd_M_recurrent_1 (by decide) ?_
  refine z_putE (fs' := [_, _, _, _, _, _, _, _, _, _, _, _, _, _, _, _, _, _, _, _, _, _, _, _, _]) kd_M_recurrent_2 (kp_M_69 _) hM.h1 (Nat.le_of_ble_eq_true rfl) rfl rfl rfl ?_
  refine z_upd (fun σ_1 x54_1 q_1 => ?_)
  have x58_1 := (q_1 58 (by omega)).trans h58
  have x59_1 := (q_1 59 (by omega)).trans h59
  have x60_1 := (q_1 60 (by omega)).trans h60
  have x61_1 := (q_1 61 (by omega)).trans h61
  have x62_1 := (q_1 62 (by omega)).trans h62
  have x63_1 := (q_1 63 (by omega)).trans h63
  have x64_1 := (q_1 64 (by omega)).trans h64
  have x65_1 := (q_1 65 (by omega)).trans h65
  have x66_1 := (q_1 66 (by omega)).trans h66
  have x67_1 := (q_1 67 (by omega)).trans h67
  have x68_1 := (q_1 68 (by omega)).trans h68
  have x69_1 := (q_1 69 (by omega)).trans h69
  have x70_1 := (q_1 70 (by omega)).trans h70
  have x71_1 := (q_1 71 (by omega)).trans h71
  have x72_1 := (q_1 72 (by omega)).trans h72
  have x73_1 := (q_1 73 (by omega)).trans h73
  have hM_1 := hM.put x54_1 q_1
  refine z_aload_n kd_M_recurrent_5 0 rfl ?_
  refine z_iload_n kd_M_recurrent_6 1 rfl ?_
  refine z_V1 (a := 54) (As := [_]) kd_M_recurrent_7 (kg_M_76 _) hM_1.h1 kc_M (c_M_isNode ht0 ht1 ht3 hM_1) rfl rfl (Nat.le_of_ble_eq_true rfl) ⟨Nat.le_of_ble_eq_true rfl, Nat.le_of_ble_eq_true rfl⟩ ⟨Nat.le_of_ble_eq_true rfl, Nat.le_of_ble_eq_true rfl⟩ ?_
  refine z_topi (show zB (zIn (nI s) (nI n)) = 1 by rw [hz]; rfl) ?_
  refine z_if_eq (tgt := 22) kd_M_recurrent_10 (by decide) (fun c10 => absurd c10 (by decide)) (fun c10 => ?_)
  refine z_aload_n kd_M_recurrent_13 0 rfl ?_
  refine z_callV (a := 54) (As := []) kd_M_recurrent_14 (kg_M_133 _) hM_1.h1 kc_M (c_M_trees ht0 ht1 ht3 ht2 ⟨⟨_, _, _, _, hM_1⟩, x58_1, x59_1, ⟨_, x60_1⟩, ⟨_, x61_1⟩, ⟨_, x62_1⟩, ⟨_, x63_1⟩, ⟨_, x64_1⟩, ⟨_, x65_1⟩, ⟨_, x66_1⟩, ⟨_, x67_1⟩, ⟨_, x68_1⟩, ⟨_, x69_1⟩, ⟨_, x70_1⟩, ⟨_, x71_1⟩, ⟨_, x72_1⟩, ⟨_, x73_1⟩⟩) rfl rfl (Nat.le_of_ble_eq_true rfl) ⟨Nat.le_of_ble_eq_true rfl, Nat.le_of_ble_eq_true rfl⟩ ⟨Nat.le_of_ble_eq_true rfl, Nat.le_of_ble_eq_true rfl⟩ ?_
  rintro _ _ σ_2 ⟨hv, rfl, ⟨⟨th_2, fa_2, ls_2, rm_2, hM_2⟩, h58_2, h59_2, ⟨g60_2, h60_2⟩, ⟨g61_2, h61_2⟩, ⟨g62_2, h62_2⟩, ⟨g63_2, h63_2⟩, ⟨g64_2, h64_2⟩, ⟨g65_2, h65_2⟩, ⟨g66_2, h66_2⟩, ⟨g67_2, h67_2⟩, ⟨g68_2, h68_2⟩, ⟨g69_2, h69_2⟩, ⟨g70_2, h70_2⟩, ⟨g71_2, h71_2⟩, ⟨g72_2, h72_2⟩, ⟨g73_2, h73_2⟩⟩, ⟨g2_2, g3_2, x62_2, hp_2, x63_2, hX_2⟩, q_2⟩
  cases hv
  refine z_eq (st' := [_]) rfl rfl rfl rfl ?_
  refine z_lconst (v := 0) kd_M_recurrent_17 (by decide +kernel) ?_
  refine z_lcmp kd_M_recurrent_18 ?_
  refine z_if_ne (tgt := 24) kd_M_recurrent_19 (by decide) (fun c19 => ?_) (fun c19 => ?_)
  · refine z_aload_n kd_M_recurrent_24 0 rfl ?_
    refine z_callV (a := 54) (As := []) kd_M_recurrent_25 (kg_M_208 _) hM_2.h1 kc_M (c_M_beginPile ht0 ht1 ht3 hM_2 h58_2 h72_2 h73_2) rfl rfl (Nat.le_of_ble_eq_true rfl) ⟨Nat.le_of_ble_eq_true rfl, Nat.le_of_ble_eq_true rfl⟩ ⟨Nat.le_of_ble_eq_true rfl, Nat.le_of_ble_eq_true rfl⟩ ?_
    rintro _ _ σ_3 ⟨hv, rfl, x72_3, x73_3, q_3⟩
    cases hv
    refine z_eq (st' := []) rfl rfl rfl rfl ?_
    have x58_3 := (q_3 58 (by omega)).trans h58_2
    have x59_3 := (q_3 59 (by omega)).trans h59_2
    have x60_3 := (q_3 60 (by omega)).trans h60_2
    have x61_3 := (q_3 61 (by omega)).trans h61_2
    have x62_3 := (q_3 62 (by omega)).trans x62_2
    have x63_3 := (q_3 63 (by omega)).trans x63_2
    have x64_3 := (q_3 64 (by omega)).trans h64_2
    have x65_3 := (q_3 65 (by omega)).trans h65_2
    have x66_3 := (q_3 66 (by omega)).trans h66_2
    have x67_3 := (q_3 67 (by omega)).trans h67_2
    have x68_3 := (q_3 68 (by omega)).trans h68_2
    have x69_3 := (q_3 69 (by omega)).trans h69_2
    have x70_3 := (q_3 70 (by omega)).trans h70_2
    have x71_3 := (q_3 71 (by omega)).trans h71_2
    have hM_3 := hM_2.fr q_3 (by omega)
    refine z_iconst (v := 1) kd_M_recurrent_28 (by decide) ?_
    refine z_istore_n (lv' := [(2, .int _), (0, .ref (b + 54)), (1, .int _)]) kd_M_recurrent_29 (by decide) rfl ?_
    refine z_iconst (v := 0) kd_M_recurrent_30 (by decide) ?_
    refine z_istore_n (lv' := [(3, .int _), (2, .int _), (0, .ref (b + 54)), (1, .int _)]) kd_M_recurrent_31 (by decide) rfl ?_
    refine z_pick (lv' := [(3, .int (nI 0)), (2, .int (zB true)), (0, .ref (b + 54)), (1, .int (nI s))]) [0, 1, 2, 3] rfl ?_
    refine l_M_rc1 ht0 ht1 ht3 hM_3 x72_3 hs0 (xv := 0) (fun q hq => ?_) n 0 true (by omega) ⟨fun _ y hy => absurd hy (Nat.not_lt_zero y), fun _ => rfl⟩
    have hqf : q = false := by
      cases q with
      | false => rfl
      | true => exact absurd ((ag.rcA ag.bp).mp (hq.mp rfl)) hb
    refine z_iload_n kd_M_recurrent_76 0 rfl ?_
    refine z_if_ne (tgt := 82) kd_M_recurrent_77 (by decide) (fun c77 => ?_) (fun c77 => ?_)
    · exact absurd hqf (by rw [Bool.not_eq_false]; exact zB_t c77)
    · refine z_iconst (v := 0) kd_M_recurrent_80 (by decide) ?_
      exact z_iret kd_M_recurrent_81 rfl (Nat.le_of_ble_eq_true rfl) (Nat.le_of_ble_eq_true rfl) ⟨rfl, rfl, ⟨⟨_, _, _, _, hM_3⟩, x58_3, x59_3, ⟨_, x60_3⟩, ⟨_, x61_3⟩, ⟨_, x62_3⟩, ⟨_, x63_3⟩, ⟨_, x64_3⟩, ⟨_, x65_3⟩, ⟨_, x66_3⟩, ⟨_, x67_3⟩, ⟨_, x68_3⟩, ⟨_, x69_3⟩, ⟨_, x70_3⟩, ⟨_, x71_3⟩, ⟨_, x72_3⟩, ⟨_, x73_3⟩⟩, (Fr.tr (Fr.tr (Fr.tr Fr.rf (q_1.wide (by omega) (by omega))) (q_2.wide (by omega) (by omega))) (q_3.wide (by omega) (by omega)))⟩
  · exact absurd ((lg_cmp_0 _ _).mp c19) h0
set_option maxHeartbeats 4000000 in
set_option maxRecDepth 100000 in
theorem c_M_recurrent3 {l : Launch} {D : va_G} {tys : List (ClassId × FieldType)} {b N : Nat} {σ : Nat → Option va_E} {cI cJ cA : ClassId} (ht0 : tys[0]? = some (cI, .int)) (ht1 : tys[1]? = some (cJ, .long)) (ht3 : tys[3]? = some (cA, .array .long)) {cZ : ClassId} (ht2 : tys[2]? = some (cZ, .boolean)) {n a : Nat} {gf gt gw : Nat → Int32} {F T : Nat → Nat} {C K : Nat → Int64} (hMS : MS b cI cJ cZ σ n a gf gt gw F T C K) {s : Nat} (hs0 : s < n) (hz : zIn (nI s) (nI n) = true) (h0 : ¬ cnV n a F T gw x0 (fun v => v) = 0) (hb : (∀ v, v < n → v = s ∨ (bpL n C zz) v < dgV F T gw a v)) (hdg : ∀ v, v < n → v ≠ s → ¬ dgV F T gw a v = 0) {f : Nat} {val : (Nat → Int64) × (Nat → Int64) × Int64} (hv : spO F T gw n a s f (fnV F T gw a s 1 (bpL n C zz)) (vp_updL (bpL n (fun _ => 0) zz) s (bpL n (fun _ => 0) zz s + 1)) 0 = some val) : zM l D kCl tys kNw b ky_M_recurrent (kh_M_recurrent :: zT) 10 360 0 0 [.ref (b + 54), .int (nI s)] N σ ((fun oc N' σ' => oc = .returned (some (.int (zB (decide (∀ v, v < n → v = s ∨ val.2.1 v = 1))))) ∧ N' = N ∧ MS b cI cJ cZ σ' n a gf gt gw F T C K ∧ Fr 54 73 σ σ')) := by
  refine zM.of (by decide +kernel) rfl (Nat.le_of_ble_eq_true rfl) ?_
  refine z_pick (lv' := [(0, .ref (b + 54)), (1, .int (nI s))]) [0, 1] rfl ?_
  obtain ⟨⟨th, fa, ls, rm, hM⟩, h58, h59, ⟨g60, h60⟩, ⟨g61, h61⟩, ⟨g62, h62⟩, ⟨g63, h63⟩, ⟨g64, h64⟩, ⟨g65, h65⟩, ⟨g66, h66⟩, ⟨g67, h67⟩, ⟨g68, h68⟩, ⟨g69, h69⟩, ⟨g70, h70⟩, ⟨g71, h71⟩, ⟨g72, h72⟩, ⟨g73, h73⟩⟩ := hMS
  have hn := hM.hn
  have ha := hM.ha
  refine z_aload_n kd_M_recurrent_0 0 rfl ?_
  refine z_iconst (v := 0) kd_M_recurrent_1 (by decide) ?_
  refine z_putE (fs' := [_, _, _, _, _, _, _, _, _, _, _, _, _, _, _, _, _, _, _, _, _, _, _, _, _]) kd_M_recurrent_2 (kp_M_69 _) hM.h1 (Nat.le_of_ble_eq_true rfl) rfl rfl rfl ?_
  refine z_upd (fun σ_1 x54_1 q_1 => ?_)
  have x58_1 := (q_1 58 (by omega)).trans h58
  have x59_1 := (q_1 59 (by omega)).trans h59
  have x60_1 := (q_1 60 (by omega)).trans h60
  have x61_1 := (q_1 61 (by omega)).trans h61
  have x62_1 := (q_1 62 (by omega)).trans h62
  have x63_1 := (q_1 63 (by omega)).trans h63
  have x64_1 := (q_1 64 (by omega)).trans h64
  have x65_1 := (q_1 65 (by omega)).trans h65
  have x66_1 := (q_1 66 (by omega)).trans h66
  have x67_1 := (q_1 67 (by omega)).trans h67
  have x68_1 := (q_1 68 (by omega)).trans h68
  have x69_1 := (q_1 69 (by omega)).trans h69
  have x70_1 := (q_1 70 (by omega)).trans h70
  have x71_1 := (q_1 71 (by omega)).trans h71
  have x72_1 := (q_1 72 (by omega)).trans h72
  have x73_1 := (q_1 73 (by omega)).trans h73
  have hM_1 := hM.put x54_1 q_1
  refine z_aload_n kd_M_recurrent_5 0 rfl ?_
  refine z_iload_n kd_M_recurrent_6 1 rfl ?_
  refine z_V1 (a := 54) (As := [_]) kd_M_recurrent_7 (kg_M_76 _) hM_1.h1 kc_M (c_M_isNode ht0 ht1 ht3 hM_1) rfl rfl (Nat.le_of_ble_eq_true rfl) ⟨Nat.le_of_ble_eq_true rfl, Nat.le_of_ble_eq_true rfl⟩ ⟨Nat.le_of_ble_eq_true rfl, Nat.le_of_ble_eq_true rfl⟩ ?_
  refine z_topi (show zB (zIn (nI s) (nI n)) = 1 by rw [hz]; rfl) ?_
  refine z_if_eq (tgt := 22) kd_M_recurrent_10 (by decide) (fun c10 => absurd c10 (by decide)) (fun c10 => ?_)
  refine z_aload_n kd_M_recurrent_13 0 rfl ?_
  refine z_callV (a := 54) (As := []) kd_M_recurrent_14 (kg_M_133 _) hM_1.h1 kc_M (c_M_trees ht0 ht1 ht3 ht2 ⟨⟨_, _, _, _, hM_1⟩, x58_1, x59_1, ⟨_, x60_1⟩, ⟨_, x61_1⟩, ⟨_, x62_1⟩, ⟨_, x63_1⟩, ⟨_, x64_1⟩, ⟨_, x65_1⟩, ⟨_, x66_1⟩, ⟨_, x67_1⟩, ⟨_, x68_1⟩, ⟨_, x69_1⟩, ⟨_, x70_1⟩, ⟨_, x71_1⟩, ⟨_, x72_1⟩, ⟨_, x73_1⟩⟩) rfl rfl (Nat.le_of_ble_eq_true rfl) ⟨Nat.le_of_ble_eq_true rfl, Nat.le_of_ble_eq_true rfl⟩ ⟨Nat.le_of_ble_eq_true rfl, Nat.le_of_ble_eq_true rfl⟩ ?_
  rintro _ _ σ_2 ⟨hv, rfl, ⟨⟨th_2, fa_2, ls_2, rm_2, hM_2⟩, h58_2, h59_2, ⟨g60_2, h60_2⟩, ⟨g61_2, h61_2⟩, ⟨g62_2, h62_2⟩, ⟨g63_2, h63_2⟩, ⟨g64_2, h64_2⟩, ⟨g65_2, h65_2⟩, ⟨g66_2, h66_2⟩, ⟨g67_2, h67_2⟩, ⟨g68_2, h68_2⟩, ⟨g69_2, h69_2⟩, ⟨g70_2, h70_2⟩, ⟨g71_2, h71_2⟩, ⟨g72_2, h72_2⟩, ⟨g73_2, h73_2⟩⟩, ⟨g2_2, g3_2, x62_2, hp_2, x63_2, hX_2⟩, q_2⟩
  cases hv
  refine z_eq (st' := [_]) rfl rfl rfl rfl ?_
  refine z_lconst (v := 0) kd_M_recurrent_17 (by decide +kernel) ?_
  refine z_lcmp kd_M_recurrent_18 ?_
  refine z_if_ne (tgt := 24) kd_M_recurrent_19 (by decide) (fun c19 => ?_) (fun c19 => ?_)
  · refine z_aload_n kd_M_recurrent_24 0 rfl ?_
    refine z_callV (a := 54) (As := []) kd_M_recurrent_25 (kg_M_208 _) hM_2.h1 kc_M (c_M_beginPile ht0 ht1 ht3 hM_2 h58_2 h72_2 h73_2) rfl rfl (Nat.le_of_ble_eq_true rfl) ⟨Nat.le_of_ble_eq_true rfl, Nat.le_of_ble_eq_true rfl⟩ ⟨Nat.le_of_ble_eq_true rfl, Nat.le_of_ble_eq_true rfl⟩ ?_
    rintro _ _ σ_3 ⟨hv, rfl, x72_3, x73_3, q_3⟩
    cases hv
    refine z_eq (st' := []) rfl rfl rfl rfl ?_
    have x58_3 := (q_3 58 (by omega)).trans h58_2
    have x59_3 := (q_3 59 (by omega)).trans h59_2
    have x60_3 := (q_3 60 (by omega)).trans h60_2
    have x61_3 := (q_3 61 (by omega)).trans h61_2
    have x62_3 := (q_3 62 (by omega)).trans x62_2
    have x63_3 := (q_3 63 (by omega)).trans x63_2
    have x64_3 := (q_3 64 (by omega)).trans h64_2
    have x65_3 := (q_3 65 (by omega)).trans h65_2
    have x66_3 := (q_3 66 (by omega)).trans h66_2
    have x67_3 := (q_3 67 (by omega)).trans h67_2
    have x68_3 := (q_3 68 (by omega)).trans h68_2
    have x69_3 := (q_3 69 (by omega)).trans h69_2
    have x70_3 := (q_3 70 (by omega)).trans h70_2
    have x71_3 := (q_3 71 (by omega)).trans h71_2
    have hM_3 := hM_2.fr q_3 (by omega)
    refine z_iconst (v := 1) kd_M_recurrent_28 (by decide) ?_
    refine z_istore_n (lv' := [(2, .int _), (0, .ref (b + 54)), (1, .int _)]) kd_M_recurrent_29 (by decide) rfl ?_
    refine z_iconst (v := 0) kd_M_recurrent_30 (by decide) ?_
    refine z_istore_n (lv' := [(3, .int _), (2, .int _), (0, .ref (b + 54)), (1, .int _)]) kd_M_recurrent_31 (by decide) rfl ?_
    refine z_pick (lv' := [(3, .int (nI 0)), (2, .int (zB true)), (0, .ref (b + 54)), (1, .int (nI s))]) [0, 1, 2, 3] rfl ?_
    refine l_M_rc1 ht0 ht1 ht3 hM_3 x72_3 hs0 (xv := 0) (fun q hq => ?_) n 0 true (by omega) ⟨fun _ y hy => absurd hy (Nat.not_lt_zero y), fun _ => rfl⟩
    have hqt : q = true := hq.mpr ((ag.rcA ag.bp).mp hb)
    subst hqt
    refine z_iload_n kd_M_recurrent_76 0 rfl ?_
    refine z_if_ne (tgt := 82) kd_M_recurrent_77 (by decide) (fun c77 => ?_) (fun c77 => ?_)
    · refine z_aload_n kd_M_recurrent_82 1 rfl ?_
      refine z_iload_n kd_M_recurrent_83 2 rfl ?_
      refine z_lconst (v := 1) kd_M_recurrent_84 (by decide +kernel) ?_
      refine z_callV (a := 54) (As := [_, _]) kd_M_recurrent_85 (kg_M_204 _) hM_3.h1 kc_M (c_M_fireNode ht0 ht1 ht3 hM_3 x72_3 x73_3 hs0) rfl rfl (Nat.le_of_ble_eq_true rfl) ⟨Nat.le_of_ble_eq_true rfl, Nat.le_of_ble_eq_true rfl⟩ ⟨Nat.le_of_ble_eq_true rfl, Nat.le_of_ble_eq_true rfl⟩ ?_
      rintro _ _ σ_4 ⟨hv, rfl, x72_4, x73_4, q_4⟩
      cases hv
      refine z_eq (st' := []) rfl rfl rfl rfl ?_
      have x58_4 := (q_4 58 (by omega)).trans x58_3
      have x59_4 := (q_4 59 (by omega)).trans x59_3
      have x60_4 := (q_4 60 (by omega)).trans x60_3
      have x61_4 := (q_4 61 (by omega)).trans x61_3
      have x62_4 := (q_4 62 (by omega)).trans x62_3
      have x63_4 := (q_4 63 (by omega)).trans x63_3
      have x64_4 := (q_4 64 (by omega)).trans x64_3
      have x65_4 := (q_4 65 (by omega)).trans x65_3
      have x66_4 := (q_4 66 (by omega)).trans x66_3
      have x67_4 := (q_4 67 (by omega)).trans x67_3
      have x68_4 := (q_4 68 (by omega)).trans x68_3
      have x69_4 := (q_4 69 (by omega)).trans x69_3
      have x70_4 := (q_4 70 (by omega)).trans x70_3
      have x71_4 := (q_4 71 (by omega)).trans x71_3
      have hM_4 := hM_3.fr q_4 (by omega)
      refine z_aload_n kd_M_recurrent_88 1 rfl ?_
      refine z_iload_n kd_M_recurrent_89 2 rfl ?_
      obtain ⟨val2, hv2, b1, b2, b3⟩ := ag.spo hM.ft f _ (fnV F T gw a s 1 (bpL n C g72_2)) _ (vp_updL (bpL n (fun _ => 0) g73_2) s (bpL n (fun _ => 0) g73_2 s + 1)) 0 val (ag.fn hM.ft hs0 a 0 _ _ (by omega) ag.bp) (ag.bp.up (congrArg (fun z => z + 1) (ag.bp s hs0))) hv
      refine z_callV (a := 54) (As := [_]) kd_M_recurrent_90 (kg_M_211 _) hM_4.h1 kc_M (c_M_settlePile ht0 ht1 ht3 hM_4 x72_4 x73_4 hs0 hdg hv2) rfl rfl (Nat.le_of_ble_eq_true rfl) ⟨Nat.le_of_ble_eq_true rfl, Nat.le_of_ble_eq_true rfl⟩ ⟨Nat.le_of_ble_eq_true rfl, Nat.le_of_ble_eq_true rfl⟩ ?_
      rintro _ _ σ_5 ⟨hv, rfl, x72_5, x73_5, q_5⟩
      cases hv
      refine z_eq (st' := [_]) rfl rfl rfl rfl ?_
      have x58_5 := (q_5 58 (by omega)).trans x58_4
      have x59_5 := (q_5 59 (by omega)).trans x59_4
      have x60_5 := (q_5 60 (by omega)).trans x60_4
      have x61_5 := (q_5 61 (by omega)).trans x61_4
      have x62_5 := (q_5 62 (by omega)).trans x62_4
      have x63_5 := (q_5 63 (by omega)).trans x63_4
      have x64_5 := (q_5 64 (by omega)).trans x64_4
      have x65_5 := (q_5 65 (by omega)).trans x65_4
      have x66_5 := (q_5 66 (by omega)).trans x66_4
      have x67_5 := (q_5 67 (by omega)).trans x67_4
      have x68_5 := (q_5 68 (by omega)).trans x68_4
      have x69_5 := (q_5 69 (by omega)).trans x69_4
      have x70_5 := (q_5 70 (by omega)).trans x70_4
      have x71_5 := (q_5 71 (by omega)).trans x71_4
      have hM_5 := hM_4.fr q_5 (by omega)
      refine z_lstore_n (lv' := [(3, .long _), (2, .int _), (0, .ref (b + 54)), (1, .int _)]) kd_M_recurrent_93 (by decide) rfl ?_
      refine z_iconst (v := 0) kd_M_recurrent_94 (by decide) ?_
      refine z_istore (lv' := [(5, .int _), (3, .long _), (2, .int _), (0, .ref (b + 54)), (1, .int _)]) kd_M_recurrent_95 (by decide) rfl ?_
      refine z_pick (lv' := [(5, .int (nI 0)), (2, .int (zB true)), (3, .long _), (0, .ref (b + 54)), (1, .int (nI s))]) [0, 2, 1, 3, 4] rfl ?_
      refine l_M_rc2 ht0 ht1 ht3 hM_5 x73_5 hs0 (fun q hq => ?_) n 0 true (by omega) ⟨fun _ y hy => absurd hy (Nat.not_lt_zero y), fun _ => rfl⟩
      refine z_iload_n kd_M_recurrent_140 0 rfl ?_
      refine z_if_eq (tgt := 148) kd_M_recurrent_141 (by decide) (fun c141 => ?_) (fun c141 => ?_)
      · have hqq : ¬ q = true := fun z => by rw [z] at c141; exact absurd c141 (by decide)
        refine z_iconst (v := 0) kd_M_recurrent_148 (by decide) ?_
        exact z_iret kd_M_recurrent_149 rfl (Nat.le_of_ble_eq_true rfl) (Nat.le_of_ble_eq_true rfl) ⟨by rw [zBf (fun z => hqq (hq.mpr ((ag.rcB b2).mp z)))], rfl, ⟨⟨_, _, _, _, hM_5⟩, x58_5, x59_5, ⟨_, x60_5⟩, ⟨_, x61_5⟩, ⟨_, x62_5⟩, ⟨_, x63_5⟩, ⟨_, x64_5⟩, ⟨_, x65_5⟩, ⟨_, x66_5⟩, ⟨_, x67_5⟩, ⟨_, x68_5⟩, ⟨_, x69_5⟩, ⟨_, x70_5⟩, ⟨_, x71_5⟩, ⟨_, x72_5⟩, ⟨_, x73_5⟩⟩, (Fr.tr (Fr.tr (Fr.tr (Fr.tr (Fr.tr Fr.rf (q_1.wide (by omega) (by omega))) (q_2.wide (by omega) (by omega))) (q_3.wide (by omega) (by omega))) (q_4.wide (by omega) (by omega))) (q_5.wide (by omega) (by omega)))⟩
      · have hqq : q = true := zB_t c141
        refine z_iconst (v := 1) kd_M_recurrent_144 (by decide) ?_
        refine z_goto (tgt := 149) kd_M_recurrent_145 (by decide) ?_
        exact z_iret kd_M_recurrent_149 rfl (Nat.le_of_ble_eq_true rfl) (Nat.le_of_ble_eq_true rfl) ⟨by rw [zBt ((ag.rcB b2).mpr (hq.mp hqq))], rfl, ⟨⟨_, _, _, _, hM_5⟩, x58_5, x59_5, ⟨_, x60_5⟩, ⟨_, x61_5⟩, ⟨_, x62_5⟩, ⟨_, x63_5⟩, ⟨_, x64_5⟩, ⟨_, x65_5⟩, ⟨_, x66_5⟩, ⟨_, x67_5⟩, ⟨_, x68_5⟩, ⟨_, x69_5⟩, ⟨_, x70_5⟩, ⟨_, x71_5⟩, ⟨_, x72_5⟩, ⟨_, x73_5⟩⟩, (Fr.tr (Fr.tr (Fr.tr (Fr.tr (Fr.tr Fr.rf (q_1.wide (by omega) (by omega))) (q_2.wide (by omega) (by omega))) (q_3.wide (by omega) (by omega))) (q_4.wide (by omega) (by omega))) (q_5.wide (by omega) (by omega)))⟩
    · exact absurd c77 (by decide)
  · exact absurd ((lg_cmp_0 _ _).mp c19) h0
