def bclr (X : Nat → Bool) (k : Nat) : Nat → Bool := fun j => if j = k then false else X j
theorem BX.clr {a k : Nat} {g : Nat → Int32} {X : Nat → Bool} (h : BX a g X) : BX a (upd g k 0) (bclr X k) := by
  intro j hj
  by_cases e : j = k
  · subst e; simp [upd, bclr, zB]
  · have := h j hj
    simp [upd, bclr, e, this]
set_option maxHeartbeats 4000000 in
set_option maxRecDepth 100000 in
theorem c_M_through0 {l : Launch} {D : va_G} {tys : List (ClassId × FieldType)} {b N : Nat} {σ : Nat → Option va_E} {cI cJ cA : ClassId} (ht0 : tys[0]? = some (cI, .int)) (ht1 : tys[1]? = some (cJ, .long)) (ht3 : tys[3]? = some (cA, .array .long)) {cZ : ClassId} (ht2 : tys[2]? = some (cZ, .boolean)) {n a : Nat} {gf gt gw : Nat → Int32} {F T : Nat → Nat} {C K : Nat → Int64} (hMS : MS b cI cJ cZ σ n a gf gt gw F T C K) {x : Int32} (hz : zIn x (nI a) = false) : zM l D kCl tys kNw b ky_M_through (kh_M_through :: zT) 8 300 0 0 [.ref (b + 54), .int x] N σ ((fun oc N' σ' => oc = .returned (some (.long (-1))) ∧ N' = N ∧ MS b cI cJ cZ σ' n a gf gt gw F T C K ∧ Fr 54 73 σ σ')) := by
  refine zM.of (by decide +kernel) rfl (Nat.le_of_ble_eq_true rfl) ?_
  refine z_pick (lv' := [(0, .ref (b + 54)), (1, .int x)]) [0, 1] rfl ?_
  obtain ⟨⟨th, fa, ls, rm, hM⟩, h58, h59, ⟨g60, h60⟩, ⟨g61, h61⟩, ⟨g62, h62⟩, ⟨g63, h63⟩, ⟨g64, h64⟩, ⟨g65, h65⟩, ⟨g66, h66⟩, ⟨g67, h67⟩, ⟨g68, h68⟩, ⟨g69, h69⟩, ⟨g70, h70⟩, ⟨g71, h71⟩, ⟨g72, h72⟩, ⟨g73, h73⟩⟩ := hMS
  have hn := hM.hn
  have ha := hM.ha
  refine z_aload_n kd_M_through_0 0 rfl ?_
  refine z_iconst (v := 0) kd_M_through_1 (by decide) ?_
  refine z_putE (fs' := [_, _, _, _, _, _, _, _, _, _, _, _, _, _, _, _, _, _, _, _, _, _, _, _, _]) kd_M_through_2 (kp_M_69 _) hM.h1 (Nat.le_of_ble_eq_true rfl) rfl rfl rfl ?_
  refine z_upd (fun σ_1 x54_1 q_1 => ?_)
  have x58_1 := (q_1 58 (by omega)).trans h58
  have x59_1 := (q_1 59 (by omega)).trans h59
  have x60_1 := (q_1 60 (by omega)).trans h60
  have x61_1 := (q_1 61 (by omega)).trans h61
  have x62_1 := (q_1 62 (by omega)).trans h62
  have x63_1 := (q_1 63 (by omega)).trans h63
  have x64_1 := (q_1 64 (by omega)).trans h64
  have x65_1 := (q_1 65 (by omega)).trans h65
  have x66_1 := (q_1 66 (by omega)).trans h66
  have x67_1 := (q_1 67 (by omega)).trans h67
  have x68_1 := (q_1 68 (by omega)).trans h68
  have x69_1 := (q_1 69 (by omega)).trans h69
  have x70_1 := (q_1 70 (by omega)).trans h70
  have x71_1 := (q_1 71 (by omega)).trans h71
  have x72_1 := (q_1 72 (by omega)).trans h72
  have x73_1 := (q_1 73 (by omega)).trans h73
  have hM_1 := hM.put x54_1 q_1
  refine z_iload_n kd_M_through_5 1 rfl ?_
  refine z_if_lt (tgt := 17) kd_M_through_6 (by decide) (fun c6 => ?_) (fun c6 => ?_)
  · refine z_ldc2 (v := -1) kd_M_through_17 (List.mem_cons_of_mem _ (zin 918 rfl rfl)) ?_
    exact z_lret kd_M_through_20 rfl (Nat.le_of_ble_eq_true rfl) (Nat.le_of_ble_eq_true rfl) ⟨rfl, rfl, ⟨⟨_, _, _, _, hM_1⟩, x58_1, x59_1, ⟨_, x60_1⟩, ⟨_, x61_1⟩, ⟨_, x62_1⟩, ⟨_, x63_1⟩, ⟨_, x64_1⟩, ⟨_, x65_1⟩, ⟨_, x66_1⟩, ⟨_, x67_1⟩, ⟨_, x68_1⟩, ⟨_, x69_1⟩, ⟨_, x70_1⟩, ⟨_, x71_1⟩, ⟨_, x72_1⟩, ⟨_, x73_1⟩⟩, (Fr.tr Fr.rf (q_1.wide (by omega) (by omega)))⟩
  · refine z_iload_n kd_M_through_9 1 rfl ?_
    refine z_aload_n kd_M_through_10 0 rfl ?_
    refine z_get kd_M_through_11 (kf_M_80 _) hM_1.h1 rfl ?_
    refine z_icmp_lt (tgt := 21) kd_M_through_14 (by decide) (fun c14 => ?_) (fun c14 => ?_)
    · exact absurd hz (by rw [zIn_t c6 (fun z => absurd c14 (Int32.not_lt.mpr z))]; decide)
    · refine z_ldc2 (v := -1) kd_M_through_17 (List.mem_cons_of_mem _ (zin 918 rfl rfl)) ?_
      exact z_lret kd_M_through_20 rfl (Nat.le_of_ble_eq_true rfl) (Nat.le_of_ble_eq_true rfl) ⟨rfl, rfl, ⟨⟨_, _, _, _, hM_1⟩, x58_1, x59_1, ⟨_, x60_1⟩, ⟨_, x61_1⟩, ⟨_, x62_1⟩, ⟨_, x63_1⟩, ⟨_, x64_1⟩, ⟨_, x65_1⟩, ⟨_, x66_1⟩, ⟨_, x67_1⟩, ⟨_, x68_1⟩, ⟨_, x69_1⟩, ⟨_, x70_1⟩, ⟨_, x71_1⟩, ⟨_, x72_1⟩, ⟨_, x73_1⟩⟩, (Fr.tr Fr.rf (q_1.wide (by omega) (by omega)))⟩
set_option maxHeartbeats 4000000 in
set_option maxRecDepth 100000 in
theorem c_M_through1 {l : Launch} {D : va_G} {tys : List (ClassId × FieldType)} {b N : Nat} {σ : Nat → Option va_E} {cI cJ cA : ClassId} (ht0 : tys[0]? = some (cI, .int)) (ht1 : tys[1]? = some (cJ, .long)) (ht3 : tys[3]? = some (cA, .array .long)) {cZ : ClassId} (ht2 : tys[2]? = some (cZ, .boolean)) {n a : Nat} {gf gt gw : Nat → Int32} {F T : Nat → Nat} {C K : Nat → Int64} (hMS : MS b cI cJ cZ σ n a gf gt gw F T C K) {k : Nat} (hk : k < a) : zM l D kCl tys kNw b ky_M_through (kh_M_through :: zT) 8 300 0 0 [.ref (b + 54), .int (nI k)] N σ ((fun oc N' σ' => oc = .returned (some (.long (thV n a F T gw k))) ∧ N' = N ∧ MS b cI cJ cZ σ' n a gf gt gw F T C K ∧ Fr 54 73 σ σ')) := by
  refine zM.of (by decide +kernel) rfl (Nat.le_of_ble_eq_true rfl) ?_
  refine z_pick (lv' := [(0, .ref (b + 54)), (1, .int (nI k))]) [0, 1] rfl ?_
  obtain ⟨⟨th, fa, ls, rm, hM⟩, h58, h59, ⟨g60, h60⟩, ⟨g61, h61⟩, ⟨g62, h62⟩, ⟨g63, h63⟩, ⟨g64, h64⟩, ⟨g65, h65⟩, ⟨g66, h66⟩, ⟨g67, h67⟩, ⟨g68, h68⟩, ⟨g69, h69⟩, ⟨g70, h70⟩, ⟨g71, h71⟩, ⟨g72, h72⟩, ⟨g73, h73⟩⟩ := hMS
  have hn := hM.hn
  have ha := hM.ha
  refine z_aload_n kd_M_through_0 0 rfl ?_
  refine z_iconst (v := 0) kd_M_through_1 (by decide) ?_
  refine z_putE (fs' := [_, _, _, _, _, _, _, _, _, _, _, _, _, _, _, _, _, _, _, _, _, _, _, _, _]) kd_M_through_2 (kp_M_69 _) hM.h1 (Nat.le_of_ble_eq_true rfl) rfl rfl rfl ?_
  refine z_upd (fun σ_1 x54_1 q_1 => ?_)
  have x58_1 := (q_1 58 (by omega)).trans h58
  have x59_1 := (q_1 59 (by omega)).trans h59
  have x60_1 := (q_1 60 (by omega)).trans h60
  have x61_1 := (q_1 61 (by omega)).trans h61
  have x62_1 := (q_1 62 (by omega)).trans h62
  have x63_1 := (q_1 63 (by omega)).trans h63
  have x64_1 := (q_1 64 (by omega)).trans h64
  have x65_1 := (q_1 65 (by omega)).trans h65
  have x66_1 := (q_1 66 (by omega)).trans h66
  have x67_1 := (q_1 67 (by omega)).trans h67
  have x68_1 := (q_1 68 (by omega)).trans h68
  have x69_1 := (q_1 69 (by omega)).trans h69
  have x70_1 := (q_1 70 (by omega)).trans h70
  have x71_1 := (q_1 71 (by omega)).trans h71
  have x72_1 := (q_1 72 (by omega)).trans h72
  have x73_1 := (q_1 73 (by omega)).trans h73
  have hM_1 := hM.put x54_1 q_1
  refine z_iload_n kd_M_through_5 1 rfl ?_
  refine z_if_lt (tgt := 17) kd_M_through_6 (by decide) (fun c6 => ?_) (fun c6 => ?_)
  · exact absurd c6 (nI_pos (by omega))
  · refine z_iload_n kd_M_through_9 1 rfl ?_
    refine z_aload_n kd_M_through_10 0 rfl ?_
    refine z_get kd_M_through_11 (kf_M_80 _) hM_1.h1 rfl ?_
    refine z_icmp_lt (tgt := 21) kd_M_through_14 (by decide) (fun c14 => ?_) (fun c14 => ?_)
    · refine z_aload_n kd_M_through_21 0 rfl ?_
      refine z_callV (a := 54) (As := []) kd_M_through_22 (kg_M_133 _) hM_1.h1 kc_M (c_M_trees ht0 ht1 ht3 ht2 ⟨⟨_, _, _, _, hM_1⟩, x58_1, x59_1, ⟨_, x60_1⟩, ⟨_, x61_1⟩, ⟨_, x62_1⟩, ⟨_, x63_1⟩, ⟨_, x64_1⟩, ⟨_, x65_1⟩, ⟨_, x66_1⟩, ⟨_, x67_1⟩, ⟨_, x68_1⟩, ⟨_, x69_1⟩, ⟨_, x70_1⟩, ⟨_, x71_1⟩, ⟨_, x72_1⟩, ⟨_, x73_1⟩⟩) rfl rfl (Nat.le_of_ble_eq_true rfl) ⟨Nat.le_of_ble_eq_true rfl, Nat.le_of_ble_eq_true rfl⟩ ⟨Nat.le_of_ble_eq_true rfl, Nat.le_of_ble_eq_true rfl⟩ ?_
      rintro _ _ σ_2 ⟨hv, rfl, ⟨⟨th_2, fa_2, ls_2, rm_2, hM_2⟩, h58_2, h59_2, ⟨g60_2, h60_2⟩, ⟨g61_2, h61_2⟩, ⟨g62_2, h62_2⟩, ⟨g63_2, h63_2⟩, ⟨g64_2, h64_2⟩, ⟨g65_2, h65_2⟩, ⟨g66_2, h66_2⟩, ⟨g67_2, h67_2⟩, ⟨g68_2, h68_2⟩, ⟨g69_2, h69_2⟩, ⟨g70_2, h70_2⟩, ⟨g71_2, h71_2⟩, ⟨g72_2, h72_2⟩, ⟨g73_2, h73_2⟩⟩, ⟨g2_2, g3_2, x62_2, hp_2, x63_2, hX_2⟩, q_2⟩
      cases hv
      refine z_eq (st' := [_]) rfl rfl rfl rfl ?_
      refine z_lstore_n (lv' := [(2, .long _), (0, .ref (b + 54)), (1, .int _)]) kd_M_through_25 (by decide) rfl ?_
      refine z_aload_n kd_M_through_26 1 rfl ?_
      refine z_get kd_M_through_27 (kf_M_35 _) hM_2.h1 rfl ?_
      refine z_iload_n kd_M_through_30 2 rfl ?_
      refine z_iconst (v := 1) kd_M_through_31 (by decide) ?_
      refine z_zastN (t0 := 2) kd_M_through_32 (by assumption) x63_2 (by omega) (by decide) rfl ?_
      refine z_upd (fun σ_3 x63_3 q_3 => ?_)
      have x58_3 := (q_3 58 (by omega)).trans h58_2
      have x59_3 := (q_3 59 (by omega)).trans h59_2
      have x60_3 := (q_3 60 (by omega)).trans h60_2
      have x61_3 := (q_3 61 (by omega)).trans h61_2
      have x62_3 := (q_3 62 (by omega)).trans x62_2
      have x64_3 := (q_3 64 (by omega)).trans h64_2
      have x65_3 := (q_3 65 (by omega)).trans h65_2
      have x66_3 := (q_3 66 (by omega)).trans h66_2
      have x67_3 := (q_3 67 (by omega)).trans h67_2
      have x68_3 := (q_3 68 (by omega)).trans h68_2
      have x69_3 := (q_3 69 (by omega)).trans h69_2
      have x70_3 := (q_3 70 (by omega)).trans h70_2
      have x71_3 := (q_3 71 (by omega)).trans h71_2
      have x72_3 := (q_3 72 (by omega)).trans h72_2
      have x73_3 := (q_3 73 (by omega)).trans h73_2
      have hM_3 := hM_2.fr q_3 (by omega)
      refine z_lload_n kd_M_through_33 0 rfl ?_
      refine z_aload_n kd_M_through_34 1 rfl ?_
      refine z_callV (a := 54) (As := []) kd_M_through_35 (kg_M_127 _) hM_3.h1 kc_M (c_M_count ht0 ht1 ht3 ht2 hM_3 hp_2 (BX.set hX_2) x60_3 x61_3 x62_3 x63_3 x64_3) rfl rfl (Nat.le_of_ble_eq_true rfl) ⟨Nat.le_of_ble_eq_true rfl, Nat.le_of_ble_eq_true rfl⟩ ⟨Nat.le_of_ble_eq_true rfl, Nat.le_of_ble_eq_true rfl⟩ ?_
      rintro _ _ σ_4 ⟨hv, rfl, ⟨g0_4, x60_4⟩, ⟨g1_4, x61_4⟩, ⟨g4_4, x64_4⟩, e62_4, e63_4, q_4⟩
      cases hv
      refine z_eq (st' := [_, _]) rfl rfl rfl rfl ?_
      have x58_4 := (q_4 58 (by omega)).trans x58_3
      have x59_4 := (q_4 59 (by omega)).trans x59_3
      have x65_4 := (q_4 65 (by omega)).trans x65_3
      have x66_4 := (q_4 66 (by omega)).trans x66_3
      have x67_4 := (q_4 67 (by omega)).trans x67_3
      have x68_4 := (q_4 68 (by omega)).trans x68_3
      have x69_4 := (q_4 69 (by omega)).trans x69_3
      have x70_4 := (q_4 70 (by omega)).trans x70_3
      have x71_4 := (q_4 71 (by omega)).trans x71_3
      have x72_4 := (q_4 72 (by omega)).trans x72_3
      have x73_4 := (q_4 73 (by omega)).trans x73_3
      have hM_4 := hM_3.fr q_4 (by omega)
      refine z_lsub kd_M_through_38 ?_
      exact z_lret kd_M_through_39 rfl (Nat.le_of_ble_eq_true rfl) (Nat.le_of_ble_eq_true rfl) ⟨rfl, rfl, ⟨⟨_, _, _, _, hM_4⟩, x58_4, x59_4, ⟨_, x60_4⟩, ⟨_, x61_4⟩, ⟨_, (e62_4.trans x62_3)⟩, ⟨_, (e63_4.trans x63_3)⟩, ⟨_, x64_4⟩, ⟨_, x65_4⟩, ⟨_, x66_4⟩, ⟨_, x67_4⟩, ⟨_, x68_4⟩, ⟨_, x69_4⟩, ⟨_, x70_4⟩, ⟨_, x71_4⟩, ⟨_, x72_4⟩, ⟨_, x73_4⟩⟩, (Fr.tr (Fr.tr (Fr.tr (Fr.tr Fr.rf (q_1.wide (by omega) (by omega))) (q_2.wide (by omega) (by omega))) (q_3.wide (by omega) (by omega))) (q_4.wide (by omega) (by omega)))⟩
    · exact absurd (nI_lt hk (by omega)) c14
set_option maxHeartbeats 4000000 in
set_option maxRecDepth 100000 in
theorem l_M_rod {l : Launch} {D : va_G} {tys : List (ClassId × FieldType)} {b N : Nat} {σ0 : Nat → Option va_E} {cI cJ cA : ClassId} (ht0 : tys[0]? = some (cI, .int)) (ht1 : tys[1]? = some (cJ, .long)) (ht3 : tys[3]? = some (cA, .array .long)) {th fa ls rm : Value} {n a : Nat} {gf gt gw : Nat → Int32} {F T : Nat → Nat} {g4 : Nat → Int32} {I : Nat → Option Nat} (hI : BH n 10 g4 I) {s x : Nat} {Q : Outcome → Nat → (Nat → Option va_E) → Prop} {Mf : Nat → Nat → Int64} (kk : ∀ (σ : Nat → Option va_E) (g : Nat → Int64), MN b cI σ th fa ls rm n a gf gt gw F T → σ 60 = some (.inl (cJ, 100, .inr (.inl g))) → σ 64 = some (.inl (cI, 10, .inl g4)) → RM g (Mf) → Fr 60 60 σ0 σ → Z l D kCl tys (kh_M_rooted :: zT) kNw ky_M_rooted.cls ky_M_rooted.name kb_M_rooted 4 (some FieldType.long) ({ frames := 8, cells := 0, slots := 0, locals := 300 }) b (zFi D kCl b 0 0 Q) 0 0 N (σ) 130 [(2, .int (nI s)), (0, .ref (b + 54)), (1, .int (nI x))] []) : ∀ (m k : Nat) (σ : Nat → Option va_E) (g : Nat → Int64) (M : Nat → Nat → Int64), k + m = a → MN b cI σ th fa ls rm n a gf gt gw F T → σ 60 = some (.inl (cJ, 100, .inr (.inl g))) → σ 64 = some (.inl (cI, 10, .inl g4)) → RM g (M) → Fr 60 60 σ0 σ → roL F T gw I m k M = Mf → Z l D kCl tys (kh_M_rooted :: zT) kNw ky_M_rooted.cls ky_M_rooted.name kb_M_rooted 4 (some FieldType.long) ({ frames := 8, cells := 0, slots := 0, locals := 300 }) b (zFi D kCl b 0 0 Q) 0 0 N (σ) 34 [(3, .int (nI k)), (2, .int (nI s)), (0, .ref (b + 54)), (1, .int (nI x))] [] := by
  intro m
  induction m with
  | zero =>
    intro k σ g M hk hM h60 h64 r60 hF hv
    obtain rfl : k = a := by omega
    have ha := hM.ha
    have hv : M = Mf := hv
    subst hv
    refine z_iload_n kd_M_rooted_34 0 rfl ?_
    refine z_aload_n kd_M_rooted_35 2 rfl ?_
    refine z_get kd_M_rooted_36 (kf_M_80 _) hM.h1 rfl ?_
    refine z_icmp_ge (tgt := 130) kd_M_rooted_39 (by decide) (fun c39 => ?_) (fun c39 => ?_)
    · refine z_pick (lv' := [(2, .int (nI s)), (0, .ref (b + 54)), (1, .int (nI x))]) [1, 2, 3] rfl ?_
      exact kk σ g hM h60 h64 r60 hF
    · exact absurd (nI_le (Nat.le_refl k) (by omega)) c39
  | succ m ih =>
    intro k σ g M hk hM h60 h64 r60 hF hv
    have hlt : k < a := by omega
    have hn := hM.hn
    have ha := hM.ha
    obtain ⟨kf, kfn, kt, ktn⟩ := hM.hft k hlt
    have hxI := (hI (F k) kfn).2
    have hyI := (hI (T k) ktn).2
    unfold roL at hv
    refine z_iload_n kd_M_rooted_34 0 rfl ?_
    refine z_aload_n kd_M_rooted_35 2 rfl ?_
    refine z_get kd_M_rooted_36 (kf_M_80 _) hM.h1 rfl ?_
    refine z_icmp_ge (tgt := 130) kd_M_rooted_39 (by decide) (fun c39 => ?_) (fun c39 => ?_)
    · exact absurd c39 (nI_ge hlt (by omega))
    · refine z_aload_n kd_M_rooted_42 2 rfl ?_
      refine z_get kd_M_rooted_43 (kf_M_7 _) hM.h1 rfl ?_
      refine z_iload_n kd_M_rooted_46 0 rfl ?_
      refine z_ialdN (t0 := 0) kd_M_rooted_47 (by assumption) hM.h2 (by omega) (by decide) ?_
      refine z_topi kf ?_
      refine z_aload_n kd_M_rooted_48 2 rfl ?_
      refine z_get kd_M_rooted_49 (kf_M_13 _) hM.h1 rfl ?_
      refine z_iload_n kd_M_rooted_52 0 rfl ?_
      refine z_ialdN (t0 := 0) kd_M_rooted_53 (by assumption) hM.h3 (by omega) (by decide) ?_
      refine z_topi kt ?_
      refine z_icmp_eq (tgt := 124) kd_M_rooted_54 (by decide) (fun c54 => ?_) (fun c54 => ?_)
      · rw [if_neg (fun z => z ((nI_eq (by omega) (by omega)).mp c54))] at hv
        refine z_iinc (v := (nI (k + 1))) (lv' := [(3, .int _), (2, .int _), (0, .ref (b + 54)), (1, .int _)]) kd_M_rooted_124 0 rfl (nI_1 _) (by decide) rfl ?_
        refine z_goto (tgt := 34) kd_M_rooted_127 (by decide) ?_
        refine z_pick (lv' := [(3, .int (nI (k + 1))), (2, .int (nI s)), (0, .ref (b + 54)), (1, .int (nI x))]) [0, 1, 2, 3] rfl ?_
        exact ih (k + 1) _ _ _ (by omega) hM h60 h64 r60 hF hv
      · rw [if_pos (fun z => c54 (by rw [z]))] at hv
        refine z_aload_n kd_M_rooted_57 2 rfl ?_
        refine z_aload_n kd_M_rooted_58 2 rfl ?_
        refine z_get kd_M_rooted_59 (kf_M_39 _) hM.h1 rfl ?_
        refine z_aload_n kd_M_rooted_62 2 rfl ?_
        refine z_get kd_M_rooted_63 (kf_M_7 _) hM.h1 rfl ?_
        refine z_iload_n kd_M_rooted_66 0 rfl ?_
        refine z_ialdN (t0 := 0) kd_M_rooted_67 (by assumption) hM.h2 (by omega) (by decide) ?_
        refine z_topi kf ?_
        refine z_ialdN (t0 := 0) kd_M_rooted_68 (by assumption) h64 (by omega) (by decide) ?_
        refine z_topi (hI (F k) kfn).1 ?_
        refine z_aload_n kd_M_rooted_69 2 rfl ?_
        refine z_get kd_M_rooted_70 (kf_M_39 _) hM.h1 rfl ?_
        refine z_aload_n kd_M_rooted_73 2 rfl ?_
        refine z_get kd_M_rooted_74 (kf_M_7 _) hM.h1 rfl ?_
        refine z_iload_n kd_M_rooted_77 0 rfl ?_
        refine z_ialdN (t0 := 0) kd_M_rooted_78 (by assumption) hM.h2 (by omega) (by decide) ?_
        refine z_topi kf ?_
        refine z_ialdN (t0 := 0) kd_M_rooted_79 (by assumption) h64 (by omega) (by decide) ?_
        refine z_topi (hI (F k) kfn).1 ?_
        refine z_aload_n kd_M_rooted_80 2 rfl ?_
        refine z_get kd_M_rooted_81 (kf_M_16 _) hM.h1 rfl ?_
        refine z_iload_n kd_M_rooted_84 0 rfl ?_
        refine z_ialdN (t0 := 0) kd_M_rooted_85 (by assumption) hM.h4 (by omega) (by decide) ?_
        refine z_i2l kd_M_rooted_86 ?_
        refine z_callV (a := 54) (As := [_, _, _]) kd_M_rooted_87 (kg_M_105 _) hM.h1 kc_M (c_M_addTo ht0 ht1 ht3 hM r60 h60 (x := I (F k)) (y := I (F k)) hxI hxI) rfl rfl (Nat.le_of_ble_eq_true rfl) ⟨Nat.le_of_ble_eq_true rfl, Nat.le_of_ble_eq_true rfl⟩ ⟨Nat.le_of_ble_eq_true rfl, Nat.le_of_ble_eq_true rfl⟩ ?_
        rintro _ _ σ_1 ⟨hv, rfl, ⟨g_1, r60_1, x60_1⟩, q_1⟩
        cases hv
        refine z_eq (st' := []) rfl rfl rfl rfl ?_
        have x64_1 := (q_1 64 (by omega)).trans h64
        have hM_1 := hM.fr q_1 (by omega)
        refine z_aload_n kd_M_rooted_90 2 rfl ?_
        refine z_aload_n kd_M_rooted_91 2 rfl ?_
        refine z_get kd_M_rooted_92 (kf_M_39 _) hM_1.h1 rfl ?_
        refine z_aload_n kd_M_rooted_95 2 rfl ?_
        refine z_get kd_M_rooted_96 (kf_M_7 _) hM_1.h1 rfl ?_
        refine z_iload_n kd_M_rooted_99 0 rfl ?_
        refine z_ialdN (t0 := 0) kd_M_rooted_100 (by assumption) hM_1.h2 (by omega) (by decide) ?_
        refine z_topi kf ?_
        refine z_ialdN (t0 := 0) kd_M_rooted_101 (by assumption) x64_1 (by omega) (by decide) ?_
        refine z_topi (hI (F k) kfn).1 ?_
        refine z_aload_n kd_M_rooted_102 2 rfl ?_
        refine z_get kd_M_rooted_103 (kf_M_39 _) hM_1.h1 rfl ?_
        refine z_aload_n kd_M_rooted_106 2 rfl ?_
        refine z_get kd_M_rooted_107 (kf_M_13 _) hM_1.h1 rfl ?_
        refine z_iload_n kd_M_rooted_110 0 rfl ?_
        refine z_ialdN (t0 := 0) kd_M_rooted_111 (by assumption) hM_1.h3 (by omega) (by decide) ?_
        refine z_topi kt ?_
        refine z_ialdN (t0 := 0) kd_M_rooted_112 (by assumption) x64_1 (by omega) (by decide) ?_
        refine z_topi (hI (T k) ktn).1 ?_
        refine z_aload_n kd_M_rooted_113 2 rfl ?_
        refine z_get kd_M_rooted_114 (kf_M_16 _) hM_1.h1 rfl ?_
        refine z_iload_n kd_M_rooted_117 0 rfl ?_
        refine z_ialdN (t0 := 0) kd_M_rooted_118 (by assumption) hM_1.h4 (by omega) (by decide) ?_
        refine z_ineg kd_M_rooted_119 ?_
        refine z_i2l kd_M_rooted_120 ?_
        refine z_callV (a := 54) (As := [_, _, _]) kd_M_rooted_121 (kg_M_105 _) hM_1.h1 kc_M (c_M_addTo ht0 ht1 ht3 hM_1 r60_1 x60_1 (x := I (F k)) (y := I (T k)) hxI hyI) rfl rfl (Nat.le_of_ble_eq_true rfl) ⟨Nat.le_of_ble_eq_true rfl, Nat.le_of_ble_eq_true rfl⟩ ⟨Nat.le_of_ble_eq_true rfl, Nat.le_of_ble_eq_true rfl⟩ ?_
        rintro _ _ σ_2 ⟨hv, rfl, ⟨g_2, r60_2, x60_2⟩, q_2⟩
        cases hv
        refine z_eq (st' := []) rfl rfl rfl rfl ?_
        have x64_2 := (q_2 64 (by omega)).trans x64_1
        have hM_2 := hM_1.fr q_2 (by omega)
        refine z_iinc (v := (nI (k + 1))) (lv' := [(3, .int _), (2, .int _), (0, .ref (b + 54)), (1, .int _)]) kd_M_rooted_124 0 rfl (nI_1 _) (by decide) rfl ?_
        refine z_goto (tgt := 34) kd_M_rooted_127 (by decide) ?_
        refine z_pick (lv' := [(3, .int (nI (k + 1))), (2, .int (nI s)), (0, .ref (b + 54)), (1, .int (nI x))]) [0, 1, 2, 3] rfl ?_
        exact ih (k + 1) _ _ _ (by omega) hM_2 x60_2 x64_2 r60_2 (Fr.tr (Fr.tr hF (q_1.wide (by omega) (by omega))) (q_2.wide (by omega) (by omega))) hv
set_option maxHeartbeats 4000000 in
set_option maxRecDepth 100000 in
theorem c_M_rooted0 {l : Launch} {D : va_G} {tys : List (ClassId × FieldType)} {b N : Nat} {σ : Nat → Option va_E} {cI cJ cA : ClassId} (ht0 : tys[0]? = some (cI, .int)) (ht1 : tys[1]? = some (cJ, .long)) (ht3 : tys[3]? = some (cA, .array .long)) {cZ : ClassId} (ht2 : tys[2]? = some (cZ, .boolean)) {n a : Nat} {gf gt gw : Nat → Int32} {F T : Nat → Nat} {C K : Nat → Int64} (hMS : MS b cI cJ cZ σ n a gf gt gw F T C K) {x : Int32} (hz : zIn x (nI n) = false) : zM l D kCl tys kNw b ky_M_rooted (kh_M_rooted :: zT) 8 300 0 0 [.ref (b + 54), .int x] N σ ((fun oc N' σ' => oc = .returned (some (.long (-1))) ∧ N' = N ∧ MS b cI cJ cZ σ' n a gf gt gw F T C K ∧ Fr 54 73 σ σ')) := by
  refine zM.of (by decide +kernel) rfl (Nat.le_of_ble_eq_true rfl) ?_
  refine z_pick (lv' := [(0, .ref (b + 54)), (1, .int x)]) [0, 1] rfl ?_
  obtain ⟨⟨th, fa, ls, rm, hM⟩, h58, h59, ⟨g60, h60⟩, ⟨g61, h61⟩, ⟨g62, h62⟩, ⟨g63, h63⟩, ⟨g64, h64⟩, ⟨g65, h65⟩, ⟨g66, h66⟩, ⟨g67, h67⟩, ⟨g68, h68⟩, ⟨g69, h69⟩, ⟨g70, h70⟩, ⟨g71, h71⟩, ⟨g72, h72⟩, ⟨g73, h73⟩⟩ := hMS
  have hn := hM.hn
  have ha := hM.ha
  refine z_aload_n kd_M_rooted_0 0 rfl ?_
  refine z_iconst (v := 0) kd_M_rooted_1 (by decide) ?_
  refine z_putE (fs' := [_, _, _, _, _, _, _, _, _, _, _, _, _, _, _, _, _, _, _, _, _, _, _, _, _]) kd_M_rooted_2 (kp_M_69 _) hM.h1 (Nat.le_of_ble_eq_true rfl) rfl rfl rfl ?_
  refine z_upd (fun σ_1 x54_1 q_1 => ?_)
  have x58_1 := (q_1 58 (by omega)).trans h58
  have x59_1 := (q_1 59 (by omega)).trans h59
  have x60_1 := (q_1 60 (by omega)).trans h60
  have x61_1 := (q_1 61 (by omega)).trans h61
  have x62_1 := (q_1 62 (by omega)).trans h62
  have x63_1 := (q_1 63 (by omega)).trans h63
  have x64_1 := (q_1 64 (by omega)).trans h64
  have x65_1 := (q_1 65 (by omega)).trans h65
  have x66_1 := (q_1 66 (by omega)).trans h66
  have x67_1 := (q_1 67 (by omega)).trans h67
  have x68_1 := (q_1 68 (by omega)).trans h68
  have x69_1 := (q_1 69 (by omega)).trans h69
  have x70_1 := (q_1 70 (by omega)).trans h70
  have x71_1 := (q_1 71 (by omega)).trans h71
  have x72_1 := (q_1 72 (by omega)).trans h72
  have x73_1 := (q_1 73 (by omega)).trans h73
  have hM_1 := hM.put x54_1 q_1
  refine z_aload_n kd_M_rooted_5 0 rfl ?_
  refine z_iload_n kd_M_rooted_6 1 rfl ?_
  refine z_V1 (a := 54) (As := [_]) kd_M_rooted_7 (kg_M_76 _) hM_1.h1 kc_M (c_M_isNode ht0 ht1 ht3 hM_1) rfl rfl (Nat.le_of_ble_eq_true rfl) ⟨Nat.le_of_ble_eq_true rfl, Nat.le_of_ble_eq_true rfl⟩ ⟨Nat.le_of_ble_eq_true rfl, Nat.le_of_ble_eq_true rfl⟩ ?_
  refine z_topi (show zB (zIn x (nI n)) = 0 by rw [hz]; rfl) ?_
  refine z_if_ne (tgt := 17) kd_M_rooted_10 (by decide) (fun c10 => absurd c10 (by decide)) (fun c10 => ?_)
  refine z_ldc2 (v := -1) kd_M_rooted_13 (List.mem_cons_of_mem _ (zin 918 rfl rfl)) ?_
  exact z_lret kd_M_rooted_16 rfl (Nat.le_of_ble_eq_true rfl) (Nat.le_of_ble_eq_true rfl) ⟨rfl, rfl, ⟨⟨_, _, _, _, hM_1⟩, x58_1, x59_1, ⟨_, x60_1⟩, ⟨_, x61_1⟩, ⟨_, x62_1⟩, ⟨_, x63_1⟩, ⟨_, x64_1⟩, ⟨_, x65_1⟩, ⟨_, x66_1⟩, ⟨_, x67_1⟩, ⟨_, x68_1⟩, ⟨_, x69_1⟩, ⟨_, x70_1⟩, ⟨_, x71_1⟩, ⟨_, x72_1⟩, ⟨_, x73_1⟩⟩, (Fr.tr Fr.rf (q_1.wide (by omega) (by omega)))⟩
set_option maxHeartbeats 4000000 in
set_option maxRecDepth 100000 in
theorem c_M_rooted1 {l : Launch} {D : va_G} {tys : List (ClassId × FieldType)} {b N : Nat} {σ : Nat → Option va_E} {cI cJ cA : ClassId} (ht0 : tys[0]? = some (cI, .int)) (ht1 : tys[1]? = some (cJ, .long)) (ht3 : tys[3]? = some (cA, .array .long)) {cZ : ClassId} (ht2 : tys[2]? = some (cZ, .boolean)) {n a : Nat} {gf gt gw : Nat → Int32} {F T : Nat → Nat} {C K : Nat → Int64} (hMS : MS b cI cJ cZ σ n a gf gt gw F T C K) {x : Nat} (hx : x < n) (hz : zIn (nI x) (nI n) = true) : zM l D kCl tys kNw b ky_M_rooted (kh_M_rooted :: zT) 8 300 0 0 [.ref (b + 54), .int (nI x)] N σ ((fun oc N' σ' => oc = .returned (some (.long (roV n a F T gw x))) ∧ N' = N ∧ MS b cI cJ cZ σ' n a gf gt gw F T C K ∧ Fr 54 73 σ σ')) := by
  refine zM.of (by decide +kernel) rfl (Nat.le_of_ble_eq_true rfl) ?_
  refine z_pick (lv' := [(0, .ref (b + 54)), (1, .int (nI x))]) [0, 1] rfl ?_
  obtain ⟨⟨th, fa, ls, rm, hM⟩, h58, h59, ⟨g60, h60⟩, ⟨g61, h61⟩, ⟨g62, h62⟩, ⟨g63, h63⟩, ⟨g64, h64⟩, ⟨g65, h65⟩, ⟨g66, h66⟩, ⟨g67, h67⟩, ⟨g68, h68⟩, ⟨g69, h69⟩, ⟨g70, h70⟩, ⟨g71, h71⟩, ⟨g72, h72⟩, ⟨g73, h73⟩⟩ := hMS
  have hn := hM.hn
  have ha := hM.ha
  refine z_aload_n kd_M_rooted_0 0 rfl ?_
  refine z_iconst (v := 0) kd_M_rooted_1 (by decide) ?_
  refine z_putE (fs' := [_, _, _, _, _, _, _, _, _, _, _, _, _, _, _, _, _, _, _, _, _, _, _, _, _]) kd_M_rooted_2 (kp_M_69 _) hM.h1 (Nat.le_of_ble_eq_true rfl) rfl rfl rfl ?_
  refine z_upd (fun σ_1 x54_1 q_1 => ?_)
  have x58_1 := (q_1 58 (by omega)).trans h58
  have x59_1 := (q_1 59 (by omega)).trans h59
  have x60_1 := (q_1 60 (by omega)).trans h60
  have x61_1 := (q_1 61 (by omega)).trans h61
  have x62_1 := (q_1 62 (by omega)).trans h62
  have x63_1 := (q_1 63 (by omega)).trans h63
  have x64_1 := (q_1 64 (by omega)).trans h64
  have x65_1 := (q_1 65 (by omega)).trans h65
  have x66_1 := (q_1 66 (by omega)).trans h66
  have x67_1 := (q_1 67 (by omega)).trans h67
  have x68_1 := (q_1 68 (by omega)).trans h68
  have x69_1 := (q_1 69 (by omega)).trans h69
  have x70_1 := (q_1 70 (by omega)).trans h70
  have x71_1 := (q_1 71 (by omega)).trans h71
  have x72_1 := (q_1 72 (by omega)).trans h72
  have x73_1 := (q_1 73 (by omega)).trans h73
  have hM_1 := hM.put x54_1 q_1
  refine z_aload_n kd_M_rooted_5 0 rfl ?_
  refine z_iload_n kd_M_rooted_6 1 rfl ?_
  refine z_V1 (a := 54) (As := [_]) kd_M_rooted_7 (kg_M_76 _) hM_1.h1 kc_M (c_M_isNode ht0 ht1 ht3 hM_1) rfl rfl (Nat.le_of_ble_eq_true rfl) ⟨Nat.le_of_ble_eq_true rfl, Nat.le_of_ble_eq_true rfl⟩ ⟨Nat.le_of_ble_eq_true rfl, Nat.le_of_ble_eq_true rfl⟩ ?_
  refine z_topi (show zB (zIn (nI x) (nI n)) = 1 by rw [hz]; rfl) ?_
  refine z_if_ne (tgt := 17) kd_M_rooted_10 (by decide) (fun c10 => ?_) (fun c10 => absurd c10 (by decide))
  refine z_aload_n kd_M_rooted_17 0 rfl ?_
  refine z_callV (a := 54) (As := []) kd_M_rooted_18 (kg_M_121 _) hM_1.h1 kc_M (c_M_apartAll ht0 ht1 ht3 hM_1 x62_1) rfl rfl (Nat.le_of_ble_eq_true rfl) ⟨Nat.le_of_ble_eq_true rfl, Nat.le_of_ble_eq_true rfl⟩ ⟨Nat.le_of_ble_eq_true rfl, Nat.le_of_ble_eq_true rfl⟩ ?_
  rintro _ _ σ_2 ⟨hv, rfl, ⟨g2_2, hp_2, x62_2⟩, q_2⟩
  cases hv
  refine z_eq (st' := []) rfl rfl rfl rfl ?_
  have x58_2 := (q_2 58 (by omega)).trans x58_1
  have x59_2 := (q_2 59 (by omega)).trans x59_1
  have x60_2 := (q_2 60 (by omega)).trans x60_1
  have x61_2 := (q_2 61 (by omega)).trans x61_1
  have x63_2 := (q_2 63 (by omega)).trans x63_1
  have x64_2 := (q_2 64 (by omega)).trans x64_1
  have x65_2 := (q_2 65 (by omega)).trans x65_1
  have x66_2 := (q_2 66 (by omega)).trans x66_1
  have x67_2 := (q_2 67 (by omega)).trans x67_1
  have x68_2 := (q_2 68 (by omega)).trans x68_1
  have x69_2 := (q_2 69 (by omega)).trans x69_1
  have x70_2 := (q_2 70 (by omega)).trans x70_1
  have x71_2 := (q_2 71 (by omega)).trans x71_1
  have x72_2 := (q_2 72 (by omega)).trans x72_1
  have x73_2 := (q_2 73 (by omega)).trans x73_1
  have hM_2 := hM_1.fr q_2 (by omega)
  refine z_aload_n kd_M_rooted_21 0 rfl ?_
  refine z_iload_n kd_M_rooted_22 1 rfl ?_
  refine z_iconst (v := -1) kd_M_rooted_23 (by decide) ?_
  refine z_callV (a := 54) (As := [_, _]) kd_M_rooted_24 (kg_M_109 _) hM_2.h1 kc_M (c_M_number ht0 ht1 ht3 hM_2 hp_2 (bu := some x) (ot := none) (fun q hq => by cases hq; omega) (fun q hq => by cases hq) x62_2 x64_2) rfl rfl (Nat.le_of_ble_eq_true rfl) ⟨Nat.le_of_ble_eq_true rfl, Nat.le_of_ble_eq_true rfl⟩ ⟨Nat.le_of_ble_eq_true rfl, Nat.le_of_ble_eq_true rfl⟩ ?_
  rintro _ _ σ_3 ⟨hv, rfl, ⟨g4_3, hI_3, x64_3⟩, q_3⟩
  cases hv
  refine z_eq (st' := [_]) rfl rfl rfl rfl ?_
  have x58_3 := (q_3 58 (by omega)).trans x58_2
  have x59_3 := (q_3 59 (by omega)).trans x59_2
  have x60_3 := (q_3 60 (by omega)).trans x60_2
  have x61_3 := (q_3 61 (by omega)).trans x61_2
  have x62_3 := (q_3 62 (by omega)).trans x62_2
  have x63_3 := (q_3 63 (by omega)).trans x63_2
  have x65_3 := (q_3 65 (by omega)).trans x65_2
  have x66_3 := (q_3 66 (by omega)).trans x66_2
  have x67_3 := (q_3 67 (by omega)).trans x67_2
  have x68_3 := (q_3 68 (by omega)).trans x68_2
  have x69_3 := (q_3 69 (by omega)).trans x69_2
  have x70_3 := (q_3 70 (by omega)).trans x70_2
  have x71_3 := (q_3 71 (by omega)).trans x71_2
  have x72_3 := (q_3 72 (by omega)).trans x72_2
  have x73_3 := (q_3 73 (by omega)).trans x73_2
  have hM_3 := hM_2.fr q_3 (by omega)
  refine z_istore_n (lv' := [(2, .int _), (0, .ref (b + 54)), (1, .int _)]) kd_M_rooted_27 (by decide) rfl ?_
  refine z_aload_n kd_M_rooted_28 1 rfl ?_
  refine z_callV (a := 54) (As := []) kd_M_rooted_29 (kg_M_102 _) hM_3.h1 kc_M (c_M_clearRows ht1 hM_3.h1 x60_3) rfl rfl (Nat.le_of_ble_eq_true rfl) ⟨Nat.le_of_ble_eq_true rfl, Nat.le_of_ble_eq_true rfl⟩ ⟨Nat.le_of_ble_eq_true rfl, Nat.le_of_ble_eq_true rfl⟩ ?_
  rintro _ _ _ ⟨hv, rfl, g_4, hg_4, rfl⟩
  cases hv
  refine z_eq (st' := []) rfl rfl rfl rfl ?_
  refine z_upd (fun σ_4 x60_4 q_4 => ?_)
  have x58_4 := (q_4 58 (by omega)).trans x58_3
  have x59_4 := (q_4 59 (by omega)).trans x59_3
  have x61_4 := (q_4 61 (by omega)).trans x61_3
  have x62_4 := (q_4 62 (by omega)).trans x62_3
  have x63_4 := (q_4 63 (by omega)).trans x63_3
  have x64_4 := (q_4 64 (by omega)).trans x64_3
  have x65_4 := (q_4 65 (by omega)).trans x65_3
  have x66_4 := (q_4 66 (by omega)).trans x66_3
  have x67_4 := (q_4 67 (by omega)).trans x67_3
  have x68_4 := (q_4 68 (by omega)).trans x68_3
  have x69_4 := (q_4 69 (by omega)).trans x69_3
  have x70_4 := (q_4 70 (by omega)).trans x70_3
  have x71_4 := (q_4 71 (by omega)).trans x71_3
  have x72_4 := (q_4 72 (by omega)).trans x72_3
  have x73_4 := (q_4 73 (by omega)).trans x73_3
  have hM_4 := hM_3.fr q_4 (by omega)
  refine z_iconst (v := 0) kd_M_rooted_32 (by decide) ?_
  refine z_istore_n (lv' := [(3, .int _), (2, .int _), (0, .ref (b + 54)), (1, .int _)]) kd_M_rooted_33 (by decide) rfl ?_
  refine z_pick (lv' := [(3, .int (nI 0)), (2, .int (nI (nmV n (fun v => v) (some x) none).1)), (0, .ref (b + 54)), (1, .int (nI x))]) [0, 1, 2, 3] rfl ?_
  refine l_M_rod ht0 ht1 ht3 hI_3 (fun σ_5 g_5 hM_5 x60_5 x64_5 r60_5 q_5 => ?_) a 0 _ _ _ (by omega) hM_4 x60_4 x64_4 (RM.z hg_4) Fr.rf rfl
  have x58_5 := (q_5 58 (by omega)).trans x58_4
  have x59_5 := (q_5 59 (by omega)).trans x59_4
  have x61_5 := (q_5 61 (by omega)).trans x61_4
  have x62_5 := (q_5 62 (by omega)).trans x62_4
  have x63_5 := (q_5 63 (by omega)).trans x63_4
  have x65_5 := (q_5 65 (by omega)).trans x65_4
  have x66_5 := (q_5 66 (by omega)).trans x66_4
  have x67_5 := (q_5 67 (by omega)).trans x67_4
  have x68_5 := (q_5 68 (by omega)).trans x68_4
  have x69_5 := (q_5 69 (by omega)).trans x69_4
  have x70_5 := (q_5 70 (by omega)).trans x70_4
  have x71_5 := (q_5 71 (by omega)).trans x71_4
  have x72_5 := (q_5 72 (by omega)).trans x72_4
  have x73_5 := (q_5 73 (by omega)).trans x73_4
  refine z_aload_n kd_M_rooted_130 1 rfl ?_
  refine z_iload_n kd_M_rooted_131 0 rfl ?_
  refine z_callV (a := 54) (As := [_]) kd_M_rooted_132 (kg_M_117 _) hM_5.h1 kc_M (c_M_determinant ht0 ht1 ht3 hM_5 (Nat.le_trans nmV_le hn) x60_5 x61_5 r60_5) rfl rfl (Nat.le_of_ble_eq_true rfl) ⟨Nat.le_of_ble_eq_true rfl, Nat.le_of_ble_eq_true rfl⟩ ⟨Nat.le_of_ble_eq_true rfl, Nat.le_of_ble_eq_true rfl⟩ ?_
  rintro _ _ σ_6 ⟨hv, rfl, ⟨g1_6, x61_6⟩, q_6⟩
  cases hv
  refine z_eq (st' := [_]) rfl rfl rfl rfl ?_
  have x58_6 := (q_6 58 (by omega)).trans x58_5
  have x59_6 := (q_6 59 (by omega)).trans x59_5
  have x60_6 := (q_6 60 (by omega)).trans x60_5
  have x62_6 := (q_6 62 (by omega)).trans x62_5
  have x63_6 := (q_6 63 (by omega)).trans x63_5
  have x64_6 := (q_6 64 (by omega)).trans x64_5
  have x65_6 := (q_6 65 (by omega)).trans x65_5
  have x66_6 := (q_6 66 (by omega)).trans x66_5
  have x67_6 := (q_6 67 (by omega)).trans x67_5
  have x68_6 := (q_6 68 (by omega)).trans x68_5
  have x69_6 := (q_6 69 (by omega)).trans x69_5
  have x70_6 := (q_6 70 (by omega)).trans x70_5
  have x71_6 := (q_6 71 (by omega)).trans x71_5
  have x72_6 := (q_6 72 (by omega)).trans x72_5
  have x73_6 := (q_6 73 (by omega)).trans x73_5
  have hM_6 := hM_5.fr q_6 (by omega)
  exact z_lret kd_M_rooted_135 rfl (Nat.le_of_ble_eq_true rfl) (Nat.le_of_ble_eq_true rfl) ⟨rfl, rfl, ⟨⟨_, _, _, _, hM_6⟩, x58_6, x59_6, ⟨_, x60_6⟩, ⟨_, x61_6⟩, ⟨_, x62_6⟩, ⟨_, x63_6⟩, ⟨_, x64_6⟩, ⟨_, x65_6⟩, ⟨_, x66_6⟩, ⟨_, x67_6⟩, ⟨_, x68_6⟩, ⟨_, x69_6⟩, ⟨_, x70_6⟩, ⟨_, x71_6⟩, ⟨_, x72_6⟩, ⟨_, x73_6⟩⟩, (Fr.tr (Fr.tr (Fr.tr (Fr.tr (Fr.tr (Fr.tr Fr.rf (q_1.wide (by omega) (by omega))) (q_2.wide (by omega) (by omega))) (q_3.wide (by omega) (by omega))) (q_4.wide (by omega) (by omega))) (q_5.wide (by omega) (by omega))) (q_6.wide (by omega) (by omega)))⟩
set_option maxHeartbeats 4000000 in
set_option maxRecDepth 100000 in
theorem c_M_forests {l : Launch} {D : va_G} {tys : List (ClassId × FieldType)} {b N : Nat} {σ : Nat → Option va_E} {cI cJ cA : ClassId} (ht0 : tys[0]? = some (cI, .int)) (ht1 : tys[1]? = some (cJ, .long)) (ht3 : tys[3]? = some (cA, .array .long)) {cZ : ClassId} (ht2 : tys[2]? = some (cZ, .boolean)) {n a : Nat} {gf gt gw : Nat → Int32} {F T : Nat → Nat} {C K : Nat → Int64} (hMS : MS b cI cJ cZ σ n a gf gt gw F T C K) : zM l D kCl tys kNw b ky_M_forests (kh_M_forests :: zT) 8 300 0 0 [.ref (b + 54)] N σ ((fun oc N' σ' => oc = .returned (some (.long (foV n a F T gw))) ∧ N' = N ∧ MS b cI cJ cZ σ' n a gf gt gw F T C K ∧ Fr 54 73 σ σ')) := by
  refine zM.of (by decide +kernel) rfl (Nat.le_of_ble_eq_true rfl) ?_
  refine z_pick (lv' := [(0, .ref (b + 54))]) [0] rfl ?_
  obtain ⟨⟨th, fa, ls, rm, hM⟩, h58, h59, ⟨g60, h60⟩, ⟨g61, h61⟩, ⟨g62, h62⟩, ⟨g63, h63⟩, ⟨g64, h64⟩, ⟨g65, h65⟩, ⟨g66, h66⟩, ⟨g67, h67⟩, ⟨g68, h68⟩, ⟨g69, h69⟩, ⟨g70, h70⟩, ⟨g71, h71⟩, ⟨g72, h72⟩, ⟨g73, h73⟩⟩ := hMS
  have hn := hM.hn
  have ha := hM.ha
  refine z_aload_n kd_M_forests_0 0 rfl ?_
  refine z_iconst (v := 0) kd_M_forests_1 (by decide) ?_
  refine z_putE (fs' := [_, _, _, _, _, _, _, _, _, _, _, _, _, _, _, _, _, _, _, _, _, _, _, _, _]) kd_M_forests_2 (kp_M_69 _) hM.h1 (Nat.le_of_ble_eq_true rfl) rfl rfl rfl ?_
  refine z_upd (fun σ_1 x54_1 q_1 => ?_)
  have x58_1 := (q_1 58 (by omega)).trans h58
  have x59_1 := (q_1 59 (by omega)).trans h59
  have x60_1 := (q_1 60 (by omega)).trans h60
  have x61_1 := (q_1 61 (by omega)).trans h61
  have x62_1 := (q_1 62 (by omega)).trans h62
  have x63_1 := (q_1 63 (by omega)).trans h63
  have x64_1 := (q_1 64 (by omega)).trans h64
  have x65_1 := (q_1 65 (by omega)).trans h65
  have x66_1 := (q_1 66 (by omega)).trans h66
  have x67_1 := (q_1 67 (by omega)).trans h67
  have x68_1 := (q_1 68 (by omega)).trans h68
  have x69_1 := (q_1 69 (by omega)).trans h69
  have x70_1 := (q_1 70 (by omega)).trans h70
  have x71_1 := (q_1 71 (by omega)).trans h71
  have x72_1 := (q_1 72 (by omega)).trans h72
  have x73_1 := (q_1 73 (by omega)).trans h73
  have hM_1 := hM.put x54_1 q_1
  refine z_aload_n kd_M_forests_5 0 rfl ?_
  refine z_callV (a := 54) (As := []) kd_M_forests_6 (kg_M_121 _) hM_1.h1 kc_M (c_M_apartAll ht0 ht1 ht3 hM_1 x62_1) rfl rfl (Nat.le_of_ble_eq_true rfl) ⟨Nat.le_of_ble_eq_true rfl, Nat.le_of_ble_eq_true rfl⟩ ⟨Nat.le_of_ble_eq_true rfl, Nat.le_of_ble_eq_true rfl⟩ ?_
  rintro _ _ σ_2 ⟨hv, rfl, ⟨g2_2, hp_2, x62_2⟩, q_2⟩
  cases hv
  refine z_eq (st' := []) rfl rfl rfl rfl ?_
  have x58_2 := (q_2 58 (by omega)).trans x58_1
  have x59_2 := (q_2 59 (by omega)).trans x59_1
  have x60_2 := (q_2 60 (by omega)).trans x60_1
  have x61_2 := (q_2 61 (by omega)).trans x61_1
  have x63_2 := (q_2 63 (by omega)).trans x63_1
  have x64_2 := (q_2 64 (by omega)).trans x64_1
  have x65_2 := (q_2 65 (by omega)).trans x65_1
  have x66_2 := (q_2 66 (by omega)).trans x66_1
  have x67_2 := (q_2 67 (by omega)).trans x67_1
  have x68_2 := (q_2 68 (by omega)).trans x68_1
  have x69_2 := (q_2 69 (by omega)).trans x69_1
  have x70_2 := (q_2 70 (by omega)).trans x70_1
  have x71_2 := (q_2 71 (by omega)).trans x71_1
  have x72_2 := (q_2 72 (by omega)).trans x72_1
  have x73_2 := (q_2 73 (by omega)).trans x73_1
  have hM_2 := hM_1.fr q_2 (by omega)
  refine z_aload_n kd_M_forests_9 0 rfl ?_
  refine z_callV (a := 54) (As := []) kd_M_forests_10 (kg_M_124 _) hM_2.h1 kc_M (c_M_noneOut ht2 hM_2.h1 x63_2) rfl rfl (Nat.le_of_ble_eq_true rfl) ⟨Nat.le_of_ble_eq_true rfl, Nat.le_of_ble_eq_true rfl⟩ ⟨Nat.le_of_ble_eq_true rfl, Nat.le_of_ble_eq_true rfl⟩ ?_
  rintro _ _ _ ⟨hv, rfl, g3_3, hg3_3, rfl⟩
  cases hv
  refine z_eq (st' := []) rfl rfl rfl rfl ?_
  refine z_upd (fun σ_3 x63_3 q_3 => ?_)
  have x58_3 := (q_3 58 (by omega)).trans x58_2
  have x59_3 := (q_3 59 (by omega)).trans x59_2
  have x60_3 := (q_3 60 (by omega)).trans x60_2
  have x61_3 := (q_3 61 (by omega)).trans x61_2
  have x62_3 := (q_3 62 (by omega)).trans x62_2
  have x64_3 := (q_3 64 (by omega)).trans x64_2
  have x65_3 := (q_3 65 (by omega)).trans x65_2
  have x66_3 := (q_3 66 (by omega)).trans x66_2
  have x67_3 := (q_3 67 (by omega)).trans x67_2
  have x68_3 := (q_3 68 (by omega)).trans x68_2
  have x69_3 := (q_3 69 (by omega)).trans x69_2
  have x70_3 := (q_3 70 (by omega)).trans x70_2
  have x71_3 := (q_3 71 (by omega)).trans x71_2
  have x72_3 := (q_3 72 (by omega)).trans x72_2
  have x73_3 := (q_3 73 (by omega)).trans x73_2
  have hM_3 := hM_2.fr q_3 (by omega)
  refine z_aload_n kd_M_forests_13 0 rfl ?_
  refine z_iconst (v := -1) kd_M_forests_14 (by decide) ?_
  refine z_iconst (v := -1) kd_M_forests_15 (by decide) ?_
  refine z_callV (a := 54) (As := [_, _]) kd_M_forests_16 (kg_M_109 _) hM_3.h1 kc_M (c_M_number ht0 ht1 ht3 hM_3 hp_2 (bu := none) (ot := none) (fun q hq => by cases hq) (fun q hq => by cases hq) x62_3 x64_3) rfl rfl (Nat.le_of_ble_eq_true rfl) ⟨Nat.le_of_ble_eq_true rfl, Nat.le_of_ble_eq_true rfl⟩ ⟨Nat.le_of_ble_eq_true rfl, Nat.le_of_ble_eq_true rfl⟩ ?_
  rintro _ _ σ_4 ⟨hv, rfl, ⟨g4_4, hI_4, x64_4⟩, q_4⟩
  cases hv
  refine z_eq (st' := [_]) rfl rfl rfl rfl ?_
  have x58_4 := (q_4 58 (by omega)).trans x58_3
  have x59_4 := (q_4 59 (by omega)).trans x59_3
  have x60_4 := (q_4 60 (by omega)).trans x60_3
  have x61_4 := (q_4 61 (by omega)).trans x61_3
  have x62_4 := (q_4 62 (by omega)).trans x62_3
  have x63_4 := (q_4 63 (by omega)).trans x63_3
  have x65_4 := (q_4 65 (by omega)).trans x65_3
  have x66_4 := (q_4 66 (by omega)).trans x66_3
  have x67_4 := (q_4 67 (by omega)).trans x67_3
  have x68_4 := (q_4 68 (by omega)).trans x68_3
  have x69_4 := (q_4 69 (by omega)).trans x69_3
  have x70_4 := (q_4 70 (by omega)).trans x70_3
  have x71_4 := (q_4 71 (by omega)).trans x71_3
  have x72_4 := (q_4 72 (by omega)).trans x72_3
  have x73_4 := (q_4 73 (by omega)).trans x73_3
  have hM_4 := hM_3.fr q_4 (by omega)
  refine z_istore_n (lv' := [(1, .int _), (0, .ref (b + 54))]) kd_M_forests_19 (by decide) rfl ?_
  refine z_aload_n kd_M_forests_20 1 rfl ?_
  refine z_lconst (v := 1) kd_M_forests_21 (by decide +kernel) ?_
  refine z_callV (a := 54) (As := [_]) kd_M_forests_22 (kg_M_113 _) hM_4.h1 kc_M (c_M_rows ht0 ht1 ht3 ht2 hM_4 hp_2 (BX.z (by omega) hg3_3) hI_4 x60_4 x62_4 x63_4 x64_4 (pl := 1)) rfl rfl (Nat.le_of_ble_eq_true rfl) ⟨Nat.le_of_ble_eq_true rfl, Nat.le_of_ble_eq_true rfl⟩ ⟨Nat.le_of_ble_eq_true rfl, Nat.le_of_ble_eq_true rfl⟩ ?_
  rintro _ _ σ_5 ⟨hv, rfl, ⟨g0_5, r60_5, x60_5⟩, q_5⟩
  cases hv
  refine z_eq (st' := []) rfl rfl rfl rfl ?_
  have x58_5 := (q_5 58 (by omega)).trans x58_4
  have x59_5 := (q_5 59 (by omega)).trans x59_4
  have x61_5 := (q_5 61 (by omega)).trans x61_4
  have x62_5 := (q_5 62 (by omega)).trans x62_4
  have x63_5 := (q_5 63 (by omega)).trans x63_4
  have x64_5 := (q_5 64 (by omega)).trans x64_4
  have x65_5 := (q_5 65 (by omega)).trans x65_4
  have x66_5 := (q_5 66 (by omega)).trans x66_4
  have x67_5 := (q_5 67 (by omega)).trans x67_4
  have x68_5 := (q_5 68 (by omega)).trans x68_4
  have x69_5 := (q_5 69 (by omega)).trans x69_4
  have x70_5 := (q_5 70 (by omega)).trans x70_4
  have x71_5 := (q_5 71 (by omega)).trans x71_4
  have x72_5 := (q_5 72 (by omega)).trans x72_4
  have x73_5 := (q_5 73 (by omega)).trans x73_4
  have hM_5 := hM_4.fr q_5 (by omega)
  refine z_aload_n kd_M_forests_25 1 rfl ?_
  refine z_iload_n kd_M_forests_26 0 rfl ?_
  refine z_callV (a := 54) (As := [_]) kd_M_forests_27 (kg_M_117 _) hM_5.h1 kc_M (c_M_determinant ht0 ht1 ht3 hM_5 (Nat.le_trans nmV_le hn) x60_5 x61_5 r60_5) rfl rfl (Nat.le_of_ble_eq_true rfl) ⟨Nat.le_of_ble_eq_true rfl, Nat.le_of_ble_eq_true rfl⟩ ⟨Nat.le_of_ble_eq_true rfl, Nat.le_of_ble_eq_true rfl⟩ ?_
  rintro _ _ σ_6 ⟨hv, rfl, ⟨g1_6, x61_6⟩, q_6⟩
  cases hv
  refine z_eq (st' := [_]) rfl rfl rfl rfl ?_
  have x58_6 := (q_6 58 (by omega)).trans x58_5
  have x59_6 := (q_6 59 (by omega)).trans x59_5
  have x60_6 := (q_6 60 (by omega)).trans x60_5
  have x62_6 := (q_6 62 (by omega)).trans x62_5
  have x63_6 := (q_6 63 (by omega)).trans x63_5
  have x64_6 := (q_6 64 (by omega)).trans x64_5
  have x65_6 := (q_6 65 (by omega)).trans x65_5
  have x66_6 := (q_6 66 (by omega)).trans x66_5
  have x67_6 := (q_6 67 (by omega)).trans x67_5
  have x68_6 := (q_6 68 (by omega)).trans x68_5
  have x69_6 := (q_6 69 (by omega)).trans x69_5
  have x70_6 := (q_6 70 (by omega)).trans x70_5
  have x71_6 := (q_6 71 (by omega)).trans x71_5
  have x72_6 := (q_6 72 (by omega)).trans x72_5
  have x73_6 := (q_6 73 (by omega)).trans x73_5
  have hM_6 := hM_5.fr q_6 (by omega)
  exact z_lret kd_M_forests_30 rfl (Nat.le_of_ble_eq_true rfl) (Nat.le_of_ble_eq_true rfl) ⟨rfl, rfl, ⟨⟨_, _, _, _, hM_6⟩, x58_6, x59_6, ⟨_, x60_6⟩, ⟨_, x61_6⟩, ⟨_, x62_6⟩, ⟨_, x63_6⟩, ⟨_, x64_6⟩, ⟨_, x65_6⟩, ⟨_, x66_6⟩, ⟨_, x67_6⟩, ⟨_, x68_6⟩, ⟨_, x69_6⟩, ⟨_, x70_6⟩, ⟨_, x71_6⟩, ⟨_, x72_6⟩, ⟨_, x73_6⟩⟩, (Fr.tr (Fr.tr (Fr.tr (Fr.tr (Fr.tr (Fr.tr Fr.rf (q_1.wide (by omega) (by omega))) (q_2.wide (by omega) (by omega))) (q_3.wide (by omega) (by omega))) (q_4.wide (by omega) (by omega))) (q_5.wide (by omega) (by omega))) (q_6.wide (by omega) (by omega)))⟩
set_option maxHeartbeats 4000000 in
set_option maxRecDepth 100000 in
theorem c_M_apart0 {l : Launch} {D : va_G} {tys : List (ClassId × FieldType)} {b N : Nat} {σ : Nat → Option va_E} {cI cJ cA : ClassId} (ht0 : tys[0]? = some (cI, .int)) (ht1 : tys[1]? = some (cJ, .long)) (ht3 : tys[3]? = some (cA, .array .long)) {cZ : ClassId} (ht2 : tys[2]? = some (cZ, .boolean)) {n a : Nat} {gf gt gw : Nat → Int32} {F T : Nat → Nat} {C K : Nat → Int64} (hMS : MS b cI cJ cZ σ n a gf gt gw F T C K) {x y : Int32} (hz : zIn x (nI n) = false) : zM l D kCl tys kNw b ky_M_apart (kh_M_apart :: zT) 8 300 0 0 [.ref (b + 54), .int x, .int y] N σ ((fun oc N' σ' => oc = .returned (some (.long 0)) ∧ N' = N ∧ MS b cI cJ cZ σ' n a gf gt gw F T C K ∧ Fr 54 73 σ σ')) := by
  refine zM.of (by decide +kernel) rfl (Nat.le_of_ble_eq_true rfl) ?_
  refine z_pick (lv' := [(0, .ref (b + 54)), (1, .int x), (2, .int y)]) [0, 1, 2] rfl ?_
  obtain ⟨⟨th, fa, ls, rm, hM⟩, h58, h59, ⟨g60, h60⟩, ⟨g61, h61⟩, ⟨g62, h62⟩, ⟨g63, h63⟩, ⟨g64, h64⟩, ⟨g65, h65⟩, ⟨g66, h66⟩, ⟨g67, h67⟩, ⟨g68, h68⟩, ⟨g69, h69⟩, ⟨g70, h70⟩, ⟨g71, h71⟩, ⟨g72, h72⟩, ⟨g73, h73⟩⟩ := hMS
  have hn := hM.hn
  have ha := hM.ha
  refine z_aload_n kd_M_apart_0 0 rfl ?_
  refine z_iconst (v := 0) kd_M_apart_1 (by decide) ?_
  refine z_putE (fs' := [_, _, _, _, _, _, _, _, _, _, _, _, _, _, _, _, _, _, _, _, _, _, _, _, _]) kd_M_apart_2 (kp_M_69 _) hM.h1 (Nat.le_of_ble_eq_true rfl) rfl rfl rfl ?_
  refine z_upd (fun σ_1 x54_1 q_1 => ?_)
  have x58_1 := (q_1 58 (by omega)).trans h58
  have x59_1 := (q_1 59 (by omega)).trans h59
  have x60_1 := (q_1 60 (by omega)).trans h60
  have x61_1 := (q_1 61 (by omega)).trans h61
  have x62_1 := (q_1 62 (by omega)).trans h62
  have x63_1 := (q_1 63 (by omega)).trans h63
  have x64_1 := (q_1 64 (by omega)).trans h64
  have x65_1 := (q_1 65 (by omega)).trans h65
  have x66_1 := (q_1 66 (by omega)).trans h66
  have x67_1 := (q_1 67 (by omega)).trans h67
  have x68_1 := (q_1 68 (by omega)).trans h68
  have x69_1 := (q_1 69 (by omega)).trans h69
  have x70_1 := (q_1 70 (by omega)).trans h70
  have x71_1 := (q_1 71 (by omega)).trans h71
  have x72_1 := (q_1 72 (by omega)).trans h72
  have x73_1 := (q_1 73 (by omega)).trans h73
  have hM_1 := hM.put x54_1 q_1
  refine z_aload_n kd_M_apart_5 0 rfl ?_
  refine z_iload_n kd_M_apart_6 1 rfl ?_
  refine z_V1 (a := 54) (As := [_]) kd_M_apart_7 (kg_M_76 _) hM_1.h1 kc_M (c_M_isNode ht0 ht1 ht3 hM_1) rfl rfl (Nat.le_of_ble_eq_true rfl) ⟨Nat.le_of_ble_eq_true rfl, Nat.le_of_ble_eq_true rfl⟩ ⟨Nat.le_of_ble_eq_true rfl, Nat.le_of_ble_eq_true rfl⟩ ?_
  refine z_topi (show zB (zIn x (nI n)) = 0 by rw [hz]; rfl) ?_
  refine z_if_eq (tgt := 26) kd_M_apart_10 (by decide) (fun c10 => ?_) (fun c10 => absurd c10 (by decide))
  refine z_lconst (v := 0) kd_M_apart_26 (by decide +kernel) ?_
  exact z_lret kd_M_apart_27 rfl (Nat.le_of_ble_eq_true rfl) (Nat.le_of_ble_eq_true rfl) ⟨rfl, rfl, ⟨⟨_, _, _, _, hM_1⟩, x58_1, x59_1, ⟨_, x60_1⟩, ⟨_, x61_1⟩, ⟨_, x62_1⟩, ⟨_, x63_1⟩, ⟨_, x64_1⟩, ⟨_, x65_1⟩, ⟨_, x66_1⟩, ⟨_, x67_1⟩, ⟨_, x68_1⟩, ⟨_, x69_1⟩, ⟨_, x70_1⟩, ⟨_, x71_1⟩, ⟨_, x72_1⟩, ⟨_, x73_1⟩⟩, (Fr.tr Fr.rf (q_1.wide (by omega) (by omega)))⟩
set_option maxHeartbeats 4000000 in
set_option maxRecDepth 100000 in
theorem c_M_apart1 {l : Launch} {D : va_G} {tys : List (ClassId × FieldType)} {b N : Nat} {σ : Nat → Option va_E} {cI cJ cA : ClassId} (ht0 : tys[0]? = some (cI, .int)) (ht1 : tys[1]? = some (cJ, .long)) (ht3 : tys[3]? = some (cA, .array .long)) {cZ : ClassId} (ht2 : tys[2]? = some (cZ, .boolean)) {n a : Nat} {gf gt gw : Nat → Int32} {F T : Nat → Nat} {C K : Nat → Int64} (hMS : MS b cI cJ cZ σ n a gf gt gw F T C K) {x y : Int32} (hz : zIn x (nI n) = true) (hz2 : zIn y (nI n) = false) : zM l D kCl tys kNw b ky_M_apart (kh_M_apart :: zT) 8 300 0 0 [.ref (b + 54), .int x, .int y] N σ ((fun oc N' σ' => oc = .returned (some (.long 0)) ∧ N' = N ∧ MS b cI cJ cZ σ' n a gf gt gw F T C K ∧ Fr 54 73 σ σ')) := by
  refine zM.of (by decide +kernel) rfl (Nat.le_of_ble_eq_true rfl) ?_
  refine z_pick (lv' := [(0, .ref (b + 54)), (1, .int x), (2, .int y)]) [0, 1, 2] rfl ?_
  obtain ⟨⟨th, fa, ls, rm, hM⟩, h58, h59, ⟨g60, h60⟩, ⟨g61, h61⟩, ⟨g62, h62⟩, ⟨g63, h63⟩, ⟨g64, h64⟩, ⟨g65, h65⟩, ⟨g66, h66⟩, ⟨g67, h67⟩, ⟨g68, h68⟩, ⟨g69, h69⟩, ⟨g70, h70⟩, ⟨g71, h71⟩, ⟨g72, h72⟩, ⟨g73, h73⟩⟩ := hMS
  have hn := hM.hn
  have ha := hM.ha
  refine z_aload_n kd_M_apart_0 0 rfl ?_
  refine z_iconst (v := 0) kd_M_apart_1 (by decide) ?_
  refine z_putE (fs' := [_, _, _, _, _, _, _, _, _, _, _, _, _, _, _, _, _, _, _, _, _, _, _, _, _]) kd_M_apart_2 (kp_M_69 _) hM.h1 (Nat.le_of_ble_eq_true rfl) rfl rfl rfl ?_
  refine z_upd (fun σ_1 x54_1 q_1 => ?_)
  have x58_1 := (q_1 58 (by omega)).trans h58
  have x59_1 := (q_1 59 (by omega)).trans h59
  have x60_1 := (q_1 60 (by omega)).trans h60
  have x61_1 := (q_1 61 (by omega)).trans h61
  have x62_1 := (q_1 62 (by omega)).trans h62
  have x63_1 := (q_1 63 (by omega)).trans h63
  have x64_1 := (q_1 64 (by omega)).trans h64
  have x65_1 := (q_1 65 (by omega)).trans h65
  have x66_1 := (q_1 66 (by omega)).trans h66
  have x67_1 := (q_1 67 (by omega)).trans h67
  have x68_1 := (q_1 68 (by omega)).trans h68
  have x69_1 := (q_1 69 (by omega)).trans h69
  have x70_1 := (q_1 70 (by omega)).trans h70
  have x71_1 := (q_1 71 (by omega)).trans h71
  have x72_1 := (q_1 72 (by omega)).trans h72
  have x73_1 := (q_1 73 (by omega)).trans h73
  have hM_1 := hM.put x54_1 q_1
  refine z_aload_n kd_M_apart_5 0 rfl ?_
  refine z_iload_n kd_M_apart_6 1 rfl ?_
  refine z_V1 (a := 54) (As := [_]) kd_M_apart_7 (kg_M_76 _) hM_1.h1 kc_M (c_M_isNode ht0 ht1 ht3 hM_1) rfl rfl (Nat.le_of_ble_eq_true rfl) ⟨Nat.le_of_ble_eq_true rfl, Nat.le_of_ble_eq_true rfl⟩ ⟨Nat.le_of_ble_eq_true rfl, Nat.le_of_ble_eq_true rfl⟩ ?_
  refine z_topi (show zB (zIn x (nI n)) = 1 by rw [hz]; rfl) ?_
  refine z_if_eq (tgt := 26) kd_M_apart_10 (by decide) (fun c10 => absurd c10 (by decide)) (fun c10 => ?_)
  refine z_aload_n kd_M_apart_13 0 rfl ?_
  refine z_iload_n kd_M_apart_14 2 rfl ?_
  refine z_V1 (a := 54) (As := [_]) kd_M_apart_15 (kg_M_76 _) hM_1.h1 kc_M (c_M_isNode ht0 ht1 ht3 hM_1) rfl rfl (Nat.le_of_ble_eq_true rfl) ⟨Nat.le_of_ble_eq_true rfl, Nat.le_of_ble_eq_true rfl⟩ ⟨Nat.le_of_ble_eq_true rfl, Nat.le_of_ble_eq_true rfl⟩ ?_
  refine z_topi (show zB (zIn y (nI n)) = 0 by rw [hz2]; rfl) ?_
  refine z_if_eq (tgt := 26) kd_M_apart_18 (by decide) (fun c18 => ?_) (fun c18 => absurd c18 (by decide))
  refine z_lconst (v := 0) kd_M_apart_26 (by decide +kernel) ?_
  exact z_lret kd_M_apart_27 rfl (Nat.le_of_ble_eq_true rfl) (Nat.le_of_ble_eq_true rfl) ⟨rfl, rfl, ⟨⟨_, _, _, _, hM_1⟩, x58_1, x59_1, ⟨_, x60_1⟩, ⟨_, x61_1⟩, ⟨_, x62_1⟩, ⟨_, x63_1⟩, ⟨_, x64_1⟩, ⟨_, x65_1⟩, ⟨_, x66_1⟩, ⟨_, x67_1⟩, ⟨_, x68_1⟩, ⟨_, x69_1⟩, ⟨_, x70_1⟩, ⟨_, x71_1⟩, ⟨_, x72_1⟩, ⟨_, x73_1⟩⟩, (Fr.tr Fr.rf (q_1.wide (by omega) (by omega)))⟩
set_option maxHeartbeats 4000000 in
set_option maxRecDepth 100000 in
theorem c_M_apart2 {l : Launch} {D : va_G} {tys : List (ClassId × FieldType)} {b N : Nat} {σ : Nat → Option va_E} {cI cJ cA : ClassId} (ht0 : tys[0]? = some (cI, .int)) (ht1 : tys[1]? = some (cJ, .long)) (ht3 : tys[3]? = some (cA, .array .long)) {cZ : ClassId} (ht2 : tys[2]? = some (cZ, .boolean)) {n a : Nat} {gf gt gw : Nat → Int32} {F T : Nat → Nat} {C K : Nat → Int64} (hMS : MS b cI cJ cZ σ n a gf gt gw F T C K) {x : Int32} (hz : zIn x (nI n) = true) : zM l D kCl tys kNw b ky_M_apart (kh_M_apart :: zT) 8 300 0 0 [.ref (b + 54), .int x, .int x] N σ ((fun oc N' σ' => oc = .returned (some (.long 0)) ∧ N' = N ∧ MS b cI cJ cZ σ' n a gf gt gw F T C K ∧ Fr 54 73 σ σ')) := by
  refine zM.of (by decide +kernel) rfl (Nat.le_of_ble_eq_true rfl) ?_
  refine z_pick (lv' := [(0, .ref (b + 54)), (1, .int x), (2, .int x)]) [0, 1, 2] rfl ?_
  obtain ⟨⟨th, fa, ls, rm, hM⟩, h58, h59, ⟨g60, h60⟩, ⟨g61, h61⟩, ⟨g62, h62⟩, ⟨g63, h63⟩, ⟨g64, h64⟩, ⟨g65, h65⟩, ⟨g66, h66⟩, ⟨g67, h67⟩, ⟨g68, h68⟩, ⟨g69, h69⟩, ⟨g70, h70⟩, ⟨g71, h71⟩, ⟨g72, h72⟩, ⟨g73, h73⟩⟩ := hMS
  have hn := hM.hn
  have ha := hM.ha
  refine z_aload_n kd_M_apart_0 0 rfl ?_
  refine z_iconst (v := 0) kd_M_apart_1 (by decide) ?_
  refine z_putE (fs' := [_, _, _, _, _, _, _, _, _, _, _, _, _, _, _, _, _, _, _, _, _, _, _, _, _]) kd_M_apart_2 (kp_M_69 _) hM.h1 (Nat.le_of_ble_eq_true rfl) rfl rfl rfl ?_
  refine z_upd (fun σ_1 x54_1 q_1 => ?_)
  have x58_1 := (q_1 58 (by omega)).trans h58
  have x59_1 := (q_1 59 (by omega)).trans h59
  have x60_1 := (q_1 60 (by omega)).trans h60
  have x61_1 := (q_1 61 (by omega)).trans h61
  have x62_1 := (q_1 62 (by omega)).trans h62
  have x63_1 := (q_1 63 (by omega)).trans h63
  have x64_1 := (q_1 64 (by omega)).trans h64
  have x65_1 := (q_1 65 (by omega)).trans h65
  have x66_1 := (q_1 66 (by omega)).trans h66
  have x67_1 := (q_1 67 (by omega)).trans h67
  have x68_1 := (q_1 68 (by omega)).trans h68
  have x69_1 := (q_1 69 (by omega)).trans h69
  have x70_1 := (q_1 70 (by omega)).trans h70
  have x71_1 := (q_1 71 (by omega)).trans h71
  have x72_1 := (q_1 72 (by omega)).trans h72
  have x73_1 := (q_1 73 (by omega)).trans h73
  have hM_1 := hM.put x54_1 q_1
  refine z_aload_n kd_M_apart_5 0 rfl ?_
  refine z_iload_n kd_M_apart_6 1 rfl ?_
  refine z_V1 (a := 54) (As := [_]) kd_M_apart_7 (kg_M_76 _) hM_1.h1 kc_M (c_M_isNode ht0 ht1 ht3 hM_1) rfl rfl (Nat.le_of_ble_eq_true rfl) ⟨Nat.le_of_ble_eq_true rfl, Nat.le_of_ble_eq_true rfl⟩ ⟨Nat.le_of_ble_eq_true rfl, Nat.le_of_ble_eq_true rfl⟩ ?_
  refine z_topi (show zB (zIn x (nI n)) = 1 by rw [hz]; rfl) ?_
  refine z_if_eq (tgt := 26) kd_M_apart_10 (by decide) (fun c10 => absurd c10 (by decide)) (fun c10 => ?_)
  refine z_aload_n kd_M_apart_13 0 rfl ?_
  refine z_iload_n kd_M_apart_14 2 rfl ?_
  refine z_V1 (a := 54) (As := [_]) kd_M_apart_15 (kg_M_76 _) hM_1.h1 kc_M (c_M_isNode ht0 ht1 ht3 hM_1) rfl rfl (Nat.le_of_ble_eq_true rfl) ⟨Nat.le_of_ble_eq_true rfl, Nat.le_of_ble_eq_true rfl⟩ ⟨Nat.le_of_ble_eq_true rfl, Nat.le_of_ble_eq_true rfl⟩ ?_
  refine z_topi (show zB (zIn x (nI n)) = 1 by rw [hz]; rfl) ?_
  refine z_if_eq (tgt := 26) kd_M_apart_18 (by decide) (fun c18 => absurd c18 (by decide)) (fun c18 => ?_)
  refine z_iload_n kd_M_apart_21 1 rfl ?_
  refine z_iload_n kd_M_apart_22 2 rfl ?_
  refine z_icmp_ne (tgt := 28) kd_M_apart_23 (by decide) (fun c23 => ?_) (fun c23 => ?_)
  · exact absurd rfl c23
  · refine z_lconst (v := 0) kd_M_apart_26 (by decide +kernel) ?_
    exact z_lret kd_M_apart_27 rfl (Nat.le_of_ble_eq_true rfl) (Nat.le_of_ble_eq_true rfl) ⟨rfl, rfl, ⟨⟨_, _, _, _, hM_1⟩, x58_1, x59_1, ⟨_, x60_1⟩, ⟨_, x61_1⟩, ⟨_, x62_1⟩, ⟨_, x63_1⟩, ⟨_, x64_1⟩, ⟨_, x65_1⟩, ⟨_, x66_1⟩, ⟨_, x67_1⟩, ⟨_, x68_1⟩, ⟨_, x69_1⟩, ⟨_, x70_1⟩, ⟨_, x71_1⟩, ⟨_, x72_1⟩, ⟨_, x73_1⟩⟩, (Fr.tr Fr.rf (q_1.wide (by omega) (by omega)))⟩
set_option maxHeartbeats 4000000 in
set_option maxRecDepth 100000 in
theorem c_M_apart3 {l : Launch} {D : va_G} {tys : List (ClassId × FieldType)} {b N : Nat} {σ : Nat → Option va_E} {cI cJ cA : ClassId} (ht0 : tys[0]? = some (cI, .int)) (ht1 : tys[1]? = some (cJ, .long)) (ht3 : tys[3]? = some (cA, .array .long)) {cZ : ClassId} (ht2 : tys[2]? = some (cZ, .boolean)) {n a : Nat} {gf gt gw : Nat → Int32} {F T : Nat → Nat} {C K : Nat → Int64} (hMS : MS b cI cJ cZ σ n a gf gt gw F T C K) {x y : Nat} (hx : x < n) (hy : y < n) (hne : x ≠ y) (hz : zIn (nI x) (nI n) = true) (hz2 : zIn (nI y) (nI n) = true) : zM l D kCl tys kNw b ky_M_apart (kh_M_apart :: zT) 8 300 0 0 [.ref (b + 54), .int (nI x), .int (nI y)] N σ ((fun oc N' σ' => oc = .returned (some (.long (apV n a F T gw x y))) ∧ N' = N ∧ MS b cI cJ cZ σ' n a gf gt gw F T C K ∧ Fr 54 73 σ σ')) := by
  refine zM.of (by decide +kernel) rfl (Nat.le_of_ble_eq_true rfl) ?_
  refine z_pick (lv' := [(0, .ref (b + 54)), (1, .int (nI x)), (2, .int (nI y))]) [0, 1, 2] rfl ?_
  obtain ⟨⟨th, fa, ls, rm, hM⟩, h58, h59, ⟨g60, h60⟩, ⟨g61, h61⟩, ⟨g62, h62⟩, ⟨g63, h63⟩, ⟨g64, h64⟩, ⟨g65, h65⟩, ⟨g66, h66⟩, ⟨g67, h67⟩, ⟨g68, h68⟩, ⟨g69, h69⟩, ⟨g70, h70⟩, ⟨g71, h71⟩, ⟨g72, h72⟩, ⟨g73, h73⟩⟩ := hMS
  have hn := hM.hn
  have ha := hM.ha
  refine z_aload_n kd_M_apart_0 0 rfl ?_
  refine z_iconst (v := 0) kd_M_apart_1 (by decide) ?_
  refine z_putE (fs' := [_, _, _, _, _, _, _, _, _, _, _, _, _, _, _, _, _, _, _, _, _, _, _, _, _]) kd_M_apart_2 (kp_M_69 _) hM.h1 (Nat.le_of_ble_eq_true rfl) rfl rfl rfl ?_
  refine z_upd (fun σ_1 x54_1 q_1 => ?_)
  have x58_1 := (q_1 58 (by omega)).trans h58
  have x59_1 := (q_1 59 (by omega)).trans h59
  have x60_1 := (q_1 60 (by omega)).trans h60
  have x61_1 := (q_1 61 (by omega)).trans h61
  have x62_1 := (q_1 62 (by omega)).trans h62
  have x63_1 := (q_1 63 (by omega)).trans h63
  have x64_1 := (q_1 64 (by omega)).trans h64
  have x65_1 := (q_1 65 (by omega)).trans h65
  have x66_1 := (q_1 66 (by omega)).trans h66
  have x67_1 := (q_1 67 (by omega)).trans h67
  have x68_1 := (q_1 68 (by omega)).trans h68
  have x69_1 := (q_1 69 (by omega)).trans h69
  have x70_1 := (q_1 70 (by omega)).trans h70
  have x71_1 := (q_1 71 (by omega)).trans h71
  have x72_1 := (q_1 72 (by omega)).trans h72
  have x73_1 := (q_1 73 (by omega)).trans h73
  have hM_1 := hM.put x54_1 q_1
  refine z_aload_n kd_M_apart_5 0 rfl ?_
  refine z_iload_n kd_M_apart_6 1 rfl ?_
  refine z_V1 (a := 54) (As := [_]) kd_M_apart_7 (kg_M_76 _) hM_1.h1 kc_M (c_M_isNode ht0 ht1 ht3 hM_1) rfl rfl (Nat.le_of_ble_eq_true rfl) ⟨Nat.le_of_ble_eq_true rfl, Nat.le_of_ble_eq_true rfl⟩ ⟨Nat.le_of_ble_eq_true rfl, Nat.le_of_ble_eq_true rfl⟩ ?_
  refine z_topi (show zB (zIn (nI x) (nI n)) = 1 by rw [hz]; rfl) ?_
  refine z_if_eq (tgt := 26) kd_M_apart_10 (by decide) (fun c10 => absurd c10 (by decide)) (fun c10 => ?_)
  refine z_aload_n kd_M_apart_13 0 rfl ?_
  refine z_iload_n kd_M_apart_14 2 rfl ?_
  refine z_V1 (a := 54) (As := [_]) kd_M_apart_15 (kg_M_76 _) hM_1.h1 kc_M (c_M_isNode ht0 ht1 ht3 hM_1) rfl rfl (Nat.le_of_ble_eq_true rfl) ⟨Nat.le_of_ble_eq_true rfl, Nat.le_of_ble_eq_true rfl⟩ ⟨Nat.le_of_ble_eq_true rfl, Nat.le_of_ble_eq_true rfl⟩ ?_
  refine z_topi (show zB (zIn (nI y) (nI n)) = 1 by rw [hz2]; rfl) ?_
  refine z_if_eq (tgt := 26) kd_M_apart_18 (by decide) (fun c18 => absurd c18 (by decide)) (fun c18 => ?_)
  refine z_iload_n kd_M_apart_21 1 rfl ?_
  refine z_iload_n kd_M_apart_22 2 rfl ?_
  refine z_icmp_ne (tgt := 28) kd_M_apart_23 (by decide) (fun c23 => ?_) (fun c23 => ?_)
  · refine z_aload_n kd_M_apart_28 0 rfl ?_
    refine z_callV (a := 54) (As := []) kd_M_apart_29 (kg_M_121 _) hM_1.h1 kc_M (c_M_apartAll ht0 ht1 ht3 hM_1 x62_1) rfl rfl (Nat.le_of_ble_eq_true rfl) ⟨Nat.le_of_ble_eq_true rfl, Nat.le_of_ble_eq_true rfl⟩ ⟨Nat.le_of_ble_eq_true rfl, Nat.le_of_ble_eq_true rfl⟩ ?_
    rintro _ _ σ_2 ⟨hv, rfl, ⟨g2_2, hp_2, x62_2⟩, q_2⟩
    cases hv
    refine z_eq (st' := []) rfl rfl rfl rfl ?_
    have x58_2 := (q_2 58 (by omega)).trans x58_1
    have x59_2 := (q_2 59 (by omega)).trans x59_1
    have x60_2 := (q_2 60 (by omega)).trans x60_1
    have x61_2 := (q_2 61 (by omega)).trans x61_1
    have x63_2 := (q_2 63 (by omega)).trans x63_1
    have x64_2 := (q_2 64 (by omega)).trans x64_1
    have x65_2 := (q_2 65 (by omega)).trans x65_1
    have x66_2 := (q_2 66 (by omega)).trans x66_1
    have x67_2 := (q_2 67 (by omega)).trans x67_1
    have x68_2 := (q_2 68 (by omega)).trans x68_1
    have x69_2 := (q_2 69 (by omega)).trans x69_1
    have x70_2 := (q_2 70 (by omega)).trans x70_1
    have x71_2 := (q_2 71 (by omega)).trans x71_1
    have x72_2 := (q_2 72 (by omega)).trans x72_1
    have x73_2 := (q_2 73 (by omega)).trans x73_1
    have hM_2 := hM_1.fr q_2 (by omega)
    refine z_aload_n kd_M_apart_32 0 rfl ?_
    refine z_callV (a := 54) (As := []) kd_M_apart_33 (kg_M_124 _) hM_2.h1 kc_M (c_M_noneOut ht2 hM_2.h1 x63_2) rfl rfl (Nat.le_of_ble_eq_true rfl) ⟨Nat.le_of_ble_eq_true rfl, Nat.le_of_ble_eq_true rfl⟩ ⟨Nat.le_of_ble_eq_true rfl, Nat.le_of_ble_eq_true rfl⟩ ?_
    rintro _ _ _ ⟨hv, rfl, g3_3, hg3_3, rfl⟩
    cases hv
    refine z_eq (st' := []) rfl rfl rfl rfl ?_
    refine z_upd (fun σ_3 x63_3 q_3 => ?_)
    have x58_3 := (q_3 58 (by omega)).trans x58_2
    have x59_3 := (q_3 59 (by omega)).trans x59_2
    have x60_3 := (q_3 60 (by omega)).trans x60_2
    have x61_3 := (q_3 61 (by omega)).trans x61_2
    have x62_3 := (q_3 62 (by omega)).trans x62_2
    have x64_3 := (q_3 64 (by omega)).trans x64_2
    have x65_3 := (q_3 65 (by omega)).trans x65_2
    have x66_3 := (q_3 66 (by omega)).trans x66_2
    have x67_3 := (q_3 67 (by omega)).trans x67_2
    have x68_3 := (q_3 68 (by omega)).trans x68_2
    have x69_3 := (q_3 69 (by omega)).trans x69_2
    have x70_3 := (q_3 70 (by omega)).trans x70_2
    have x71_3 := (q_3 71 (by omega)).trans x71_2
    have x72_3 := (q_3 72 (by omega)).trans x72_2
    have x73_3 := (q_3 73 (by omega)).trans x73_2
    have hM_3 := hM_2.fr q_3 (by omega)
    refine z_aload_n kd_M_apart_36 0 rfl ?_
    refine z_iload_n kd_M_apart_37 1 rfl ?_
    refine z_iload_n kd_M_apart_38 2 rfl ?_
    refine z_callV (a := 54) (As := [_, _]) kd_M_apart_39 (kg_M_109 _) hM_3.h1 kc_M (c_M_number ht0 ht1 ht3 hM_3 hp_2 (bu := some x) (ot := some y) (fun q hq => by cases hq; omega) (fun q hq => by cases hq; omega) x62_3 x64_3) rfl rfl (Nat.le_of_ble_eq_true rfl) ⟨Nat.le_of_ble_eq_true rfl, Nat.le_of_ble_eq_true rfl⟩ ⟨Nat.le_of_ble_eq_true rfl, Nat.le_of_ble_eq_true rfl⟩ ?_
    rintro _ _ σ_4 ⟨hv, rfl, ⟨g4_4, hI_4, x64_4⟩, q_4⟩
    cases hv
    refine z_eq (st' := [_]) rfl rfl rfl rfl ?_
    have x58_4 := (q_4 58 (by omega)).trans x58_3
    have x59_4 := (q_4 59 (by omega)).trans x59_3
    have x60_4 := (q_4 60 (by omega)).trans x60_3
    have x61_4 := (q_4 61 (by omega)).trans x61_3
    have x62_4 := (q_4 62 (by omega)).trans x62_3
    have x63_4 := (q_4 63 (by omega)).trans x63_3
    have x65_4 := (q_4 65 (by omega)).trans x65_3
    have x66_4 := (q_4 66 (by omega)).trans x66_3
    have x67_4 := (q_4 67 (by omega)).trans x67_3
    have x68_4 := (q_4 68 (by omega)).trans x68_3
    have x69_4 := (q_4 69 (by omega)).trans x69_3
    have x70_4 := (q_4 70 (by omega)).trans x70_3
    have x71_4 := (q_4 71 (by omega)).trans x71_3
    have x72_4 := (q_4 72 (by omega)).trans x72_3
    have x73_4 := (q_4 73 (by omega)).trans x73_3
    have hM_4 := hM_3.fr q_4 (by omega)
    refine z_istore_n (lv' := [(3, .int _), (0, .ref (b + 54)), (1, .int _), (2, .int _)]) kd_M_apart_42 (by decide) rfl ?_
    refine z_aload_n kd_M_apart_43 1 rfl ?_
    refine z_lconst (v := 0) kd_M_apart_44 (by decide +kernel) ?_
    refine z_callV (a := 54) (As := [_]) kd_M_apart_45 (kg_M_113 _) hM_4.h1 kc_M (c_M_rows ht0 ht1 ht3 ht2 hM_4 hp_2 (BX.z (by omega) hg3_3) hI_4 x60_4 x62_4 x63_4 x64_4 (pl := 0)) rfl rfl (Nat.le_of_ble_eq_true rfl) ⟨Nat.le_of_ble_eq_true rfl, Nat.le_of_ble_eq_true rfl⟩ ⟨Nat.le_of_ble_eq_true rfl, Nat.le_of_ble_eq_true rfl⟩ ?_
    rintro _ _ σ_5 ⟨hv, rfl, ⟨g0_5, r60_5, x60_5⟩, q_5⟩
    cases hv
    refine z_eq (st' := []) rfl rfl rfl rfl ?_
    have x58_5 := (q_5 58 (by omega)).trans x58_4
    have x59_5 := (q_5 59 (by omega)).trans x59_4
    have x61_5 := (q_5 61 (by omega)).trans x61_4
    have x62_5 := (q_5 62 (by omega)).trans x62_4
    have x63_5 := (q_5 63 (by omega)).trans x63_4
    have x64_5 := (q_5 64 (by omega)).trans x64_4
    have x65_5 := (q_5 65 (by omega)).trans x65_4
    have x66_5 := (q_5 66 (by omega)).trans x66_4
    have x67_5 := (q_5 67 (by omega)).trans x67_4
    have x68_5 := (q_5 68 (by omega)).trans x68_4
    have x69_5 := (q_5 69 (by omega)).trans x69_4
    have x70_5 := (q_5 70 (by omega)).trans x70_4
    have x71_5 := (q_5 71 (by omega)).trans x71_4
    have x72_5 := (q_5 72 (by omega)).trans x72_4
    have x73_5 := (q_5 73 (by omega)).trans x73_4
    have hM_5 := hM_4.fr q_5 (by omega)
    refine z_aload_n kd_M_apart_48 1 rfl ?_
    refine z_iload_n kd_M_apart_49 0 rfl ?_
    refine z_callV (a := 54) (As := [_]) kd_M_apart_50 (kg_M_117 _) hM_5.h1 kc_M (c_M_determinant ht0 ht1 ht3 hM_5 (Nat.le_trans nmV_le hn) x60_5 x61_5 r60_5) rfl rfl (Nat.le_of_ble_eq_true rfl) ⟨Nat.le_of_ble_eq_true rfl, Nat.le_of_ble_eq_true rfl⟩ ⟨Nat.le_of_ble_eq_true rfl, Nat.le_of_ble_eq_true rfl⟩ ?_
    rintro _ _ σ_6 ⟨hv, rfl, ⟨g1_6, x61_6⟩, q_6⟩
    cases hv
    refine z_eq (st' := [_]) rfl rfl rfl rfl ?_
    have x58_6 := (q_6 58 (by omega)).trans x58_5
    have x59_6 := (q_6 59 (by omega)).trans x59_5
    have x60_6 := (q_6 60 (by omega)).trans x60_5
    have x62_6 := (q_6 62 (by omega)).trans x62_5
    have x63_6 := (q_6 63 (by omega)).trans x63_5
    have x64_6 := (q_6 64 (by omega)).trans x64_5
    have x65_6 := (q_6 65 (by omega)).trans x65_5
    have x66_6 := (q_6 66 (by omega)).trans x66_5
    have x67_6 := (q_6 67 (by omega)).trans x67_5
    have x68_6 := (q_6 68 (by omega)).trans x68_5
    have x69_6 := (q_6 69 (by omega)).trans x69_5
    have x70_6 := (q_6 70 (by omega)).trans x70_5
    have x71_6 := (q_6 71 (by omega)).trans x71_5
    have x72_6 := (q_6 72 (by omega)).trans x72_5
    have x73_6 := (q_6 73 (by omega)).trans x73_5
    have hM_6 := hM_5.fr q_6 (by omega)
    exact z_lret kd_M_apart_53 rfl (Nat.le_of_ble_eq_true rfl) (Nat.le_of_ble_eq_true rfl) ⟨rfl, rfl, ⟨⟨_, _, _, _, hM_6⟩, x58_6, x59_6, ⟨_, x60_6⟩, ⟨_, x61_6⟩, ⟨_, x62_6⟩, ⟨_, x63_6⟩, ⟨_, x64_6⟩, ⟨_, x65_6⟩, ⟨_, x66_6⟩, ⟨_, x67_6⟩, ⟨_, x68_6⟩, ⟨_, x69_6⟩, ⟨_, x70_6⟩, ⟨_, x71_6⟩, ⟨_, x72_6⟩, ⟨_, x73_6⟩⟩, (Fr.tr (Fr.tr (Fr.tr (Fr.tr (Fr.tr (Fr.tr Fr.rf (q_1.wide (by omega) (by omega))) (q_2.wide (by omega) (by omega))) (q_3.wide (by omega) (by omega))) (q_4.wide (by omega) (by omega))) (q_5.wide (by omega) (by omega))) (q_6.wide (by omega) (by omega)))⟩
  · exact absurd ((nI_eq (by omega) (by omega)).mp c23) hne
