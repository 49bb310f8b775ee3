/-- a place below n, if x is one -/
def nd (n : Nat) (x : Int32) : Option Nat := if zIn x (nI n) = true then some x.toNatClampNeg else none
theorem nd_some {n v : Nat} {x : Int32} (hn : n < 2 ^ 31) (h : nd n x = some v) : x = nI v ∧ v < n ∧ zIn x (nI n) = true := by
  unfold nd at h
  by_cases c : zIn x (nI n) = true
  · rw [if_pos c] at h
    have hv : x.toNatClampNeg = v := Option.some.inj h
    have h2 : (0 : Int32) ≤ x ∧ x < nI n := by simpa [zIn] using c
    have h3 : (0 : Int) ≤ x.toInt := Int32.le_iff_toInt_le.mp h2.1
    have h5 : x.toInt.toNat = v := hv
    have hlt : x.toInt < 2 ^ 31 := Int32.toInt_lt x
    have e : x = nI v := by
      apply Int32.toInt_inj.mp
      have h6 : (nI v).toNatClampNeg = v := nI_clamp (by omega)
      have h7 : (nI v).toInt.toNat = v := h6
      have h8 : (0 : Int32) ≤ nI v := nI_le (a := 0) (Nat.zero_le v) (by omega)
      have h9 : (0 : Int) ≤ (nI v).toInt := Int32.le_iff_toInt_le.mp h8
      omega
    refine ⟨e, ?_, c⟩
    rw [e] at h2
    exact (nI_ltI (by omega) hn).mp h2.2
  · rw [if_neg c] at h; cases h
theorem nd_none {n : Nat} {x : Int32} (h : nd n x = none) : zIn x (nI n) = false := by
  unfold nd at h
  by_cases c : zIn x (nI n) = true
  · rw [if_pos c] at h; cases h
  · exact Bool.eq_false_iff.mpr c
set_option maxHeartbeats 4000000 in
set_option maxRecDepth 100000 in
theorem c_C_trees {l : Launch} {D : va_G} {tys : List (ClassId × FieldType)} {b N : Nat} {σ : Nat → Option va_E} {cI cJ cA : ClassId} (ht0 : tys[0]? = some (cI, .int)) (ht1 : tys[1]? = some (cJ, .long)) (ht3 : tys[3]? = some (cA, .array .long)) {cP : ClassId} {n a : Nat} {gf gt gw : Nat → Int32} {F T : Nat → Nat} {C K : Nat → Int64} (hC : CS b cI cJ cA cP σ n a gf gt gw F T C K) : zM l D kCl tys kNw b ky_C_trees (kh_C_trees :: zT) 20 700 0 0 [.ref (b + 0)] N σ ((fun oc N' σ' => oc = .returned (some (.long (sopV n 0 a F T gw (fun v => v)))) ∧ N' = N ∧ CS b cI cJ cA cP σ' n a gf gt gw F T C K ∧ Fr 0 53 σ σ')) := by
  refine zM.of (by decide +kernel) rfl (Nat.le_of_ble_eq_true rfl) ?_
  refine z_pick (lv' := [(0, .ref (b + 0))]) [0] rfl ?_
  obtain ⟨hN, h26, h27, c0, ⟨u5, x5, g5, h5, h6⟩, ⟨s0, M0, hS0⟩, ⟨v19, w19, h19⟩, rs, us, h25, tr, ss, pe⟩ := id hC
  have hn := hN.hn
  have ha := hN.ha
  refine z_aload_n kd_C_trees_0 0 rfl ?_
  refine z_get kd_C_trees_1 (kf_C_27 _) c0 rfl ?_
  refine z_callV (a := 19) (As := []) kd_C_trees_4 (kg_C_92 _) h19 kc_T (c_T_sumOfAll ht0 ht1 ht3 hN h19 ⟨_, _, _, h5, h6⟩ ⟨_, _, hS0⟩) rfl rfl (Nat.le_of_ble_eq_true rfl) ⟨Nat.le_of_ble_eq_true rfl, Nat.le_of_ble_eq_true rfl⟩ ⟨Nat.le_of_ble_eq_true rfl, Nat.le_of_ble_eq_true rfl⟩ ?_
  rintro _ _ σ_1 ⟨hv, rfl, ⟨u5_1, x5_1, g5_1, h5_1, h6_1⟩, ⟨s_1, M_1, hS_1⟩, q_1⟩
  cases hv
  refine z_eq (st' := [_]) rfl rfl rfl rfl ?_
  have hN_1 := hN.fr q_1 (by omega)
  have x0_1 := (q_1 0 (by omega)).trans c0
  have x19_1 := (q_1 19 (by omega)).trans h19
  exact z_lret kd_C_trees_7 rfl (Nat.le_of_ble_eq_true rfl) (Nat.le_of_ble_eq_true rfl) ⟨rfl, rfl, hC.r5 ⟨_, _, _, h5_1, h6_1⟩ ⟨_, _, hS_1⟩ (Fr.tr Fr.rf (q_1.wide (by omega) (by omega))), Fr.wide (show Fr 5 18 σ _ from (Fr.tr Fr.rf (q_1.wide (by omega) (by omega)))) (by omega) (by omega)⟩
set_option maxHeartbeats 4000000 in
set_option maxRecDepth 100000 in
theorem c_C_forests {l : Launch} {D : va_G} {tys : List (ClassId × FieldType)} {b N : Nat} {σ : Nat → Option va_E} {cI cJ cA : ClassId} (ht0 : tys[0]? = some (cI, .int)) (ht1 : tys[1]? = some (cJ, .long)) (ht3 : tys[3]? = some (cA, .array .long)) {cP : ClassId} {n a : Nat} {gf gt gw : Nat → Int32} {F T : Nat → Nat} {C K : Nat → Int64} (hC : CS b cI cJ cA cP σ n a gf gt gw F T C K) : zM l D kCl tys kNw b ky_C_forests (kh_C_forests :: zT) 20 700 0 0 [.ref (b + 0)] N σ ((fun oc N' σ' => oc = .returned (some (.long (dtN n (mkM (fbM F T gw Z0 a) n)))) ∧ N' = N ∧ CS b cI cJ cA cP σ' n a gf gt gw F T C K ∧ Fr 0 53 σ σ')) := by
  refine zM.of (by decide +kernel) rfl (Nat.le_of_ble_eq_true rfl) ?_
  refine z_pick (lv' := [(0, .ref (b + 0))]) [0] rfl ?_
  obtain ⟨hN, h26, h27, c0, ⟨u5, x5, g5, h5, h6⟩, ⟨s0, M0, hS0⟩, ⟨v19, w19, h19⟩, rs, us, h25, tr, ss, pe⟩ := id hC
  have hn := hN.hn
  have ha := hN.ha
  refine z_aload_n kd_C_forests_0 0 rfl ?_
  refine z_get kd_C_forests_1 (kf_C_27 _) c0 rfl ?_
  refine z_callV (a := 19) (As := []) kd_C_forests_4 (kg_C_105 _) h19 kc_T (c_T_sumOfMarked ht0 ht1 ht3 hN h19 ⟨_, _, hS0⟩) rfl rfl (Nat.le_of_ble_eq_true rfl) ⟨Nat.le_of_ble_eq_true rfl, Nat.le_of_ble_eq_true rfl⟩ ⟨Nat.le_of_ble_eq_true rfl, Nat.le_of_ble_eq_true rfl⟩ ?_
  rintro _ _ σ_1 ⟨hv, rfl, ⟨s_1, M_1, hS_1⟩, q_1⟩
  cases hv
  refine z_eq (st' := [_]) rfl rfl rfl rfl ?_
  have hN_1 := hN.fr q_1 (by omega)
  have h5_1 := (q_1 5 (by omega)).trans h5
  have h6_1 := (q_1 6 (by omega)).trans h6
  have x0_1 := (q_1 0 (by omega)).trans c0
  have x19_1 := (q_1 19 (by omega)).trans h19
  exact z_lret kd_C_forests_7 rfl (Nat.le_of_ble_eq_true rfl) (Nat.le_of_ble_eq_true rfl) ⟨rfl, rfl, hC.r7 ⟨_, _, hS_1⟩ (Fr.tr Fr.rf (q_1.wide (by omega) (by omega))), Fr.wide (show Fr 7 18 σ _ from (Fr.tr Fr.rf (q_1.wide (by omega) (by omega)))) (by omega) (by omega)⟩
set_option maxHeartbeats 4000000 in
set_option maxRecDepth 100000 in
theorem c_C_tours {l : Launch} {D : va_G} {tys : List (ClassId × FieldType)} {b N : Nat} {σ : Nat → Option va_E} {cI cJ cA : ClassId} (ht0 : tys[0]? = some (cI, .int)) (ht1 : tys[1]? = some (cJ, .long)) (ht3 : tys[3]? = some (cA, .array .long)) {cP : ClassId} {n a : Nat} {gf gt gw : Nat → Int32} {F T : Nat → Nat} {C K : Nat → Int64} (hC : CS b cI cJ cA cP σ n a gf gt gw F T C K) {W : Nat → Nat} (hw : ∀ k, k < a → gw k = nI (W k) ∧ W k ≤ 9) : zM l D kCl tys kNw b ky_C_tours (kh_C_tours :: zT) 20 700 0 0 [.ref (b + 0)] N σ ((fun oc N' σ' => oc = .returned (some (.long (trV F T W gw n a))) ∧ N' = N ∧ CS b cI cJ cA cP σ' n a gf gt gw F T C K ∧ Fr 0 53 σ σ')) := by
  refine zM.of (by decide +kernel) rfl (Nat.le_of_ble_eq_true rfl) ?_
  refine z_pick (lv' := [(0, .ref (b + 0))]) [0] rfl ?_
  obtain ⟨hN, h26, h27, c0, ⟨u5, x5, g5, h5, h6⟩, ⟨s0, M0, hS0⟩, ⟨v19, w19, h19⟩, rs, us, h25, tr, ss, pe⟩ := id hC
  have hn := hN.hn
  have ha := hN.ha
  refine z_aload_n kd_C_tours_0 0 rfl ?_
  refine z_get kd_C_tours_1 (kf_C_27 _) c0 rfl ?_
  refine z_callV (a := 19) (As := []) kd_C_tours_4 (kg_C_119 _) h19 kc_T (c_T_toursAlongAll ht0 ht1 ht3 hN h19 ⟨_, _, hS0⟩ hw) rfl rfl (Nat.le_of_ble_eq_true rfl) ⟨Nat.le_of_ble_eq_true rfl, Nat.le_of_ble_eq_true rfl⟩ ⟨Nat.le_of_ble_eq_true rfl, Nat.le_of_ble_eq_true rfl⟩ ?_
  rintro _ _ σ_1 ⟨hv, rfl, ⟨s_1, M_1, hS_1⟩, q_1⟩
  cases hv
  refine z_eq (st' := [_]) rfl rfl rfl rfl ?_
  have hN_1 := hN.fr q_1 (by omega)
  have h5_1 := (q_1 5 (by omega)).trans h5
  have h6_1 := (q_1 6 (by omega)).trans h6
  have x0_1 := (q_1 0 (by omega)).trans c0
  have x19_1 := (q_1 19 (by omega)).trans h19
  exact z_lret kd_C_tours_7 rfl (Nat.le_of_ble_eq_true rfl) (Nat.le_of_ble_eq_true rfl) ⟨rfl, rfl, hC.r7 ⟨_, _, hS_1⟩ (Fr.tr Fr.rf (q_1.wide (by omega) (by omega))), Fr.wide (show Fr 7 18 σ _ from (Fr.tr Fr.rf (q_1.wide (by omega) (by omega)))) (by omega) (by omega)⟩
def rootedV (n a : Nat) (F T : Nat → Nat) (w : Nat → Int32) (x : Int32) : Int64 := match nd n x with
  | none => -1
  | some v => dtN n (strM n v (foM F T w Z0 a))
set_option maxHeartbeats 4000000 in
set_option maxRecDepth 100000 in
theorem c_C_rooted0 {l : Launch} {D : va_G} {tys : List (ClassId × FieldType)} {b N : Nat} {σ : Nat → Option va_E} {cI cJ cA : ClassId} (ht0 : tys[0]? = some (cI, .int)) (ht1 : tys[1]? = some (cJ, .long)) (ht3 : tys[3]? = some (cA, .array .long)) {cP : ClassId} {n a : Nat} {gf gt gw : Nat → Int32} {F T : Nat → Nat} {C K : Nat → Int64} (hC : CS b cI cJ cA cP σ n a gf gt gw F T C K) {x : Int32} (hz : zIn x (nI n) = false) : zM l D kCl tys kNw b ky_C_rooted (kh_C_rooted :: zT) 20 700 0 0 [.ref (b + 0), .int x] N σ ((fun oc N' σ' => oc = .returned (some (.long (-1))) ∧ N' = N ∧ CS b cI cJ cA cP σ' n a gf gt gw F T C K ∧ Fr 0 53 σ σ')) := by
  refine zM.of (by decide +kernel) rfl (Nat.le_of_ble_eq_true rfl) ?_
  refine z_pick (lv' := [(0, .ref (b + 0)), (1, .int x)]) [0, 1] rfl ?_
  obtain ⟨hN, h26, h27, c0, ⟨u5, x5, g5, h5, h6⟩, ⟨s0, M0, hS0⟩, ⟨v19, w19, h19⟩, rs, us, h25, tr, ss, pe⟩ := id hC
  have hn := hN.hn
  have ha := hN.ha
  refine z_aload_n kd_C_rooted_0 0 rfl ?_
  refine z_get kd_C_rooted_1 (kf_C_10 _) c0 rfl ?_
  refine z_iload_n kd_C_rooted_4 1 rfl ?_
  refine z_V1 (a := 1) (As := [_]) kd_C_rooted_5 (kg_C_69 _) hN.h1 kc_N (c_N_hasNode hN.h1) rfl rfl (Nat.le_of_ble_eq_true rfl) ⟨Nat.le_of_ble_eq_true rfl, Nat.le_of_ble_eq_true rfl⟩ ⟨Nat.le_of_ble_eq_true rfl, Nat.le_of_ble_eq_true rfl⟩ ?_
  refine z_topi (show zB (zIn x (nI n)) = 0 by rw [hz]; rfl) ?_
  refine z_if_eq (tgt := 22) kd_C_rooted_8 (by decide) (fun c8 => ?_) (fun c8 => absurd c8 (by decide))
  refine z_ldc2 (v := -1) kd_C_rooted_22 (List.mem_cons_of_mem _ (zin 418 rfl rfl)) ?_
  exact z_lret kd_C_rooted_25 rfl (Nat.le_of_ble_eq_true rfl) (Nat.le_of_ble_eq_true rfl) ⟨rfl, rfl, hC, Fr.rf⟩
set_option maxHeartbeats 4000000 in
set_option maxRecDepth 100000 in
theorem c_C_rooted1 {l : Launch} {D : va_G} {tys : List (ClassId × FieldType)} {b N : Nat} {σ : Nat → Option va_E} {cI cJ cA : ClassId} (ht0 : tys[0]? = some (cI, .int)) (ht1 : tys[1]? = some (cJ, .long)) (ht3 : tys[3]? = some (cA, .array .long)) {cP : ClassId} {n a : Nat} {gf gt gw : Nat → Int32} {F T : Nat → Nat} {C K : Nat → Int64} (hC : CS b cI cJ cA cP σ n a gf gt gw F T C K) {v : Nat} (hv : v < n) (hz : zIn (nI v) (nI n) = true) : zM l D kCl tys kNw b ky_C_rooted (kh_C_rooted :: zT) 20 700 0 0 [.ref (b + 0), .int (nI v)] N σ ((fun oc N' σ' => oc = .returned (some (.long (dtN n (strM n v (foM F T gw Z0 a))))) ∧ N' = N ∧ CS b cI cJ cA cP σ' n a gf gt gw F T C K ∧ Fr 0 53 σ σ')) := by
  refine zM.of (by decide +kernel) rfl (Nat.le_of_ble_eq_true rfl) ?_
  refine z_pick (lv' := [(0, .ref (b + 0)), (1, .int (nI v))]) [0, 1] rfl ?_
  obtain ⟨hN, h26, h27, c0, ⟨u5, x5, g5, h5, h6⟩, ⟨s0, M0, hS0⟩, ⟨v19, w19, h19⟩, rs, us, h25, tr, ss, pe⟩ := id hC
  have hn := hN.hn
  have ha := hN.ha
  refine z_aload_n kd_C_rooted_0 0 rfl ?_
  refine z_get kd_C_rooted_1 (kf_C_10 _) c0 rfl ?_
  refine z_iload_n kd_C_rooted_4 1 rfl ?_
  refine z_V1 (a := 1) (As := [_]) kd_C_rooted_5 (kg_C_69 _) hN.h1 kc_N (c_N_hasNode hN.h1) rfl rfl (Nat.le_of_ble_eq_true rfl) ⟨Nat.le_of_ble_eq_true rfl, Nat.le_of_ble_eq_true rfl⟩ ⟨Nat.le_of_ble_eq_true rfl, Nat.le_of_ble_eq_true rfl⟩ ?_
  refine z_topi (show zB (zIn (nI v) (nI n)) = 1 by rw [hz]; rfl) ?_
  refine z_if_eq (tgt := 22) kd_C_rooted_8 (by decide) (fun c8 => absurd c8 (by decide)) (fun c8 => ?_)
  refine z_aload_n kd_C_rooted_11 0 rfl ?_
  refine z_get kd_C_rooted_12 (kf_C_27 _) c0 rfl ?_
  refine z_iload_n kd_C_rooted_15 1 rfl ?_
  refine z_callV (a := 19) (As := [_]) kd_C_rooted_16 (kg_C_102 _) h19 kc_T (c_T_sumTowards ht0 ht1 ht3 hN h19 ⟨_, _, hS0⟩ hv) rfl rfl (Nat.le_of_ble_eq_true rfl) ⟨Nat.le_of_ble_eq_true rfl, Nat.le_of_ble_eq_true rfl⟩ ⟨Nat.le_of_ble_eq_true rfl, Nat.le_of_ble_eq_true rfl⟩ ?_
  rintro _ _ σ_1 ⟨hv, rfl, ⟨s_1, M_1, hS_1⟩, q_1⟩
  cases hv
  refine z_eq (st' := [_]) rfl rfl rfl rfl ?_
  have hN_1 := hN.fr q_1 (by omega)
  have h5_1 := (q_1 5 (by omega)).trans h5
  have h6_1 := (q_1 6 (by omega)).trans h6
  have x0_1 := (q_1 0 (by omega)).trans c0
  have x19_1 := (q_1 19 (by omega)).trans h19
  refine z_goto (tgt := 25) kd_C_rooted_19 (by decide) ?_
  exact z_lret kd_C_rooted_25 rfl (Nat.le_of_ble_eq_true rfl) (Nat.le_of_ble_eq_true rfl) ⟨rfl, rfl, hC.r7 ⟨_, _, hS_1⟩ (Fr.tr Fr.rf (q_1.wide (by omega) (by omega))), Fr.wide (show Fr 7 18 σ _ from (Fr.tr Fr.rf (q_1.wide (by omega) (by omega)))) (by omega) (by omega)⟩
theorem c_C_rooted {l : Launch} {D : va_G} {tys : List (ClassId × FieldType)} {b N : Nat} {σ : Nat → Option va_E} {cI cJ cA : ClassId} (ht0 : tys[0]? = some (cI, .int)) (ht1 : tys[1]? = some (cJ, .long)) (ht3 : tys[3]? = some (cA, .array .long)) {cP : ClassId} {n a : Nat} {gf gt gw : Nat → Int32} {F T : Nat → Nat} {C K : Nat → Int64} (hC : CS b cI cJ cA cP σ n a gf gt gw F T C K) {x : Int32} : zM l D kCl tys kNw b ky_C_rooted (kh_C_rooted :: zT) 20 700 0 0 [.ref (b + 0), .int x] N σ (fun oc N' σ' => oc = .returned (some (.long (rootedV n a F T gw x))) ∧ N' = N ∧ CS b cI cJ cA cP σ' n a gf gt gw F T C K ∧ Fr 0 53 σ σ') := by
  unfold rootedV
  have hn := hC.1.hn
  have ha := hC.1.ha
  cases h : nd n x with
  | none => exact c_C_rooted0 ht0 ht1 ht3 hC (nd_none h)
  | some v =>
    obtain ⟨rfl, hv, hz⟩ := nd_some (by omega) h
    exact c_C_rooted1 ht0 ht1 ht3 hC hv hz
def throughV (n a : Nat) (F T : Nat → Nat) (w : Nat → Int32) (x : Int32) : Int64 := match nd a x with
  | none => -1
  | some v => swV n a F T w v
set_option maxHeartbeats 4000000 in
set_option maxRecDepth 100000 in
theorem c_C_through0 {l : Launch} {D : va_G} {tys : List (ClassId × FieldType)} {b N : Nat} {σ : Nat → Option va_E} {cI cJ cA : ClassId} (ht0 : tys[0]? = some (cI, .int)) (ht1 : tys[1]? = some (cJ, .long)) (ht3 : tys[3]? = some (cA, .array .long)) {cP : ClassId} {n a : Nat} {gf gt gw : Nat → Int32} {F T : Nat → Nat} {C K : Nat → Int64} (hC : CS b cI cJ cA cP σ n a gf gt gw F T C K) {x : Int32} (hz : zIn x (nI a) = false) : zM l D kCl tys kNw b ky_C_through (kh_C_through :: zT) 20 700 0 0 [.ref (b + 0), .int x] N σ ((fun oc N' σ' => oc = .returned (some (.long (-1))) ∧ N' = N ∧ CS b cI cJ cA cP σ' n a gf gt gw F T C K ∧ Fr 0 53 σ σ')) := by
  refine zM.of (by decide +kernel) rfl (Nat.le_of_ble_eq_true rfl) ?_
  refine z_pick (lv' := [(0, .ref (b + 0)), (1, .int x)]) [0, 1] rfl ?_
  obtain ⟨hN, h26, h27, c0, ⟨u5, x5, g5, h5, h6⟩, ⟨s0, M0, hS0⟩, ⟨v19, w19, h19⟩, rs, us, h25, tr, ss, pe⟩ := id hC
  have hn := hN.hn
  have ha := hN.ha
  refine z_aload_n kd_C_through_0 0 rfl ?_
  refine z_get kd_C_through_1 (kf_C_10 _) c0 rfl ?_
  refine z_iload_n kd_C_through_4 1 rfl ?_
  refine z_V1 (a := 1) (As := [_]) kd_C_through_5 (kg_C_89 _) hN.h1 kc_N (c_N_hasArc hN.h1) rfl rfl (Nat.le_of_ble_eq_true rfl) ⟨Nat.le_of_ble_eq_true rfl, Nat.le_of_ble_eq_true rfl⟩ ⟨Nat.le_of_ble_eq_true rfl, Nat.le_of_ble_eq_true rfl⟩ ?_
  refine z_topi (show zB (zIn x (nI a)) = 0 by rw [hz]; rfl) ?_
  refine z_if_eq (tgt := 22) kd_C_through_8 (by decide) (fun c8 => ?_) (fun c8 => absurd c8 (by decide))
  refine z_ldc2 (v := -1) kd_C_through_22 (List.mem_cons_of_mem _ (zin 418 rfl rfl)) ?_
  exact z_lret kd_C_through_25 rfl (Nat.le_of_ble_eq_true rfl) (Nat.le_of_ble_eq_true rfl) ⟨rfl, rfl, hC, Fr.rf⟩
set_option maxHeartbeats 4000000 in
set_option maxRecDepth 100000 in
theorem c_C_through1 {l : Launch} {D : va_G} {tys : List (ClassId × FieldType)} {b N : Nat} {σ : Nat → Option va_E} {cI cJ cA : ClassId} (ht0 : tys[0]? = some (cI, .int)) (ht1 : tys[1]? = some (cJ, .long)) (ht3 : tys[3]? = some (cA, .array .long)) {cP : ClassId} {n a : Nat} {gf gt gw : Nat → Int32} {F T : Nat → Nat} {C K : Nat → Int64} (hC : CS b cI cJ cA cP σ n a gf gt gw F T C K) {v : Nat} (hv : v < a) (hz : zIn (nI v) (nI a) = true) : zM l D kCl tys kNw b ky_C_through (kh_C_through :: zT) 20 700 0 0 [.ref (b + 0), .int (nI v)] N σ ((fun oc N' σ' => oc = .returned (some (.long (swV n a F T gw v))) ∧ N' = N ∧ CS b cI cJ cA cP σ' n a gf gt gw F T C K ∧ Fr 0 53 σ σ')) := by
  refine zM.of (by decide +kernel) rfl (Nat.le_of_ble_eq_true rfl) ?_
  refine z_pick (lv' := [(0, .ref (b + 0)), (1, .int (nI v))]) [0, 1] rfl ?_
  obtain ⟨hN, h26, h27, c0, ⟨u5, x5, g5, h5, h6⟩, ⟨s0, M0, hS0⟩, ⟨v19, w19, h19⟩, rs, us, h25, tr, ss, pe⟩ := id hC
  have hn := hN.hn
  have ha := hN.ha
  refine z_aload_n kd_C_through_0 0 rfl ?_
  refine z_get kd_C_through_1 (kf_C_10 _) c0 rfl ?_
  refine z_iload_n kd_C_through_4 1 rfl ?_
  refine z_V1 (a := 1) (As := [_]) kd_C_through_5 (kg_C_89 _) hN.h1 kc_N (c_N_hasArc hN.h1) rfl rfl (Nat.le_of_ble_eq_true rfl) ⟨Nat.le_of_ble_eq_true rfl, Nat.le_of_ble_eq_true rfl⟩ ⟨Nat.le_of_ble_eq_true rfl, Nat.le_of_ble_eq_true rfl⟩ ?_
  refine z_topi (show zB (zIn (nI v) (nI a)) = 1 by rw [hz]; rfl) ?_
  refine z_if_eq (tgt := 22) kd_C_through_8 (by decide) (fun c8 => absurd c8 (by decide)) (fun c8 => ?_)
  refine z_aload_n kd_C_through_11 0 rfl ?_
  refine z_get kd_C_through_12 (kf_C_27 _) c0 rfl ?_
  refine z_iload_n kd_C_through_15 1 rfl ?_
  refine z_callV (a := 19) (As := [_]) kd_C_through_16 (kg_C_96 _) h19 kc_T (c_T_sumWith ht0 ht1 ht3 hN h19 ⟨_, _, _, h5, h6⟩ ⟨_, _, hS0⟩ hv) rfl rfl (Nat.le_of_ble_eq_true rfl) ⟨Nat.le_of_ble_eq_true rfl, Nat.le_of_ble_eq_true rfl⟩ ⟨Nat.le_of_ble_eq_true rfl, Nat.le_of_ble_eq_true rfl⟩ ?_
  rintro _ _ σ_1 ⟨hv, rfl, ⟨u5_1, x5_1, g5_1, h5_1, h6_1⟩, ⟨s_1, M_1, hS_1⟩, q_1⟩
  cases hv
  refine z_eq (st' := [_]) rfl rfl rfl rfl ?_
  have hN_1 := hN.fr q_1 (by omega)
  have x0_1 := (q_1 0 (by omega)).trans c0
  have x19_1 := (q_1 19 (by omega)).trans h19
  refine z_goto (tgt := 25) kd_C_through_19 (by decide) ?_
  exact z_lret kd_C_through_25 rfl (Nat.le_of_ble_eq_true rfl) (Nat.le_of_ble_eq_true rfl) ⟨rfl, rfl, hC.r5 ⟨_, _, _, h5_1, h6_1⟩ ⟨_, _, hS_1⟩ (Fr.tr Fr.rf (q_1.wide (by omega) (by omega))), Fr.wide (show Fr 5 18 σ _ from (Fr.tr Fr.rf (q_1.wide (by omega) (by omega)))) (by omega) (by omega)⟩
theorem c_C_through {l : Launch} {D : va_G} {tys : List (ClassId × FieldType)} {b N : Nat} {σ : Nat → Option va_E} {cI cJ cA : ClassId} (ht0 : tys[0]? = some (cI, .int)) (ht1 : tys[1]? = some (cJ, .long)) (ht3 : tys[3]? = some (cA, .array .long)) {cP : ClassId} {n a : Nat} {gf gt gw : Nat → Int32} {F T : Nat → Nat} {C K : Nat → Int64} (hC : CS b cI cJ cA cP σ n a gf gt gw F T C K) {x : Int32} : zM l D kCl tys kNw b ky_C_through (kh_C_through :: zT) 20 700 0 0 [.ref (b + 0), .int x] N σ (fun oc N' σ' => oc = .returned (some (.long (throughV n a F T gw x))) ∧ N' = N ∧ CS b cI cJ cA cP σ' n a gf gt gw F T C K ∧ Fr 0 53 σ σ') := by
  unfold throughV
  have hn := hC.1.hn
  have ha := hC.1.ha
  cases h : nd a x with
  | none => exact c_C_through0 ht0 ht1 ht3 hC (nd_none h)
  | some v =>
    obtain ⟨rfl, hv, hz⟩ := nd_some (by omega) h
    exact c_C_through1 ht0 ht1 ht3 hC hv hz
