def updN (F : Nat → Nat) (k v : Nat) : Nat → Nat := fun j => if j = k then v else F j
theorem arc_ft {n a u v : Nat} {gf gt : Nat → Int32} {F T : Nat → Nat} (h : ∀ k, k < a → gf k = nI (F k) ∧ F k < n ∧ gt k = nI (T k) ∧ T k < n) (hu : u < n) (hv : v < n) : ∀ k, k < a + 1 → upd gf a (nI u) k = nI (updN F a u k) ∧ updN F a u k < n ∧ upd gt a (nI v) k = nI (updN T a v k) ∧ updN T a v k < n := by
  intro k hk
  by_cases e : k = a
  · subst e; simp [upd, updN, hu, hv]
  · have := h k (by omega)
    simp [upd, updN, e, this]
set_option maxHeartbeats 4000000 in
set_option maxRecDepth 100000 in
theorem c_C_arc0 {l : Launch} {D : va_G} {tys : List (ClassId × FieldType)} {b N : Nat} {σ : Nat → Option va_E} {cI cJ cA : ClassId} (ht0 : tys[0]? = some (cI, .int)) (ht1 : tys[1]? = some (cJ, .long)) (ht3 : tys[3]? = some (cA, .array .long)) {cP : ClassId} {n a : Nat} {gf gt gw : Nat → Int32} {F T : Nat → Nat} {C K : Nat → Int64} (hC : CS b cI cJ cA cP σ n a gf gt gw F T C K) {x y wt : Int32} (hz : zIn x (nI n) = false) : zM l D kCl tys kNw b ky_C_arc (kh_C_arc :: zT) 20 700 0 0 [.ref (b + 0), .int x, .int y, .int wt] N σ ((fun oc N' σ' => oc = .returned (some (.int (-1))) ∧ N' = N ∧ CS b cI cJ cA cP σ' n a gf gt gw F T C K ∧ Fr 0 53 σ σ')) := by
  refine zM.of (by decide +kernel) rfl (Nat.le_of_ble_eq_true rfl) ?_
  refine z_pick (lv' := [(0, .ref (b + 0)), (1, .int x), (2, .int y), (3, .int wt)]) [0, 1, 2, 3] rfl ?_
  obtain ⟨hN, h26, h27, c0, ⟨u5, x5, g5, h5, h6⟩, ⟨s0, M0, hS0⟩, ⟨v19, w19, h19⟩, rs, us, h25, tr, ss, pe⟩ := id hC
  have hn := hN.hn
  have ha := hN.ha
  refine z_aload_n kd_C_arc_0 0 rfl ?_
  refine z_get kd_C_arc_1 (kf_C_10 _) c0 rfl ?_
  refine z_iload_n kd_C_arc_4 1 rfl ?_
  refine z_V1 (a := 1) (As := [_]) kd_C_arc_5 (kg_C_69 _) hN.h1 kc_N (c_N_hasNode hN.h1) rfl rfl (Nat.le_of_ble_eq_true rfl) ⟨Nat.le_of_ble_eq_true rfl, Nat.le_of_ble_eq_true rfl⟩ ⟨Nat.le_of_ble_eq_true rfl, Nat.le_of_ble_eq_true rfl⟩ ?_
  refine z_topi (show zB (zIn x (nI n)) = 0 by rw [hz]; rfl) ?_
  refine z_if_eq (tgt := 41) kd_C_arc_8 (by decide) (fun c8 => ?_) (fun c8 => absurd c8 (by decide))
  refine z_iconst (v := -1) kd_C_arc_41 (by decide) ?_
  exact z_iret kd_C_arc_42 rfl (Nat.le_of_ble_eq_true rfl) (Nat.le_of_ble_eq_true rfl) ⟨rfl, rfl, hC, Fr.rf⟩
set_option maxHeartbeats 4000000 in
set_option maxRecDepth 100000 in
theorem c_C_arc1 {l : Launch} {D : va_G} {tys : List (ClassId × FieldType)} {b N : Nat} {σ : Nat → Option va_E} {cI cJ cA : ClassId} (ht0 : tys[0]? = some (cI, .int)) (ht1 : tys[1]? = some (cJ, .long)) (ht3 : tys[3]? = some (cA, .array .long)) {cP : ClassId} {n a : Nat} {gf gt gw : Nat → Int32} {F T : Nat → Nat} {C K : Nat → Int64} (hC : CS b cI cJ cA cP σ n a gf gt gw F T C K) {x y wt : Int32} (hz : zIn x (nI n) = true) (hz2 : zIn y (nI n) = false) : zM l D kCl tys kNw b ky_C_arc (kh_C_arc :: zT) 20 700 0 0 [.ref (b + 0), .int x, .int y, .int wt] N σ ((fun oc N' σ' => oc = .returned (some (.int (-1))) ∧ N' = N ∧ CS b cI cJ cA cP σ' n a gf gt gw F T C K ∧ Fr 0 53 σ σ')) := by
  refine zM.of (by decide +kernel) rfl (Nat.le_of_ble_eq_true rfl) ?_
  refine z_pick (lv' := [(0, .ref (b + 0)), (1, .int x), (2, .int y), (3, .int wt)]) [0, 1, 2, 3] rfl ?_
  obtain ⟨hN, h26, h27, c0, ⟨u5, x5, g5, h5, h6⟩, ⟨s0, M0, hS0⟩, ⟨v19, w19, h19⟩, rs, us, h25, tr, ss, pe⟩ := id hC
  have hn := hN.hn
  have ha := hN.ha
  refine z_aload_n kd_C_arc_0 0 rfl ?_
  refine z_get kd_C_arc_1 (kf_C_10 _) c0 rfl ?_
  refine z_iload_n kd_C_arc_4 1 rfl ?_
  refine z_V1 (a := 1) (As := [_]) kd_C_arc_5 (kg_C_69 _) hN.h1 kc_N (c_N_hasNode hN.h1) rfl rfl (Nat.le_of_ble_eq_true rfl) ⟨Nat.le_of_ble_eq_true rfl, Nat.le_of_ble_eq_true rfl⟩ ⟨Nat.le_of_ble_eq_true rfl, Nat.le_of_ble_eq_true rfl⟩ ?_
  refine z_topi (show zB (zIn x (nI n)) = 1 by rw [hz]; rfl) ?_
  refine z_if_eq (tgt := 41) kd_C_arc_8 (by decide) (fun c8 => absurd c8 (by decide)) (fun c8 => ?_)
  refine z_aload_n kd_C_arc_11 0 rfl ?_
  refine z_get kd_C_arc_12 (kf_C_10 _) c0 rfl ?_
  refine z_iload_n kd_C_arc_15 2 rfl ?_
  refine z_V1 (a := 1) (As := [_]) kd_C_arc_16 (kg_C_69 _) hN.h1 kc_N (c_N_hasNode hN.h1) rfl rfl (Nat.le_of_ble_eq_true rfl) ⟨Nat.le_of_ble_eq_true rfl, Nat.le_of_ble_eq_true rfl⟩ ⟨Nat.le_of_ble_eq_true rfl, Nat.le_of_ble_eq_true rfl⟩ ?_
  refine z_topi (show zB (zIn y (nI n)) = 0 by rw [hz2]; rfl) ?_
  refine z_if_eq (tgt := 41) kd_C_arc_19 (by decide) (fun c19 => ?_) (fun c19 => absurd c19 (by decide))
  refine z_iconst (v := -1) kd_C_arc_41 (by decide) ?_
  exact z_iret kd_C_arc_42 rfl (Nat.le_of_ble_eq_true rfl) (Nat.le_of_ble_eq_true rfl) ⟨rfl, rfl, hC, Fr.rf⟩
set_option maxHeartbeats 4000000 in
set_option maxRecDepth 100000 in
theorem c_C_arc2 {l : Launch} {D : va_G} {tys : List (ClassId × FieldType)} {b N : Nat} {σ : Nat → Option va_E} {cI cJ cA : ClassId} (ht0 : tys[0]? = some (cI, .int)) (ht1 : tys[1]? = some (cJ, .long)) (ht3 : tys[3]? = some (cA, .array .long)) {cP : ClassId} {n a : Nat} {gf gt gw : Nat → Int32} {F T : Nat → Nat} {C K : Nat → Int64} (hC : CS b cI cJ cA cP σ n a gf gt gw F T C K) {x y wt : Int32} (hz : zIn x (nI n) = true) (hz2 : zIn y (nI n) = true) (hw : zWt wt = false) : zM l D kCl tys kNw b ky_C_arc (kh_C_arc :: zT) 20 700 0 0 [.ref (b + 0), .int x, .int y, .int wt] N σ ((fun oc N' σ' => oc = .returned (some (.int (-1))) ∧ N' = N ∧ CS b cI cJ cA cP σ' n a gf gt gw F T C K ∧ Fr 0 53 σ σ')) := by
  refine zM.of (by decide +kernel) rfl (Nat.le_of_ble_eq_true rfl) ?_
  refine z_pick (lv' := [(0, .ref (b + 0)), (1, .int x), (2, .int y), (3, .int wt)]) [0, 1, 2, 3] rfl ?_
  obtain ⟨hN, h26, h27, c0, ⟨u5, x5, g5, h5, h6⟩, ⟨s0, M0, hS0⟩, ⟨v19, w19, h19⟩, rs, us, h25, tr, ss, pe⟩ := id hC
  have hn := hN.hn
  have ha := hN.ha
  refine z_aload_n kd_C_arc_0 0 rfl ?_
  refine z_get kd_C_arc_1 (kf_C_10 _) c0 rfl ?_
  refine z_iload_n kd_C_arc_4 1 rfl ?_
  refine z_V1 (a := 1) (As := [_]) kd_C_arc_5 (kg_C_69 _) hN.h1 kc_N (c_N_hasNode hN.h1) rfl rfl (Nat.le_of_ble_eq_true rfl) ⟨Nat.le_of_ble_eq_true rfl, Nat.le_of_ble_eq_true rfl⟩ ⟨Nat.le_of_ble_eq_true rfl, Nat.le_of_ble_eq_true rfl⟩ ?_
  refine z_topi (show zB (zIn x (nI n)) = 1 by rw [hz]; rfl) ?_
  refine z_if_eq (tgt := 41) kd_C_arc_8 (by decide) (fun c8 => absurd c8 (by decide)) (fun c8 => ?_)
  refine z_aload_n kd_C_arc_11 0 rfl ?_
  refine z_get kd_C_arc_12 (kf_C_10 _) c0 rfl ?_
  refine z_iload_n kd_C_arc_15 2 rfl ?_
  refine z_V1 (a := 1) (As := [_]) kd_C_arc_16 (kg_C_69 _) hN.h1 kc_N (c_N_hasNode hN.h1) rfl rfl (Nat.le_of_ble_eq_true rfl) ⟨Nat.le_of_ble_eq_true rfl, Nat.le_of_ble_eq_true rfl⟩ ⟨Nat.le_of_ble_eq_true rfl, Nat.le_of_ble_eq_true rfl⟩ ?_
  refine z_topi (show zB (zIn y (nI n)) = 1 by rw [hz2]; rfl) ?_
  refine z_if_eq (tgt := 41) kd_C_arc_19 (by decide) (fun c19 => absurd c19 (by decide)) (fun c19 => ?_)
  refine z_iload_n kd_C_arc_22 3 rfl ?_
  refine z_S1 (As := [_]) kd_C_arc_23 (kg_C_73 _) (c_C_isWeight) rfl rfl (Nat.le_of_ble_eq_true rfl) ⟨Nat.le_of_ble_eq_true rfl, Nat.le_of_ble_eq_true rfl⟩ ⟨Nat.le_of_ble_eq_true rfl, Nat.le_of_ble_eq_true rfl⟩ ?_
  refine z_topi (show zB (zWt wt) = 0 by rw [hw]; rfl) ?_
  refine z_if_eq (tgt := 41) kd_C_arc_26 (by decide) (fun c26 => ?_) (fun c26 => absurd c26 (by decide))
  refine z_iconst (v := -1) kd_C_arc_41 (by decide) ?_
  exact z_iret kd_C_arc_42 rfl (Nat.le_of_ble_eq_true rfl) (Nat.le_of_ble_eq_true rfl) ⟨rfl, rfl, hC, Fr.rf⟩
set_option maxHeartbeats 4000000 in
set_option maxRecDepth 100000 in
theorem c_C_arc3 {l : Launch} {D : va_G} {tys : List (ClassId × FieldType)} {b N : Nat} {σ : Nat → Option va_E} {cI cJ cA : ClassId} (ht0 : tys[0]? = some (cI, .int)) (ht1 : tys[1]? = some (cJ, .long)) (ht3 : tys[3]? = some (cA, .array .long)) {cP : ClassId} {n a : Nat} {gf gt gw : Nat → Int32} {F T : Nat → Nat} {C K : Nat → Int64} (hC : CS b cI cJ cA cP σ n a gf gt gw F T C K) {x y wt : Int32} (hz : zIn x (nI n) = true) (hz2 : zIn y (nI n) = true) (hw : zWt wt = true) (h30 : a = 30) : zM l D kCl tys kNw b ky_C_arc (kh_C_arc :: zT) 20 700 0 0 [.ref (b + 0), .int x, .int y, .int wt] N σ ((fun oc N' σ' => oc = .returned (some (.int (-1))) ∧ N' = N ∧ CS b cI cJ cA cP σ' n a gf gt gw F T C K ∧ Fr 0 53 σ σ')) := by
  refine zM.of (by decide +kernel) rfl (Nat.le_of_ble_eq_true rfl) ?_
  refine z_pick (lv' := [(0, .ref (b + 0)), (1, .int x), (2, .int y), (3, .int wt)]) [0, 1, 2, 3] rfl ?_
  obtain ⟨hN, h26, h27, c0, ⟨u5, x5, g5, h5, h6⟩, ⟨s0, M0, hS0⟩, ⟨v19, w19, h19⟩, rs, us, h25, tr, ss, pe⟩ := id hC
  have hn := hN.hn
  have ha := hN.ha
  refine z_aload_n kd_C_arc_0 0 rfl ?_
  refine z_get kd_C_arc_1 (kf_C_10 _) c0 rfl ?_
  refine z_iload_n kd_C_arc_4 1 rfl ?_
  refine z_V1 (a := 1) (As := [_]) kd_C_arc_5 (kg_C_69 _) hN.h1 kc_N (c_N_hasNode hN.h1) rfl rfl (Nat.le_of_ble_eq_true rfl) ⟨Nat.le_of_ble_eq_true rfl, Nat.le_of_ble_eq_true rfl⟩ ⟨Nat.le_of_ble_eq_true rfl, Nat.le_of_ble_eq_true rfl⟩ ?_
  refine z_topi (show zB (zIn x (nI n)) = 1 by rw [hz]; rfl) ?_
  refine z_if_eq (tgt := 41) kd_C_arc_8 (by decide) (fun c8 => absurd c8 (by decide)) (fun c8 => ?_)
  refine z_aload_n kd_C_arc_11 0 rfl ?_
  refine z_get kd_C_arc_12 (kf_C_10 _) c0 rfl ?_
  refine z_iload_n kd_C_arc_15 2 rfl ?_
  refine z_V1 (a := 1) (As := [_]) kd_C_arc_16 (kg_C_69 _) hN.h1 kc_N (c_N_hasNode hN.h1) rfl rfl (Nat.le_of_ble_eq_true rfl) ⟨Nat.le_of_ble_eq_true rfl, Nat.le_of_ble_eq_true rfl⟩ ⟨Nat.le_of_ble_eq_true rfl, Nat.le_of_ble_eq_true rfl⟩ ?_
  refine z_topi (show zB (zIn y (nI n)) = 1 by rw [hz2]; rfl) ?_
  refine z_if_eq (tgt := 41) kd_C_arc_19 (by decide) (fun c19 => absurd c19 (by decide)) (fun c19 => ?_)
  refine z_iload_n kd_C_arc_22 3 rfl ?_
  refine z_S1 (As := [_]) kd_C_arc_23 (kg_C_73 _) (c_C_isWeight) rfl rfl (Nat.le_of_ble_eq_true rfl) ⟨Nat.le_of_ble_eq_true rfl, Nat.le_of_ble_eq_true rfl⟩ ⟨Nat.le_of_ble_eq_true rfl, Nat.le_of_ble_eq_true rfl⟩ ?_
  refine z_topi (show zB (zWt wt) = 1 by rw [hw]; rfl) ?_
  refine z_if_eq (tgt := 41) kd_C_arc_26 (by decide) (fun c26 => absurd c26 (by decide)) (fun c26 => ?_)
  refine z_aload_n kd_C_arc_29 0 rfl ?_
  refine z_get kd_C_arc_30 (kf_C_10 _) c0 rfl ?_
  refine z_get kd_C_arc_33 (kf_C_76 _) hN.h1 rfl ?_
  refine z_bipush (v := 30) kd_C_arc_36 (by decide +kernel) ?_
  refine z_icmp_lt (tgt := 43) kd_C_arc_38 (by decide) (fun c38 => ?_) (fun c38 => ?_)
  · exact absurd c38 (by rw [h30]; decide)
  · refine z_iconst (v := -1) kd_C_arc_41 (by decide) ?_
    exact z_iret kd_C_arc_42 rfl (Nat.le_of_ble_eq_true rfl) (Nat.le_of_ble_eq_true rfl) ⟨rfl, rfl, hC, Fr.rf⟩
set_option maxHeartbeats 4000000 in
set_option maxRecDepth 100000 in
theorem c_C_arc4 {l : Launch} {D : va_G} {tys : List (ClassId × FieldType)} {b N : Nat} {σ : Nat → Option va_E} {cI cJ cA : ClassId} (ht0 : tys[0]? = some (cI, .int)) (ht1 : tys[1]? = some (cJ, .long)) (ht3 : tys[3]? = some (cA, .array .long)) {cP : ClassId} {n a : Nat} {gf gt gw : Nat → Int32} {F T : Nat → Nat} {C K : Nat → Int64} (hC : CS b cI cJ cA cP σ n a gf gt gw F T C K) {u v : Nat} {wt : Int32} (hu : u < n) (hv : v < n) (hz : zIn (nI u) (nI n) = true) (hz2 : zIn (nI v) (nI n) = true) (hw : zWt wt = true) (h30 : a < 30) : zM l D kCl tys kNw b ky_C_arc (kh_C_arc :: zT) 20 700 0 0 [.ref (b + 0), .int (nI u), .int (nI v), .int wt] N σ ((fun oc N' σ' => oc = .returned (some (.int (nI a))) ∧ N' = N ∧ CS b cI cJ cA cP σ' n (a + 1) (upd gf a (nI u)) (upd gt a (nI v)) (upd gw a wt) (updN F a u) (updN T a v) C K ∧ Fr 0 53 σ σ')) := by
  refine zM.of (by decide +kernel) rfl (Nat.le_of_ble_eq_true rfl) ?_
  refine z_pick (lv' := [(0, .ref (b + 0)), (1, .int (nI u)), (2, .int (nI v)), (3, .int wt)]) [0, 1, 2, 3] rfl ?_
  obtain ⟨hN, h26, h27, c0, ⟨u5, x5, g5, h5, h6⟩, ⟨s0, M0, hS0⟩, ⟨v19, w19, h19⟩, rs, us, h25, tr, ss, pe⟩ := id hC
  have hn := hN.hn
  have ha := hN.ha
  refine z_aload_n kd_C_arc_0 0 rfl ?_
  refine z_get kd_C_arc_1 (kf_C_10 _) c0 rfl ?_
  refine z_iload_n kd_C_arc_4 1 rfl ?_
  refine z_V1 (a := 1) (As := [_]) kd_C_arc_5 (kg_C_69 _) hN.h1 kc_N (c_N_hasNode hN.h1) rfl rfl (Nat.le_of_ble_eq_true rfl) ⟨Nat.le_of_ble_eq_true rfl, Nat.le_of_ble_eq_true rfl⟩ ⟨Nat.le_of_ble_eq_true rfl, Nat.le_of_ble_eq_true rfl⟩ ?_
  refine z_topi (show zB (zIn (nI u) (nI n)) = 1 by rw [hz]; rfl) ?_
  refine z_if_eq (tgt := 41) kd_C_arc_8 (by decide) (fun c8 => absurd c8 (by decide)) (fun c8 => ?_)
  refine z_aload_n kd_C_arc_11 0 rfl ?_
  refine z_get kd_C_arc_12 (kf_C_10 _) c0 rfl ?_
  refine z_iload_n kd_C_arc_15 2 rfl ?_
  refine z_V1 (a := 1) (As := [_]) kd_C_arc_16 (kg_C_69 _) hN.h1 kc_N (c_N_hasNode hN.h1) rfl rfl (Nat.le_of_ble_eq_true rfl) ⟨Nat.le_of_ble_eq_true rfl, Nat.le_of_ble_eq_true rfl⟩ ⟨Nat.le_of_ble_eq_true rfl, Nat.le_of_ble_eq_true rfl⟩ ?_
  refine z_topi (show zB (zIn (nI v) (nI n)) = 1 by rw [hz2]; rfl) ?_
  refine z_if_eq (tgt := 41) kd_C_arc_19 (by decide) (fun c19 => absurd c19 (by decide)) (fun c19 => ?_)
  refine z_iload_n kd_C_arc_22 3 rfl ?_
  refine z_S1 (As := [_]) kd_C_arc_23 (kg_C_73 _) (c_C_isWeight) rfl rfl (Nat.le_of_ble_eq_true rfl) ⟨Nat.le_of_ble_eq_true rfl, Nat.le_of_ble_eq_true rfl⟩ ⟨Nat.le_of_ble_eq_true rfl, Nat.le_of_ble_eq_true rfl⟩ ?_
  refine z_topi (show zB (zWt wt) = 1 by rw [hw]; rfl) ?_
  refine z_if_eq (tgt := 41) kd_C_arc_26 (by decide) (fun c26 => absurd c26 (by decide)) (fun c26 => ?_)
  refine z_aload_n kd_C_arc_29 0 rfl ?_
  refine z_get kd_C_arc_30 (kf_C_10 _) c0 rfl ?_
  refine z_get kd_C_arc_33 (kf_C_76 _) hN.h1 rfl ?_
  refine z_bipush (v := 30) kd_C_arc_36 (by decide +kernel) ?_
  refine z_icmp_lt (tgt := 43) kd_C_arc_38 (by decide) (fun c38 => ?_) (fun c38 => ?_)
  · refine z_aload_n kd_C_arc_43 0 rfl ?_
    refine z_get kd_C_arc_44 (kf_C_10 _) c0 rfl ?_
    refine z_get kd_C_arc_47 (kf_C_79 _) hN.h1 rfl ?_
    refine z_aload_n kd_C_arc_50 0 rfl ?_
    refine z_get kd_C_arc_51 (kf_C_10 _) c0 rfl ?_
    refine z_get kd_C_arc_54 (kf_C_76 _) hN.h1 rfl ?_
    refine z_iload_n kd_C_arc_57 1 rfl ?_
    refine z_iastN (t0 := 0) kd_C_arc_58 (by assumption) hN.h2 (by omega) (by decide) ?_
    refine z_upd (fun σ_1 x2_1 q_1 => ?_)
    have x0_1 := (q_1 0 (by omega)).trans c0
    have x1_1 := (q_1 1 (by omega)).trans hN.h1
    have x3_1 := (q_1 3 (by omega)).trans hN.h3
    have x4_1 := (q_1 4 (by omega)).trans hN.h4
    refine z_aload_n kd_C_arc_59 0 rfl ?_
    refine z_get kd_C_arc_60 (kf_C_10 _) x0_1 rfl ?_
    refine z_get kd_C_arc_63 (kf_C_83 _) x1_1 rfl ?_
    refine z_aload_n kd_C_arc_66 0 rfl ?_
    refine z_get kd_C_arc_67 (kf_C_10 _) x0_1 rfl ?_
    refine z_get kd_C_arc_70 (kf_C_76 _) x1_1 rfl ?_
    refine z_iload_n kd_C_arc_73 2 rfl ?_
    refine z_iastN (t0 := 0) kd_C_arc_74 (by assumption) x3_1 (by omega) (by decide) ?_
    refine z_upd (fun σ_2 x3_2 q_2 => ?_)
    have x0_2 := (q_2 0 (by omega)).trans x0_1
    have x1_2 := (q_2 1 (by omega)).trans x1_1
    have x2_2 := (q_2 2 (by omega)).trans x2_1
    have x4_2 := (q_2 4 (by omega)).trans x4_1
    refine z_aload_n kd_C_arc_75 0 rfl ?_
    refine z_get kd_C_arc_76 (kf_C_10 _) x0_2 rfl ?_
    refine z_get kd_C_arc_79 (kf_C_86 _) x1_2 rfl ?_
    refine z_aload_n kd_C_arc_82 0 rfl ?_
    refine z_get kd_C_arc_83 (kf_C_10 _) x0_2 rfl ?_
    refine z_get kd_C_arc_86 (kf_C_76 _) x1_2 rfl ?_
    refine z_iload_n kd_C_arc_89 3 rfl ?_
    refine z_iastN (t0 := 0) kd_C_arc_90 (by assumption) x4_2 (by omega) (by decide) ?_
    refine z_upd (fun σ_3 x4_3 q_3 => ?_)
    have x0_3 := (q_3 0 (by omega)).trans x0_2
    have x1_3 := (q_3 1 (by omega)).trans x1_2
    have x2_3 := (q_3 2 (by omega)).trans x2_2
    have x3_3 := (q_3 3 (by omega)).trans x3_2
    refine z_aload_n kd_C_arc_91 0 rfl ?_
    refine z_get kd_C_arc_92 (kf_C_10 _) x0_3 rfl ?_
    refine z_dup kd_C_arc_95 rfl ?_
    refine z_get kd_C_arc_96 (kf_C_76 _) x1_3 rfl ?_
    refine z_dup_x1 kd_C_arc_99 rfl rfl ?_
    refine z_iconst (v := 1) kd_C_arc_100 (by decide) ?_
    refine z_iadd kd_C_arc_101 ?_
    refine z_topi (nI_add a 1) ?_
    refine z_putE (fs' := [_, _, _, _, _]) kd_C_arc_102 (kp_C_76 _) x1_3 (Nat.le_of_ble_eq_true rfl) rfl rfl rfl ?_
    refine z_upd (fun σ_4 x1_4 q_4 => ?_)
    have x0_4 := (q_4 0 (by omega)).trans x0_3
    have x2_4 := (q_4 2 (by omega)).trans x2_3
    have x3_4 := (q_4 3 (by omega)).trans x3_3
    have x4_4 := (q_4 4 (by omega)).trans x4_3
    exact z_iret kd_C_arc_105 rfl (Nat.le_of_ble_eq_true rfl) (Nat.le_of_ble_eq_true rfl) ⟨rfl, rfl, hC.r1 ⟨x1_4, x2_4, x3_4, x4_4, hn, by omega, arc_ft hN.hft hu hv⟩ (Fr.tr (Fr.tr (Fr.tr (Fr.tr Fr.rf (q_1.wide (by omega) (by omega))) (q_2.wide (by omega) (by omega))) (q_3.wide (by omega) (by omega))) (q_4.wide (by omega) (by omega))), Fr.wide (show Fr 1 4 σ _ from (Fr.tr (Fr.tr (Fr.tr (Fr.tr Fr.rf (q_1.wide (by omega) (by omega))) (q_2.wide (by omega) (by omega))) (q_3.wide (by omega) (by omega))) (q_4.wide (by omega) (by omega)))) (by omega) (by omega)⟩
  · exact absurd ((nI_ltI (b := 30) (by omega) (by omega)).mpr h30) c38
