set_option maxHeartbeats 4000000 in
set_option maxRecDepth 100000 in
theorem c_C_toldN {l : Launch} {D : va_G} {tys : List (ClassId × FieldType)} {b N : Nat} {σ : Nat → Option va_E} {cI cJ cA : ClassId} (ht0 : tys[0]? = some (cI, .int)) (ht1 : tys[1]? = some (cJ, .long)) (ht3 : tys[3]? = some (cA, .array .long)) {cP : ClassId} {n a : Nat} {gf gt gw : Nat → Int32} {F T : Nat → Nat} {C K : Nat → Int64} (hC : CS b cI cJ cA cP σ n a gf gt gw F T C K) {x : Int32} (hx : x.toInt < 0 ∨ 5 < x.toInt) : zM l D kCl tys kNw b ky_C_told (kh_C_told :: zT) 20 700 0 0 [.ref (b + 0), .int x] N σ ((fun oc N' σ' => oc = .returned (some (.int (-1))) ∧ N' = N ∧ CS b cI cJ cA cP σ' n a gf gt gw F T C K ∧ Fr 0 53 σ σ')) := by
  refine zM.of (by decide +kernel) rfl (Nat.le_of_ble_eq_true rfl) ?_
  refine z_pick (lv' := [(0, .ref (b + 0)), (1, .int x)]) [0, 1] rfl ?_
  obtain ⟨hN, h26, h27, c0, ⟨u5, x5, g5, h5, h6⟩, ⟨s0, M0, hS0⟩, ⟨v19, w19, h19⟩, rs, us, h25, tr, ss, pe⟩ := id hC
  have hn := hN.hn
  have ha := hN.ha
  refine z_iload_n kd_C_told_0 1 rfl ?_
  refine z_tableOut (tgt := 103) kd_C_told_1 hx (by decide) ?_
  refine z_iconst (v := -1) kd_C_told_103 (by decide) ?_
  exact z_iret kd_C_told_104 rfl (Nat.le_of_ble_eq_true rfl) (Nat.le_of_ble_eq_true rfl) ⟨rfl, rfl, hC, Fr.rf⟩
