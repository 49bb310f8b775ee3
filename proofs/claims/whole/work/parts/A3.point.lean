section ZS
variable {b : Nat} {cI cJ cA cP : ClassId} {σ σ' : Nat → Option va_E} {n a : Nat} {gf gt gw : Nat → Int32} {F T : Nat → Nat} {C K : Nat → Int64}
theorem CS.r30 (h : CS b cI cJ cA cP σ n a gf gt gw F T C K) (hP : PA b cI σ' 5) (hs : SS b cJ cP σ') (he : PE b cI σ') (q : F2 5 6 30 53 σ σ') : CS b cI cJ cA cP σ' n a gf gt gw F T C K := by
  obtain ⟨hN, h26, h27, c0, -, hG, ts, rs, us, h25, tr, -, -⟩ := h
  obtain ⟨_, qa, qb⟩ := q.two
  exact ⟨(hN.fr qa (by omega)).fr qb (by omega), (q 26 (by omega) (by omega)).trans h26, (q 27 (by omega) (by omega)).trans h27, (c0.fr qa (by omega)).fr qb (by omega), hP, (hG.fr qa (by omega)).fr qb (by omega), (ts.fr qa (by omega)).fr qb (by omega), (rs.fr qa (by omega)).fr qb (by omega), (us.fr qa (by omega)).fr qb (by omega), (q 25 (by omega) (by omega)).trans h25, (tr.fr qa (by omega)).fr qb (by omega), hs, he⟩
end ZS
set_option maxHeartbeats 4000000 in
set_option maxRecDepth 100000 in
theorem c_C_point {l : Launch} {D : va_G} {tys : List (ClassId × FieldType)} {b N : Nat} {σ : Nat → Option va_E} {cI cJ cA : ClassId} (ht0 : tys[0]? = some (cI, .int)) (ht1 : tys[1]? = some (cJ, .long)) (ht3 : tys[3]? = some (cA, .array .long)) {cP : ClassId} {n a : Nat} {gf gt gw : Nat → Int32} {F T : Nat → Nat} {C K : Nat → Int64} (hC : CS b cI cJ cA cP σ n a gf gt gw F T C K) (ht4 : tys[4]? = some (cP, .object "TreeCounts$Parts")) (h14 : a ≤ 14) (hf1 : 0 < n → 1 ≤ (ftV n a F T).2.1) (ho : sfO F T (ftV n a F T).2.1 a 0 n (fun v => v)) {x y : Int64} : zM l D kCl tys kNw b ky_C_point (kh_C_point :: zT) 20 700 0 0 [.ref (b + 0), .long x, .long y] N σ ((fun oc N' σ' => oc = .returned (some (.long (ptV n a F T x y))) ∧ N' = N ∧ CS b cI cJ cA cP σ' n a gf gt gw F T C K ∧ Fr 0 53 σ σ')) := by
  refine zM.of (by decide +kernel) rfl (Nat.le_of_ble_eq_true rfl) ?_
  refine z_pick (lv' := [(0, .ref (b + 0)), (1, .long x), (3, .long y)]) [0, 1, 2] rfl ?_
  obtain ⟨hN, h26, h27, c0, ⟨u5, x5, g5, h5, h6⟩, ⟨s0, M0, hS0⟩, ⟨v19, w19, h19⟩, rs, us, h25, tr, ss, pe⟩ := id hC
  have hn := hN.hn
  have ha := hN.ha
  obtain ⟨⟨v30, h30⟩, hJ, ⟨g32, h32⟩, ⟨g33, h33⟩⟩ := id ss
  refine z_aload_n kd_C_point_0 0 rfl ?_
  refine z_get kd_C_point_1 (kf_C_10 _) c0 rfl ?_
  refine z_get kd_C_point_4 (kf_C_76 _) hN.h1 rfl ?_
  refine z_bipush (v := 14) kd_C_point_7 (by decide +kernel) ?_
  refine z_icmp_le (tgt := 22) kd_C_point_9 (by decide) (fun c9 => ?_) (fun c9 => ?_)
  · refine z_aload_n kd_C_point_22 0 rfl ?_
    refine z_get kd_C_point_23 (kf_C_61 _) c0 rfl ?_
    refine z_lload_n kd_C_point_26 1 rfl ?_
    refine z_lload_n kd_C_point_27 2 rfl ?_
    refine z_callV (a := 30) (As := [_, _]) kd_C_point_28 (kg_C_175 _) h30 kc_S (c_S_sumAt ht0 ht1 ht3 ht4 hN h14 ⟨_, _, _, h5, h6⟩ pe h30 hJ h32 h33 hf1 ho) rfl rfl (Nat.le_of_ble_eq_true rfl) ⟨Nat.le_of_ble_eq_true rfl, Nat.le_of_ble_eq_true rfl⟩ ⟨Nat.le_of_ble_eq_true rfl, Nat.le_of_ble_eq_true rfl⟩ ?_
    rintro _ _ σ1 ⟨hv, rfl, hP1, hE1, hs1a, hs1b, hs1c, hs1d, q1⟩
    cases hv
    refine z_eq (st' := [_]) rfl rfl rfl rfl ?_
    exact z_lret kd_C_point_31 rfl (Nat.le_of_ble_eq_true rfl) (Nat.le_of_ble_eq_true rfl) ⟨rfl, rfl, hC.r30 hP1 ⟨hs1a, hs1b, hs1c, hs1d⟩ hE1 q1, F2.all q1 (by omega) (by omega)⟩
  · exact absurd ((nI_leI (a := a) (b := 14) (by omega) (by omega)).mpr h14) c9
