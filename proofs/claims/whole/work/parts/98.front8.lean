section ZS
variable {b lo hi lo2 hi2 : Nat} {cI cJ cA cP : ClassId} {σ σ' : Nat → Option va_E} {n a n' a' : Nat} {gf gt gw gf' gt' gw' : Nat → Int32} {F T F' T' : Nat → Nat} {C K C' K' : Nat → Int64}
theorem CS.r1 (h : CS b cI cJ cA cP σ n a gf gt gw F T C K) (hN : NS b cI σ' n' a' gf' gt' gw' F' T') (q : Fr 1 4 σ σ') : CS b cI cJ cA cP σ' n' a' gf' gt' gw' F' T' C K := by
  obtain ⟨-, h26, h27, c0, hP, hG, ts, rs, us, h25, tr, ss, pe⟩ := h
  exact ⟨hN, (q 26 (by omega)).trans h26, (q 27 (by omega)).trans h27, c0.fr q (by omega), hP.fr q (by omega), hG.fr q (by omega), ts.fr q (by omega), rs.fr q (by omega), us.fr q (by omega), (q 25 (by omega)).trans h25, tr.fr q (by omega), ss.fr q (by omega), pe.fr q (by omega)⟩
end ZS
theorem c_C_nodeS {l : Launch} {D : va_G} {tys : List (ClassId × FieldType)} {b N : Nat} {σ : Nat → Option va_E} {cI cJ cA : ClassId} (ht0 : tys[0]? = some (cI, .int)) (ht1 : tys[1]? = some (cJ, .long)) (ht3 : tys[3]? = some (cA, .array .long)) {cP : ClassId} {n a : Nat} {gf gt gw : Nat → Int32} {F T : Nat → Nat} {C K : Nat → Int64} (hC : CS b cI cJ cA cP σ n a gf gt gw F T C K) (hc : n < 10) : zM l D kCl tys kNw b ky_C_node (kh_C_node :: zT) 0 0 0 0 [.ref (b + 0)] N σ (fun oc N' σ' => oc = .returned (some (.int (nI n))) ∧ N' = N ∧ CS b cI cJ cA cP σ' (n + 1) a gf gt gw F T C K ∧ Fr 0 53 σ σ') := by
  obtain ⟨hN, h26, h27, c0, -⟩ := id hC
  refine zM.weak (c_C_node c0 hN.h1 ((nI_ltI (b := 10) (by omega) (by omega)).mpr hc)) ?_
  rintro oc N' σ' ⟨rfl, rfl, rfl⟩
  refine ⟨rfl, rfl, hC.r1 ⟨?_, (zUp_n (by decide)).trans hN.h2, (zUp_n (by decide)).trans hN.h3, (zUp_n (by decide)).trans hN.h4, by omega, hN.ha, fun k hk => ?_⟩ (Fr.rf.up (by omega) (by omega)), Fr.rf.up (by omega) (by omega)⟩
  · rw [zUp_s, nI_1]
  · obtain ⟨e1, l1, e2, l2⟩ := hN.hft k hk
    exact ⟨e1, by omega, e2, by omega⟩
theorem c_C_nodeF {l : Launch} {D : va_G} {tys : List (ClassId × FieldType)} {b N : Nat} {σ : Nat → Option va_E} {cI cJ cA : ClassId} (ht0 : tys[0]? = some (cI, .int)) (ht1 : tys[1]? = some (cJ, .long)) (ht3 : tys[3]? = some (cA, .array .long)) {cP : ClassId} {n a : Nat} {gf gt gw : Nat → Int32} {F T : Nat → Nat} {C K : Nat → Int64} (hC : CS b cI cJ cA cP σ n a gf gt gw F T C K) (hc : n = 10) : zM l D kCl tys kNw b ky_C_node (kh_C_node :: zT) 0 0 0 0 [.ref (b + 0)] N σ (fun oc N' σ' => oc = .returned (some (.int (-1))) ∧ N' = N ∧ CS b cI cJ cA cP σ' n a gf gt gw F T C K ∧ Fr 0 53 σ σ') := by
  obtain ⟨hN, h26, h27, c0, -⟩ := id hC
  refine zM.weak (c_C_node_f c0 hN.h1 (fun q => absurd ((nI_ltI (b := 10) (by have := hN.hn; omega) (by omega)).mp q) (by omega))) ?_
  rintro oc N' σ' ⟨rfl, rfl, rfl⟩
  exact ⟨rfl, rfl, hC, Fr.rf⟩
