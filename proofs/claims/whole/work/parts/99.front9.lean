theorem c_C_dropS {l : Launch} {D : va_G} {tys : List (ClassId × FieldType)} {b N : Nat} {σ : Nat → Option va_E} {cI cJ cA : ClassId} (ht0 : tys[0]? = some (cI, .int)) (ht1 : tys[1]? = some (cJ, .long)) (ht3 : tys[3]? = some (cA, .array .long)) {cP : ClassId} {n a : Nat} {gf gt gw : Nat → Int32} {F T : Nat → Nat} {C K : Nat → Int64} (hC : CS b cI cJ cA cP σ n a gf gt gw F T C K) (hc : 0 < a) : zM l D kCl tys kNw b ky_C_drop (kh_C_drop :: zT) 0 0 0 0 [.ref (b + 0)] N σ (fun oc N' σ' => oc = .returned (some (.int 1)) ∧ N' = N ∧ CS b cI cJ cA cP σ' n (a - 1) gf gt gw F T C K ∧ Fr 0 53 σ σ') := by
  obtain ⟨hN, h26, h27, c0, -⟩ := id hC
  have ha := hN.ha
  refine zM.weak (c_C_drop c0 hN.h1 (nI_ne0 hc (by omega))) ?_
  rintro oc N' σ' ⟨rfl, rfl, rfl⟩
  refine ⟨rfl, rfl, hC.r1 ⟨?_, (zUp_n (by decide)).trans hN.h2, (zUp_n (by decide)).trans hN.h3, (zUp_n (by decide)).trans hN.h4, hN.hn, by omega, fun k hk => hN.hft k (by omega)⟩ (Fr.rf.up (by omega) (by omega)), Fr.rf.up (by omega) (by omega)⟩
  rw [zUp_s, show nI a - 1 = nI (a - 1) from pk_sub (a := a) (b := 1) (by omega)]
theorem c_C_dropF {l : Launch} {D : va_G} {tys : List (ClassId × FieldType)} {b N : Nat} {σ : Nat → Option va_E} {cI cJ cA : ClassId} (ht0 : tys[0]? = some (cI, .int)) (ht1 : tys[1]? = some (cJ, .long)) (ht3 : tys[3]? = some (cA, .array .long)) {cP : ClassId} {n a : Nat} {gf gt gw : Nat → Int32} {F T : Nat → Nat} {C K : Nat → Int64} (hC : CS b cI cJ cA cP σ n a gf gt gw F T C K) (hc : a = 0) : zM l D kCl tys kNw b ky_C_drop (kh_C_drop :: zT) 0 0 0 0 [.ref (b + 0)] N σ (fun oc N' σ' => oc = .returned (some (.int 0)) ∧ N' = N ∧ CS b cI cJ cA cP σ' n a gf gt gw F T C K ∧ Fr 0 53 σ σ') := by
  obtain ⟨hN, h26, h27, c0, -⟩ := id hC
  refine zM.weak (c_C_drop_f c0 hN.h1 (by rw [hc]; rfl)) ?_
  rintro oc N' σ' ⟨rfl, rfl, rfl⟩
  exact ⟨rfl, rfl, hC, Fr.rf⟩
