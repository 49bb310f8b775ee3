section ZK
variable {l : Launch} {D : va_G} {cl : List vw_C} {tys : List (ClassId × FieldType)} {Ts Nw : List Cond} {own nm : String} {cc : ByteArray} {nL : Nat} {ret : Option FieldType} {R : Room} {b : Nat} {Fi : List Frame → Array Value → State → State → Prop} {k n N : Nat} {σ : Nat → Option va_E} {pc : Nat} {lv : List (Nat × Value)} {st : List Value}
/-- a row copied onto another one's beginning -/
theorem z_copyi {a0 a1 len0 len1 cnt index : Nat} {cI : ClassId} {f g : Nat → Int32} (hd : decode cc pc = .ok (.invokestatic index, 3)) (h1 : Cond.methodLink own index arraycopyName ∈ Ts) (h2 : Cond.native arraycopyName ∈ Ts) (h3 : Cond.static arraycopyName ∈ Ts) (h4 : Cond.initialized "java/lang/System" ∈ Ts) (ht : tys[0]? = some (cI, .int)) (hσ0 : σ a0 = some (.inl (cI, len0, .inl f))) (hσ1 : σ a1 = some (.inl (cI, len1, .inl g))) (hc0 : cnt ≤ len0) (hc1 : cnt ≤ len1) (hc : cnt < 2 ^ 31) (hR : 1 ≤ R.frames) (hW : (st.map fun v => v.category).sum + (nativeFrameWords "java/lang/System" "arraycopy" 5 + 11) ≤ R.locals) (kk : Z l D cl tys Ts Nw own nm cc nL ret R b Fi k n N (zUp σ a1 (.inl (cI, len1, .inl (va_cpy f g 0 0 cnt)))) (pc + 3) lv st) : Z l D cl tys Ts Nw own nm cc nL ret R b Fi k n N σ pc lv (.int (nI cnt) :: .int 0 :: .ref (b + a1) :: .int 0 :: .ref (b + a0) :: st) := by
  intro p e s m args below meth c H locs ls hF hP hS hl
  obtain ⟨hx, hb, hml, hr, hlocks, hown, hts, hK, hNw, hname, hbs⟩ := id hF
  intro T hT X
  have q0 : H[b + a0]? = some (vp_cell cI (len0, .inl f)) := hP.2 a0 _ hσ0
  have q1 : H[b + a1]? = some (vp_cell cI (len1, .inl g)) := hP.2 a1 _ hσ1
  obtain ⟨-, k0, hk0, cm0, hkk0⟩ := (hK.2 0 _ ht).1 len0 (fun j => .int (f j))
  obtain ⟨-, k1, hk1, cm1, hkk1⟩ := (hK.2 0 _ ht).1 len1 (fun j => .int (g j))
  have ec : (nI cnt).toNatClampNeg = cnt := nI_clamp hc
  have ei : (nI cnt).toInt = (cnt : Int) := by
    have h0 : (0 : Int32) ≤ nI cnt := nI_le (a := 0) (Nat.zero_le cnt) hc
    have h5 : (0 : Int) ≤ (nI cnt).toInt := Int32.le_iff_toInt_le.mp h0
    have h6 : (nI cnt).toInt.toNat = cnt := ec
    omega
  have e0 : (0 : Int32).toNatClampNeg = 0 := rfl
  obtain ⟨vm', X', step⟩ := X.arraycopy hx hown (hts _ h1) (hts _ h2) (hts _ h3) (hts _ h4) (src := b + a0) (dst := b + a1) (cs := vp_cell cI (len0, .inl f)) (cd := vp_cell cI (len1, .inl g)) (srcPos := 0) (destPos := 0) (n := nI cnt) (by rw [hT]; exact q0) (by rw [hT]; exact q1)
    (fun _ h => by cases h) (fun _ h => by cases h) (fun h => by cases h) (fun h => by cases h) hk0 hk1 hkk0 hkk1 (by simp [refKind]) (by decide) (by decide) (fun q => absurd (nI_le (a := 0) (Nat.zero_le cnt) hc) (Int32.not_le.mpr q))
    (by rw [ei]; show ¬ _ > ((arrV cI len0 (fun j => .int (f j))).slots.size : Int); rw [arrV_size]; show ¬ (0 : Int) + _ > _; omega)
    (by rw [ei]; show ¬ _ > ((arrV cI len1 (fun j => .int (g j))).slots.size : Int); rw [arrV_size]; show ¬ (0 : Int) + _ > _; omega)
    (fun vm₁ _ i hi => by
      have hi' : i < cnt := by rw [ec] at hi; exact hi
      have e5 : (vp_cell cI (len0, .inl f)).slots.getD ((0 : Int32).toNatClampNeg + i) .null = .int (f ((0 : Int32).toNatClampNeg + i)) := by
        show (arrV cI len0 (fun j => .int (f j))).slots.getD _ _ = _
        rw [Array.getD_eq_getD_getElem?, arrV_read _ _ (by rw [e0]; omega)]
        rfl
      rw [e5]
      exact ⟨rfl, trivial⟩)
    (g := F0 m pc ls (.int (nI cnt) :: .int 0 :: .ref (b + a1) :: .int 0 :: .ref (b + a0) :: st)) rfl (by rw [hml, hl.1]) (rest := st) rfl (by rw [hb]; exact hd) hR (by show 2 * 0 + _ + _ ≤ _; omega)
  have e1 : copied (vp_cell cI (len0, .inl f)) (vp_cell cI (len1, .inl g)) 0 0 (nI cnt) = vp_cell cI (len1, .inl (va_cpy f g 0 0 cnt)) := by
    have h9 := va_copied (sp := 0) (dp := 0) (n := cnt) (fun z : Int32 => Value.int z) cI cI f g (n0 := len0) (n1 := len1) (by omega)
    show (arrV cI len1 (fun j => .int (g j))).storeRun (0 : Int32).toNatClampNeg ((arrV cI len0 (fun j => .int (f j))).stretch (0 : Int32).toNatClampNeg (nI cnt).toNatClampNeg) = _
    rw [ec]
    exact h9
  rw [e1] at X' step
  have hlt : b + a1 < H.size := (Array.getElem?_eq_some_iff.mp q1).1
  have oq : ∀ q : Nat, q ≠ b + a1 → (H.setIfInBounds (b + a1) (vp_cell cI (len1, .inl (va_cpy f g 0 0 cnt))))[q]? = H[q]? := fun q hq => by simp [Array.getElem?_setIfInBounds, Ne.symm hq]
  have hz : (H.setIfInBounds (b + a1) (vp_cell cI (len1, .inl (va_cpy f g 0 0 cnt)))).size = H.size := by simp
  obtain ⟨t, u1, u2⟩ := kk p e s m args below meth c _ _ ls hF (hP.set (x0 := .inl (cI, len1, .inl g)) hz oq (by show (H.setIfInBounds (b + a1) _)[b + a1]? = some _; simp [Array.getElem?_setIfInBounds, hlt])) ⟨by rw [hz]; exact hS.1, fun q g1 g2 => by
      rw [oq q (fun e => g2 (by rw [e]; exact Nat.le_add_right b a1))]
      exact hS.2.1 q g1 g2, fun q hq => by
      rcases List.mem_append.mp hq with h | h
      · exact hS.2.2 q h
      · obtain ⟨z, -, hz⟩ := List.mem_map.mp h
        rw [← hz]
        exact Nat.le_add_right b a1⟩ hl _ (by rw [← hT]; rfl) X'
  exact ⟨t, step t u1, u2⟩
end ZK
