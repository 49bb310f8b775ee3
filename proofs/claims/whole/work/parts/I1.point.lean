/-- the one class that is thrown -/
def xISE : String := "java/lang/IllegalStateException"
set_option maxRecDepth 100000 in
set_option maxHeartbeats 4000000 in
theorem x_atoms : ∀ w ∈ Bundle.ownAtoms "TreeCounts" 172 xISE ["java/lang/RuntimeException", "java/lang/Exception"], w ∈ zT ∨ w ∈ xWs := List.forall_mem_cons.mpr ⟨Or.inl (zin 61 rfl rfl), List.forall_mem_cons.mpr ⟨Or.inl (zin 691 rfl rfl), List.forall_mem_cons.mpr ⟨Or.inl (zin 700 rfl rfl), List.forall_mem_cons.mpr ⟨Or.inl (zin 702 rfl rfl), List.forall_mem_cons.mpr ⟨Or.inl (zin 705 rfl rfl), List.forall_mem_cons.mpr ⟨Or.inl (zin 707 rfl rfl), List.forall_mem_cons.mpr ⟨Or.inl (zin 692 rfl rfl), List.forall_mem_cons.mpr ⟨Or.inl (zin 693 rfl rfl), List.forall_mem_cons.mpr ⟨Or.inl (zin 73 rfl rfl), List.forall_mem_cons.mpr ⟨Or.inl (zin 74 rfl rfl), List.forall_mem_cons.mpr ⟨Or.inl (zin 694 rfl rfl), List.forall_mem_cons.mpr ⟨Or.inl (zin 699 rfl rfl), List.forall_mem_cons.mpr ⟨Or.inl (zin 703 rfl rfl), List.forall_mem_cons.mpr ⟨Or.inl (zin 723 rfl rfl), List.forall_mem_cons.mpr ⟨Or.inl (zin 681 rfl rfl), List.forall_mem_cons.mpr ⟨Or.inl (zin 724 rfl rfl), List.forall_mem_cons.mpr ⟨Or.inl (zin 683 rfl rfl), List.forall_mem_cons.mpr ⟨Or.inl (zin 725 rfl rfl), List.forall_mem_cons.mpr ⟨Or.inl (zin 685 rfl rfl), List.forall_mem_cons.mpr ⟨Or.inl (zin 695 rfl rfl), List.forall_mem_cons.mpr ⟨Or.inr (List.mem_of_getElem? (i := 0) rfl), List.forall_mem_cons.mpr ⟨Or.inl (zin 697 rfl rfl), List.forall_mem_cons.mpr ⟨Or.inr (List.mem_of_getElem? (i := 1) rfl), List.forall_mem_cons.mpr ⟨Or.inl (zin 687 rfl rfl), List.forall_mem_cons.mpr ⟨Or.inl (zin 719 rfl rfl), List.forall_mem_cons.mpr ⟨Or.inl (zin 720 rfl rfl), List.forall_mem_cons.mpr ⟨Or.inl (zin 722 rfl rfl), List.forall_mem_cons.mpr ⟨Or.inl (zin 687 rfl rfl), List.forall_mem_cons.mpr ⟨Or.inl (zin 710 rfl rfl), List.forall_mem_cons.mpr ⟨Or.inl (zin 711 rfl rfl), List.forall_mem_cons.mpr ⟨Or.inl (zin 712 rfl rfl), List.forall_mem_cons.mpr ⟨Or.inl (zin 713 rfl rfl), List.forall_mem_cons.mpr ⟨Or.inr (List.mem_of_getElem? (i := 5) rfl), List.forall_mem_cons.mpr ⟨Or.inl (zin 713 rfl rfl), List.forall_mem_cons.mpr ⟨Or.inl (zin 714 rfl rfl), List.forall_mem_cons.mpr ⟨Or.inl (zin 715 rfl rfl), List.forall_mem_cons.mpr ⟨Or.inl (zin 716 rfl rfl), List.forall_mem_cons.mpr ⟨Or.inr (List.mem_of_getElem? (i := 6) rfl), List.forall_mem_cons.mpr ⟨Or.inl (zin 716 rfl rfl), List.forall_mem_cons.mpr ⟨Or.inl (zin 717 rfl rfl), List.forall_mem_cons.mpr ⟨Or.inl (zin 718 rfl rfl), List.forall_mem_cons.mpr ⟨Or.inl (zin 719 rfl rfl), List.forall_mem_cons.mpr ⟨Or.inr (List.mem_of_getElem? (i := 7) rfl), List.forall_mem_cons.mpr ⟨Or.inl (zin 709 rfl rfl), List.forall_mem_cons.mpr ⟨Or.inl (zin 670 rfl rfl), List.forall_mem_cons.mpr ⟨Or.inr (List.mem_of_getElem? (i := 4) rfl), List.forall_mem_cons.mpr ⟨Or.inl (zin 678 rfl rfl), List.forall_mem_cons.mpr ⟨Or.inl (zin 679 rfl rfl), List.forall_mem_cons.mpr ⟨Or.inl (zin 680 rfl rfl), List.forall_mem_cons.mpr ⟨Or.inl (zin 682 rfl rfl), List.forall_mem_cons.mpr ⟨Or.inl (zin 684 rfl rfl), List.forall_mem_cons.mpr ⟨Or.inl (zin 686 rfl rfl), List.forall_mem_cons.mpr ⟨Or.inr (List.mem_of_getElem? (i := 2) rfl), List.forall_mem_cons.mpr ⟨Or.inr (List.mem_of_getElem? (i := 3) rfl), List.forall_mem_cons.mpr ⟨Or.inl (zin 690 rfl rfl), List.forall_mem_cons.mpr ⟨Or.inl (zin 689 rfl rfl), List.forall_mem_cons.mpr ⟨Or.inl (zin 688 rfl rfl), fun _ h => absurd h List.not_mem_nil⟩⟩⟩⟩⟩⟩⟩⟩⟩⟩⟩⟩⟩⟩⟩⟩⟩⟩⟩⟩⟩⟩⟩⟩⟩⟩⟩⟩⟩⟩⟩⟩⟩⟩⟩⟩⟩⟩⟩⟩⟩⟩⟩⟩⟩⟩⟩⟩⟩⟩⟩⟩⟩⟩⟩⟩⟩
set_option maxRecDepth 100000 in
set_option maxHeartbeats 4000000 in
/-- point, with more than 14 arcs: it throws -/
theorem x_C_point {l : Launch} (hfl : l.flags = flags0) {D : va_G} {tys : List (ClassId × FieldType)} {b N : Nat} {σ : Nat → Option va_E} {cI cJ cA cP : ClassId} {n a : Nat} {gf gt gw : Nat → Int32} {F T : Nat → Nat} {C K : Nat → Int64} (hC : CS b cI cJ cA cP σ n a gf gt gw F T C K) (h14 : 14 < a) {x y : Int64} : xM l D kCl tys kNw (XL b) b ky_C_point (kh_C_point :: zT) 20 700 [.ref (b + 0), .long x, .long y] N σ xISE := by
  obtain ⟨hN, -, -, c0, -⟩ := id hC
  have ha := hN.ha
  refine MetFree.of_bodyS (code := kb_C_point) (maxLocals := 5) (ret := some .long) (by decide +kernel) ?_ ?_
  · intro args s m h hn
    obtain ⟨meth, c, h1, h2, h3, h4, h5, h6, -, -⟩ := Cond.code_spec hn (atoms_spec (ws := kh_C_point :: zT) h _ List.mem_cons_self)
    exact ⟨meth, c, h1, h2, h3, h4, h5, h6⟩
  · intro p e s m args below meth c s₁ B hml hv _
    obtain ⟨rfl, ⟨hP, hK, hNw⟩, hX⟩ := hv
    have hx := B.exec
    have hb := B.bytes
    have hts := atoms_spec (ws := kh_C_point :: zT) B.pre
    have hown : s.vm.findClass "TreeCounts" = some m.cls := findClass_of_methodNamed B.named
    have hlocks := B.notSynchronized
    have hl := lv_entry [.ref (b + 0), .long x, .long y] (n := 5) (Nat.le_of_ble_eq_true rfl)
    have hh0 : s₁.heap = s.heap := by rw [B.state]; rfl
    have X₀ := Stand.of_body B
    have hno : c.exceptionTable.isEmpty = true := B.noHandlers (hts _ List.mem_cons_self)
    rw [lg_entry_eq]
    generalize (lg_sl [.ref (b + 0), .long x, .long y] ++ List.replicate (5 - (lg_sl [.ref (b + 0), .long x, .long y]).length) Slot.unset).toArray = ls at hl ⊢
    have hsz := hP.1
    have hwd : ∀ w ∈ zT, w.before [.ref (b + 0), .long x, .long y].toArray s = true := fun w hw => hts w (List.mem_cons_of_mem _ hw)
    obtain ⟨cX, kX, hfc, hkX, -⟩ := Cond.instantiable_spec (hwd (.instantiable xISE 6) (zin 670 rfl rfl))
    have K : W p l e { frames := 20, cells := 1, slots := 6, locals := 700 } s m [.ref (b + 0), .long x, .long y].toArray below meth c s.heap [] 0 0 (fun t => ∃ o, t.status = .running ∧ Ended t below o ∧ xQ D kCl b N σ xISE [.ref (b + 0), .long x, .long y].toArray s o t) (F0 m 0 ls []) := by
      refine lv_aload_n hx hb kd_C_point_0 rfl (lv_at hl 0 rfl) ?_
      obtain ⟨C1, T1, N1, hc1, hin1, hlink1, hk1⟩ := kf_C_10 kh_C_point
      refine va_get hx hb hts hin1 hown hK (hP.one c0) 0 rfl hc1 0 hk1 (hts _ hlink1) (fun _ h => h) rfl kd_C_point_1 ?_
      obtain ⟨C2, T2, N2, hc2, hin2, hlink2, hk2⟩ := kf_C_76 kh_C_point
      refine va_get hx hb hts hin2 hown hK (hP.one hN.h1) 0 rfl hc2 1 hk2 (hts _ hlink2) (fun _ h => h) rfl kd_C_point_4 ?_
      refine lv_bipush hx hb kd_C_point_7 (v := 14) (by decide +kernel) ?_
      refine lv_icmp_le (tgt := 22) hx hb kd_C_point_9 (by decide) (fun c9 => ?_) (fun _ => ?_)
      · exact absurd c9 (Int32.not_le.mpr ((nI_ltI (a := 14) (by omega) (by omega)).mpr h14))
      refine W.newcK hx hb hown (hwd (.classLink "TreeCounts" 168 xISE) (zin 669 rfl rfl)) (hwd (.instantiable xISE 6) (zin 670 rfl rfl)) (hwd (.initialized xISE) (zin 64 rfl rfl)) rfl kd_C_point_12 (Nat.le_refl 1) (Nat.le_refl 6) hfc hsz fun H1 kC hkC e1 z1 o1 => ?_
      refine lv_dup hx hb kd_C_point_15 rfl ?_
      obtain ⟨s0, a0, -, hstr, -, hW0, -⟩ := id hX
      refine w_ldcS hx hb (own := "TreeCounts") hown hW0 hstr kd_C_point_16 fun q => ?_
      intro T hT X
      have hat : ∀ w ∈ Bundle.ownAtoms "TreeCounts" 172 xISE ["java/lang/RuntimeException", "java/lang/Exception"], w.before [.ref (b + 0), .long x, .long y].toArray s = true := by
        intro w hw
        have hw2 : w ∈ zT ∨ w ∈ xWs := x_atoms w hw
        rcases hw2 with h | h
        · exact hwd w h
        · exact hX.words _ w h
      obtain ⟨U, st, hrun, hend, hW, hsame, ce, hce, hoc⟩ := X.ctorThrowS hx (Launch.traces_off hfl X.admits) hown (by decide +kernel) (by decide +kernel) hat (fun x hx => by cases hx) hfc hkX (a := b + N)
        (by rw [hT]; cases Option.some.inj (hkX.symm.trans hkC); exact e1) (by rw [hsz]; exact Nat.le_refl _) (msg := .ref q) rfl (g := F0 m 18 ls [.ref q, .ref (b + N), .ref (b + N)]) rfl (by rw [hml]; exact hl.1) rfl rfl (rest := []) rfl
        (by rw [hb]; exact kd_C_point_18) (by rw [hb]; exact kd_C_point_21) (fun z hz => by
          have h0 : c.exceptionTable.toList = [] := by
            have h1 : c.exceptionTable.size = 0 := by simpa [Array.isEmpty] using hno
            exact List.eq_nil_of_length_eq_zero (by simpa using h1)
          rw [h0] at hz; cases hz) (by decide) (Nat.le_of_ble_eq_true rfl) hlocks
      refine ⟨U, st, .threw (b + N), hrun, hend, rfl, ⟨ce, hce, hoc.vm, hoc.cls, hoc.self⟩, ?_, ?_, [], ⟨hW, hsame⟩, fun q hq => by cases hq⟩
      · have hold : ∀ q, q < b + N → U.heap[q]? = s.heap[q]? := fun q hq => same_old' hsame (by rw [hsz]; exact hq)
        have hus : U.heap.size = b + N + 1 := by
          have u1 : U.heap.size ≤ s.heap.size + 1 := hsame.2.2.1
          have u2 := (Array.getElem?_eq_some_iff.mp hce).1
          rw [hsz] at u1
          omega
        refine ⟨hus, fun j z hz => ?_⟩
        have h1 := hP.2 j z hz
        have h2 := h1.lt
        rw [hsz] at h2
        exact h1.kept (hold (b + j) h2)
      · exact ⟨by rw [hsz]; have u2 := (Array.getElem?_eq_some_iff.mp hce).1; omega, fun q hq _ => same_old' hsame hq⟩
    obtain ⟨t, a1, o, b1, b2, b3⟩ := K s₁ hh0 X₀
    exact ⟨t, o, a1, b1, b2, b3⟩
