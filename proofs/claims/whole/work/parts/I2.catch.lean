/-- a call that throws, and the caller's own handler -/
def XP (b : Nat) (y0 : MethodName) (s : State) : Prop := XL b s ∧ ∃ (m0 : MethodId) (a0 : Array Value) (b0 : List Frame), s.frames = .invoking m0 a0 :: b0 ∧ s.methodNamed? y0 = some m0
def xG (b : Nat) (y0 : MethodName) (G : List Frame → Array Value → State → State → Prop) : List Frame → Array Value → State → State → Prop := fun below args s t => XP b y0 s → G below args s t
section XZ
variable {l : Launch} {D : va_G} {cl : List vw_C} {tys : List (ClassId × FieldType)} {Ts Nw : List Cond} {own nm : String} {cc : ByteArray} {nL : Nat} {ret : Option FieldType} {R : Room} {b : Nat} {k n N : Nat} {σ : Nat → Option va_E} {pc : Nat} {lv : List (Nat × Value)} {st : List Value}
theorem z_callX {y y0 : MethodName} {ws : List Cond} {fr lo index maxL i ci a s0 e0 hpc ct : Nat} {C Xc : String} {bytes : ByteArray} {ret' : Option FieldType} {As rest fs : List Value} {T0 : u_T} {N0 : Nat} {G : List Frame → Array Value → State → State → Prop}
    (hd : decode cc pc = .ok (.invokevirtual index, 3)) (cw : zCV Ts own C index y bytes maxL ret' ws i) (hσ : σ a = some (.inr (ci, fs))) (hc : cl[ci]? = some (C, T0, N0)) (hM : xM l D cl tys Nw (XL b) b y ws fr lo (.ref (b + a) :: As) N σ Xc) (hst : st = As.reverse ++ .ref (b + a) :: rest) (hn : As.length = i) (hW : (rest.map fun v => v.category).sum ≤ 8) (hR : fr + 1 ≤ R.frames ∧ 8 + (maxL + 11) + lo ≤ R.locals) (hf : k + 1 ≤ R.cells ∧ n + 6 ≤ R.slots)
    (hcw : Cond.codeWith y0 cc nL ret [(s0, e0, hpc, ct)] ∈ Ts) (hcov : s0 ≤ pc ∧ pc < e0) (hct : ct ≠ 0) (hcl : Cond.classLink own ct Xc ∈ Ts)
    (kk : Z l D cl tys Ts Nw own nm cc nL ret R b (xG b y0 G) (k + 1) (n + 6) (N + 1) σ hpc lv [.ref (b + N)]) : Z l D cl tys Ts Nw own nm cc nL ret R b (xG b y0 G) k n N σ pc lv st := by
  intro p e s m args below meth c H locs ls hF hP hS hl
  obtain ⟨hx, hb, hml, hr, hlocks, hown, hts, hK, hNw, hname, hbs⟩ := id hF
  by_cases hX : XP b y0 s
  rotate_left
  · exact fun T _ _ => ⟨_, Steps.refl _, fun h => absurd h hX⟩
  obtain ⟨hXL, m0, a0, b0, hfr0, hnm0⟩ := id hX
  obtain ⟨hG, ⟨ws', hw⟩, hyC, hy1, hy2, hy3⟩ := cw
  intro T hT X
  have em : m0 = m := by
    have := hfr0.symm.trans X.frames
    injection this with h1 h2
    injection h1
  subst em
  obtain ⟨cellB, hcB, hoB, hclB⟩ := va_recv hK (hP.one hσ) hc (q0 := 0) rfl
  have hg : ∀ w ∈ wsV own index C y ws, w.before args s = true := fun w h => hts w (hG w h).1
  have hlink := hg (.methodLink own index y) (by simp [wsV])
  have hinst := hg (.instanceMethod y) (by simp [wsV])
  have hsel := hg (.selects C y y) (by simp [wsV])
  have hini := hg (.initialized C) (by simp [wsV])
  have hcode := hg (Cond.code y bytes maxL ret') (by simp [wsV, hw])
  obtain ⟨mk, methM, hnamed, hmethM, hstM, habM⟩ := Cond.instanceMethod_spec hinst
  obtain ⟨methM', cM, hmethM', -, -, -, -, -, -, hsigM⟩ := Cond.code_spec hnamed hcode
  cases hmethM.symm.trans hmethM'
  obtain ⟨c2, r2, m2, q1, q2, q3, q4, kP, hkP, hkPi⟩ := Cond.selects_spec hsel
  cases hclB.symm.trans q1
  cases (State.methodFound?_of_named hnamed ⟨hy1, hy2⟩).symm.trans q2
  cases hnamed.symm.trans q3
  have hselP : selectMethod e.platform s.vm cellB.cls mk = .method mk := by rw [Launch.admits_selectMethod X.admits]; exact q4
  have hlen : As.length = methM.sig.parameters.length := by
    rw [hsigM] at hy3
    exact hn.trans (Option.some.inj hy3).symm
  obtain ⟨vm₁, X₁, hstep₁⟩ := X.invokevirtual hx hown hlink hnamed hmethM hstM hkP hkPi ⟨hy1, hy2⟩ (a := b + a) (cell := cellB) (by rw [hT]; exact hcB)
    (fun z h => by rw [h] at hoB; cases hoB) hselP hmethM habM hkP hkPi (g := F0 m0 pc ls st) rfl (argsL := As) (rest := rest) hlen hst (by rw [hb]; exact hd)
  have hpre := z_pre (y := y) (av := .ref (b + a) :: As) hK hNw hP
  have hlow : ∀ q, q < b → T.heap[q]? = s.heap[q]? := fun q hq => by
    rw [hT]; exact hS.2.1 q (Nat.lt_of_lt_of_le hq hbs) (by omega)
  have hXT : XL b (T.setVm vm₁) := hXL.up X₁.warmed hlow
  have p1 := hpre.1 _ _ { F0 m0 pc ls st with stack := rest } mk (hpre.2 (T.setVm vm₁) hT X₁.warmed)
  have hin : ∀ w ∈ ws, w ∈ wsV own index C y ws := fun w h => List.mem_append_right _ h
  have hC1 : (Cond.initialized y.cls).before (.ref (b + a) :: As).toArray (T.setVm vm₁) = true := by
    rw [hyC]
    exact word_at X₁.warmed (hG (.initialized C) (by simp [wsV])).2 hini
  obtain ⟨ad, t, B, L, hq, eB, vB, X₂, hL, hsteps⟩ := x_call (free := fun q => b ≤ q) (Wd := 8) (bytes := bytes) (maxL := maxL) (ret := ret') hM (fun a st o t h => ⟨⟨_, h.1⟩, h.2.2.2.2⟩) X₁ (g := { F0 m0 pc ls st with stack := rest }) rfl (hl.1.trans hml.symm) (ig := .invokevirtual index) (len := 3) (by rw [hb]; exact hd)
    (X₁.named hnamed) (a := (.ref (b + a) :: As).toArray) (fun w h => word_at X₁.warmed (hG w (hin w h)).2 (hts w (hG w (hin w h)).1)) (word_at X₁.warmed (hG _ (hin _ (by rw [hw]; exact List.mem_cons_self))).2 hcode) hC1 (lv_room hW) hR.1 hR.2 hf.1 hf.2 ⟨p1.1, p1.2, hXT.eq rfl rfl⟩
  obtain ⟨hth, ⟨ce, hce, hcev, hcec, hces⟩, hzP, hvF, -⟩ := hq
  have had : ad = b + N := by injection hth
  subst had
  obtain ⟨m9, meth9, c9, hn9, hm9, hc9, -, -, htab, -⟩ := Cond.codeWith_spec (hts _ hcw)
  cases hnm0.symm.trans hn9
  cases X.method.symm.trans hm9
  cases X.code.symm.trans hc9
  obtain ⟨x, hx1, hx2, hx3, hx4, hx5⟩ : ∃ x : ExceptionTableEntry, c.exceptionTable.toList = [x] ∧ x.startPc = s0 ∧ x.endPc = e0 ∧ x.handlerPc = hpc ∧ x.catchType = ct := by
    cases hL0 : c.exceptionTable.toList with
    | nil => rw [hL0] at htab; cases htab
    | cons x r =>
      rw [hL0] at htab
      cases r with
      | nil =>
        have h1 := List.head_eq_of_cons_eq htab
        exact ⟨x, rfl, congrArg (fun z => z.1) h1, congrArg (fun z => z.2.1) h1, congrArg (fun z => z.2.2.1) h1, congrArg (fun z => z.2.2.2) h1⟩
      | cons x2 r2 => cases htab
  have hpl : e.platform.magicAccessors = ({} : Platform).magicAccessors := by rw [X.admits.platform]
  obtain ⟨cT, hcT, hcl0⟩ := Cond.classLink_spec hown (hts _ hcl) e.platform hpl
  obtain ⟨dk, _, _, kt, hdk, _, _, _, _, hkt, _, hopen⟩ := hcl0.here
  have hclB := X₂.warmed.classLinks hcl0
  have hW' : s.WarmedH (B.vm.noted m0.cls ct (.cls cT)) := X₂.warmed.noted hdk hopen (State.rightAt_cls hcl0)
  have ecT : ce.cls = cT := by
    have h1 : vm₁.findClass Xc = s.vm.findClass Xc := X₁.warmed.alike.findClass Xc none
    have h2 : vm₁.findClass Xc = some ce.cls := hcec
    rw [h1, hcT] at h2
    exact (Option.some.inj h2).symm
  obtain ⟨kt', hkt', -⟩ := hW'.alike.2.2 _ _ hkt
  have hasg : (B.vm.noted m0.cls ct (.cls cT)).assignable ce.cls cT = true := by
    rw [hW'.alike.assignable]
    have h1 : (T.setVm vm₁).vm.assignable ce.cls ce.cls = true := hces
    rw [X₁.warmed.alike.assignable, ecT] at h1
    rw [ecT]; exact h1
  have hgv := resolveClass_links e.toSetting hclB
  have hS' : va_S (fun q => b ≤ q) s.heap B.heap (locs ++ L) := by
    have hz : H.size ≤ t.heap.size := by
      have := hvF.1
      have e2 : ((T.setVm vm₁).calling { F0 m0 pc ls st with stack := rest } mk (.ref (b + a) :: As).toArray).heap = H := hT
      rw [e2] at this; exact this
    have hkq : ∀ q : Nat, q < H.size → ¬ b ≤ q → t.heap[q]? = H[q]? := fun q h1 h2 => by
      have e2 : ((T.setVm vm₁).calling { F0 m0 pc ls st with stack := rest } mk (.ref (b + a) :: As).toArray).heap = H := hT
      have := hvF.2 q (by rw [e2]; exact h1) h2
      rw [e2] at this; exact this
    refine ⟨Nat.le_trans hS.1 (by rw [eB]; exact hz), fun q h1 h2 => by rw [eB, hkq q (Nat.lt_of_lt_of_le h1 hS.1) h2]; exact hS.2.1 q h1 h2, fun q hq' => ?_⟩
    rcases List.mem_append.mp hq' with h | h
    · exact hS.2.2 q h
    · exact hL q h
  obtain ⟨t2, a1, b1⟩ := kk p e s m0 args below meth c B.heap (locs ++ L) ls hF (by rw [eB]; exact hzP) hS' hl (B.setVm (B.vm.noted m0.cls ct (.cls cT))) rfl (X₂.noted hW')
  refine ⟨t2, hstep₁ t2 fun acts => ?_, b1⟩
  rw [doInvoke_state]
  refine hsteps.trans ?_
  refine x_caught (s := B) (g := { F0 m0 pc ls st with stack := rest }) (vm' := B.vm.noted m0.cls ct (.cls cT)) X₂.here (pc := hpc) ?_ a1
  intro Q E d acts2
  have hvm : ((B.setTop { F0 m0 pc ls st with stack := rest }).pushFrame (.throwing (b + N))).vm = B.vm := throwing_vm _ _ _
  have hhp : ((B.setTop { F0 m0 pc ls st with stack := rest }).pushFrame (.throwing (b + N))).heap = B.heap := throwing_heap _ _ _
  rw [W.findHandler_eq (meth := meth) (code := c) (by rw [hvm]; exact X₂.method') X.code, hx1, ← hx4]
  exact x_goCold (x := x) (cT := cT) (vm' := B.vm.noted m0.cls ct (.cls cT)) (cell := ce) (by simp only [covers, hx2, hx3]; simp [hcov.1, hcov.2]) (by rw [hx5]; exact hct) (by rw [hvm, hx5]; exact hgv) (by rw [hvm]; no_record) (by rw [hhp, eB]; exact hce) (fun k h => by rw [hcev] at h; cases h) ⟨kt', by rw [ecT]; exact hkt'⟩ ⟨kt', hkt'⟩ hasg
/-- contracts with the start's words -/
def zMX (l : Launch) (D : va_G) (cl : List vw_C) (tys : List (ClassId × FieldType)) (Nw : List Cond) (b : Nat) (y : MethodName) (ws : List Cond) (fr lo mc ms : Nat) (av : List Value) (N : Nat) (σ : Nat → Option va_E) (Q : Outcome → Nat → (Nat → Option va_E) → Prop) : Prop :=
  Met l y ws { frames := fr, cells := mc, slots := ms, locals := lo } (va_Pc av (fun U => (zP D cl b N σ U.heap ∧ va_K D cl tys U ∧ zN Nw U) ∧ XL b U)) (zQ D cl b Q) mc ms (fun q => b ≤ q)
theorem zMX.of {ws ws' : List Cond} {y : MethodName} {hh : List (Nat × Nat × Nat × Nat)} {fr lo mc ms : Nat} {av : List Value} {Q : Outcome → Nat → (Nat → Option va_E) → Prop} (hy : plainName y.cls = true) (hw : ws = Cond.codeWith y cc nL ret hh :: ws') (hlen : (lg_sl av).length ≤ nL)
    (kk : Z l D cl tys ws Nw y.cls y.name cc nL ret { frames := fr, cells := mc, slots := ms, locals := lo } b (xG b y (zFi D cl b mc ms Q)) 0 0 N σ 0 (lv_args 0 av) []) : zMX l D cl tys Nw b y ws fr lo mc ms av N σ Q := by
  refine va_MetW (cc := cc) (maxL := nL) (ret := ret) (hh := hh) hy hw ?_
  intro p e s m args below meth c s₁ B hml hv
  obtain ⟨rfl, ⟨hP, hK, hN⟩, hXL⟩ := hv
  have hx := B.exec
  have hb := B.bytes
  have hr := B.returns
  have hts := atoms_spec (ws := ws) B.pre
  have hown : s.vm.findClass y.cls = some m.cls := findClass_of_methodNamed B.named
  have hlocks := B.notSynchronized
  have hname : meth.name = y.name := (name_of_methodNamed B.named B.method).1
  have hnm := B.named
  have X₀ := Stand.of_body B
  have hl := lv_entry av (n := nL) hlen
  rw [lg_entry_eq]
  generalize (lg_sl av ++ List.replicate (nL - (lg_sl av).length) Slot.unset).toArray = ls at hl ⊢
  have K := kk p e s m av.toArray below meth c s.heap [] ls ⟨hx, hb, hml, hr, hlocks, hown, hts, hK, hN, hname, by rw [hP.1]; exact Nat.le_add_right b N⟩ hP va_S.rf hl
  exact fun T hT X => by
    obtain ⟨t, a1, q⟩ := K T hT X
    exact ⟨t, a1, q ⟨hXL, m, _, below, X₀.frames, hnm⟩⟩
theorem z_iretX {v : Int32} {mc ms : Nat} {y0 : MethodName} {Q : Outcome → Nat → (Nat → Option va_E) → Prop} (hd : decode cc pc = .ok (.ireturn, 1)) (hret : ret = some .int) (h1 : k ≤ mc) (h2 : n ≤ ms) (hQ : Q (.returned (some (.int v))) N σ) : Z l D cl tys Ts Nw own nm cc nL ret R b (xG b y0 (zFi D cl b mc ms Q)) k n N σ pc lv [.int v] := by
  intro p e s m args below meth c H locs ls hF hP hS hl T hT X
  obtain ⟨t, a1, q⟩ := z_iret (mc := mc) (ms := ms) (Q := Q) hd hret h1 h2 hQ p e s m args below meth c H locs ls hF hP hS hl T hT X
  exact ⟨t, a1, fun _ => q⟩
theorem z_callSX {Pz : Array Value → State → Prop} {G : List Frame → Array Value → State → State → Prop} {y : MethodName} {ws' : List Cond} {fr lo mc ms index maxL i : Nat} {bytes : ByteArray} {ret' : Option FieldType} {hh : List (Nat × Nat × Nat × Nat)} {As rest : List Value} {Q : Outcome → Nat → (Nat → Option va_E) → Prop}
    (hPz : ∀ args s, Pz args s → XL b s) (hd : decode cc pc = .ok (.invokestatic index, 3)) (hG : GoodIn Ts (Cond.codeWith y bytes maxL ret' hh :: ws')) (h1 : Cond.methodLink own index y ∈ Ts) (h2 : Cond.static y ∈ Ts) (h3 : Cond.initialized y.cls ∈ Ts) (hy : y.cls ≠ "java/lang/invoke/MethodHandle" ∧ y.cls ≠ "java/lang/invoke/VarHandle") (hpd : (parseMethodDescriptor y.desc).map (fun d => d.parameters.length) = some i)
    (hM : zMX l D cl tys Nw b y (Cond.codeWith y bytes maxL ret' hh :: ws') fr lo mc ms As N σ Q) (hst : st = As.reverse ++ rest) (hn : As.length = i) (hW : (rest.map fun v => v.category).sum ≤ 8) (hR : fr + 1 ≤ R.frames ∧ 8 + (maxL + 11) + lo ≤ R.locals) (hf : k + mc ≤ R.cells ∧ n + ms ≤ R.slots)
    (kk : ∀ (v : Option Value) (N' : Nat) (σ' : Nat → Option va_E), Q (.returned v) N' σ' → Z l D cl tys Ts Nw own nm cc nL ret R b (fun below args s t => Pz args s → G below args s t) (k + mc) (n + ms) N' σ' (pc + 3) lv (v.toList ++ rest)) : Z l D cl tys Ts Nw own nm cc nL ret R b (fun below args s t => Pz args s → G below args s t) k n N σ pc lv st := by
  intro p e s m args below meth c H locs ls hF hP hS hl
  obtain ⟨hx, hb, hml, hr, hlocks, hown, hts, hK, hNw, hname, hbs⟩ := id hF
  by_cases hX : Pz args s
  rotate_left
  · exact fun T _ _ => ⟨_, Steps.refl _, fun h => absurd h hX⟩
  have hXL := hPz _ _ hX
  have hpre := z_pre (y := y) (av := As) hK hNw hP
  have hbl : FrameBlind (va_Pc As (fun U => (zP D cl b N σ U.heap ∧ va_K D cl tys U ∧ zN Nw U) ∧ XL b U)) := fun a U g mk q => ⟨q.1, (hpre.1 a U g mk ⟨q.1, q.2.1⟩).2, q.2.2.eq rfl rfl⟩
  refine z_behind (mc := mc) (ms := ms) (Q := Q) (rest := rest) (a2 := As.toArray) hF hS hl ?_ kk
  intro T hT X
  have hini := hts _ h3
  have hBk : Back l R p e below s args y 3 8 (PreOf R mc ms (va_Pc As (fun U => (zP D cl b N σ U.heap ∧ va_K D cl tys U ∧ zN Nw U) ∧ XL b U))) (PostOf (zQ D cl b Q) mc ms (fun q => b ≤ q)) := va_backW (hh := hh) (bytes := bytes) (maxL := maxL) (ret := ret') hM hbl rfl rfl hR.1 hR.2 (pay_in hts hG) List.mem_cons_self (fun a' U hW => word_at hW (Or.inl (by first | rfl | simp [Cond.onTables, Cond.keeps, Cond.steady])) hini)
  have hcode := hts _ (hG _ List.mem_cons_self).1
  obtain ⟨mk, methM, cM, hnamed, hmethM, -, -, -, -, -, -, hsigM⟩ := Cond.codeWith_spec hcode
  have hstatic : methM.isStatic = true := Cond.static_spec hnamed hmethM (hts _ h2)
  obtain ⟨kP, hkP, -⟩ := className_of_methodNamed hnamed
  have hinitP : kP.init = .initialized := Cond.initialized_spec (findClass_of_methodNamed hnamed) hkP hini
  have hlen : As.length = methM.sig.parameters.length := by
    rw [hsigM] at hpd
    exact hn.trans (Option.some.inj hpd).symm
  obtain ⟨vm₁, X₁, hstep₁⟩ := X.invokestatic hx hown (hts _ h1) hnamed hmethM hstatic hkP hinitP hy (g := F0 m pc ls st) rfl (argsL := As) (rest := rest) hlen hst (by rw [hb]; exact hd)
  have hlow : ∀ q, q < b → T.heap[q]? = s.heap[q]? := fun q hq => by
    rw [hT]; exact hS.2.1 q (Nat.lt_of_lt_of_le hq hbs) (by omega)
  have p1 := hpre.2 (T.setVm vm₁) hT X₁.warmed
  obtain ⟨v, ⟨U', l2, c2, s2⟩, X', ⟨g', mk', t, L, e1, e2, hq, g1, hL, g2, g3⟩, hsteps⟩ := hBk m meth c ⟨T.setVm vm₁, locs, k, n⟩ { F0 m pc ls st with stack := rest } (.invokestatic index) mk As.toArray X₁ rfl (hl.1.trans hml.symm) (by rw [hb]; exact hd) (lv_room hW) (X₁.named hnamed) ⟨hf.1, hf.2, p1.1, p1.2, hXL.up X₁.warmed hlow⟩
  dsimp only [Pt.U, Pt.locs, Pt.cells, Pt.slots] at X' e1 e2 g1 g2 g3 hsteps
  subst g1; subst g2; subst g3
  exact ⟨v, (T.setVm vm₁).calling g' mk' As.toArray, t, U', L, hT, X', hL, e1, e2, hq, fun target h => hstep₁ _ fun acts => by rw [doInvoke_state]; exact hsteps.trans h⟩
end XZ
set_option maxHeartbeats 4000000 in
set_option maxRecDepth 100000 in
theorem x_W_point1 {l : Launch} (hfl : l.flags = flags0) {D : va_G} {tys : List (ClassId × FieldType)} {b N : Nat} {σ : Nat → Option va_E} {cI cJ cA cP : ClassId} {n a : Nat} {gf gt gw : Nat → Int32} {F T : Nat → Nat} {C K : Nat → Int64} (hC : CS b cI cJ cA cP σ n a gf gt gw F T C K) (h14 : 14 < a) {x y : Int64} {g : Nat → Int64} (h74 : σ 74 = some (.inl (cJ, 1, .inr (.inl g)))) : zMX l D kCl tys kNw b ky_W_point (kh_W_point :: zT) 30 900 1 6 [.ref (b + 0), .long x, .long y, .ref (b + 74)] N σ (fun oc N' σ' => oc = .returned (some (.int 1)) ∧ N' = N + 1 ∧ σ' = σ) := by
  have c0 := hC.2.2.2.1
  refine zMX.of (by decide +kernel) rfl (Nat.le_of_ble_eq_true rfl) ?_
  refine z_pick (lv' := [(0, .ref (b + 0)), (1, .long x), (3, .long y), (5, .ref (b + 74))]) [0, 1, 2, 3] rfl ?_
  refine z_aload kd_W_point_0 3 rfl ?_
  refine z_iconst (v := 0) kd_W_point_2 (by decide) ?_
  refine z_aload_n kd_W_point_3 0 rfl ?_
  refine z_lload_n kd_W_point_4 1 rfl ?_
  refine z_lload_n kd_W_point_5 2 rfl ?_
  refine z_callX (a := 0) (As := [_, _]) (Xc := xISE) (y0 := ky_W_point) kd_W_point_6 (kg_W_7 _) c0 kc_C (x_C_point hfl hC h14) rfl rfl (Nat.le_of_ble_eq_true rfl) ⟨Nat.le_of_ble_eq_true rfl, Nat.le_of_ble_eq_true rfl⟩ ⟨Nat.le_of_ble_eq_true rfl, Nat.le_of_ble_eq_true rfl⟩ List.mem_cons_self ⟨by decide, by decide⟩ (by decide) (List.mem_cons_of_mem _ (zin 664 rfl rfl)) ?_
  refine z_astore (lv' := [(6, .ref _), (0, .ref (b + 0)), (1, .long x), (3, .long y), (5, .ref (b + 74))]) kd_W_point_13 (by decide) rfl ?_
  refine z_iconst (v := 1) kd_W_point_15 (by decide) ?_
  exact z_iretX kd_W_point_16 rfl (Nat.le_of_ble_eq_true rfl) (Nat.le_of_ble_eq_true rfl) ⟨rfl, rfl, rfl⟩
set_option maxHeartbeats 4000000 in
set_option maxRecDepth 100000 in
theorem x_W_point0 {l : Launch} {D : va_G} {tys : List (ClassId × FieldType)} {b N : Nat} {σ : Nat → Option va_E} {cI cJ cA cP : ClassId} (ht0 : tys[0]? = some (cI, .int)) (ht1 : tys[1]? = some (cJ, .long)) (ht3 : tys[3]? = some (cA, .array .long)) (ht4 : tys[4]? = some (cP, .object "TreeCounts$Parts")) {n a : Nat} {gf gt gw : Nat → Int32} {F T : Nat → Nat} {C K : Nat → Int64} (hC : CS b cI cJ cA cP σ n a gf gt gw F T C K) (h14 : a ≤ 14) (hf1 : 0 < n → 1 ≤ (ftV n a F T).2.1) {x y : Int64} {g : Nat → Int64} (h74 : σ 74 = some (.inl (cJ, 1, .inr (.inl g)))) : zMX l D kCl tys kNw b ky_W_point (kh_W_point :: zT) 30 900 1 6 [.ref (b + 0), .long x, .long y, .ref (b + 74)] N σ (fun oc N' σ' => oc = .returned (some (.int 0)) ∧ N' = N ∧ CS b cI cJ cA cP σ' n a gf gt gw F T C K ∧ (∃ g : Nat → Int64, g 0 = ptV n a F T x y ∧ σ' 74 = some (.inl (cJ, 1, .inr (.inl g)))) ∧ ∀ j, 53 < j → j ≠ 74 → σ' j = σ j) := by
  have c0 := hC.2.2.2.1
  refine zMX.of (by decide +kernel) rfl (Nat.le_of_ble_eq_true rfl) ?_
  refine z_pick (lv' := [(0, .ref (b + 0)), (1, .long x), (3, .long y), (5, .ref (b + 74))]) [0, 1, 2, 3] rfl ?_
  refine z_aload kd_W_point_0 3 rfl ?_
  refine z_iconst (v := 0) kd_W_point_2 (by decide) ?_
  refine z_aload_n kd_W_point_3 0 rfl ?_
  refine z_lload_n kd_W_point_4 1 rfl ?_
  refine z_lload_n kd_W_point_5 2 rfl ?_
  refine z_callV (a := 0) (As := [_, _]) kd_W_point_6 (kg_W_7 _) c0 kc_C (c_C_point ht0 ht1 ht3 hC ht4 h14 hf1 (sfO_net hC.1.ft)) rfl rfl (Nat.le_of_ble_eq_true rfl) ⟨Nat.le_of_ble_eq_true rfl, Nat.le_of_ble_eq_true rfl⟩ ⟨Nat.le_of_ble_eq_true rfl, Nat.le_of_ble_eq_true rfl⟩ ?_
  rintro _ _ σ' ⟨hv, rfl, hC', hfr⟩
  cases hv
  refine z_eq (st' := [.long (ptV n a F T x y), .int 0, .ref (b + 74)]) rfl rfl rfl rfl ?_
  refine z_last (t0 := 1) kd_W_point_9 ht1 ((hfr 74 (by omega)).trans h74) (show vp_in (nI 0) 1 from vp_in_nI (by decide) (by decide)) ?_
  refine z_goto (tgt := 17) kd_W_point_10 (by decide) ?_
  refine z_iconst (v := 0) kd_W_point_17 (by decide) ?_
  exact z_iretX kd_W_point_18 rfl (Nat.le_of_ble_eq_true rfl) (Nat.le_of_ble_eq_true rfl) ⟨rfl, rfl, hC'.fx (lo := 74) (hi := 74) (fun j hj => zUp_n (by omega)) (by omega), ⟨_, by simp [vp_updL], rfl⟩, fun j h1 h2 => (zUp_n h2).trans (hfr j (by omega))⟩
