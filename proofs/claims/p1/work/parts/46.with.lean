theorem zMW.of {l : Launch} {D : va_G} {cl : List vw_C} {tys : List (ClassId × FieldType)} {ws ws' Nw : List Cond} {b : Nat} {y : MethodName} {cc : ByteArray} {nL : Nat} {ret : Option FieldType} {hh : List (Nat × Nat × Nat × Nat)} {fr lo mc ms : Nat} {av : List Value} {N : Nat} {σ : Nat → Option va_E} {Q : Outcome → Nat → (Nat → Option va_E) → Prop} (hy : plainName y.cls = true) (hw : ws = Cond.codeWith y cc nL ret hh :: ws') (hlen : (lg_sl av).length ≤ nL)
    (kk : Z l D cl tys ws Nw y.cls y.name cc nL ret { frames := fr, cells := mc, slots := ms, locals := lo } b (zFi D cl b mc ms Q) 0 0 N σ 0 (lv_args 0 av) []) : zM l D cl tys Nw b y ws fr lo mc ms av N σ Q := by
  refine va_MetW (cc := cc) (maxL := nL) (ret := ret) (hh := hh) hy hw ?_
  intro p e s m args below meth c s₁ B hml hv
  obtain ⟨rfl, hP, hK, hN⟩ := hv
  have hx := B.exec
  have hb := B.bytes
  have hr := B.returns
  have hts := atoms_spec (ws := ws) B.pre
  have hown : s.vm.findClass y.cls = some m.cls := findClass_of_methodNamed B.named
  have hlocks := B.notSynchronized
  have hname : meth.name = y.name := (name_of_methodNamed B.named B.method).1
  have hl := lv_entry av (n := nL) hlen
  rw [lg_entry_eq]
  generalize (lg_sl av ++ List.replicate (nL - (lg_sl av).length) Slot.unset).toArray = ls at hl ⊢
  exact kk p e s m av.toArray below meth c s.heap [] ls ⟨hx, hb, hml, hr, hlocks, hown, hts, hK, hN, hname, by rw [hP.1]; exact Nat.le_add_right b N⟩ hP va_S.rf hl
section ZW
variable {l : Launch} {D : va_G} {cl : List vw_C} {tys : List (ClassId × FieldType)} {Ts Nw : List Cond} {own nm : String} {cc : ByteArray} {nL : Nat} {ret : Option FieldType} {R : Room} {b : Nat} {Fi : List Frame → Array Value → State → State → Prop} {k n N : Nat} {σ : Nat → Option va_E} {pc : Nat} {lv : List (Nat × Value)} {st : List Value}
theorem z_callSW {y : MethodName} {ws' : List Cond} {fr lo mc ms index maxL i : Nat} {bytes : ByteArray} {ret' : Option FieldType} {hh : List (Nat × Nat × Nat × Nat)} {As rest : List Value} {Q : Outcome → Nat → (Nat → Option va_E) → Prop}
    (hd : decode cc pc = .ok (.invokestatic index, 3)) (hG : GoodIn Ts (Cond.codeWith y bytes maxL ret' hh :: ws')) (h1 : Cond.methodLink own index y ∈ Ts) (h2 : Cond.static y ∈ Ts) (h3 : Cond.initialized y.cls ∈ Ts) (hy : y.cls ≠ "java/lang/invoke/MethodHandle" ∧ y.cls ≠ "java/lang/invoke/VarHandle") (hpd : (parseMethodDescriptor y.desc).map (fun d => d.parameters.length) = some i)
    (hM : zM l D cl tys Nw b y (Cond.codeWith y bytes maxL ret' hh :: ws') fr lo mc ms As N σ Q) (hst : st = As.reverse ++ rest) (hn : As.length = i) (hW : (rest.map fun v => v.category).sum ≤ 8) (hR : fr + 1 ≤ R.frames ∧ 8 + (maxL + 11) + lo ≤ R.locals) (hf : k + mc ≤ R.cells ∧ n + ms ≤ R.slots)
    (kk : ∀ (v : Option Value) (N' : Nat) (σ' : Nat → Option va_E), Q (.returned v) N' σ' → Z l D cl tys Ts Nw own nm cc nL ret R b Fi (k + mc) (n + ms) N' σ' (pc + 3) lv (v.toList ++ rest)) : Z l D cl tys Ts Nw own nm cc nL ret R b Fi k n N σ pc lv st := by
  intro p e s m args below meth c H locs ls hF hP hS hl
  obtain ⟨hx, hb, hml, hr, hlocks, hown, hts, hK, hNw, hname, hbs⟩ := id hF
  have hpre := z_pre (y := y) (av := As) hK hNw hP
  refine z_behind (mc := mc) (ms := ms) (Q := Q) (rest := rest) (a2 := As.toArray) hF hS hl ?_ kk
  intro T hT X
  have hini := hts _ h3
  have hBk : Back l R p e below s args y 3 8 (PreOf R mc ms (va_Pc As (fun U => zP D cl b N σ U.heap ∧ va_K D cl tys U ∧ zN Nw U))) (PostOf (zQ D cl b Q) mc ms (fun q => b ≤ q)) := va_backW (hh := hh) (bytes := bytes) (maxL := maxL) (ret := ret') hM hpre.1 rfl rfl hR.1 hR.2 (pay_in hts hG) List.mem_cons_self (fun a' U hW => word_at hW (Or.inl (by first | rfl | simp [Cond.onTables, Cond.keeps, Cond.steady])) hini)
  have hcode := hts _ (hG _ List.mem_cons_self).1
  obtain ⟨mk, methM, cM, hnamed, hmethM, -, -, -, -, -, -, hsigM⟩ := Cond.codeWith_spec hcode
  have hstatic : methM.isStatic = true := Cond.static_spec hnamed hmethM (hts _ h2)
  obtain ⟨kP, hkP, -⟩ := className_of_methodNamed hnamed
  have hinitP : kP.init = .initialized := Cond.initialized_spec (findClass_of_methodNamed hnamed) hkP hini
  have hlen : As.length = methM.sig.parameters.length := by
    rw [hsigM] at hpd
    exact hn.trans (Option.some.inj hpd).symm
  obtain ⟨vm₁, X₁, hstep₁⟩ := X.invokestatic hx hown (hts _ h1) hnamed hmethM hstatic hkP hinitP hy (g := F0 m pc ls st) rfl (argsL := As) (rest := rest) hlen hst (by rw [hb]; exact hd)
  obtain ⟨v, ⟨U', l2, c2, s2⟩, X', ⟨g', mk', t, L, e1, e2, hq, g1, hL, g2, g3⟩, hsteps⟩ := hBk m meth c ⟨T.setVm vm₁, locs, k, n⟩ { F0 m pc ls st with stack := rest } (.invokestatic index) mk As.toArray X₁ rfl (hl.1.trans hml.symm) (by rw [hb]; exact hd) (lv_room hW) (X₁.named hnamed) ⟨hf.1, hf.2, hpre.2 (T.setVm vm₁) hT X₁.warmed⟩
  dsimp only [Pt.U, Pt.locs, Pt.cells, Pt.slots] at X' e1 e2 g1 g2 g3 hsteps
  subst g1; subst g2; subst g3
  exact ⟨v, (T.setVm vm₁).calling g' mk' As.toArray, t, U', L, hT, X', hL, e1, e2, hq, fun target h => hstep₁ _ fun acts => by rw [doInvoke_state]; exact hsteps.trans h⟩
end ZW
abbrev ky_W_point : MethodName := ⟨"TreeCountsLaw", "point", "(LTreeCounts;JJ[J)I"⟩
abbrev kh_W_point : Cond := .codeWith ky_W_point kb_W_point 7 (some .int) [(0, 10, 13, 13)]
set_option maxRecDepth 100000 in
theorem kz_W_point : kh_W_point ∈ zT := zin 663 rfl rfl
set_option maxHeartbeats 4000000 in
set_option maxRecDepth 100000 in
theorem e_W_point {l : Launch} {D : va_G} {tys : List (ClassId × FieldType)} {b N : Nat} {σ : Nat → Option va_E} {cJ cP : ClassId} (ht1 : tys[1]? = some (cJ, .long)) (ht4 : tys[4]? = some (cP, .object "TreeCounts$Parts")) {j31 : Nat → Option Nat} {x y : Int64} {f30 s34 c34 : Value} {s5 c5 : Value} {g0 g1 : Nat → Int64} (h1 : σ 1 = some (.inr (1, [.int 0, .int 0, .ref (b + 2), .ref (b + 3), .ref (b + 4)]))) (h5 : σ 5 = some (.inr (2, [s5, c5, .ref (b + 6)]))) (h30 : σ 30 = some (.inr (8, [.ref (b + 1), .ref (b + 5), .ref (b + 31), .ref (b + 32), .ref (b + 33), f30]))) (h31 : σ 31 = some (.inl (cP, 10, .inr (.inr (.inr (.inr j31)))))) (hj : j31 0 = some (b + 34)) (h32 : σ 32 = some (.inl (cJ, 11, .inr (.inl g0)))) (h33 : σ 33 = some (.inl (cJ, 15, .inr (.inl g1)))) (h34 : σ 34 = some (.inr (2, [s34, c34, .ref (b + 35)]))) (h0 : σ 0 = some (.inr (0, [.ref (b + 1), .ref (b + 19), .ref (b + 20), .ref (b + 23), .ref (b + 25), .ref (b + 30)]))) {g74 : Nat → Int64} (h74 : σ 74 = some (.inl (cJ, 1, .inr (.inl g74)))) : zM l D kCl tys kNw b ky_W_point (kh_W_point :: zT) 5 170 0 0 [.ref (b + 0), .long x, .long y, .ref (b + 74)] N σ (fun oc N' σ' => oc = .returned (some (.int 0)) ∧ N' = N ∧ ∃ g : Nat → Int64, g 0 = 1 ∧ σ' 74 = some (.inl (cJ, 1, .inr (.inl g))) ∧ ∀ j, 54 ≤ j → j ≠ 74 → σ' j = σ j) := by
  refine zMW.of (by decide +kernel) rfl (Nat.le_of_ble_eq_true rfl) ?_
  refine z_pick (lv' := [(0, .ref (b + 0)), (1, .long x), (3, .long y), (5, .ref (b + 74))]) [0, 1, 2, 3] rfl ?_
  refine z_aload kd_W_point_0 3 rfl ?_
  refine z_iconst (v := 0) kd_W_point_2 (by decide) ?_
  refine z_aload_n kd_W_point_3 0 rfl ?_
  refine z_lload_n kd_W_point_4 1 rfl ?_
  refine z_lload_n kd_W_point_5 2 rfl ?_
  refine z_callV (a := 0) (As := [_, _]) kd_W_point_6 (kg_W_7 _) h0 kc_C (e_C_point ht1 ht4 h1 h5 h30 h31 hj h32 h33 h34 h0) rfl rfl (Nat.le_of_ble_eq_true rfl) ⟨Nat.le_of_ble_eq_true rfl, Nat.le_of_ble_eq_true rfl⟩ ⟨Nat.le_of_ble_eq_true rfl, Nat.le_of_ble_eq_true rfl⟩ ?_
  rintro _ _ σ' ⟨hv, rfl, hfr⟩
  cases hv
  refine z_eq (st' := [.long 1, .int 0, .ref (b + 74)]) rfl rfl rfl rfl ?_
  refine z_last (t0 := 1) kd_W_point_9 (by assumption) ((hfr 74 (by decide)).trans h74) (show vp_in (nI 0) 1 from vp_in_nI (by decide) (by decide)) ?_
  refine z_goto (tgt := 17) kd_W_point_10 (by decide) ?_
  refine z_iconst (v := 0) kd_W_point_17 (by decide) ?_
  exact z_iret kd_W_point_18 rfl (Nat.le_of_ble_eq_true rfl) (Nat.le_of_ble_eq_true rfl) ⟨rfl, rfl, _, by simp [vp_updL], rfl, fun j h1 h2 => (zUp_n h2).trans (hfr j h1)⟩
