/-- a method that throws: its end -/
def xQ (D : va_G) (cl : List vw_C) (b N : Nat) (σ : Nat → Option va_E) (X : String) : Array Value → State → Outcome → State → Prop := fun _ st o t =>
  o = .threw (b + N) ∧ (∃ ce : Cell, t.heap[b + N]? = some ce ∧ ce.vm = .none ∧ st.vm.findClass X = some ce.cls ∧ st.vm.assignable ce.cls ce.cls = true) ∧ zP D cl b (N + 1) σ t.heap ∧ va_F (fun q => b ≤ q) st t ∧ ∃ L : List Loc, (st.WarmedH t.vm ∧ st.sameButNew ({ t with vm := st.vm } : State) L 1 6) ∧ ∀ q ∈ L, b ≤ q.base
def xM (l : Launch) (D : va_G) (cl : List vw_C) (tys : List (ClassId × FieldType)) (Nw : List Cond) (P : State → Prop) (b : Nat) (y : MethodName) (ws : List Cond) (fr lo : Nat) (av : List Value) (N : Nat) (σ : Nat → Option va_E) (X : String) : Prop :=
  MetFree l y (headSpec ws { frames := fr, cells := 1, slots := 6, locals := lo }) (va_Pc av (fun U => (zP D cl b N σ U.heap ∧ va_K D cl tys U ∧ zN Nw U) ∧ P U)) (fun _ _ _ _ _ => True) (xQ D cl b N σ X)
/-- old cells are as they were, where no slot was given free -/
theorem same_old {s t : State} {k n : Nat} (h : s.sameButNew t [] k n) {q : Addr} {ce : Cell} (hq : s.heap[q]? = some ce) : t.heap[q]? = some ce := by
  obtain ⟨c', h1, h2, h3, h4⟩ := h.2.2.2.2.2 q ce hq
  have e : c'.slots = ce.slots := by
    apply Array.ext_getElem?
    intro i
    exact h4 i (fun k => by cases k)
  rw [h1, h2, e]
theorem same_old' {s t : State} {k n : Nat} (h : s.sameButNew t [] k n) {q : Addr} (hq : q < s.heap.size) : t.heap[q]? = s.heap[q]? := by
  have e : s.heap[q]? = some s.heap[q] := Array.getElem?_eq_getElem hq
  rw [e]
  exact same_old h e
section XC
variable {p : Program} {l : Launch} {e : Env} {R : Room} {s : State} {m : MethodId} {args : Array Value} {below : List Frame} {meth : Method} {c : Code} {U : State} {locs : List Loc} {cells slots : Nat}
/-- a call of such a method -/
theorem x_call {y : MethodName} {ws : List Cond} {rm : Room} {Pc : Array Value → State → Prop} {Q : Array Value → State → Outcome → State → Prop} {bytes : ByteArray} {maxL : Nat} {ret : Option FieldType}
    (hM : MetFree l y (headSpec ws rm) Pc (fun _ _ _ _ _ => True) Q)
    {free : Addr → Prop} (hQ : ∀ a st o t, Q a st o t → (∃ ad, o = .threw ad) ∧ ∃ L : List Loc, (st.WarmedH t.vm ∧ st.sameButNew ({ t with vm := st.vm } : State) L rm.cells rm.slots) ∧ ∀ q ∈ L, free q.base)
    (X : Stand p l e R s m args below meth c U locs cells slots) {g : JFrame} (hg : g.method = m) (hsize : g.locals.size = c.maxLocals) {ig : Instr} {len : Nat} (hdg : decode c.code g.pc = .ok (ig, len))
    {mk : MethodId} {a : Array Value} (hn : U.methodNamed? y = some mk) (hws : ∀ w ∈ ws, w.before a U = true) (hcode : (Cond.code y bytes maxL ret).before a U = true) (hinit : (Cond.initialized y.cls).before a U = true)
    {Wd : Nat} (hW : 2 * g.monitorRoom + (g.stack.map fun v => v.category).sum ≤ Wd) (hframes : rm.frames + 1 ≤ R.frames) (hlocals : Wd + (maxL + 11) + rm.locals ≤ R.locals) (hc : cells + rm.cells ≤ R.cells) (hs : slots + rm.slots ≤ R.slots)
    (hP : Pc a (U.calling g mk a)) :
    ∃ (ad : Addr) (t B : State) (L : List Loc), Q a (U.calling g mk a) (.threw ad) t ∧ B.heap = t.heap ∧ B.vm = t.vm ∧ Stand p l e R s m args below meth c B (locs ++ L) (cells + rm.cells) (slots + rm.slots) ∧ (∀ q ∈ L, free q.base) ∧
      Steps p.tables e below (doInvoke e (U.setTop g) [] mk a).1 ((B.setTop g).pushFrame (.throwing ad)) := by
  obtain ⟨methY, cY, hmY, hcY, -, hlY, -, -, -, -⟩ := Cond.code_spec hn hcode
  obtain ⟨kY, hkY, -⟩ := className_of_methodNamed hn
  have hinitY : kY.init = .initialized := Cond.initialized_spec (findClass_of_methodNamed hn) hkY hinit
  have h : At U g.method c below := by rw [hg]; exact X.here
  have happ : (headSpec ws rm).appliesLoose y e.platform (U.calling g mk a) = true :=
    Spec.appliesLoose_calling (g := g) h hdg hn hkY hinitY (X.room_calling (g := g) (R' := rm) hsize hmY hcY hframes (by rw [hlY]; omega) hc hs) (atoms_intro hws)
  obtain ⟨mid, hmid⟩ := h.above
  have hfr : (U.setTop g).frames = (.java g :: mid) ++ below := by rw [State.frames_setTop' g h.top, hmid]; rfl
  obtain ⟨o, s₂, hsteps, -, hend, hq⟩ := Steps.callFree hM p X.admits X.cas X.clock (acts := []) hfr happ hP trivial
  have hq' : Q a (U.calling g mk a) o s₂ := hq
  rw [State.frames_setTop' g h.top] at hend
  obtain ⟨⟨ad, rfl⟩, L, ⟨hW₂, e2, q2, q3, q4, q5, q6⟩, hL⟩ := hQ _ _ _ _ hq'
  have hf₂ : s₂.frames = .throwing ad :: .java g :: U.frames.tail := hend
  have e3 : s₂ = ({ (U.calling g mk a).setFrames s₂.frames with heap := s₂.heap, slotsUsed := s₂.slotsUsed } : State).setVm s₂.vm := by
    have : s₂ = ({ s₂ with vm := (U.calling g mk a).vm } : State).setVm s₂.vm := rfl
    rw [e2] at this
    exact this
  have hW' : U.WarmedH s₂.vm := hW₂
  obtain ⟨g₀, hg0⟩ := Option.isSome_iff_exists.mp h.top
  obtain ⟨r, hr⟩ := State.topJava?_eq_some.mp hg0
  have hs₂ : s₂ = ((({ U with heap := s₂.heap, slotsUsed := s₂.slotsUsed } : State).setVm s₂.vm).setTop g).pushFrame (.throwing ad) := by
    have hr' : (({ U with heap := s₂.heap, slotsUsed := s₂.slotsUsed } : State).setVm s₂.vm).frames = .java g₀ :: r := hr
    refine e3.trans ?_
    rw [hf₂, State.calling_eq h.top, State.setFrames_setFrames, State.pushFrame, State.frames_setTop _ hr', State.setTop_of_frames _ hr', State.setFrames_setFrames, hr]
    rfl
  have hsame : U.sameButNew ({ U with heap := s₂.heap, slotsUsed := s₂.slotsUsed } : State) L rm.cells rm.slots := by
    refine ⟨?_, q2, q3, q4, q5, q6⟩
    obtain ⟨t, ht, -⟩ := State.frames_cons hr
    show ({ U with heap := s₂.heap, slotsUsed := s₂.slotsUsed } : State) = { U.setFrames U.frames with heap := s₂.heap, slotsUsed := s₂.slotsUsed }
    rw [State.setFrames_self ht]
  subst hg
  have X₂ : Stand p l e R s g.method args below meth c (({ U with heap := s₂.heap, slotsUsed := s₂.slotsUsed } : State).setVm s₂.vm) (locs ++ L) (cells + rm.cells) (slots + rm.slots) :=
    ⟨X.admits, X.cas, X.clock, X.frames, X.room, X.hears, X.method, X.code, (X.here.setHeapUsed s₂.heap s₂.slotsUsed).setVm hW'.alike, X.tail, State.WarmedH.trans X.warmed hW', X.limits, X.bytes, X.same.trans (hsame.setVm s.vm)⟩
  refine ⟨ad, s₂, (({ U with heap := s₂.heap, slotsUsed := s₂.slotsUsed } : State).setVm s₂.vm), L, hq', rfl, rfl, X₂, hL, ?_⟩
  rw [← hs₂]
  exact hsteps
end XC
/-- what the law's start gives of Throwable's statics and of the text of the one message; it stands as long as no cell below b is written -/
def xWs : List Cond := [.laysStatic "java/lang/Throwable" "UNASSIGNED_STACK" "[Ljava/lang/StackTraceElement;", .laysStatic "java/lang/Throwable" "SUPPRESSED_SENTINEL" "Ljava/util/List;", .isRef (.static "java/lang/Throwable" "UNASSIGNED_STACK" "[Ljava/lang/StackTraceElement;"), .isRef (.static "java/lang/Throwable" "SUPPRESSED_SENTINEL" "Ljava/util/List;"), .castable "java/lang/IllegalStateException" "java/lang/IllegalStateException", .declares ⟨"java/lang/RuntimeException", "<init>", "(Ljava/lang/String;)V"⟩, .declares ⟨"java/lang/Exception", "<init>", "(Ljava/lang/String;)V"⟩, .declares ⟨"java/lang/Throwable", "<init>", "(Ljava/lang/String;)V"⟩]
def XL (b : Nat) (U : State) : Prop := ∃ (s0 : State) (a0 : Array Value), (∀ w ∈ xWs, w.before a0 s0 = true) ∧ (Cond.stringRef "TreeCounts" 170 "more than 14 arcs").before a0 s0 = true ∧ s0.heap.size = b ∧ s0.WarmedH U.vm ∧ (∀ q, q < b → U.heap[q]? = s0.heap[q]?)
theorem XL.up {b : Nat} {U V : State} (h : XL b U) (hW : U.WarmedH V.vm) (hH : ∀ q, q < b → V.heap[q]? = U.heap[q]?) : XL b V := by
  obtain ⟨s0, a0, h1, h2, h3, h4, h5⟩ := h
  exact ⟨s0, a0, h1, h2, h3, State.WarmedH.trans h4 hW, fun q hq => (hH q hq).trans (h5 q hq)⟩
theorem XL.eq {b : Nat} {U V : State} (h : XL b U) (hv : V.vm = U.vm) (hH : V.heap = U.heap) : XL b V := by
  obtain ⟨s0, a0, h1, h2, h3, h4, h5⟩ := h
  exact ⟨s0, a0, h1, h2, h3, by rw [hv]; exact h4, fun q hq => by rw [hH]; exact h5 q hq⟩
theorem x_found {s U : State} (hv : U.vm = s.vm) (C f d : String) : U.fieldFound? C f d = s.fieldFound? C f d := by
  unfold State.fieldFound?
  rw [hv]
theorem x_lays {s U : State} {a a' : Array Value} {C f d : String} (hv : U.vm = s.vm) (hh : ∀ (q : Nat) (c : Cell), s.heap[q]? = some c → U.heap[q]? = some c) (h : (Cond.laysStatic C f d).before a s = true) : (Cond.laysStatic C f d).before a' U = true := by
  obtain ⟨c, k, i, fd, ad, cell, hc, hf, hst, hsta, hcell, hiss, hcls, hlt, hty⟩ := Cond.laysStatic_spec h
  have hcell' := hh _ _ hcell
  have hf' : U.fieldFound? C f d = some (c, k, i, fd) := (x_found hv C f d).trans hf
  have hc' : U.vm.findClass C = some c := by rw [hv]; exact hc
  show (Cond.laysStatic C f d).holds a' U none U [] = true
  simp [Cond.holds, Cond.value, hc', hf', hst, hsta, hcell', hiss, hcls, hlt, hty]
theorem x_isref {s U : State} {a a' : Array Value} {C f d : String} (hv : U.vm = s.vm) (hh : ∀ (q : Nat) (c : Cell), s.heap[q]? = some c → U.heap[q]? = some c) (hl : (Cond.laysStatic C f d).before a s = true) (h : (Cond.isRef (.static C f d)).before a s = true) : (Cond.isRef (.static C f d)).before a' U = true := by
  obtain ⟨c, k, i, fd, ad, cell, hc, hf, hst, hsta, hcell, hiss, hcls, hlt, hty⟩ := Cond.laysStatic_spec hl
  have hcell' := hh _ _ hcell
  have hf' : U.fieldFound? C f d = some (c, k, i, fd) := (x_found hv C f d).trans hf
  obtain ⟨u, hu⟩ := Cond.staticRefV hf hst hsta hcell hiss h
  have e1 : (Term.static C f d).eval a' U none [] U = cell.slots[fd.slot]? := by
    simp [Term.eval, State.fieldNamed?, hf', hst, hsta, hcell', hiss]
  show (Cond.isRef (.static C f d)).holds a' U none U [] = true
  obtain ⟨v, hv2⟩ := u
  simp only [Cond.holds, Cond.value]
  rw [e1, hu]
  cases v <;> first | rfl | (simp [Value.isRef] at hv2)
theorem x_face {s0 U : State} {a0 a : Array Value} {c : Cond} (hf : c.keepsFace = true) (ht : c.onTables = true) (hW : s0.WarmedH U.vm) (h : c.before a0 s0 = true) : c.before a U = true := by
  have l5 : c.before a0 (s0.setVm U.vm) = true := Cond.before_shiftedFace (State.Shifted.of_warmed hW) _ hf h
  have l6 := Cond.onTables_vm (A := a0) (A' := a) (U := s0) (U' := U) U.vm c ht
  rw [l6, State.setVm_self] at l5
  exact l5
theorem XL.words {b : Nat} {U : State} (h : XL b U) (a : Array Value) : ∀ w ∈ xWs, w.before a U = true := by
  obtain ⟨s0, a0, h1, -, h3, h4, h5⟩ := h
  have sh : ∀ w ∈ xWs, w.keeps = true → w.before a0 (s0.setVm U.vm) = true := fun w hw hk => Cond.holds_shifted (State.Shifted.of_warmed h4) w [] hk (h1 w hw)
  have hh : ∀ (q : Nat) (c : Cell), (s0.setVm U.vm).heap[q]? = some c → U.heap[q]? = some c := fun q c hq => by
    have hq' : s0.heap[q]? = some c := hq
    have hlt : q < b := by rw [← h3]; exact (Array.getElem?_eq_some_iff.mp hq').1
    rw [h5 q hlt]; exact hq'
  intro w hw
  simp only [xWs, List.mem_cons, List.not_mem_nil, or_false] at hw
  have sv : U.vm = (s0.setVm U.vm).vm := rfl
  have l1 := sh (.laysStatic "java/lang/Throwable" "UNASSIGNED_STACK" "[Ljava/lang/StackTraceElement;") (List.mem_of_getElem? (i := 0) rfl) rfl
  have l2 := sh (.laysStatic "java/lang/Throwable" "SUPPRESSED_SENTINEL" "Ljava/util/List;") (List.mem_of_getElem? (i := 1) rfl) rfl
  have l3 := sh (.isRef (.static "java/lang/Throwable" "UNASSIGNED_STACK" "[Ljava/lang/StackTraceElement;")) (List.mem_of_getElem? (i := 2) rfl) rfl
  have l4 := sh (.isRef (.static "java/lang/Throwable" "SUPPRESSED_SENTINEL" "Ljava/util/List;")) (List.mem_of_getElem? (i := 3) rfl) rfl
  rcases hw with rfl | rfl | rfl | rfl | rfl | rfl | rfl | rfl
  · exact x_lays (s := s0.setVm U.vm) sv hh l1
  · exact x_lays (s := s0.setVm U.vm) sv hh l2
  · exact x_isref (s := s0.setVm U.vm) sv hh l1 l3
  · exact x_isref (s := s0.setVm U.vm) sv hh l2 l4
  · exact x_face rfl rfl h4 (h1 _ (List.mem_of_getElem? (i := 4) rfl))
  · exact x_face rfl rfl h4 (h1 _ (List.mem_of_getElem? (i := 5) rfl))
  · exact x_face rfl rfl h4 (h1 _ (List.mem_of_getElem? (i := 6) rfl))
  · exact x_face rfl rfl h4 (h1 _ (List.mem_of_getElem? (i := 7) rfl))
section XW
variable {p : Program} {l : Launch} {e : Env} {R : Room} {s : State} {m : MethodId} {args : Array Value} {below : List Frame} {meth : Method} {c : Code} {H : Heap} {locs : List Loc} {cells slots : Nat} {Q : State → Prop} {cc : ByteArray} {pc : Nat} {ls : Array Slot} {rest : List Value}
theorem w_ldcS (hexec : p.tables.exec = Jvm.exec) (hb : c.code = cc) {s0 : State} {a0 : Array Value} {own tx : String} {index : Nat} (hown : s.vm.findClass own = some m.cls) (hW : s0.WarmedH s.vm) (hs0 : (Cond.stringRef own index tx).before a0 s0 = true) (hdg : decode cc pc = .ok (.ldc index, 2))
    (k : ∀ q, W p l e R s m args below meth c H locs cells slots Q (F0 m (pc + 2) ls (.ref q :: rest))) : W p l e R s m args below meth c H locs cells slots Q (F0 m pc ls rest) := by
  intro T hT X
  have hown0 : s0.vm.findClass own = some m.cls := by
    have := hW.alike.findClass own none
    rw [← hown, this]
  obtain ⟨k0, cf, i, a, hk, hcf, hcp, -, hr, -⟩ := Cond.stringRef_spec hown0 hs0
  have hW2 := State.WarmedH.trans hW X.warmed
  obtain ⟨k', hk', he⟩ := hW2.alike.2.2 _ _ hk
  have hr' : k'.resolved[index]? = some (some (.string a)) := by
    rcases hW2.entry hk hk' index with h | ⟨h, -⟩
    · rw [h]; exact hr
    · rw [hr] at h; cases h
  obtain ⟨t, a1, b1⟩ := k a T hT X
  refine ⟨t, ?_, b1⟩
  jvm_step X.here [hexec, hb, hdg, ldc.wp_string (e := e) (s := T) (f := F0 m pc ls rest) X.here.top hk' (by rw [he]; exact hcf) hcp hr']
  exact a1
end XW
/-- the search for a handler, its one entry's class not yet looked up -/
theorem x_goCold {E : CtlPost} {e : Env} {d : Bool} {acts : List Action} {s : State} {f : JFrame} {a : Addr} {Q : Handler → Pre} {x : ExceptionTableEntry} {t : List ExceptionTableEntry} {cT : ClassId} {vm' : Vm} {cell : Cell} (hx : covers x f.pc = true) (h0 : x.catchType ≠ 0)
    (hg : (Jvm.resolveClass f.method.cls x.catchType).Gives e.toSetting s.vm (.ok cT) vm') (hsz : vm'.classes.size ≤ s.vm.classes.size) (hcell : s.heap[a]? = some cell) (hobj : ∀ k, cell.vm ≠ .statics k)
    (hk : ∃ k, vm'.classes[cell.cls]? = some k) (hc : ∃ k, vm'.classes[cT]? = some k) (hfit : vm'.assignable cell.cls cT = true) :
    wp (findHandler.go f a (x :: t)) Q E e d acts s ↔ Q (.found x.handlerPc) d acts (s.setVm vm') := by
  obtain ⟨ha, ht⟩ := hg.op (op := VmOp.resolveClass f.method.cls x.catchType) rfl
  simp only [covers] at hx
  simp [findHandler.go, hx, h0, ha, ht, hsz, hcell, hobj, hk, hc, hfit, VmOp.dirties, VmOp.acts]
theorem x_caught {tb : Tables} {e : Env} {s target : State} {g : JFrame} {c : Code} {below : List Frame} {a : Addr} {vm' : Vm} (h : At s g.method c below) {pc : Nat}
    (hfind : ∀ (Q : Handler → Pre) (E : CtlPost) (d : Bool) (acts : List Action), wp (findHandler g a) Q E e d acts ((s.setTop g).pushFrame (.throwing a)) ↔ Q (.found pc) d acts (((s.setTop g).pushFrame (.throwing a)).setVm vm'))
    (hrest : Steps tb e below ((s.setVm vm').setTop { g with pc := pc, stack := [.ref a] }) target) :
    Steps tb e below ((s.setTop g).pushFrame (.throwing a)) target := by
  obtain ⟨hgo, hw⟩ := h.throwing a
  have hstep : (stepThrowing e ((s.setTop g).pushFrame (.throwing a)) a (.java g :: s.frames.tail)).Is ((((s.setTop g).pushFrame (.throwing a)).setVm vm').setFrames (.java { g with pc := pc, stack := [.ref a] } :: s.frames.tail)) [] := by
    simp only [stepThrowing, searchFrame, vmDo]
    generalize hr : Sem.go _ e false [] ((s.setTop g).pushFrame (.throwing a)) = res
    obtain ⟨as, rfl, ha⟩ := Sem.eq_ok_of hr (a := Handler.found pc) (s' := ((s.setTop g).pushFrame (.throwing a)).setVm vm') (acts' := []) (by simp [hfind _ _ _ _])
    exact ⟨rfl, ha⟩
  refine Steps.head hgo hw ?_
  rw [stepThread_throwing (frames_entered h.top _), hstep.1]
  obtain ⟨g₀, hg⟩ := Option.isSome_iff_exists.mp h.top
  obtain ⟨r, hr⟩ := State.topJava?_eq_some.mp hg
  have hr2 : (s.setVm vm').frames = .java g₀ :: r := hr
  rw [State.setTop_of_frames _ hr2] at hrest
  have e1 : (((s.setTop g).pushFrame (.throwing a)).setVm vm').setFrames (.java { g with pc := pc, stack := [.ref a] } :: s.frames.tail) = (s.setVm vm').setFrames (.java { g with pc := pc, stack := [.ref a] } :: r) := by
    rw [State.pushFrame, State.setTop_of_frames _ hr, State.setFrames_setFrames, hr]
    show ((s.setFrames _).setVm vm').setFrames _ = _
    show ((s.setVm vm').setFrames _).setFrames _ = _
    rw [State.setFrames_setFrames]
    rfl
  rw [e1]
  exact hrest
