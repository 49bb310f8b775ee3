-- ===== end of PART A; then your names; then what follows =====
/-! THE CLAIM OUT OF ONE WALK OF THE LAW'S BODY. Your part is whole_start (and what it stands on); all else here is the same for every law, but numbers. -/
def R_law : String := "TreeCountsLaw"
def lw_P (b : Addr) (xs : List Int32) (args : Array Value) (s : State) : Prop := args = #[.ref b] ∧ s.IntsAt b xs ∧ xs.length ≤ 2560 ∧ (Jvm.Cond.and given_1 narrow_1).before args s = true
def lw_Q (_ : Array Value) (s : State) (o : Outcome) (t : State) : Prop := o = .returned (some (.int 1)) ∧ Framed s o t [] 601024 7293034
def lw_Z (below : List Frame) (a : Array Value) (s : State) : State → Prop := fun t => ∃ o, t.status = .running ∧ Ended t below o ∧ lw_Q a s o t
/-- the law's own end, with 1 on the stack, nothing written that was there before, its room as the claim has it -/
theorem lw_ret {p : Program} {l : Launch} {e : Env} {s : State} {m : MethodId} {below : List Frame} {meth : Method} {c : Code} {b : Nat} (hx : p.tables.exec = Jvm.exec) (hb : c.code = code) (hr : meth.sig.returnType = ret) (hlocks : meth.locks = false) {pc : Nat} {H : Heap} {ls : Array Slot} (hdg : decode code pc = .ok (.ireturn, 1)) : W p l e room_1 s m #[Value.ref b] below meth c H [] 601024 7293034 (lw_Z below #[Value.ref b] s) (F0 m pc ls [.int 1]) := by
  intro T hT X
  obtain ⟨fs, hret, hrun, hended, hW, hframe⟩ := X.leave (v := some (.int 1)) (hlocks := hlocks) (fun h => by rw [hr] at h; cases h)
  have hmeth' : T.vm.method? m = some meth := X.method'
  refine ⟨T.setFrames fs, ?_, .returned (some (.int 1)), hrun, hended, rfl, ⟨_, rfl⟩, hW, hframe⟩
  jvm_step X.here [X.here.top, hx, hb, hdg, hmeth', hr, ret, narrow_b1]
  (try refine ⟨rfl, ?_⟩); (try refine ⟨rfl, ?_⟩)
  first | (intro acts; rw [hret _ acts rfl rfl rfl]) | rw [hret _ _ rfl rfl rfl]
  exact Steps.refl _
/-- what holds at the law's entry: the machine, the code, the tables' words (any of lw_tbl by 'hts w (by decide +kernel)'), the script of L ints xs at the cell b, what the Statement gives of the start (any of its parts by flat_of_before) -/
def lw_At (p : Program) (s : State) (m : MethodId) (meth : Method) (c : Code) (b L : Nat) (xs : Nat → Int32) : Prop :=
  p.tables.exec = Jvm.exec ∧ c.code = code ∧ meth.sig.returnType = ret ∧ c.maxLocals = 8 ∧ s.vm.findClass R_law = some m.cls ∧ (∀ w ∈ lw_tbl, w.before #[Value.ref b] s = true) ∧ va_X b L xs s s.heap ∧ b < s.heap.size ∧ meth.locks = false ∧ (Jvm.Cond.and given_1 narrow_1).before #[Value.ref b] s = true

/-- the start: the script, the words of the start -/
def zLX (b0 L b : Nat) (xs : Nat → Int32) (args : Array Value) (s : State) : Prop := args = #[Value.ref b0] ∧ va_X b0 L xs s s.heap ∧ b0 < s.heap.size ∧ s.heap.size = b ∧ (∀ w ∈ xWs, w.before args s = true) ∧ (Cond.stringRef "TreeCounts" 170 "more than 14 arcs").before args s = true
def zLFi (b0 L b : Nat) (xs : Nat → Int32) : List Frame → Array Value → State → State → Prop := fun below args s t => zLX b0 L b xs args s → lw_Z below args s t
theorem zLX.xl {b0 L b : Nat} {xs : Nat → Int32} (args : Array Value) (s : State) (h : zLX b0 L b xs args s) : XL b s := ⟨s, args, h.2.2.2.2.1, h.2.2.2.2.2, h.2.2.2.1, State.WarmedH.refl s, fun _ _ => rfl⟩
section ZL
variable {l : Launch} {D : va_G} {cl : List vw_C} {tys : List (ClassId × FieldType)} {Ts Nw : List Cond} {own nm : String} {cc : ByteArray} {nL : Nat} {rt : Option FieldType} {R : Room} {b b0 L : Nat} {xs : Nat → Int32} {k n N : Nat} {σ : Nat → Option va_E} {pc : Nat} {lv : List (Nat × Value)} {st : List Value}
theorem z_sld {i : Int32} (hd : decode cc pc = .ok (.iaload, 1)) (hi : vp_in i L) (kk : Z l D cl tys Ts Nw own nm cc nL rt R b (zLFi b0 L b xs) k n N σ (pc + 1) lv (.int (xs i.toNatClampNeg) :: st)) : Z l D cl tys Ts Nw own nm cc nL rt R b (zLFi b0 L b xs) k n N σ pc lv (.int i :: .ref b0 :: st) := by
  intro p e s m args below meth c H locs ls hF hP hS hl
  by_cases hX : zLX b0 L b xs args s
  · obtain ⟨-, hx, hlt, hsz, -⟩ := id hX
    exact va_sld hF.1 hF.2.1 hx hlt (show ¬ b ≤ b0 by omega) hS hi hd (kk p e s m args below meth c H locs ls hF hP hS hl)
  · exact fun T _ _ => ⟨_, Steps.refl _, fun h => absurd h hX⟩
theorem z_slen (hd : decode cc pc = .ok (.arraylength, 1)) (kk : Z l D cl tys Ts Nw own nm cc nL rt R b (zLFi b0 L b xs) k n N σ (pc + 1) lv (.int (Int32.ofNat L) :: st)) : Z l D cl tys Ts Nw own nm cc nL rt R b (zLFi b0 L b xs) k n N σ pc lv (.ref b0 :: st) := by
  intro p e s m args below meth c H locs ls hF hP hS hl
  by_cases hX : zLX b0 L b xs args s
  · obtain ⟨-, hx, hlt, hsz, -⟩ := id hX
    exact va_slen hF.1 hF.2.1 hx hlt (show ¬ b ≤ b0 by omega) hS hd (kk p e s m args below meth c H locs ls hF hP hS hl)
  · exact fun T _ _ => ⟨_, Steps.refl _, fun h => absurd h hX⟩
theorem z_law1 (hd : decode code pc = .ok (.ireturn, 1)) (hk : k ≤ 601024) (hn : n ≤ 7293034) : Z l D cl tys Ts Nw own nm code nL ret room_1 b (zLFi b0 L b xs) k n N σ pc lv [.int 1] := by
  intro p e s m args below meth c H locs ls hF hP hS hl
  by_cases hX : zLX b0 L b xs args s
  · obtain ⟨ea, hx, hlt, hsz, -⟩ := id hX
    subst ea
    have w := lw_ret (p := p) (l := l) (e := e) (s := s) (m := m) (below := below) (meth := meth) (c := c) (b := b0) hF.1 hF.2.1 hF.2.2.2.1 hF.2.2.2.2.1 (H := H) (ls := ls) hd
    have w2 : W p l e room_1 s m #[Value.ref b0] below meth c H locs k n (lw_Z below #[Value.ref b0] s) (F0 m pc ls [.int 1]) := va_forget (fun q hq => by have h9 : b ≤ q.base := hS.2.2 q hq; omega) (W.widen hk hn w)
    exact fun T hT X => by obtain ⟨t, a1, q⟩ := w2 T hT X; exact ⟨t, a1, fun _ => q⟩
  · exact fun T _ _ => ⟨_, Steps.refl _, fun h => absurd h hX⟩
/-- a call of the class, its twin to come -/
theorem z_jint {Fi : List Frame → Array Value → State → State → Prop} {cI cJ cA cP cZ : ClassId} {q : Nat} {yC yM : MethodName} {wC wM : List Cond} {fr lo fr' lo' index maxL i : Nat} {bytes : ByteArray} {ret' : Option FieldType} {As rest fs : List Value} {C : String} {T : u_T} {N0 : Nat}
    (hd : decode cc pc = .ok (.invokevirtual index, 3)) (cw : zCV Ts own C index yC bytes maxL ret' wC i) (hσ : σ 0 = some (.inr (0, fs))) (hc : kCl[0]? = some (C, T, N0)) (hJ : ∃ v : Int32, JN l D tys b cI cJ cA cP cZ q N σ yC wC fr lo yM wM fr' lo' As (some (.int v))) (hst : st = As.reverse ++ .ref (b + 0) :: rest) (hn : As.length = i) (hW : (rest.map fun v => v.category).sum ≤ 8) (hR : fr + 1 ≤ R.frames ∧ 8 + (maxL + 11) + lo ≤ R.locals) (hf : k ≤ R.cells ∧ n ≤ R.slots)
    (kk : ∀ (v : Int32) (σ' : Nat → Option va_E), (∃ fs, σ' 54 = some (.inr (9, fs))) → zM l D kCl tys kNw b yM wM fr' lo' 0 0 (.ref (b + 54) :: As) N σ' (fun oc N'' σ'' => oc = .returned (some (.int v)) ∧ N'' = N ∧ LV b cI cJ cA cP cZ (q + 1) σ'' ∧ σ'' 74 = σ 74) → Z l D kCl tys Ts kNw own nm cc nL rt R b Fi k n N σ' (pc + 3) lv (.int v :: rest)) : Z l D kCl tys Ts kNw own nm cc nL rt R b Fi k n N σ pc lv st := by
  obtain ⟨v, hv⟩ := hJ
  refine z_callV (a := 0) hd cw hσ hc hv hst hn hW hR hf ?_
  rintro _ _ σ' ⟨h1, rfl, h54, hm⟩
  cases h1
  exact kk v σ' h54 hm
theorem z_jlong {Fi : List Frame → Array Value → State → State → Prop} {cI cJ cA cP cZ : ClassId} {q : Nat} {yC yM : MethodName} {wC wM : List Cond} {fr lo fr' lo' index maxL i : Nat} {bytes : ByteArray} {ret' : Option FieldType} {As rest fs : List Value} {C : String} {T : u_T} {N0 : Nat}
    (hd : decode cc pc = .ok (.invokevirtual index, 3)) (cw : zCV Ts own C index yC bytes maxL ret' wC i) (hσ : σ 0 = some (.inr (0, fs))) (hc : kCl[0]? = some (C, T, N0)) (hJ : ∃ v : Int64, JN l D tys b cI cJ cA cP cZ q N σ yC wC fr lo yM wM fr' lo' As (some (.long v))) (hst : st = As.reverse ++ .ref (b + 0) :: rest) (hn : As.length = i) (hW : (rest.map fun v => v.category).sum ≤ 8) (hR : fr + 1 ≤ R.frames ∧ 8 + (maxL + 11) + lo ≤ R.locals) (hf : k ≤ R.cells ∧ n ≤ R.slots)
    (kk : ∀ (v : Int64) (σ' : Nat → Option va_E), (∃ fs, σ' 54 = some (.inr (9, fs))) → zM l D kCl tys kNw b yM wM fr' lo' 0 0 (.ref (b + 54) :: As) N σ' (fun oc N'' σ'' => oc = .returned (some (.long v)) ∧ N'' = N ∧ LV b cI cJ cA cP cZ (q + 1) σ'' ∧ σ'' 74 = σ 74) → Z l D kCl tys Ts kNw own nm cc nL rt R b Fi k n N σ' (pc + 3) lv (.long v :: rest)) : Z l D kCl tys Ts kNw own nm cc nL rt R b Fi k n N σ pc lv st := by
  obtain ⟨v, hv⟩ := hJ
  refine z_callV (a := 0) hd cw hσ hc hv hst hn hW hR hf ?_
  rintro _ _ σ' ⟨h1, rfl, h54, hm⟩
  cases h1
  exact kk v σ' h54 hm
theorem z_jvoid {Fi : List Frame → Array Value → State → State → Prop} {cI cJ cA cP cZ : ClassId} {q : Nat} {yC yM : MethodName} {wC wM : List Cond} {fr lo fr' lo' index maxL i : Nat} {bytes : ByteArray} {ret' : Option FieldType} {As rest fs : List Value} {C : String} {T : u_T} {N0 : Nat}
    (hd : decode cc pc = .ok (.invokevirtual index, 3)) (cw : zCV Ts own C index yC bytes maxL ret' wC i) (hσ : σ 0 = some (.inr (0, fs))) (hc : kCl[0]? = some (C, T, N0)) (hJ : JN l D tys b cI cJ cA cP cZ q N σ yC wC fr lo yM wM fr' lo' As none) (hst : st = As.reverse ++ .ref (b + 0) :: rest) (hn : As.length = i) (hW : (rest.map fun v => v.category).sum ≤ 8) (hR : fr + 1 ≤ R.frames ∧ 8 + (maxL + 11) + lo ≤ R.locals) (hf : k ≤ R.cells ∧ n ≤ R.slots)
    (kk : ∀ (σ' : Nat → Option va_E), (∃ fs, σ' 54 = some (.inr (9, fs))) → zM l D kCl tys kNw b yM wM fr' lo' 0 0 (.ref (b + 54) :: As) N σ' (fun oc N'' σ'' => oc = .returned none ∧ N'' = N ∧ LV b cI cJ cA cP cZ (q + 1) σ'' ∧ σ'' 74 = σ 74) → Z l D kCl tys Ts kNw own nm cc nL rt R b Fi k n N σ' (pc + 3) lv rest) : Z l D kCl tys Ts kNw own nm cc nL rt R b Fi k n N σ pc lv st := by
  refine z_callV (a := 0) hd cw hσ hc hJ hst hn hW hR hf ?_
  rintro _ _ σ' ⟨h1, rfl, h54, hm⟩
  cases h1
  exact kk σ' h54 hm
end ZL
theorem nI_int {k : Nat} (h : k < 2 ^ 31) : (nI k).toInt = k := by
  have h6 : (nI k).toNatClampNeg = k := nI_clamp h
  have h7 : (nI k).toInt.toNat = k := h6
  have h8 : (0 : Int32) ≤ nI k := nI_le (a := 0) (Nat.zero_le k) h
  have h9 : (0 : Int) ≤ (nI k).toInt := Int32.le_iff_toInt_le.mp h8
  omega
theorem lw_cmp {L i : Nat} (hL : L ≤ 2560) (hi : i ≤ 2565) : (Int32.ofNat L - 5 < nI i) ↔ L < i + 5 := by
  have e1 : (Int32.ofNat L - 5).toInt = L - 5 := by
    have h1 : (Int32.ofNat L).toInt = L := nI_int (k := L) (by omega)
    rw [Int32.toInt_sub, h1]
    show ((L : Int) - 5).bmod (2 ^ 32) = L - 5
    exact Int.bmod_eq_of_le (by omega) (by omega)
  rw [Int32.lt_iff_toInt_lt, e1, nI_int (k := i) (by omega)]
  omega
