/-! Z: a walk of one method, with the machine's fixed things put away. The heap from address b on is a map of cells: the cell k lies at b + k; N cells are there. A contract zM says what a method makes of the whole map. -/
def zUp (σ : Nat → Option va_E) (k : Nat) (x : va_E) : Nat → Option va_E := fun j => if j = k then some x else σ j
def zP (D : va_G) (cl : List vw_C) (b N : Nat) (σ : Nat → Option va_E) (H : Heap) : Prop := H.size = b + N ∧ ∀ (k : Nat) (x : va_E), σ k = some x → va_at D cl (b + k, x) H
def zIsN (w : Cond) : Bool := match w with
  | .fieldLinkNest _ _ _ _ _ _ => true
  | .methodLinkNest _ _ _ _ => true
  | .arrayOver (.object _) => true
  | .arrayOver (.array _) => true
  | _ => false
theorem zAOA {t : FieldType} {u U : State} (hvm : u.vm.Alike U.vm) (h : va_Nw (.arrayOver (.array t)) u) : va_Nw (.arrayOver (.array t)) U := by
  obtain ⟨comp, c, k, h1, h2, h3, h4, h5⟩ := arrayOverA_spec h
  obtain ⟨k', hk', he⟩ := hvm.2.2 _ _ h3
  have hi : (U.vm.classes.findIdx? fun (x : Class) => match x.kind with | .array component _ => component == comp | _ => false) = some c := by
    rw [hvm.findIdx?_eq _ (fun _ => rfl)]; exact h2
  have hkind : k'.kind = .array comp (.array t) := by rw [he]; exact h4
  have f1 : U.vm.findClass (FieldType.array t).toString = some comp := by rw [hvm.findClass]; exact h1
  have f2 : U.vm.findClass ("[" ++ (FieldType.array t).toString) = some c := by rw [hvm.findClass]; exact h5
  unfold va_Nw Cond.before Cond.holds
  simp only [Cond.value]
  rw [f1, Option.bind_some]
  refine (congrArg (fun o : Option Nat => (o.bind (fun c => (U.vm.classes[c]?).map fun (k : Class) => match k.kind with | .array _ ty => decide (ty = FieldType.array t) && decide (U.vm.findClass ("[" ++ (FieldType.array t).toString) = some c) | _ => false) == some true)) hi).trans ?_
  simp [hk', hkind, f2]
def zN (Nw : List Cond) (U : State) : Prop := ∀ w ∈ Nw, va_Nw w U ∧ zIsN w = true
def zF (D : va_G) (cl : List vw_C) (tys : List (ClassId × FieldType)) (Ts Nw : List Cond) (own nm : String) (cc : ByteArray) (nL : Nat) (ret : Option FieldType) (b : Nat) (p : Program) (s : State) (m : MethodId) (args : Array Value) (meth : Method) (c : Code) : Prop :=
  p.tables.exec = Jvm.exec ∧ c.code = cc ∧ c.maxLocals = nL ∧ meth.sig.returnType = ret ∧ meth.locks = false ∧ s.vm.findClass own = some m.cls ∧ (∀ w ∈ Ts, w.before args s = true) ∧ va_K D cl tys s ∧ zN Nw s ∧ meth.name = nm ∧ b ≤ s.heap.size
def Z (l : Launch) (D : va_G) (cl : List vw_C) (tys : List (ClassId × FieldType)) (Ts Nw : List Cond) (own nm : String) (cc : ByteArray) (nL : Nat) (ret : Option FieldType) (R : Room) (b : Nat) (Fi : List Frame → Array Value → State → State → Prop) (k n N : Nat) (σ : Nat → Option va_E) (pc : Nat) (lv : List (Nat × Value)) (st : List Value) : Prop :=
  ∀ (p : Program) (e : Env) (s : State) (m : MethodId) (args : Array Value) (below : List Frame) (meth : Method) (c : Code) (H : Heap) (locs : List Loc) (ls : Array Slot),
    zF D cl tys Ts Nw own nm cc nL ret b p s m args meth c → zP D cl b N σ H → va_S (fun q => b ≤ q) s.heap H locs → lv_has ls nL lv →
    W p l e R s m args below meth c H locs k n (Fi below args s) (F0 m pc ls st)
/-- a method's end -/
def zQ (D : va_G) (cl : List vw_C) (b : Nat) (Q : Outcome → Nat → (Nat → Option va_E) → Prop) : Array Value → State → Outcome → State → Prop := fun _ st oc t =>
  (∃ (N : Nat) (σ : Nat → Option va_E), Q oc N σ ∧ zP D cl b N σ t.heap) ∧ va_F (fun q => b ≤ q) st t
def zFi (D : va_G) (cl : List vw_C) (b mc ms : Nat) (Q : Outcome → Nat → (Nat → Option va_E) → Prop) : List Frame → Array Value → State → State → Prop := fun below args s => MQ below (zQ D cl b Q) args s mc ms (fun q => b ≤ q)
/-- a contract -/
def zM (l : Launch) (D : va_G) (cl : List vw_C) (tys : List (ClassId × FieldType)) (Nw : List Cond) (b : Nat) (y : MethodName) (ws : List Cond) (fr lo mc ms : Nat) (av : List Value) (N : Nat) (σ : Nat → Option va_E) (Q : Outcome → Nat → (Nat → Option va_E) → Prop) : Prop :=
  Met l y ws { frames := fr, cells := mc, slots := ms, locals := lo } (va_Pc av (fun U => zP D cl b N σ U.heap ∧ va_K D cl tys U ∧ zN Nw U)) (zQ D cl b Q) mc ms (fun q => b ≤ q)
/-- one answer, one heap -/
def zD (v : Option Value) (N : Nat) (σ : Nat → Option va_E) : Outcome → Nat → (Nat → Option va_E) → Prop := fun oc N' σ' => oc = .returned v ∧ N' = N ∧ σ' = σ
theorem zUp_s (σ : Nat → Option va_E) (k : Nat) (x : va_E) : zUp σ k x k = some x := if_pos rfl
theorem zUp_n {σ : Nat → Option va_E} {k j : Nat} {x : va_E} (h : j ≠ k) : zUp σ k x j = σ j := if_neg h
theorem zP.set {D : va_G} {cl : List vw_C} {b N k : Nat} {σ : Nat → Option va_E} {x0 x : va_E} {H H1 : Heap} (h : zP D cl b N σ H) (z : H1.size = H.size) (oq : ∀ q : Nat, q ≠ b + k → H1[q]? = H[q]?) (hx : va_at D cl (b + k, x) H1) : zP D cl b N (zUp σ k x) H1 := by
  refine ⟨z.trans h.1, fun j y hy => ?_⟩
  by_cases hj : j = k
  · subst hj
    rw [zUp_s] at hy
    cases hy
    exact hx
  · rw [zUp_n hj] at hy
    exact (h.2 j y hy).kept (oq (b + j) (by omega))
theorem zP.push {D : va_G} {cl : List vw_C} {b N : Nat} {σ : Nat → Option va_E} {x : va_E} {H H1 : Heap} (h : zP D cl b N σ H) (z : H1.size = b + N + 1) (oq : ∀ q : Nat, q < b + N → H1[q]? = H[q]?) (hx : va_at D cl (b + N, x) H1) : zP D cl b (N + 1) (zUp σ N x) H1 := by
  refine ⟨z, fun j y hy => ?_⟩
  by_cases hj : j = N
  · subst hj
    rw [zUp_s] at hy
    cases hy
    exact hx
  · rw [zUp_n hj] at hy
    have h1 := h.2 j y hy
    have h2 := h1.lt
    rw [h.1] at h2
    exact h1.kept (oq (b + j) h2)
theorem zP.one {D : va_G} {cl : List vw_C} {b N k : Nat} {σ : Nat → Option va_E} {x : va_E} {H : Heap} (h : zP D cl b N σ H) (hk : σ k = some x) : va_P D cl [(b + k, x)] H := by
  intro j q hq
  match j, hq with
  | 0, hq => cases hq; exact h.2 k x hk
  | j + 1, hq => simp at hq
theorem zN.same {Nw : List Cond} {u U : State} (h : u.vm = U.vm) (hN : zN Nw u) : zN Nw U := by
  intro w hw
  obtain ⟨h1, h2⟩ := hN w hw
  refine ⟨?_, h2⟩
  cases w <;> simp [zIsN] at h2
  all_goals first | exact h1.same rfl h | (rename_i t; cases t <;> simp at h2 <;> first | exact va_AO.moved (by rw [h]; exact Vm.Alike.refl _) h1 | exact zAOA (by rw [h]; exact Vm.Alike.refl _) h1)
theorem zN.warm {Nw : List Cond} {u U : State} (h : u.WarmedH U.vm) (hN : zN Nw u) : zN Nw U := by
  intro w hw
  obtain ⟨h1, h2⟩ := hN w hw
  refine ⟨?_, h2⟩
  cases w <;> simp [zIsN] at h2
  all_goals first | exact h1.warmF h | exact h1.warmM h | (rename_i t; cases t <;> simp at h2 <;> first | exact va_AO.moved h.alike h1 | exact zAOA h.alike h1)
section ZR
variable {l : Launch} {D : va_G} {cl : List vw_C} {tys : List (ClassId × FieldType)} {Ts Nw : List Cond} {own nm : String} {cc : ByteArray} {nL : Nat} {ret : Option FieldType} {R : Room} {b : Nat} {Fi : List Frame → Array Value → State → State → Prop} {k n N : Nat} {σ : Nat → Option va_E} {pc : Nat} {lv : List (Nat × Value)} {st : List Value}
theorem z_iconst {i : Int} {v : Int32} (hd : decode cc pc = .ok (.iconst i, 1)) (hv : Int32.ofInt i = v) (kk : Z l D cl tys Ts Nw own nm cc nL ret R b Fi k n N σ (pc + 1) lv (.int v :: st)) : Z l D cl tys Ts Nw own nm cc nL ret R b Fi k n N σ pc lv (st) := fun p e s m args below meth c H locs ls hF hP hS hl => lv_iconst hF.1 hF.2.1 hd hv (kk p e s m args below meth c H locs ls hF hP hS hl)
theorem z_bipush {i : Int} {v : Int32} (hd : decode cc pc = .ok (.bipush i, 2)) (hv : (Int8.ofInt i).toInt32 = v) (kk : Z l D cl tys Ts Nw own nm cc nL ret R b Fi k n N σ (pc + 2) lv (.int v :: st)) : Z l D cl tys Ts Nw own nm cc nL ret R b Fi k n N σ pc lv (st) := fun p e s m args below meth c H locs ls hF hP hS hl => lv_bipush hF.1 hF.2.1 hd hv (kk p e s m args below meth c H locs ls hF hP hS hl)
theorem z_sipush {i : Int} {v : Int32} (hd : decode cc pc = .ok (.sipush i, 3)) (hv : (Int16.ofInt i).toInt32 = v) (kk : Z l D cl tys Ts Nw own nm cc nL ret R b Fi k n N σ (pc + 3) lv (.int v :: st)) : Z l D cl tys Ts Nw own nm cc nL ret R b Fi k n N σ pc lv (st) := fun p e s m args below meth c H locs ls hF hP hS hl => lv_sipush hF.1 hF.2.1 hd hv (kk p e s m args below meth c H locs ls hF hP hS hl)
theorem z_lconst {i : Fin 2} {v : Int64} (hd : decode cc pc = .ok (.lconst i, 1)) (hv : Int64.ofNat (i : Nat) = v) (kk : Z l D cl tys Ts Nw own nm cc nL ret R b Fi k n N σ (pc + 1) lv (.long v :: st)) : Z l D cl tys Ts Nw own nm cc nL ret R b Fi k n N σ pc lv (st) := fun p e s m args below meth c H locs ls hF hP hS hl => lv_lconst hF.1 hF.2.1 hd hv (kk p e s m args below meth c H locs ls hF hP hS hl)
theorem z_ldc {index : Nat} {v : Int32} (hd : decode cc pc = .ok (.ldc index, 2)) (hw : Jvm.Cond.constant own index v ∈ Ts) (kk : Z l D cl tys Ts Nw own nm cc nL ret R b Fi k n N σ (pc + 2) lv (.int v :: st)) : Z l D cl tys Ts Nw own nm cc nL ret R b Fi k n N σ pc lv (st) := fun p e s m args below meth c H locs ls hF hP hS hl => lv_ldc hF.1 hF.2.1 hF.2.2.2.2.2.1 (hF.2.2.2.2.2.2.1 _ hw) hd (kk p e s m args below meth c H locs ls hF hP hS hl)
theorem z_ldc2 {index : Nat} {v : Int64} (hd : decode cc pc = .ok (.ldc2_w index, 3)) (hw : Jvm.Cond.constantLong own index v ∈ Ts) (kk : Z l D cl tys Ts Nw own nm cc nL ret R b Fi k n N σ (pc + 3) lv (.long v :: st)) : Z l D cl tys Ts Nw own nm cc nL ret R b Fi k n N σ pc lv (st) := fun p e s m args below meth c H locs ls hF hP hS hl => lv_ldc2 hF.1 hF.2.1 hF.2.2.2.2.2.1 (hF.2.2.2.2.2.2.1 _ hw) hd (kk p e s m args below meth c H locs ls hF hP hS hl)
theorem z_iload_n {i : Fin 4} {v : Int32} (hd : decode cc pc = .ok (.iload_n i, 1)) (j : Nat) (hj : lv[j]? = some ((i : Nat), .int v)) (kk : Z l D cl tys Ts Nw own nm cc nL ret R b Fi k n N σ (pc + 1) lv (.int v :: st)) : Z l D cl tys Ts Nw own nm cc nL ret R b Fi k n N σ pc lv (st) := fun p e s m args below meth c H locs ls hF hP hS hl => lv_iload_n hF.1 hF.2.1 hd rfl (lv_at hl j hj) (kk p e s m args below meth c H locs ls hF hP hS hl)
theorem z_iload {i : Nat} {v : Int32} (hd : decode cc pc = .ok (.iload i, 2)) (j : Nat) (hj : lv[j]? = some (i, .int v)) (kk : Z l D cl tys Ts Nw own nm cc nL ret R b Fi k n N σ (pc + 2) lv (.int v :: st)) : Z l D cl tys Ts Nw own nm cc nL ret R b Fi k n N σ pc lv (st) := fun p e s m args below meth c H locs ls hF hP hS hl => lv_iload hF.1 hF.2.1 hd (lv_at hl j hj) (kk p e s m args below meth c H locs ls hF hP hS hl)
theorem z_lload_n {i : Fin 4} {v : Int64} (hd : decode cc pc = .ok (.lload_n i, 1)) (j : Nat) (hj : lv[j]? = some ((i : Nat), .long v)) (kk : Z l D cl tys Ts Nw own nm cc nL ret R b Fi k n N σ (pc + 1) lv (.long v :: st)) : Z l D cl tys Ts Nw own nm cc nL ret R b Fi k n N σ pc lv (st) := fun p e s m args below meth c H locs ls hF hP hS hl => lv_lload_n hF.1 hF.2.1 hd rfl (lv_at hl j hj) (kk p e s m args below meth c H locs ls hF hP hS hl)
theorem z_lload {i : Nat} {v : Int64} (hd : decode cc pc = .ok (.lload i, 2)) (j : Nat) (hj : lv[j]? = some (i, .long v)) (kk : Z l D cl tys Ts Nw own nm cc nL ret R b Fi k n N σ (pc + 2) lv (.long v :: st)) : Z l D cl tys Ts Nw own nm cc nL ret R b Fi k n N σ pc lv (st) := fun p e s m args below meth c H locs ls hF hP hS hl => lv_lload hF.1 hF.2.1 hd (lv_at hl j hj) (kk p e s m args below meth c H locs ls hF hP hS hl)
theorem z_aload_n {i : Fin 4} {v : Nat} (hd : decode cc pc = .ok (.aload_n i, 1)) (j : Nat) (hj : lv[j]? = some ((i : Nat), .ref v)) (kk : Z l D cl tys Ts Nw own nm cc nL ret R b Fi k n N σ (pc + 1) lv (.ref v :: st)) : Z l D cl tys Ts Nw own nm cc nL ret R b Fi k n N σ pc lv (st) := fun p e s m args below meth c H locs ls hF hP hS hl => lv_aload_n hF.1 hF.2.1 hd rfl (lv_at hl j hj) (kk p e s m args below meth c H locs ls hF hP hS hl)
theorem z_aload {i : Nat} {v : Nat} (hd : decode cc pc = .ok (.aload i, 2)) (j : Nat) (hj : lv[j]? = some (i, .ref v)) (kk : Z l D cl tys Ts Nw own nm cc nL ret R b Fi k n N σ (pc + 2) lv (.ref v :: st)) : Z l D cl tys Ts Nw own nm cc nL ret R b Fi k n N σ pc lv (st) := fun p e s m args below meth c H locs ls hF hP hS hl => lv_aload hF.1 hF.2.1 hd (lv_at hl j hj) (kk p e s m args below meth c H locs ls hF hP hS hl)
theorem z_istore_n {i : Fin 4} {v : Int32} {lv' : List (Nat × Value)} (hd : decode cc pc = .ok (.istore_n i, 1)) (hn : (i : Nat) < nL) (hl' : ((i : Nat), Value.int v) :: lv.filter (fun q => !(q.1 == (i : Nat)) && !(q.1 + 1 == (i : Nat) && q.2.category == 2)) = lv') (kk : Z l D cl tys Ts Nw own nm cc nL ret R b Fi k n N σ (pc + 1) lv' st) : Z l D cl tys Ts Nw own nm cc nL ret R b Fi k n N σ pc lv (.int v :: st) := fun p e s m args below meth c H locs ls hF hP hS hl => lv_istore_n hF.1 hF.2.1 hd rfl hl hn hl' (fun ls2 hl2 => kk p e s m args below meth c H locs ls2 hF hP hS hl2)
theorem z_istore {i : Nat} {v : Int32} {lv' : List (Nat × Value)} (hd : decode cc pc = .ok (.istore i, 2)) (hn : i < nL) (hl' : (i, Value.int v) :: lv.filter (fun q => !(q.1 == i) && !(q.1 + 1 == i && q.2.category == 2)) = lv') (kk : Z l D cl tys Ts Nw own nm cc nL ret R b Fi k n N σ (pc + 2) lv' st) : Z l D cl tys Ts Nw own nm cc nL ret R b Fi k n N σ pc lv (.int v :: st) := fun p e s m args below meth c H locs ls hF hP hS hl => lv_istore hF.1 hF.2.1 hd hl hn hl' (fun ls2 hl2 => kk p e s m args below meth c H locs ls2 hF hP hS hl2)
theorem z_lstore_n {i : Fin 4} {v : Int64} {lv' : List (Nat × Value)} (hd : decode cc pc = .ok (.lstore_n i, 1)) (hn : (i : Nat) + 1 < nL) (hl' : ((i : Nat), Value.long v) :: lv.filter (fun q => !(q.1 == (i : Nat)) && (!(q.1 == (i : Nat) + 1) && !(q.1 + 1 == (i : Nat) && q.2.category == 2))) = lv') (kk : Z l D cl tys Ts Nw own nm cc nL ret R b Fi k n N σ (pc + 1) lv' st) : Z l D cl tys Ts Nw own nm cc nL ret R b Fi k n N σ pc lv (.long v :: st) := fun p e s m args below meth c H locs ls hF hP hS hl => lv_lstore_n hF.1 hF.2.1 hd rfl hl hn hl' (fun ls2 hl2 => kk p e s m args below meth c H locs ls2 hF hP hS hl2)
theorem z_lstore {i : Nat} {v : Int64} {lv' : List (Nat × Value)} (hd : decode cc pc = .ok (.lstore i, 2)) (hn : i + 1 < nL) (hl' : (i, Value.long v) :: lv.filter (fun q => !(q.1 == i) && (!(q.1 == i + 1) && !(q.1 + 1 == i && q.2.category == 2))) = lv') (kk : Z l D cl tys Ts Nw own nm cc nL ret R b Fi k n N σ (pc + 2) lv' st) : Z l D cl tys Ts Nw own nm cc nL ret R b Fi k n N σ pc lv (.long v :: st) := fun p e s m args below meth c H locs ls hF hP hS hl => lv_lstore hF.1 hF.2.1 hd hl hn hl' (fun ls2 hl2 => kk p e s m args below meth c H locs ls2 hF hP hS hl2)
theorem z_astore_n {i : Fin 4} {v : Nat} {lv' : List (Nat × Value)} (hd : decode cc pc = .ok (.astore_n i, 1)) (hn : (i : Nat) < nL) (hl' : ((i : Nat), Value.ref v) :: lv.filter (fun q => !(q.1 == (i : Nat)) && !(q.1 + 1 == (i : Nat) && q.2.category == 2)) = lv') (kk : Z l D cl tys Ts Nw own nm cc nL ret R b Fi k n N σ (pc + 1) lv' st) : Z l D cl tys Ts Nw own nm cc nL ret R b Fi k n N σ pc lv (.ref v :: st) := fun p e s m args below meth c H locs ls hF hP hS hl => lv_astore_n hF.1 hF.2.1 hd rfl hl hn hl' (fun ls2 hl2 => kk p e s m args below meth c H locs ls2 hF hP hS hl2)
theorem z_astore {i : Nat} {v : Nat} {lv' : List (Nat × Value)} (hd : decode cc pc = .ok (.astore i, 2)) (hn : i < nL) (hl' : (i, Value.ref v) :: lv.filter (fun q => !(q.1 == i) && !(q.1 + 1 == i && q.2.category == 2)) = lv') (kk : Z l D cl tys Ts Nw own nm cc nL ret R b Fi k n N σ (pc + 2) lv' st) : Z l D cl tys Ts Nw own nm cc nL ret R b Fi k n N σ pc lv (.ref v :: st) := fun p e s m args below meth c H locs ls hF hP hS hl => lv_astore hF.1 hF.2.1 hd hl hn hl' (fun ls2 hl2 => kk p e s m args below meth c H locs ls2 hF hP hS hl2)
theorem z_iinc {i : Nat} {d : Int} {x v : Int32} {lv' : List (Nat × Value)} (hd : decode cc pc = .ok (.iinc i d, 3)) (j : Nat) (hj : lv[j]? = some (i, .int x)) (hv : x + Int32.ofInt d = v) (hn : i < nL) (hl' : (i, Value.int v) :: lv.filter (fun q => !(q.1 == i) && !(q.1 + 1 == i && q.2.category == 2)) = lv') (kk : Z l D cl tys Ts Nw own nm cc nL ret R b Fi k n N σ (pc + 3) lv' st) : Z l D cl tys Ts Nw own nm cc nL ret R b Fi k n N σ pc lv st := fun p e s m args below meth c H locs ls hF hP hS hl => lv_iinc hF.1 hF.2.1 hd hl (k := j) hj hv hn hl' (fun ls2 hl2 => kk p e s m args below meth c H locs ls2 hF hP hS hl2)
theorem z_iadd {x y : Int32} (hd : decode cc pc = .ok (.iadd, 1)) (kk : Z l D cl tys Ts Nw own nm cc nL ret R b Fi k n N σ (pc + 1) lv (.int (x + y) :: st)) : Z l D cl tys Ts Nw own nm cc nL ret R b Fi k n N σ pc lv (.int y :: .int x :: st) := fun p e s m args below meth c H locs ls hF hP hS hl => lv_iadd hF.1 hF.2.1 hd (kk p e s m args below meth c H locs ls hF hP hS hl)
theorem z_isub {x y : Int32} (hd : decode cc pc = .ok (.isub, 1)) (kk : Z l D cl tys Ts Nw own nm cc nL ret R b Fi k n N σ (pc + 1) lv (.int (x - y) :: st)) : Z l D cl tys Ts Nw own nm cc nL ret R b Fi k n N σ pc lv (.int y :: .int x :: st) := fun p e s m args below meth c H locs ls hF hP hS hl => lv_isub hF.1 hF.2.1 hd (kk p e s m args below meth c H locs ls hF hP hS hl)
theorem z_imul {x y : Int32} (hd : decode cc pc = .ok (.imul, 1)) (kk : Z l D cl tys Ts Nw own nm cc nL ret R b Fi k n N σ (pc + 1) lv (.int (x * y) :: st)) : Z l D cl tys Ts Nw own nm cc nL ret R b Fi k n N σ pc lv (.int y :: .int x :: st) := fun p e s m args below meth c H locs ls hF hP hS hl => lv_imul hF.1 hF.2.1 hd (kk p e s m args below meth c H locs ls hF hP hS hl)
theorem z_iand {x y : Int32} (hd : decode cc pc = .ok (.iand, 1)) (kk : Z l D cl tys Ts Nw own nm cc nL ret R b Fi k n N σ (pc + 1) lv (.int (x &&& y) :: st)) : Z l D cl tys Ts Nw own nm cc nL ret R b Fi k n N σ pc lv (.int y :: .int x :: st) := fun p e s m args below meth c H locs ls hF hP hS hl => lv_iand hF.1 hF.2.1 hd (kk p e s m args below meth c H locs ls hF hP hS hl)
theorem z_ior {x y : Int32} (hd : decode cc pc = .ok (.ior, 1)) (kk : Z l D cl tys Ts Nw own nm cc nL ret R b Fi k n N σ (pc + 1) lv (.int (x ||| y) :: st)) : Z l D cl tys Ts Nw own nm cc nL ret R b Fi k n N σ pc lv (.int y :: .int x :: st) := fun p e s m args below meth c H locs ls hF hP hS hl => lv_ior hF.1 hF.2.1 hd (kk p e s m args below meth c H locs ls hF hP hS hl)
theorem z_ixor {x y : Int32} (hd : decode cc pc = .ok (.ixor, 1)) (kk : Z l D cl tys Ts Nw own nm cc nL ret R b Fi k n N σ (pc + 1) lv (.int (x ^^^ y) :: st)) : Z l D cl tys Ts Nw own nm cc nL ret R b Fi k n N σ pc lv (.int y :: .int x :: st) := fun p e s m args below meth c H locs ls hF hP hS hl => lv_ixor hF.1 hF.2.1 hd (kk p e s m args below meth c H locs ls hF hP hS hl)
theorem z_ishl {x y : Int32} (hd : decode cc pc = .ok (.ishl, 1)) (kk : Z l D cl tys Ts Nw own nm cc nL ret R b Fi k n N σ (pc + 1) lv (.int (x <<< (y &&& 31)) :: st)) : Z l D cl tys Ts Nw own nm cc nL ret R b Fi k n N σ pc lv (.int y :: .int x :: st) := fun p e s m args below meth c H locs ls hF hP hS hl => lv_ishl hF.1 hF.2.1 hd (kk p e s m args below meth c H locs ls hF hP hS hl)
theorem z_ishr {x y : Int32} (hd : decode cc pc = .ok (.ishr, 1)) (kk : Z l D cl tys Ts Nw own nm cc nL ret R b Fi k n N σ (pc + 1) lv (.int (x >>> (y &&& 31)) :: st)) : Z l D cl tys Ts Nw own nm cc nL ret R b Fi k n N σ pc lv (.int y :: .int x :: st) := fun p e s m args below meth c H locs ls hF hP hS hl => lv_ishr hF.1 hF.2.1 hd (kk p e s m args below meth c H locs ls hF hP hS hl)
theorem z_idiv {x y : Int32} (hd : decode cc pc = .ok (.idiv, 1)) (hne : ¬ y = 0) (kk : Z l D cl tys Ts Nw own nm cc nL ret R b Fi k n N σ (pc + 1) lv (.int (x / y) :: st)) : Z l D cl tys Ts Nw own nm cc nL ret R b Fi k n N σ pc lv (.int y :: .int x :: st) := fun p e s m args below meth c H locs ls hF hP hS hl => lv_idiv hF.1 hF.2.1 hd hne (kk p e s m args below meth c H locs ls hF hP hS hl)
theorem z_irem {x y : Int32} (hd : decode cc pc = .ok (.irem, 1)) (hne : ¬ y = 0) (kk : Z l D cl tys Ts Nw own nm cc nL ret R b Fi k n N σ (pc + 1) lv (.int (x - x / y * y) :: st)) : Z l D cl tys Ts Nw own nm cc nL ret R b Fi k n N σ pc lv (.int y :: .int x :: st) := fun p e s m args below meth c H locs ls hF hP hS hl => lv_irem hF.1 hF.2.1 hd hne (kk p e s m args below meth c H locs ls hF hP hS hl)
theorem z_iushr {x y : Int32} (hd : decode cc pc = .ok (.iushr, 1)) (kk : Z l D cl tys Ts Nw own nm cc nL ret R b Fi k n N σ (pc + 1) lv (.int ((x.toUInt32 >>> (y.toUInt32 &&& Int32.toUInt32 31)).toInt32) :: st)) : Z l D cl tys Ts Nw own nm cc nL ret R b Fi k n N σ pc lv (.int y :: .int x :: st) := fun p e s m args below meth c H locs ls hF hP hS hl => lv_iushr hF.1 hF.2.1 hd rfl (kk p e s m args below meth c H locs ls hF hP hS hl)
theorem z_ineg {x : Int32} (hd : decode cc pc = .ok (.ineg, 1)) (kk : Z l D cl tys Ts Nw own nm cc nL ret R b Fi k n N σ (pc + 1) lv (.int (-x) :: st)) : Z l D cl tys Ts Nw own nm cc nL ret R b Fi k n N σ pc lv (.int x :: st) := fun p e s m args below meth c H locs ls hF hP hS hl => lv_ineg hF.1 hF.2.1 hd (kk p e s m args below meth c H locs ls hF hP hS hl)
theorem z_ladd {x y : Int64} (hd : decode cc pc = .ok (.ladd, 1)) (kk : Z l D cl tys Ts Nw own nm cc nL ret R b Fi k n N σ (pc + 1) lv (.long (x + y) :: st)) : Z l D cl tys Ts Nw own nm cc nL ret R b Fi k n N σ pc lv (.long y :: .long x :: st) := fun p e s m args below meth c H locs ls hF hP hS hl => lv_ladd hF.1 hF.2.1 hd (kk p e s m args below meth c H locs ls hF hP hS hl)
theorem z_lsub {x y : Int64} (hd : decode cc pc = .ok (.lsub, 1)) (kk : Z l D cl tys Ts Nw own nm cc nL ret R b Fi k n N σ (pc + 1) lv (.long (x - y) :: st)) : Z l D cl tys Ts Nw own nm cc nL ret R b Fi k n N σ pc lv (.long y :: .long x :: st) := fun p e s m args below meth c H locs ls hF hP hS hl => lv_lsub hF.1 hF.2.1 hd (kk p e s m args below meth c H locs ls hF hP hS hl)
theorem z_lmul {x y : Int64} (hd : decode cc pc = .ok (.lmul, 1)) (kk : Z l D cl tys Ts Nw own nm cc nL ret R b Fi k n N σ (pc + 1) lv (.long (x * y) :: st)) : Z l D cl tys Ts Nw own nm cc nL ret R b Fi k n N σ pc lv (.long y :: .long x :: st) := fun p e s m args below meth c H locs ls hF hP hS hl => lv_lmul hF.1 hF.2.1 hd (kk p e s m args below meth c H locs ls hF hP hS hl)
theorem z_land {x y : Int64} (hd : decode cc pc = .ok (.land, 1)) (kk : Z l D cl tys Ts Nw own nm cc nL ret R b Fi k n N σ (pc + 1) lv (.long (x &&& y) :: st)) : Z l D cl tys Ts Nw own nm cc nL ret R b Fi k n N σ pc lv (.long y :: .long x :: st) := fun p e s m args below meth c H locs ls hF hP hS hl => lv_land hF.1 hF.2.1 hd (kk p e s m args below meth c H locs ls hF hP hS hl)
theorem z_lor {x y : Int64} (hd : decode cc pc = .ok (.lor, 1)) (kk : Z l D cl tys Ts Nw own nm cc nL ret R b Fi k n N σ (pc + 1) lv (.long (x ||| y) :: st)) : Z l D cl tys Ts Nw own nm cc nL ret R b Fi k n N σ pc lv (.long y :: .long x :: st) := fun p e s m args below meth c H locs ls hF hP hS hl => lv_lor hF.1 hF.2.1 hd (kk p e s m args below meth c H locs ls hF hP hS hl)
theorem z_lxor {x y : Int64} (hd : decode cc pc = .ok (.lxor, 1)) (kk : Z l D cl tys Ts Nw own nm cc nL ret R b Fi k n N σ (pc + 1) lv (.long (x ^^^ y) :: st)) : Z l D cl tys Ts Nw own nm cc nL ret R b Fi k n N σ pc lv (.long y :: .long x :: st) := fun p e s m args below meth c H locs ls hF hP hS hl => lv_lxor hF.1 hF.2.1 hd (kk p e s m args below meth c H locs ls hF hP hS hl)
theorem z_ldiv {x y : Int64} (hd : decode cc pc = .ok (.ldiv, 1)) (hne : ¬ y = 0) (kk : Z l D cl tys Ts Nw own nm cc nL ret R b Fi k n N σ (pc + 1) lv (.long (x / y) :: st)) : Z l D cl tys Ts Nw own nm cc nL ret R b Fi k n N σ pc lv (.long y :: .long x :: st) := fun p e s m args below meth c H locs ls hF hP hS hl => lv_ldiv hF.1 hF.2.1 hd hne (kk p e s m args below meth c H locs ls hF hP hS hl)
theorem z_lrem {x y : Int64} (hd : decode cc pc = .ok (.lrem, 1)) (hne : ¬ y = 0) (kk : Z l D cl tys Ts Nw own nm cc nL ret R b Fi k n N σ (pc + 1) lv (.long (x - x / y * y) :: st)) : Z l D cl tys Ts Nw own nm cc nL ret R b Fi k n N σ pc lv (.long y :: .long x :: st) := fun p e s m args below meth c H locs ls hF hP hS hl => lv_lrem hF.1 hF.2.1 hd hne (kk p e s m args below meth c H locs ls hF hP hS hl)
theorem z_lneg {x : Int64} (hd : decode cc pc = .ok (.lneg, 1)) (kk : Z l D cl tys Ts Nw own nm cc nL ret R b Fi k n N σ (pc + 1) lv (.long (-x) :: st)) : Z l D cl tys Ts Nw own nm cc nL ret R b Fi k n N σ pc lv (.long x :: st) := fun p e s m args below meth c H locs ls hF hP hS hl => lv_lneg hF.1 hF.2.1 hd (kk p e s m args below meth c H locs ls hF hP hS hl)
theorem z_lshl {x : Int64} {y : Int32} (hd : decode cc pc = .ok (.lshl, 1)) (kk : Z l D cl tys Ts Nw own nm cc nL ret R b Fi k n N σ (pc + 1) lv (.long (x <<< (y.toInt64 &&& 63)) :: st)) : Z l D cl tys Ts Nw own nm cc nL ret R b Fi k n N σ pc lv (.int y :: .long x :: st) := fun p e s m args below meth c H locs ls hF hP hS hl => lv_lshl hF.1 hF.2.1 hd rfl (kk p e s m args below meth c H locs ls hF hP hS hl)
theorem z_lshr {x : Int64} {y : Int32} (hd : decode cc pc = .ok (.lshr, 1)) (kk : Z l D cl tys Ts Nw own nm cc nL ret R b Fi k n N σ (pc + 1) lv (.long (x >>> (y.toInt64 &&& 63)) :: st)) : Z l D cl tys Ts Nw own nm cc nL ret R b Fi k n N σ pc lv (.int y :: .long x :: st) := fun p e s m args below meth c H locs ls hF hP hS hl => lv_lshr hF.1 hF.2.1 hd rfl (kk p e s m args below meth c H locs ls hF hP hS hl)
theorem z_lushr {x : Int64} {y : Int32} (hd : decode cc pc = .ok (.lushr, 1)) (kk : Z l D cl tys Ts Nw own nm cc nL ret R b Fi k n N σ (pc + 1) lv (.long ((x.toUInt64 >>> (y.toInt64.toUInt64 &&& Int64.toUInt64 63)).toInt64) :: st)) : Z l D cl tys Ts Nw own nm cc nL ret R b Fi k n N σ pc lv (.int y :: .long x :: st) := fun p e s m args below meth c H locs ls hF hP hS hl => lv_lushr hF.1 hF.2.1 hd rfl (kk p e s m args below meth c H locs ls hF hP hS hl)
theorem z_i2l {x : Int32} (hd : decode cc pc = .ok (.i2l, 1)) (kk : Z l D cl tys Ts Nw own nm cc nL ret R b Fi k n N σ (pc + 1) lv (.long x.toInt64 :: st)) : Z l D cl tys Ts Nw own nm cc nL ret R b Fi k n N σ pc lv (.int x :: st) := fun p e s m args below meth c H locs ls hF hP hS hl => lv_i2l hF.1 hF.2.1 hd rfl (kk p e s m args below meth c H locs ls hF hP hS hl)
theorem z_l2i {x : Int64} (hd : decode cc pc = .ok (.l2i, 1)) (kk : Z l D cl tys Ts Nw own nm cc nL ret R b Fi k n N σ (pc + 1) lv (.int x.toInt32 :: st)) : Z l D cl tys Ts Nw own nm cc nL ret R b Fi k n N σ pc lv (.long x :: st) := fun p e s m args below meth c H locs ls hF hP hS hl => lv_l2i hF.1 hF.2.1 hd rfl (kk p e s m args below meth c H locs ls hF hP hS hl)
theorem z_lcmp {x y : Int64} (hd : decode cc pc = .ok (.lcmp, 1)) (kk : Z l D cl tys Ts Nw own nm cc nL ret R b Fi k n N σ (pc + 1) lv (.int (lg_cmp x y) :: st)) : Z l D cl tys Ts Nw own nm cc nL ret R b Fi k n N σ pc lv (.long y :: .long x :: st) := fun p e s m args below meth c H locs ls hF hP hS hl => W.lcmp hF.1 hF.2.1 hd (kk p e s m args below meth c H locs ls hF hP hS hl)
theorem z_dup {va : Value} (hd : decode cc pc = .ok (.dup, 1)) (hva : va.category = 1) (kk : Z l D cl tys Ts Nw own nm cc nL ret R b Fi k n N σ (pc + 1) lv (va :: va :: st)) : Z l D cl tys Ts Nw own nm cc nL ret R b Fi k n N σ pc lv (va :: st) := fun p e s m args below meth c H locs ls hF hP hS hl => lv_dup hF.1 hF.2.1 hd hva (kk p e s m args below meth c H locs ls hF hP hS hl)
theorem z_pop {va : Value} (hd : decode cc pc = .ok (.pop, 1)) (hva : va.category = 1) (kk : Z l D cl tys Ts Nw own nm cc nL ret R b Fi k n N σ (pc + 1) lv (st)) : Z l D cl tys Ts Nw own nm cc nL ret R b Fi k n N σ pc lv (va :: st) := fun p e s m args below meth c H locs ls hF hP hS hl => lv_pop hF.1 hF.2.1 hd hva (kk p e s m args below meth c H locs ls hF hP hS hl)
theorem z_dup_x1 {va : Value} {vb : Value} (hd : decode cc pc = .ok (.dup_x1, 1)) (hva : va.category = 1) (hvb : vb.category = 1) (kk : Z l D cl tys Ts Nw own nm cc nL ret R b Fi k n N σ (pc + 1) lv (va :: vb :: va :: st)) : Z l D cl tys Ts Nw own nm cc nL ret R b Fi k n N σ pc lv (va :: vb :: st) := fun p e s m args below meth c H locs ls hF hP hS hl => lv_dup_x1 hF.1 hF.2.1 hd hva hvb (kk p e s m args below meth c H locs ls hF hP hS hl)
theorem z_dup_x2 {va : Value} {vb : Value} {vd : Value} (hd : decode cc pc = .ok (.dup_x2, 1)) (hva : va.category = 1) (hvb : vb.category = 1) (hvd : vd.category = 1) (kk : Z l D cl tys Ts Nw own nm cc nL ret R b Fi k n N σ (pc + 1) lv (va :: vb :: vd :: va :: st)) : Z l D cl tys Ts Nw own nm cc nL ret R b Fi k n N σ pc lv (va :: vb :: vd :: st) := fun p e s m args below meth c H locs ls hF hP hS hl => lv_dup_x2 hF.1 hF.2.1 hd hva hvb hvd (kk p e s m args below meth c H locs ls hF hP hS hl)
theorem z_dup2_11 {va : Value} {vb : Value} (hd : decode cc pc = .ok (.dup2, 1)) (hva : va.category = 1) (hvb : vb.category = 1) (kk : Z l D cl tys Ts Nw own nm cc nL ret R b Fi k n N σ (pc + 1) lv (va :: vb :: va :: vb :: st)) : Z l D cl tys Ts Nw own nm cc nL ret R b Fi k n N σ pc lv (va :: vb :: st) := fun p e s m args below meth c H locs ls hF hP hS hl => lv_dup2_11 hF.1 hF.2.1 hd hva hvb (kk p e s m args below meth c H locs ls hF hP hS hl)
theorem z_dup2_2 {va : Value} (hd : decode cc pc = .ok (.dup2, 1)) (hva : va.category = 2) (kk : Z l D cl tys Ts Nw own nm cc nL ret R b Fi k n N σ (pc + 1) lv (va :: va :: st)) : Z l D cl tys Ts Nw own nm cc nL ret R b Fi k n N σ pc lv (va :: st) := fun p e s m args below meth c H locs ls hF hP hS hl => lv_dup2_2 hF.1 hF.2.1 hd hva (kk p e s m args below meth c H locs ls hF hP hS hl)
theorem z_pop2_2 {va : Value} (hd : decode cc pc = .ok (.pop2, 1)) (hva : va.category = 2) (kk : Z l D cl tys Ts Nw own nm cc nL ret R b Fi k n N σ (pc + 1) lv (st)) : Z l D cl tys Ts Nw own nm cc nL ret R b Fi k n N σ pc lv (va :: st) := fun p e s m args below meth c H locs ls hF hP hS hl => lv_pop2_2 hF.1 hF.2.1 hd hva (kk p e s m args below meth c H locs ls hF hP hS hl)
theorem z_dup2_x1_2 {va : Value} {vb : Value} (hd : decode cc pc = .ok (.dup2_x1, 1)) (hva : va.category = 2) (hvb : vb.category = 1) (kk : Z l D cl tys Ts Nw own nm cc nL ret R b Fi k n N σ (pc + 1) lv (va :: vb :: va :: st)) : Z l D cl tys Ts Nw own nm cc nL ret R b Fi k n N σ pc lv (va :: vb :: st) := fun p e s m args below meth c H locs ls hF hP hS hl => lv_dup2_x1_2 hF.1 hF.2.1 hd hva hvb (kk p e s m args below meth c H locs ls hF hP hS hl)
theorem z_dup2_x2_2 {va : Value} {vb : Value} {vd : Value} (hd : decode cc pc = .ok (.dup2_x2, 1)) (hva : va.category = 2) (hvb : vb.category = 1) (hvd : vd.category = 1) (kk : Z l D cl tys Ts Nw own nm cc nL ret R b Fi k n N σ (pc + 1) lv (va :: vb :: vd :: va :: st)) : Z l D cl tys Ts Nw own nm cc nL ret R b Fi k n N σ pc lv (va :: vb :: vd :: st) := fun p e s m args below meth c H locs ls hF hP hS hl => lv_dup2_x2_2 hF.1 hF.2.1 hd hva hvb hvd (kk p e s m args below meth c H locs ls hF hP hS hl)
theorem z_if_eq {x : Int32} {off : Int} {tgt : Nat} (hd : decode cc pc = .ok (.ifCond .eq off, 3)) (ht : (pc : Int) + off = (tgt : Int)) (kt : x = 0 → Z l D cl tys Ts Nw own nm cc nL ret R b Fi k n N σ tgt lv st) (kf : ¬ x = 0 → Z l D cl tys Ts Nw own nm cc nL ret R b Fi k n N σ (pc + 3) lv st) : Z l D cl tys Ts Nw own nm cc nL ret R b Fi k n N σ pc lv (.int x :: st) := fun p e s m args below meth c H locs ls hF hP hS hl => lv_if_eq hF.1 hF.2.1 hd ht (fun q => kt q p e s m args below meth c H locs ls hF hP hS hl) (fun q => kf q p e s m args below meth c H locs ls hF hP hS hl)
theorem z_if_ne {x : Int32} {off : Int} {tgt : Nat} (hd : decode cc pc = .ok (.ifCond .ne off, 3)) (ht : (pc : Int) + off = (tgt : Int)) (kt : ¬ x = 0 → Z l D cl tys Ts Nw own nm cc nL ret R b Fi k n N σ tgt lv st) (kf : x = 0 → Z l D cl tys Ts Nw own nm cc nL ret R b Fi k n N σ (pc + 3) lv st) : Z l D cl tys Ts Nw own nm cc nL ret R b Fi k n N σ pc lv (.int x :: st) := fun p e s m args below meth c H locs ls hF hP hS hl => lv_if_ne hF.1 hF.2.1 hd ht (fun q => kt q p e s m args below meth c H locs ls hF hP hS hl) (fun q => kf q p e s m args below meth c H locs ls hF hP hS hl)
theorem z_if_lt {x : Int32} {off : Int} {tgt : Nat} (hd : decode cc pc = .ok (.ifCond .lt off, 3)) (ht : (pc : Int) + off = (tgt : Int)) (kt : x < 0 → Z l D cl tys Ts Nw own nm cc nL ret R b Fi k n N σ tgt lv st) (kf : ¬ x < 0 → Z l D cl tys Ts Nw own nm cc nL ret R b Fi k n N σ (pc + 3) lv st) : Z l D cl tys Ts Nw own nm cc nL ret R b Fi k n N σ pc lv (.int x :: st) := fun p e s m args below meth c H locs ls hF hP hS hl => lv_if_lt hF.1 hF.2.1 hd ht (fun q => kt q p e s m args below meth c H locs ls hF hP hS hl) (fun q => kf q p e s m args below meth c H locs ls hF hP hS hl)
theorem z_if_ge {x : Int32} {off : Int} {tgt : Nat} (hd : decode cc pc = .ok (.ifCond .ge off, 3)) (ht : (pc : Int) + off = (tgt : Int)) (kt : 0 ≤ x → Z l D cl tys Ts Nw own nm cc nL ret R b Fi k n N σ tgt lv st) (kf : ¬ 0 ≤ x → Z l D cl tys Ts Nw own nm cc nL ret R b Fi k n N σ (pc + 3) lv st) : Z l D cl tys Ts Nw own nm cc nL ret R b Fi k n N σ pc lv (.int x :: st) := fun p e s m args below meth c H locs ls hF hP hS hl => lv_if_ge hF.1 hF.2.1 hd ht (fun q => kt q p e s m args below meth c H locs ls hF hP hS hl) (fun q => kf q p e s m args below meth c H locs ls hF hP hS hl)
theorem z_if_gt {x : Int32} {off : Int} {tgt : Nat} (hd : decode cc pc = .ok (.ifCond .gt off, 3)) (ht : (pc : Int) + off = (tgt : Int)) (kt : 0 < x → Z l D cl tys Ts Nw own nm cc nL ret R b Fi k n N σ tgt lv st) (kf : ¬ 0 < x → Z l D cl tys Ts Nw own nm cc nL ret R b Fi k n N σ (pc + 3) lv st) : Z l D cl tys Ts Nw own nm cc nL ret R b Fi k n N σ pc lv (.int x :: st) := fun p e s m args below meth c H locs ls hF hP hS hl => lv_if_gt hF.1 hF.2.1 hd ht (fun q => kt q p e s m args below meth c H locs ls hF hP hS hl) (fun q => kf q p e s m args below meth c H locs ls hF hP hS hl)
theorem z_if_le {x : Int32} {off : Int} {tgt : Nat} (hd : decode cc pc = .ok (.ifCond .le off, 3)) (ht : (pc : Int) + off = (tgt : Int)) (kt : x ≤ 0 → Z l D cl tys Ts Nw own nm cc nL ret R b Fi k n N σ tgt lv st) (kf : ¬ x ≤ 0 → Z l D cl tys Ts Nw own nm cc nL ret R b Fi k n N σ (pc + 3) lv st) : Z l D cl tys Ts Nw own nm cc nL ret R b Fi k n N σ pc lv (.int x :: st) := fun p e s m args below meth c H locs ls hF hP hS hl => lv_if_le hF.1 hF.2.1 hd ht (fun q => kt q p e s m args below meth c H locs ls hF hP hS hl) (fun q => kf q p e s m args below meth c H locs ls hF hP hS hl)
theorem z_icmp_eq {x y : Int32} {off : Int} {tgt : Nat} (hd : decode cc pc = .ok (.if_icmp .eq off, 3)) (ht : (pc : Int) + off = (tgt : Int)) (kt : x = y → Z l D cl tys Ts Nw own nm cc nL ret R b Fi k n N σ tgt lv st) (kf : ¬ x = y → Z l D cl tys Ts Nw own nm cc nL ret R b Fi k n N σ (pc + 3) lv st) : Z l D cl tys Ts Nw own nm cc nL ret R b Fi k n N σ pc lv (.int y :: .int x :: st) := fun p e s m args below meth c H locs ls hF hP hS hl => lv_icmp_eq hF.1 hF.2.1 hd ht (fun q => kt q p e s m args below meth c H locs ls hF hP hS hl) (fun q => kf q p e s m args below meth c H locs ls hF hP hS hl)
theorem z_icmp_ne {x y : Int32} {off : Int} {tgt : Nat} (hd : decode cc pc = .ok (.if_icmp .ne off, 3)) (ht : (pc : Int) + off = (tgt : Int)) (kt : ¬ x = y → Z l D cl tys Ts Nw own nm cc nL ret R b Fi k n N σ tgt lv st) (kf : x = y → Z l D cl tys Ts Nw own nm cc nL ret R b Fi k n N σ (pc + 3) lv st) : Z l D cl tys Ts Nw own nm cc nL ret R b Fi k n N σ pc lv (.int y :: .int x :: st) := fun p e s m args below meth c H locs ls hF hP hS hl => lv_icmp_ne hF.1 hF.2.1 hd ht (fun q => kt q p e s m args below meth c H locs ls hF hP hS hl) (fun q => kf q p e s m args below meth c H locs ls hF hP hS hl)
theorem z_icmp_lt {x y : Int32} {off : Int} {tgt : Nat} (hd : decode cc pc = .ok (.if_icmp .lt off, 3)) (ht : (pc : Int) + off = (tgt : Int)) (kt : x < y → Z l D cl tys Ts Nw own nm cc nL ret R b Fi k n N σ tgt lv st) (kf : ¬ x < y → Z l D cl tys Ts Nw own nm cc nL ret R b Fi k n N σ (pc + 3) lv st) : Z l D cl tys Ts Nw own nm cc nL ret R b Fi k n N σ pc lv (.int y :: .int x :: st) := fun p e s m args below meth c H locs ls hF hP hS hl => lv_icmp_lt hF.1 hF.2.1 hd ht (fun q => kt q p e s m args below meth c H locs ls hF hP hS hl) (fun q => kf q p e s m args below meth c H locs ls hF hP hS hl)
theorem z_icmp_ge {x y : Int32} {off : Int} {tgt : Nat} (hd : decode cc pc = .ok (.if_icmp .ge off, 3)) (ht : (pc : Int) + off = (tgt : Int)) (kt : y ≤ x → Z l D cl tys Ts Nw own nm cc nL ret R b Fi k n N σ tgt lv st) (kf : ¬ y ≤ x → Z l D cl tys Ts Nw own nm cc nL ret R b Fi k n N σ (pc + 3) lv st) : Z l D cl tys Ts Nw own nm cc nL ret R b Fi k n N σ pc lv (.int y :: .int x :: st) := fun p e s m args below meth c H locs ls hF hP hS hl => lv_icmp_ge hF.1 hF.2.1 hd ht (fun q => kt q p e s m args below meth c H locs ls hF hP hS hl) (fun q => kf q p e s m args below meth c H locs ls hF hP hS hl)
theorem z_icmp_gt {x y : Int32} {off : Int} {tgt : Nat} (hd : decode cc pc = .ok (.if_icmp .gt off, 3)) (ht : (pc : Int) + off = (tgt : Int)) (kt : y < x → Z l D cl tys Ts Nw own nm cc nL ret R b Fi k n N σ tgt lv st) (kf : ¬ y < x → Z l D cl tys Ts Nw own nm cc nL ret R b Fi k n N σ (pc + 3) lv st) : Z l D cl tys Ts Nw own nm cc nL ret R b Fi k n N σ pc lv (.int y :: .int x :: st) := fun p e s m args below meth c H locs ls hF hP hS hl => lv_icmp_gt hF.1 hF.2.1 hd ht (fun q => kt q p e s m args below meth c H locs ls hF hP hS hl) (fun q => kf q p e s m args below meth c H locs ls hF hP hS hl)
theorem z_icmp_le {x y : Int32} {off : Int} {tgt : Nat} (hd : decode cc pc = .ok (.if_icmp .le off, 3)) (ht : (pc : Int) + off = (tgt : Int)) (kt : x ≤ y → Z l D cl tys Ts Nw own nm cc nL ret R b Fi k n N σ tgt lv st) (kf : ¬ x ≤ y → Z l D cl tys Ts Nw own nm cc nL ret R b Fi k n N σ (pc + 3) lv st) : Z l D cl tys Ts Nw own nm cc nL ret R b Fi k n N σ pc lv (.int y :: .int x :: st) := fun p e s m args below meth c H locs ls hF hP hS hl => lv_icmp_le hF.1 hF.2.1 hd ht (fun q => kt q p e s m args below meth c H locs ls hF hP hS hl) (fun q => kf q p e s m args below meth c H locs ls hF hP hS hl)
theorem z_goto {off : Int} {tgt : Nat} (hd : decode cc pc = .ok (.goto off, 3)) (ht : (pc : Int) + off = (tgt : Int)) (kk : Z l D cl tys Ts Nw own nm cc nL ret R b Fi k n N σ tgt lv st) : Z l D cl tys Ts Nw own nm cc nL ret R b Fi k n N σ pc lv st := fun p e s m args below meth c H locs ls hF hP hS hl => lv_goto hF.1 hF.2.1 hd ht (kk p e s m args below meth c H locs ls hF hP hS hl)
theorem z_tableOut {dflt lo hi : Int} {offs : Array Int} {len : Nat} {x : Int32} {tgt : Nat} (hd : decode cc pc = .ok (.tableswitch dflt lo hi offs, len)) (h : x.toInt < lo ∨ hi < x.toInt) (ht : (pc : Int) + dflt = (tgt : Int)) (kk : Z l D cl tys Ts Nw own nm cc nL ret R b Fi k n N σ tgt lv st) : Z l D cl tys Ts Nw own nm cc nL ret R b Fi k n N σ pc lv (.int x :: st) := fun p e s m args below meth c H locs ls hF hP hS hl => lv_tableOut hF.1 hF.2.1 hd h ht (kk p e s m args below meth c H locs ls hF hP hS hl)
theorem z_tableIn {dflt lo hi : Int} {offs : Array Int} {len : Nat} {x : Int32} {off : Int} {tgt : Nat} (hd : decode cc pc = .ok (.tableswitch dflt lo hi offs, len)) (h1 : ¬ x.toInt < lo) (h2 : ¬ hi < x.toInt) (ho : offs[(x.toInt - lo).toNat]? = some off) (ht : (pc : Int) + off = (tgt : Int)) (kk : Z l D cl tys Ts Nw own nm cc nL ret R b Fi k n N σ tgt lv st) : Z l D cl tys Ts Nw own nm cc nL ret R b Fi k n N σ pc lv (.int x :: st) := fun p e s m args below meth c H locs ls hF hP hS hl => lv_tableIn hF.1 hF.2.1 hd h1 h2 ho ht (kk p e s m args below meth c H locs ls hF hP hS hl)
theorem z_eq {σ' : Nat → Option va_E} {pc' : Nat} {lv' : List (Nat × Value)} {st' : List Value} (h1 : σ = σ') (h2 : pc = pc') (h3 : lv = lv') (h4 : st = st') (kk : Z l D cl tys Ts Nw own nm cc nL ret R b Fi k n N σ' pc' lv' st') : Z l D cl tys Ts Nw own nm cc nL ret R b Fi k n N σ pc lv st := by
  subst h1; subst h2; subst h3; subst h4; exact kk
theorem z_widen {k' n' : Nat} (h1 : k ≤ k') (h2 : n ≤ n') (kk : Z l D cl tys Ts Nw own nm cc nL ret R b Fi k' n' N σ pc lv st) : Z l D cl tys Ts Nw own nm cc nL ret R b Fi k n N σ pc lv st := fun p e s m args below meth c H locs ls hF hP hS hl => W.widen h1 h2 (kk p e s m args below meth c H locs ls hF hP hS hl)
/-- fewer listed locals, in any order -/
theorem z_pick {lv' : List (Nat × Value)} (ks : List Nat) (h : lv_pick lv ks = lv') (kk : Z l D cl tys Ts Nw own nm cc nL ret R b Fi k n N σ pc lv' st) : Z l D cl tys Ts Nw own nm cc nL ret R b Fi k n N σ pc lv st := fun p e s m args below meth c H locs ls hF hP hS hl => kk p e s m args below meth c H locs ls hF hP hS (lv_sub hl ks h)
/-- the field k of the class ci, by the pool index of a method of own -/
def zFd (cl : List vw_C) (Ts : List Cond) (own : String) (index ci k : Nat) : Prop := ∃ (C : String) (T : u_T) (N : Nat), cl[ci]? = some (C, T, N) ∧ (∀ w ∈ u_ws C T N, w ∈ Ts) ∧ Cond.fieldLink own index (T k).1 (T k).2.1 (T k).2.2.1 ∈ Ts ∧ k < N
theorem z_get {index ci i a : Nat} {fs : List Value} {v : Value} (hd : decode cc pc = .ok (.getfield index, 3)) (f : zFd cl Ts own index ci i) (hσ : σ a = some (.inr (ci, fs))) (hv : fs[i]? = some v) (kk : Z l D cl tys Ts Nw own nm cc nL ret R b Fi k n N σ (pc + 3) lv (v :: st)) : Z l D cl tys Ts Nw own nm cc nL ret R b Fi k n N σ pc lv (.ref (b + a) :: st) := by
  intro p e s m args below meth c H locs ls hF hP hS hl
  obtain ⟨C, T, N0, hc, hin, hlink, hk⟩ := f
  exact va_get hF.1 hF.2.1 hF.2.2.2.2.2.2.1 hin hF.2.2.2.2.2.1 hF.2.2.2.2.2.2.2.1 (hP.one hσ) 0 rfl hc i hk (hF.2.2.2.2.2.2.1 _ hlink) (fun _ h => h) hv hd (kk p e s m args below meth c H locs ls hF hP hS hl)
/-- the same field, when it may be written: not final, of the type ty -/
def zPd (cl : List vw_C) (Ts : List Cond) (own : String) (index ci k : Nat) (ty : FieldType) : Prop := ∃ (C : String) (T : u_T) (N : Nat) (ty0 : Nat → FieldType), cl[ci]? = some (C, T, N) ∧ (∀ w ∈ u_ws C T N, w ∈ Ts) ∧ Cond.fieldLink own index (T k).1 (T k).2.1 (T k).2.2.1 ∈ Ts ∧ k < N ∧ (∀ k, k < N → parseFieldDescriptor (T k).2.2.1 = some (ty0 k)) ∧ (∀ a, a < N → ∀ b, b < N → a ≠ b → (T a).2.1 ≠ (T b).2.1) ∧ (T k).2.2.2 = false ∧ parseFieldDescriptor (T k).2.2.1 = some ty
theorem z_put {index ci i a : Nat} {fs : List Value} {v : Value} {ty : FieldType} (hd : decode cc pc = .ok (.putfield index, 3)) (f : zPd cl Ts own index ci i ty) (hσ : σ a = some (.inr (ci, fs))) (hl' : i < fs.length) (hn : narrow ty v = v) (hfit : fits ty v = true) (kk : Z l D cl tys Ts Nw own nm cc nL ret R b Fi k n N (zUp σ a (.inr (ci, fs.set i v))) (pc + 3) lv st) : Z l D cl tys Ts Nw own nm cc nL ret R b Fi k n N σ pc lv (v :: .ref (b + a) :: st) := by
  intro p e s m args below meth c H locs ls hF hP hS hl
  obtain ⟨C, T, N0, ty0, hc, hin, hlink, hk, hty, hnm, hfin, hpd⟩ := f
  obtain ⟨hx, hb, hml, hr, hlocks, hown, hts, hK, hNw, hname, hbs⟩ := id hF
  have hap := va_apart (own := own) hts hin ty0 hty hnm hK hc
  obtain ⟨r, h1, cell, q1, q2, q3, q4⟩ := hP.2 a _ hσ
  have hr' : r = (C, T, N0) := Option.some.inj (h1.symm.trans hc)
  subst hr'
  obtain ⟨hS', hfc, kC, hkC, hkind⟩ := hK.1 ci _ hc
  obtain ⟨cf, kf, fi, fd, hi, hsl⟩ := hS' i hk
  have hlay := hts _ (hin _ (u_in_lay hk))
  unfold u_lay at hlay
  rw [if_neg (by rw [hfin]; decide)] at hlay
  have hst := (u_facts hfc hkC (u_lays hts hin hk) hi).1
  have h6 := u_store hfc hkC hkind hlay hi hpd hn hfit
  refine W.putK hx hb (f := fd) ⟨hown, hts _ hlink, ⟨_, _, _, hi⟩, hst⟩ (by rw [q2]; exact h6) q1 q3 (by rw [hsl]; exact k2_hasslot (q4 i hk)) rfl rfl hd fun H' e1 e2 e3 => ?_
  rw [hsl] at e1 ⊢
  exact kk p e s m args below meth c H' _ ls hF (hP.set (x0 := .inr (ci, fs)) e2 e3 ⟨_, hc, t_OB.to (V := updV (vp_V fs) i v) ⟨_, e1, q2, q3, t_set q4 hap hk v⟩ (fun j _ => vp_updV_set hl' v j)⟩) (hS.put e2 e3 (Nat.le_add_right b a)) hl
/-- a final field, in its own class's constructor -/
def zFn (cl : List vw_C) (Ts : List Cond) (own : String) (index ci k : Nat) (ty : FieldType) : Prop := ∃ (C : String) (T : u_T) (N : Nat) (ty0 : Nat → FieldType), cl[ci]? = some (C, T, N) ∧ (∀ w ∈ u_ws C T N, w ∈ Ts) ∧ Cond.fieldLink own index (T k).1 (T k).2.1 (T k).2.2.1 ∈ Ts ∧ k < N ∧ (∀ k, k < N → parseFieldDescriptor (T k).2.2.1 = some (ty0 k)) ∧ (∀ a, a < N → ∀ b, b < N → a ≠ b → (T a).2.1 ≠ (T b).2.1) ∧ (T k).2.2.2 = true ∧ parseFieldDescriptor (T k).2.2.1 = some ty ∧ (T k).1 = own
theorem z_putF {index ci i a : Nat} {fs : List Value} {v : Value} {ty : FieldType} (hd : decode cc pc = .ok (.putfield index, 3)) (f : zFn cl Ts own index ci i ty) (hin2 : nm = "<init>") (hσ : σ a = some (.inr (ci, fs))) (hl' : i < fs.length) (hn : narrow ty v = v) (hfit : fits ty v = true) (kk : Z l D cl tys Ts Nw own nm cc nL ret R b Fi k n N (zUp σ a (.inr (ci, fs.set i v))) (pc + 3) lv st) : Z l D cl tys Ts Nw own nm cc nL ret R b Fi k n N σ pc lv (v :: .ref (b + a) :: st) := by
  intro p e s m args below meth c H locs ls hF hP hS hl
  obtain ⟨C, T, N0, ty0, hc, hin, hlink, hk, hty, hnm, hfin, hpd, hdecl⟩ := f
  obtain ⟨hx, hb, hml, hr, hlocks, hown, hts, hK, hNw, hname, hbs⟩ := id hF
  have hap := va_apart (own := own) hts hin ty0 hty hnm hK hc
  obtain ⟨r, h1, cell, q1, q2, q3, q4⟩ := hP.2 a _ hσ
  have hr' : r = (C, T, N0) := Option.some.inj (h1.symm.trans hc)
  subst hr'
  obtain ⟨hS', hfc, kC, hkC, hkind⟩ := hK.1 ci _ hc
  obtain ⟨cf, kf, fi, fd, hi, hsl⟩ := hS' i hk
  have hlay := hts _ (hin _ (u_in_lay hk))
  unfold u_lay at hlay
  rw [if_pos hfin] at hlay
  have hst := (u_facts hfc hkC (u_lays hts hin hk) hi).1
  have hcf : m.cls = cf := by
    obtain ⟨_, _, c', _, _, _, -, -, hf', -, -, -, hown2, -⟩ := Cond.laysFinal_spec hlay
    have e1 : c' = cf := by have := hi.symm.trans hf'; simp at this; exact this.1.symm
    rw [hdecl] at hown2
    rw [← e1]; exact Option.some.inj (hown.symm.trans hown2)
  have h6 := u_fits hfc hkC hkind (Or.inr hlay) hi hpd hn hfit
  refine W.putFinK hx hb hown (hts _ hlink) hi hst hcf (hname.trans hin2) (by rw [q2]; exact h6) q1 q3 (by rw [hsl]; exact k2_hasslot (q4 i hk)) rfl rfl hd fun H' e1 e2 e3 => ?_
  rw [hsl] at e1 ⊢
  exact kk p e s m args below meth c H' _ ls hF (hP.set (x0 := .inr (ci, fs)) e2 e3 ⟨_, hc, t_OB.to (V := updV (vp_V fs) i v) ⟨_, e1, q2, q3, t_set q4 hap hk v⟩ (fun j _ => vp_updV_set hl' v j)⟩) (hS.put e2 e3 (Nat.le_add_right b a)) hl
theorem z_iald {t0 a len : Nat} {cA : ClassId} {f : Nat → Int32} {i : Int32} (hd : decode cc pc = .ok (.iaload, 1)) (ht : tys[t0]? = some (cA, .int)) (hσ : σ a = some (.inl (cA, len, .inl f))) (hi : vp_in i len) (kk : Z l D cl tys Ts Nw own nm cc nL ret R b Fi k n N σ (pc + 1) lv (.int (f i.toNatClampNeg) :: st)) : Z l D cl tys Ts Nw own nm cc nL ret R b Fi k n N σ pc lv (.int i :: .ref (b + a) :: st) := fun p e s m args below meth c H locs ls hF hP hS hl => va_iald hF.1 hF.2.1 hF.2.2.2.2.2.2.2.1 (hP.one hσ) 0 t0 rfl ht hi hd (kk p e s m args below meth c H locs ls hF hP hS hl)
theorem z_lald {t0 a len : Nat} {cA : ClassId} {f : Nat → Int64} {i : Int32} (hd : decode cc pc = .ok (.laload, 1)) (ht : tys[t0]? = some (cA, .long)) (hσ : σ a = some (.inl (cA, len, .inr (.inl f)))) (hi : vp_in i len) (kk : Z l D cl tys Ts Nw own nm cc nL ret R b Fi k n N σ (pc + 1) lv (.long (f i.toNatClampNeg) :: st)) : Z l D cl tys Ts Nw own nm cc nL ret R b Fi k n N σ pc lv (.int i :: .ref (b + a) :: st) := fun p e s m args below meth c H locs ls hF hP hS hl => va_lald hF.1 hF.2.1 hF.2.2.2.2.2.2.2.1 (hP.one hσ) 0 t0 rfl ht hi hd (kk p e s m args below meth c H locs ls hF hP hS hl)
theorem z_bald {t0 a len : Nat} {cA : ClassId} {f : Nat → Int32} {i : Int32} (hd : decode cc pc = .ok (.baload, 1)) (ht : tys[t0]? = some (cA, .byte)) (hσ : σ a = some (.inl (cA, len, .inl f))) (hi : vp_in i len) (kk : Z l D cl tys Ts Nw own nm cc nL ret R b Fi k n N σ (pc + 1) lv (.int (f i.toNatClampNeg) :: st)) : Z l D cl tys Ts Nw own nm cc nL ret R b Fi k n N σ pc lv (.int i :: .ref (b + a) :: st) := fun p e s m args below meth c H locs ls hF hP hS hl => va_bald hF.1 hF.2.1 hF.2.2.2.2.2.2.2.1 (hP.one hσ) 0 t0 rfl ht hi hd (kk p e s m args below meth c H locs ls hF hP hS hl)
theorem z_zald {t0 a len : Nat} {cA : ClassId} {f : Nat → Int32} {i : Int32} (hd : decode cc pc = .ok (.baload, 1)) (ht : tys[t0]? = some (cA, .boolean)) (hσ : σ a = some (.inl (cA, len, .inl f))) (hi : vp_in i len) (kk : Z l D cl tys Ts Nw own nm cc nL ret R b Fi k n N σ (pc + 1) lv (.int (f i.toNatClampNeg) :: st)) : Z l D cl tys Ts Nw own nm cc nL ret R b Fi k n N σ pc lv (.int i :: .ref (b + a) :: st) := fun p e s m args below meth c H locs ls hF hP hS hl => va_zald hF.1 hF.2.1 hF.2.2.2.2.2.2.2.1 (hP.one hσ) 0 t0 rfl ht hi hd (kk p e s m args below meth c H locs ls hF hP hS hl)
theorem z_cald {t0 a len : Nat} {cA : ClassId} {f : Nat → Int32} {i : Int32} (hd : decode cc pc = .ok (.caload, 1)) (ht : tys[t0]? = some (cA, .char)) (hσ : σ a = some (.inl (cA, len, .inl f))) (hi : vp_in i len) (kk : Z l D cl tys Ts Nw own nm cc nL ret R b Fi k n N σ (pc + 1) lv (.int (f i.toNatClampNeg) :: st)) : Z l D cl tys Ts Nw own nm cc nL ret R b Fi k n N σ pc lv (.int i :: .ref (b + a) :: st) := fun p e s m args below meth c H locs ls hF hP hS hl => va_cald hF.1 hF.2.1 hF.2.2.2.2.2.2.2.1 (hP.one hσ) 0 t0 rfl ht hi hd (kk p e s m args below meth c H locs ls hF hP hS hl)
theorem z_aald {t0 a len : Nat} {cA : ClassId} {C : String} {f : Nat → Option Nat} {i : Int32} (hd : decode cc pc = .ok (.aaload, 1)) (ht : tys[t0]? = some (cA, .object C)) (hσ : σ a = some (.inl (cA, len, .inr (.inr (.inr (.inr f)))))) (hi : vp_in i len) (kk : Z l D cl tys Ts Nw own nm cc nL ret R b Fi k n N σ (pc + 1) lv (va_rf (f i.toNatClampNeg) :: st)) : Z l D cl tys Ts Nw own nm cc nL ret R b Fi k n N σ pc lv (.int i :: .ref (b + a) :: st) := fun p e s m args below meth c H locs ls hF hP hS hl => va_aldq hF.1 hF.2.1 hF.2.2.2.2.2.2.2.1 (hP.one hσ) 0 t0 rfl ht hi hd (kk p e s m args below meth c H locs ls hF hP hS hl)
theorem z_aaldA {t0 a len : Nat} {cA : ClassId} {ty : FieldType} {f : Nat → Option Nat} {i : Int32} (hd : decode cc pc = .ok (.aaload, 1)) (ht : tys[t0]? = some (cA, .array ty)) (hσ : σ a = some (.inl (cA, len, .inr (.inr (.inr (.inr f)))))) (hi : vp_in i len) (kk : Z l D cl tys Ts Nw own nm cc nL ret R b Fi k n N σ (pc + 1) lv (va_rf (f i.toNatClampNeg) :: st)) : Z l D cl tys Ts Nw own nm cc nL ret R b Fi k n N σ pc lv (.int i :: .ref (b + a) :: st) := by
  intro p e s m args below meth c H locs ls hF hP hS hl
  have hlt : i.toNatClampNeg < len := Nat.not_le.mp fun q => hi (Or.inr q)
  exact W.aald (v := va_rf (f i.toNatClampNeg)) (ty := .array ty) hF.1 hF.2.1 (hP.2 a _ hσ) ((hF.2.2.2.2.2.2.2.1.2 t0 _ ht).1 len (fun j => va_rf (f j))) rfl (fun q => by cases q) (by show ¬ (i < 0 ∨ (arrV _ _ _).slots.size ≤ _); rw [arrV_size]; exact hi) (by show (arrV _ _ _).slots[_]? = _; rw [arrV_read _ _ hlt]) rfl rfl hd (kk p e s m args below meth c H locs ls hF hP hS hl)
theorem z_alen {t0 a : Nat} {cA : ClassId} {x : vp_A} {ty : FieldType} {v : Int32} (hd : decode cc pc = .ok (.arraylength, 1)) (ht : tys[t0]? = some (cA, ty)) (hσ : σ a = some (.inl (cA, x))) (hv : Int32.ofNat x.1 = v) (kk : Z l D cl tys Ts Nw own nm cc nL ret R b Fi k n N σ (pc + 1) lv (.int v :: st)) : Z l D cl tys Ts Nw own nm cc nL ret R b Fi k n N σ pc lv (.ref (b + a) :: st) := fun p e s m args below meth c H locs ls hF hP hS hl => va_alen hF.1 hF.2.1 hF.2.2.2.2.2.2.2.1 (hP.one hσ) 0 t0 rfl ht hv hd (kk p e s m args below meth c H locs ls hF hP hS hl)
theorem z_iast {t0 a len : Nat} {cA : ClassId} {f : Nat → Int32} {i : Int32} {x : Int32} (hd : decode cc pc = .ok (.iastore, 1)) (ht : tys[t0]? = some (cA, .int)) (hσ : σ a = some (.inl (cA, len, .inl f))) (hi : vp_in i len) (kk : Z l D cl tys Ts Nw own nm cc nL ret R b Fi k n N (zUp σ a (.inl (cA, len, .inl (upd f i.toNatClampNeg x)))) (pc + 1) lv st) : Z l D cl tys Ts Nw own nm cc nL ret R b Fi k n N σ pc lv (.int x :: .int i :: .ref (b + a) :: st) := by
  intro p e s m args below meth c H locs ls hF hP hS hl
  refine W.iast hF.1 hF.2.1 (hP.2 a _ hσ) ((hF.2.2.2.2.2.2.2.1.2 t0 _ ht).1 len (fun j => .int (f j))) (fun q => by cases q) (by show ¬ (i < 0 ∨ (arrV _ _ _).slots.size ≤ _); rw [arrV_size]; exact hi) rfl rfl hd fun H1 e1 z oq => ?_
  refine kk p e s m args below meth c H1 _ ls hF (hP.set (x0 := .inl (cA, len, .inl f)) z oq ?_) (hS.put z oq (Nat.le_add_right b a)) hl
  show H1[b + a]? = some (vp_cell _ _)
  rw [e1]
  rw [vp_cell_i, vp_cell_i, arrV_store]
  congr 2
  funext q
  by_cases hq : q = i.toNatClampNeg
  · subst hq
    simp [updV, upd]
  · simp [updV, upd, hq]
theorem z_last {t0 a len : Nat} {cA : ClassId} {f : Nat → Int64} {i : Int32} {x : Int64} (hd : decode cc pc = .ok (.lastore, 1)) (ht : tys[t0]? = some (cA, .long)) (hσ : σ a = some (.inl (cA, len, .inr (.inl f)))) (hi : vp_in i len) (kk : Z l D cl tys Ts Nw own nm cc nL ret R b Fi k n N (zUp σ a (.inl (cA, len, .inr (.inl (vp_updL f i.toNatClampNeg x))))) (pc + 1) lv st) : Z l D cl tys Ts Nw own nm cc nL ret R b Fi k n N σ pc lv (.long x :: .int i :: .ref (b + a) :: st) := by
  intro p e s m args below meth c H locs ls hF hP hS hl
  refine W.last hF.1 hF.2.1 (hP.2 a _ hσ) ((hF.2.2.2.2.2.2.2.1.2 t0 _ ht).1 len (fun j => .long (f j))) (fun q => by cases q) (by show ¬ (i < 0 ∨ (arrV _ _ _).slots.size ≤ _); rw [arrV_size]; exact hi) rfl rfl hd fun H1 e1 z oq => ?_
  refine kk p e s m args below meth c H1 _ ls hF (hP.set (x0 := .inl (cA, len, .inr (.inl f))) z oq ?_) (hS.put z oq (Nat.le_add_right b a)) hl
  show H1[b + a]? = some (vp_cell _ _)
  rw [e1]
  rw [vp_cell_l, vp_cell_l, arrV_store]
  congr 2
  funext q
  by_cases hq : q = i.toNatClampNeg
  · subst hq
    simp [updV, vp_updL]
  · simp [updV, vp_updL, hq]
/-- an array of arrays: a row is put into a place (its class is the component's) -/
theorem z_aastA {t0 t1 a a2 len : Nat} {cA cB : ClassId} {ty : FieldType} {f : Nat → Option Nat} {i : Int32} {x : vp_A} (hd : decode cc pc = .ok (.aastore, 1)) (ht : tys[t0]? = some (cA, .array ty)) (ht1 : tys[t1]? = some (cB, ty)) (hrow : ∀ U : State, va_K D cl tys U → ∃ (kA kB : Class), U.vm.classes[cA]? = some kA ∧ kA.kind = .array cB (.array ty) ∧ U.vm.classes[cB]? = some kB ∧ U.vm.assignable cB cB = true) (hσ : σ a = some (.inl (cA, len, .inr (.inr (.inr (.inr f)))))) (hσ2 : σ a2 = some (.inl (cB, x))) (hi : vp_in i len) (kk : Z l D cl tys Ts Nw own nm cc nL ret R b Fi k n N (zUp σ a (.inl (cA, len, .inr (.inr (.inr (.inr (va_up f i.toNatClampNeg (some (b + a2)))))))))  (pc + 1) lv st) : Z l D cl tys Ts Nw own nm cc nL ret R b Fi k n N σ pc lv (.ref (b + a2) :: .int i :: .ref (b + a) :: st) := by
  intro p e s m args below meth c H locs ls hF hP hS hl
  obtain ⟨kA, kB, k1, k2, k3, k4⟩ := hrow s hF.2.2.2.2.2.2.2.1
  have hlt : i.toNatClampNeg < len := Nat.not_le.mp fun q => hi (Or.inr q)
  have h0 : ¬ i < 0 := fun q => hi (Or.inl q)
  have hcv : ∃ cv : Cell, H[b + a2]? = some cv ∧ cv.cls = cB ∧ cv.vm = .none := by
    obtain ⟨n0, f0 | f0 | f0 | f0 | f0⟩ := x <;> exact ⟨_, hP.2 a2 _ hσ2, rfl, rfl⟩
  obtain ⟨cv, g1, g2, g3⟩ := hcv
  refine W.aast hF.1 hF.2.1 (hP.2 a _ hσ) (fun q h => by cases h) (fun h => by cases h) k1 k2 rfl k3 ⟨h0, by show _ < (arrV _ _ _).slots.size; rw [arrV_size]; exact hlt⟩ g1 (fun q h => by rw [g3] at h; cases h) (by rw [g2]; exact k3) (by rw [g2]; exact k4) rfl rfl hd fun H1 e1 z oq => ?_
  refine kk p e s m args below meth c H1 _ ls hF (hP.set (x0 := .inl (cA, len, .inr (.inr (.inr (.inr f))))) z oq ?_) (hS.put z oq (Nat.le_add_right b a)) hl
  show H1[b + a]? = some (vp_cell _ _)
  rw [e1]
  rw [vp_cell_q, vp_cell_q, arrV_store]
  congr 2
  funext q
  by_cases hq : q = i.toNatClampNeg
  · subst hq
    simp [updV, va_up, va_rf]
  · simp [updV, va_up, hq]
/-- an array of objects: an object is put into a place -/
theorem z_aast {t0 a a2 ci len : Nat} {cA : ClassId} {r : vw_C} {vs : List Value} {f : Nat → Option Nat} {i : Int32} (hd : decode cc pc = .ok (.aastore, 1)) (ht : tys[t0]? = some (cA, .object r.1)) (hc : cl[ci]? = some r) (hσ : σ a = some (.inl (cA, len, .inr (.inr (.inr (.inr f)))))) (hσ2 : σ a2 = some (.inr (ci, vs))) (hi : vp_in i len) (kk : Z l D cl tys Ts Nw own nm cc nL ret R b Fi k n N (zUp σ a (.inl (cA, len, .inr (.inr (.inr (.inr (va_up f i.toNatClampNeg (some (b + a2)))))))))  (pc + 1) lv st) : Z l D cl tys Ts Nw own nm cc nL ret R b Fi k n N σ pc lv (.ref (b + a2) :: .int i :: .ref (b + a) :: st) := by
  intro p e s m args below meth c H locs ls hF hP hS hl
  have hK := hF.2.2.2.2.2.2.2.1
  have hlt : i.toNatClampNeg < len := Nat.not_le.mp fun q => hi (Or.inr q)
  have h0 : ¬ i < 0 := fun q => hi (Or.inl q)
  obtain ⟨r', hr', cellV, g1, g2, g3, -⟩ := hP.2 a2 _ hσ2
  have hcls := (hK.1 ci r hc).2
  obtain ⟨kA, comp, k1, k2, k3, -⟩ := (hK.2 t0 _ ht).2
  have hcomp : comp = D.1 ci := Option.some.inj (k3.symm.trans hcls.1)
  subst hcomp
  obtain ⟨kC, hkC, -⟩ := hcls.2
  refine W.aast hF.1 hF.2.1 (hP.2 a _ hσ) (fun q h => by cases h) (fun h => by cases h) k1 k2 rfl hkC ⟨h0, by show _ < (arrV _ _ _).slots.size; rw [arrV_size]; exact hlt⟩ g1 (fun q h => by rw [g3] at h; cases h) (by rw [g2]; exact hkC) (by rw [g2]; exact va_assign hcls) rfl rfl hd fun H1 e1 z oq => ?_
  refine kk p e s m args below meth c H1 _ ls hF (hP.set (x0 := .inl (cA, len, .inr (.inr (.inr (.inr f))))) z oq ?_) (hS.put z oq (Nat.le_add_right b a)) hl
  show H1[b + a]? = some (vp_cell _ _)
  rw [e1]
  rw [vp_cell_q, vp_cell_q, arrV_store]
  congr 2
  funext q
  by_cases hq : q = i.toNatClampNeg
  · subst hq
    simp [updV, va_up, va_rf]
  · simp [updV, va_up, hq]
theorem z_new {index ci : Nat} {C : String} {T : u_T} {N0 : Nat} {fs : List Value} (hd : decode cc pc = .ok (.new index, 3)) (hc : cl[ci]? = some (C, T, N0)) (hin : ∀ w ∈ u_ws C T N0, w ∈ Ts) (ty : Nat → FieldType) (hty : ∀ k, k < N0 → parseFieldDescriptor (T k).2.2.1 = some (ty k)) (hw1 : Cond.classLink own index C ∈ Ts) (hw2 : Cond.instantiable C N0 ∈ Ts) (hw3 : Cond.initialized C ∈ Ts) (hfs : ∀ j, j < N0 → defaultValue (ty j) = vp_V fs j) (h1 : k + 1 ≤ R.cells) (h2 : n + N0 ≤ R.slots) (kk : Z l D cl tys Ts Nw own nm cc nL ret R b Fi (k + 1) (n + N0) (N + 1) (zUp σ N (.inr (ci, fs))) (pc + 3) lv (.ref (b + N) :: st)) : Z l D cl tys Ts Nw own nm cc nL ret R b Fi k n N σ pc lv st := by
  intro p e s m args below meth c H locs ls hF hP hS hl
  obtain ⟨hx, hb, hml, hr, hlocks, hown, hts, hK, hNw, hname, hbs⟩ := id hF
  have hKn := hK.1 ci _ hc
  refine W.newcK hx hb hown (hts _ hw1) (hts _ hw2) (hts _ hw3) rfl hd h1 h2 hKn.2.1 hP.1 fun H1 kC hkC e1 z1 o1 => ?_
  refine kk p e s m args below meth c H1 locs ls hF (hP.push z1 o1 ⟨_, hc, (u_born ty hts hin hKn hkC e1 hty).to hfs⟩) ⟨?_, fun x g1 g2 => ?_, hS.2.2⟩ hl
  · have := hS.1
    rw [hP.1] at this
    omega
  · have := hS.1
    rw [hP.1] at this
    exact (o1 x (by omega)).trans (hS.2.1 x g1 g2)
theorem z_newa {atype : ArrayType} {t0 len : Nat} {cA : ClassId} {ty : FieldType} {x : Int32} {a0 : vp_A} (hd : decode cc pc = .ok (.newarray atype, 2)) (hty : newarray.typeOf atype = ty) (hw : Cond.arrayClass ty ∈ Ts) (ht : tys[t0]? = some (cA, ty)) (ha : vp_cell cA a0 = arrV cA len (fun _ => defaultValue ty)) (hn : ¬ x < 0) (hN : x.toNatClampNeg = len) (hbytes : len * componentBytes ty ≤ 536870912) (h1 : k + 1 ≤ R.cells) (h2 : n + len ≤ R.slots) (kk : Z l D cl tys Ts Nw own nm cc nL ret R b Fi (k + 1) (n + len) (N + 1) (zUp σ N (.inl (cA, a0))) (pc + 2) lv (.ref (b + N) :: st)) : Z l D cl tys Ts Nw own nm cc nL ret R b Fi k n N σ pc lv (.int x :: st) := by
  intro p e s m args below meth c H locs ls hF hP hS hl
  obtain ⟨hx, hb, hml, hr, hlocks, hown, hts, hK, hNw, hname, hbs⟩ := id hF
  subst hty
  refine va_newaK hx hb (hts _ hw) rfl hd rfl hn hN hbytes h1 h2 hP.1 fun H1 cB e1 z1 o1 hAr hNm => ?_
  have hcA : cB = cA := by
    have h := (hK.2 t0 _ ht).2
    have h' : s.vm.findClass ("[" ++ (newarray.typeOf atype).toString) = some cA := by cases atype <;> exact h
    exact Option.some.inj (hNm.symm.trans h')
  subst hcA
  refine kk p e s m args below meth c H1 locs ls hF (hP.push z1 o1 ?_) ⟨?_, fun x g1 g2 => ?_, hS.2.2⟩ hl
  · show H1[b + N]? = some (vp_cell _ _)
    rw [ha]
    exact e1
  · have := hS.1
    rw [hP.1] at this
    omega
  · have := hS.1
    rw [hP.1] at this
    exact (o1 x (by omega)).trans (hS.2.1 x g1 g2)
theorem z_anew {index t0 len : Nat} {C : String} {cA : ClassId} {x : Int32} (hd : decode cc pc = .ok (.anewarray index, 3)) (hw1 : Cond.classLink own index C ∈ Ts) (hw2 : Cond.arrayOver (.object C) ∈ Nw) (ht : tys[t0]? = some (cA, .object C)) (hn : ¬ x < 0) (hN : x.toNatClampNeg = len) (hbytes : len * 4 ≤ 536870912) (h1 : k + 1 ≤ R.cells) (h2 : n + len ≤ R.slots) (kk : Z l D cl tys Ts Nw own nm cc nL ret R b Fi (k + 1) (n + len) (N + 1) (zUp σ N (.inl (cA, len, .inr (.inr (.inr (.inr (fun _ => none))))))) (pc + 3) lv (.ref (b + N) :: st)) : Z l D cl tys Ts Nw own nm cc nL ret R b Fi k n N σ pc lv (.int x :: st) := by
  intro p e s m args below meth c H locs ls hF hP hS hl
  obtain ⟨hx, hb, hml, hr, hlocks, hown, hts, hK, hNw, hname, hbs⟩ := id hF
  subst hN
  refine W.anew hx hb hown (hts _ hw1) (hNw _ hw2).1 rfl hd rfl hn hbytes h1 h2 fun cB kA comp g1 g2 g3 g4 => ?_
  have hcA : cB = cA := by
    obtain ⟨kA', comp', -, -, -, h⟩ := (hK.2 t0 _ ht).2
    exact Option.some.inj (g1.symm.trans h)
  subst hcA
  rw [hP.1]
  refine kk p e s m args below meth c _ locs ls hF (hP.push ?_ ?_ ?_) ⟨?_, fun x g1 g2 => ?_, hS.2.2⟩ hl
  · rw [Array.size_push, hP.1]
  · intro q hq
    rw [Array.getElem?_push, if_neg (by rw [hP.1]; omega)]
  · show (H.push _)[b + N]? = some (vp_cell _ _)
    rw [vp_cell_q, arrV_new, Array.getElem?_push, if_pos hP.1.symm]
    rfl
  · have := hS.1
    rw [Array.size_push]
    omega
  · have := hS.1
    rw [Array.getElem?_push, if_neg (by omega)]
    exact hS.2.1 x g1 g2
theorem z_iret {v : Int32} {mc ms : Nat} {Q : Outcome → Nat → (Nat → Option va_E) → Prop} (hd : decode cc pc = .ok (.ireturn, 1)) (hret : ret = some .int) (h1 : k ≤ mc) (h2 : n ≤ ms) (hQ : Q (.returned (some (.int v))) N σ) : Z l D cl tys Ts Nw own nm cc nL ret R b (zFi D cl b mc ms Q) k n N σ pc lv [.int v] := by
  intro p e s m args below meth c H locs ls hF hP hS hl
  obtain ⟨hx, hb, hml, hr, hlocks, hown, hts, hK, hNw, hname, hbs⟩ := id hF
  subst hret
  refine W.widen h1 h2 ?_
  exact W.iret hx hb hr (fun t ht hW => ⟨⟨N, σ, hQ, by rw [ht]; exact hP⟩, hS.F ht⟩) hS.2.2 hd
theorem z_lret {v : Int64} {mc ms : Nat} {Q : Outcome → Nat → (Nat → Option va_E) → Prop} (hd : decode cc pc = .ok (.lreturn, 1)) (hret : ret = some .long) (h1 : k ≤ mc) (h2 : n ≤ ms) (hQ : Q (.returned (some (.long v))) N σ) : Z l D cl tys Ts Nw own nm cc nL ret R b (zFi D cl b mc ms Q) k n N σ pc lv [.long v] := by
  intro p e s m args below meth c H locs ls hF hP hS hl
  obtain ⟨hx, hb, hml, hr, hlocks, hown, hts, hK, hNw, hname, hbs⟩ := id hF
  subst hret
  refine W.widen h1 h2 ?_
  exact W.lret hx hb hr (fun t ht hW => ⟨⟨N, σ, hQ, by rw [ht]; exact hP⟩, hS.F ht⟩) hS.2.2 hd
theorem z_vret {mc ms : Nat} {Q : Outcome → Nat → (Nat → Option va_E) → Prop} (hd : decode cc pc = .ok (.return_, 1)) (hret : ret = none) (h1 : k ≤ mc) (h2 : n ≤ ms) (hQ : Q (.returned (none)) N σ) : Z l D cl tys Ts Nw own nm cc nL ret R b (zFi D cl b mc ms Q) k n N σ pc lv [] := by
  intro p e s m args below meth c H locs ls hF hP hS hl
  obtain ⟨hx, hb, hml, hr, hlocks, hown, hts, hK, hNw, hname, hbs⟩ := id hF
  subst hret
  refine W.widen h1 h2 ?_
  exact W.vret hx hb hr (fun t ht hW => ⟨⟨N, σ, hQ, by rw [ht]; exact hP⟩, hS.F ht⟩) hS.2.2 hd
theorem z_zret {v : Int32} {mc ms : Nat} {Q : Outcome → Nat → (Nat → Option va_E) → Prop} (hd : decode cc pc = .ok (.ireturn, 1)) (hret : ret = some .boolean) (hv : narrow .boolean (.int v) = .int v) (h1 : k ≤ mc) (h2 : n ≤ ms) (hQ : Q (.returned (some (.int v))) N σ) : Z l D cl tys Ts Nw own nm cc nL ret R b (zFi D cl b mc ms Q) k n N σ pc lv [.int v] := by
  intro p e s m args below meth c H locs ls hF hP hS hl
  obtain ⟨hx, hb, hml, hr, hlocks, hown, hts, hK, hNw, hname, hbs⟩ := id hF
  subst hret
  refine W.widen h1 h2 ?_
  exact W.zret hx hb hr hv (fun t ht hW => ⟨⟨N, σ, hQ, by rw [ht]; exact hP⟩, hS.F ht⟩) hS.2.2 hd
theorem z_objInit {idx a : Nat} (hd : decode cc pc = .ok (.invokespecial idx, 3)) (hw1 : Cond.methodLink own idx objectInit ∈ Ts) (hw2 : Cond.instanceMethod objectInit ∈ Ts) (hw3 : Cond.code objectInit ⟨#[0xb1]⟩ 1 none ∈ Ts) (hf : 1 ≤ R.frames) (hlo : (st.map fun v => v.category).sum + 12 ≤ R.locals) (kk : Z l D cl tys Ts Nw own nm cc nL ret R b Fi k n N σ (pc + 3) lv st) : Z l D cl tys Ts Nw own nm cc nL ret R b Fi k n N σ pc lv (.ref a :: st) := by
  intro p e s m args below meth c H locs ls hF hP hS hl
  obtain ⟨hx, hb, hml, hr, hlocks, hown, hts, hK, hNw, hname, hbs⟩ := id hF
  refine W.objInit hx hb hown (hts _ hw1) (hts _ hw2) (hts _ hw3) rfl (by rw [hml]; exact hl.1) rfl hd hf (by show 2 * 0 + _ + 12 ≤ _; omega) ?_
  exact kk p e s m args below meth c H locs ls hF hP hS hl
theorem z_pre {y : MethodName} {av : List Value} {s : State} {H : Heap} (hK : va_K D cl tys s) (hN : zN Nw s) (hP : zP D cl b N σ H) : FrameBlind (va_Pc av (fun U => zP D cl b N σ U.heap ∧ va_K D cl tys U ∧ zN Nw U)) ∧ ∀ U : State, U.heap = H → s.WarmedH U.vm → va_Pc av (fun U => zP D cl b N σ U.heap ∧ va_K D cl tys U ∧ zN Nw U) av.toArray U :=
  ⟨fun a U g mk q => ⟨q.1, q.2.1, va_K.moved (u := U) (U := U.calling g mk a) (Vm.Alike.refl U.vm) q.2.2.1, zN.same (u := U) (U := U.calling g mk a) rfl q.2.2.2⟩, fun U hU hW => ⟨rfl, by rw [hU]; exact hP, va_K.moved hW.alike hK, hN.warm hW⟩⟩
/-- behind a call -/
theorem z_behind {p : Program} {e : Env} {s : State} {m : MethodId} {args a2 : Array Value} {below : List Frame} {meth : Method} {c : Code} {H : Heap} {locs : List Loc} {ls : Array Slot} {mc ms : Nat} {st0 rest : List Value} {Q : Outcome → Nat → (Nat → Option va_E) → Prop}
    (hF : zF D cl tys Ts Nw own nm cc nL ret b p s m args meth c) (hS : va_S (fun q => b ≤ q) s.heap H locs) (hl : lv_has ls nL lv)
    (hr : va_Run p l e R s m args below meth c H locs k n mc ms (F0 m pc ls st0) rest (zQ D cl b Q a2) (fun q => b ≤ q))
    (kk : ∀ (v : Option Value) (N' : Nat) (σ' : Nat → Option va_E), Q (.returned v) N' σ' → Z l D cl tys Ts Nw own nm cc nL ret R b Fi (k + mc) (n + ms) N' σ' (pc + 3) lv (v.toList ++ rest)) : W p l e R s m args below meth c H locs k n (Fi below args s) (F0 m pc ls st0) := by
  intro T hT X
  obtain ⟨v, st₀, t, T', L, h0, X', hL, e1, e2, ⟨⟨N', σ', hq, hp⟩, hz, hk⟩, st⟩ := hr T hT X
  rw [h0] at hz hk
  have hS' : va_S (fun q => b ≤ q) s.heap T'.heap (locs ++ L) := by
    refine ⟨Nat.le_trans hS.1 (by rw [e1]; exact hz), fun q h1 h2 => by rw [e1, hk q (Nat.lt_of_lt_of_le h1 hS.1) h2]; exact hS.2.1 q h1 h2, fun q hq' => ?_⟩
    rcases List.mem_append.mp hq' with h | h
    · exact hS.2.2 q h
    · exact hL q h
  obtain ⟨t2, a1, b1⟩ := kk v N' σ' hq p e s m args below meth c T'.heap (locs ++ L) ls hF (by rw [e1]; exact hp) hS' hl T' rfl X'
  exact ⟨t2, st t2 a1, b1⟩
/-- what stands fixed of a call of y from a method of own -/
def zCV (Ts : List Cond) (own C : String) (index : Nat) (y : MethodName) (bytes : ByteArray) (maxL : Nat) (ret : Option FieldType) (ws : List Cond) (n : Nat) : Prop := GoodIn Ts (wsV own index C y ws) ∧ (∃ ws', ws = Cond.code y bytes maxL ret :: ws') ∧ (y.cls = C ∧ y.cls ≠ "java/lang/invoke/MethodHandle" ∧ y.cls ≠ "java/lang/invoke/VarHandle" ∧ (parseMethodDescriptor y.desc).map (fun d => d.parameters.length) = some n)
theorem z_callV {y : MethodName} {ws : List Cond} {fr lo mc ms index maxL i ci a : Nat} {C : String} {bytes : ByteArray} {ret' : Option FieldType} {As rest fs : List Value} {Q : Outcome → Nat → (Nat → Option va_E) → Prop} {T : u_T} {N0 : Nat}
    (hd : decode cc pc = .ok (.invokevirtual index, 3)) (cw : zCV Ts own C index y bytes maxL ret' ws i) (hσ : σ a = some (.inr (ci, fs))) (hc : cl[ci]? = some (C, T, N0)) (hM : zM l D cl tys Nw b y ws fr lo mc ms (.ref (b + a) :: As) N σ Q) (hst : st = As.reverse ++ .ref (b + a) :: rest) (hn : As.length = i) (hW : (rest.map fun v => v.category).sum ≤ 8) (hR : fr + 1 ≤ R.frames ∧ 8 + (maxL + 11) + lo ≤ R.locals) (hf : k + mc ≤ R.cells ∧ n + ms ≤ R.slots)
    (kk : ∀ (v : Option Value) (N' : Nat) (σ' : Nat → Option va_E), Q (.returned v) N' σ' → Z l D cl tys Ts Nw own nm cc nL ret R b Fi (k + mc) (n + ms) N' σ' (pc + 3) lv (v.toList ++ rest)) : Z l D cl tys Ts Nw own nm cc nL ret R b Fi k n N σ pc lv st := by
  intro p e s m args below meth c H locs ls hF hP hS hl
  obtain ⟨hx, hb, hml, hr, hlocks, hown, hts, hK, hNw, hname, hbs⟩ := id hF
  obtain ⟨hG, ⟨ws', hw⟩, hd4⟩ := cw
  have hpre := z_pre (y := y) (av := .ref (b + a) :: As) hK hNw hP
  refine z_behind (mc := mc) (ms := ms) (Q := Q) (rest := rest) hF hS hl (va_runV (n := i) (As := As) (rest := rest) (g := F0 m pc ls st) ⟨hx, hb, hml, hown, hts⟩ hM (cwV i hts hG hw rfl rfl hd4 hR) ⟨hpre.1, va_recv hK (hP.one hσ) hc (q0 := 0) rfl, hpre.2⟩ rfl hn hl.1 hst (lv_room hW) hd hf) kk
def zCS (Ts : List Cond) (own : String) (index : Nat) (y : MethodName) (bytes : ByteArray) (maxL : Nat) (ret : Option FieldType) (ws : List Cond) (n : Nat) : Prop := GoodIn Ts (wsS own index y ws) ∧ (∃ ws', ws = Cond.code y bytes maxL ret :: ws') ∧ (y.cls = own ∧ y.cls ≠ "java/lang/invoke/MethodHandle" ∧ y.cls ≠ "java/lang/invoke/VarHandle" ∧ (parseMethodDescriptor y.desc).map (fun d => d.parameters.length) = some n)
theorem z_callS {y : MethodName} {ws : List Cond} {fr lo mc ms index maxL i : Nat} {bytes : ByteArray} {ret' : Option FieldType} {As rest : List Value} {Q : Outcome → Nat → (Nat → Option va_E) → Prop}
    (hd : decode cc pc = .ok (.invokestatic index, 3)) (cw : zCS Ts own index y bytes maxL ret' ws i) (hM : zM l D cl tys Nw b y ws fr lo mc ms As N σ Q) (hst : st = As.reverse ++ rest) (hn : As.length = i) (hW : (rest.map fun v => v.category).sum ≤ 8) (hR : fr + 1 ≤ R.frames ∧ 8 + (maxL + 11) + lo ≤ R.locals) (hf : k + mc ≤ R.cells ∧ n + ms ≤ R.slots)
    (kk : ∀ (v : Option Value) (N' : Nat) (σ' : Nat → Option va_E), Q (.returned v) N' σ' → Z l D cl tys Ts Nw own nm cc nL ret R b Fi (k + mc) (n + ms) N' σ' (pc + 3) lv (v.toList ++ rest)) : Z l D cl tys Ts Nw own nm cc nL ret R b Fi k n N σ pc lv st := by
  intro p e s m args below meth c H locs ls hF hP hS hl
  obtain ⟨hx, hb, hml, hr, hlocks, hown, hts, hK, hNw, hname, hbs⟩ := id hF
  obtain ⟨hG, ⟨ws', hw⟩, hd4⟩ := cw
  have hpre := z_pre (y := y) (av := As) hK hNw hP
  refine z_behind (mc := mc) (ms := ms) (Q := Q) (rest := rest) hF hS hl (va_runS (n := i) (As := As) (rest := rest) (g := F0 m pc ls st) ⟨hx, hb, hml, hown, hts⟩ hM (cwS i hts hG hw rfl rfl hd4 hR) ⟨hpre.1, hpre.2⟩ rfl hn hl.1 hst (lv_room hW) hd hf) kk
def zCI (Ts : List Cond) (own : String) (index : Nat) (y : MethodName) (bytes : ByteArray) (maxL : Nat) (ws : List Cond) (n : Nat) : Prop := GoodIn Ts ws ∧ (∃ ws', ws = Cond.code y bytes maxL none :: ws') ∧ Cond.initialized y.cls ∈ Ts ∧ Cond.methodLink own index y ∈ Ts ∧ Cond.instanceMethod y ∈ Ts ∧ y.name = "<init>" ∧ (y.cls ≠ "java/lang/invoke/MethodHandle" ∧ y.cls ≠ "java/lang/invoke/VarHandle" ∧ (parseMethodDescriptor y.desc).map (fun d => d.parameters.length) = some n)
theorem z_callI {y : MethodName} {ws : List Cond} {fr lo mc ms index maxL i a : Nat} {bytes : ByteArray} {As rest : List Value} {Q : Outcome → Nat → (Nat → Option va_E) → Prop}
    (hd : decode cc pc = .ok (.invokespecial index, 3)) (cw : zCI Ts own index y bytes maxL ws i) (hM : zM l D cl tys Nw b y ws fr lo mc ms (.ref a :: As) N σ Q) (hst : st = As.reverse ++ .ref a :: rest) (hn : As.length = i) (hW : (rest.map fun v => v.category).sum ≤ 8) (hR : fr + 1 ≤ R.frames ∧ 8 + (maxL + 11) + lo ≤ R.locals) (hf : k + mc ≤ R.cells ∧ n + ms ≤ R.slots)
    (kk : ∀ (v : Option Value) (N' : Nat) (σ' : Nat → Option va_E), Q (.returned v) N' σ' → Z l D cl tys Ts Nw own nm cc nL ret R b Fi (k + mc) (n + ms) N' σ' (pc + 3) lv (v.toList ++ rest)) : Z l D cl tys Ts Nw own nm cc nL ret R b Fi k n N σ pc lv st := by
  intro p e s m args below meth c H locs ls hF hP hS hl
  obtain ⟨hx, hb, hml, hr, hlocks, hown, hts, hK, hNw, hname, hbs⟩ := id hF
  obtain ⟨hG, ⟨ws', hw⟩, h1, h2, h3, h4, hd4⟩ := cw
  have hpre := z_pre (y := y) (av := .ref a :: As) hK hNw hP
  refine z_behind (mc := mc) (ms := ms) (Q := Q) (rest := rest) hF hS hl (va_runI (n := i) (As := As) (rest := rest) (g := F0 m pc ls st) ⟨hx, hb, hml, hown, hts⟩ hM (cwI i hts hG hw rfl rfl (hts _ h1) (hts _ h2) (hts _ h3) h4 hd4 hR) ⟨hpre.1, hpre.2⟩ rfl hn hl.1 hst (lv_room hW) hd hf) kk
/-- calls of private members of a nest mate -/
def zCN (Ts Nw : List Cond) (own : String) (index : Nat) (y : MethodName) (host : String) (bytes : ByteArray) (maxL : Nat) (ret : Option FieldType) (ws : List Cond) (n : Nat) : Prop := GoodIn Ts ws ∧ (∃ ws', ws = Cond.code y bytes maxL ret :: ws') ∧ Cond.methodLinkNest own index y host ∈ Nw ∧ Cond.initialized y.cls ∈ Ts ∧ (y.cls ≠ "java/lang/invoke/MethodHandle" ∧ y.cls ≠ "java/lang/invoke/VarHandle" ∧ (parseMethodDescriptor y.desc).map (fun d => d.parameters.length) = some n)
theorem z_callIN {y : MethodName} {ws : List Cond} {fr lo mc ms index maxL i a : Nat} {host : String} {bytes : ByteArray} {As rest : List Value} {Q : Outcome → Nat → (Nat → Option va_E) → Prop}
    (hd : decode cc pc = .ok (.invokespecial index, 3)) (cw : zCN Ts Nw own index y host bytes maxL none ws i) (h4 : y.name = "<init>") (h3 : Cond.instanceMethod y ∈ Ts) (hM : zM l D cl tys Nw b y ws fr lo mc ms (.ref a :: As) N σ Q) (hst : st = As.reverse ++ .ref a :: rest) (hn : As.length = i) (hW : (rest.map fun v => v.category).sum ≤ 8) (hR : fr + 1 ≤ R.frames ∧ 8 + (maxL + 11) + lo ≤ R.locals) (hf : k + mc ≤ R.cells ∧ n + ms ≤ R.slots)
    (kk : ∀ (v : Option Value) (N' : Nat) (σ' : Nat → Option va_E), Q (.returned v) N' σ' → Z l D cl tys Ts Nw own nm cc nL ret R b Fi (k + mc) (n + ms) N' σ' (pc + 3) lv (v.toList ++ rest)) : Z l D cl tys Ts Nw own nm cc nL ret R b Fi k n N σ pc lv st := by
  intro p e s m args below meth c H locs ls hF hP hS hl
  obtain ⟨hx, hb, hml, hr, hlocks, hown, hts, hK, hNw, hname, hbs⟩ := id hF
  obtain ⟨hG, ⟨ws', hw⟩, h1, h2, hd4⟩ := cw
  have hpre := z_pre (y := y) (av := .ref a :: As) hK hNw hP
  refine z_behind (mc := mc) (ms := ms) (Q := Q) (rest := rest) hF hS hl (va_runIN (n := i) (As := As) (rest := rest) (g := F0 m pc ls st) ⟨hx, hb, hml, hown, hts⟩ hM ⟨va_cnB i hts hG hw rfl rfl (hNw _ h1).1 (hts _ h2) hd4 hR, h4, hts _ h3⟩ ⟨hpre.1, hpre.2⟩ rfl hn hl.1 hst (lv_room hW) hd hf) kk
theorem z_callSN {y : MethodName} {ws : List Cond} {fr lo mc ms index maxL i : Nat} {host : String} {bytes : ByteArray} {ret' : Option FieldType} {As rest : List Value} {Q : Outcome → Nat → (Nat → Option va_E) → Prop}
    (hd : decode cc pc = .ok (.invokestatic index, 3)) (cw : zCN Ts Nw own index y host bytes maxL ret' ws i) (h3 : Cond.static y ∈ Ts) (hM : zM l D cl tys Nw b y ws fr lo mc ms As N σ Q) (hst : st = As.reverse ++ rest) (hn : As.length = i) (hW : (rest.map fun v => v.category).sum ≤ 8) (hR : fr + 1 ≤ R.frames ∧ 8 + (maxL + 11) + lo ≤ R.locals) (hf : k + mc ≤ R.cells ∧ n + ms ≤ R.slots)
    (kk : ∀ (v : Option Value) (N' : Nat) (σ' : Nat → Option va_E), Q (.returned v) N' σ' → Z l D cl tys Ts Nw own nm cc nL ret R b Fi (k + mc) (n + ms) N' σ' (pc + 3) lv (v.toList ++ rest)) : Z l D cl tys Ts Nw own nm cc nL ret R b Fi k n N σ pc lv st := by
  intro p e s m args below meth c H locs ls hF hP hS hl
  obtain ⟨hx, hb, hml, hr, hlocks, hown, hts, hK, hNw, hname, hbs⟩ := id hF
  obtain ⟨hG, ⟨ws', hw⟩, h1, h2, hd4⟩ := cw
  have hpre := z_pre (y := y) (av := As) hK hNw hP
  refine z_behind (mc := mc) (ms := ms) (Q := Q) (rest := rest) hF hS hl (va_runSN (n := i) (As := As) (rest := rest) (g := F0 m pc ls st) ⟨hx, hb, hml, hown, hts⟩ hM ⟨va_cnB i hts hG hw rfl rfl (hNw _ h1).1 (hts _ h2) hd4 hR, hts _ h3, trivial⟩ ⟨hpre.1, hpre.2⟩ rfl hn hl.1 hst (lv_room hW) hd hf) kk
end ZR
/-- a contract out of a walk -/
theorem zM.of {l : Launch} {D : va_G} {cl : List vw_C} {tys : List (ClassId × FieldType)} {ws ws' Nw : List Cond} {b : Nat} {y : MethodName} {cc : ByteArray} {nL : Nat} {ret : Option FieldType} {fr lo mc ms : Nat} {av : List Value} {N : Nat} {σ : Nat → Option va_E} {Q : Outcome → Nat → (Nat → Option va_E) → Prop} (hy : plainName y.cls = true) (hw : ws = Cond.code y cc nL ret :: ws') (hlen : (lg_sl av).length ≤ nL)
    (kk : Z l D cl tys ws Nw y.cls y.name cc nL ret { frames := fr, cells := mc, slots := ms, locals := lo } b (zFi D cl b mc ms Q) 0 0 N σ 0 (lv_args 0 av) []) : zM l D cl tys Nw b y ws fr lo mc ms av N σ Q := by
  refine Met.ofW (cc := cc) (maxL := nL) (ret := ret) hy hw ?_
  intro p e s m args below meth c s₁ B hml hv
  obtain ⟨rfl, hP, hK, hN⟩ := hv
  have hx := B.exec
  have hb := B.bytes
  have hr := B.returns
  have hts := atoms_spec (ws := ws) B.pre
  have hown : s.vm.findClass y.cls = some m.cls := findClass_of_methodNamed B.named
  have hlocks := B.notSynchronized
  have hname : meth.name = y.name := (name_of_methodNamed B.named B.method).1
  have hl := lv_entry av (n := nL) hlen
  rw [lg_entry_eq]
  generalize (lg_sl av ++ List.replicate (nL - (lg_sl av).length) Slot.unset).toArray = ls at hl ⊢
  exact kk p e s m av.toArray below meth c s.heap [] ls ⟨hx, hb, hml, hr, hlocks, hown, hts, hK, hN, hname, by rw [hP.1]; exact Nat.le_add_right b N⟩ hP va_S.rf hl
