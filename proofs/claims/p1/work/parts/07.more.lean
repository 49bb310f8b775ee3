section ZM
variable {l : Launch} {D : va_G} {cl : List vw_C} {tys : List (ClassId × FieldType)} {Ts Nw : List Cond} {own nm : String} {cc : ByteArray} {nL : Nat} {ret : Option FieldType} {R : Room} {b : Nat} {Fi : List Frame → Array Value → State → State → Prop} {k n N : Nat} {σ : Nat → Option va_E} {pc : Nat} {lv : List (Nat × Value)} {st : List Value}
theorem z_zast {t0 a len : Nat} {cA : ClassId} {f : Nat → Int32} {i : Int32} {x : Int32} (hd : decode cc pc = .ok (.bastore, 1)) (ht : tys[t0]? = some (cA, .boolean)) (hσ : σ a = some (.inl (cA, len, .inl f))) (hi : vp_in i len) (hx : narrow .boolean (.int x) = .int x) (kk : Z l D cl tys Ts Nw own nm cc nL ret R b Fi k n N (zUp σ a (.inl (cA, len, .inl (upd f i.toNatClampNeg x)))) (pc + 1) lv st) : Z l D cl tys Ts Nw own nm cc nL ret R b Fi k n N σ pc lv (.int x :: .int i :: .ref (b + a) :: st) := by
  intro p e s m args below meth c H locs ls hF hP hS hl
  refine W.zast hF.1 hF.2.1 (hP.2 a _ hσ) ((hF.2.2.2.2.2.2.2.1.2 t0 _ ht).1 len (fun j => .int (f j))) (fun q => by cases q) (by show ¬ (i < 0 ∨ (arrV _ _ _).slots.size ≤ _); rw [arrV_size]; exact hi) rfl rfl hd fun H1 e1 z oq => ?_
  refine kk p e s m args below meth c H1 _ ls hF (hP.set (x0 := .inl (cA, len, .inl f)) z oq ?_) (hS.put z oq (Nat.le_add_right b a)) hl
  show H1[b + a]? = some (vp_cell _ _)
  rw [e1, hx]
  rw [vp_cell_i, vp_cell_i, arrV_store]
  congr 2
  funext q
  by_cases hq : q = i.toNatClampNeg
  · subst hq
    simp [updV, upd]
  · simp [updV, upd, hq]
theorem z_mmin {index : Nat} {x y : Int32} (hd : decode cc pc = .ok (.invokestatic index, 3)) (h1 : Cond.methodLink own index Lib.Math.min.name ∈ Ts) (h2 : Cond.static Lib.Math.min.name ∈ Ts) (h3 : Cond.initialized "java/lang/Math" ∈ Ts) (h4 : Cond.code Lib.Math.min.name Lib.Math.min.code 2 (some .int) ∈ Ts) (hf : 1 ≤ R.frames) (hlo : (st.map fun v => v.category).sum + 13 ≤ R.locals) (hc : k ≤ R.cells) (hs : n ≤ R.slots) (kk : Z l D cl tys Ts Nw own nm cc nL ret R b Fi k n N σ (pc + 3) lv (.int (if y < x then y else x) :: st)) : Z l D cl tys Ts Nw own nm cc nL ret R b Fi k n N σ pc lv (.int y :: .int x :: st) := fun p e s m args below meth c H locs ls hF hP hS hl => va_mmin hF.1 hF.2.1 (hF.2.2.1.trans hl.1.symm) hF.2.2.2.2.2.1 (hF.2.2.2.2.2.2.1 _ h1) (hF.2.2.2.2.2.2.1 _ h2) (hF.2.2.2.2.2.2.1 _ h3) (hF.2.2.2.2.2.2.1 _ h4) hf hlo hc hs hd (kk p e s m args below meth c H locs ls hF hP hS hl)
theorem z_mmax {index : Nat} {x y : Int32} (hd : decode cc pc = .ok (.invokestatic index, 3)) (h1 : Cond.methodLink own index Lib.Math.max.name ∈ Ts) (h2 : Cond.static Lib.Math.max.name ∈ Ts) (h3 : Cond.initialized "java/lang/Math" ∈ Ts) (h4 : Cond.code Lib.Math.max.name Lib.Math.max.code 2 (some .int) ∈ Ts) (hf : 1 ≤ R.frames) (hlo : (st.map fun v => v.category).sum + 13 ≤ R.locals) (hc : k ≤ R.cells) (hs : n ≤ R.slots) (kk : Z l D cl tys Ts Nw own nm cc nL ret R b Fi k n N σ (pc + 3) lv (.int (if x < y then y else x) :: st)) : Z l D cl tys Ts Nw own nm cc nL ret R b Fi k n N σ pc lv (.int y :: .int x :: st) := fun p e s m args below meth c H locs ls hF hP hS hl => va_mmax hF.1 hF.2.1 (hF.2.2.1.trans hl.1.symm) hF.2.2.2.2.2.1 (hF.2.2.2.2.2.2.1 _ h1) (hF.2.2.2.2.2.2.1 _ h2) (hF.2.2.2.2.2.2.1 _ h3) (hF.2.2.2.2.2.2.1 _ h4) hf hlo hc hs hd (kk p e s m args below meth c H locs ls hF hP hS hl)
def zCT (Ts : List Cond) (own : String) (index : Nat) (y : MethodName) (bytes : ByteArray) (maxL : Nat) (ret : Option FieldType) (ws : List Cond) (n : Nat) : Prop := GoodIn Ts (va_wsS own index y ws) ∧ (∃ ws', ws = Cond.code y bytes maxL ret :: ws') ∧ (y.cls ≠ "java/lang/invoke/MethodHandle" ∧ y.cls ≠ "java/lang/invoke/VarHandle" ∧ (parseMethodDescriptor y.desc).map (fun d => d.parameters.length) = some n)
/-- a static method of another class -/
theorem z_callT {y : MethodName} {ws : List Cond} {fr lo mc ms index maxL i : Nat} {bytes : ByteArray} {ret' : Option FieldType} {As rest : List Value} {Q : Outcome → Nat → (Nat → Option va_E) → Prop}
    (hd : decode cc pc = .ok (.invokestatic index, 3)) (cw : zCT Ts own index y bytes maxL ret' ws i) (hM : zM l D cl tys Nw b y ws fr lo mc ms As N σ Q) (hst : st = As.reverse ++ rest) (hn : As.length = i) (hW : (rest.map fun v => v.category).sum ≤ 8) (hR : fr + 1 ≤ R.frames ∧ 8 + (maxL + 11) + lo ≤ R.locals) (hf : k + mc ≤ R.cells ∧ n + ms ≤ R.slots)
    (kk : ∀ (v : Option Value) (N' : Nat) (σ' : Nat → Option va_E), Q (.returned v) N' σ' → Z l D cl tys Ts Nw own nm cc nL ret R b Fi (k + mc) (n + ms) N' σ' (pc + 3) lv (v.toList ++ rest)) : Z l D cl tys Ts Nw own nm cc nL ret R b Fi k n N σ pc lv st := by
  intro p e s m args below meth c H locs ls hF hP hS hl
  obtain ⟨hx, hb, hml, hr, hlocks, hown, hts, hK, hNw, hname, hbs⟩ := id hF
  obtain ⟨hG, ⟨ws', hw⟩, hd4⟩ := cw
  have hpre := z_pre (y := y) (av := As) hK hNw hP
  refine z_behind (mc := mc) (ms := ms) (Q := Q) (rest := rest) hF hS hl (va_runS (n := i) (As := As) (rest := rest) (g := F0 m pc ls st) ⟨hx, hb, hml, hown, hts⟩ hM (va_cwS i hts hG hw rfl rfl hd4 hR) ⟨hpre.1, hpre.2⟩ rfl hn hl.1 hst (lv_room hW) hd hf) kk
/-- new T[n][m]: the outer array at N, the rows behind it -/
def zRows (σ : Nat → Option va_E) (N len : Nat) (x0 x : va_E) : Nat → Option va_E := fun j => if j = N then some x0 else if N < j ∧ j < N + 1 + len then some x else σ j
theorem zx_outer (c : ClassId) (N h0 : Nat) : ∀ i : Nat, Jvm.Free.Multi.outerC c N h0 i = arrV c N (fun j => va_rf (if j < i then some (h0 + 1 + j) else none))
  | 0 => by
    show ({ cls := c, slots := Array.replicate N .null, vm := .none } : Cell) = _
    rw [arrV_new]
    refine congrArg (arrV c N) (funext fun j => ?_)
    simp [va_rf]
  | i + 1 => by
    show (Jvm.Free.Multi.outerC c N h0 i).setSlot i (.ref (h0 + 1 + i)) = _
    rw [zx_outer c N h0 i, arrV_store]
    refine congrArg (arrV c N) (funext fun j => ?_)
    by_cases e : j = i
    · subst e
      simp [updV, va_rf]
    · by_cases h : j < i
      · simp [updV, e, h, Nat.lt_succ_of_lt h]
      · simp [updV, e, h, show ¬ j < i + 1 by omega]
theorem z_mna {index t0 t1 len1 len2 : Nat} {ty : FieldType} {cA cB : ClassId} {n1 n2 : Int32} {z : vp_A} (hd : decode cc pc = .ok (.multianewarray index 2, 4)) (hw1 : Cond.classLink own index ("[" ++ (FieldType.array ty).toString) ∈ Ts) (hw2 : Cond.arrayOver (.array ty) ∈ Nw) (hw3 : Cond.arrayClass ty ∈ Ts) (hcA : ∀ U : State, va_K D cl tys U → U.vm.findClass ("[" ++ (FieldType.array ty).toString) = some cA) (hcB : ∀ U : State, va_K D cl tys U → U.vm.findClass (FieldType.array ty).toString = some cB)
    (h1 : ¬ n1 < 0) (h2 : ¬ n2 < 0) (hN : n1.toNatClampNeg = len1) (hM : n2.toNatClampNeg = len2) (hb1 : len1 * 4 ≤ 536870912) (hb2 : len2 * componentBytes ty ≤ 536870912) (hb3 : len2 ≤ 536870912) (hdf : fits ty (defaultValue ty) = true) (hdd : (defaultValue ty).isDefault = true) (hz : Jvm.Free.Multi.innerC cB len2 (defaultValue ty) = vp_cell cB z) (hcs : k + (1 + len1) ≤ R.cells) (hss : n + (len1 + len1 * len2) ≤ R.slots)
    (kk : Z l D cl tys Ts Nw own nm cc nL ret R b Fi (k + 1 + len1) (n + len1 + len1 * len2) (N + 1 + len1) (zRows σ N len1 (.inl (cA, len1, .inr (.inr (.inr (.inr (fun i => if i < len1 then some (b + N + 1 + i) else none)))))) (.inl (cB, z))) (pc + 4) lv (.ref (b + N) :: st)) : Z l D cl tys Ts Nw own nm cc nL ret R b Fi k n N σ pc lv (.int n2 :: .int n1 :: st) := by
  intro p e s m args below meth c H locs ls hF hP hS hl
  obtain ⟨hx, hb, hml, hr, hlocks, hown, hts, hK, hNw, hname, hbs⟩ := id hF
  subst hN
  subst hM
  intro T hT Xs
  obtain ⟨vm₁, cA', comp, -, fA, fC, hO, -, X', step⟩ := Xs.multianewarray2F hx hown (hts _ hw1) (hNw _ hw2).1 (hts _ hw3) (g := F0 m pc ls (.int n2 :: .int n1 :: st)) rfl (by rw [hb]; exact hd) rfl h1 h2 hb1 hb2 hb3 hdf hdd hcs hss
  have ea : cA' = cA := Option.some.inj (fA.symm.trans (hcA s hK))
  have ec : comp = cB := Option.some.inj (fC.symm.trans (hcB s hK))
  subst ea
  subst ec
  generalize hFl : Jvm.Free.Multi.fill (T.setVm vm₁) cA' comp n1.toNatClampNeg n2.toNatClampNeg (defaultValue ty) n1.toNatClampNeg = F at X' step
  have hTh : (T.setVm vm₁).heap = H := hT
  obtain ⟨f1, f2, -, -⟩ := Jvm.Free.Multi.fill_facts (T.setVm vm₁) cA' comp n1.toNatClampNeg n2.toNatClampNeg (defaultValue ty) n1.toNatClampNeg
  rw [hFl, hTh] at f1 f2
  have hold : ∀ x : Nat, x < H.size → F.heap[x]? = H[x]? := fun x hx => by
    have := Jvm.Free.Multi.fill_old (T.setVm vm₁) cA' comp n1.toNatClampNeg n2.toNatClampNeg (defaultValue ty) (a := x) (by rw [hTh]; exact hx) n1.toNatClampNeg
    rw [hFl, hTh] at this
    exact this
  have hrow : ∀ j : Nat, j < n1.toNatClampNeg → F.heap[H.size + 1 + j]? = some (vp_cell comp z) := fun j hj => by
    have := Jvm.Free.Multi.fill_inner (T.setVm vm₁) cA' comp n1.toNatClampNeg n2.toNatClampNeg (defaultValue ty) n1.toNatClampNeg j hj
    rw [hFl, hTh, hz] at this
    exact this
  rw [zx_outer] at f2
  rw [hP.1] at f1 f2 hold hrow
  have hP2 : zP D cl b (N + 1 + n1.toNatClampNeg) (zRows σ N n1.toNatClampNeg (.inl (cA', n1.toNatClampNeg, .inr (.inr (.inr (.inr (fun i => if i < n1.toNatClampNeg then some (b + N + 1 + i) else none)))))) (.inl (comp, z))) F.heap := by
    refine ⟨by rw [f1]; omega, fun j y hy => ?_⟩
    unfold zRows at hy
    by_cases e1 : j = N
    · rw [if_pos e1] at hy
      cases hy
      subst e1
      exact f2
    · rw [if_neg e1] at hy
      by_cases e2 : N < j ∧ j < N + 1 + n1.toNatClampNeg
      · rw [if_pos e2] at hy
        cases hy
        have h9 := hrow (j - (N + 1)) (by omega)
        rw [show b + N + 1 + (j - (N + 1)) = b + j by omega] at h9
        exact h9
      · rw [if_neg e2] at hy
        have h9 := hP.2 j y hy
        have h8 := h9.lt
        rw [hP.1] at h8
        exact h9.kept (hold (b + j) h8)
  have hsz := hS.1
  rw [hP.1] at hsz
  obtain ⟨t, a1, b1⟩ := kk p e s m args below meth c F.heap locs ls hF hP2 ⟨by rw [f1]; omega, fun x g1 g2 => (hold x (by omega)).trans (hS.2.1 x g1 g2), hS.2.2⟩ hl F rfl X'
  refine ⟨t, step t ?_, b1⟩
  have e9 : T.heap.size = b + N := by rw [hT]; exact hP.1
  rw [e9]
  exact a1
end ZM
