section ZN
variable {l : Launch} {D : va_G} {cl : List vw_C} {tys : List (ClassId × FieldType)} {Ts Nw : List Cond} {own nm : String} {cc : ByteArray} {nL : Nat} {ret : Option FieldType} {R : Room} {b : Nat} {Fi : List Frame → Array Value → State → State → Prop} {k n N : Nat} {σ : Nat → Option va_E} {pc : Nat} {lv : List (Nat × Value)} {st : List Value} {t0 a len j : Nat} {cA : ClassId}
theorem z_ialdN {f : Nat → Int32} (hd : decode cc pc = .ok (.iaload, 1)) (ht : tys[t0]? = some (cA, .int)) (hσ : σ a = some (.inl (cA, len, .inl f))) (hj : j < len) (hlen : len < 2 ^ 31) (kk : Z l D cl tys Ts Nw own nm cc nL ret R b Fi k n N σ (pc + 1) lv (.int (f j) :: st)) : Z l D cl tys Ts Nw own nm cc nL ret R b Fi k n N σ pc lv (.int (nI j) :: .ref (b + a) :: st) := by
  refine z_iald hd ht hσ (vp_in_nI hj hlen) ?_
  rw [nI_clamp (by omega)]
  exact kk
theorem z_laldN {f : Nat → Int64} (hd : decode cc pc = .ok (.laload, 1)) (ht : tys[t0]? = some (cA, .long)) (hσ : σ a = some (.inl (cA, len, .inr (.inl f)))) (hj : j < len) (hlen : len < 2 ^ 31) (kk : Z l D cl tys Ts Nw own nm cc nL ret R b Fi k n N σ (pc + 1) lv (.long (f j) :: st)) : Z l D cl tys Ts Nw own nm cc nL ret R b Fi k n N σ pc lv (.int (nI j) :: .ref (b + a) :: st) := by
  refine z_lald hd ht hσ (vp_in_nI hj hlen) ?_
  rw [nI_clamp (by omega)]
  exact kk
theorem z_zaldN {f : Nat → Int32} (hd : decode cc pc = .ok (.baload, 1)) (ht : tys[t0]? = some (cA, .boolean)) (hσ : σ a = some (.inl (cA, len, .inl f))) (hj : j < len) (hlen : len < 2 ^ 31) (kk : Z l D cl tys Ts Nw own nm cc nL ret R b Fi k n N σ (pc + 1) lv (.int (f j) :: st)) : Z l D cl tys Ts Nw own nm cc nL ret R b Fi k n N σ pc lv (.int (nI j) :: .ref (b + a) :: st) := by
  refine z_zald hd ht hσ (vp_in_nI hj hlen) ?_
  rw [nI_clamp (by omega)]
  exact kk
theorem z_iastN {f : Nat → Int32} {x : Int32} (hd : decode cc pc = .ok (.iastore, 1)) (ht : tys[t0]? = some (cA, .int)) (hσ : σ a = some (.inl (cA, len, .inl f))) (hj : j < len) (hlen : len < 2 ^ 31) (kk : Z l D cl tys Ts Nw own nm cc nL ret R b Fi k n N (zUp σ a (.inl (cA, len, .inl (upd f j x)))) (pc + 1) lv st) : Z l D cl tys Ts Nw own nm cc nL ret R b Fi k n N σ pc lv (.int x :: .int (nI j) :: .ref (b + a) :: st) := by
  refine z_iast hd ht hσ (vp_in_nI hj hlen) ?_
  rw [nI_clamp (by omega)]
  exact kk
theorem z_lastN {f : Nat → Int64} {x : Int64} (hd : decode cc pc = .ok (.lastore, 1)) (ht : tys[t0]? = some (cA, .long)) (hσ : σ a = some (.inl (cA, len, .inr (.inl f)))) (hj : j < len) (hlen : len < 2 ^ 31) (kk : Z l D cl tys Ts Nw own nm cc nL ret R b Fi k n N (zUp σ a (.inl (cA, len, .inr (.inl (vp_updL f j x))))) (pc + 1) lv st) : Z l D cl tys Ts Nw own nm cc nL ret R b Fi k n N σ pc lv (.long x :: .int (nI j) :: .ref (b + a) :: st) := by
  refine z_last hd ht hσ (vp_in_nI hj hlen) ?_
  rw [nI_clamp (by omega)]
  exact kk
theorem z_zastN {f : Nat → Int32} {x : Int32} (hd : decode cc pc = .ok (.bastore, 1)) (ht : tys[t0]? = some (cA, .boolean)) (hσ : σ a = some (.inl (cA, len, .inl f))) (hj : j < len) (hlen : len < 2 ^ 31) (hx : narrow .boolean (.int x) = .int x) (kk : Z l D cl tys Ts Nw own nm cc nL ret R b Fi k n N (zUp σ a (.inl (cA, len, .inl (upd f j x)))) (pc + 1) lv st) : Z l D cl tys Ts Nw own nm cc nL ret R b Fi k n N σ pc lv (.int x :: .int (nI j) :: .ref (b + a) :: st) := by
  refine z_zast hd ht hσ (vp_in_nI hj hlen) hx ?_
  rw [nI_clamp (by omega)]
  exact kk
theorem z_aaldAR {a2 : Nat} {ty : FieldType} {f : Nat → Option Nat} (hd : decode cc pc = .ok (.aaload, 1)) (ht : tys[t0]? = some (cA, .array ty)) (hσ : σ a = some (.inl (cA, len, .inr (.inr (.inr (.inr f)))))) (hj : j < len) (hlen : len < 2 ^ 31) (hf : f j = some (b + a2)) (kk : Z l D cl tys Ts Nw own nm cc nL ret R b Fi k n N σ (pc + 1) lv (.ref (b + a2) :: st)) : Z l D cl tys Ts Nw own nm cc nL ret R b Fi k n N σ pc lv (.int (nI j) :: .ref (b + a) :: st) := by
  refine z_aaldA hd ht hσ (vp_in_nI hj hlen) ?_
  rw [nI_clamp (by omega), hf]
  exact kk
theorem z_aaldRN {a2 : Nat} {C : String} {f : Nat → Option Nat} (hd : decode cc pc = .ok (.aaload, 1)) (ht : tys[t0]? = some (cA, .object C)) (hσ : σ a = some (.inl (cA, len, .inr (.inr (.inr (.inr f)))))) (hj : j < len) (hlen : len < 2 ^ 31) (hf : f j = some (b + a2)) (kk : Z l D cl tys Ts Nw own nm cc nL ret R b Fi k n N σ (pc + 1) lv (.ref (b + a2) :: st)) : Z l D cl tys Ts Nw own nm cc nL ret R b Fi k n N σ pc lv (.int (nI j) :: .ref (b + a) :: st) := by
  refine z_aald hd ht hσ (vp_in_nI hj hlen) ?_
  rw [nI_clamp (by omega), hf]
  exact kk
end ZN
