/-- the grid's rows: f the outer row, r the rows' cells, M the numbers -/
def GR (b : Nat) (cA cJ : ClassId) (σ : Nat → Option va_E) (f : Nat → Option Nat) (r : Nat → Nat) (M : Nat → Nat → Int64) : Prop :=
  σ 8 = some (.inl (cA, 10, .inr (.inr (.inr (.inr f))))) ∧ (∀ i, i < 10 → f i = some (b + r i)) ∧ (∀ i, i < 10 → 9 ≤ r i ∧ r i ≤ 18) ∧ (∀ i j, i < 10 → j < 10 → r i = r j → i = j) ∧ ∀ i, i < 10 → σ (r i) = some (.inl (cJ, 10, .inr (.inl (M i))))
def mset (M : Nat → Nat → Int64) (i j : Nat) (x : Int64) : Nat → Nat → Int64 := fun p q => if p = i ∧ q = j then x else M p q
/-- nothing but the cells lo .. hi has changed -/
def Fr (lo hi : Nat) (σ σ' : Nat → Option va_E) : Prop := ∀ k, k < lo ∨ hi < k → σ' k = σ k
theorem Fr.rf {lo hi : Nat} {σ : Nat → Option va_E} : Fr lo hi σ σ := fun _ _ => rfl
theorem Fr.tr {lo hi : Nat} {σ σ1 σ2 : Nat → Option va_E} (h : Fr lo hi σ σ1) (h2 : Fr lo hi σ1 σ2) : Fr lo hi σ σ2 := fun k hk => (h2 k hk).trans (h k hk)
theorem Fr.up {lo hi k : Nat} {σ σ1 : Nat → Option va_E} {x : va_E} (h : Fr lo hi σ σ1) (h1 : lo ≤ k) (h2 : k ≤ hi) : Fr lo hi σ (zUp σ1 k x) := fun j hj => (zUp_n (by omega)).trans (h j hj)
theorem Fr.wide {lo hi lo' hi' : Nat} {σ σ1 : Nat → Option va_E} (h : Fr lo hi σ σ1) (h1 : lo' ≤ lo) (h2 : hi ≤ hi') : Fr lo' hi' σ σ1 := fun j hj => h j (by omega)
theorem GR.keep {b : Nat} {cA cJ : ClassId} {σ σ' : Nat → Option va_E} {f : Nat → Option Nat} {r : Nat → Nat} {M : Nat → Nat → Int64} (h : GR b cA cJ σ f r M) (hk : ∀ k, 8 ≤ k → k ≤ 18 → σ' k = σ k) : GR b cA cJ σ' f r M :=
  ⟨(hk 8 (by omega) (by omega)).trans h.1, h.2.1, h.2.2.1, h.2.2.2.1, fun i hi => (hk (r i) (by have := h.2.2.1 i hi; omega) (h.2.2.1 i hi).2).trans (h.2.2.2.2 i hi)⟩
theorem GR.set {b : Nat} {cA cJ : ClassId} {σ : Nat → Option va_E} {f : Nat → Option Nat} {r : Nat → Nat} {M : Nat → Nat → Int64} (h : GR b cA cJ σ f r M) {i j : Nat} (hi : i < 10) (x : Int64) : GR b cA cJ (zUp σ (r i) (.inl (cJ, 10, .inr (.inl (vp_updL (M i) j x))))) f r (mset M i j x) := by
  have hr := h.2.2.1 i hi
  refine ⟨(zUp_n (by omega)).trans h.1, h.2.1, h.2.2.1, h.2.2.2.1, fun p hp => ?_⟩
  by_cases e : p = i
  · subst e
    rw [zUp_s]
    have : vp_updL (M p) j x = mset M p j x p := by funext q; simp [vp_updL, mset]
    rw [this]
  · rw [zUp_n (fun q => e (h.2.2.2.1 p i hp hi q)), h.2.2.2.2 p hp]
    have : mset M i j x p = M p := by funext q; simp [mset, e]
    rw [this]
section ZG
variable {l : Launch} {D : va_G} {cl : List vw_C} {tys : List (ClassId × FieldType)} {Ts Nw : List Cond} {own nm : String} {cc : ByteArray} {nL : Nat} {ret : Option FieldType} {R : Room} {b : Nat} {Fi : List Frame → Array Value → State → State → Prop} {k n N : Nat} {σ : Nat → Option va_E} {pc : Nat} {lv : List (Nat × Value)} {st : List Value} {cA cJ : ClassId} {f : Nat → Option Nat} {r : Nat → Nat} {M : Nat → Nat → Int64} {i j : Nat}
theorem z_gal (hd : decode cc pc = .ok (.aaload, 1)) (ht : tys[3]? = some (cA, .array .long)) (hG : GR b cA cJ σ f r M) (hi : i < 10) (kk : Z l D cl tys Ts Nw own nm cc nL ret R b Fi k n N σ (pc + 1) lv (.ref (b + r i) :: st)) : Z l D cl tys Ts Nw own nm cc nL ret R b Fi k n N σ pc lv (.int (nI i) :: .ref (b + 8) :: st) := z_aaldAR hd ht hG.1 hi (by decide) (hG.2.1 i hi) kk
theorem z_gld (hd : decode cc pc = .ok (.laload, 1)) (ht : tys[1]? = some (cJ, .long)) (hG : GR b cA cJ σ f r M) (hi : i < 10) (hj : j < 10) (kk : Z l D cl tys Ts Nw own nm cc nL ret R b Fi k n N σ (pc + 1) lv (.long (M i j) :: st)) : Z l D cl tys Ts Nw own nm cc nL ret R b Fi k n N σ pc lv (.int (nI j) :: .ref (b + r i) :: st) := z_laldN hd ht (hG.2.2.2.2 i hi) hj (by decide) kk
theorem z_gst {x : Int64} (hd : decode cc pc = .ok (.lastore, 1)) (ht : tys[1]? = some (cJ, .long)) (hG : GR b cA cJ σ f r M) (hi : i < 10) (hj : j < 10) (kk : ∀ σ', GR b cA cJ σ' f r (mset M i j x) → Fr 9 18 σ σ' → Z l D cl tys Ts Nw own nm cc nL ret R b Fi k n N σ' (pc + 1) lv st) : Z l D cl tys Ts Nw own nm cc nL ret R b Fi k n N σ pc lv (.long x :: .int (nI j) :: .ref (b + r i) :: st) :=
  z_lastN hd ht (hG.2.2.2.2 i hi) hj (by decide) (kk _ (hG.set hi x) (Fr.rf.up (hG.2.2.1 i hi).1 (hG.2.2.1 i hi).2))
end ZG
/-- the grid: its size and its numbers -/
def GS (b : Nat) (cA cJ : ClassId) (σ : Nat → Option va_E) (s : Int32) (M : Nat → Nat → Int64) : Prop := σ 7 = some (.inr (3, [.int s, .ref (b + 8)])) ∧ ∃ (f : Nat → Option Nat) (r : Nat → Nat), GR b cA cJ σ f r M
def a1w (M : Nat → Nat → Int64) (x y : Nat) (w : Int64) : Nat → Nat → Int64 := mset (mset M x x (M x x + w)) x y (mset M x x (M x x + w) x y - w)
def abw (M : Nat → Nat → Int64) (x y : Nat) (w : Int64) : Nat → Nat → Int64 := a1w (a1w M x y w) y x w
set_option maxHeartbeats 4000000 in
set_option maxRecDepth 100000 in
theorem c_G_addOneWay {l : Launch} {D : va_G} {tys : List (ClassId × FieldType)} {b N : Nat} {σ : Nat → Option va_E} {cI cJ cA : ClassId} (ht0 : tys[0]? = some (cI, .int)) (ht1 : tys[1]? = some (cJ, .long)) (ht3 : tys[3]? = some (cA, .array .long)) {x y : Nat} {w s : Int32} {M : Nat → Nat → Int64} (hx : x < 10) (hy : y < 10) (hS : GS b cA cJ σ s M) : zM l D kCl tys kNw b ky_G_addOneWay (kh_G_addOneWay :: zT) 0 0 0 0 [.ref (b + 7), .int (nI x), .int (nI y), .int w] N σ (fun oc N' σ' => oc = .returned none ∧ N' = N ∧ GS b cA cJ σ' s (a1w M x y w.toInt64) ∧ Fr 7 18 σ σ') := by
  refine zM.of (by decide +kernel) rfl (Nat.le_of_ble_eq_true rfl) ?_
  refine z_pick (lv' := [(0, .ref (b + 7)), (1, .int (nI x)), (2, .int (nI y)), (3, .int w)]) [0, 1, 2, 3] rfl ?_
  obtain ⟨h7, f, r, hG⟩ := hS
  refine z_aload_n kd_G_addOneWay_0 0 rfl ?_
  refine z_get kd_G_addOneWay_1 (kf_G_11 _) h7 rfl ?_
  refine z_iload_n kd_G_addOneWay_4 1 rfl ?_
  refine z_gal kd_G_addOneWay_5 ht3 hG (by omega) ?_
  refine z_iload_n kd_G_addOneWay_6 1 rfl ?_
  refine z_dup2_11 kd_G_addOneWay_7 rfl rfl ?_
  refine z_gld kd_G_addOneWay_8 ht1 hG (by omega) (by omega) ?_
  refine z_iload_n kd_G_addOneWay_9 3 rfl ?_
  refine z_i2l kd_G_addOneWay_10 ?_
  refine z_ladd kd_G_addOneWay_11 ?_
  refine z_gst kd_G_addOneWay_12 ht1 hG (by omega) (by omega) (fun σ1 g1 q1 => ?_)
  refine z_aload_n kd_G_addOneWay_13 0 rfl ?_
  refine z_get kd_G_addOneWay_14 (kf_G_11 _) ((q1 7 (by omega)).trans h7) rfl ?_
  refine z_iload_n kd_G_addOneWay_17 1 rfl ?_
  refine z_gal kd_G_addOneWay_18 ht3 g1 (by omega) ?_
  refine z_iload_n kd_G_addOneWay_19 2 rfl ?_
  refine z_dup2_11 kd_G_addOneWay_20 rfl rfl ?_
  refine z_gld kd_G_addOneWay_21 ht1 g1 (by omega) (by omega) ?_
  refine z_iload_n kd_G_addOneWay_22 3 rfl ?_
  refine z_i2l kd_G_addOneWay_23 ?_
  refine z_lsub kd_G_addOneWay_24 ?_
  refine z_gst kd_G_addOneWay_25 ht1 g1 (by omega) (by omega) (fun σ2 g2 q2 => ?_)
  exact z_vret kd_G_addOneWay_26 rfl (Nat.le_of_ble_eq_true rfl) (Nat.le_of_ble_eq_true rfl) ⟨rfl, rfl, ⟨((q2 7 (by omega)).trans ((q1 7 (by omega)).trans h7)), f, r, g2⟩, (Fr.tr (Fr.tr Fr.rf (q1.wide (by omega) (by omega))) (q2.wide (by omega) (by omega)))⟩
set_option maxHeartbeats 4000000 in
set_option maxRecDepth 100000 in
theorem c_G_addBothWays {l : Launch} {D : va_G} {tys : List (ClassId × FieldType)} {b N : Nat} {σ : Nat → Option va_E} {cI cJ cA : ClassId} (ht0 : tys[0]? = some (cI, .int)) (ht1 : tys[1]? = some (cJ, .long)) (ht3 : tys[3]? = some (cA, .array .long)) {x y : Nat} {w s : Int32} {M : Nat → Nat → Int64} (hx : x < 10) (hy : y < 10) (hS : GS b cA cJ σ s M) : zM l D kCl tys kNw b ky_G_addBothWays (kh_G_addBothWays :: zT) 1 30 0 0 [.ref (b + 7), .int (nI x), .int (nI y), .int w] N σ (fun oc N' σ' => oc = .returned none ∧ N' = N ∧ GS b cA cJ σ' s (abw M x y w.toInt64) ∧ Fr 7 18 σ σ') := by
  refine zM.of (by decide +kernel) rfl (Nat.le_of_ble_eq_true rfl) ?_
  refine z_pick (lv' := [(0, .ref (b + 7)), (1, .int (nI x)), (2, .int (nI y)), (3, .int w)]) [0, 1, 2, 3] rfl ?_
  obtain ⟨h7, f, r, hG⟩ := hS
  refine z_aload_n kd_G_addBothWays_0 0 rfl ?_
  refine z_iload_n kd_G_addBothWays_1 1 rfl ?_
  refine z_iload_n kd_G_addBothWays_2 2 rfl ?_
  refine z_iload_n kd_G_addBothWays_3 3 rfl ?_
  refine z_callV (a := 7) (As := [_, _, _]) kd_G_addBothWays_4 (kg_G_20 _) h7 kc_G (c_G_addOneWay ht0 ht1 ht3 hx hy ⟨h7, f, r, hG⟩) rfl rfl (Nat.le_of_ble_eq_true rfl) ⟨Nat.le_of_ble_eq_true rfl, Nat.le_of_ble_eq_true rfl⟩ ⟨Nat.le_of_ble_eq_true rfl, Nat.le_of_ble_eq_true rfl⟩ ?_
  rintro _ _ σ1 ⟨hv, rfl, ⟨h7_1, f1, r1, g1⟩, q1⟩
  cases hv
  refine z_eq (st' := []) rfl rfl rfl rfl ?_
  refine z_aload_n kd_G_addBothWays_7 0 rfl ?_
  refine z_iload_n kd_G_addBothWays_8 2 rfl ?_
  refine z_iload_n kd_G_addBothWays_9 1 rfl ?_
  refine z_iload_n kd_G_addBothWays_10 3 rfl ?_
  refine z_callV (a := 7) (As := [_, _, _]) kd_G_addBothWays_11 (kg_G_20 _) h7_1 kc_G (c_G_addOneWay ht0 ht1 ht3 hy hx ⟨h7_1, f1, r1, g1⟩) rfl rfl (Nat.le_of_ble_eq_true rfl) ⟨Nat.le_of_ble_eq_true rfl, Nat.le_of_ble_eq_true rfl⟩ ⟨Nat.le_of_ble_eq_true rfl, Nat.le_of_ble_eq_true rfl⟩ ?_
  rintro _ _ σ2 ⟨hv, rfl, ⟨h7_2, f2, r2, g2⟩, q2⟩
  cases hv
  refine z_eq (st' := []) rfl rfl rfl rfl ?_
  exact z_vret kd_G_addBothWays_14 rfl (Nat.le_of_ble_eq_true rfl) (Nat.le_of_ble_eq_true rfl) ⟨rfl, rfl, ⟨h7_2, f2, r2, g2⟩, (Fr.tr (Fr.tr Fr.rf q1) q2)⟩
