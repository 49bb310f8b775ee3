section ZH
variable {l : Launch} {D : va_G} {cl : List vw_C} {tys : List (ClassId × FieldType)} {Ts Nw : List Cond} {own nm : String} {cc : ByteArray} {nL : Nat} {ret : Option FieldType} {R : Room} {b : Nat} {Fi : List Frame → Array Value → State → State → Prop} {k n N : Nat} {σ : Nat → Option va_E} {pc : Nat} {lv : List (Nat × Value)} {st : List Value}
/-- a row is put into a place of an array of rows -/
theorem z_aastG {a a2 len j : Nat} {cA cJ : ClassId} {f : Nat → Option Nat} {x : vp_A} (hd : decode cc pc = .ok (.aastore, 1)) (ht1 : tys[1]? = some (cJ, .long)) (ht3 : tys[3]? = some (cA, .array .long)) (hw : Cond.arrayOver (.array .long) ∈ Nw) (hσ : σ a = some (.inl (cA, len, .inr (.inr (.inr (.inr f)))))) (hσ2 : σ a2 = some (.inl (cJ, x))) (hj : j < len) (hlen : len < 2 ^ 31) (kk : Z l D cl tys Ts Nw own nm cc nL ret R b Fi k n N (zUp σ a (.inl (cA, len, .inr (.inr (.inr (.inr (va_up f j (some (b + a2)))))))))  (pc + 1) lv st) : Z l D cl tys Ts Nw own nm cc nL ret R b Fi k n N σ pc lv (.ref (b + a2) :: .int (nI j) :: .ref (b + a) :: st) := by
  intro p e s m args below meth c H locs ls hF hP hS hl
  obtain ⟨hx, hb, hml, hr, hlocks, hown, hts, hK, hNw, hname, hbs⟩ := id hF
  obtain ⟨comp, c1, kA, g1, g2, g3, g4, g5⟩ := arrayOverA_spec (hNw _ hw).1
  have ea : c1 = cA := Option.some.inj (g5.symm.trans (hK.2 3 _ ht3).2)
  have ec : comp = cJ := Option.some.inj (g1.symm.trans (hK.2 1 _ ht1).2)
  subst ea
  subst ec
  obtain ⟨-, kB, k3, -⟩ := (hK.2 1 _ ht1).1 0 (fun _ => .null)
  have hi := vp_in_nI hj hlen
  have hlt : (nI j).toNatClampNeg < len := Nat.not_le.mp fun q => hi (Or.inr q)
  have h0 : ¬ nI j < 0 := fun q => hi (Or.inl q)
  have hcv : ∃ cv : Cell, H[b + a2]? = some cv ∧ cv.cls = comp ∧ cv.vm = .none := by
    obtain ⟨n0, f0 | f0 | f0 | f0 | f0⟩ := x <;> exact ⟨_, hP.2 a2 _ hσ2, rfl, rfl⟩
  obtain ⟨cv, q1, q2, q3⟩ := hcv
  refine W.aast hF.1 hF.2.1 (hP.2 a _ hσ) (fun q h => by cases h) (fun h => by cases h) g3 g4 rfl k3 ⟨h0, by show _ < (arrV _ _ _).slots.size; rw [arrV_size]; exact hlt⟩ q1 (fun q h => by rw [q3] at h; cases h) (by rw [q2]; exact k3) (by rw [q2]; unfold Vm.assignable Vm.assignableAux; simp only [beq_self_eq_true, Bool.true_or]) rfl rfl hd fun H1 e1 z oq => ?_
  refine kk p e s m args below meth c H1 _ ls hF (hP.set (x0 := .inl (c1, len, .inr (.inr (.inr (.inr f))))) z oq ?_) (hS.put z oq (Nat.le_add_right b a)) hl
  show H1[b + a]? = some (vp_cell _ _)
  rw [e1]
  rw [vp_cell_q, vp_cell_q, arrV_store, nI_clamp (by omega)]
  congr 2
  funext q
  by_cases hq : q = j
  · subst hq
    simp [updV, va_up, va_rf]
  · simp [updV, va_up, hq]
end ZH
def swN {α : Type} (x y : Nat) (M : Nat → α) : Nat → α := fun p => if p = x then M y else if p = y then M x else M p
theorem GR.swap {b : Nat} {cA cJ : ClassId} {σ : Nat → Option va_E} {f : Nat → Option Nat} {r : Nat → Nat} {M : Nat → Nat → Int64} (h : GR b cA cJ σ f r M) {x y : Nat} (hx : x < 10) (hy : y < 10) {A : va_E} : GR b cA cJ (zUp (zUp σ 8 A) 8 (.inl (cA, 10, .inr (.inr (.inr (.inr (va_up (va_up f x (some (b + r y))) y (some (b + r x))))))))) (va_up (va_up f x (some (b + r y))) y (some (b + r x))) (swN x y r) (swN x y M) := by
  obtain ⟨h8, hf, hr, hinj, hrow⟩ := h
  have lt : ∀ i, i < 10 → (if i = x then y else if i = y then x else i) < 10 := fun i hi => by
    by_cases e : i = x
    · rw [if_pos e]; exact hy
    · rw [if_neg e]
      by_cases e2 : i = y
      · rw [if_pos e2]; exact hx
      · rw [if_neg e2]; exact hi
  have er : ∀ i, swN x y r i = r (if i = x then y else if i = y then x else i) := fun i => by
    unfold swN
    by_cases e : i = x
    · rw [if_pos e, if_pos e]
    · rw [if_neg e, if_neg e]
      by_cases e2 : i = y
      · rw [if_pos e2, if_pos e2]
      · rw [if_neg e2, if_neg e2]
  have eM : ∀ i, swN x y M i = M (if i = x then y else if i = y then x else i) := fun i => by
    unfold swN
    by_cases e : i = x
    · rw [if_pos e, if_pos e]
    · rw [if_neg e, if_neg e]
      by_cases e2 : i = y
      · rw [if_pos e2, if_pos e2]
      · rw [if_neg e2, if_neg e2]
  refine ⟨rfl, fun i hi => ?_, fun i hi => by rw [er]; exact hr _ (lt i hi), fun i j hi hj e => ?_, fun i hi => ?_⟩
  · rw [er]
    by_cases e : i = y
    · subst e
      by_cases e2 : i = x
      · subst e2; simp [va_up]
      · simp [va_up, e2]
    · by_cases e2 : i = x
      · subst e2; simp [va_up, e]
      · simp [va_up, e, e2, hf i hi]
  · rw [er, er] at e
    have := hinj _ _ (lt i hi) (lt j hj) e
    revert this
    repeat' split
    all_goals omega
  · rw [er, eM]
    have h9 := hr _ (lt i hi)
    rw [zUp_n (by omega), zUp_n (by omega)]
    exact hrow _ (lt i hi)
set_option maxHeartbeats 4000000 in
set_option maxRecDepth 100000 in
theorem c_G_swapRows {l : Launch} {D : va_G} {tys : List (ClassId × FieldType)} {b N : Nat} {σ : Nat → Option va_E} {cI cJ cA : ClassId} (ht0 : tys[0]? = some (cI, .int)) (ht1 : tys[1]? = some (cJ, .long)) (ht3 : tys[3]? = some (cA, .array .long)) {x y : Nat} {s : Int32} {M : Nat → Nat → Int64} (hx : x < 10) (hy : y < 10) (hS : GS b cA cJ σ s M) : zM l D kCl tys kNw b ky_G_swapRows (kh_G_swapRows :: zT) 0 0 0 0 [.ref (b + 7), .int (nI x), .int (nI y)] N σ (fun oc N' σ' => oc = .returned none ∧ N' = N ∧ GS b cA cJ σ' s (swN x y M) ∧ Fr 7 18 σ σ') := by
  refine zM.of (by decide +kernel) rfl (Nat.le_of_ble_eq_true rfl) ?_
  refine z_pick (lv' := [(0, .ref (b + 7)), (1, .int (nI x)), (2, .int (nI y))]) [0, 1, 2] rfl ?_
  obtain ⟨h7, f, r, hG⟩ := hS
  refine z_aload_n kd_G_swapRows_0 0 rfl ?_
  refine z_get kd_G_swapRows_1 (kf_G_11 _) h7 rfl ?_
  refine z_iload_n kd_G_swapRows_4 1 rfl ?_
  refine z_gal kd_G_swapRows_5 ht3 hG (by omega) ?_
  refine z_astore_n (lv' := [(3, .ref (b + (r x))), (0, .ref (b + 7)), (1, .int _), (2, .int _)]) kd_G_swapRows_6 (by decide) rfl ?_
  refine z_aload_n kd_G_swapRows_7 1 rfl ?_
  refine z_get kd_G_swapRows_8 (kf_G_11 _) h7 rfl ?_
  refine z_iload_n kd_G_swapRows_11 2 rfl ?_
  refine z_aload_n kd_G_swapRows_12 1 rfl ?_
  refine z_get kd_G_swapRows_13 (kf_G_11 _) h7 rfl ?_
  refine z_iload_n kd_G_swapRows_16 3 rfl ?_
  refine z_gal kd_G_swapRows_17 ht3 hG (by omega) ?_
  refine z_aastG kd_G_swapRows_18 ht1 ht3 (by decide +kernel) hG.1 (hG.2.2.2.2 y hy) (by omega) (by decide) ?_
  refine z_aload_n kd_G_swapRows_19 1 rfl ?_
  refine z_get kd_G_swapRows_20 (kf_G_11 _) h7 rfl ?_
  refine z_iload_n kd_G_swapRows_23 3 rfl ?_
  refine z_aload_n kd_G_swapRows_24 0 rfl ?_
  refine z_aastG kd_G_swapRows_25 ht1 ht3 (by decide +kernel) rfl ((zUp_n (by have := hG.2.2.1 x hx; omega)).trans (hG.2.2.2.2 x hx)) (by omega) (by decide) ?_
  exact z_vret kd_G_swapRows_26 rfl (Nat.le_of_ble_eq_true rfl) (Nat.le_of_ble_eq_true rfl) ⟨rfl, rfl, ⟨h7, _, _, hG.swap hx hy⟩, (Fr.rf.up (by decide) (by decide)).up (by decide) (by decide)⟩
def skM (x : Nat) (M : Nat → Nat → Int64) : Nat → Nat → Nat → Int64
  | 0 => M
  | i + 1 => mset (mset (skM x M i) x i 0) i x 0
def strM (n x : Nat) (M : Nat → Nat → Int64) : Nat → Nat → Int64 := if x < n then mset (skM x M n) x x 1 else M
set_option maxHeartbeats 4000000 in
set_option maxRecDepth 100000 in
theorem l_G_strike {l : Launch} {D : va_G} {tys : List (ClassId × FieldType)} {b N : Nat} {σ0 : Nat → Option va_E} {cI cJ cA : ClassId} (ht0 : tys[0]? = some (cI, .int)) (ht1 : tys[1]? = some (cJ, .long)) (ht3 : tys[3]? = some (cA, .array .long)) {n x : Nat} (hn : n ≤ 10) (hx : x < n) {f : Nat → Option Nat} {r : Nat → Nat} {M : Nat → Nat → Int64} {R : Room} {Q : Outcome → Nat → (Nat → Option va_E) → Prop} (hQ : ∀ σ, σ 7 = some (.inr (3, [.int (nI n), .ref (b + 8)])) → GR b cA cJ σ f r (mset (skM x M n) x x 1) → Fr 7 18 σ0 σ → Q (.returned none) N σ) : ∀ (m i : Nat) (σ : Nat → Option va_E), i + m = n → σ 7 = some (.inr (3, [.int (nI n), .ref (b + 8)])) → GR b cA cJ σ f r (skM x M i) → Fr 7 18 σ0 σ → Z l D kCl tys (kh_G_strike :: zT) kNw ky_G_strike.cls ky_G_strike.name kb_G_strike 3 none R b (zFi D kCl b 0 0 Q) 0 0 N (σ) 11 [(2, .int (nI i)), (0, .ref (b + 7)), (1, .int (nI x))] [] := by
  intro m
  induction m with
  | zero =>
    intro i σ hi0 h7 hG hF
    obtain rfl : i = n := by omega
    refine z_iload_n kd_G_strike_11 0 rfl ?_
    refine z_aload_n kd_G_strike_12 1 rfl ?_
    refine z_get kd_G_strike_13 (kf_G_16 _) h7 rfl ?_
    refine z_icmp_ge (tgt := 43) kd_G_strike_16 (by decide) (fun c16 => ?_) (fun c16 => ?_)
    · refine z_aload_n kd_G_strike_43 1 rfl ?_
      refine z_get kd_G_strike_44 (kf_G_11 _) h7 rfl ?_
      refine z_iload_n kd_G_strike_47 2 rfl ?_
      refine z_gal kd_G_strike_48 ht3 hG (by omega) ?_
      refine z_iload_n kd_G_strike_49 2 rfl ?_
      refine z_lconst (v := 1) kd_G_strike_50 (by decide +kernel) ?_
      refine z_gst kd_G_strike_51 ht1 hG (by omega) (by omega) (fun σ1 g1 q1 => ?_)
      exact z_vret kd_G_strike_52 rfl (Nat.le_of_ble_eq_true rfl) (Nat.le_of_ble_eq_true rfl) (hQ _ ((q1 7 (by omega)).trans h7) g1 (Fr.tr hF (q1.wide (by omega) (by omega))))
    · exact absurd (nI_le (Nat.le_refl i) (by omega)) c16
  | succ m ih =>
    intro i σ hi0 h7 hG hF
    have hlt : i < n := by omega
    refine z_iload_n kd_G_strike_11 0 rfl ?_
    refine z_aload_n kd_G_strike_12 1 rfl ?_
    refine z_get kd_G_strike_13 (kf_G_16 _) h7 rfl ?_
    refine z_icmp_ge (tgt := 43) kd_G_strike_16 (by decide) (fun c16 => ?_) (fun c16 => ?_)
    · exact absurd c16 (nI_ge hlt (by omega))
    · refine z_aload_n kd_G_strike_19 1 rfl ?_
      refine z_get kd_G_strike_20 (kf_G_11 _) h7 rfl ?_
      refine z_iload_n kd_G_strike_23 2 rfl ?_
      refine z_gal kd_G_strike_24 ht3 hG (by omega) ?_
      refine z_iload_n kd_G_strike_25 0 rfl ?_
      refine z_lconst (v := 0) kd_G_strike_26 (by decide +kernel) ?_
      refine z_gst kd_G_strike_27 ht1 hG (by omega) (by omega) (fun σ1 g1 q1 => ?_)
      refine z_aload_n kd_G_strike_28 1 rfl ?_
      refine z_get kd_G_strike_29 (kf_G_11 _) ((q1 7 (by omega)).trans h7) rfl ?_
      refine z_iload_n kd_G_strike_32 0 rfl ?_
      refine z_gal kd_G_strike_33 ht3 g1 (by omega) ?_
      refine z_iload_n kd_G_strike_34 2 rfl ?_
      refine z_lconst (v := 0) kd_G_strike_35 (by decide +kernel) ?_
      refine z_gst kd_G_strike_36 ht1 g1 (by omega) (by omega) (fun σ2 g2 q2 => ?_)
      refine z_iinc (v := (nI (i + 1))) (lv' := [(2, .int _), (0, .ref (b + 7)), (1, .int _)]) kd_G_strike_37 0 rfl (nI_1 _) (by decide) rfl ?_
      refine z_goto (tgt := 11) kd_G_strike_40 (by decide) ?_
      exact ih (i + 1) _ (by omega) ((q2 7 (by omega)).trans ((q1 7 (by omega)).trans h7)) g2 (Fr.tr (Fr.tr hF (q1.wide (by omega) (by omega))) (q2.wide (by omega) (by omega)))
set_option maxHeartbeats 4000000 in
set_option maxRecDepth 100000 in
theorem c_G_strike {l : Launch} {D : va_G} {tys : List (ClassId × FieldType)} {b N : Nat} {σ : Nat → Option va_E} {cI cJ cA : ClassId} (ht0 : tys[0]? = some (cI, .int)) (ht1 : tys[1]? = some (cJ, .long)) (ht3 : tys[3]? = some (cA, .array .long)) {n x : Nat} {M : Nat → Nat → Int64} (hn : n ≤ 10) (hx : x < n) (hS : GS b cA cJ σ (nI n) M) : zM l D kCl tys kNw b ky_G_strike (kh_G_strike :: zT) 0 0 0 0 [.ref (b + 7), .int (nI x)] N σ (fun oc N' σ' => oc = .returned none ∧ N' = N ∧ GS b cA cJ σ' (nI n) (strM n x M) ∧ Fr 7 18 σ σ') := by
  refine zM.of (by decide +kernel) rfl (Nat.le_of_ble_eq_true rfl) ?_
  refine z_pick (lv' := [(0, .ref (b + 7)), (1, .int (nI x))]) [0, 1] rfl ?_
  obtain ⟨h7, f, r, hG⟩ := hS
  refine z_iload_n kd_G_strike_0 1 rfl ?_
  refine z_aload_n kd_G_strike_1 0 rfl ?_
  refine z_get kd_G_strike_2 (kf_G_16 _) h7 rfl ?_
  refine z_icmp_lt (tgt := 9) kd_G_strike_5 (by decide) (fun c5 => ?_) (fun c5 => ?_)
  · refine z_iconst (v := 0) kd_G_strike_9 (by decide) ?_
    refine z_istore_n (lv' := [(2, .int _), (0, .ref (b + 7)), (1, .int _)]) kd_G_strike_10 (by decide) rfl ?_
    exact l_G_strike ht0 ht1 ht3 hn hx (fun σ' h7 hG hF => ⟨rfl, rfl, ⟨h7, f, r, hG.of (if_pos hx).symm⟩, hF⟩) n 0 _ (by omega) h7 hG Fr.rf
  · exact absurd hx (fun q => c5 (nI_lt q (by omega)))
set_option maxHeartbeats 4000000 in
set_option maxRecDepth 100000 in
theorem c_G_strike_no {l : Launch} {D : va_G} {tys : List (ClassId × FieldType)} {b N : Nat} {σ : Nat → Option va_E} {cI cJ cA : ClassId} (ht0 : tys[0]? = some (cI, .int)) (ht1 : tys[1]? = some (cJ, .long)) (ht3 : tys[3]? = some (cA, .array .long)) {n x : Nat} {M : Nat → Nat → Int64} (hn : n ≤ 10) (hx31 : x < 2 ^ 31) (hx : ¬ x < n) (hS : GS b cA cJ σ (nI n) M) : zM l D kCl tys kNw b ky_G_strike (kh_G_strike :: zT) 0 0 0 0 [.ref (b + 7), .int (nI x)] N σ (fun oc N' σ' => oc = .returned none ∧ N' = N ∧ GS b cA cJ σ' (nI n) (strM n x M) ∧ Fr 7 18 σ σ') := by
  refine zM.of (by decide +kernel) rfl (Nat.le_of_ble_eq_true rfl) ?_
  refine z_pick (lv' := [(0, .ref (b + 7)), (1, .int (nI x))]) [0, 1] rfl ?_
  obtain ⟨h7, f, r, hG⟩ := hS
  refine z_iload_n kd_G_strike_0 1 rfl ?_
  refine z_aload_n kd_G_strike_1 0 rfl ?_
  refine z_get kd_G_strike_2 (kf_G_16 _) h7 rfl ?_
  refine z_icmp_lt (tgt := 9) kd_G_strike_5 (by decide) (fun c5 => ?_) (fun c5 => ?_)
  · exact absurd c5 (nI_nlt (by omega) (by omega))
  · exact z_vret kd_G_strike_8 rfl (Nat.le_of_ble_eq_true rfl) (Nat.le_of_ble_eq_true rfl) ⟨rfl, rfl, ⟨h7, f, r, hG.of (if_neg hx).symm⟩, Fr.rf⟩
def tbit (v : Int64) (c : Nat) : Int64 := (v >>> ((nI c).toInt64 &&& 63)) &&& 1
def twL (v : Int64) : Nat → Nat → Nat
  | 0, c => c
  | m + 1, c => if tbit v c = 0 then twL v m (c + 1) else c
def twN (v : Int64) : Nat := if v = 0 then 64 else twL v 63 0
theorem twL_le (v : Int64) : ∀ m c, c + m = 63 → twL v m c ≤ 63 := by
  intro m
  induction m with
  | zero => intro c h; show c ≤ 63; omega
  | succ m ih =>
    intro c h
    unfold twL
    by_cases e : tbit v c = 0
    · rw [if_pos e]; exact ih (c + 1) (by omega)
    · rw [if_neg e]; omega
theorem twN_le (v : Int64) : twN v ≤ 64 := by
  unfold twN
  by_cases e : v = 0
  · rw [if_pos e]; exact Nat.le_refl _
  · rw [if_neg e]; have := twL_le v 63 0 (by omega); omega
set_option maxHeartbeats 4000000 in
set_option maxRecDepth 100000 in
theorem l_G_twos {l : Launch} {D : va_G} {tys : List (ClassId × FieldType)} {b N : Nat} {σ : Nat → Option va_E} {v : Int64} {R : Room} {x : Nat} : ∀ (m c : Nat), c + m = 63 → twL v m c = x → Z l D kCl tys (kh_G_twos :: zT) kNw ky_G_twos.cls ky_G_twos.name kb_G_twos 3 (some FieldType.int) R b (zFi D kCl b 0 0 (zD (some (.int (nI x))) N σ)) 0 0 N (σ) 11 [(2, .int (nI c)), (0, .long v)] [] := by
  intro m
  induction m with
  | zero =>
    intro c hc hr
    obtain rfl : c = 63 := by omega
    have hr : (63 : Nat) = x := hr
    refine z_iload_n kd_G_twos_11 0 rfl ?_
    refine z_bipush (v := 63) kd_G_twos_12 (by decide +kernel) ?_
    refine z_icmp_ge (tgt := 33) kd_G_twos_14 (by decide) (fun c14 => ?_) (fun c14 => ?_)
    · refine z_iload_n kd_G_twos_33 0 rfl ?_
      exact z_iret kd_G_twos_34 rfl (Nat.le_of_ble_eq_true rfl) (Nat.le_of_ble_eq_true rfl) ⟨by rw [hr], rfl, rfl⟩
    · exact absurd (nI_le (Nat.le_refl 63) (by decide)) c14
  | succ m ih =>
    intro c hc hr
    have hlt : c < 63 := by omega
    unfold twL at hr
    refine z_iload_n kd_G_twos_11 0 rfl ?_
    refine z_bipush (v := 63) kd_G_twos_12 (by decide +kernel) ?_
    refine z_icmp_ge (tgt := 33) kd_G_twos_14 (by decide) (fun c14 => ?_) (fun c14 => ?_)
    · exact absurd c14 (nI_ge (b := 63) hlt (by decide))
    · refine z_lload_n kd_G_twos_17 1 rfl ?_
      refine z_iload_n kd_G_twos_18 0 rfl ?_
      refine z_lshr kd_G_twos_19 ?_
      refine z_lconst (v := 1) kd_G_twos_20 (by decide +kernel) ?_
      refine z_land kd_G_twos_21 ?_
      refine z_lconst (v := 0) kd_G_twos_22 (by decide +kernel) ?_
      refine z_lcmp kd_G_twos_23 ?_
      refine z_if_ne (tgt := 33) kd_G_twos_24 (by decide) (fun c24 => ?_) (fun c24 => ?_)
      · have hne : ¬ tbit v c = 0 := fun q => c24 ((lg_cmp_0 _ _).mpr q)
        rw [if_neg hne] at hr
        refine z_iload_n kd_G_twos_33 0 rfl ?_
        exact z_iret kd_G_twos_34 rfl (Nat.le_of_ble_eq_true rfl) (Nat.le_of_ble_eq_true rfl) ⟨by rw [hr], rfl, rfl⟩
      · have heq : tbit v c = 0 := (lg_cmp_0 _ _).mp c24
        rw [if_pos heq] at hr
        refine z_iinc (v := (nI (c + 1))) (lv' := [(2, .int _), (0, .long _)]) kd_G_twos_27 0 rfl (nI_1 _) (by decide) rfl ?_
        refine z_goto (tgt := 11) kd_G_twos_30 (by decide) ?_
        exact ih (c + 1) (by omega) hr
set_option maxHeartbeats 4000000 in
set_option maxRecDepth 100000 in
theorem c_G_twos {l : Launch} {D : va_G} {tys : List (ClassId × FieldType)} {b N : Nat} {σ : Nat → Option va_E} {v : Int64} : zM l D kCl tys kNw b ky_G_twos (kh_G_twos :: zT) 0 0 0 0 [.long v] N σ (zD (some (.int (nI (twN v)))) N σ) := by
  refine zM.of (by decide +kernel) rfl (Nat.le_of_ble_eq_true rfl) ?_
  refine z_pick (lv' := [(0, .long v)]) [0] rfl ?_
  refine z_lload_n kd_G_twos_0 0 rfl ?_
  refine z_lconst (v := 0) kd_G_twos_1 (by decide +kernel) ?_
  refine z_lcmp kd_G_twos_2 ?_
  refine z_if_ne (tgt := 9) kd_G_twos_3 (by decide) (fun c3 => ?_) (fun c3 => ?_)
  · have hne : ¬ v = 0 := fun q => c3 ((lg_cmp_0 _ _).mpr q)
    refine z_iconst (v := 0) kd_G_twos_9 (by decide) ?_
    refine z_istore_n (lv' := [(2, .int _), (0, .long _)]) kd_G_twos_10 (by decide) rfl ?_
    exact l_G_twos 63 0 (by omega) (by unfold twN; rw [if_neg hne])
  · have heq : v = 0 := (lg_cmp_0 _ _).mp c3
    refine z_bipush (v := 64) kd_G_twos_6 (by decide +kernel) ?_
    exact z_iret kd_G_twos_8 rfl (Nat.le_of_ble_eq_true rfl) (Nat.le_of_ble_eq_true rfl) ⟨by unfold twN; rw [if_pos heq]; rfl, rfl, rfl⟩
def ivS (o i : Int64) : Int64 := i * (2 - o * i)
def ivN (o : Int64) : Int64 := ivS o (ivS o (ivS o (ivS o (ivS o o))))
set_option maxHeartbeats 4000000 in
set_option maxRecDepth 100000 in
theorem c_G_inverseOfOdd {l : Launch} {D : va_G} {tys : List (ClassId × FieldType)} {b N : Nat} {σ : Nat → Option va_E} {o : Int64} : zM l D kCl tys kNw b ky_G_inverseOfOdd (kh_G_inverseOfOdd :: zT) 0 0 0 0 [.long o] N σ (zD (some (.long (ivN o))) N σ) := by
  refine zM.of (by decide +kernel) rfl (Nat.le_of_ble_eq_true rfl) ?_
  refine z_pick (lv' := [(0, .long o)]) [0] rfl ?_
  refine z_lload_n kd_G_inverseOfOdd_0 0 rfl ?_
  refine z_lstore_n (lv' := [(2, .long _), (0, .long _)]) kd_G_inverseOfOdd_1 (by decide) rfl ?_
  refine z_iconst (v := 3) kd_G_inverseOfOdd_2 (by decide) ?_
  refine z_istore (lv' := [(4, .int _), (2, .long _), (0, .long _)]) kd_G_inverseOfOdd_3 (by decide) rfl ?_
  refine z_iload kd_G_inverseOfOdd_5 0 rfl ?_
  refine z_bipush (v := 64) kd_G_inverseOfOdd_7 (by decide +kernel) ?_
  refine z_icmp_ge (tgt := 31) kd_G_inverseOfOdd_9 (by decide) (fun c9 => absurd c9 (by decide)) (fun c9 => ?_)
  refine z_lload_n kd_G_inverseOfOdd_12 1 rfl ?_
  refine z_ldc2 (v := 2) kd_G_inverseOfOdd_13 (List.mem_cons_of_mem _ (zin 399 rfl rfl)) ?_
  refine z_lload_n kd_G_inverseOfOdd_16 2 rfl ?_
  refine z_lload_n kd_G_inverseOfOdd_17 1 rfl ?_
  refine z_lmul kd_G_inverseOfOdd_18 ?_
  refine z_lsub kd_G_inverseOfOdd_19 ?_
  refine z_lmul kd_G_inverseOfOdd_20 ?_
  refine z_lstore_n (lv' := [(2, .long _), (4, .int _), (0, .long _)]) kd_G_inverseOfOdd_21 (by decide) rfl ?_
  refine z_iload kd_G_inverseOfOdd_22 1 rfl ?_
  refine z_iconst (v := 2) kd_G_inverseOfOdd_24 (by decide) ?_
  refine z_imul kd_G_inverseOfOdd_25 ?_
  refine z_topi (show _ = (6 : Int32) from by decide +kernel) ?_
  refine z_istore (lv' := [(4, .int _), (2, .long _), (0, .long _)]) kd_G_inverseOfOdd_26 (by decide) rfl ?_
  refine z_goto (tgt := 5) kd_G_inverseOfOdd_28 (by decide) ?_
  refine z_iload kd_G_inverseOfOdd_5 0 rfl ?_
  refine z_bipush (v := 64) kd_G_inverseOfOdd_7 (by decide +kernel) ?_
  refine z_icmp_ge (tgt := 31) kd_G_inverseOfOdd_9 (by decide) (fun c9 => absurd c9 (by decide)) (fun c9 => ?_)
  refine z_lload_n kd_G_inverseOfOdd_12 1 rfl ?_
  refine z_ldc2 (v := 2) kd_G_inverseOfOdd_13 (List.mem_cons_of_mem _ (zin 399 rfl rfl)) ?_
  refine z_lload_n kd_G_inverseOfOdd_16 2 rfl ?_
  refine z_lload_n kd_G_inverseOfOdd_17 1 rfl ?_
  refine z_lmul kd_G_inverseOfOdd_18 ?_
  refine z_lsub kd_G_inverseOfOdd_19 ?_
  refine z_lmul kd_G_inverseOfOdd_20 ?_
  refine z_lstore_n (lv' := [(2, .long _), (4, .int _), (0, .long _)]) kd_G_inverseOfOdd_21 (by decide) rfl ?_
  refine z_iload kd_G_inverseOfOdd_22 1 rfl ?_
  refine z_iconst (v := 2) kd_G_inverseOfOdd_24 (by decide) ?_
  refine z_imul kd_G_inverseOfOdd_25 ?_
  refine z_topi (show _ = (12 : Int32) from by decide +kernel) ?_
  refine z_istore (lv' := [(4, .int _), (2, .long _), (0, .long _)]) kd_G_inverseOfOdd_26 (by decide) rfl ?_
  refine z_goto (tgt := 5) kd_G_inverseOfOdd_28 (by decide) ?_
  refine z_iload kd_G_inverseOfOdd_5 0 rfl ?_
  refine z_bipush (v := 64) kd_G_inverseOfOdd_7 (by decide +kernel) ?_
  refine z_icmp_ge (tgt := 31) kd_G_inverseOfOdd_9 (by decide) (fun c9 => absurd c9 (by decide)) (fun c9 => ?_)
  refine z_lload_n kd_G_inverseOfOdd_12 1 rfl ?_
  refine z_ldc2 (v := 2) kd_G_inverseOfOdd_13 (List.mem_cons_of_mem _ (zin 399 rfl rfl)) ?_
  refine z_lload_n kd_G_inverseOfOdd_16 2 rfl ?_
  refine z_lload_n kd_G_inverseOfOdd_17 1 rfl ?_
  refine z_lmul kd_G_inverseOfOdd_18 ?_
  refine z_lsub kd_G_inverseOfOdd_19 ?_
  refine z_lmul kd_G_inverseOfOdd_20 ?_
  refine z_lstore_n (lv' := [(2, .long _), (4, .int _), (0, .long _)]) kd_G_inverseOfOdd_21 (by decide) rfl ?_
  refine z_iload kd_G_inverseOfOdd_22 1 rfl ?_
  refine z_iconst (v := 2) kd_G_inverseOfOdd_24 (by decide) ?_
  refine z_imul kd_G_inverseOfOdd_25 ?_
  refine z_topi (show _ = (24 : Int32) from by decide +kernel) ?_
  refine z_istore (lv' := [(4, .int _), (2, .long _), (0, .long _)]) kd_G_inverseOfOdd_26 (by decide) rfl ?_
  refine z_goto (tgt := 5) kd_G_inverseOfOdd_28 (by decide) ?_
  refine z_iload kd_G_inverseOfOdd_5 0 rfl ?_
  refine z_bipush (v := 64) kd_G_inverseOfOdd_7 (by decide +kernel) ?_
  refine z_icmp_ge (tgt := 31) kd_G_inverseOfOdd_9 (by decide) (fun c9 => absurd c9 (by decide)) (fun c9 => ?_)
  refine z_lload_n kd_G_inverseOfOdd_12 1 rfl ?_
  refine z_ldc2 (v := 2) kd_G_inverseOfOdd_13 (List.mem_cons_of_mem _ (zin 399 rfl rfl)) ?_
  refine z_lload_n kd_G_inverseOfOdd_16 2 rfl ?_
  refine z_lload_n kd_G_inverseOfOdd_17 1 rfl ?_
  refine z_lmul kd_G_inverseOfOdd_18 ?_
  refine z_lsub kd_G_inverseOfOdd_19 ?_
  refine z_lmul kd_G_inverseOfOdd_20 ?_
  refine z_lstore_n (lv' := [(2, .long _), (4, .int _), (0, .long _)]) kd_G_inverseOfOdd_21 (by decide) rfl ?_
  refine z_iload kd_G_inverseOfOdd_22 1 rfl ?_
  refine z_iconst (v := 2) kd_G_inverseOfOdd_24 (by decide) ?_
  refine z_imul kd_G_inverseOfOdd_25 ?_
  refine z_topi (show _ = (48 : Int32) from by decide +kernel) ?_
  refine z_istore (lv' := [(4, .int _), (2, .long _), (0, .long _)]) kd_G_inverseOfOdd_26 (by decide) rfl ?_
  refine z_goto (tgt := 5) kd_G_inverseOfOdd_28 (by decide) ?_
  refine z_iload kd_G_inverseOfOdd_5 0 rfl ?_
  refine z_bipush (v := 64) kd_G_inverseOfOdd_7 (by decide +kernel) ?_
  refine z_icmp_ge (tgt := 31) kd_G_inverseOfOdd_9 (by decide) (fun c9 => absurd c9 (by decide)) (fun c9 => ?_)
  refine z_lload_n kd_G_inverseOfOdd_12 1 rfl ?_
  refine z_ldc2 (v := 2) kd_G_inverseOfOdd_13 (List.mem_cons_of_mem _ (zin 399 rfl rfl)) ?_
  refine z_lload_n kd_G_inverseOfOdd_16 2 rfl ?_
  refine z_lload_n kd_G_inverseOfOdd_17 1 rfl ?_
  refine z_lmul kd_G_inverseOfOdd_18 ?_
  refine z_lsub kd_G_inverseOfOdd_19 ?_
  refine z_lmul kd_G_inverseOfOdd_20 ?_
  refine z_lstore_n (lv' := [(2, .long _), (4, .int _), (0, .long _)]) kd_G_inverseOfOdd_21 (by decide) rfl ?_
  refine z_iload kd_G_inverseOfOdd_22 1 rfl ?_
  refine z_iconst (v := 2) kd_G_inverseOfOdd_24 (by decide) ?_
  refine z_imul kd_G_inverseOfOdd_25 ?_
  refine z_topi (show _ = (96 : Int32) from by decide +kernel) ?_
  refine z_istore (lv' := [(4, .int _), (2, .long _), (0, .long _)]) kd_G_inverseOfOdd_26 (by decide) rfl ?_
  refine z_goto (tgt := 5) kd_G_inverseOfOdd_28 (by decide) ?_
  refine z_iload kd_G_inverseOfOdd_5 0 rfl ?_
  refine z_bipush (v := 64) kd_G_inverseOfOdd_7 (by decide +kernel) ?_
  refine z_icmp_ge (tgt := 31) kd_G_inverseOfOdd_9 (by decide) (fun c9 => ?_) (fun c9 => absurd c9 (by decide))
  refine z_lload_n kd_G_inverseOfOdd_31 1 rfl ?_
  exact z_lret kd_G_inverseOfOdd_32 rfl (Nat.le_of_ble_eq_true rfl) (Nat.le_of_ble_eq_true rfl) ⟨rfl, rfl, rfl⟩
