/-- the reference's net -/
def MN (b : Nat) (cI : ClassId) (σ : Nat → Option va_E) (th fa ls rm : Value) (n a : Nat) (gf gt gw : Nat → Int32) (F T : Nat → Nat) : Prop :=
  σ 54 = some (.inr (9, [th, .int (nI n), .int (nI a), .ref (b + 55), .ref (b + 56), .ref (b + 57), .ref (b + 58), .ref (b + 59), .ref (b + 60), .ref (b + 61), .ref (b + 62), .ref (b + 63), .ref (b + 64), .ref (b + 65), fa, .ref (b + 66), .ref (b + 67), ls, .ref (b + 68), .ref (b + 69), .ref (b + 70), .ref (b + 71), rm, .ref (b + 72), .ref (b + 73)])) ∧ σ 55 = some (.inl (cI, 30, .inl gf)) ∧ σ 56 = some (.inl (cI, 30, .inl gt)) ∧ σ 57 = some (.inl (cI, 30, .inl gw)) ∧ n ≤ 10 ∧ a ≤ 30 ∧ ∀ k, k < a → gf k = nI (F k) ∧ F k < n ∧ gt k = nI (T k) ∧ T k < n
section ZM
variable {b lo hi : Nat} {cI : ClassId} {σ σ' : Nat → Option va_E} {th fa ls rm : Value} {n a : Nat} {gf gt gw : Nat → Int32} {F T : Nat → Nat}
theorem MN.h1 (h : MN b cI σ th fa ls rm n a gf gt gw F T) : σ 54 = some (.inr (9, [th, .int (nI n), .int (nI a), .ref (b + 55), .ref (b + 56), .ref (b + 57), .ref (b + 58), .ref (b + 59), .ref (b + 60), .ref (b + 61), .ref (b + 62), .ref (b + 63), .ref (b + 64), .ref (b + 65), fa, .ref (b + 66), .ref (b + 67), ls, .ref (b + 68), .ref (b + 69), .ref (b + 70), .ref (b + 71), rm, .ref (b + 72), .ref (b + 73)])) := h.1
theorem MN.h2 (h : MN b cI σ th fa ls rm n a gf gt gw F T) : σ 55 = some (.inl (cI, 30, .inl gf)) := h.2.1
theorem MN.h3 (h : MN b cI σ th fa ls rm n a gf gt gw F T) : σ 56 = some (.inl (cI, 30, .inl gt)) := h.2.2.1
theorem MN.h4 (h : MN b cI σ th fa ls rm n a gf gt gw F T) : σ 57 = some (.inl (cI, 30, .inl gw)) := h.2.2.2.1
theorem MN.hn (h : MN b cI σ th fa ls rm n a gf gt gw F T) : n ≤ 10 := h.2.2.2.2.1
theorem MN.ha (h : MN b cI σ th fa ls rm n a gf gt gw F T) : a ≤ 30 := h.2.2.2.2.2.1
theorem MN.hft (h : MN b cI σ th fa ls rm n a gf gt gw F T) : ∀ k, k < a → gf k = nI (F k) ∧ F k < n ∧ gt k = nI (T k) ∧ T k < n := h.2.2.2.2.2.2
theorem MN.ft (h : MN b cI σ th fa ls rm n a gf gt gw F T) : ∀ k, k < a → F k < n ∧ T k < n := fun k hk => ⟨(h.hft k hk).2.1, (h.hft k hk).2.2.2⟩
theorem MN.fr (h : MN b cI σ th fa ls rm n a gf gt gw F T) (q : Fr lo hi σ σ') (hl : hi < 54 ∨ 57 < lo) : MN b cI σ' th fa ls rm n a gf gt gw F T :=
  ⟨(q 54 (by omega)).trans h.h1, (q 55 (by omega)).trans h.h2, (q 56 (by omega)).trans h.h3, (q 57 (by omega)).trans h.h4, h.hn, h.ha, h.hft⟩
end ZM
theorem upd_id {i : Nat} {g : Nat → Int32} (h : ∀ v, v < i → g v = nI v) : ∀ v, v < i + 1 → upd g i (nI i) v = nI v := by
  intro v hv
  by_cases e : v = i
  · simp [upd, e]
  · have := h v (by omega)
    simp [upd, e, this]
set_option maxHeartbeats 4000000 in
set_option maxRecDepth 100000 in
theorem l_M_apartAll {l : Launch} {D : va_G} {tys : List (ClassId × FieldType)} {b N : Nat} {σ0 : Nat → Option va_E} {cI cJ cA : ClassId} (ht0 : tys[0]? = some (cI, .int)) (ht1 : tys[1]? = some (cJ, .long)) (ht3 : tys[3]? = some (cA, .array .long)) {th fa ls rm : Value} {n a : Nat} {gf gt gw : Nat → Int32} {F T : Nat → Nat} {R : Room} : ∀ (m i : Nat) (σ : Nat → Option va_E) (g : Nat → Int32), i + m = n → MN b cI σ th fa ls rm n a gf gt gw F T → σ 62 = some (.inl (cI, 10, .inl g)) → (∀ v, v < i → g v = nI v) → Fr 62 62 σ0 σ → Z l D kCl tys (kh_M_apartAll :: zT) kNw ky_M_apartAll.cls ky_M_apartAll.name kb_M_apartAll 2 none R b (zFi D kCl b 0 0 (fun oc N' σ' => oc = .returned none ∧ N' = N ∧ (∃ g, PH n n g (fun v => v) ∧ σ' 62 = some (.inl (cI, 10, .inl g))) ∧ Fr 62 62 σ0 σ')) 0 0 N (σ) 2 [(1, .int (nI i)), (0, .ref (b + 54))] [] := by
  intro m
  induction m with
  | zero =>
    intro i σ g hcm hM h62 hg hF
    obtain rfl : i = n := by omega
    have hn := hM.hn
    refine z_iload_n kd_M_apartAll_2 0 rfl ?_
    refine z_aload_n kd_M_apartAll_3 1 rfl ?_
    refine z_get kd_M_apartAll_4 (kf_M_73 _) hM.h1 rfl ?_
    refine z_icmp_ge (tgt := 23) kd_M_apartAll_7 (by decide) (fun c7 => ?_) (fun c7 => ?_)
    · exact z_vret kd_M_apartAll_23 rfl (Nat.le_of_ble_eq_true rfl) (Nat.le_of_ble_eq_true rfl) ⟨rfl, rfl, ⟨g, fun v hv => ⟨hg v hv, hv⟩, h62⟩, hF⟩
    · exact absurd (nI_le (Nat.le_refl i) (by omega)) c7
  | succ m ih =>
    intro i σ g hcm hM h62 hg hF
    have hlt : i < n := by omega
    have hn := hM.hn
    refine z_iload_n kd_M_apartAll_2 0 rfl ?_
    refine z_aload_n kd_M_apartAll_3 1 rfl ?_
    refine z_get kd_M_apartAll_4 (kf_M_73 _) hM.h1 rfl ?_
    refine z_icmp_ge (tgt := 23) kd_M_apartAll_7 (by decide) (fun c7 => ?_) (fun c7 => ?_)
    · exact absurd c7 (nI_ge hlt (by omega))
    · refine z_aload_n kd_M_apartAll_10 1 rfl ?_
      refine z_get kd_M_apartAll_11 (kf_M_32 _) hM.h1 rfl ?_
      refine z_iload_n kd_M_apartAll_14 0 rfl ?_
      refine z_iload_n kd_M_apartAll_15 0 rfl ?_
      refine z_iastN (t0 := 0) kd_M_apartAll_16 (by assumption) h62 (by omega) (by decide) ?_
      refine z_upd (fun σ_1 x62_1 q_1 => ?_)
      have hM_1 := hM.fr q_1 (by omega)
      refine z_iinc (v := (nI (i + 1))) (lv' := [(1, .int _), (0, .ref (b + 54))]) kd_M_apartAll_17 0 rfl (nI_1 _) (by decide) rfl ?_
      refine z_goto (tgt := 2) kd_M_apartAll_20 (by decide) ?_
      refine z_pick (lv' := [(1, .int (nI (i + 1))), (0, .ref (b + 54))]) [0, 1] rfl ?_
      exact ih (i + 1) _ _ (by omega) hM_1 x62_1 (upd_id hg) (Fr.tr hF (q_1.wide (by omega) (by omega)))
set_option maxHeartbeats 4000000 in
set_option maxRecDepth 100000 in
theorem c_M_apartAll {l : Launch} {D : va_G} {tys : List (ClassId × FieldType)} {b N : Nat} {σ : Nat → Option va_E} {cI cJ cA : ClassId} (ht0 : tys[0]? = some (cI, .int)) (ht1 : tys[1]? = some (cJ, .long)) (ht3 : tys[3]? = some (cA, .array .long)) {th fa ls rm : Value} {n a : Nat} {gf gt gw : Nat → Int32} {F T : Nat → Nat} (hM : MN b cI σ th fa ls rm n a gf gt gw F T) {g : Nat → Int32} (h62 : σ 62 = some (.inl (cI, 10, .inl g))) : zM l D kCl tys kNw b ky_M_apartAll (kh_M_apartAll :: zT) 0 0 0 0 [.ref (b + 54)] N σ ((fun oc N' σ' => oc = .returned none ∧ N' = N ∧ (∃ g, PH n n g (fun v => v) ∧ σ' 62 = some (.inl (cI, 10, .inl g))) ∧ Fr 62 62 σ σ')) := by
  refine zM.of (by decide +kernel) rfl (Nat.le_of_ble_eq_true rfl) ?_
  refine z_pick (lv' := [(0, .ref (b + 54))]) [0] rfl ?_
  refine z_iconst (v := 0) kd_M_apartAll_0 (by decide) ?_
  refine z_istore_n (lv' := [(1, .int _), (0, .ref (b + 54))]) kd_M_apartAll_1 (by decide) rfl ?_
  refine z_pick (lv' := [(1, .int (nI 0)), (0, .ref (b + 54))]) [0, 1] rfl ?_
  exact l_M_apartAll ht0 ht1 ht3 n 0 σ g (by omega) hM h62 (fun v hv => absurd hv (Nat.not_lt_zero v)) Fr.rf
