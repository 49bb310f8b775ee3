def C0 (b : Nat) (σ : Nat → Option va_E) : Prop := σ 0 = some (.inr (0, [.ref (b + 1), .ref (b + 19), .ref (b + 20), .ref (b + 23), .ref (b + 25), .ref (b + 30)]))
def RS (b : Nat) (cI : ClassId) (σ : Nat → Option va_E) : Prop := (∃ v, σ 20 = some (.inr (5, [v, .ref (b + 21), .ref (b + 22), .ref (b + 1), .ref (b + 5)]))) ∧ (∃ g, σ 21 = some (.inl (cI, 10, .inl g))) ∧ (∃ g, σ 22 = some (.inl (cI, 10, .inl g)))
def US (b : Nat) (cJ : ClassId) (σ : Nat → Option va_E) : Prop := (∃ cn od cm tp to, σ 23 = some (.inr (6, [cn, .ref (b + 24), .ref (b + 1), .ref (b + 19), .ref (b + 7), od, cm, tp, to]))) ∧ (∃ g, σ 24 = some (.inl (cJ, 10, .inr (.inl g))))
def TR (cJ : ClassId) (σ : Nat → Option va_E) : Prop := (∃ g, σ 28 = some (.inl (cJ, 10, .inr (.inl g)))) ∧ (∃ g, σ 29 = some (.inl (cJ, 10, .inr (.inl g))))
def SS (b : Nat) (cJ cP : ClassId) (σ : Nat → Option va_E) : Prop := (∃ v, σ 30 = some (.inr (8, [.ref (b + 1), .ref (b + 5), .ref (b + 31), .ref (b + 32), .ref (b + 33), v]))) ∧ JS b cP σ ∧ (∃ g, σ 32 = some (.inl (cJ, 11, .inr (.inl g)))) ∧ (∃ g, σ 33 = some (.inl (cJ, 15, .inr (.inl g))))
section ZS
variable {b lo hi : Nat} {cI cJ cA cP : ClassId} {σ σ' : Nat → Option va_E} {n a : Nat} {gf gt gw : Nat → Int32} {F T : Nat → Nat} {C K : Nat → Int64}
theorem C0.fr  (h : C0 b σ) (q : Fr lo hi σ σ') (hl : 0 < lo) : C0 b σ' := (q 0 (by omega)).trans h
theorem TS.fr  (h : TS b σ) (q : Fr lo hi σ σ') (hl : hi < 19 ∨ 19 < lo) : TS b σ' := by
  obtain ⟨v, w, h⟩ := h
  exact ⟨v, w, (q 19 (by omega)).trans h⟩
theorem RS.fr  (h : RS b cI σ) (q : Fr lo hi σ σ') (hl : hi < 20 ∨ 22 < lo) : RS b cI σ' := by
  obtain ⟨⟨v, h1⟩, ⟨g, h2⟩, ⟨g', h3⟩⟩ := h
  exact ⟨⟨v, (q 20 (by omega)).trans h1⟩, ⟨g, (q 21 (by omega)).trans h2⟩, ⟨g', (q 22 (by omega)).trans h3⟩⟩
theorem US.fr  (h : US b cJ σ) (q : Fr lo hi σ σ') (hl : hi < 23 ∨ 24 < lo) : US b cJ σ' := by
  obtain ⟨⟨v1, v2, v3, v4, v5, h1⟩, ⟨g, h2⟩⟩ := h
  exact ⟨⟨v1, v2, v3, v4, v5, (q 23 (by omega)).trans h1⟩, ⟨g, (q 24 (by omega)).trans h2⟩⟩
theorem TR.fr  (h : TR cJ σ) (q : Fr lo hi σ σ') (hl : hi < 28 ∨ 29 < lo) : TR cJ σ' := by
  obtain ⟨⟨g, h1⟩, ⟨g', h2⟩⟩ := h
  exact ⟨⟨g, (q 28 (by omega)).trans h1⟩, ⟨g', (q 29 (by omega)).trans h2⟩⟩
theorem SS.fr  (h : SS b cJ cP σ) (q : Fr lo hi σ σ') (hl : hi < 30 ∨ 33 < lo) : SS b cJ cP σ' := by
  obtain ⟨⟨v, h1⟩, hJ, ⟨g, h2⟩, ⟨g', h3⟩⟩ := h
  exact ⟨⟨v, (q 30 (by omega)).trans h1⟩, hJ.fr q (by omega), ⟨g, (q 32 (by omega)).trans h2⟩, ⟨g', (q 33 (by omega)).trans h3⟩⟩
/-- the class's own cells but for the net and the chips -/
def AN (b : Nat) (cI cJ cA cP : ClassId) (σ : Nat → Option va_E) : Prop := C0 b σ ∧ PA b cI σ 5 ∧ GA b cA cJ σ ∧ TS b σ ∧ RS b cI σ ∧ US b cJ σ ∧ σ 25 = some (.inr (7, [.ref (b + 26), .ref (b + 27), .ref (b + 28), .ref (b + 29), .ref (b + 1), .ref (b + 7)])) ∧ TR cJ σ ∧ SS b cJ cP σ ∧ PE b cI σ
/-- the class's state: the net, the chips, how often each node fired -/
def CS (b : Nat) (cI cJ cA cP : ClassId) (σ : Nat → Option va_E) (n a : Nat) (gf gt gw : Nat → Int32) (F T : Nat → Nat) (C K : Nat → Int64) : Prop := NS b cI σ n a gf gt gw F T ∧ σ 26 = some (.inl (cJ, 10, .inr (.inl C))) ∧ σ 27 = some (.inl (cJ, 10, .inr (.inl K))) ∧ AN b cI cJ cA cP σ
theorem CS.r5   (h : CS b cI cJ cA cP σ n a gf gt gw F T C K) (hP : PA b cI σ' 5) (hG : GA b cA cJ σ') (q : Fr 5 18 σ σ') : CS b cI cJ cA cP σ' n a gf gt gw F T C K := by
  obtain ⟨hN, h26, h27, c0, -, -, ts, rs, us, h25, tr, ss, pe⟩ := h
  exact ⟨hN.fr q (by omega), (q 26 (by omega)).trans h26, (q 27 (by omega)).trans h27, c0.fr q (by omega), hP, hG, ts.fr q (by omega), rs.fr q (by omega), us.fr q (by omega), (q 25 (by omega)).trans h25, tr.fr q (by omega), ss.fr q (by omega), pe.fr q (by omega)⟩
theorem CS.r7   (h : CS b cI cJ cA cP σ n a gf gt gw F T C K) (hG : GA b cA cJ σ') (q : Fr 7 18 σ σ') : CS b cI cJ cA cP σ' n a gf gt gw F T C K := CS.r5 h (h.2.2.2.2.1.fr q (by omega)) hG (q.wide (by omega) (by omega))
theorem CS.r56   (h : CS b cI cJ cA cP σ n a gf gt gw F T C K) (hP : PA b cI σ' 5) (q : Fr 5 6 σ σ') : CS b cI cJ cA cP σ' n a gf gt gw F T C K := CS.r5 h hP (h.2.2.2.2.2.1.fr q (by omega)) (q.wide (by omega) (by omega))
theorem CS.r19   (h : CS b cI cJ cA cP σ n a gf gt gw F T C K) (hP : PA b cI σ' 5) (hG : GA b cA cJ σ') (ht : TS b σ') (q : Fr 5 19 σ σ') : CS b cI cJ cA cP σ' n a gf gt gw F T C K := by
  obtain ⟨hN, h26, h27, c0, -, -, -, rs, us, h25, tr, ss, pe⟩ := h
  exact ⟨hN.fr q (by omega), (q 26 (by omega)).trans h26, (q 27 (by omega)).trans h27, c0.fr q (by omega), hP, hG, ht, rs.fr q (by omega), us.fr q (by omega), (q 25 (by omega)).trans h25, tr.fr q (by omega), ss.fr q (by omega), pe.fr q (by omega)⟩
end ZS
