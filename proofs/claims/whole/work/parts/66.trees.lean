/-- the parts: row g is P below n, numbers below c -/
def PH (n c : Nat) (g : Nat → Int32) (P : Nat → Nat) : Prop := ∀ v, v < n → g v = nI (P v) ∧ P v < c
def uniN (lo hi : Nat) (P : Nat → Nat) : Nat → Nat := fun v => if P v = hi then lo else if P v ≤ hi then P v else P v - 1
theorem PH.uni {n c : Nat} {g : Nat → Int32} {P : Nat → Nat} {lo hi : Nat} (h : PH n c g P) (h1 : lo < hi) (h2 : hi < c) (hc : c ≤ 10) : PH n (c - 1) (uniA (nI lo) (nI hi) n g) (uniN lo hi P) := by
  intro v hv
  obtain ⟨e, hlt⟩ := h v hv
  unfold uniA uniN
  rw [if_pos hv, e]
  have q1 : (nI (P v) = nI hi) ↔ P v = hi := nI_eq (by omega) (by omega)
  have q2 : (nI (P v) ≤ nI hi) ↔ P v ≤ hi := nI_leI (by omega) (by omega)
  by_cases c1 : P v = hi
  · rw [if_pos (q1.mpr c1), if_pos c1]
    exact ⟨rfl, by omega⟩
  · rw [if_neg (fun q => c1 (q1.mp q)), if_neg c1]
    by_cases c2 : P v ≤ hi
    · rw [if_pos (q2.mpr c2), if_pos c2]
      exact ⟨rfl, by omega⟩
    · rw [if_neg (fun q => c2 (q2.mp q)), if_neg c2]
      exact ⟨pk_sub (a := P v) (b := 1) (by omega), by omega⟩
theorem jmin_nI {x y : Nat} (hx : x < 2 ^ 31) (hy : y < 2 ^ 31) : jmin (nI x) (nI y) = nI (if y < x then y else x) := by
  unfold jmin
  by_cases h : y < x
  · rw [if_pos h, if_pos ((nI_ltI hy hx).mpr h)]
  · rw [if_neg h, if_neg (fun q => h ((nI_ltI hy hx).mp q))]
theorem jmax_nI {x y : Nat} (hx : x < 2 ^ 31) (hy : y < 2 ^ 31) : jmax (nI x) (nI y) = nI (if x < y then y else x) := by
  unfold jmax
  by_cases h : x < y
  · rw [if_pos h, if_pos ((nI_ltI hx hy).mpr h)]
  · rw [if_neg h, if_neg (fun q => h ((nI_ltI hx hy).mp q))]
def mnN (x y : Nat) : Nat := if y < x then y else x
def mxN (x y : Nat) : Nat := if x < y then y else x
/-- the two nodes' parts made one -/
def unP (x y : Nat) (P : Nat → Nat) : Nat → Nat := uniN (mnN (P x) (P y)) (mxN (P x) (P y)) P
theorem zM.weak {l : Launch} {D : va_G} {cl : List vw_C} {tys : List (ClassId × FieldType)} {Nw : List Cond} {b : Nat} {y : MethodName} {ws : List Cond} {fr lo mc ms : Nat} {av : List Value} {N : Nat} {σ : Nat → Option va_E} {Q Q' : Outcome → Nat → (Nat → Option va_E) → Prop} (h : zM l D cl tys Nw b y ws fr lo mc ms av N σ Q) (hq : ∀ oc N' σ', Q oc N' σ' → Q' oc N' σ') : zM l D cl tys Nw b y ws fr lo mc ms av N σ Q' := by
  intro p e ha hc hk s m args below hf happ hP hK
  obtain ⟨k, o, h1, h2, h3, ⟨⟨N', σ', hQ, hz⟩, hF⟩, hL⟩ := h p e ha hc hk s m args below hf happ hP hK
  exact ⟨k, o, h1, h2, h3, ⟨⟨N', σ', hq _ _ _ hQ, hz⟩, hF⟩, hL⟩
theorem c_P_uniteN_no {l : Launch} {D : va_G} {tys : List (ClassId × FieldType)} {b N : Nat} {σ : Nat → Option va_E} {cI : ClassId} (ht0 : tys[0]? = some (cI, .int)) {a n x y c : Nat} {g : Nat → Int32} {P : Nat → Nat} (hn : n ≤ 10) (hc : c ≤ 10) (hx : x < n) (hy : y < n) (hp : PH n c g P) (h : σ a = some (.inr (2, [.int (nI n), .int (nI c), .ref (b + (a + 1))]))) (h2 : σ (a + 1) = some (.inl (cI, 10, .inl g))) (he : P x = P y) : zM l D kCl tys kNw b ky_P_unite (kh_P_unite :: zT) 1 20 0 0 [.ref (b + a), .int (nI x), .int (nI y)] N σ (zD (some (.int 0)) N σ) := by
  refine c_P_unite_no ht0 hn (by omega) (by omega) h h2 ?_
  have l1 := (hp x hx).2
  rw [(hp x hx).1, (hp y hy).1, ← he, jmin_nI (by omega) (by omega), jmax_nI (by omega) (by omega), if_neg (by omega)]
theorem c_P_uniteN {l : Launch} {D : va_G} {tys : List (ClassId × FieldType)} {b N : Nat} {σ : Nat → Option va_E} {cI : ClassId} (ht0 : tys[0]? = some (cI, .int)) {a n x y c : Nat} {g : Nat → Int32} {P : Nat → Nat} (hn : n ≤ 10) (hc : c ≤ 10) (hx : x < n) (hy : y < n) (hp : PH n c g P) (h : σ a = some (.inr (2, [.int (nI n), .int (nI c), .ref (b + (a + 1))]))) (h2 : σ (a + 1) = some (.inl (cI, 10, .inl g))) (he : ¬ P x = P y) : zM l D kCl tys kNw b ky_P_unite (kh_P_unite :: zT) 1 20 0 0 [.ref (b + a), .int (nI x), .int (nI y)] N σ (fun oc N' σ' => oc = .returned (some (.int 1)) ∧ N' = N ∧ ∃ g', PH n (c - 1) g' (unP x y P) ∧ σ' = zUp (zUp σ (a + 1) (.inl (cI, 10, .inl g'))) a (.inr (2, [.int (nI n), .int (nI (c - 1)), .ref (b + (a + 1))]))) := by
  have l1 := (hp x hx).2
  have l2 := (hp y hy).2
  have e1 : jmin (g x) (g y) = nI (mnN (P x) (P y)) := by rw [(hp x hx).1, (hp y hy).1]; exact jmin_nI (by omega) (by omega)
  have e2 : jmax (g x) (g y) = nI (mxN (P x) (P y)) := by rw [(hp x hx).1, (hp y hy).1]; exact jmax_nI (by omega) (by omega)
  have hlh : mnN (P x) (P y) < mxN (P x) (P y) ∧ mxN (P x) (P y) < c := by
    unfold mnN mxN
    rcases Nat.lt_or_ge (P x) (P y) with q | q
    · rw [if_neg (by omega), if_pos q]; omega
    · rw [if_pos (by omega), if_neg (by omega)]; omega
  have hM := c_P_unite (l := l) (D := D) (b := b) (N := N) ht0 hn (show x < 10 by omega) (show y < 10 by omega) h h2 (by rw [e1, e2]; exact fun q => by have := (nI_eq (by omega) (by omega)).mp q; omega)
  refine zM.weak hM ?_
  rintro oc N' σ' ⟨rfl, rfl, rfl⟩
  refine ⟨rfl, rfl, _, hp.uni hlh.1 hlh.2 hc, ?_⟩
  rw [e1, e2, show nI c - 1 = nI (c - 1) from pk_sub (a := c) (b := 1) (by omega)]
