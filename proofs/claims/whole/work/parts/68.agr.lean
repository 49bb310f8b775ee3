def agr (n : Nat) (M M' : Nat → Nat → Int64) : Prop := ∀ p q, p < n → q < n → M p q = M' p q
def Z0 : Nat → Nat → Int64 := fun _ _ => 0
theorem agr.rf {n : Nat} {M : Nat → Nat → Int64} : agr n M M := fun _ _ _ _ => rfl
theorem agr.tr {n : Nat} {M M1 M2 : Nat → Nat → Int64} (h : agr n M M1) (h2 : agr n M1 M2) : agr n M M2 := fun p q hp hq => (h p q hp hq).trans (h2 p q hp hq)
theorem agr.set {n : Nat} {M M' : Nat → Nat → Int64} (h : agr n M M') {x y : Nat} {u v : Int64} (e : u = v) : agr n (mset M x y u) (mset M' x y v) := by
  intro p q hp hq
  unfold mset
  by_cases c : p = x ∧ q = y
  · rw [if_pos c, if_pos c, e]
  · rw [if_neg c, if_neg c]; exact h p q hp hq
theorem agr.a1 {n : Nat} {M M' : Nat → Nat → Int64} (h : agr n M M') {x y : Nat} {w : Int64} (hx : x < n) (hy : y < n) : agr n (a1w M x y w) (a1w M' x y w) := by
  have h1 := h.set (x := x) (y := x) (show M x x + w = M' x x + w by rw [h x x hx hx])
  exact h1.set (by rw [h1 x y hx hy])
theorem agr.ab {n : Nat} {M M' : Nat → Nat → Int64} (h : agr n M M') {x y : Nat} {w : Int64} (hx : x < n) (hy : y < n) : agr n (abw M x y w) (abw M' x y w) := (h.a1 hx hy).a1 hy hx
theorem agr.bkE (n : Nat) (M : Nat → Nat → Int64) : agr n (bk n n 0 M) Z0 := fun _ _ hp hq => if_pos (Or.inl ⟨hp, hq⟩)
theorem agr.fbE {n a : Nat} {F T : Nat → Nat} {w : Nat → Int32} (hft : ∀ k, k < a → F k < n ∧ T k < n) : ∀ m k M M', k + m = a → agr n M M' → agr n (fbF F T w m k M) (fbF F T w m k M') := by
  intro m
  induction m with
  | zero => intro k M M' hk h; exact h
  | succ m ih => intro k M M' hk h; exact ih (k + 1) _ _ (by omega) (h.ab (hft k (by omega)).1 (hft k (by omega)).2)
theorem agr.fbME {n a : Nat} {F T : Nat → Nat} {w : Nat → Int32} (hft : ∀ k, k < a → F k < n ∧ T k < n) {M M' : Nat → Nat → Int64} (h : agr n M M') : ∀ k, k ≤ a → agr n (fbM F T w M k) (fbM F T w M' k) := by
  intro k
  induction k with
  | zero => intro _; exact h
  | succ k ih => intro hk; exact (ih (by omega)).ab (hft k (by omega)).1 (hft k (by omega)).2
theorem agr.foME {n a : Nat} {F T : Nat → Nat} {w : Nat → Int32} (hft : ∀ k, k < a → F k < n ∧ T k < n) {M M' : Nat → Nat → Int64} (h : agr n M M') : ∀ k, k ≤ a → agr n (foM F T w M k) (foM F T w M' k) := by
  intro k
  induction k with
  | zero => intro _; exact h
  | succ k ih => intro hk; exact (ih (by omega)).a1 (hft k (by omega)).1 (hft k (by omega)).2
theorem agr.sk {n x : Nat} {M M' : Nat → Nat → Int64} (h : agr n M M') : ∀ k, agr n (skM x M k) (skM x M' k) := by
  intro k
  induction k with
  | zero => exact h
  | succ k ih => exact (ih.set rfl).set rfl
theorem agr.str {n x : Nat} {M M' : Nat → Nat → Int64} (h : agr n M M') : agr n (strM n x M) (strM n x M') := by
  unfold strM
  by_cases c : x < n
  · rw [if_pos c, if_pos c]; exact (h.sk n).set rfl
  · rw [if_neg c, if_neg c]; exact h
theorem agr.rlbE {n x : Nat} {M M' : Nat → Nat → Int64} (h : agr n M M') (hx : x < n) : ∀ m row best few, row + m = n → rlb M x m row best few = rlb M' x m row best few := by
  intro m
  induction m with
  | zero => intro row best few _; rfl
  | succ m ih =>
    intro row best few hr
    unfold rlb
    rw [h row x (by omega) hx, ih _ _ _ (by omega), ih _ _ _ (by omega)]
theorem agr.rl {n x : Nat} {M M' : Nat → Nat → Int64} (h : agr n M M') (hx : x < n) : rlN M n x = rlN M' n x := by
  unfold rlN
  rw [h x x hx hx, h.rlbE hx _ _ _ _ (by omega)]
theorem agr.ccE {n x row : Nat} {t : Int64} (hx : x < n) (hr : row < n) : ∀ m c M M', c + m = n → agr n M M' → agr n (cbC x row t m c M) (cbC x row t m c M') := by
  intro m
  induction m with
  | zero => intro c M M' _ h; exact h
  | succ m ih => intro c M M' hc h; exact ih (c + 1) _ _ (by omega) (h.set (by rw [h row c hr (by omega), h x c hx (by omega)]))
theorem agr.crE {n x tw : Nat} {iv : Int64} (hx : x < n) : ∀ m row M M', row + m = n → agr n M M' → agr n (cbR n x tw iv m row M) (cbR n x tw iv m row M') := by
  intro m
  induction m with
  | zero => intro c M M' _ h; exact h
  | succ m ih =>
    intro row M M' hr h
    refine ih (row + 1) _ _ (by omega) ?_
    rw [h row x (by omega) hx]
    by_cases c : M' row x = 0
    · rw [if_pos c, if_pos c]; exact h
    · rw [if_neg c, if_neg c]; exact agr.ccE hx (by omega) _ _ _ _ (by omega) h
theorem agr.cb {n x : Nat} {M M' : Nat → Nat → Int64} (h : agr n M M') (hx : x < n) : agr n (cbN n x M) (cbN n x M') := by
  unfold cbN
  rw [h x x hx hx]
  exact agr.crE hx _ _ _ _ (by omega) h
theorem agr.sw {n x y : Nat} {M M' : Nat → Nat → Int64} (h : agr n M M') (hx : x < n) (hy : y < n) : agr n (swN x y M) (swN x y M') := by
  intro p q hp hq
  unfold swN
  by_cases c : p = x
  · rw [if_pos c, if_pos c]; exact h y q hy hq
  · rw [if_neg c, if_neg c]
    by_cases c2 : p = y
    · rw [if_pos c2, if_pos c2]; exact h x q hx hq
    · rw [if_neg c2, if_neg c2]; exact h p q hp hq
theorem agr.dsE {n x : Nat} {M M' : Nat → Nat → Int64} (h : agr n M M') (hx : x < n) : agr n (dtS n x M) (dtS n x M') := by
  unfold dtS
  rw [h.rl hx]
  by_cases c : rlN M' n x = x
  · rw [if_pos c, if_pos c]; exact h
  · rw [if_neg c, if_neg c]; exact h.sw (rlN_lt hx) hx
theorem agr.dlE {n : Nat} : ∀ m x M M' p, x + m = n → agr n M M' → dtL n m x M p = dtL n m x M' p := by
  intro m
  induction m with
  | zero => intro x M M' p _ h; rfl
  | succ m ih =>
    intro x M M' p hx h
    unfold dtL
    have hx' : x < n := by omega
    have h2 := h.dsE hx'
    rw [h.rl hx', h _ x (rlN_lt hx') hx', h2 x x hx' hx', ih _ _ _ _ (by omega) (h2.cb hx')]
theorem agr.dt {n : Nat} {M M' : Nat → Nat → Int64} (h : agr n M M') : dtN n M = dtN n M' := agr.dlE n 0 M M' 1 (by omega) h
/-- some grid; a grid whose numbers below n are M -/
def GA (b : Nat) (cA cJ : ClassId) (σ : Nat → Option va_E) : Prop := ∃ s M, GS b cA cJ σ s M
def GN (b : Nat) (cA cJ : ClassId) (σ : Nat → Option va_E) (n : Nat) (M : Nat → Nat → Int64) : Prop := ∃ M0, GS b cA cJ σ (nI n) M0 ∧ agr n M0 M
theorem GA.fr {b lo hi : Nat} {cA cJ : ClassId} {σ σ' : Nat → Option va_E} (h : GA b cA cJ σ) (q : Fr lo hi σ σ') (hl : hi < 7 ∨ 18 < lo) : GA b cA cJ σ' := by
  obtain ⟨s, M, h⟩ := h
  exact ⟨s, M, h.keep (fun k h1 h2 => q k (by omega))⟩
theorem GS.fr {b lo hi : Nat} {cA cJ : ClassId} {σ σ' : Nat → Option va_E} {s : Int32} {M : Nat → Nat → Int64} (h : GS b cA cJ σ s M) (q : Fr lo hi σ σ') (hl : hi < 7 ∨ 18 < lo) : GS b cA cJ σ' s M := h.keep (fun k h1 h2 => q k (by omega))
theorem GN.fr {b lo hi n : Nat} {cA cJ : ClassId} {σ σ' : Nat → Option va_E} {M : Nat → Nat → Int64} (h : GN b cA cJ σ n M) (q : Fr lo hi σ σ') (hl : hi < 7 ∨ 18 < lo) : GN b cA cJ σ' n M := by
  obtain ⟨M0, h, h2⟩ := h
  exact ⟨M0, h.fr q hl, h2⟩
/-- the net -/
def NS (b : Nat) (cI : ClassId) (σ : Nat → Option va_E) (n a : Nat) (gf gt gw : Nat → Int32) (F T : Nat → Nat) : Prop :=
  (σ 1 = some (.inr (1, [.int (nI n), .int (nI a), .ref (b + 2), .ref (b + 3), .ref (b + 4)]))) ∧ (σ 2 = some (.inl (cI, 30, .inl gf))) ∧ (σ 3 = some (.inl (cI, 30, .inl gt))) ∧ (σ 4 = some (.inl (cI, 30, .inl gw))) ∧ n ≤ 10 ∧ a ≤ 30 ∧ ∀ k, k < a → gf k = nI (F k) ∧ F k < n ∧ gt k = nI (T k) ∧ T k < n
section NSS
variable {b : Nat} {cI : ClassId} {σ : Nat → Option va_E} {n a : Nat} {gf gt gw : Nat → Int32} {F T : Nat → Nat}
theorem NS.h1 (h : NS b cI σ n a gf gt gw F T) : σ 1 = some (.inr (1, [.int (nI n), .int (nI a), .ref (b + 2), .ref (b + 3), .ref (b + 4)])) := h.1
theorem NS.h2 (h : NS b cI σ n a gf gt gw F T) : σ 2 = some (.inl (cI, 30, .inl gf)) := h.2.1
theorem NS.h3 (h : NS b cI σ n a gf gt gw F T) : σ 3 = some (.inl (cI, 30, .inl gt)) := h.2.2.1
theorem NS.h4 (h : NS b cI σ n a gf gt gw F T) : σ 4 = some (.inl (cI, 30, .inl gw)) := h.2.2.2.1
theorem NS.hn (h : NS b cI σ n a gf gt gw F T) : n ≤ 10 := h.2.2.2.2.1
theorem NS.ha (h : NS b cI σ n a gf gt gw F T) : a ≤ 30 := h.2.2.2.2.2.1
theorem NS.hft (h : NS b cI σ n a gf gt gw F T) : ∀ k, k < a → gf k = nI (F k) ∧ F k < n ∧ gt k = nI (T k) ∧ T k < n := h.2.2.2.2.2.2
end NSS
theorem NS.fr {b lo hi : Nat} {cI : ClassId} {σ σ' : Nat → Option va_E} {n a : Nat} {gf gt gw : Nat → Int32} {F T : Nat → Nat} (h : NS b cI σ n a gf gt gw F T) (q : Fr lo hi σ σ') (hl : hi < 1 ∨ 4 < lo) : NS b cI σ' n a gf gt gw F T :=
  ⟨(q 1 (by omega)).trans h.h1, (q 2 (by omega)).trans h.h2, (q 3 (by omega)).trans h.h3, (q 4 (by omega)).trans h.h4, h.hn, h.ha, h.hft⟩
theorem NS.ft {b : Nat} {cI : ClassId} {σ : Nat → Option va_E} {n a : Nat} {gf gt gw : Nat → Int32} {F T : Nat → Nat} (h : NS b cI σ n a gf gt gw F T) : ∀ k, k < a → F k < n ∧ T k < n := fun k hk => ⟨(h.hft k hk).2.1, (h.hft k hk).2.2.2⟩
theorem NS.ft10 {b : Nat} {cI : ClassId} {σ : Nat → Option va_E} {n a : Nat} {gf gt gw : Nat → Int32} {F T : Nat → Nat} (h : NS b cI σ n a gf gt gw F T) : ∀ k, k < a → gf k = nI (F k) ∧ F k < 10 ∧ gt k = nI (T k) ∧ T k < 10 := fun k hk => by
  obtain ⟨e1, l1, e2, l2⟩ := h.hft k hk
  have := h.hn
  exact ⟨e1, by omega, e2, by omega⟩
/-- some parts; the parts P, numbered below c -/
def PA (b : Nat) (cI : ClassId) (σ : Nat → Option va_E) (a : Nat) : Prop := ∃ v0 v1 g, σ a = some (.inr (2, [v0, v1, .ref (b + (a + 1))])) ∧ σ (a + 1) = some (.inl (cI, 10, .inl g))
def PS (b : Nat) (cI : ClassId) (σ : Nat → Option va_E) (a n c : Nat) (P : Nat → Nat) : Prop := σ a = some (.inr (2, [.int (nI n), .int (nI c), .ref (b + (a + 1))])) ∧ ∃ g, PH n c g P ∧ σ (a + 1) = some (.inl (cI, 10, .inl g))
theorem PS.pa {b a n c : Nat} {cI : ClassId} {σ : Nat → Option va_E} {P : Nat → Nat} (h : PS b cI σ a n c P) : PA b cI σ a := by
  obtain ⟨h1, g, -, h2⟩ := h
  exact ⟨_, _, g, h1, h2⟩
theorem PS.fr {b a n c lo hi : Nat} {cI : ClassId} {σ σ' : Nat → Option va_E} {P : Nat → Nat} (h : PS b cI σ a n c P) (q : Fr lo hi σ σ') (hl : hi < a ∨ a + 1 < lo) : PS b cI σ' a n c P := by
  obtain ⟨h1, g, h2, h3⟩ := h
  exact ⟨(q a (by omega)).trans h1, g, h2, (q (a + 1) (by omega)).trans h3⟩
theorem PA.fr {b a lo hi : Nat} {cI : ClassId} {σ σ' : Nat → Option va_E} (h : PA b cI σ a) (q : Fr lo hi σ σ') (hl : hi < a ∨ a + 1 < lo) : PA b cI σ' a := by
  obtain ⟨v0, v1, g, h2, h3⟩ := h
  exact ⟨v0, v1, g, (q a (by omega)).trans h2, (q (a + 1) (by omega)).trans h3⟩
def jnP (x y : Nat) (P : Nat → Nat) : Nat → Nat := if P x = P y then P else unP x y P
def jnC (x y : Nat) (P : Nat → Nat) (c : Nat) : Nat := if P x = P y then c else c - 1
def sopV (c f0 a : Nat) (F T : Nat → Nat) (w : Nat → Int32) (P : Nat → Nat) : Int64 := if c = 0 then 0 else dtN c (strM c 0 (fbF (fun k => P (F k)) (fun k => P (T k)) w (a - f0) f0 Z0))
theorem sopN_V {c f0 a : Nat} {F T : Nat → Nat} {w : Nat → Int32} {P : Nat → Nat} {M : Nat → Nat → Int64} (hf : f0 ≤ a) (hft : ∀ k, k < a → P (F k) < c ∧ P (T k) < c) : sopN c f0 a F T w P M = sopV c f0 a F T w P := by
  unfold sopN sopV sopM
  rw [((agr.fbE hft _ _ _ _ (by omega) (agr.bkE c M)).str).dt]
theorem zBt {p : Prop} [Decidable p] (h : p) : zB (decide p) = 1 := by simp [zB, h]
theorem zBf {p : Prop} [Decidable p] (h : ¬ p) : zB (decide p) = 0 := by simp [zB, h]
theorem zBn {p : Prop} [Decidable p] (h : zB (decide p) ≠ 0) : p := by
  by_cases q : p
  · exact q
  · exact absurd (zBf q) h
theorem zBe {p : Prop} [Decidable p] (h : ¬ zB (decide p) ≠ 0) : ¬ p := fun q => h (by rw [zBt q]; decide)
theorem c_P_splitS {l : Launch} {D : va_G} {tys : List (ClassId × FieldType)} {b N : Nat} {σ : Nat → Option va_E} {cI : ClassId} (ht0 : tys[0]? = some (cI, .int)) {a n : Nat} (hn : n ≤ 10) (hA : PA b cI σ a) : zM l D kCl tys kNw b ky_P_split (kh_P_split :: zT) 0 0 0 0 [.ref (b + a), .int (nI n)] N σ (fun oc N' σ' => oc = .returned none ∧ N' = N ∧ PS b cI σ' a n n (fun v => v) ∧ Fr a (a + 1) σ σ') := by
  obtain ⟨v0, v1, g, h1, h2⟩ := hA
  refine zM.weak (c_P_split ht0 hn h1 h2) ?_
  rintro oc N' σ' ⟨rfl, rfl, rfl⟩
  exact ⟨rfl, rfl, ⟨(zUp_n (by omega)).trans (zUp_s _ _ _), _, PH.id n g, zUp_s _ _ _⟩, (Fr.rf.up (by omega) (by omega)).up (by omega) (by omega)⟩
theorem c_P_uniteS {l : Launch} {D : va_G} {tys : List (ClassId × FieldType)} {b N : Nat} {σ : Nat → Option va_E} {cI : ClassId} (ht0 : tys[0]? = some (cI, .int)) {a n x y c : Nat} {P : Nat → Nat} (hn : n ≤ 10) (hc : c ≤ 10) (hx : x < n) (hy : y < n) (hP : PS b cI σ a n c P) : zM l D kCl tys kNw b ky_P_unite (kh_P_unite :: zT) 1 20 0 0 [.ref (b + a), .int (nI x), .int (nI y)] N σ (fun oc N' σ' => oc = .returned (some (.int (zB (decide (¬ P x = P y))))) ∧ N' = N ∧ PS b cI σ' a n (jnC x y P c) (jnP x y P) ∧ Fr a (a + 1) σ σ') := by
  obtain ⟨h1, g, hp, h2⟩ := id hP
  unfold jnC jnP
  by_cases he : P x = P y
  · rw [if_pos he, if_pos he, zBf (fun q => q he)]
    refine zM.weak (c_P_uniteN_no ht0 hn hc hx hy hp h1 h2 he) ?_
    rintro oc N' σ' ⟨rfl, rfl, rfl⟩
    exact ⟨rfl, rfl, hP, Fr.rf⟩
  · rw [if_neg he, if_neg he, zBt he]
    refine zM.weak (c_P_uniteN ht0 hn hc hx hy hp h1 h2 he) ?_
    rintro oc N' σ' ⟨rfl, rfl, g', hp', rfl⟩
    exact ⟨rfl, rfl, ⟨zUp_s _ _ _, g', hp', (zUp_n (by omega)).trans (zUp_s _ _ _)⟩, (Fr.rf.up (by omega) (by omega)).up (by omega) (by omega)⟩
theorem c_P_areOneS {l : Launch} {D : va_G} {tys : List (ClassId × FieldType)} {b N : Nat} {σ : Nat → Option va_E} {cI : ClassId} (ht0 : tys[0]? = some (cI, .int)) {a n x y c : Nat} {P : Nat → Nat} (hn : n ≤ 10) (hc : c ≤ 10) (hx : x < n) (hy : y < n) (hP : PS b cI σ a n c P) : zM l D kCl tys kNw b ky_P_areOne (kh_P_areOne :: zT) 0 0 0 0 [.ref (b + a), .int (nI x), .int (nI y)] N σ (zD (some (.int (zB (decide (P x = P y))))) N σ) := by
  obtain ⟨h1, g, hp, h2⟩ := id hP
  have e : decide (P x = P y) = decide (g x = g y) := by
    have l1 := (hp x hx).2
    have l2 := (hp y hy).2
    rw [(hp x hx).1, (hp y hy).1]
    exact decide_eq_decide.mpr (nI_eq (by omega) (by omega)).symm
  rw [e]
  exact c_P_areOne ht0 (by omega) (by omega) h1 h2
theorem c_G_fillBothWaysS {l : Launch} {D : va_G} {tys : List (ClassId × FieldType)} {b N : Nat} {σ : Nat → Option va_E} {cI cJ cA : ClassId} (ht0 : tys[0]? = some (cI, .int)) (ht1 : tys[1]? = some (cJ, .long)) (ht3 : tys[3]? = some (cA, .array .long)) {n a : Nat} {gf gt gw : Nat → Int32} {F T : Nat → Nat} (hN : NS b cI σ n a gf gt gw F T) (hA : GA b cA cJ σ) : zM l D kCl tys kNw b ky_G_fillBothWays (kh_G_fillBothWays :: zT) 2 90 0 0 [.ref (b + 7), .ref (b + 1)] N σ (fun oc N' σ' => oc = .returned none ∧ N' = N ∧ GN b cA cJ σ' n (fbM F T gw Z0 a) ∧ Fr 7 18 σ σ') := by
  obtain ⟨s, M, hS⟩ := hA
  refine zM.weak (c_G_fillBothWays ht0 ht1 ht3 hN.ha hN.h1 hN.h2 hN.h3 hN.h4 hN.ft10 hN.hn hS) ?_
  rintro oc N' σ' ⟨rfl, rfl, hS', q⟩
  exact ⟨rfl, rfl, ⟨_, hS', agr.fbME hN.ft (agr.bkE n M) a (Nat.le_refl a)⟩, q⟩
theorem c_G_fillOneWayS {l : Launch} {D : va_G} {tys : List (ClassId × FieldType)} {b N : Nat} {σ : Nat → Option va_E} {cI cJ cA : ClassId} (ht0 : tys[0]? = some (cI, .int)) (ht1 : tys[1]? = some (cJ, .long)) (ht3 : tys[3]? = some (cA, .array .long)) {n a : Nat} {gf gt gw : Nat → Int32} {F T : Nat → Nat} (hN : NS b cI σ n a gf gt gw F T) (hA : GA b cA cJ σ) : zM l D kCl tys kNw b ky_G_fillOneWay (kh_G_fillOneWay :: zT) 2 90 0 0 [.ref (b + 7), .ref (b + 1)] N σ (fun oc N' σ' => oc = .returned none ∧ N' = N ∧ GN b cA cJ σ' n (foM F T gw Z0 a) ∧ Fr 7 18 σ σ') := by
  obtain ⟨s, M, hS⟩ := hA
  refine zM.weak (c_G_fillOneWay ht0 ht1 ht3 hN.ha hN.h1 hN.h2 hN.h3 hN.h4 hN.ft10 hN.hn hS) ?_
  rintro oc N' σ' ⟨rfl, rfl, hS', q⟩
  exact ⟨rfl, rfl, ⟨_, hS', agr.foME hN.ft (agr.bkE n M) a (Nat.le_refl a)⟩, q⟩
theorem c_G_strikeS {l : Launch} {D : va_G} {tys : List (ClassId × FieldType)} {b N : Nat} {σ : Nat → Option va_E} {cI cJ cA : ClassId} (ht0 : tys[0]? = some (cI, .int)) (ht1 : tys[1]? = some (cJ, .long)) (ht3 : tys[3]? = some (cA, .array .long)) {n x : Nat} {M : Nat → Nat → Int64} (hn : n ≤ 10) (hx : x < n) (hG : GN b cA cJ σ n M) : zM l D kCl tys kNw b ky_G_strike (kh_G_strike :: zT) 0 0 0 0 [.ref (b + 7), .int (nI x)] N σ (fun oc N' σ' => oc = .returned none ∧ N' = N ∧ GN b cA cJ σ' n (strM n x M) ∧ Fr 7 18 σ σ') := by
  obtain ⟨M0, hS, hM⟩ := hG
  refine zM.weak (c_G_strike ht0 ht1 ht3 hn hx hS) ?_
  rintro oc N' σ' ⟨rfl, rfl, hS', q⟩
  exact ⟨rfl, rfl, ⟨_, hS', hM.str⟩, q⟩
theorem c_G_determinantS {l : Launch} {D : va_G} {tys : List (ClassId × FieldType)} {b N : Nat} {σ : Nat → Option va_E} {cI cJ cA : ClassId} (ht0 : tys[0]? = some (cI, .int)) (ht1 : tys[1]? = some (cJ, .long)) (ht3 : tys[3]? = some (cA, .array .long)) {n : Nat} {M : Nat → Nat → Int64} (hn : n ≤ 10) (hG : GN b cA cJ σ n M) : zM l D kCl tys kNw b ky_G_determinant (kh_G_determinant :: zT) 2 90 0 0 [.ref (b + 7)] N σ (fun oc N' σ' => oc = .returned (some (.long (dtN n M))) ∧ N' = N ∧ GA b cA cJ σ' ∧ Fr 7 18 σ σ') := by
  obtain ⟨M0, hS, hM⟩ := hG
  rw [← hM.dt]
  refine zM.weak (c_G_determinant ht0 ht1 ht3 hn hS) ?_
  rintro oc N' σ' ⟨rfl, rfl, ⟨M', hS'⟩, q⟩
  exact ⟨rfl, rfl, ⟨_, M', hS'⟩, q⟩
theorem c_T_sopS {l : Launch} {D : va_G} {tys : List (ClassId × FieldType)} {b N : Nat} {σ : Nat → Option va_E} {cI cJ cA : ClassId} (ht0 : tys[0]? = some (cI, .int)) (ht1 : tys[1]? = some (cJ, .long)) (ht3 : tys[3]? = some (cA, .array .long)) {n a : Nat} {gf gt gw : Nat → Int32} {F T : Nat → Nat} (hN : NS b cI σ n a gf gt gw F T) {c f0 : Nat} {P : Nat → Nat} {v19 w19 : Value} (hP : PS b cI σ 5 n c P) (hc : c ≤ 10) (h19 : σ 19 = some (.inr (4, [.ref (b + 1), .ref (b + 5), .ref (b + 7), v19, w19]))) (hA : GA b cA cJ σ) (hf0 : f0 ≤ a) : zM l D kCl tys kNw b ky_T_sumOverParts (kh_T_sumOverParts :: zT) 3 130 0 0 [.ref (b + 19), .int (nI f0)] N σ (fun oc N' σ' => oc = .returned (some (.long (sopV c f0 a F T gw P))) ∧ N' = N ∧ GA b cA cJ σ' ∧ Fr 7 18 σ σ') := by
  obtain ⟨s, M, hS⟩ := hA
  obtain ⟨h5, g, hp, h6⟩ := hP
  rw [← sopN_V (M := M) hf0 (fun k hk => ⟨(hp _ (hN.ft k hk).1).2, (hp _ (hN.ft k hk).2).2⟩)]
  exact c_T_sop ht0 ht1 ht3 hN.h1 hN.h2 hN.h3 hN.h4 hN.hn hN.ha hN.hft h5 h6 hp hc h19 hS hf0
