/-- joins and how many -/
theorem ft_cnt {n a : Nat} {F T : Nat → Nat} {S : Nat → Bool} (hS : ∀ j, j < a → S j = false → F j = T j) : ∀ (m k : Nat) (t : Int32) (c : Nat) (P : Nat → Nat), k + m = a → c + rkN S k ≤ (ftL F T m k t c P).2.1 + rkN S a := by
  intro m
  induction m with
  | zero => intro k t c P hk; rw [show k = a by omega]; exact Nat.le_refl _
  | succ m ih =>
    intro k t c P hk
    unfold ftL
    have h := ih (k + 1) (if P (F k) = P (T k) then t else t ||| (1 <<< (nI k &&& 31))) (jnC (F k) (T k) P c) (jnP (F k) (T k) P) (by omega)
    rw [rkN_s] at h
    by_cases e : S k = true
    · rw [if_pos e] at h
      have : c ≤ jnC (F k) (T k) P c + 1 := by unfold jnC; split <;> omega
      omega
    · have hx : S k = false := by cases q : S k with
        | false => rfl
        | true => exact absurd q e
      rw [if_neg e] at h
      have : jnC (F k) (T k) P c = c := by unfold jnC; rw [if_pos (by rw [hS k (by omega) hx])]
      omega
/-- a taken arc is a bridge -/
theorem bridge {n a k : Nat} {F T : Nat → Nat} (hft : ∀ k, k < a → F k < n ∧ T k < n) (ha : a ≤ 30) (hk : k < a) (hX : (ttV a F T).2 k = true) : ∃ h : Nat → Nat, h (F k) ≠ h (T k) ∧ ∀ j, j < a → j ≠ k → (ttV a F T).2 j = true → h (F j) = h (T j) := by
  have hn : 0 < n := by have := (hft k hk).1; omega
  obtain ⟨S, hS⟩ : ∃ S : Nat → Bool, ∀ j, S j = ((ttV a F T).2 j && decide (j ≠ k)) := ⟨_, fun _ => rfl⟩
  obtain ⟨F', hF'⟩ : ∃ F' : Nat → Nat, ∀ j, F' j = if S j = true then F j else 0 := ⟨_, fun _ => rfl⟩
  obtain ⟨T', hT'⟩ : ∃ T' : Nat → Nat, ∀ j, T' j = if S j = true then T j else 0 := ⟨_, fun _ => rfl⟩
  have hft' : ∀ j, j < a → F' j < n ∧ T' j < n := fun j hj => by
    rw [hF', hT']
    have := hft j hj
    split <;> omega
  obtain ⟨b1, b2, _⟩ := ftV_ok hft'
  obtain ⟨q1, _, q3⟩ := ftV_ok hft
  have hcon : ∀ j, j < a → j ≠ k → (ttV a F T).2 j = true → (ftV n a F' T').2.2 (F j) = (ftV n a F' T').2.2 (T j) := by
    intro j hj hjk hx
    have e := b2 j hj
    have hs : S j = true := by rw [hS]; simp [hx, hjk]
    rw [hF', hT', if_pos hs, if_pos hs] at e
    exact e
  refine ⟨(ftV n a F' T').2.2, fun hc => ?_, hcon⟩
  have all := taken_all hft (h := (ftV n a F' T').2.2) (fun j hj hx => by
    by_cases e : j = k
    · rw [e]; exact hc
    · exact hcon j hj e hx)
  have hfine := q1.fine b1 (q3 _ all)
  have cnt := ft_cnt (n := n) (F := F') (T := T') (S := S) (a := a) (fun j _ hs => by rw [hF', hT', hs]; simp) a 0 0 n (fun v => v) (by omega)
  have z : rkN S 0 = 0 := rfl
  have sk : S k = false := by rw [hS]; simp
  have r1 := (rkN_nt sk a hk).2
  have r2 : rkN (bset S k) a = rkN (ttV a F T).2 a := by
    have : bset S k = (ttV a F T).2 := by
      funext j
      unfold bset
      by_cases e : j = k
      · rw [if_pos e, e, hX]
      · rw [if_neg e, hS]; simp [e]
    rw [this]
  have t1 := tt_rk (a := a) (F := F) (T := T)
  have t2 := (tt_ok hft ha).2
  have e3 : (ftL F' T' a 0 0 n (fun v => v)).2.1 = (ftV n a F' T').2.1 := rfl
  omega
/-- ways back along taken arcs, with a depth -/
def VP (n a : Nat) (F T : Nat → Nat) (X : Nat → Bool) (g : Nat) (B : Nat → Option Nat) (rk : Nat → Nat) : Prop := ∀ v k, B v = some k → v < n ∧ k < a ∧ X k = true ∧ v ≠ g ∧ (F k = v ∨ T k = v) ∧ rk (if F k = v then T k else F k) < rk v ∧ ((if F k = v then T k else F k) = g ∨ ∃ j, B (if F k = v then T k else F k) = some j)
theorem VP.ot {n a g v k : Nat} {F T : Nat → Nat} {X : Nat → Bool} {B : Nat → Option Nat} {rk : Nat → Nat} (h : VP n a F T X g B rk) (hb : B v = some k) : ∀ f : Nat → Nat, f (F k) = f (T k) → f v = f (if F k = v then T k else F k) := by
  obtain ⟨_, _, _, _, h5, _, _⟩ := h v k hb
  intro f e
  by_cases c : F k = v
  · rw [if_pos c, ← c]; exact e
  · rw [if_neg c]
    rcases h5 with z | z
    · exact absurd z c
    · rw [← z]; exact e.symm
/-- where no step uses the arc j, a function that only j breaks stays -/
theorem VP.walk {n a g j : Nat} {F T : Nat → Nat} {X : Nat → Bool} {B : Nat → Option Nat} {rk f : Nat → Nat} (h : VP n a F T X g B rk) (hf : ∀ i, i < a → i ≠ j → X i = true → f (F i) = f (T i)) : ∀ (d v : Nat), rk v ≤ d → (v = g ∨ ∃ k, B v = some k) → (∀ x, rk x ≤ rk v → B x ≠ some j) → f v = f g := by
  intro d
  induction d with
  | zero =>
    intro v hd hv _
    rcases hv with rfl | ⟨k, hk⟩
    · rfl
    · have := (h v k hk).2.2.2.2.2.1; omega
  | succ d ih =>
    intro v hd hv hx
    rcases hv with rfl | ⟨k, hk⟩
    · rfl
    · obtain ⟨h1, h2, h3, h4, h5, h6, h7⟩ := h v k hk
      have hkj : k ≠ j := fun e => hx v (Nat.le_refl _) (by rw [← e]; exact hk)
      rw [h.ot hk f (hf k h2 hkj h3)]
      exact ih _ (by omega) h7 (fun x hxr => hx x (by omega))
theorem VP.own {n a g v k : Nat} {F T : Nat → Nat} {X : Nat → Bool} {B : Nat → Option Nat} {rk f : Nat → Nat} (h : VP n a F T X g B rk) (hk : B v = some k) (hf : ∀ i, i < a → i ≠ k → X i = true → f (F i) = f (T i)) (hb : f (F k) ≠ f (T k)) : f v ≠ f g := by
  obtain ⟨h1, h2, h3, h4, h5, h6, h7⟩ := h v k hk
  have hu := h.walk hf _ _ (Nat.le_refl _) h7 (fun x hx e => by
    obtain ⟨_, _, _, _, g5, g6, _⟩ := h x k e
    by_cases c : F k = v
    · rw [if_pos c] at hx h6
      rcases g5 with z | z
      · rw [if_pos z] at g6; omega
      · by_cases y : F k = x
        · rw [if_pos y] at g6; omega
        · rw [if_neg y] at g6; rw [c] at g6; rw [z] at hx h6; omega
    · rw [if_neg c] at hx h6
      rcases h5 with z5 | z5
      · exact c z5
      · rcases g5 with z | z
        · rw [if_pos z, z5] at g6; rw [z] at h6 hx; omega
        · have : x = v := by omega
          subst this; omega)
  rw [← hu]
  by_cases c : F k = v
  · rw [if_pos c, ← c]; exact hb
  · rw [if_neg c]
    rcases h5 with z | z
    · exact absurd z c
    · rw [← z]; exact fun e => hb e.symm
/-- one way back only -/
theorem VP.uniq {n a g v k k' : Nat} {F T : Nat → Nat} {B B' : Nat → Option Nat} {rk rk' : Nat → Nat} (hft : ∀ k, k < a → F k < n ∧ T k < n) (ha : a ≤ 30) (h : VP n a F T (ttV a F T).2 g B rk) (h' : VP n a F T (ttV a F T).2 g B' rk') (hk : B v = some k) (hk' : B' v = some k') : k = k' := by
  false_or_by_contra
  rename_i hne
  obtain ⟨h1, h2, h3, h4, h5, h6, h7⟩ := h v k hk
  obtain ⟨g1, g2, g3, g4, g5, g6, g7⟩ := h' v k' hk'
  obtain ⟨f, f1, f2⟩ := bridge hft ha g2 g3
  have o := h'.own hk' f2 f1
  refine o (h.walk f2 _ _ (Nat.le_refl _) (Or.inr ⟨k, hk⟩) (fun x hx e => ?_))
  obtain ⟨_, _, _, _, e5, e6, _⟩ := h x k' e
  by_cases xv : x = v
  · subst xv; rw [hk] at e; exact hne (Option.some.inj e)
  · by_cases c : F k' = x
    · rw [if_pos c] at e6
      have : T k' = v := by
        rcases g5 with z | z
        · omega
        · exact z
      rw [this] at e6; omega
    · rw [if_neg c] at e6
      have : F k' = v := by
        rcases g5 with z | z
        · exact z
        · rcases e5 with y | y <;> omega
      rw [this] at e6; omega
/-- a search: what is seen, the ways back, depths, how many -/
def SI (n a : Nat) (F T : Nat → Nat) (X : Nat → Bool) (g : Nat) (S : Nat → Bool) (B : Nat → Option Nat) (c : Nat) : Prop := S g = true ∧ g < n ∧ c = rkN S n ∧ (∀ v k, B v = some k → S v = true) ∧ (∀ v, v < n → S v = true → v = g ∨ ∃ k, B v = some k) ∧ ∃ rk, VP n a F T X g B rk ∧ ∀ v, v < n → S v = true → rk v < c
theorem SI.add {n a g c k q y : Nat} {F T : Nat → Nat} {X S : Nat → Bool} {B : Nat → Option Nat} (h : SI n a F T X g S B c) (hk : k < a) (hX : X k = true) (hq : q < n) (hy : y < n) (hSq : S q = true) (hSy : S y = false) (he : (F k = q ∧ T k = y) ∨ (F k = y ∧ T k = q)) : SI n a F T X g (bset S y) (updO B y k) (c + 1) := by
  obtain ⟨s1, s2, s3, s4, s5, rk, s6, s7⟩ := h
  have hqy : q ≠ y := fun e => by rw [e, hSy] at hSq; cases hSq
  have hgy : g ≠ y := fun e => by rw [e, hSy] at s1; cases s1
  have hBy : B y = none := by
    cases e : B y with
    | none => rfl
    | some j => have := s4 y j e; rw [hSy] at this; cases this
  have old : ∀ v, S v = true → v ≠ y := fun v hv e => by rw [e, hSy] at hv; cases hv
  obtain ⟨rk', hrk⟩ : ∃ rk' : Nat → Nat, ∀ v, rk' v = if v = y then rk q + 1 else rk v := ⟨_, fun _ => rfl⟩
  refine ⟨by unfold bset; rw [if_neg hgy]; exact s1, s2, by rw [(rkN_nt hSy n hy).2, s3], fun v j hv => ?_, fun v hv hs => ?_, rk', fun v j hv => ?_, fun v hv hs => ?_⟩
  · unfold bset
    by_cases e : v = y
    · rw [if_pos e]
    · rw [if_neg e]; unfold updO at hv; rw [if_neg e] at hv; exact s4 v j hv
  · by_cases e : v = y
    · right; exact ⟨k, by unfold updO; rw [if_pos e]⟩
    · unfold bset at hs
      rw [if_neg e] at hs
      rcases s5 v hv hs with z | ⟨j, z⟩
      · exact Or.inl z
      · right; exact ⟨j, by unfold updO; rw [if_neg e]; exact z⟩
  · unfold updO at hv
    by_cases e : v = y
    · rw [if_pos e] at hv
      cases hv
      subst e
      have ho : (if F k = v then T k else F k) = q := by
        rcases he with ⟨e1, e2⟩ | ⟨e1, e2⟩
        · rw [if_neg (by omega)]; exact e1
        · rw [if_pos e1]; exact e2
      rw [ho]
      refine ⟨hy, hk, hX, fun z => hgy z.symm, by omega, by rw [hrk, hrk, if_neg hqy, if_pos rfl]; omega, ?_⟩
      rcases s5 q hq hSq with z | ⟨j, z⟩
      · exact Or.inl z
      · right; exact ⟨j, by unfold updO; rw [if_neg hqy]; exact z⟩
    · rw [if_neg e] at hv
      obtain ⟨v1, v2, v3, v4, v5, v6, v7⟩ := s6 v j hv
      have ou : (if F j = v then T j else F j) ≠ y := by
        rcases v7 with z | ⟨i, z⟩
        · rw [z]; exact hgy
        · intro q2; rw [q2, hBy] at z; cases z
      refine ⟨v1, v2, v3, v4, v5, by rw [hrk, hrk, if_neg ou, if_neg e]; exact v6, ?_⟩
      rcases v7 with z | ⟨i, z⟩
      · exact Or.inl z
      · right; exact ⟨i, by unfold updO; rw [if_neg ou]; exact z⟩
  · by_cases e : v = y
    · rw [hrk, if_pos e]; have := s7 q hq hSq; omega
    · unfold bset at hs
      rw [if_neg e] at hs
      rw [hrk, if_neg e]; have := s7 v hv hs; omega
/-- seen on both sides of every taken arc -/
def clS (a : Nat) (F T : Nat → Nat) (X S : Nat → Bool) : Prop := ∀ j, j < a → X j = true → S (F j) = S (T j)
/-- the reference's search, one node -/
theorem bfI_ok {n a g q : Nat} {F T : Nat → Nat} {X : Nat → Bool} (hft : ∀ k, k < a → F k < n ∧ T k < n) (hq : q < n) : ∀ (m k : Nat) (S : Nat → Bool) (B : Nat → Option Nat) (Q : Nat → Nat) (c : Nat), k + m = a → SI n a F T X g S B c → S q = true → (∀ v, v < n → S v = true → ∃ i, i < c ∧ Q i = v) → (∀ i, i < c → Q i < n ∧ S (Q i) = true) → SI n a F T X g (bfI F T X q m k S B Q c).1 (bfI F T X q m k S B Q c).2.1 (bfI F T X q m k S B Q c).2.2.2 ∧ (∀ v, S v = true → (bfI F T X q m k S B Q c).1 v = true) ∧ (∀ v, v < n → (bfI F T X q m k S B Q c).1 v = true → ∃ i, i < (bfI F T X q m k S B Q c).2.2.2 ∧ (bfI F T X q m k S B Q c).2.2.1 i = v) ∧ (∀ i, i < (bfI F T X q m k S B Q c).2.2.2 → (bfI F T X q m k S B Q c).2.2.1 i < n ∧ (bfI F T X q m k S B Q c).1 ((bfI F T X q m k S B Q c).2.2.1 i) = true) ∧ (∀ i, i < c → (bfI F T X q m k S B Q c).2.2.1 i = Q i) ∧ c ≤ (bfI F T X q m k S B Q c).2.2.2 ∧ (∀ j, k ≤ j → j < a → X j = true → (F j = q ∨ T j = q) → (bfI F T X q m k S B Q c).1 (F j) = true ∧ (bfI F T X q m k S B Q c).1 (T j) = true) := by
  intro m
  induction m with
  | zero => intro k S B Q c hk h1 h2 h3 h4; exact ⟨h1, fun _ z => z, h3, h4, fun _ _ => rfl, Nat.le_refl _, fun j a1 a2 => by omega⟩
  | succ m ih =>
    intro k S B Q c hk h1 h2 h3 h4
    have hk2 := hft k (by omega)
    unfold bfI
    by_cases cc : X k = true ∧ (F k = q ∨ T k = q) ∧ S (if F k = q then T k else F k) = false
    · rw [if_pos cc]
      obtain ⟨x1, x2, x3⟩ := cc
      generalize hy : (if F k = q then T k else F k) = y at x3 ⊢
      have hyn : y < n := by rw [← hy]; split <;> omega
      have he : (F k = q ∧ T k = y) ∨ (F k = y ∧ T k = q) := by
        by_cases c1 : F k = q
        · rw [if_pos c1] at hy; exact Or.inl ⟨c1, hy⟩
        · rw [if_neg c1] at hy
          rcases x2 with z | z
          · exact absurd z c1
          · exact Or.inr ⟨hy, z⟩
      have hs2 : ∀ v, S v = true → bset S y v = true := fun v hv => by unfold bset; split; rfl; exact hv
      obtain ⟨i1, i2, i3, i4, i5, i6, i7⟩ := ih (k + 1) (bset S y) (updO B y k) (updN Q c y) (c + 1) (by omega) (h1.add (by omega) x1 hq hyn h2 x3 he) (hs2 q h2) (fun v hv hs => by
        by_cases e : v = y
        · exact ⟨c, by omega, by unfold updN; rw [if_pos rfl, e]⟩
        · unfold bset at hs
          rw [if_neg e] at hs
          obtain ⟨i, hi, z⟩ := h3 v hv hs
          exact ⟨i, by omega, by unfold updN; rw [if_neg (by omega)]; exact z⟩) (fun i hi => by
        unfold updN
        by_cases e : i = c
        · rw [if_pos e]; exact ⟨hyn, by unfold bset; rw [if_pos rfl]⟩
        · rw [if_neg e]; exact ⟨(h4 i (by omega)).1, hs2 _ (h4 i (by omega)).2⟩)
      refine ⟨i1, fun v hv => i2 v (hs2 v hv), i3, i4, fun i hi => by rw [i5 i (by omega)]; unfold updN; rw [if_neg (by omega)], by omega, fun j a1 a2 a3 a4 => ?_⟩
      by_cases e : j = k
      · subst e
        have yq : bset S y y = true := by unfold bset; rw [if_pos rfl]
        rcases he with ⟨e1, e2⟩ | ⟨e1, e2⟩
        · rw [e1, e2]; exact ⟨i2 q (hs2 q h2), i2 y yq⟩
        · rw [e1, e2]; exact ⟨i2 y yq, i2 q (hs2 q h2)⟩
      · exact i7 j (by omega) a2 a3 a4
    · rw [if_neg cc]
      obtain ⟨i1, i2, i3, i4, i5, i6, i7⟩ := ih (k + 1) S B Q c (by omega) h1 h2 h3 h4
      refine ⟨i1, i2, i3, i4, i5, i6, fun j a1 a2 a3 a4 => ?_⟩
      by_cases e : j = k
      · subst e
        have hy : S (if F j = q then T j else F j) = true := by
          cases z : S (if F j = q then T j else F j) with
          | true => rfl
          | false => exact absurd ⟨a3, a4, z⟩ cc
        by_cases c1 : F j = q
        · rw [if_pos c1] at hy
          rw [c1]; exact ⟨i2 q h2, i2 _ hy⟩
        · rw [if_neg c1] at hy
          rcases a4 with z | z
          · exact absurd z c1
          · rw [z]; exact ⟨i2 _ hy, i2 q h2⟩
      · exact i7 j (by omega) a2 a3 a4
theorem bfO_ok {n a g : Nat} {F T : Nat → Nat} {X : Nat → Bool} (hft : ∀ k, k < a → F k < n ∧ T k < n) : ∀ (m i : Nat) (S : Nat → Bool) (B : Nat → Option Nat) (Q : Nat → Nat) (c : Nat), i + m = n + 1 → SI n a F T X g S B c → (∀ v, v < n → S v = true → ∃ i, i < c ∧ Q i = v) → (∀ i, i < c → Q i < n ∧ S (Q i) = true) → (∀ j, j < a → X j = true → (∃ i', i' < i ∧ i' < c ∧ (F j = Q i' ∨ T j = Q i')) → S (F j) = true ∧ S (T j) = true) → ∃ (S' : Nat → Bool) (c' : Nat), SI n a F T X g S' (bfO F T X a m i S B Q c) c' ∧ clS a F T X S' := by
  intro m
  induction m with
  | zero =>
    intro i S B Q c hi h1 h3 h4 h5
    have hc : c ≤ n := by rw [h1.2.2.1]; exact rkN_le _ _
    refine ⟨S, c, h1, fun j hj hx => ?_⟩
    cases e1 : S (F j) with
    | true =>
      obtain ⟨i', a1, a2⟩ := h3 _ (hft j hj).1 e1
      rw [(h5 j hj hx ⟨i', by omega, a1, Or.inl a2.symm⟩).2]
    | false =>
      cases e2 : S (T j) with
      | false => rfl
      | true =>
        obtain ⟨i', a1, a2⟩ := h3 _ (hft j hj).2 e2
        have := (h5 j hj hx ⟨i', by omega, a1, Or.inr a2.symm⟩).1
        rw [e1] at this; cases this
  | succ m ih =>
    intro i S B Q c hi h1 h3 h4 h5
    unfold bfO
    by_cases ic : i < c
    · rw [if_pos ic]
      have hq := h4 i ic
      obtain ⟨i1, i2, i3, i4, i5, i6, i7⟩ := bfI_ok hft hq.1 a 0 S B Q c (by omega) h1 hq.2 h3 h4
      refine ih (i + 1) _ _ _ _ (by omega) i1 i3 i4 (fun j hj hx ⟨i', a1, a2, a3⟩ => ?_)
      by_cases e : i' = i
      · rw [e, i5 i ic] at a3
        exact i7 j (by omega) hj hx a3
      · have hc' : i' < c := by omega
        rw [i5 i' hc'] at a3
        have := h5 j hj hx ⟨i', by omega, hc', a3⟩
        exact ⟨i2 _ this.1, i2 _ this.2⟩
    · rw [if_neg ic]
      refine ⟨S, c, h1, fun j hj hx => ?_⟩
      cases e1 : S (F j) with
      | true =>
        obtain ⟨i', a1, a2⟩ := h3 _ (hft j hj).1 e1
        rw [(h5 j hj hx ⟨i', by omega, a1, Or.inl a2.symm⟩).2]
      | false =>
        cases e2 : S (T j) with
        | false => rfl
        | true =>
          obtain ⟨i', a1, a2⟩ := h3 _ (hft j hj).2 e2
          have := (h5 j hj hx ⟨i', by omega, a1, Or.inr a2.symm⟩).1
          rw [e1] at this; cases this
theorem SI.start {n a g : Nat} {F T : Nat → Nat} {X : Nat → Bool} (hg : g < n) : SI n a F T X g (fun v => decide (v = g)) (fun _ => none) 1 :=
  ⟨by simp, hg, (rkN_one (fun v => rfl) n hg).symm, fun v k h => (by cases h), fun v _ h => Or.inl (of_decide_eq_true h), fun _ => 0, fun v k h => (by cases h), fun v _ _ => Nat.zero_lt_one⟩
/-- the class's search -/
theorem rbit_tb (r : Int32) (v : Nat) : rbit r v = tb r v := rfl
theorem fwI_ok {n a g : Nat} {F T : Nat → Nat} {X : Nat → Bool} {tk : Int32} (hft : ∀ k, k < a → F k < n ∧ T k < n) (hn : n ≤ 10) (htk : ∀ j, j < a → tb tk j = X j) : ∀ (m k : Nat) (r : Int32) (B : Nat → Option Nat) (S : Nat → Bool) (c : Nat), k + m = a → (∀ v, v < n → rbit r v = S v) → SI n a F T X g S B c → ∃ (S' : Nat → Bool) (c' : Nat), (∀ v, v < n → rbit (fwI F T tk m k (r, B)).1 v = S' v) ∧ SI n a F T X g S' (fwI F T tk m k (r, B)).2 c' ∧ c ≤ c' ∧ (c' = c → (∀ v, v < n → S' v = S v) ∧ ∀ j, k ≤ j → j < a → X j = true → S (F j) = S (T j)) ∧ ((∀ j, k ≤ j → j < a → X j = true → S (F j) = S (T j)) → c' = c) := by
  intro m
  induction m with
  | zero => intro k r B S c hk hr h; exact ⟨S, c, hr, h, Nat.le_refl _, fun _ => ⟨fun _ _ => rfl, fun j a1 a2 => by omega⟩, fun _ => rfl⟩
  | succ m ih =>
    intro k r B S c hk hr h
    have hk2 := hft k (by omega)
    unfold fwI
    have hb := htk k (by omega)
    unfold tb at hb
    by_cases x : X k = true
    · rw [x, decide_eq_true_iff] at hb
      rw [if_pos hb]
      dsimp only
      unfold rcR rcB
      rw [hr _ hk2.1, hr _ hk2.2]
      by_cases e : S (F k) = S (T k)
      · rw [if_pos e, if_pos e]
        obtain ⟨S', c', a1, a2, a3, a4, a5⟩ := ih (k + 1) r B S c (by omega) hr h
        refine ⟨S', c', a1, a2, a3, fun q => ⟨(a4 q).1, fun j b1 b2 b3 => ?_⟩, fun q => a5 (fun j b1 b2 b3 => q j (by omega) b2 b3)⟩
        by_cases z : j = k
        · rw [z]; exact e
        · exact (a4 q).2 j (by omega) b2 b3
      · rw [if_neg e, if_neg e]
        -- one end is new
        have main : ∀ q y, q < n → y < n → S q = true → S y = false → ((F k = q ∧ T k = y) ∨ (F k = y ∧ T k = q)) → ∃ (S' : Nat → Bool) (c' : Nat), (∀ v, v < n → rbit (fwI F T tk m (k + 1) (r ||| (1 <<< (nI y &&& 31)), updO B y k)).1 v = S' v) ∧ SI n a F T X g S' (fwI F T tk m (k + 1) (r ||| (1 <<< (nI y &&& 31)), updO B y k)).2 c' ∧ c ≤ c' ∧ (c' = c → (∀ v, v < n → S' v = S v) ∧ ∀ j, k ≤ j → j < a → X j = true → S (F j) = S (T j)) ∧ ((∀ j, k ≤ j → j < a → X j = true → S (F j) = S (T j)) → c' = c) := by
          intro q y hq hy hsq hsy he
          obtain ⟨S', c', a1, a2, a3, a4, a5⟩ := ih (k + 1) (r ||| (1 <<< (nI y &&& 31))) (updO B y k) (bset S y) (c + 1) (by omega) (fun v hv => by
            rw [rbit_tb, tb_or (by omega) (by omega), ← rbit_tb, hr v hv]
            unfold bset
            by_cases z : v = y
            · rw [if_pos z]; simp [z]
            · rw [if_neg z]; simp [z]) (h.add (by omega) x hq hy hsq hsy he)
          exact ⟨S', c', a1, a2, by omega, fun z => by omega, fun z => absurd (z k (Nat.le_refl _) (by omega) x) e⟩
        cases e1 : S (F k) with
        | true =>
          have e2 : S (T k) = false := by
            cases z : S (T k) with
            | false => rfl
            | true => rw [e1, z] at e; exact absurd rfl e
          simp only [if_true]
          exact main (F k) (T k) hk2.1 hk2.2 e1 e2 (Or.inl ⟨rfl, rfl⟩)
        | false =>
          have e2 : S (T k) = true := by
            cases z : S (T k) with
            | true => rfl
            | false => rw [e1, z] at e; exact absurd rfl e
          simp only [Bool.false_eq_true, if_false]
          exact main (T k) (F k) hk2.2 hk2.1 e2 e1 (Or.inr ⟨rfl, rfl⟩)
    · have hx : X k = false := by cases q : X k with
        | false => rfl
        | true => exact absurd q x
      rw [hx, decide_eq_false_iff_not] at hb
      rw [if_neg hb]
      obtain ⟨S', c', a1, a2, a3, a4, a5⟩ := ih (k + 1) r B S c (by omega) hr h
      refine ⟨S', c', a1, a2, a3, fun q => ⟨(a4 q).1, fun j b1 b2 b3 => ?_⟩, fun q => a5 (fun j b1 b2 b3 => q j (by omega) b2 b3)⟩
      by_cases z : j = k
      · rw [z] at b3; exact absurd b3 x
      · exact (a4 q).2 j (by omega) b2 b3
theorem fwO_ok {n a g : Nat} {F T : Nat → Nat} {X : Nat → Bool} {tk : Int32} (hft : ∀ k, k < a → F k < n ∧ T k < n) (hn : n ≤ 10) (htk : ∀ j, j < a → tb tk j = X j) : ∀ (m : Nat) (r : Int32) (B : Nat → Option Nat) (S : Nat → Bool) (c d : Nat), (∀ v, v < n → rbit r v = S v) → SI n a F T X g S B c → (clS a F T X S ∨ d ≤ c) → ∃ (S' : Nat → Bool) (c' : Nat), SI n a F T X g S' (fwO F T tk a m (r, B)).2 c' ∧ (clS a F T X S' ∨ d + m ≤ c') := by
  intro m
  induction m with
  | zero => intro r B S c d _ h1 h2; exact ⟨S, c, h1, h2⟩
  | succ m ih =>
    intro r B S c d hr h1 h2
    unfold fwO
    obtain ⟨S', c', a1, a2, a3, a4, a5⟩ := fwI_ok hft hn htk a 0 r B S c (by omega) hr h1
    have hnew : clS a F T X S' ∨ d + 1 ≤ c' := by
      by_cases e : c' = c
      · left
        intro j hj hx
        have := (a4 e).2 j (by omega) hj hx
        rw [(a4 e).1 _ (hft j hj).1, (a4 e).1 _ (hft j hj).2]; exact this
      · rcases h2 with z | z
        · -- closed already: nothing is added
          exact absurd (a5 (fun j _ hj hx => z j hj hx)) e
        · right; omega
    obtain ⟨S2, c2, b1, b2⟩ := ih (fwI F T tk a 0 (r, B)).1 (fwI F T tk a 0 (r, B)).2 S' c' (d + 1) a1 a2 hnew
    exact ⟨S2, c2, b1, by rcases b2 with z | z; exact Or.inl z; exact Or.inr (by omega)⟩
theorem fwV_ok {n a g : Nat} {F T : Nat → Nat} {X : Nat → Bool} {tk : Int32} (hft : ∀ k, k < a → F k < n ∧ T k < n) (hn : n ≤ 10) (htk : ∀ j, j < a → tb tk j = X j) (hg : g < n) : ∃ (S : Nat → Bool) (c : Nat), SI n a F T X g S (fwV F T tk n a g) c ∧ clS a F T X S := by
  have hb : ∀ v, v < n → rbit (1 <<< (nI g &&& 31)) v = decide (v = g) := by
    have : ∀ g, g < 10 → ∀ v, v < 10 → rbit (1 <<< (nI g &&& 31)) v = decide (v = g) := by decide +kernel
    exact fun v hv => this g (by omega) v (by omega)
  obtain ⟨S, c, h1, h2⟩ := fwO_ok hft hn htk (n - 1) (1 <<< (nI g &&& 31)) (fun _ => none) (fun v => decide (v = g)) 1 1 hb (SI.start hg) (Or.inr (Nat.le_refl _))
  refine ⟨S, c, h1, ?_⟩
  rcases h2 with z | z
  · exact z
  · have hc : c = rkN S n := h1.2.2.1
    have full := rkN_full (S := S) (n := n) (by omega)
    intro j hj _
    rw [full _ (hft j hj).1, full _ (hft j hj).2]
theorem bfV_ok {n a g : Nat} {F T : Nat → Nat} {X : Nat → Bool} (hft : ∀ k, k < a → F k < n ∧ T k < n) (hg : g < n) : ∃ (S : Nat → Bool) (c : Nat), SI n a F T X g S (bfO F T X a (n + 1) 0 (fun v => decide (v = g)) (fun _ => none) (fun _ => g) 1) c ∧ clS a F T X S :=
  bfO_ok hft (n + 1) 0 _ _ _ 1 (by omega) (SI.start hg) (fun v _ hs => ⟨0, by omega, (of_decide_eq_true hs).symm⟩) (fun i _ => ⟨hg, by simp⟩) (fun j _ _ ⟨i', a1, _⟩ => by omega)
/-- the way back is the same -/
theorem path_eq {n a g : Nat} {F T : Nat → Nat} {B Bc : Nat → Option Nat} {rk rkc : Nat → Nat} {Sc : Nat → Bool} {cc : Nat} (hft : ∀ k, k < a → F k < n ∧ T k < n) (ha : a ≤ 30) (h : VP n a F T (ttV a F T).2 g B rk) (hc : VP n a F T (ttV a F T).2 g Bc rkc) (hs : SI n a F T (ttV a F T).2 g Sc Bc cc) (hcl : clS a F T (ttV a F T).2 Sc) : ∀ (d v s m f : Nat) (R R' : Nat → Int32), rk v ≤ d → d ≤ m → d < f → v < n → (v = g ∨ ∃ k, B v = some k) → (∀ j, j < s → R j = R' j) → ∃ s' Rf, pbL F T B g f v s R' = some (s', Rf) ∧ (lyL F T g Bc m s v R).1 = s' ∧ ∀ j, j < s' → (lyL F T g Bc m s v R).2 j = Rf j := by
  -- the class has seen it
  have seen : ∀ (d v : Nat), rk v ≤ d → (v = g ∨ ∃ k, B v = some k) → Sc v = true := by
    intro d
    induction d with
    | zero =>
      intro v hd hv
      rcases hv with rfl | ⟨k, hk⟩
      · exact hs.1
      · have := (h v k hk).2.2.2.2.2.1; omega
    | succ d ih =>
      intro v hd hv
      rcases hv with rfl | ⟨k, hk⟩
      · exact hs.1
      · obtain ⟨h1, h2, h3, h4, h5, h6, h7⟩ := h v k hk
        have := ih _ (by omega) h7
        have e := hcl k h2 h3
        by_cases c : F k = v
        · rw [if_pos c] at this; rw [← c, e]; exact this
        · rw [if_neg c] at this
          rcases h5 with z | z
          · exact absurd z c
          · rw [← z, ← e]; exact this
  intro d
  induction d with
  | zero =>
    intro v s m f R R' hd hm hf hvn hv hR
    have hg : v = g := by
      rcases hv with z | ⟨k, hk⟩
      · exact z
      · have := (h v k hk).2.2.2.2.2.1; omega
    obtain ⟨f', rfl⟩ : ∃ f', f = f' + 1 := ⟨f - 1, by omega⟩
    refine ⟨s, R', by unfold pbL; rw [if_pos hg], ?_⟩
    cases m with
    | zero => exact ⟨rfl, hR⟩
    | succ m => unfold lyL; rw [if_pos hg]; exact ⟨rfl, hR⟩
  | succ d ih =>
    intro v s m f R R' hd hm hf hvn hv hR
    obtain ⟨f', rfl⟩ : ∃ f', f = f' + 1 := ⟨f - 1, by omega⟩
    obtain ⟨m', rfl⟩ : ∃ m', m = m' + 1 := ⟨m - 1, by omega⟩
    by_cases hg : v = g
    · refine ⟨s, R', by unfold pbL; rw [if_pos hg], ?_⟩
      unfold lyL; rw [if_pos hg]; exact ⟨rfl, hR⟩
    · obtain ⟨k, hk⟩ : ∃ k, B v = some k := by
        rcases hv with z | z
        · exact absurd z hg
        · exact z
      obtain ⟨h1, h2, h3, h4, h5, h6, h7⟩ := h v k hk
      obtain ⟨k', hk'⟩ : ∃ k', Bc v = some k' := by
        rcases hs.2.2.2.2.1 v hvn (seen _ v (Nat.le_refl _) hv) with z | z
        · exact absurd z hg
        · exact z
      have e := VP.uniq hft ha h hc hk hk'
      rw [← e] at hk'
      have hun : (if F k = v then T k else F k) < n := by have := hft k h2; split <;> omega
      obtain ⟨s', Rf, b1, b2, b3⟩ := ih (if F k = v then T k else F k) (s + 1) m' f' (upd R s (nI k)) (upd R' s (nI k)) (by omega) (by omega) (by omega) hun h7 (fun j hj => by
        unfold upd
        by_cases c : j = s
        · rw [if_pos c, if_pos c]
        · rw [if_neg c, if_neg c]; exact hR j (by omega))
      refine ⟨s', Rf, by unfold pbL; rw [if_neg hg, hk]; exact b1, ?_⟩
      unfold lyL
      rw [if_neg hg, hk']
      exact ⟨b2, b3⟩
/-- rings: both answer alike -/
theorem ring_eq {n a r : Nat} {F T : Nat → Nat} (hft : ∀ k, k < a → F k < n ∧ T k < n) (hn : n ≤ 10) (ha : a ≤ 30) (hr : r < (ttV a F T).1) : ∃ e val, rgE (ttV a F T).2 a 0 r = some e ∧ pbL F T (bfO F T (ttV a F T).2 a (n + 1) 0 (fun v => decide (v = F e)) (fun _ => none) (fun _ => F e) 1) (F e) 29 (T e) 1 (upd (fun _ => 0) 0 (nI e)) = some val ∧ ∀ R, (lyV F T n a (nI r) R).1 = val.1 ∧ ∀ j, j < val.1 → (lyV F T n a (nI r) R).2 j = val.2 j := by
  obtain ⟨e, e1, e2, e3⟩ := (ring_arc (a := a) (F := F) (T := T) (r := r)).1 hr
  have he := hft e e2
  have tt := tt_ok hft ha
  have rl : (ttV a F T).1 ≤ a := by have := tt_rk (a := a) (F := F) (T := T); omega
  have hu : utL (ftV n a F T).1 (nI r) a 0 0 = some e := by
    have := ut_rg (r := r) tt.1 (by omega) a 0 0 (by omega) (by omega)
    rw [Nat.sub_zero, e1] at this
    exact this
  obtain ⟨S, c, h1, h2⟩ := bfV_ok (X := (ttV a F T).2) hft he.1
  obtain ⟨Sc, cc, g1, g2⟩ := fwV_ok hft hn tt.1 he.1
  obtain ⟨s1, s2, s3, s4, s5, rk, s6, s7⟩ := h1
  obtain ⟨t1, t2, t3, t4, t5, rkc, t6, t7⟩ := id g1
  -- the other end is seen
  have hT : S (T e) = true := by
    have := taken_all hft (h := fun v => if S v = true then 1 else 0) (fun j hj hx => by rw [h2 j hj hx]) e e2
    rw [if_pos s1] at this
    by_cases c : S (T e) = true
    · exact c
    · rw [if_neg c] at this; omega
  have hc : c ≤ n := by rw [s3]; exact rkN_le _ _
  have hrk := s7 (T e) he.2 hT
  have key := fun R => path_eq hft ha s6 t6 g1 g2 9 (T e) 1 9 29 (upd R 0 (nI e)) (upd (fun _ => 0) 0 (nI e)) (by omega) (Nat.le_refl _) (by decide) he.2 (s5 (T e) he.2 hT) (fun j hj => by unfold upd; rw [if_pos (by omega), if_pos (by omega)])
  obtain ⟨s', Rf, b1, _, _⟩ := key (fun _ => 0)
  refine ⟨e, (s', Rf), e1, b1, fun R => ?_⟩
  obtain ⟨s2', Rf2, d1, d2, d3⟩ := key R
  rw [b1] at d1
  cases d1
  unfold lyV
  rw [hu]
  exact ⟨d2, d3⟩
theorem ring_no {n a r : Nat} {F T : Nat → Nat} (hft : ∀ k, k < a → F k < n ∧ T k < n) (ha : a ≤ 30) (hr : (ttV a F T).1 ≤ r) (hr2 : r < 2 ^ 31) (R : Nat → Int32) : (lyV F T n a (nI r) R).1 = 0 := by
  have tt := tt_ok hft ha
  have := ut_rg (r := r) tt.1 hr2 a 0 0 (by omega) (by omega)
  rw [Nat.sub_zero, (ring_arc (a := a) (F := F) (T := T) (r := r)).2 hr] at this
  have hu : utL (ftV n a F T).1 (nI r) a 0 0 = none := this
  unfold lyV
  rw [hu]; rfl
