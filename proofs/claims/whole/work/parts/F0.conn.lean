/-- as many as places -/
theorem pig : ∀ (c f : Nat) (h : Nat → Nat), (∀ j, j < f → h j < c) → (∀ i j, i < f → j < f → h i = h j → i = j) → f ≤ c := by
  intro c
  induction c with
  | zero =>
    intro f h h1 _
    rcases Nat.eq_zero_or_pos f with q | q
    · omega
    · have := h1 0 q; omega
  | succ c ih =>
    intro f h h1 h2
    rcases Nat.eq_zero_or_pos f with q | q
    · omega
    · have := ih (f - 1) (fun j => if h (f - 1) < h j then h j - 1 else h j) (fun j hj => by
        have a1 := h1 j (by omega)
        have a2 := h1 (f - 1) (by omega)
        have a3 : h j ≠ h (f - 1) := fun e => by have := h2 j (f - 1) (by omega) (by omega) e; omega
        split <;> omega) (fun i j hi hj e => by
        have a3 : h j ≠ h (f - 1) := fun e => by have := h2 j (f - 1) (by omega) (by omega) e; omega
        have a4 : h i ≠ h (f - 1) := fun e => by have := h2 i (f - 1) (by omega) (by omega) e; omega
        apply h2 i j (by omega) (by omega)
        split at e <;> split at e <;> omega)
      omega
/-- a finer numbering has no fewer parts -/
theorem FO.fine {n c f : Nat} {P Q : Nat → Nat} (hP : FO n c P) (hQ : FO n f Q) (h : ∀ u v, u < n → v < n → P u = P v → Q u = Q v) : f ≤ c := by
  have ex : ∀ j, ∃ v, j < f → v < n ∧ Q v = j := fun j => by
    by_cases c : j < f
    · obtain ⟨v, a, b⟩ := hQ.2.2 j c; exact ⟨v, fun _ => ⟨a, b⟩⟩
    · exact ⟨0, fun q => absurd q c⟩
  refine pig c f (fun j => P (Classical.choose (ex j))) (fun j hj => hP.1 _ (Classical.choose_spec (ex j) hj).1) (fun i j hi hj e => ?_)
  have a := Classical.choose_spec (ex i) hi
  have b := Classical.choose_spec (ex j) hj
  have := h _ _ a.1 b.1 e
  rw [a.2, b.2] at this
  exact this
theorem FO.jn {n c x y : Nat} {P : Nat → Nat} (h : FO n c P) (hx : x < n) (hy : y < n) : FO n (jnC x y P c) (jnP x y P) := by
  unfold jnC jnP
  by_cases e : P x = P y
  · rw [if_pos e, if_pos e]; exact h
  · rw [if_neg e, if_neg e]; exact h.un hx hy e
theorem jnP_eq {n x y : Nat} {P : Nat → Nat} (hx : x < n) (hy : y < n) (u v : Nat) (hu : u < n) (hv : v < n) : jnP x y P u = jnP x y P v ↔ (P u = P v ∨ ((P u = P x ∨ P u = P y) ∧ (P v = P x ∨ P v = P y))) := by
  unfold jnP
  by_cases e : P x = P y
  · rw [if_pos e]
    constructor
    · intro h; exact Or.inl h
    · intro h; rcases h with h | ⟨h1, h2⟩
      · exact h
      · rcases h1 with h1 | h1 <;> rcases h2 with h2 | h2 <;> omega
  · rw [if_neg e, (EqP.rf n P).un hx hy e u v hu hv]
    unfold jmP
    by_cases c1 : P u = P y <;> by_cases c2 : P v = P y
    · rw [if_pos c1, if_pos c2]; simp; omega
    · rw [if_pos c1, if_neg c2]; constructor
      · intro h; right; exact ⟨Or.inr c1, Or.inl h.symm⟩
      · intro h; rcases h with h | ⟨_, h⟩ <;> omega
    · rw [if_neg c1, if_pos c2]; constructor
      · intro h; right; exact ⟨Or.inl h, Or.inr c2⟩
      · intro h; rcases h with h | ⟨h, _⟩ <;> omega
    · rw [if_neg c1, if_neg c2]; constructor
      · intro h; exact Or.inl h
      · intro h; rcases h with h | ⟨h1, h2⟩
        · exact h
        · omega
/-- all arcs from k on joined -/
theorem ft_ok {n a : Nat} {F T : Nat → Nat} (hft : ∀ k, k < a → F k < n ∧ T k < n) : ∀ (m k : Nat) (t : Int32) (c : Nat) (P : Nat → Nat), k + m = a → FO n c P → FO n (ftL F T m k t c P).2.1 (ftL F T m k t c P).2.2 ∧ (∀ u v, u < n → v < n → P u = P v → (ftL F T m k t c P).2.2 u = (ftL F T m k t c P).2.2 v) ∧ (∀ j, k ≤ j → j < a → (ftL F T m k t c P).2.2 (F j) = (ftL F T m k t c P).2.2 (T j)) ∧ (∀ h : Nat → Nat, (∀ u v, u < n → v < n → P u = P v → h u = h v) → (∀ j, k ≤ j → j < a → h (F j) = h (T j)) → ∀ u v, u < n → v < n → (ftL F T m k t c P).2.2 u = (ftL F T m k t c P).2.2 v → h u = h v) := by
  intro m
  induction m with
  | zero => intro k t c P hk hF; exact ⟨hF, fun _ _ _ _ e => e, fun j h1 h2 => by omega, fun h h1 _ u v hu hv e => h1 u v hu hv e⟩
  | succ m ih =>
    intro k t c P hk hF
    have hk2 := hft k (by omega)
    unfold ftL
    obtain ⟨a1, a2, a3, a4⟩ := ih (k + 1) (if P (F k) = P (T k) then t else t ||| (1 <<< (nI k &&& 31))) (jnC (F k) (T k) P c) (jnP (F k) (T k) P) (by omega) (hF.jn hk2.1 hk2.2)
    have je := jnP_eq (P := P) hk2.1 hk2.2
    refine ⟨a1, fun u v hu hv e => a2 u v hu hv ((je u v hu hv).mpr (Or.inl e)), fun j h1 h2 => ?_, fun h h1 h2 u v hu hv e => ?_⟩
    · by_cases q : j = k
      · subst q; exact a2 _ _ hk2.1 hk2.2 ((je _ _ hk2.1 hk2.2).mpr (Or.inr ⟨Or.inl rfl, Or.inr rfl⟩))
      · exact a3 j (by omega) h2
    · refine a4 h (fun x y hx hy e2 => ?_) (fun j h3 h4 => h2 j (by omega) h4) u v hu hv e
      have hk3 := h2 k (by omega) (by omega)
      rcases (je x y hx hy).mp e2 with q | ⟨q1, q2⟩
      · exact h1 x y hx hy q
      · rcases q1 with q1 | q1 <;> rcases q2 with q2 | q2
        · exact h1 x y hx hy (by omega)
        · have e3 := h1 x _ hx hk2.1 q1; have e4 := h1 y _ hy hk2.2 q2; omega
        · have e3 := h1 x _ hx hk2.2 q1; have e4 := h1 y _ hy hk2.1 q2; omega
        · exact h1 x y hx hy (by omega)
theorem ftV_ok {n a : Nat} {F T : Nat → Nat} (hft : ∀ k, k < a → F k < n ∧ T k < n) : FO n (ftV n a F T).2.1 (ftV n a F T).2.2 ∧ (∀ j, j < a → (ftV n a F T).2.2 (F j) = (ftV n a F T).2.2 (T j)) ∧ (∀ h : Nat → Nat, (∀ j, j < a → h (F j) = h (T j)) → ∀ u v, u < n → v < n → (ftV n a F T).2.2 u = (ftV n a F T).2.2 v → h u = h v) := by
  obtain ⟨a1, _, a3, a4⟩ := ft_ok hft a 0 0 n (fun v => v) (by omega) (FO.id n)
  exact ⟨a1, fun j hj => a3 j (by omega) hj, fun h h2 u v hu hv e => a4 h (fun x y _ _ e2 => by have : x = y := e2; rw [this]) (fun j _ hj => h2 j hj) u v hu hv e⟩
theorem ftV_1 {n a : Nat} {F T : Nat → Nat} (hft : ∀ k, k < a → F k < n ∧ T k < n) (hn : 0 < n) : 1 ≤ (ftV n a F T).2.1 := by
  have := (ftV_ok hft).1.1 0 hn; omega
/-- a numbering that is finer than that of all arcs: never fewer parts -/
theorem sf_ok {n a f : Nat} {F T : Nat → Nat} {Q : Nat → Nat} (hft : ∀ k, k < a → F k < n ∧ T k < n) (hQ : FO n f Q) (hq : ∀ j, j < a → Q (F j) = Q (T j)) : ∀ (m k c : Nat) (P : Nat → Nat), k + m = a → FO n c P → (∀ u v, u < n → v < n → P u = P v → Q u = Q v) → sfO F T f m k c P := by
  intro m
  induction m with
  | zero => intro k c P _ hF h; exact hF.fine hQ h
  | succ m ih =>
    intro k c P hk hF h
    have hk2 := hft k (by omega)
    unfold sfO
    refine ⟨hF.fine hQ h, fun _ => ⟨ih (k + 1) c P (by omega) hF h, fun _ => ih (k + 1) _ _ (by omega) (hF.jn hk2.1 hk2.2) (fun u v hu hv e => ?_)⟩⟩
    have h3 := hq k (by omega)
    rcases (jnP_eq (P := P) hk2.1 hk2.2 u v hu hv).mp e with q | ⟨q1, q2⟩
    · exact h u v hu hv q
    · rcases q1 with q1 | q1 <;> rcases q2 with q2 | q2
      · exact h u v hu hv (by omega)
      · have e3 := h u _ hu hk2.1 q1; have e4 := h v _ hv hk2.2 q2; omega
      · have e3 := h u _ hu hk2.2 q1; have e4 := h v _ hv hk2.1 q2; omega
      · exact h u v hu hv (by omega)
theorem sfO_net {n a : Nat} {F T : Nat → Nat} (hft : ∀ k, k < a → F k < n ∧ T k < n) : sfO F T (ftV n a F T).2.1 a 0 n (fun v => v) := by
  obtain ⟨a1, a2, _⟩ := ftV_ok hft
  exact sf_ok hft a1 a2 a 0 n (fun v => v) (by omega) (FO.id n) (fun u v _ _ e => by have : u = v := e; rw [this])
/-- some tree: one part -/
theorem tc_pos {n a : Nat} {F T : Nat → Nat} {w : Nat → Int} (hft : ∀ k, k < a → F k < n ∧ T k < n) (hn : 0 < n) (hw : ∀ k, k < a → 1 ≤ w k) : ∀ (m k : Nat) (t : Int32) (c : Nat) (P : Nat → Nat), k + m = a → FO n c P → (0 < tcN F T w m k c P ↔ (ftL F T m k t c P).2.1 = 1) := by
  intro m
  induction m with
  | zero =>
    intro k t c P hk hF
    unfold tcN ftL
    by_cases c1 : c = 1
    · rw [if_pos c1]; simp [c1]
    · rw [if_neg c1]; simp [c1]
  | succ m ih =>
    intro k t c P hk hF
    have hk2 := hft k (by omega)
    have hwk := hw k (by omega)
    have p1 := tcN_pos (F := F) (T := T) (w := w) m (k + 1) c P (fun j h1 h2 => by have := hw j (by omega); omega)
    have p2 := tcN_pos (F := F) (T := T) (w := w) m (k + 1) (c - 1) (unP (F k) (T k) P) (fun j h1 h2 => by have := hw j (by omega); omega)
    unfold ftL
    rw [tcN_s]
    by_cases e : P (F k) = P (T k)
    · have ej1 : jnC (F k) (T k) P c = c := by unfold jnC; rw [if_pos e]
      have ej2 : jnP (F k) (T k) P = P := by unfold jnP; rw [if_pos e]
      rw [if_pos e, if_pos e, ej1, ej2, Int.add_zero]
      exact ih (k + 1) t c P (by omega) hF
    · have ej1 : jnC (F k) (T k) P c = c - 1 := by unfold jnC; rw [if_neg e]
      have ej2 : jnP (F k) (T k) P = unP (F k) (T k) P := by unfold jnP; rw [if_neg e]
      rw [if_neg e, if_neg e, ej1, ej2]
      have hF2 := hF.un hk2.1 hk2.2 e
      have i1 := ih (k + 1) (t ||| (1 <<< (nI k &&& 31))) c P (by omega) hF
      have i2 := ih (k + 1) (t ||| (1 <<< (nI k &&& 31))) (c - 1) (unP (F k) (T k) P) (by omega) hF2
      constructor
      · intro h
        by_cases h2 : 0 < tcN F T w m (k + 1) (c - 1) (unP (F k) (T k) P)
        · exact i2.mp h2
        · have h3 : tcN F T w m (k + 1) (c - 1) (unP (F k) (T k) P) = 0 := by omega
          rw [h3, Int.mul_zero, Int.add_zero] at h
          have f1 := i1.mp h
          -- all is one already
          obtain ⟨b1, b2, b3, b4⟩ := ft_ok hft m (k + 1) (t ||| (1 <<< (nI k &&& 31))) c P (by omega) hF
          obtain ⟨d1, d2, d3, d4⟩ := ft_ok hft m (k + 1) (t ||| (1 <<< (nI k &&& 31))) (c - 1) (unP (F k) (T k) P) (by omega) hF2
          have hf : (ftL F T m (k + 1) (t ||| (1 <<< (nI k &&& 31))) (c - 1) (unP (F k) (T k) P)).2.1 ≤ (ftL F T m (k + 1) (t ||| (1 <<< (nI k &&& 31))) c P).2.1 := by
            refine b1.fine d1 (b4 _ (fun u v hu hv e2 => ?_) d3)
            apply d2 u v hu hv
            have := (jnP_eq (P := P) hk2.1 hk2.2 u v hu hv).mpr (Or.inl e2)
            rw [ej2] at this
            exact this
          have := d1.1 0 hn
          omega
      · intro h
        have h2 := i2.mpr h
        have := Int.mul_le_mul hwk (show (1 : Int) ≤ tcN F T w m (k + 1) (c - 1) (unP (F k) (T k) P) by omega) (by decide) (by omega)
        omega
theorem trees_one {n a : Nat} {F T : Nat → Nat} {w : Nat → Int32} (h : netOk n a F T w) (hn : 0 < n) : (¬ cnV n a F T w x0 (fun v => v) = 0) ↔ (ftV n a F T).2.1 = 1 := by
  have cs := cnV_sop (X := x0) (f0 := 0) (c := n) hn h.1 h.2.1 h.2.2.1 h.w0 (FO.id n) h.1 (EqP.rf n _) (by omega) (fun k hk => by omega) (fun k _ _ => rfl)
  have tp := tc_pos (w := wZ w) h.2.2.1 hn (fun k hk => (h.2.2.2 k hk).1) a 0 0 n (fun v => v) (by omega) (FO.id n)
  have e : (cnV n a F T w x0 (fun v => v)).toInt = tcN F T (wZ w) a 0 n (fun v => v) := cs.2
  have t0 := tcN_pos (F := F) (T := T) (w := wZ w) a 0 n (fun v => v) (fun j _ hj => (h.wz j (by omega)).1)
  rw [← i64_zero, e]
  unfold ftV
  rw [← tp]
  omega
