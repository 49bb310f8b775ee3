/-- one node's firing: the reference's arcs, the class's row -/
theorem fnL_ok {F T : Nat → Nat} {w : Nat → Int32} {v : Nat} {q : Int64} : ∀ (m k : Nat) (L : Nat → Int64) (j : Nat), fnL F T w v q m k L j = L j - q * Int64.ofInt (lapL F T (wZ w) m k v j) := by
  have z0 : Int64.ofInt 0 = 0 := rfl
  have z1 : Int64.ofInt 1 = 1 := rfl
  intro m
  induction m with
  | zero => intro k L j; show L j = L j - q * 0; grind
  | succ m ih =>
    intro k L j
    unfold fnL
    rw [ih, lapL_s, i64_ofa]
    by_cases c : atN F T v k = true
    · rw [if_pos c]
      have hc : F k ≠ T k ∧ (F k = v ∨ T k = v) := of_decide_eq_true c
      unfold fnS
      rw [i32_64]
      have hw : Int64.ofInt (wZ w k * lU F T k v * lU F T k j) = Int64.ofInt (w k).toInt * ((if j = v then 1 else 0) - (if j = otN F T v k then 1 else 0)) := by
        have e : wZ w k * lU F T k v * lU F T k j = (w k).toInt * ((if j = v then 1 else 0) - (if j = otN F T v k then 1 else 0)) := by
          unfold lU otN wZ
          rcases hc.2 with e | e
          · have h2 : ¬ T k = v := fun z => hc.1 (by rw [e, z])
            rw [if_pos e, if_pos e, if_neg h2, e]
            have a : ∀ x : Nat, (if x = j then (1 : Int) else 0) = if j = x then 1 else 0 := by
              intro x
              by_cases z : x = j
              · rw [if_pos z, if_pos z.symm]
              · rw [if_neg z, if_neg (fun y => z y.symm)]
            rw [a v, a (T k)]; grind
          · have h2 : ¬ F k = v := fun z => hc.1 (by rw [e, z])
            rw [if_neg h2, if_neg h2, if_pos e, e]
            have a : ∀ x : Nat, (if x = j then (1 : Int) else 0) = if j = x then 1 else 0 := by
              intro x
              by_cases z : x = j
              · rw [if_pos z, if_pos z.symm]
              · rw [if_neg z, if_neg (fun y => z y.symm)]
            rw [a v, a (F k)]; grind
        rw [e, i64_ofm, i64_ofs]
        split <;> split <;> rfl
      rw [hw]
      have ho : otN F T v k ≠ v := by
        unfold otN
        split
        · rename_i e; intro z; exact hc.1 (by rw [e, z])
        · rename_i e; exact e
      unfold vp_updL
      by_cases c1 : j = otN F T v k
      · have c2 : ¬ j = v := fun z => ho (by rw [← c1, z])
        rw [if_pos c1, if_neg ho, if_neg c2, ← c1]; grind
      · by_cases c2 : j = v
        · rw [if_neg c1, if_pos c2, if_pos c2, c2]; grind
        · rw [if_neg c1, if_neg c2, if_neg c2]; grind
    · rw [if_neg c]
      have hz : wZ w k * lU F T k v * lU F T k j = 0 := by
        have hc : ¬ (F k ≠ T k ∧ (F k = v ∨ T k = v)) := fun z => c (decide_eq_true z)
        by_cases e : F k = T k
        · have : lU F T k j = 0 := by unfold lU; rw [e]; grind
          rw [this]; grind
        · have h1 : ¬ F k = v := fun z => hc ⟨e, Or.inl z⟩
          have h2 : ¬ T k = v := fun z => hc ⟨e, Or.inr z⟩
          have : lU F T k v = 0 := by unfold lU; rw [if_neg h1, if_neg h2]; rfl
          rw [this]; grind
      rw [hz, z0]; grind
theorem dgL_ok {F T : Nat → Nat} {w : Nat → Int32} {v : Nat} : ∀ (m k : Nat) (d : Int64), dgL F T w v m k d = d + Int64.ofInt (lapL F T (wZ w) m k v v) := by
  intro m
  induction m with
  | zero => intro k d; show d = d + 0; grind
  | succ m ih =>
    intro k d
    unfold dgL
    rw [ih, lapL_s, i64_ofa]
    have e : (if atN F T v k = true then (w k).toInt64 else 0) = Int64.ofInt (wZ w k * lU F T k v * lU F T k v) := by
      by_cases c : atN F T v k = true
      · rw [if_pos c, i32_64]
        have hc : F k ≠ T k ∧ (F k = v ∨ T k = v) := of_decide_eq_true c
        congr 1
        unfold lU wZ
        rcases hc.2 with e | e
        · have h2 : ¬ T k = v := fun z => hc.1 (by rw [e, z])
          rw [if_pos e, if_neg h2]; grind
        · have h2 : ¬ F k = v := fun z => hc.1 (by rw [e, z])
          rw [if_neg h2, if_pos e]; grind
      · rw [if_neg c]
        have hc : ¬ (F k ≠ T k ∧ (F k = v ∨ T k = v)) := fun z => c (decide_eq_true z)
        have : wZ w k * lU F T k v * lU F T k v = 0 := by
          by_cases e : F k = T k
          · have : lU F T k v = 0 := by unfold lU; rw [e]; grind
            rw [this]; grind
          · have h1 : ¬ F k = v := fun z => hc ⟨e, Or.inl z⟩
            have h2 : ¬ T k = v := fun z => hc ⟨e, Or.inr z⟩
            have : lU F T k v = 0 := by unfold lU; rw [if_neg h1, if_neg h2]; rfl
            rw [this]; grind
        rw [this]; rfl
    rw [e]; grind
theorem dgV_ok {F T : Nat → Nat} {w : Nat → Int32} {a v : Nat} : dgV F T w a v = Int64.ofInt (lapL F T (wZ w) a 0 v v) := by
  unfold dgV; rw [dgL_ok]; grind
theorem frL_ok {M : Nat → Nat → Int64} {v : Nat} {t : Int64} : ∀ (m j : Nat) (C : Nat → Int64) (x : Nat), frL M v t m j C x = if j ≤ x ∧ x < j + m then C x - t * M v x else C x := by
  intro m
  induction m with
  | zero => intro j C x; rw [if_neg (by omega)]; rfl
  | succ m ih =>
    intro j C x
    unfold frL
    rw [ih]
    unfold vp_updL
    by_cases c : x = j
    · subst c; rw [if_neg (by omega), if_pos rfl, if_pos (by omega)]
    · rw [if_neg c]
      by_cases d : j + 1 ≤ x ∧ x < j + 1 + m
      · rw [if_pos d, if_pos (by omega)]
      · rw [if_neg d, if_neg (by omega)]
theorem fr_fn {F T : Nat → Nat} {w : Nat → Int32} {n a v : Nat} {q : Int64} {L C : Nat → Int64} (h : ag n L C) : ag n (fnV F T w a v q L) (frV (fbM F T w Z0 a) n v q C) := by
  intro j hj
  unfold fnV frV
  rw [fnL_ok, frL_ok, if_pos (by omega), h j hj, fbM_ok]
  show _ = C j - q * (0 + _)
  grind
/-- one sweep, class and reference -/
theorem rn_sp {F T : Nat → Nat} {w : Nat → Int32} {n a s : Nat} (hdg : ∀ v, v < n → v ≠ s → 0 < dgV F T w a v) : ∀ (m v : Nat) (L G C K : Nat → Int64) (al : Int64) (go : Bool) (mv : Int32), v + m = n → ag n L C → ag n G K → (go = true ↔ ¬ mv = 0) → ag n (spI F T w a s m v L G al go).1 (rnI (fbM F T w Z0 a) n s m v C K mv).1 ∧ ag n (spI F T w a s m v L G al go).2.1 (rnI (fbM F T w Z0 a) n s m v C K mv).2.1 ∧ ((spI F T w a s m v L G al go).2.2.2 = true ↔ ¬ (rnI (fbM F T w Z0 a) n s m v C K mv).2.2 = 0) := by
  have hd : ∀ v, fbM F T w Z0 a v v = dgV F T w a v := fun v => by
    rw [fbM_ok, dgV_ok]; show (0 : Int64) + _ = _; grind
  intro m
  induction m with
  | zero => intro v L G C K al go mv _ h1 h2 h3; exact ⟨h1, h2, h3⟩
  | succ m ih =>
    intro v L G C K al go mv hv h1 h2 h3
    have hvn : v < n := by omega
    unfold spI rnI
    rw [hd, ← h1 v hvn, ← h2 v hvn]
    by_cases c : v ≠ s ∧ ¬ L v < dgV F T w a v
    · rw [if_pos c, if_neg (fun z => by
        rcases z with z | z | z
        · exact c.1 z
        · exact absurd (hdg v hvn c.1) (Int64.not_lt.mpr z)
        · exact c.2 z)]
      exact ih (v + 1) _ _ _ _ _ _ _ (by omega) (fr_fn h1) (h2.up rfl) (by simp)
    · have hc2 : v = s ∨ dgV F T w a v ≤ 0 ∨ L v < dgV F T w a v := by
        by_cases e : v = s
        · exact Or.inl e
        · right; right
          false_or_by_contra
          rename_i hx
          exact c ⟨e, hx⟩
      rw [if_neg c, if_pos hc2]
      exact ih (v + 1) _ _ _ _ _ _ _ (by omega) h1 h2 h3
theorem rnO_sp {F T : Nat → Nat} {w : Nat → Int32} {n a s : Nat} (hdg : ∀ v, v < n → v ≠ s → 0 < dgV F T w a v) : ∀ (f : Nat) (L G C K : Nat → Int64) (al : Int64) (mv : Int32) (val : (Nat → Int64) × (Nat → Int64) × Int64), ag n L C → ag n G K → ¬ mv = 0 → spO F T w n a s f L G al = some val → ∀ M, f ≤ M → ag n val.1 (rnO (fbM F T w Z0 a) n s M (C, K, mv)).1 ∧ ag n val.2.1 (rnO (fbM F T w Z0 a) n s M (C, K, mv)).2 := by
  intro f
  induction f with
  | zero => intro L G C K al mv val _ _ _ h; cases h
  | succ f ih =>
    intro L G C K al mv val h1 h2 hmv h M hM
    obtain ⟨M', rfl⟩ : ∃ M', M = M' + 1 := ⟨M - 1, by omega⟩
    obtain ⟨b1, b2, b3⟩ := rn_sp (w := w) hdg n 0 L G C K al false 0 (by omega) h1 h2 (by simp)
    unfold spO at h
    unfold rnO
    dsimp only
    rw [if_neg hmv]
    by_cases c : (spI F T w a s n 0 L G al false).2.2.2 = true
    · rw [if_pos c] at h
      have := ih _ _ (rnI (fbM F T w Z0 a) n s n 0 C K 0).1 (rnI (fbM F T w Z0 a) n s n 0 C K 0).2.1 _ (rnI (fbM F T w Z0 a) n s n 0 C K 0).2.2 _ b1 b2 (b3.mp c) h M' (by omega)
      exact this
    · rw [if_neg c] at h
      cases h
      have hz : (rnI (fbM F T w Z0 a) n s n 0 C K 0).2.2 = 0 := by
        false_or_by_contra
        rename_i hx
        exact c (b3.mpr hx)
      cases M' with
      | zero => exact ⟨b1, b2⟩
      | succ M'' =>
        unfold rnO
        rw [if_pos hz]
        exact ⟨b1, b2⟩
/-- the sum of the firings -/
theorem smL_s {K : Nat → Int64} : ∀ m v s, smL K m v s = s + smL K m v 0 := by
  intro m
  induction m with
  | zero => intro v s; unfold smL; grind
  | succ m ih => intro v s; unfold smL; rw [ih _ (s + K v), ih _ (0 + K v)]; grind
theorem smL_up {K : Nat → Int64} {x : Nat} {q : Int64} : ∀ m v, smL (vp_updL K x (K x + q)) m v 0 = smL K m v 0 + (if v ≤ x ∧ x < v + m then q else 0) := by
  intro m
  induction m with
  | zero => intro v; rw [if_neg (by omega)]; unfold smL; grind
  | succ m ih =>
    intro v
    unfold smL
    rw [smL_s m (v + 1) (0 + _), smL_s m (v + 1) (0 + K v), ih (v + 1)]
    unfold vp_updL
    by_cases c : v = x
    · subst c
      rw [if_pos rfl, if_neg (by omega), if_pos (by omega)]; grind
    · rw [if_neg c]
      by_cases d : v + 1 ≤ x ∧ x < v + 1 + m
      · rw [if_pos d, if_pos (by omega)]; grind
      · rw [if_neg d, if_neg (by omega)]; grind
theorem sp_sum {F T : Nat → Nat} {w : Nat → Int32} {n a s : Nat} : ∀ (m v : Nat) (L G : Nat → Int64) (al : Int64) (go : Bool), v + m = n → (spI F T w a s m v L G al go).2.2.1 - smL (spI F T w a s m v L G al go).2.1 n 0 0 = al - smL G n 0 0 := by
  intro m
  induction m with
  | zero => intro v L G al go _; rfl
  | succ m ih =>
    intro v L G al go hv
    unfold spI
    split
    · rw [ih (v + 1) _ _ _ _ (by omega), smL_up n 0, if_pos (by omega)]; grind
    · exact ih (v + 1) _ _ _ _ (by omega)
theorem spO_sum {F T : Nat → Nat} {w : Nat → Int32} {n a s : Nat} : ∀ (f : Nat) (L G : Nat → Int64) (al : Int64) (val : (Nat → Int64) × (Nat → Int64) × Int64), spO F T w n a s f L G al = some val → val.2.2 - smL val.2.1 n 0 0 = al - smL G n 0 0 := by
  intro f
  induction f with
  | zero => intro L G al val h; cases h
  | succ f ih =>
    intro L G al val h
    unfold spO at h
    have e := sp_sum (F := F) (T := T) (w := w) (n := n) (a := a) (s := s) n 0 L G al false (by omega)
    split at h
    · rw [ih _ _ _ _ h, e]
    · cases h; exact e
theorem smL_ag {n : Nat} {K K' : Nat → Int64} (h : ag n K K') : ∀ m v s, v + m = n → smL K m v s = smL K' m v s := by
  intro m
  induction m with
  | zero => intro v s _; rfl
  | succ m ih => intro v s hv; unfold smL; rw [h v (by omega), ih (v + 1) _ (by omega)]
