/-- degrees in a net of one part -/
theorem con_of {n a : Nat} {F T : Nat → Nat} (hft : ∀ k, k < a → F k < n ∧ T k < n) (h1 : (ftV n a F T).2.1 = 1) : ∀ h : Nat → Nat, (∀ j, j < a → h (F j) = h (T j)) → ∀ u v, u < n → v < n → h u = h v := by
  obtain ⟨a1, _, a3⟩ := ftV_ok hft
  intro h hh u v hu hv
  exact a3 h hh u v hu hv (a1.one (by omega) hu hv)
theorem lap_pos {F T : Nat → Nat} {W : Nat → Int} {v i : Nat} : ∀ m k, (∀ j, k ≤ j → j < k + m → 1 ≤ W j) → k ≤ i → i < k + m → F i ≠ T i → (F i = v ∨ T i = v) → 0 < lapL F T W m k v v := by
  intro m
  induction m with
  | zero => intro k _ h1 h2; omega
  | succ m ih =>
    intro k hw h1 h2 hne hv
    rw [lapL_s]
    have hk := hw k (by omega) (by omega)
    have nn := lap_nn (F := F) (T := T) (W := W) (v := v) m (k + 1) (fun j a b => by have := hw j (by omega) (by omega); omega)
    by_cases e : i = k
    · subst e
      have hu : lU F T i v = 1 ∨ lU F T i v = -1 := by
        unfold lU
        rcases hv with z | z
        · rw [if_pos z, if_neg (fun y => hne (by rw [z, y]))]; simp
        · rw [if_neg (fun y => hne (by rw [z, y])), if_pos z]; simp
      rcases hu with z | z <;> rw [z] <;> simp <;> omega
    · have := ih (k + 1) (fun j a b => hw j (by omega) (by omega)) (by omega) (by omega) hne hv
      rcases lU_v F T k v with z | z | z <;> rw [z] <;> simp <;> omega
theorem deg_pos {n a s : Nat} {F T : Nat → Nat} {w : Nat → Int32} (h : netOk n a F T w) (hs : s < n) (h1 : (ftV n a F T).2.1 = 1) : ∀ v, v < n → v ≠ s → 0 < lp F T w a v v := by
  intro v hv hvs
  obtain ⟨i, hi, hne, hiv⟩ : ∃ i, i < a ∧ F i ≠ T i ∧ (F i = v ∨ T i = v) := by
    false_or_by_contra
    rename_i hc
    have := con_of h.2.2.1 h1 (fun u => if u = v then 1 else 0) (fun j hj => by
      by_cases e : F j = T j
      · rw [e]
      · have n1 : ¬ F j = v := fun z => hc ⟨j, hj, e, Or.inl z⟩
        have n2 : ¬ T j = v := fun z => hc ⟨j, hj, e, Or.inr z⟩
        rw [if_neg n1, if_neg n2]) v s hv hs
    rw [if_pos rfl, if_neg (fun z => hvs z.symm)] at this
    omega
  exact lap_pos a 0 (fun j _ hj => (h.2.2.2 j (by omega)).1) (by omega) (by omega) hne hiv
theorem deg_64 {n a s : Nat} {F T : Nat → Nat} {w : Nat → Int32} (h : netOk n a F T w) (hs : s < n) (h1 : (ftV n a F T).2.1 = 1) : ∀ v, v < n → v ≠ s → 0 < dgV F T w a v := by
  intro v hv hvs
  rw [Int64.lt_iff_toInt_lt, dg_int h]
  exact deg_pos h hs h1 v hv hvs
theorem spO_pI {n a s : Nat} {lo B : Int} {F T : Nat → Nat} {w : Nat → Int32} (h : netOk n a F T w) (hs : s < n) (hdg : ∀ v, v < n → v ≠ s → 0 < lp F T w a v v) : ∀ (f : Nat) (L G : Nat → Int64) (al : Int64) (val : (Nat → Int64) × (Nat → Int64) × Int64), pI n s lo B L → spO F T w n a s f L G al = some val → pI n s lo B val.1 := by
  intro f
  induction f with
  | zero => intro L G al val _ hv; cases hv
  | succ f ih =>
    intro L G al val hp hv
    have p1 := (sweep_ok h hs hdg n 0 L G al false (by omega) hp).1
    unfold spO at hv
    split at hv
    · exact ih _ _ _ _ p1 hv
    · cases hv; exact p1
/-- chips: nothing below nought, at most B in all -/
def chO (n : Nat) (B : Int) (C : Nat → Int64) : Prop := (∀ j, j < n → 0 ≤ (C j).toInt) ∧ mSum n (fun j => (C j).toInt) ≤ B
theorem ag.sy {n : Nat} {L L' : Nat → Int64} (h : ag n L L') : ag n L' L := fun j hj => (h j hj).symm
theorem ag.tr {n : Nat} {L L' L'' : Nat → Int64} (h : ag n L L') (h2 : ag n L' L'') : ag n L L'' := fun j hj => (h j hj).trans (h2 j hj)
theorem bpL_ag {n : Nat} {C L : Nat → Int64} : ag n (bpL n C L) C := fun j hj => if_pos hj
theorem chO.ag {n : Nat} {B : Int} {C C' : Nat → Int64} (h : chO n B C) (e : ag n C C') : chO n B C' := by
  refine ⟨fun j hj => by rw [← e j hj]; exact h.1 j hj, ?_⟩
  have : mSum n (fun j => (C' j).toInt) = mSum n (fun j => (C j).toInt) := mSum_congr _ (fun j hj => by rw [e j hj])
  rw [this]; exact h.2
theorem oS_le {n s : Nat} {L : Nat → Int64} (hs : s < n) : oS n s L = mSum n (fun j => (L j).toInt) - (L s).toInt := by
  have e : mSum n (fun j => (L j).toInt) = mSum n (fun j => (if j = s then 0 else (L j).toInt) + (if j = s then (L s).toInt else 0)) := by
    refine mSum_congr _ (fun j _ => ?_)
    by_cases c : j = s
    · rw [if_pos c, if_pos c, c]; omega
    · rw [if_neg c, if_neg c]; omega
  rw [e, mSum_add, mSum_one n s hs (fun i _ hne => if_neg hne), if_pos rfl]
  show mSum n (fun j => if j = s then 0 else (L j).toInt) = _
  omega
/-- settle: the reference ends, and both answer alike -/
theorem settle_eq {n a s : Nat} {B : Int} {F T : Nat → Nat} {w : Nat → Int32} {C C' K : Nat → Int64} (h : netOk n a F T w) (hs : s < n) (h1 : (ftV n a F T).2.1 = 1) (hc : chO n B C) (hB : B ≤ 103000) (hag : ag n C C') : ∃ val, spO F T w n a s 700000 (bpL n C' zz) (bpL n (fun _ => 0) zz) 0 = some val ∧ ag n val.1 (rnV (fbM F T w Z0 a) n s C K).1 ∧ ag n val.2.1 (rnV (fbM F T w Z0 a) n s C K).2 ∧ val.2.2 = smL (rnV (fbM F T w Z0 a) n s C K).2 n 0 0 ∧ chO n B val.1 := by
  have hdg := deg_pos h hs h1
  have a1 : ag n (bpL n C' zz) C := bpL_ag.tr hag.sy
  have c1 := hc.ag a1.sy
  have p0 : pI n s 0 B (bpL n C' zz) := ⟨fun j hj _ => c1.1 j hj, c1.1 s hs, c1.2, by omega, by omega⟩
  have o1 : oS n s (bpL n C' zz) ≤ 103679 := by
    rw [oS_le hs]; have := c1.2; have := c1.1 s hs; omega
  obtain ⟨val, hv⟩ := stop_ok h hs hdg (con_of h.2.2.1 h1) (bpL n C' zz) (bpL n (fun _ => 0) zz) 0 p0 o1
  have a2 : ag n (bpL n (fun _ => 0) zz) (zrA 10 K) := fun j hj => by
    have hn := h.1
    unfold bpL zrA
    rw [if_pos hj, if_pos (by omega)]
  obtain ⟨r1, r2⟩ := rnO_sp (deg_64 h hs h1) 700000 _ _ C (zrA 10 K) 0 1 val a1 a2 (by decide) hv 1000000 (by decide)
  have hsum := spO_sum 700000 _ _ _ _ hv
  have z : smL (bpL n (fun _ => 0) zz) n 0 0 = 0 := by
    have : ∀ m v, v + m ≤ n → smL (bpL n (fun _ => 0) zz) m v 0 = 0 := by
      intro m
      induction m with
      | zero => intro v _; rfl
      | succ m ih =>
        intro v hv
        unfold smL
        have e : bpL n (fun _ => 0) zz v = 0 := if_pos (by omega)
        rw [e]
        exact ih (v + 1) (by omega)
    exact this n 0 (by omega)
  have p1 := spO_pI h hs hdg 700000 _ _ _ _ p0 hv
  refine ⟨val, hv, r1, r2, ?_, ⟨fun j hj => ?_, p1.2.2.1⟩⟩
  · have e2 : smL val.2.1 n 0 0 = smL (rnV (fbM F T w Z0 a) n s C K).2 n 0 0 := smL_ag r2 n 0 0 (by omega)
    rw [← e2]
    rw [z] at hsum
    grind
  · by_cases c : j = s
    · rw [c]; exact p1.2.1
    · exact p1.1 j hj c
/-- the sweeps again, whatever the sink's count says -/
def agS (n s : Nat) (G K : Nat → Int64) : Prop := ∀ j, j < n → j ≠ s → G j = K j
theorem rn_spS {F T : Nat → Nat} {w : Nat → Int32} {n a s : Nat} (hdg : ∀ v, v < n → v ≠ s → 0 < dgV F T w a v) : ∀ (m v : Nat) (L G C K : Nat → Int64) (al : Int64) (go : Bool) (mv : Int32), v + m = n → ag n L C → agS n s G K → (go = true ↔ ¬ mv = 0) → ag n (spI F T w a s m v L G al go).1 (rnI (fbM F T w Z0 a) n s m v C K mv).1 ∧ agS n s (spI F T w a s m v L G al go).2.1 (rnI (fbM F T w Z0 a) n s m v C K mv).2.1 ∧ ((spI F T w a s m v L G al go).2.2.2 = true ↔ ¬ (rnI (fbM F T w Z0 a) n s m v C K mv).2.2 = 0) := by
  have hd : ∀ v, fbM F T w Z0 a v v = dgV F T w a v := fun v => by
    rw [fbM_ok, dgV_ok]; show (0 : Int64) + _ = _; grind
  intro m
  induction m with
  | zero => intro v L G C K al go mv _ h1 h2 h3; exact ⟨h1, h2, h3⟩
  | succ m ih =>
    intro v L G C K al go mv hv h1 h2 h3
    have hvn : v < n := by omega
    unfold spI rnI
    rw [hd, ← h1 v hvn]
    by_cases c : v ≠ s ∧ ¬ L v < dgV F T w a v
    · rw [if_pos c, if_neg (fun z => by
        rcases z with z | z | z
        · exact c.1 z
        · exact absurd (hdg v hvn c.1) (Int64.not_lt.mpr z)
        · exact c.2 z)]
      refine ih (v + 1) _ _ _ _ _ _ _ (by omega) (fr_fn h1) (fun j hj hjs => ?_) (by simp)
      unfold vp_updL
      by_cases e : j = v
      · rw [if_pos e, if_pos e, h2 v hvn c.1]
      · rw [if_neg e, if_neg e]; exact h2 j hj hjs
    · have hc2 : v = s ∨ dgV F T w a v ≤ 0 ∨ L v < dgV F T w a v := by
        by_cases e : v = s
        · exact Or.inl e
        · right; right
          false_or_by_contra
          rename_i hx
          exact c ⟨e, hx⟩
      rw [if_neg c, if_pos hc2]
      exact ih (v + 1) _ _ _ _ _ _ _ (by omega) h1 h2 h3
theorem rnO_spS {F T : Nat → Nat} {w : Nat → Int32} {n a s : Nat} (hdg : ∀ v, v < n → v ≠ s → 0 < dgV F T w a v) : ∀ (f : Nat) (L G C K : Nat → Int64) (al : Int64) (mv : Int32) (val : (Nat → Int64) × (Nat → Int64) × Int64), ag n L C → agS n s G K → ¬ mv = 0 → spO F T w n a s f L G al = some val → ∀ M, f ≤ M → agS n s val.2.1 (rnO (fbM F T w Z0 a) n s M (C, K, mv)).2 := by
  intro f
  induction f with
  | zero => intro L G C K al mv val _ _ _ h; cases h
  | succ f ih =>
    intro L G C K al mv val h1 h2 hmv h M hM
    obtain ⟨M', rfl⟩ : ∃ M', M = M' + 1 := ⟨M - 1, by omega⟩
    obtain ⟨b1, b2, b3⟩ := rn_spS (w := w) hdg n 0 L G C K al false 0 (by omega) h1 h2 (by simp)
    unfold spO at h
    unfold rnO
    dsimp only
    rw [if_neg hmv]
    by_cases c : (spI F T w a s n 0 L G al false).2.2.2 = true
    · rw [if_pos c] at h
      exact ih _ _ (rnI (fbM F T w Z0 a) n s n 0 C K 0).1 (rnI (fbM F T w Z0 a) n s n 0 C K 0).2.1 _ (rnI (fbM F T w Z0 a) n s n 0 C K 0).2.2 _ b1 b2 (b3.mp c) h M' (by omega)
    · rw [if_neg c] at h
      cases h
      have hz : (rnI (fbM F T w Z0 a) n s n 0 C K 0).2.2 = 0 := by
        false_or_by_contra
        rename_i hx
        exact c (b3.mpr hx)
      cases M' with
      | zero => exact b2
      | succ M'' =>
        unfold rnO
        rw [if_pos hz]
        exact b2
theorem ckL_ok {K : Nat → Int64} {s n : Nat} : ∀ m v, v + m = n → (ckL K s m v = 1 ↔ ∀ u, v ≤ u → u < n → u = s ∨ K u = 1) ∧ (ckL K s m v = 1 ∨ ckL K s m v = 0) := by
  intro m
  induction m with
  | zero => intro v hv; exact ⟨⟨fun _ u h1 h2 => by omega, fun _ => rfl⟩, Or.inl rfl⟩
  | succ m ih =>
    intro v hv
    obtain ⟨i1, i2⟩ := ih (v + 1) (by omega)
    unfold ckL
    by_cases c : v = s
    · rw [if_pos c]
      refine ⟨⟨fun z u h1 h2 => ?_, fun z => i1.mpr (fun u h1 h2 => z u (by omega) h2)⟩, i2⟩
      by_cases e : u = v
      · exact Or.inl (by omega)
      · exact i1.mp z u (by omega) h2
    · rw [if_neg c]
      by_cases d : K v = 1
      · rw [if_pos d]
        refine ⟨⟨fun z u h1 h2 => ?_, fun z => i1.mpr (fun u h1 h2 => z u (by omega) h2)⟩, i2⟩
        by_cases e : u = v
        · right; rw [e]; exact d
        · exact i1.mp z u (by omega) h2
      · rw [if_neg d]
        refine ⟨⟨fun z => absurd z (by decide), fun z => ?_⟩, Or.inr rfl⟩
        rcases z v (Nat.le_refl _) (by omega) with y | y
        · exact absurd y c
        · exact absurd y d
/-- the class's check: some node holds too much -/
theorem cbX_no {M : Nat → Nat → Int64} {n s : Nat} {C Kt : Nat → Int64} : ∀ (m v : Nat) (Th : Nat → Int64), v + m = n → (∃ u, v ≤ u ∧ u < n ∧ ¬ u = s ∧ M u u ≤ C u) → cbX M n s C Kt m v Th = 0 := by
  intro m
  induction m with
  | zero => intro v Th hv ⟨u, h1, h2, _⟩; omega
  | succ m ih =>
    intro v Th hv ⟨u, h1, h2, h3, h4⟩
    unfold cbX
    by_cases c : ¬ v = s ∧ M v v ≤ C v
    · rw [if_pos c]
    · rw [if_neg c]
      have : u ≠ v := fun e => c (by rw [← e]; exact ⟨h3, h4⟩)
      exact ih (v + 1) _ (by omega) ⟨u, by omega, h2, h3, h4⟩
theorem cbX_yes {M : Nat → Nat → Int64} {n s : Nat} {C Kt : Nat → Int64} : ∀ (m v : Nat) (Th : Nat → Int64), v + m = n → (∀ u, v ≤ u → u < n → ¬ (¬ u = s ∧ M u u ≤ C u)) → (∀ u, u < v → Th u = C u) → ∃ Th', ag n Th' C ∧ cbX M n s C Kt m v Th = ckL (rnV M n s (frV M n s 1 Th') Kt).2 s n 0 := by
  intro m
  induction m with
  | zero => intro v Th hv _ h; exact ⟨Th, fun j hj => h j (by omega), rfl⟩
  | succ m ih =>
    intro v Th hv h1 h2
    unfold cbX
    rw [if_neg (h1 v (Nat.le_refl _) (by omega))]
    refine ih (v + 1) _ (by omega) (fun u a b => h1 u (by omega) b) (fun u hu => ?_)
    unfold vp_updL
    by_cases e : u = v
    · rw [if_pos e, e]
    · rw [if_neg e]; exact h2 u (by omega)
/-- recurrent: both answer alike -/
theorem recur_no {n a s : Nat} {F T : Nat → Nat} {w : Nat → Int32} {C C' Kt Th : Nat → Int64} (hag : ag n C C') (hb : ¬ ∀ v, v < n → v = s ∨ bpL n C' zz v < dgV F T w a v) : cbX (fbM F T w Z0 a) n s C Kt n 0 Th = 0 := by
  have hd : ∀ v, fbM F T w Z0 a v v = dgV F T w a v := fun v => by
    rw [fbM_ok, dgV_ok]; show (0 : Int64) + _ = _; grind
  refine cbX_no n 0 Th (by omega) ?_
  false_or_by_contra
  rename_i hc
  apply hb
  intro v hv
  by_cases e : v = s
  · exact Or.inl e
  · right
    false_or_by_contra
    rename_i hx
    have e1 : bpL n C' zz v = C v := (bpL_ag v hv).trans (hag v hv).symm
    rw [e1] at hx
    exact hc ⟨v, by omega, hv, e, by rw [hd]; exact Int64.not_lt.mp hx⟩
theorem recur_yes {n a s : Nat} {B : Int} {F T : Nat → Nat} {w : Nat → Int32} {C C' Kt Th : Nat → Int64} (h : netOk n a F T w) (hs : s < n) (h1 : (ftV n a F T).2.1 = 1) (hc : chO n B C) (hB : B ≤ 103000) (hag : ag n C C') (hb : ∀ v, v < n → v = s ∨ bpL n C' zz v < dgV F T w a v) : ∃ val, spO F T w n a s 700000 (fnV F T w a s 1 (bpL n C' zz)) (vp_updL (bpL n (fun _ => 0) zz) s (bpL n (fun _ => 0) zz s + 1)) 0 = some val ∧ cbX (fbM F T w Z0 a) n s C Kt n 0 Th = if (∀ v, v < n → v = s ∨ val.2.1 v = 1) then 1 else 0 := by
  have hd : ∀ v, fbM F T w Z0 a v v = dgV F T w a v := fun v => by
    rw [fbM_ok, dgV_ok]; show (0 : Int64) + _ = _; grind
  have hdg := deg_pos h hs h1
  have a1 : ag n (bpL n C' zz) C := bpL_ag.tr hag.sy
  have c1 := hc.ag a1.sy
  have hn := h.1
  -- the sink fires once
  have q1 : ∀ j, j < n → (fnV F T w a s 1 (bpL n C' zz) j).toInt = (bpL n C' zz j).toInt - lp F T w a s j := by
    intro j hj
    have b := h.lpb s j
    have p0 : pI n s 0 B (bpL n C' zz) := ⟨fun j hj _ => c1.1 j hj, c1.1 s hs, c1.2, by omega, by omega⟩
    have bj := p0.bd hs hj
    have e : fnV F T w a s 1 (bpL n C' zz) j = Int64.ofInt ((bpL n C' zz j).toInt - lp F T w a s j) := by
      unfold fnV
      rw [fnL_ok, i64_ofs, i64_of]
      show _ - 1 * Int64.ofInt (lapL F T (wZ w) a 0 s j) = _
      unfold lp
      grind
    rw [e, i64_oft (by omega) (by omega)]
  have sm : mSum n (fun j => (fnV F T w a s 1 (bpL n C' zz) j).toInt) = mSum n (fun j => (bpL n C' zz j).toInt) := by
    have e : mSum n (fun j => (fnV F T w a s 1 (bpL n C' zz) j).toInt) = mSum n (fun j => (bpL n C' zz j).toInt + (-1) * lp F T w a s j) := mSum_congr _ (fun j hj => by rw [q1 j hj]; grind)
    rw [e, mSum_add, mSum_mul, h.lps hs]; omega
  have bs := h.lpb s s
  have p1 : pI n s (-1000) B (fnV F T w a s 1 (bpL n C' zz)) := by
    refine ⟨fun j hj hjs => ?_, ?_, by rw [sm]; exact c1.2, by decide, by omega⟩
    · rw [q1 j hj]; have := c1.1 j hj; have := h.lpn (v := s) (j := j) hjs; omega
    · rw [q1 s hs]; have := c1.1 s hs; omega
  have o1 : oS n s (fnV F T w a s 1 (bpL n C' zz)) ≤ 103679 := by
    rw [oS_le hs, sm, q1 s hs]; have := c1.2; have := c1.1 s hs; omega
  obtain ⟨val, hv⟩ := stop_ok h hs hdg (con_of h.2.2.1 h1) (fnV F T w a s 1 (bpL n C' zz)) (vp_updL (bpL n (fun _ => 0) zz) s (bpL n (fun _ => 0) zz s + 1)) 0 p1 o1
  refine ⟨val, hv, ?_⟩
  obtain ⟨Th', e1, e2⟩ := cbX_yes (M := fbM F T w Z0 a) (n := n) (s := s) (C := C) (Kt := Kt) n 0 Th (by omega) (fun u _ hu z => by
    rcases hb u hu with y | y
    · exact z.1 y
    · have ee : bpL n C' zz u = C u := (bpL_ag u hu).trans (hag u hu).symm
      rw [ee] at y
      have := z.2
      rw [hd] at this
      exact absurd y (Int64.not_lt.mpr this)) (fun u hu => by omega)
  rw [e2]
  have a2 : agS n s (vp_updL (bpL n (fun _ => 0) zz) s (bpL n (fun _ => 0) zz s + 1)) (zrA 10 Kt) := fun j hj hjs => by
    unfold vp_updL bpL zrA
    rw [if_neg hjs, if_pos hj, if_pos (by omega)]
  have r := rnO_spS (deg_64 h hs h1) 700000 _ _ (frV (fbM F T w Z0 a) n s 1 Th') (zrA 10 Kt) 0 1 val (fr_fn (a1.tr e1.sy)) a2 (by decide) hv 1000000 (by decide)
  obtain ⟨k1, k2⟩ := ckL_ok (K := (rnO (fbM F T w Z0 a) n s 1000000 (frV (fbM F T w Z0 a) n s 1 Th', zrA 10 Kt, 1)).2) (s := s) (n := n) n 0 (by omega)
  have heq : (∀ u, 0 ≤ u → u < n → u = s ∨ (rnO (fbM F T w Z0 a) n s 1000000 (frV (fbM F T w Z0 a) n s 1 Th', zrA 10 Kt, 1)).2 u = 1) ↔ ∀ v, v < n → v = s ∨ val.2.1 v = 1 := by
    constructor
    · intro z v hvn
      by_cases c : v = s
      · exact Or.inl c
      · right; rw [r v hvn c]
        rcases z v (by omega) hvn with y | y
        · exact absurd y c
        · exact y
    · intro z v _ hvn
      by_cases c : v = s
      · exact Or.inl c
      · right
        have e := r v hvn c
        rcases z v hvn with y | y
        · exact absurd y c
        · rw [e] at y; exact y
  show ckL (rnO (fbM F T w Z0 a) n s 1000000 (frV (fbM F T w Z0 a) n s 1 Th', zrA 10 Kt, 1)).2 s n 0 = _
  by_cases q : ∀ v, v < n → v = s ∨ val.2.1 v = 1
  · rw [if_pos q]; exact k1.mpr (heq.mpr q)
  · rw [if_neg q]
    rcases k2 with z | z
    · exact absurd (heq.mp (k1.mp z)) q
    · exact z
