theorem nmL_id {n : Nat} {bu ot : Option Nat} : ∀ (m x : Nat) (I : Nat → Option Nat), x + m = n → (∀ v, v < n → I v = if v < x ∧ decide (some v ≠ bu ∧ some v ≠ ot) = true then some (rkN (fun v => decide (some v ≠ bu ∧ some v ≠ ot)) v) else none) → (nmL n (fun v => v) bu ot m x (rkN (fun v => decide (some v ≠ bu ∧ some v ≠ ot)) x) I).1 = rkN (fun v => decide (some v ≠ bu ∧ some v ≠ ot)) n ∧ ∀ v, v < n → (nmL n (fun v => v) bu ot m x (rkN (fun v => decide (some v ≠ bu ∧ some v ≠ ot)) x) I).2 v = if decide (some v ≠ bu ∧ some v ≠ ot) = true then some (rkN (fun v => decide (some v ≠ bu ∧ some v ≠ ot)) v) else none := by
  intro m
  induction m with
  | zero =>
    intro x I hx h
    obtain rfl : x = n := by omega
    refine ⟨rfl, fun v hv => ?_⟩
    show I v = _
    rw [h v hv]
    by_cases c : decide (some v ≠ bu ∧ some v ≠ ot) = true
    · rw [if_pos ⟨hv, c⟩, if_pos c]
    · rw [if_neg (fun q => c q.2), if_neg c]
  | succ m ih =>
    intro x I hx h
    unfold nmL
    by_cases c : some x ≠ bu ∧ some x ≠ ot
    · rw [if_pos ⟨fun y hy => by omega, c⟩]
      have e : rkN (fun v => decide (some v ≠ bu ∧ some v ≠ ot)) x + 1 = rkN (fun v => decide (some v ≠ bu ∧ some v ≠ ot)) (x + 1) := by rw [rkN_s, if_pos (by simpa using c)]
      rw [e]
      refine ih (x + 1) _ (by omega) (fun v hv => ?_)
      by_cases q : v = x
      · subst q
        rw [if_pos ⟨hv, rfl⟩, if_pos ⟨by omega, by simpa using c⟩]
      · rw [if_neg (fun z => q z.2), h v hv]
        by_cases d : decide (some v ≠ bu ∧ some v ≠ ot) = true
        · by_cases g : v < x
          · rw [if_pos ⟨g, d⟩, if_pos ⟨by omega, d⟩]
          · rw [if_neg (fun z => g z.1), if_neg (fun z => by have := z.1; omega)]
        · rw [if_neg (fun z => d z.2), if_neg (fun z => d z.2)]
    · rw [if_neg (fun z => c z.2)]
      have e : rkN (fun v => decide (some v ≠ bu ∧ some v ≠ ot)) x = rkN (fun v => decide (some v ≠ bu ∧ some v ≠ ot)) (x + 1) := by rw [rkN_s, if_neg (by simpa using c)]; rfl
      rw [e]
      refine ih (x + 1) _ (by omega) (fun v hv => ?_)
      rw [h v hv]
      by_cases d : decide (some v ≠ bu ∧ some v ≠ ot) = true
      · by_cases g : v < x
        · rw [if_pos ⟨g, d⟩, if_pos ⟨by omega, d⟩]
        · rw [if_neg (fun z => g z.1), if_neg (fun z => by
            have h1 := z.1
            have : v = x := by omega
            subst this
            exact c (by simpa using d))]
      · rw [if_neg (fun z => d z.2), if_neg (fun z => d z.2)]
def alB (bu ot : Option Nat) : Nat → Bool := fun v => decide (some v ≠ bu ∧ some v ≠ ot)
theorem nmV_id (n : Nat) (bu ot : Option Nat) : (nmV n (fun v => v) bu ot).1 = rkN (alB bu ot) n ∧ ∀ v, v < n → (nmV n (fun v => v) bu ot).2 v = if alB bu ot v = true then some (rkN (alB bu ot) v) else none :=
  nmL_id n 0 (fun _ => none) (by omega) (fun v hv => by rw [if_neg (fun z => by omega)])
theorem lapL_b (F T : Nat → Nat) (w : Nat → Int) (i j : Nat) : ∀ m s, lapL F T w (m + 1) s i j = lapL F T w m s i j + w (s + m) * lU F T (s + m) i * lU F T (s + m) j := by
  intro m
  induction m with
  | zero => intro s; rfl
  | succ m ih => intro s; rw [lapL_s, ih (s + 1), lapL_s, show s + 1 + m = s + (m + 1) by omega]; grind
theorem fbM_ok {F T : Nat → Nat} {w : Nat → Int32} {M : Nat → Nat → Int64} (i j : Nat) : ∀ k, fbM F T w M k i j = M i j + Int64.ofInt (lapL F T (wZ w) k 0 i j) := by
  intro k
  induction k with
  | zero => show M i j = M i j + 0; grind
  | succ k ih =>
    unfold fbM
    rw [i32_64, abw_ok, ih, lapL_b, i64_ofa, Nat.zero_add]
    unfold lU wZ
    grind
theorem a1w_ok {M : Nat → Nat → Int64} {x y : Nat} {w : Int} (i j : Nat) : a1w M x y (Int64.ofInt w) i j = M i j + Int64.ofInt (w * (if x = i then 1 else 0) * ((if x = j then 1 else 0) - (if y = j then 1 else 0))) := by
  have z0 : Int64.ofInt 0 = 0 := rfl
  have z1 : Int64.ofInt 1 = 1 := rfl
  rw [i64_ofm, i64_ofm, i64_ofs]
  have b : ∀ p q : Nat, Int64.ofInt (if p = q then 1 else 0) = if q = p then 1 else 0 := by
    intro p q
    by_cases c : p = q
    · rw [if_pos c, if_pos c.symm, z1]
    · rw [if_neg c, if_neg (fun e => c e.symm), z0]
  rw [b, b, b]
  generalize Int64.ofInt w = u
  unfold a1w mset
  by_cases e : x = y
  · subst e
    by_cases c1 : i = x <;> by_cases c2 : j = x <;> simp [c1, c2] <;> grind
  · have e' : ¬ y = x := fun q => e q.symm
    by_cases c1 : i = x <;> by_cases c2 : j = x <;> by_cases c4 : j = y <;> simp [c1, c2, c4, e, e'] <;> grind
theorem lapD_b (A B C : Nat → Nat) (w : Nat → Int) (i j : Nat) : ∀ m s, lapD A B C w (m + 1) s i j = lapD A B C w m s i j + w (s + m) * (if A (s + m) = i then 1 else 0) * ((if B (s + m) = j then 1 else 0) - (if C (s + m) = j then 1 else 0)) := by
  intro m
  induction m with
  | zero => intro s; rfl
  | succ m ih => intro s; rw [lapD_s, ih (s + 1), lapD_s, show s + 1 + m = s + (m + 1) by omega]; grind
theorem foM_ok {F T : Nat → Nat} {w : Nat → Int32} {M : Nat → Nat → Int64} (i j : Nat) : ∀ k, foM F T w M k i j = M i j + Int64.ofInt (lapD F F T (wZ w) k 0 i j) := by
  intro k
  induction k with
  | zero => show M i j = M i j + 0; grind
  | succ k ih =>
    unfold foM
    rw [i32_64, a1w_ok, ih, lapD_b, i64_ofa, Nat.zero_add]
    unfold wZ
    grind
/-- the reference's rows one way -/
def roL (F T : Nat → Nat) (w : Nat → Int32) (I : Nat → Option Nat) : Nat → Nat → (Nat → Nat → Int64) → Nat → Nat → Int64
  | 0, _, M => M
  | m + 1, k, M => roL F T w I m (k + 1) (if F k ≠ T k then adO (I (F k)) (I (T k)) (-(w k)).toInt64 (adO (I (F k)) (I (F k)) (w k).toInt64 M) else M)
def ixO : Option Nat → Nat
  | none => 0
  | some i => i + 1
theorem ixO_s (o : Option Nat) (i : Nat) : (o = some i) ↔ (ixO o = i + 1) := by cases o <;> simp [ixO]
theorem roL_ok {a : Nat} {F T : Nat → Nat} {w : Nat → Int32} {I : Nat → Option Nat} (hw : ∀ k, k < a → 0 ≤ (w k).toInt) : ∀ (m k : Nat) (M : Nat → Nat → Int64) (i j : Nat), k + m = a → roL F T w I m k M i j = M i j + Int64.ofInt (lapD (fun k => ixO (I (F k))) (fun k => ixO (I (F k))) (fun k => ixO (I (T k))) (wZ w) m k (i + 1) (j + 1)) := by
  intro m
  induction m with
  | zero => intro k M i j _; show M i j = M i j + 0; grind
  | succ m ih =>
    intro k M i j hk
    unfold roL
    rw [ih (k + 1) _ i j (by omega), lapD_s, i64_ofa]
    by_cases c : F k ≠ T k
    · rw [if_pos c, adO_ok, adO_ok, i32_64, i32_64, i32_neg (hw k (by omega)), i64_ofn, i64_ofm, i64_ofm, i64_ofs]
      have b : ∀ p : Prop, [Decidable p] → Int64.ofInt (if p then 1 else 0) = if p then 1 else 0 := by
        intro p _
        split <;> rfl
      simp only [b, ← ixO_s]
      have : Int64.ofInt (wZ w k) = Int64.ofInt (w k).toInt := rfl
      rw [this]
      generalize Int64.ofInt (w k).toInt = u
      by_cases c1 : I (F k) = some i <;> by_cases c2 : I (F k) = some j <;> by_cases c4 : I (T k) = some j <;> simp only [c1, c2, c4, if_true, if_false] <;> grind
    · rw [if_neg c]
      have : F k = T k := by
        by_cases q : F k = T k
        · exact q
        · exact absurd q c
      rw [this]
      have : wZ w k * (if ixO (I (T k)) = i + 1 then 1 else 0) * ((if ixO (I (T k)) = j + 1 then 1 else 0) - (if ixO (I (T k)) = j + 1 then 1 else 0)) = 0 := by grind
      rw [this]
      have z0 : Int64.ofInt 0 = 0 := rfl
      rw [z0]; grind
theorem lapD_le {A B C : Nat → Nat} {W : Nat → Int} {a : Nat} (hW : ∀ k, k < a → 0 ≤ W k ∧ W k ≤ 9) : ∀ (m k i j : Nat), k + m = a → - (9 * (m : Int)) ≤ lapD A B C W m k i j ∧ lapD A B C W m k i j ≤ 9 * m := by
  intro m
  induction m with
  | zero => intro k i j _; unfold lapD; omega
  | succ m ih =>
    intro k i j hk
    have h := ih (k + 1) i j (by omega)
    have w := hW k (by omega)
    rw [lapD_s]
    split <;> split <;> split <;> simp <;> omega
theorem netOk.wz {n a : Nat} {F T : Nat → Nat} {w : Nat → Int32} (h : netOk n a F T w) : ∀ k, k < a → 0 ≤ wZ w k ∧ wZ w k ≤ 9 := h.w0
theorem ixO_al {n : Nat} {al : Nat → Bool} {I : Nat → Option Nat} (hI : ∀ v, v < n → I v = if al v = true then some (rkN al v) else none) {v p : Nat} (hv : v < n) (hp : p < rkN al n) : (ixO (I v) = p + 1) ↔ (v = enN al n p) := by
  obtain ⟨b1, b2, b3⟩ := enN_ok n p hp
  rw [← ixO_s, hI v hv]
  by_cases c : al v = true
  · rw [if_pos c]
    constructor
    · intro h
      exact rkN_inj c b2 (by rw [b3]; exact Option.some.inj h)
    · intro h; subst h; rw [b3]
  · rw [if_neg c]
    constructor
    · intro h; exact absurd h (by simp)
    · intro h; subst h; exact absurd b2 c
theorem lapD_al {n a : Nat} {al : Nat → Bool} {I : Nat → Option Nat} {F T : Nat → Nat} {W : Nat → Int} (hft : ∀ k, k < a → F k < n ∧ T k < n) (hI : ∀ v, v < n → I v = if al v = true then some (rkN al v) else none) {p q : Nat} (hp : p < rkN al n) (hq : q < rkN al n) : ∀ (m k : Nat), k + m = a → lapD (fun k => ixO (I (F k))) (fun k => ixO (I (F k))) (fun k => ixO (I (T k))) W m k (p + 1) (q + 1) = lapD F F T W m k (enN al n p) (enN al n q) := by
  intro m
  induction m with
  | zero => intro k _; rfl
  | succ m ih =>
    intro k hk
    have h := hft k (by omega)
    rw [lapD_s, lapD_s, ih (k + 1) (by omega)]
    simp only [ixO_al hI h.1 hp, ixO_al hI h.1 hq, ixO_al hI h.2 hq]
theorem lapI_al {n a : Nat} {al : Nat → Bool} {I : Nat → Option Nat} {F T : Nat → Nat} {W : Nat → Int} (hft : ∀ k, k < a → F k < n ∧ T k < n) (hI : ∀ v, v < n → I v = if al v = true then some (rkN al v) else none) {p q : Nat} (hp : p < rkN al n) (hq : q < rkN al n) : ∀ (m k : Nat), k + m = a → lapI F T W I m k p q = lapL F T W m k (enN al n p) (enN al n q) := by
  intro m
  induction m with
  | zero => intro k _; rfl
  | succ m ih =>
    intro k hk
    have h := hft k (by omega)
    unfold lapI
    rw [lapL_s, ih (k + 1) (by omega)]
    unfold lV lU
    simp only [ixO_s, ixO_al hI h.1 hp, ixO_al hI h.1 hq, ixO_al hI h.2 hq, ixO_al hI h.2 hp]
theorem al_lt {n v : Nat} {al : Nat → Bool} {I : Nat → Option Nat} (hI : ∀ v, v < n → I v = if al v = true then some (rkN al v) else none) (hv : v < n) : ixO (I v) < rkN al n + 1 := by
  rw [hI v hv]
  by_cases c : al v = true
  · rw [if_pos c]
    have := rkN_lt hv c
    show rkN al v + 1 < _
    omega
  · rw [if_neg c]; show 0 < _; omega
/-- one way: the reference's determinant = the class's -/
theorem ro_dt {n a : Nat} {al : Nat → Bool} {I : Nat → Option Nat} {F T : Nat → Nat} {w : Nat → Int32} (h : netOk n a F T w) (hs : rkN al n ≤ 9) (hI : ∀ v, v < n → I v = if al v = true then some (rkN al v) else none) : dmV (rkN al n) (roL F T w I a 0 Z0) = dtN n (strS al (foM F T w Z0 a)) := by
  have hb : ∀ j, 0 ≤ j → j < 0 + a → ixO (I (F j)) < rkN al n + 1 ∧ ixO (I (F j)) < rkN al n + 1 ∧ ixO (I (T j)) < rkN al n + 1 ∧ (ixO (I (F j)) = 0 ∨ ixO (I (F j)) = ixO (I (F j))) := fun j _ hj => ⟨al_lt hI (h.2.2.1 j (by omega)).1, al_lt hI (h.2.2.1 j (by omega)).1, al_lt hI (h.2.2.1 j (by omega)).2, Or.inr rfl⟩
  have td := lapD_td (w := wZ w) a 0 (rkN al n + 1) (fun k => ixO (I (F k))) (fun k => ixO (I (F k))) (fun k => ixO (I (T k))) (by omega) hb
  have tp := tdN_pos (w := wZ w) a 0 (rkN al n + 1) (fun k => ixO (I (F k))) (fun k => ixO (I (F k))) (fun k => ixO (I (T k))) (fun j _ hj => (h.wz j (by omega)).1)
  have tl := tdN_lt (w := wZ w) (m := a) (k := 0) (c := rkN al n + 1) (A := fun k => ixO (I (F k))) (B := fun k => ixO (I (F k))) (C := fun k => ixO (I (T k))) h.2.1 (by omega) (by omega) (fun j _ hj => h.wz j (by omega)) (fun j h1 h2 => ⟨(hb j h1 h2).1, (hb j h1 h2).2.2.1⟩)
  rw [← td] at tp tl
  have en : ∀ i j, (roL F T w I a 0 Z0 i j).toInt = mDel0 (lapD (fun k => ixO (I (F k))) (fun k => ixO (I (F k))) (fun k => ixO (I (T k))) (wZ w) a 0) i j := by
    intro i j
    rw [roL_ok (fun k hk => (h.w0 k hk).1) a 0 Z0 i j (by omega)]
    have z : Z0 i j = 0 := rfl
    have b := lapD_le (A := fun k => ixO (I (F k))) (B := fun k => ixO (I (F k))) (C := fun k => ixO (I (T k))) h.wz a 0 (i + 1) (j + 1) (by omega)
    have ha := h.2.1
    rw [z, Int64.zero_add, i64_oft (by omega) (by omega)]
    rfl
  have ed : mDet (rkN al n) (fun p q => (roL F T w I a 0 Z0 p q).toInt) = mDet (rkN al n) (mDel0 (lapD (fun k => ixO (I (F k))) (fun k => ixO (I (F k))) (fun k => ixO (I (T k))) (wZ w) a 0)) := mDet_congr _ _ _ (fun p q _ _ => en p q)
  have dm := dmV_ok (n := rkN al n) (A := roL F T w I a 0 Z0) (by rw [ed]; exact tp) (by rw [ed]; exact tl)
  rw [← i64_of (dmV _ _), dm, ed, dtN_ok, mDet_strS, ← mDet_of]
  refine mDet_congr _ _ _ (fun p q hp hq => ?_)
  rw [foM_ok]
  have z : Z0 (enN al n p) (enN al n q) = 0 := rfl
  rw [z, Int64.zero_add]
  unfold mDel0
  rw [lapD_al h.2.2.1 hI hp hq a 0 (by omega)]
/-- both ways: the reference's determinant = the class's -/
theorem rs_dt {n a : Nat} {al : Nat → Bool} {I : Nat → Option Nat} {F T : Nat → Nat} {w : Nat → Int32} (h : netOk n a F T w) (hs : rkN al n ≤ 9) (hI : ∀ v, v < n → I v = if al v = true then some (rkN al v) else none) : dmV (rkN al n) (rsV a F T w x0 (fun v => v) I 0) = dtN n (strS al (fbM F T w Z0 a)) := by
  have hb : ∀ j, 0 ≤ j → j < 0 + a → (fun v => ixO (I v)) (F j) < rkN al n + 1 ∧ (fun v => ixO (I v)) (T j) < rkN al n + 1 := fun j _ hj => ⟨al_lt hI (h.2.2.1 j (by omega)).1, al_lt hI (h.2.2.1 j (by omega)).2⟩
  have td := lap_tc (F := F) (T := T) (w := wZ w) a 0 (rkN al n + 1) (fun v => ixO (I v)) (by omega) hb
  have tp := tcN_pos (F := F) (T := T) (w := wZ w) a 0 (rkN al n + 1) (fun v => ixO (I v)) (fun j _ hj => (h.wz j (by omega)).1)
  have tl := tcN_lt (F := F) (T := T) (w := wZ w) (m := a) (k := 0) (c := rkN al n + 1) (P := fun v => ixO (I v)) h.2.1 (by omega) (by omega) (fun j _ hj => h.wz j (by omega)) hb
  rw [← td] at tp tl
  have hwx : wX w x0 = wZ w := by funext k; unfold wX x0 wZ; rw [if_pos rfl]
  have li : ∀ i j, lapI F T (wZ w) I a 0 i j = mDel0 (lapL (fun k => ixO (I (F k))) (fun k => ixO (I (T k))) (wZ w) a 0) i j := by
    intro i j
    have key : ∀ m k, lapI F T (wZ w) I m k i j = lapL (fun k => ixO (I (F k))) (fun k => ixO (I (T k))) (wZ w) m k (i + 1) (j + 1) := by
      intro m
      induction m with
      | zero => intro k; rfl
      | succ m ih =>
        intro k
        unfold lapI
        rw [lapL_s, ih (k + 1)]
        unfold lV lU
        simp only [ixO_s]
    exact key a 0
  have en : ∀ i j, rsV a F T w x0 (fun v => v) I 0 i j = Int64.ofInt (lapI F T (wZ w) I a 0 i j) := by
    intro i j
    have r := rsL_ok (X := x0) (P := fun v => v) (I := I) h.2.2.1 (fun k hk => (h.w0 k hk).1) (fun u v _ _ e => by have : u = v := e; rw [this]) a 0 Z0 i j (by omega)
    have z : Z0 i j = 0 := rfl
    unfold rsV
    rw [r, z, hwx]
    split <;> grind
  have eni : ∀ i j, (rsV a F T w x0 (fun v => v) I 0 i j).toInt = lapI F T (wZ w) I a 0 i j := by
    intro i j
    have b := lapI_le (F := F) (T := T) (I := I) h.wz a 0 i j (by omega)
    have ha := h.2.1
    rw [en, i64_oft (by omega) (by omega)]
  have ed : mDet (rkN al n) (fun p q => (rsV a F T w x0 (fun v => v) I 0 p q).toInt) = mDet (rkN al n) (mDel0 (lapL (fun k => ixO (I (F k))) (fun k => ixO (I (T k))) (wZ w) a 0)) := mDet_congr _ _ _ (fun p q _ _ => by rw [eni, li])
  have dm := dmV_ok (n := rkN al n) (A := rsV a F T w x0 (fun v => v) I 0) (by rw [ed]; exact tp) (by rw [ed]; exact tl)
  rw [← i64_of (dmV _ _), dm, ed, dtN_ok, mDet_strS, ← mDet_of]
  refine mDet_congr _ _ _ (fun p q hp hq => ?_)
  rw [fbM_ok, ← li, lapI_al h.2.2.1 hI hp hq a 0 (by omega)]
  have z : Z0 (enN al n p) (enN al n q) = 0 := rfl
  rw [z, Int64.zero_add]
/-- rooted, apart -/
def roV (n a : Nat) (F T : Nat → Nat) (w : Nat → Int32) (x : Nat) : Int64 := dmV (nmV n (fun v => v) (some x) none).1 (roL F T w (nmV n (fun v => v) (some x) none).2 a 0 Z0)
def apV (n a : Nat) (F T : Nat → Nat) (w : Nat → Int32) (x y : Nat) : Int64 := dmV (nmV n (fun v => v) (some x) (some y)).1 (rsV a F T w x0 (fun v => v) (nmV n (fun v => v) (some x) (some y)).2 0)
theorem rkN_some {n x : Nat} {ot : Option Nat} (hx : x < n) : rkN (alB (some x) ot) n + 1 ≤ n := by
  have key : ∀ m, x < m → rkN (alB (some x) ot) m + 1 ≤ m := by
    intro m
    induction m with
    | zero => intro h; omega
    | succ m ih =>
      intro h
      rw [rkN_s]
      by_cases e : x = m
      · subst e
        have : alB (some x) ot x = false := by unfold alB; simp
        rw [this]
        have := rkN_le (alB (some x) ot) x
        simp; omega
      · have := ih (by omega); split <;> omega
  exact key n hx
theorem roV_ok {n a x : Nat} {F T : Nat → Nat} {w : Nat → Int32} (h : netOk n a F T w) (hx : x < n) : roV n a F T w x = dtN n (strM n x (foM F T w Z0 a)) := by
  obtain ⟨e1, e2⟩ := nmV_id n (some x) none
  have hl := rkN_some (ot := none) hx
  have hn := h.1
  unfold roV
  rw [e1, ro_dt h (by omega) e2, dtN_ok, dtN_ok]
  refine mDet_congr _ _ _ (fun p q hp hq => ?_)
  rw [strM_ok hx hp hq]
  unfold strS alB
  by_cases c1 : p = x <;> by_cases c2 : q = x <;> simp [c1, c2]
  intro h; omega
theorem apV_ok {n a x y : Nat} {F T : Nat → Nat} {w : Nat → Int32} (h : netOk n a F T w) (hx : x < n) (hy : y < n) (hne : x ≠ y) : apV n a F T w x y = dtN n (strM n y (strM n x (fbM F T w Z0 a))) := by
  obtain ⟨e1, e2⟩ := nmV_id n (some x) (some y)
  have hl := rkN_some (ot := some y) hx
  have hn := h.1
  unfold apV
  rw [e1, rs_dt h (by omega) e2, dtN_ok, dtN_ok]
  refine mDet_congr _ _ _ (fun p q hp hq => ?_)
  rw [strM_ok hy hp hq, strM_ok hx hp hq]
  unfold strS alB
  by_cases c1 : p = x <;> by_cases c2 : q = x <;> by_cases c3 : p = y <;> by_cases c4 : q = y <;> simp [c1, c2, c3, c4] <;> (try (intro h)) <;> (try omega)
  all_goals (try (by_cases c5 : x = y <;> simp [c5] <;> omega))
