/-- the reference's rows and count -/
def adO (i j : Option Nat) (v : Int64) (M : Nat → Nat → Int64) : Nat → Nat → Int64 := match i, j with
  | some i, some j => mset M i j (M i j + v)
  | _, _ => M
def rsS (x y : Option Nat) (w : Int32) (M : Nat → Nat → Int64) : Nat → Nat → Int64 := adO y x (-w).toInt64 (adO x y (-w).toInt64 (adO y y w.toInt64 (adO x x w.toInt64 M)))
def rsL (F T : Nat → Nat) (w : Nat → Int32) (X : Nat → Bool) (P : Nat → Nat) (I : Nat → Option Nat) : Nat → Nat → (Nat → Nat → Int64) → Nat → Nat → Int64
  | 0, _, M => M
  | m + 1, k, M => rsL F T w X P I m (k + 1) (if X k = false ∧ P (F k) ≠ P (T k) then rsS (I (F k)) (I (T k)) (w k) M else M)
def rsV (a : Nat) (F T : Nat → Nat) (w : Nat → Int32) (X : Nat → Bool) (P : Nat → Nat) (I : Nat → Option Nat) (pl : Int64) : Nat → Nat → Int64 := fun i j => if i = j then rsL F T w X P I a 0 Z0 i j + pl else rsL F T w X P I a 0 Z0 i j
def cnV (n a : Nat) (F T : Nat → Nat) (w : Nat → Int32) (X : Nat → Bool) (P : Nat → Nat) : Int64 := if n = 0 then 0 else dmV (nmV n P (some (P 0)) none).1 (rsV a F T w X P (nmV n P (some (P 0)) none).2 0)
theorem i32_neg {x : Int32} (h : 0 ≤ x.toInt) : (-x).toInt = - x.toInt := by
  rw [Int32.toInt_neg]
  have h2 := Int32.toInt_lt x
  rw [Int.bmod_def]; split <;> omega
theorem adO_ok (x y : Option Nat) (v : Int64) (M : Nat → Nat → Int64) (i j : Nat) : adO x y v M i j = M i j + (if x = some i then (if y = some j then v else 0) else 0) := by
  unfold adO
  cases x with
  | none => simp
  | some p =>
    cases y with
    | none => simp
    | some q =>
      simp only [Option.some.injEq, mset]
      by_cases c1 : p = i
      · subst c1
        by_cases c2 : q = j
        · subst c2; simp
        · rw [if_neg (fun h => c2 h.2.symm), if_neg c2]; simp
      · rw [if_neg (fun h => c1 h.1.symm), if_neg c1]; simp
def lV (F T : Nat → Nat) (I : Nat → Option Nat) (k i : Nat) : Int := (if I (F k) = some i then 1 else 0) - (if I (T k) = some i then 1 else 0)
def lapI (F T : Nat → Nat) (W : Nat → Int) (I : Nat → Option Nat) : Nat → Nat → Nat → Nat → Int
  | 0, _, _, _ => 0
  | m + 1, k, i, j => lapI F T W I m (k + 1) i j + W k * lV F T I k i * lV F T I k j
theorem rsS_ok {x y : Option Nat} {w : Int32} (hw : 0 ≤ w.toInt) (M : Nat → Nat → Int64) (i j : Nat) : rsS x y w M i j = M i j + Int64.ofInt (w.toInt * ((if x = some i then 1 else 0) - (if y = some i then 1 else 0)) * ((if x = some j then 1 else 0) - (if y = some j then 1 else 0))) := by
  unfold rsS
  rw [adO_ok, adO_ok, adO_ok, adO_ok, i32_64, i32_64, i32_neg hw, i64_ofn]
  have z0 : Int64.ofInt 0 = 0 := rfl
  have z1 : Int64.ofInt 1 = 1 := rfl
  rw [i64_ofm, i64_ofm, i64_ofs, i64_ofs]
  have b : ∀ p : Prop, [Decidable p] → Int64.ofInt (if p then 1 else 0) = if p then 1 else 0 := by
    intro p _
    split <;> rfl
  rw [b, b, b, b]
  generalize Int64.ofInt w.toInt = u
  by_cases c1 : x = some i <;> by_cases c2 : x = some j <;> by_cases c3 : y = some i <;> by_cases c4 : y = some j <;> simp only [c1, c2, c3, c4, if_true, if_false] <;> grind
def wX (w : Nat → Int32) (X : Nat → Bool) (k : Nat) : Int := if X k = false then (w k).toInt else 0
theorem rsL_ok {n a : Nat} {F T : Nat → Nat} {w : Nat → Int32} {X : Nat → Bool} {P : Nat → Nat} {I : Nat → Option Nat} (hft : ∀ k, k < a → F k < n ∧ T k < n) (hw : ∀ k, k < a → 0 ≤ (w k).toInt) (hI : ∀ u v, u < n → v < n → P u = P v → I u = I v) : ∀ (m k : Nat) (M : Nat → Nat → Int64) (i j : Nat), k + m = a → rsL F T w X P I m k M i j = M i j + Int64.ofInt (lapI F T (wX w X) I m k i j) := by
  intro m
  induction m with
  | zero => intro k M i j _; show M i j = M i j + 0; grind
  | succ m ih =>
    intro k M i j hk
    unfold rsL lapI
    rw [ih (k + 1) _ i j (by omega), i64_ofa]
    by_cases c : X k = false ∧ P (F k) ≠ P (T k)
    · rw [if_pos c, rsS_ok (hw k (by omega))]
      unfold wX lV
      rw [if_pos c.1]; grind
    · rw [if_neg c]
      have : wX w X k * lV F T I k i * lV F T I k j = 0 := by
        by_cases x : X k = false
        · have hp : P (F k) = P (T k) := by
            by_cases q : P (F k) = P (T k)
            · exact q
            · exact absurd ⟨x, q⟩ c
          have := hI _ _ (hft k (by omega)).1 (hft k (by omega)).2 hp
          unfold lV; rw [this]; grind
        · unfold wX; rw [if_neg x]; grind
      rw [this]
      have z0 : Int64.ofInt 0 = 0 := rfl
      rw [z0]; grind
theorem lV_abs (F T : Nat → Nat) (I : Nat → Option Nat) (k i : Nat) : lV F T I k i = 0 ∨ lV F T I k i = 1 ∨ lV F T I k i = -1 := by unfold lV; split <;> split <;> simp
theorem lapI_le {F T : Nat → Nat} {W : Nat → Int} {I : Nat → Option Nat} {a : Nat} (hW : ∀ k, k < a → 0 ≤ W k ∧ W k ≤ 9) : ∀ (m k i j : Nat), k + m = a → - (9 * (m : Int)) ≤ lapI F T W I m k i j ∧ lapI F T W I m k i j ≤ 9 * m := by
  intro m
  induction m with
  | zero => intro k i j _; unfold lapI; omega
  | succ m ih =>
    intro k i j hk
    have h := ih (k + 1) i j (by omega)
    have w := hW k (by omega)
    unfold lapI
    rcases lV_abs F T I k i with e | e | e <;> rcases lV_abs F T I k j with e2 | e2 | e2 <;> rw [e, e2] <;> simp <;> omega
theorem lapI_lap {n a : Nat} {F T P : Nat → Nat} {W : Nat → Int} {I : Nat → Option Nat} (hft : ∀ k, k < a → F k < n ∧ T k < n) (hI : ∀ v, v < n → I v = if P v = 0 then none else some (P v - 1)) : ∀ (m k i j : Nat), k + m = a → lapI F T W I m k i j = lapL (fun k => P (F k)) (fun k => P (T k)) W m k (i + 1) (j + 1) := by
  have b : ∀ v i, v < n → ((I v = some i) ↔ (P v = i + 1)) := by
    intro v i hv
    rw [hI v hv]
    by_cases z : P v = 0
    · rw [if_pos z]; simp; omega
    · rw [if_neg z]; simp; omega
  intro m
  induction m with
  | zero => intro k i j _; rfl
  | succ m ih =>
    intro k i j hk
    have h := hft k (by omega)
    unfold lapI
    rw [ih (k + 1) i j (by omega), lapL_s]
    unfold lV lU
    simp only [b _ _ h.1, b _ _ h.2]
theorem ch_le2 : ∀ n k, ch n k ≤ 2 ^ n := by
  intro n
  induction n with
  | zero => intro k; cases k with
    | zero => decide
    | succ k => exact Nat.zero_le _
  | succ n ih => intro k; cases k with
    | zero => exact Nat.pow_pos (by decide)
    | succ k => have h1 := ih k; have h2 := ih (k + 1); rw [Nat.pow_succ]; show ch n k + ch n (k + 1) ≤ _; omega
theorem tcN_lt {F T : Nat → Nat} {w : Nat → Int} {m k c : Nat} {P : Nat → Nat} (hm : m ≤ 30) (hc0 : 0 < c) (hc : c ≤ 10) (hw : ∀ j, k ≤ j → j < k + m → 0 ≤ w j ∧ w j ≤ 9) (hP : ∀ j, k ≤ j → j < k + m → P (F j) < c ∧ P (T j) < c) : tcN F T w m k c P < 4611685975477714963 := by
  have h := tcN_le m k c P hc0 hw hP
  have h1 : (ch m (c - 1) : Int) ≤ 1073741824 := by
    have := Nat.le_trans (ch_le2 m (c - 1)) (Nat.pow_le_pow_right (by decide) hm)
    omega
  have h2 : (9 : Int) ^ (c - 1) ≤ 387420489 := by
    have : (9 : Nat) ^ (c - 1) ≤ 9 ^ 9 := Nat.pow_le_pow_right (by decide) (by omega)
    have e : ((9 : Nat) ^ (c - 1) : Nat) = ((9 : Int) ^ (c - 1)) := by rw [Int.natCast_pow]; rfl
    omega
  have h3 : (ch m (c - 1) : Int) * 9 ^ (c - 1) ≤ 1073741824 * 387420489 := Int.mul_le_mul h1 h2 (Int.pow_nonneg (by decide)) (by decide)
  omega
theorem i64_oft {x : Int} (h1 : -9223372036854775808 ≤ x) (h2 : x < 9223372036854775808) : (Int64.ofInt x).toInt = x := by rw [Int64.toInt_ofInt, i64_bm h1 h2]
/-- the reference's count, in general -/
theorem cnV_ok {n a c : Nat} {F T : Nat → Nat} {w : Nat → Int32} {X : Nat → Bool} {P P' : Nat → Nat} (hn0 : 0 < n) (hn : n ≤ 10) (ha : a ≤ 30) (hft : ∀ k, k < a → F k < n ∧ T k < n) (hw : ∀ k, k < a → 0 ≤ (w k).toInt ∧ (w k).toInt ≤ 9) (hF : FO n c P) (hc : c ≤ 10) (hE : EqP n P P') : (cnV n a F T w X P').toInt = tcN F T (wX w X) a 0 c P := by
  obtain ⟨e1, e2⟩ := nmV_ok hF hE hn0
  have hc0 : 0 < c := by have := hF.1 0 hn0; omega
  have hW : ∀ k, k < a → 0 ≤ wX w X k ∧ wX w X k ≤ 9 := by
    intro k hk
    unfold wX
    have := hw k hk
    split <;> omega
  unfold cnV
  rw [if_neg (by omega), e1]
  generalize (nmV n P' (some (P' 0)) none).2 = I at e2 ⊢
  have hI : ∀ u v, u < n → v < n → P' u = P' v → I u = I v := by
    intro u v hu hv q
    rw [e2 u hu, e2 v hv, (hE u v hu hv).mpr q]
  have hen : ∀ i j, (rsV a F T w X P' I 0 i j).toInt = mDel0 (lapL (fun k => P (F k)) (fun k => P (T k)) (wX w X) a 0) i j := by
    intro i j
    have e : rsV a F T w X P' I 0 i j = Int64.ofInt (lapI F T (wX w X) I a 0 i j) := by
      have r := rsL_ok hft (fun k hk => (hw k hk).1) hI a 0 Z0 i j (by omega) (w := w) (X := X)
      have z : Z0 i j = 0 := rfl
      unfold rsV
      rw [r, z]
      split <;> grind
    rw [e, i64_oft]
    · exact lapI_lap hft e2 a 0 i j (by omega)
    · have := lapI_le (F := F) (T := T) (I := I) hW a 0 i j (by omega); omega
    · have := lapI_le (F := F) (T := T) (I := I) hW a 0 i j (by omega); omega
  have hd : mDet (c - 1) (fun p q => (rsV a F T w X P' I 0 p q).toInt) = tcN F T (wX w X) a 0 c P := by
    rw [← lap_tc a 0 c P hc0 (fun j _ h => ⟨hF.1 _ (hft j (by omega)).1, hF.1 _ (hft j (by omega)).2⟩)]
    exact mDet_congr _ _ _ (fun p q _ _ => hen p q)
  have hp := tcN_pos a 0 c (F := F) (T := T) (w := wX w X) P (fun j _ h => (hW j (by omega)).1)
  have hl := tcN_lt (F := F) (T := T) (w := wX w X) (m := a) (k := 0) (c := c) (P := P) ha hc0 hc (fun j _ h => hW j (by omega)) (fun j _ h => ⟨hF.1 _ (hft j (by omega)).1, hF.1 _ (hft j (by omega)).2⟩)
  rw [dmV_ok (by rw [hd]; exact hp) (by rw [hd]; exact hl), hd]
/-- count with the arcs below f0 out = the class's sum over the parts from f0 on -/
theorem cnV_sop {n a c f0 : Nat} {F T : Nat → Nat} {w : Nat → Int32} {X : Nat → Bool} {P P' : Nat → Nat} (hn0 : 0 < n) (hn : n ≤ 10) (ha : a ≤ 30) (hft : ∀ k, k < a → F k < n ∧ T k < n) (hw : ∀ k, k < a → 0 ≤ (w k).toInt ∧ (w k).toInt ≤ 9) (hF : FO n c P) (hc : c ≤ 10) (hE : EqP n P P') (hf : f0 ≤ a) (hX1 : ∀ k, k < f0 → X k = true) (hX2 : ∀ k, f0 ≤ k → k < a → X k = false) : cnV n a F T w X P' = sopV c f0 a F T w P ∧ (cnV n a F T w X P').toInt = tcN F T (fun k => (w k).toInt) (a - f0) f0 c P := by
  have hc0 : 0 < c := by have := hF.1 0 hn0; omega
  have hPb : ∀ j, j < a → P (F j) < c ∧ P (T j) < c := fun j h => ⟨hF.1 _ (hft j h).1, hF.1 _ (hft j h).2⟩
  have e1 := cnV_ok (X := X) hn0 hn ha hft hw hF hc hE
  have e2 := sopV_ok (c := c) (f0 := f0) (a := a) (F := F) (T := T) (w := w) (P := P) hc0 hf (fun j _ h => hPb j h)
  have e3 : tcN F T (wX w X) a 0 c P = tcN F T (fun k => (w k).toInt) (a - f0) f0 c P := by
    rw [← lap_tc a 0 c P hc0 (fun j _ h => hPb j (by omega)), ← lap_tc (a - f0) f0 c P hc0 (fun j _ h => hPb j (by omega))]
    refine mDet_congr _ _ _ (fun p q _ _ => ?_)
    unfold mDel0
    have key : ∀ m k, k + m = a → f0 ≤ k → lapL (fun k => P (F k)) (fun k => P (T k)) (wX w X) m k (p + 1) (q + 1) = lapL (fun k => P (F k)) (fun k => P (T k)) (fun k => (w k).toInt) m k (p + 1) (q + 1) := by
      intro m
      induction m with
      | zero => intro _ _ _; rfl
      | succ m ih => intro k h1 h2; rw [lapL_s, lapL_s, ih _ (by omega) (by omega)]; unfold wX; rw [if_pos (hX2 k h2 (by omega))]
    have key2 : ∀ d k, k + d = f0 → lapL (fun k => P (F k)) (fun k => P (T k)) (wX w X) (d + (a - f0)) k (p + 1) (q + 1) = lapL (fun k => P (F k)) (fun k => P (T k)) (wX w X) (a - f0) f0 (p + 1) (q + 1) := by
      intro d
      induction d with
      | zero => intro k h; rw [Nat.zero_add, show k = f0 by omega]
      | succ d ih =>
        intro k h
        rw [show d + 1 + (a - f0) = d + (a - f0) + 1 by omega, lapL_s, ih (k + 1) (by omega)]
        unfold wX
        rw [hX1 k (by omega)]; simp
    have := key2 f0 0 (by omega)
    rw [show f0 + (a - f0) = a by omega] at this
    rw [this, key (a - f0) f0 (by omega) (Nat.le_refl _)]
  refine ⟨?_, e1.trans e3⟩
  rw [e2, ← e3, ← e1, i64_of]
