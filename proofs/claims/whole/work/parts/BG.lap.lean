/-- nets as matrices -/
def lU (F T : Nat → Nat) (k i : Nat) : Int := (if F k = i then 1 else 0) - (if T k = i then 1 else 0)
def lapL (F T : Nat → Nat) (w : Nat → Int) : Nat → Nat → Nat → Nat → Int
  | 0, _, _, _ => 0
  | m + 1, k, i, j => lapL F T w m (k + 1) i j + w k * lU F T k i * lU F T k j
theorem lapL_s (F T : Nat → Nat) (w : Nat → Int) (m k i j : Nat) : lapL F T w (m + 1) k i j = lapL F T w m (k + 1) i j + w k * lU F T k i * lU F T k j := rfl
section MR
/-- one entry of the diagonal -/
theorem mDet_r1 {R : Type} [Lean.Grind.CommRing R] {n h : Nat} (hh : h < n + 1) (w : R) (A : Nat → Nat → R) : mDet (n + 1) (fun p q => A p q + w * (if p = h then 1 else 0) * (if q = h then 1 else 0)) = mDet (n + 1) A + w * mDet n (fun p q => A (mSk h p) (mSk h q)) := by
  have e := mDet_put hh w A (A h) (fun q => if q = h then 1 else 0)
  rw [mPut_id] at e
  rw [mDet_unit n h h (mPut A h (fun q => if q = h then 1 else 0)) hh hh (fun q _ hne => by rw [mPut_s, if_neg hne]), mPut_s, if_pos rfl, mSg_add, mSg_sq] at e
  have e2 : mDet n (fun p q => mPut A h (fun q => if q = h then 1 else 0) (mSk h p) (mSk h q)) = mDet n (fun p q => A (mSk h p) (mSk h q)) := mDet_congr _ _ _ (fun p q _ _ => mPut_n (mSk_ne _ _) _)
  rw [e2] at e
  have e3 : mDet (n + 1) (fun p q => A p q + w * (if p = h then 1 else 0) * (if q = h then 1 else 0)) = mDet (n + 1) (mPut A h (fun q => A h q + w * (if q = h then 1 else 0))) := by
    refine mDet_congr _ _ _ (fun p q _ _ => ?_)
    unfold mPut
    by_cases c : p = h
    · subst c; simp; grind
    · simp [c]; grind
  rw [e3, e]; grind
/-- row and column h added to row and column l -/
def mFold {R : Type} [Lean.Grind.CommRing R] (l h : Nat) (A : Nat → Nat → R) : Nat → Nat → R := fun p q => A p q + (if p = l then A h q else 0) + (if q = l then A p h + (if p = l then A h h else 0) else 0)
theorem mDet_addcol {R : Type} [Lean.Grind.CommRing R] {n r s : Nat} (hr : r < n) (hs : s < n) (hne : r ≠ s) (c : R) (M : Nat → Nat → R) : mDet n (fun p q => M p q + (if q = r then c * M p s else 0)) = mDet n M := by
  rw [← mDet_tr n M, ← mDet_addrow hr hs hne c (fun p q => M q p), ← mDet_tr]
  refine mDet_congr _ _ _ (fun p q _ _ => ?_)
  unfold mPut
  by_cases e : p = r
  · subst e; simp
  · simp [e]; grind
theorem mDet_fold {R : Type} [Lean.Grind.CommRing R] {n l h : Nat} (hl : l < n) (hh : h < n) (hne : l ≠ h) (A : Nat → Nat → R) : mDet n (mFold l h A) = mDet n A := by
  rw [← mDet_addrow hl hh hne 1 A, ← mDet_addcol hl hh hne 1 (mPut A l (fun q => A l q + 1 * A h q))]
  refine mDet_congr _ _ _ (fun p q _ _ => ?_)
  unfold mFold mPut
  by_cases e : p = l
  · subst e
    have hn : ¬ h = p := fun q => hne q.symm
    simp; split <;> grind
  · simp [e]; split <;> grind
theorem mDet_r2 {R : Type} [Lean.Grind.CommRing R] {n l h : Nat} (hl : l < n + 1) (hh : h < n + 1) (hne : l ≠ h) (w : R) (A : Nat → Nat → R) : mDet (n + 1) (fun p q => A p q + w * ((if p = l then 1 else 0) - (if p = h then 1 else 0)) * ((if q = l then 1 else 0) - (if q = h then 1 else 0))) = mDet (n + 1) A + w * mDet n (fun p q => mFold l h A (mSk h p) (mSk h q)) := by
  have e1 := mDet_fold hl hh hne (fun p q => A p q + w * ((if p = l then 1 else 0) - (if p = h then 1 else 0)) * ((if q = l then 1 else 0) - (if q = h then 1 else 0)))
  rw [← e1, ← mDet_fold hl hh hne A, ← mDet_r1 hh w (mFold l h A)]
  refine mDet_congr _ _ _ (fun p q _ _ => ?_)
  have hn : ¬ h = l := fun q => hne q.symm
  unfold mFold
  by_cases e1 : p = l <;> by_cases e2 : q = l <;> by_cases e3 : p = h <;> by_cases e4 : q = h <;> simp [e1, e2, e3, e4, hne, hn] <;> grind
end MR
/-- two parts made one: the matrix -/
theorem lU_uni {F T P : Nat → Nat} {lo hi k i : Nat} (hlt : lo < hi) : lU (fun k => uniN lo hi P (F k)) (fun k => uniN lo hi P (T k)) k i = lU (fun k => P (F k)) (fun k => P (T k)) k (mSk hi i) + (if i = lo then lU (fun k => P (F k)) (fun k => P (T k)) k hi else 0) := by
  have key : ∀ x : Nat, (if (if x = hi then lo else if x ≤ hi then x else x - 1) = i then (1 : Int) else 0) = (if x = mSk hi i then 1 else 0) + (if i = lo then (if x = hi then 1 else 0) else 0) := by
    intro x
    unfold mSk
    by_cases c1 : x = hi
    · subst c1
      by_cases c2 : lo = i
      · subst c2; simp [hlt]; omega
      · simp [c2]; split <;> omega
    · by_cases c3 : x ≤ hi
      · by_cases c2 : i = lo
        · subst c2; simp [c1, c3, hlt]
        · by_cases c4 : i < hi
          · simp [c1, c3, c2, c4]
          · simp [c1, c3, c2, c4]; rw [if_neg (by omega), if_neg (by omega)]
      · by_cases c4 : i < hi
        · simp [c1, c3, c4]; rw [if_neg (by omega), if_neg (by omega)]
        · simp [c1, c3, c4]
          by_cases c5 : x - 1 = i
          · rw [if_pos c5, if_pos (by omega)]
          · rw [if_neg c5, if_neg (by omega)]
  unfold lU uniN
  rw [key (P (F k)), key (P (T k))]
  split <;> grind
theorem lap_uni {F T P : Nat → Nat} {w : Nat → Int} {lo hi : Nat} (hlt : lo < hi) : ∀ (m k i j : Nat), lapL (fun k => uniN lo hi P (F k)) (fun k => uniN lo hi P (T k)) w m k i j = mFold lo hi (lapL (fun k => P (F k)) (fun k => P (T k)) w m k) (mSk hi i) (mSk hi j) := by
  have hs : ∀ i, (mSk hi i = lo) ↔ (i = lo) := by intro i; unfold mSk; split <;> omega
  intro m
  induction m with
  | zero => intro k i j; simp [lapL, mFold]
  | succ m ih =>
    intro k i j
    rw [lapL_s, ih, lU_uni hlt, lU_uni hlt]
    unfold mFold
    simp only [hs, lapL_s]
    by_cases c1 : i = lo
    · by_cases c2 : j = lo
      · subst c1; subst c2
        simp only [if_pos]
        have : mSk hi j = j := by unfold mSk; rw [if_pos hlt]
        rw [this]; grind
      · subst c1
        simp only [if_pos, if_neg c2]
        have : mSk hi i = i := by unfold mSk; rw [if_pos hlt]
        rw [this]; grind
    · by_cases c2 : j = lo
      · subst c2
        simp only [if_pos, if_neg c1]
        have : mSk hi j = j := by unfold mSk; rw [if_pos hlt]
        rw [this]; grind
      · simp only [if_neg c1, if_neg c2]; grind
def mDel0 (L : Nat → Nat → Int) : Nat → Nat → Int := fun i j => L (i + 1) (j + 1)
/-- an arc with and without: the matrix -/
theorem lap_dc {c lo hi : Nat} (hlt : lo < hi) (hc : hi < c + 2) (w : Int) (L : Nat → Nat → Int) (u : Nat → Int) (hu : ∀ i, u i = (if i = lo then 1 else 0) - (if i = hi then 1 else 0) ∨ u i = (if i = hi then 1 else 0) - (if i = lo then 1 else 0)) (hsame : (∀ i, u i = (if i = lo then 1 else 0) - (if i = hi then 1 else 0)) ∨ (∀ i, u i = (if i = hi then 1 else 0) - (if i = lo then 1 else 0))) : mDet (c + 1) (mDel0 (fun i j => L i j + w * u i * u j)) = mDet (c + 1) (mDel0 L) + w * mDet c (mDel0 (fun i j => mFold lo hi L (mSk hi i) (mSk hi j))) := by
  have uu : ∀ i j, u i * u j = ((if i = lo then 1 else 0) - (if i = hi then 1 else 0)) * ((if j = lo then 1 else 0) - (if j = hi then 1 else 0)) := by
    intro i j
    rcases hsame with q | q
    · rw [q i, q j]
    · rw [q i, q j]; grind
  by_cases l0 : lo = 0
  · subst l0
    have e := mDet_r1 (n := c) (h := hi - 1) (by omega) w (mDel0 L)
    have e1 : mDet (c + 1) (mDel0 (fun i j => L i j + w * u i * u j)) = mDet (c + 1) (fun p q => mDel0 L p q + w * (if p = hi - 1 then 1 else 0) * (if q = hi - 1 then 1 else 0)) := by
      refine mDet_congr _ _ _ (fun p q _ _ => ?_)
      unfold mDel0
      dsimp only
      have : w * u (p + 1) * u (q + 1) = w * (u (p + 1) * u (q + 1)) := by grind
      rw [this, uu]
      have a1 : ∀ p : Nat, (if p + 1 = hi then (1 : Int) else 0) = if p = hi - 1 then 1 else 0 := by
        intro p
        by_cases z : p = hi - 1
        · rw [if_pos z, if_pos (by omega)]
        · rw [if_neg z, if_neg (by omega)]
      rw [if_neg (show ¬ p + 1 = 0 by omega), if_neg (show ¬ q + 1 = 0 by omega), a1, a1]; grind
    have e2 : mDet c (mDel0 (fun i j => mFold 0 hi L (mSk hi i) (mSk hi j))) = mDet c (fun p q => mDel0 L (mSk (hi - 1) p) (mSk (hi - 1) q)) := by
      refine mDet_congr _ _ _ (fun p q _ _ => ?_)
      unfold mDel0 mFold
      dsimp only
      have a1 : ∀ p : Nat, mSk hi (p + 1) = mSk (hi - 1) p + 1 := by intro p; unfold mSk; split <;> split <;> omega
      rw [a1, a1, if_neg (by omega), if_neg (by omega)]; grind
    rw [e1, e, e2]
  · have e := mDet_r2 (n := c) (l := lo - 1) (h := hi - 1) (by omega) (by omega) (by omega) w (mDel0 L)
    have e1 : mDet (c + 1) (mDel0 (fun i j => L i j + w * u i * u j)) = mDet (c + 1) (fun p q => mDel0 L p q + w * ((if p = lo - 1 then 1 else 0) - (if p = hi - 1 then 1 else 0)) * ((if q = lo - 1 then 1 else 0) - (if q = hi - 1 then 1 else 0))) := by
      refine mDet_congr _ _ _ (fun p q _ _ => ?_)
      unfold mDel0
      dsimp only
      have : w * u (p + 1) * u (q + 1) = w * (u (p + 1) * u (q + 1)) := by grind
      rw [this, uu]
      have a1 : ∀ p h : Nat, 0 < h → (if p + 1 = h then (1 : Int) else 0) = if p = h - 1 then 1 else 0 := by
        intro p h h0
        by_cases z : p = h - 1
        · rw [if_pos z, if_pos (by omega)]
        · rw [if_neg z, if_neg (by omega)]
      rw [a1 p hi (by omega), a1 q hi (by omega), a1 p lo (by omega), a1 q lo (by omega)]; grind
    have e2 : mDet c (mDel0 (fun i j => mFold lo hi L (mSk hi i) (mSk hi j))) = mDet c (fun p q => mFold (lo - 1) (hi - 1) (mDel0 L) (mSk (hi - 1) p) (mSk (hi - 1) q)) := by
      refine mDet_congr _ _ _ (fun p q _ _ => ?_)
      unfold mDel0 mFold
      dsimp only
      have a1 : ∀ p : Nat, mSk hi (p + 1) = mSk (hi - 1) p + 1 := by intro p; unfold mSk; split <;> split <;> omega
      have a2 : ∀ x : Nat, (x + 1 = lo) ↔ (x = lo - 1) := by intro x; omega
      have a3 : hi - 1 + 1 = hi := by omega
      simp only [a1, a2, a3]
    rw [e1, e, e2]
/-- the sum over trees, arc by arc -/
def tcN (F T : Nat → Nat) (w : Nat → Int) : Nat → Nat → Nat → (Nat → Nat) → Int
  | 0, _, c, _ => if c = 1 then 1 else 0
  | m + 1, k, c, P => tcN F T w m (k + 1) c P + (if P (F k) = P (T k) then 0 else w k * tcN F T w m (k + 1) (c - 1) (unP (F k) (T k) P))
theorem mDet_zero {n : Nat} (h : 0 < n) : mDet n (fun _ _ => (0 : Int)) = 0 := mDet_zrow h _ (fun _ _ => rfl)
theorem unP_lt {x y c v : Nat} {P : Nat → Nat} (hx : P x < c) (hy : P y < c) (hne : P x ≠ P y) (hv : P v < c) : unP x y P v < c - 1 := by
  unfold unP uniN mnN mxN
  repeat' split
  all_goals omega
theorem lap_hu {F T P : Nat → Nat} {k : Nat} (hne : P (F k) ≠ P (T k)) : (∀ i, lU (fun k => P (F k)) (fun k => P (T k)) k i = (if i = mnN (P (F k)) (P (T k)) then 1 else 0) - (if i = mxN (P (F k)) (P (T k)) then 1 else 0)) ∨ (∀ i, lU (fun k => P (F k)) (fun k => P (T k)) k i = (if i = mxN (P (F k)) (P (T k)) then 1 else 0) - (if i = mnN (P (F k)) (P (T k)) then 1 else 0)) := by
  have a : ∀ x i : Nat, (if x = i then (1 : Int) else 0) = if i = x then 1 else 0 := by
    intro x i
    by_cases z : x = i
    · rw [if_pos z, if_pos z.symm]
    · rw [if_neg z, if_neg (fun q => z q.symm)]
  unfold lU mnN mxN
  by_cases c : P (T k) < P (F k)
  · right; intro i; rw [a (P (F k)) i, a (P (T k)) i]; simp [c, show ¬ P (F k) < P (T k) by omega]
  · left; intro i; rw [a (P (F k)) i, a (P (T k)) i]; simp [c, show P (F k) < P (T k) by omega]
theorem lap_tc {F T : Nat → Nat} {w : Nat → Int} : ∀ (m k c : Nat) (P : Nat → Nat), 0 < c → (∀ j, k ≤ j → j < k + m → P (F j) < c ∧ P (T j) < c) → mDet (c - 1) (mDel0 (lapL (fun k => P (F k)) (fun k => P (T k)) w m k)) = tcN F T w m k c P := by
  intro m
  induction m with
  | zero =>
    intro k c P hc _
    unfold tcN
    by_cases c1 : c = 1
    · subst c1; simp [mDet]
    · rw [if_neg c1]
      exact mDet_zero (by omega)
  | succ m ih =>
    intro k c P hc hP
    unfold tcN
    have ih1 := ih (k + 1) c P hc (fun j h1 h2 => hP j (by omega) (by omega))
    have hk := hP k (by omega) (by omega)
    by_cases e : P (F k) = P (T k)
    · rw [if_pos e, Int.add_zero, ← ih1]
      refine mDet_congr _ _ _ (fun p q _ _ => ?_)
      unfold mDel0
      conv => lhs; unfold lapL
      have : ∀ i, lU (fun k => P (F k)) (fun k => P (T k)) k i = 0 := by intro i; unfold lU; simp [e]
      rw [this, this]; grind
    · rw [if_neg e, ← ih1]
      have hlt : mnN (P (F k)) (P (T k)) < mxN (P (F k)) (P (T k)) := by unfold mnN mxN; split <;> split <;> omega
      have hmx : mxN (P (F k)) (P (T k)) < c := by unfold mxN; split <;> omega
      have ih2 := ih (k + 1) (c - 1) (unP (F k) (T k) P) (by omega) (fun j h1 h2 => by
        have := hP j (by omega) (by omega)
        exact ⟨unP_lt hk.1 hk.2 e this.1, unP_lt hk.1 hk.2 e this.2⟩)
      rw [← ih2]
      obtain ⟨d, rfl⟩ : ∃ d, c = d + 2 := ⟨c - 2, by omega⟩
      have hu := lap_hu (F := F) (T := T) (P := P) (k := k) e
      have dc := lap_dc (c := d) hlt (by omega) (w k) (lapL (fun k => P (F k)) (fun k => P (T k)) w m (k + 1)) (lU (fun k => P (F k)) (fun k => P (T k)) k) (fun i => by rcases hu with q | q; exact Or.inl (q i); exact Or.inr (q i)) hu
      have e2 : mDet d (mDel0 (fun i j => mFold (mnN (P (F k)) (P (T k))) (mxN (P (F k)) (P (T k))) (lapL (fun k => P (F k)) (fun k => P (T k)) w m (k + 1)) (mSk (mxN (P (F k)) (P (T k))) i) (mSk (mxN (P (F k)) (P (T k))) j))) = mDet d (mDel0 (lapL (fun j => unP (F k) (T k) P (F j)) (fun j => unP (F k) (T k) P (T j)) w m (k + 1))) := by
        refine mDet_congr _ _ _ (fun p q _ _ => ?_)
        unfold mDel0 unP
        exact (lap_uni hlt m (k + 1) (p + 1) (q + 1)).symm
      rw [e2] at dc
      exact dc
theorem tcN_pos {F T : Nat → Nat} {w : Nat → Int} : ∀ (m k c : Nat) (P : Nat → Nat), (∀ j, k ≤ j → j < k + m → 0 ≤ w j) → 0 ≤ tcN F T w m k c P := by
  intro m
  induction m with
  | zero => intro k c P _; unfold tcN; split <;> decide
  | succ m ih =>
    intro k c P hw
    unfold tcN
    have h1 := ih (k + 1) c P (fun j h1 h2 => hw j (by omega) (by omega))
    have h2 := ih (k + 1) (c - 1) (unP (F k) (T k) P) (fun j h1 h2 => hw j (by omega) (by omega))
    split
    · omega
    · have := Int.mul_nonneg (hw k (by omega) (by omega)) h2; omega
theorem tcN_le {F T : Nat → Nat} {w : Nat → Int} : ∀ (m k c : Nat) (P : Nat → Nat), 0 < c → (∀ j, k ≤ j → j < k + m → 0 ≤ w j ∧ w j ≤ 9) → (∀ j, k ≤ j → j < k + m → P (F j) < c ∧ P (T j) < c) → tcN F T w m k c P ≤ ch m (c - 1) * 9 ^ (c - 1) := by
  intro m
  induction m with
  | zero =>
    intro k c P hc _ _
    unfold tcN
    by_cases c1 : c = 1
    · subst c1; decide
    · rw [if_neg c1]
      exact Int.mul_nonneg (by omega) (Int.pow_nonneg (by decide))
  | succ m ih =>
    intro k c P hc hw hP
    unfold tcN
    have h1 := ih (k + 1) c P hc (fun j h1 h2 => hw j (by omega) (by omega)) (fun j h1 h2 => hP j (by omega) (by omega))
    have hk := hP k (by omega) (by omega)
    by_cases e : P (F k) = P (T k)
    · rw [if_pos e]
      cases hcc : c - 1 with
      | zero => rw [hcc] at h1; simp [ch] at h1 ⊢; omega
      | succ d =>
        rw [hcc] at h1
        have : (0 : Int) ≤ ch m d * 9 ^ (d + 1) := Int.mul_nonneg (by omega) (Int.pow_nonneg (by decide))
        simp only [ch, Int.natCast_add, Int.add_mul]
        omega
    · rw [if_neg e]
      have h2 := ih (k + 1) (c - 1) (unP (F k) (T k) P) (by omega) (fun j h1 h2 => hw j (by omega) (by omega)) (fun j h1 h2 => by
        have := hP j (by omega) (by omega)
        exact ⟨unP_lt hk.1 hk.2 e this.1, unP_lt hk.1 hk.2 e this.2⟩)
      have h3 := tcN_pos m (k + 1) (c - 1) (F := F) (T := T) (w := w) (unP (F k) (T k) P) (fun j h1 h2 => (hw j (by omega) (by omega)).1)
      have hwk := hw k (by omega) (by omega)
      obtain ⟨d, rfl⟩ : ∃ d, c = d + 2 := ⟨c - 2, by omega⟩
      have e1 : d + 2 - 1 = d + 1 := rfl
      have e2 : d + 2 - 1 - 1 = d := rfl
      rw [e1] at h1 h2 h3 ⊢
      have e3 : d + 1 - 1 = d := rfl
      rw [e3] at h2
      have h4 : w k * tcN F T w m (k + 1) (d + 1) (unP (F k) (T k) P) ≤ 9 * (ch m d * 9 ^ d) := Int.mul_le_mul hwk.2 h2 h3 (by decide)
      simp only [ch, Int.natCast_add, Int.add_mul]
      rw [Int.pow_succ] at h1 ⊢
      grind
