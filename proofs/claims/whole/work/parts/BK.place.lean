/-- the reference's place -/
def tb (tree : Int32) (k : Nat) : Bool := decide ((tree >>> (nI k &&& 31)) &&& 1 = 1)
def plG (F T : Nat → Nat) (tree : Int32) : Nat → Nat → (Nat → Nat) → Nat → Bool → Nat × Bool
  | 0, _, _, n, g => (n, g)
  | m + 1, k, P, n, g => if tb tree k = true then plG F T tree m (k + 1) (if g = true then jmP (F k) (T k) P else P) (n + 1) (g && decide (¬ P (F k) = P (T k))) else plG F T tree m (k + 1) P n g
def plL (n a : Nat) (F T : Nat → Nat) (w : Nat → Int32) (tree : Int32) : Nat → Nat → (Nat → Bool) → (Nat → Nat) → Int64 → Int64 → Int64
  | 0, _, _, _, _, r => r
  | m + 1, k, X, P, f, r => if tb tree k = true then plL n a F T w tree m (k + 1) (bset X k) (jmP (F k) (T k) P) (f * (w k).toInt64) r else plL n a F T w tree m (k + 1) (bset X k) P f (r + wiV n a F T w k X P * f)
def plV (n a : Nat) (F T : Nat → Nat) (w : Nat → Int32) (tree : Int32) : Int64 :=
  if n = 0 ∨ tree < 0 ∨ ¬ tree >>> (nI a &&& 31) = 0 then -1 else if (plG F T tree a 0 (fun v => v) 0 true).2 = true ∧ (plG F T tree a 0 (fun v => v) 0 true).1 + 1 = n then plL n a F T w tree a 0 x0 (fun v => v) 1 0 else -1
theorem plG_f {F T : Nat → Nat} {tree : Int32} : ∀ (m k : Nat) (P : Nat → Nat) (n : Nat), (plG F T tree m k P n false).2 = false := by
  intro m
  induction m with
  | zero => intro k P n; rfl
  | succ m ih => intro k P n; unfold plG; split; exact ih _ _ _; exact ih _ _ _
theorem itL_ok {n a : Nat} {F T : Nat → Nat} {tree : Int32} (hft : ∀ k, k < a → F k < n ∧ T k < n) (hn : 0 < n) : ∀ (m k c : Nat) (P P' : Nat → Nat) (q : Nat), k + m = a → FO n c P → EqP n P P' → itL F T tree m k c P = if (plG F T tree m k P' q true).2 = true ∧ (plG F T tree m k P' q true).1 + 1 = q + c then 1 else 0 := by
  intro m
  induction m with
  | zero =>
    intro k c P P' q _ hF _
    unfold itL plG
    by_cases e : c = 1
    · rw [if_pos e, if_pos ⟨rfl, by omega⟩]
    · rw [if_neg e, if_neg (fun h => by have := h.2; dsimp only at this; omega)]
  | succ m ih =>
    intro k c P P' q hk hF hE
    have hk2 := hft k (by omega)
    have hc := hF.1 0 hn
    unfold itL plG
    by_cases b : (tree >>> (nI k &&& 31)) &&& 1 = 1
    · have hb : tb tree k = true := by unfold tb; simp [b]
      rw [if_pos b, if_pos hb]
      by_cases e : P (F k) = P (T k)
      · have e' := (hE _ _ hk2.1 hk2.2).mp e
        rw [if_pos e]
        simp only [e', not_true_eq_false, decide_false, Bool.and_false, if_true]
        rw [if_neg (fun h => by rw [plG_f] at h; exact absurd h.1 (by decide))]
      · have e' := fun q => e ((hE _ _ hk2.1 hk2.2).mpr q)
        have h1 := hF.1 (F k) hk2.1
        have h2 := hF.1 (T k) hk2.2
        rw [if_neg e]
        rw [if_pos rfl, show (true && decide (¬ P' (F k) = P' (T k))) = true from by simp; exact e']
        have ej1 : jnC (F k) (T k) P c = c - 1 := by unfold jnC; rw [if_neg e]
        have ej2 : jnP (F k) (T k) P = unP (F k) (T k) P := by unfold jnP; rw [if_neg e]
        rw [ej1, ej2, ih (k + 1) (c - 1) _ (jmP (F k) (T k) P') (q + 1) (by omega) (hF.un hk2.1 hk2.2 e) (hE.un hk2.1 hk2.2 e), show q + 1 + (c - 1) = q + c by omega]
    · have hb : ¬ tb tree k = true := by unfold tb; simp [b]
      rw [if_neg b, if_neg hb]
      exact ih (k + 1) c P P' q (by omega) hF hE
theorem plL_one {n a c : Nat} {F T : Nat → Nat} {w : Nat → Int32} {tree : Int32} {P P' : Nat → Nat} (h : netOk n a F T w) (hF : FO n c P) (hE : EqP n P P') (hc : c ≤ 1) (f r : Int64) : ∀ (m k : Nat) (X : Nat → Bool), k + m = a → itL F T tree m k c P = 1 → plL n a F T w tree m k X P' f r = r := by
  intro m
  induction m with
  | zero => intro k X _ _; rfl
  | succ m ih =>
    intro k X hk hit
    have hk2 := h.2.2.1 k (by omega)
    have same := hF.one hc hk2.1 hk2.2
    have e : wiV n a F T w k X P' = 0 := by unfold wiV; rw [if_pos ((hE _ _ hk2.1 hk2.2).mp same)]
    unfold itL at hit
    by_cases b : (tree >>> (nI k &&& 31)) &&& 1 = 1
    · rw [if_pos b, if_pos same] at hit; exact absurd hit (by decide)
    · rw [if_neg b] at hit
      unfold plL tb
      rw [if_neg (by simp [b]), e, Int64.zero_mul, Int64.add_zero]
      exact ih (k + 1) _ (by omega) hit
theorem plL_ok {n a : Nat} {F T : Nat → Nat} {w : Nat → Int32} {tree : Int32} (h : netOk n a F T w) : ∀ (m k c : Nat) (X : Nat → Bool) (P P' : Nat → Nat) (cs cp r : Int64), k + m = a → FO n c P → c ≤ 10 → EqP n P P' → (∀ j, j < k → X j = true) → (∀ j, k ≤ j → j < a → X j = false) → cs = cp * sopV c k a F T w P → itL F T tree m k c P = 1 → plL n a F T w tree m k X P' cp r = sbL a F T w tree m k c P cs cp r := by
  intro m
  induction m with
  | zero => intro k c X P P' cs cp r _ _ _ _ _ _ _ _; rfl
  | succ m ih =>
    intro k c X P P' cs cp r hk hF hc hE hX1 hX2 hcs hit
    have hka : k < a := by omega
    have hk2 := h.2.2.1 k hka
    by_cases c1 : c ≤ 1
    · rw [plL_one h hF hE c1 cp r (m + 1) k X hk hit]
      unfold sbL
      rw [if_pos c1]
    · unfold itL at hit
      unfold plL sbL tb
      rw [if_neg c1]
      have n1 : ∀ j, j < k + 1 → bset X k j = true := fun j hj => by unfold bset; split; rfl; exact hX1 j (by omega)
      have n2 : ∀ j, k + 1 ≤ j → j < a → bset X k j = false := fun j h1 h2 => by unfold bset; rw [if_neg (by omega)]; exact hX2 j (by omega) h2
      by_cases b : (tree >>> (nI k &&& 31)) &&& 1 = 1
      · rw [if_pos b] at hit
        by_cases e : P (F k) = P (T k)
        · rw [if_pos e] at hit; exact absurd hit (by decide)
        · rw [if_neg e] at hit
          have dc := sop_dc h hF hka e
          have es : siV a F T w k cs cp c P = cp * (w k).toInt64 * sopV (c - 1) (k + 1) a F T w (unP (F k) (T k) P) := by
            unfold siV; rw [if_neg e, hcs, dc]; grind
          have ej1 : jnC (F k) (T k) P c = c - 1 := by unfold jnC; rw [if_neg e]
          have ej2 : jnP (F k) (T k) P = unP (F k) (T k) P := by unfold jnP; rw [if_neg e]
          rw [ej1, ej2] at hit
          rw [if_pos (by simp [b]), if_pos b, ej1, ej2]
          exact ih (k + 1) (c - 1) _ _ _ _ _ r (by omega) (hF.un hk2.1 hk2.2 e) (by omega) (hE.un hk2.1 hk2.2 e) n1 n2 es hit
      · rw [if_neg b] at hit
        rw [if_neg (by simp [b]), if_neg b, wiV_ok h hF hc hE hka hX1 hX2]
        by_cases e : P (F k) = P (T k)
        · have es : siV a F T w k cs cp c P = 0 := by unfold siV; rw [if_pos e]
          rw [if_pos e, es, Int64.zero_mul, Int64.sub_zero]
          refine ih (k + 1) c _ P P' cs cp _ (by omega) hF hc hE n1 n2 ?_ hit
          rw [hcs]
          congr 1
          have hb : ∀ j, j < a → P (F j) < c ∧ P (T j) < c := fun j hj => ⟨hF.1 _ (h.2.2.1 j hj).1, hF.1 _ (h.2.2.1 j hj).2⟩
          have := hb k hka
          rw [sopV_ok (by omega) (by omega) (fun j _ hj => hb j hj), sopV_ok (by omega) (by omega) (fun j _ hj => hb j hj), show a - k = a - (k + 1) + 1 by omega, tcN_s, if_pos e, Int.add_zero]
        · have dc := sop_dc h hF hka e
          have es : siV a F T w k cs cp c P = sopV (c - 1) (k + 1) a F T w (unP (F k) (T k) P) * (w k).toInt64 * cp := by
            unfold siV; rw [if_neg e, hcs, dc]; grind
          rw [if_neg e, ← es]
          refine ih (k + 1) c _ P P' _ cp _ (by omega) hF hc hE n1 n2 ?_ hit
          rw [es, hcs, dc]; grind
theorem itL_01 {F T : Nat → Nat} {tree : Int32} : ∀ (m k c : Nat) (P : Nat → Nat), itL F T tree m k c P = 0 ∨ itL F T tree m k c P = 1 := by
  intro m
  induction m with
  | zero => intro k c P; unfold itL; split <;> simp
  | succ m ih => intro k c P; unfold itL; split; split; simp; exact ih _ _ _; exact ih _ _ _
theorem plV_ok {n a : Nat} {F T : Nat → Nat} {w : Nat → Int32} (h : netOk n a F T w) (tree : Int32) : plV n a F T w tree = placeV n a F T w tree := by
  unfold plV placeV itV
  by_cases n0 : n = 0
  · subst n0
    have ha : a = 0 := by
      rcases Nat.eq_zero_or_pos a with q | q
      · exact q
      · have := h.n0 q; omega
    subst ha
    rw [if_pos (Or.inl rfl)]
    have : (if tree < 0 then (0 : Int32) else if tree >>> (nI 0 &&& 31) = 0 then itL F T tree 0 0 0 (fun v => v) else 0) = 0 := by
      split
      · rfl
      · split <;> rfl
    rw [if_pos this]
  · by_cases c1 : tree < 0
    · rw [if_pos (Or.inr (Or.inl c1)), if_pos c1, if_pos rfl]
    · by_cases c2 : tree >>> (nI a &&& 31) = 0
      · rw [if_neg (by simp [n0, c1, c2]), if_neg c1, if_pos c2]
        have it := itL_ok (tree := tree) h.2.2.1 (by omega) a 0 n (fun v => v) (fun v => v) 0 (by omega) (FO.id n) (EqP.rf n _)
        rw [Nat.zero_add] at it
        by_cases g : (plG F T tree a 0 (fun v => v) 0 true).2 = true ∧ (plG F T tree a 0 (fun v => v) 0 true).1 + 1 = n
        · rw [if_pos g] at it
          rw [if_pos g, it, if_neg (by decide)]
          unfold sbV
          exact plL_ok h a 0 n x0 _ _ _ 1 0 (by omega) (FO.id n) h.1 (EqP.rf n _) (fun k hk => by omega) (fun k _ _ => rfl) (by grind) it
        · rw [if_neg g] at it
          rw [if_neg g, it, if_pos rfl]
      · rw [if_pos (Or.inr (Or.inr c2)), if_neg c1, if_neg c2, if_pos rfl]
/-- through -/
def thV (n a : Nat) (F T : Nat → Nat) (w : Nat → Int32) (k : Nat) : Int64 := cnV n a F T w x0 (fun v => v) - cnV n a F T w (bset x0 k) (fun v => v)
theorem lap_out {F T : Nat → Nat} {W W' : Nat → Int} {k : Nat} : ∀ (m s : Nat), (∀ j, s ≤ j → j < s + m → j ≠ k → W' j = W j) → W' k = 0 → s ≤ k → k < s + m → ∀ i j, lapL F T W m s i j = lapL F T W' m s i j + W k * lU F T k i * lU F T k j := by
  have same : ∀ (m s : Nat), (∀ j, s ≤ j → j < s + m → W' j = W j) → ∀ i j, lapL F T W m s i j = lapL F T W' m s i j := by
    intro m
    induction m with
    | zero => intro s _ i j; rfl
    | succ m ih => intro s h i j; rw [lapL_s, lapL_s, ih (s + 1) (fun j a b => h j (by omega) (by omega)) i j, h s (by omega) (by omega)]
  intro m
  induction m with
  | zero => intro s _ _ h1 h2; omega
  | succ m ih =>
    intro s h h0 h1 h2 i j
    rw [lapL_s, lapL_s]
    by_cases e : s = k
    · subst e
      rw [same m (s + 1) (fun j a b => h j (by omega) (by omega) (by omega)) i j, h0]; grind
    · rw [ih (s + 1) (fun j a b c => h j (by omega) (by omega) c) h0 (by omega) (by omega) i j, h s (by omega) (by omega) e]; grind
theorem thV_ok {n a k : Nat} {F T : Nat → Nat} {w : Nat → Int32} (h : netOk n a F T w) (hk : k < a) : thV n a F T w k = swV n a F T w k := by
  have hn := h.n0 hk
  have hk2 := h.2.2.1 k hk
  have hw1 : ∀ j, wX w x0 j = (w j).toInt := fun j => by unfold wX x0; rw [if_pos rfl]
  have hw2 : ∀ j, j ≠ k → wX w (bset x0 k) j = (w j).toInt := fun j hj => by unfold wX bset x0; rw [if_neg hj, if_pos rfl]
  have hw3 : wX w (bset x0 k) k = 0 := by unfold wX bset; rw [if_pos rfl]; rfl
  have c1 := cnV_ok (X := x0) hn h.1 h.2.1 h.2.2.1 h.w0 (FO.id n) h.1 (EqP.rf n _)
  have c2 := cnV_ok (X := bset x0 k) hn h.1 h.2.1 h.2.2.1 h.w0 (FO.id n) h.1 (EqP.rf n _)
  rw [← lap_tc a 0 n _ hn (fun j _ hj => h.2.2.1 j (by omega))] at c1 c2
  have lo := lap_out (F := F) (T := T) (W := wX w x0) (W' := wX w (bset x0 k)) (k := k) a 0 (fun j _ _ e => by rw [hw1, hw2 j e]) hw3 (by omega) (by omega)
  unfold thV swV
  rw [← i64_of (cnV n a F T w x0 fun v => v), ← i64_of (cnV n a F T w (bset x0 k) fun v => v), c1, c2]
  by_cases e : F k = T k
  · rw [if_pos e]
    have : mDet (n - 1) (mDel0 (lapL F T (wX w x0) a 0)) = mDet (n - 1) (mDel0 (lapL F T (wX w (bset x0 k)) a 0)) := by
      refine mDet_congr _ _ _ (fun p q _ _ => ?_)
      unfold mDel0
      rw [lo]
      have : ∀ i, lU F T k i = 0 := by intro i; unfold lU; rw [e]; grind
      rw [this, this]; grind
    rw [this]; grind
  · rw [if_neg e]
    have hF2 := (FO.id n).un hk2.1 hk2.2 (x := F k) (y := T k) e
    have hlt : mnN (F k) (T k) < mxN (F k) (T k) := by unfold mnN mxN; split <;> split <;> omega
    have hmx : mxN (F k) (T k) < n := by unfold mxN; split <;> omega
    obtain ⟨d, rfl⟩ : ∃ d, n = d + 2 := ⟨n - 2, by omega⟩
    have hu := lap_hu (F := F) (T := T) (P := fun v => v) (k := k) e
    have dc := lap_dc (c := d) hlt (by omega) (wX w x0 k) (lapL F T (wX w (bset x0 k)) a 0) (lU F T k) (fun i => by rcases hu with q | q; exact Or.inl (q i); exact Or.inr (q i)) hu
    have e1 : mDel0 (lapL F T (wX w x0) a 0) = mDel0 (fun i j => lapL F T (wX w (bset x0 k)) a 0 i j + wX w x0 k * lU F T k i * lU F T k j) := by
      funext p q; unfold mDel0; exact lo _ _
    have ed : d + 2 - 1 = d + 1 := rfl
    have lU0 : ∀ i, lU (fun j => unP (F k) (T k) (fun v => v) (F j)) (fun j => unP (F k) (T k) (fun v => v) (T j)) k i = 0 := by
      intro i
      have : unP (F k) (T k) (fun v => v) (F k) = unP (F k) (T k) (fun v => v) (T k) := by
        have := ((EqP.rf (d + 2) (fun v => v)).un hk2.1 hk2.2 (x := F k) (y := T k) e (F k) (T k) hk2.1 hk2.2).mpr
        apply this
        unfold jmP
        rw [if_neg e, if_pos rfl]
      show ((if unP (F k) (T k) (fun v => v) (F k) = i then (1 : Int) else 0) - (if unP (F k) (T k) (fun v => v) (T k) = i then 1 else 0)) = 0
      rw [this]; grind
    have lo2 := lap_out (F := fun j => unP (F k) (T k) (fun v => v) (F j)) (T := fun j => unP (F k) (T k) (fun v => v) (T j)) (W := wX w x0) (W' := wX w (bset x0 k)) (k := k) a 0 (fun j _ _ e => by rw [hw1, hw2 j e]) hw3 (by omega) (by omega)
    have e2 : mDet d (mDel0 (fun i j => mFold (mnN (F k) (T k)) (mxN (F k) (T k)) (lapL F T (wX w (bset x0 k)) a 0) (mSk (mxN (F k) (T k)) i) (mSk (mxN (F k) (T k)) j))) = tcN F T (fun k => (w k).toInt) a 0 (d + 1) (unP (F k) (T k) (fun v => v)) := by
      rw [← lap_tc a 0 (d + 1) _ (by omega) (fun j _ hj => ⟨hF2.1 _ (h.2.2.1 j (by omega)).1, hF2.1 _ (h.2.2.1 j (by omega)).2⟩)]
      refine mDet_congr _ _ _ (fun p q _ _ => ?_)
      unfold mDel0
      have l1 := lap_uni (F := F) (T := T) (P := fun v => v) (w := wX w (bset x0 k)) hlt a 0 (p + 1) (q + 1)
      have hw : wX w x0 = fun k => (w k).toInt := by funext j; exact hw1 j
      rw [hw] at lo2
      have l2 := lo2 (p + 1) (q + 1)
      rw [lU0, lU0] at l2
      show _ = lapL (fun j => unP (F k) (T k) (fun v => v) (F j)) (fun j => unP (F k) (T k) (fun v => v) (T j)) (fun k => (w k).toInt) a 0 (p + 1) (q + 1)
      rw [l2]
      unfold unP
      rw [l1]; grind
    have ej1 : jnC (F k) (T k) (fun v => v) (d + 2) = d + 1 := by unfold jnC; rw [if_neg e]; rfl
    have ej2 : jnP (F k) (T k) (fun v => v) = unP (F k) (T k) (fun v => v) := by unfold jnP; rw [if_neg e]
    have hlap : (fun k => (fun v => v) (F k)) = F := rfl
    rw [e1, ed, dc, e2, ej1, ej2, sopV_ok (c := d + 1) (by omega) (by omega) (fun j _ hj => ⟨hF2.1 _ (h.2.2.1 j hj).1, hF2.1 _ (h.2.2.1 j hj).2⟩), hw1, i32_64, i64_ofa, i64_ofm, Nat.sub_zero]
    grind
