/-- forests: a net with one node more -/
def prZ (f : Nat → Int) : Nat → Nat → Int
  | 0, _ => 1
  | m + 1, k => f k * prZ f m (k + 1)
theorem prZ_pos {f : Nat → Int} : ∀ m k, (∀ j, k ≤ j → j < k + m → 0 ≤ f j) → 0 ≤ prZ f m k := by
  intro m
  induction m with
  | zero => intro k _; show (0 : Int) ≤ 1; decide
  | succ m ih => intro k h; exact Int.mul_nonneg (h k (by omega) (by omega)) (ih (k + 1) (fun j a b => h j (by omega) (by omega)))
theorem tcN_pr {F T : Nat → Nat} {w nu de : Nat → Int} : ∀ (m k c : Nat) (P : Nat → Nat), 0 < c → (∀ j, k ≤ j → j < k + m → 0 ≤ w j ∧ 0 ≤ de j ∧ 0 ≤ nu j ∧ de j * (18 + w j) ≤ nu j * 18) → (∀ j, k ≤ j → j < k + m → P (F j) < c ∧ P (T j) < c) → tcN F T w m k c P * prZ de m k ≤ prZ nu m k * 18 ^ (c - 1) := by
  intro m
  induction m with
  | zero =>
    intro k c P hc _ _
    unfold tcN prZ
    by_cases c1 : c = 1
    · subst c1; decide
    · rw [if_neg c1]
      have : (0 : Int) ≤ 18 ^ (c - 1) := Int.pow_nonneg (by decide)
      omega
  | succ m ih =>
    intro k c P hc hw hP
    have h1 := ih (k + 1) c P hc (fun j h1 h2 => hw j (by omega) (by omega)) (fun j h1 h2 => hP j (by omega) (by omega))
    have hk := hP k (by omega) (by omega)
    obtain ⟨w0, d0, n0, hr⟩ := hw k (by omega) (by omega)
    have N0 := prZ_pos (f := nu) m (k + 1) (fun j h1 h2 => (hw j (by omega) (by omega)).2.2.1)
    have D0 := prZ_pos (f := de) m (k + 1) (fun j h1 h2 => (hw j (by omega) (by omega)).2.1)
    unfold tcN prZ
    by_cases e : P (F k) = P (T k)
    · rw [if_pos e, Int.add_zero]
      generalize prZ nu m (k + 1) = N at *
      generalize prZ de m (k + 1) = D at *
      generalize tcN F T w m (k + 1) c P = X at *
      have p18 : (0 : Int) ≤ 18 ^ (c - 1) := Int.pow_nonneg (by decide)
      generalize (18 : Int) ^ (c - 1) = E at *
      have a1 : X * (de k * D) = de k * (X * D) := by grind
      have a2 : de k * (X * D) ≤ de k * (N * E) := Int.mul_le_mul_of_nonneg_left h1 d0
      have a3 : de k ≤ nu k := by
        have := Int.mul_nonneg d0 w0
        have : de k * 18 ≤ nu k * 18 := by grind
        omega
      have a4 : de k * (N * E) ≤ nu k * (N * E) := Int.mul_le_mul_of_nonneg_right a3 (Int.mul_nonneg N0 p18)
      have a5 : nu k * N * E = nu k * (N * E) := by grind
      omega
    · rw [if_neg e]
      have h2 := ih (k + 1) (c - 1) (unP (F k) (T k) P) (by omega) (fun j h1 h2 => hw j (by omega) (by omega)) (fun j h1 h2 => by
        have := hP j (by omega) (by omega)
        exact ⟨unP_lt hk.1 hk.2 e this.1, unP_lt hk.1 hk.2 e this.2⟩)
      obtain ⟨d, rfl⟩ : ∃ d, c = d + 2 := ⟨c - 2, by omega⟩
      have e1 : d + 2 - 1 = d + 1 := rfl
      rw [e1] at h1 h2 ⊢
      have e3 : d + 1 - 1 = d := rfl
      rw [e3] at h2
      generalize prZ nu m (k + 1) = N at *
      generalize prZ de m (k + 1) = D at *
      generalize tcN F T w m (k + 1) (d + 2) P = X at *
      generalize tcN F T w m (k + 1) (d + 1) (unP (F k) (T k) P) = Y at *
      rw [Int.pow_succ] at h1 ⊢
      have p18 : (0 : Int) ≤ 18 ^ d := Int.pow_nonneg (by decide)
      generalize (18 : Int) ^ d = E at *
      have a1 : (X + w k * Y) * (de k * D) = de k * (X * D) + de k * w k * (Y * D) := by grind
      have a2 : de k * (X * D) ≤ de k * (N * (E * 18)) := Int.mul_le_mul_of_nonneg_left h1 d0
      have a3 : de k * w k * (Y * D) ≤ de k * w k * (N * E) := Int.mul_le_mul_of_nonneg_left h2 (Int.mul_nonneg d0 w0)
      have a4 : de k * (18 + w k) * (N * E) ≤ nu k * 18 * (N * E) := Int.mul_le_mul_of_nonneg_right hr (Int.mul_nonneg N0 p18)
      have a5 : de k * (18 + w k) * (N * E) = de k * (N * (E * 18)) + de k * w k * (N * E) := by grind
      have a6 : nu k * N * (E * 18) = nu k * 18 * (N * E) := by grind
      omega
def exF (a : Nat) (F : Nat → Nat) : Nat → Nat := fun k => if k < a then F k + 1 else 0
def exT (a : Nat) (T : Nat → Nat) : Nat → Nat := fun k => if k < a then T k + 1 else k - a + 1
def exW (a : Nat) (W : Nat → Int) : Nat → Int := fun k => if k < a then W k else 1
theorem lap_ex {a : Nat} {F T : Nat → Nat} {W : Nat → Int} (i j : Nat) : ∀ (m k n : Nat), k + m = a → lapL (exF a F) (exT a T) (exW a W) (m + n) k (i + 1) (j + 1) = lapL F T W m k i j + (if i = j ∧ i < n then 1 else 0) := by
  have ext : ∀ n s, lapL (exF a F) (exT a T) (exW a W) n (a + s) (i + 1) (j + 1) = (if i = j ∧ s ≤ i ∧ i < s + n then 1 else 0) := by
    intro n
    induction n with
    | zero => intro s; rw [if_neg (by omega)]; rfl
    | succ n ih =>
      intro s
      rw [lapL_s, show a + s + 1 = a + (s + 1) by omega, ih (s + 1)]
      unfold lU exF exT exW
      rw [if_neg (show ¬ a + s < a by omega), if_neg (show ¬ a + s < a by omega), if_neg (show ¬ a + s < a by omega), show a + s - a + 1 = s + 1 by omega]
      by_cases c1 : i = s <;> by_cases c2 : j = s
      · subst c1; subst c2; rw [if_neg (by omega)]; simp
      · have e1 : ¬ (i = j ∧ s + 1 ≤ i ∧ i < s + 1 + n) := by omega
        have e2 : ¬ (i = j ∧ s ≤ i ∧ i < s + (n + 1)) := by omega
        have e3 : ¬ s = j := by omega
        rw [if_neg e1, if_neg e2]; simp [e3]
      · have e1 : ¬ (i = j ∧ s + 1 ≤ i ∧ i < s + 1 + n) := by omega
        have e2 : ¬ (i = j ∧ s ≤ i ∧ i < s + (n + 1)) := by omega
        have e3 : ¬ s = i := by omega
        rw [if_neg e1, if_neg e2]; simp [e3]
      · simp [show ¬ s = i by omega]
        by_cases c3 : i = j ∧ s + 1 ≤ i ∧ i < s + 1 + n
        · rw [if_pos c3, if_pos (by omega)]
        · rw [if_neg c3, if_neg (by omega)]
  intro m
  induction m with
  | zero =>
    intro k n hk
    have := ext n 0
    rw [Nat.zero_add, show k = a + 0 by omega, this]
    have z : lapL F T W 0 (a + 0) i j = 0 := rfl
    rw [z, Int.zero_add]
    by_cases c : i = j ∧ i < n
    · rw [if_pos c, if_pos (by omega)]
    · rw [if_neg c, if_neg (by omega)]
  | succ m ih =>
    intro k n hk
    rw [show m + 1 + n = m + n + 1 by omega, lapL_s, lapL_s, ih (k + 1) n (by omega)]
    have l1 : ∀ i, lU (exF a F) (exT a T) k (i + 1) = lU F T k i := by
      intro i
      unfold lU exF exT
      rw [if_pos (show k < a by omega), if_pos (show k < a by omega)]
      simp
    rw [l1, l1]
    unfold exW
    rw [if_pos (show k < a by omega)]
    grind
theorem prZ_two {a : Nat} {x y : Int} : ∀ (m k n : Nat), k + m = a → prZ (fun k => if k < a then x else y) (m + n) k = x ^ m * y ^ n := by
  have ext : ∀ n s, prZ (fun k => if k < a then x else y) n (a + s) = y ^ n := by
    intro n
    induction n with
    | zero => intro s; simp [prZ]
    | succ n ih => intro s; unfold prZ; rw [show a + s + 1 = a + (s + 1) by omega, ih (s + 1)]; simp [Int.pow_succ]; grind
  intro m
  induction m with
  | zero =>
    intro k n hk
    have := ext n 0
    rw [Nat.zero_add, show k = a + 0 by omega, this]; grind
  | succ m ih =>
    intro k n hk
    rw [show m + 1 + n = m + n + 1 by omega]
    unfold prZ
    rw [ih (k + 1) n (by omega), if_pos (by omega), Int.pow_succ]; grind
/-- forests of the reference and of the class -/
def foV (n a : Nat) (F T : Nat → Nat) (w : Nat → Int32) : Int64 := dmV (nmV n (fun v => v) none none).1 (rsV a F T w x0 (fun v => v) (nmV n (fun v => v) none none).2 1)
theorem mkM_ok {M : Nat → Nat → Int64} : ∀ (m i j : Nat), mkM M m i j = M i j + (if i = j ∧ i < m then 1 else 0) := by
  intro m
  induction m with
  | zero => intro i j; rw [if_neg (by omega)]; show M i j = M i j + 0; grind
  | succ m ih =>
    intro i j
    unfold mkM mset
    rw [ih, ih]
    by_cases c : i = m ∧ j = m
    · rw [if_pos c, if_neg (by omega), if_pos (by omega), c.1, c.2]; grind
    · rw [if_neg c]
      by_cases d : i = j ∧ i < m
      · rw [if_pos d, if_pos (by omega)]
      · rw [if_neg d, if_neg (by omega)]
theorem ex_bd {a n : Nat} {t : Int} (_ : 0 ≤ t) (ha : a ≤ 30) (hn : n ≤ 10) (h : t * (2 ^ a * 18 ^ n) ≤ 3 ^ a * 19 ^ n * 18 ^ n) : t < 4611685975477714963 := by
  have p18 : (0 : Int) < 18 ^ n := Int.pow_pos (by decide)
  have h1 : t * 2 ^ a ≤ 3 ^ a * 19 ^ n := by
    have : t * 2 ^ a * 18 ^ n ≤ 3 ^ a * 19 ^ n * 18 ^ n := by
      have : t * 2 ^ a * 18 ^ n = t * (2 ^ a * 18 ^ n) := by grind
      omega
    exact Int.le_of_mul_le_mul_right this p18
  have h2 : (19 : Int) ^ n ≤ 19 ^ 10 := by
    have : (19 : Nat) ^ n ≤ 19 ^ 10 := Nat.pow_le_pow_right (by decide) hn
    have e : ((19 ^ n : Nat) : Int) = (19 : Int) ^ n := by rw [Int.natCast_pow]; rfl
    have e2 : ((19 ^ 10 : Nat) : Int) = (19 : Int) ^ 10 := by decide
    omega
  have key : ∀ d b, b + d = 30 → (3 : Int) ^ b * 2 ^ d ≤ 3 ^ 30 := by
    intro d
    induction d with
    | zero => intro b hb; rw [show b = 30 by omega]; decide
    | succ d ih =>
      intro b hb
      have := ih (b + 1) (by omega)
      have e1 : (3 : Int) ^ (b + 1) * 2 ^ d = 3 * (3 ^ b * 2 ^ d) := by rw [Int.pow_succ]; grind
      have e2 : (3 : Int) ^ b * 2 ^ (d + 1) = 2 * (3 ^ b * 2 ^ d) := by rw [Int.pow_succ]; grind
      have e3 : (0 : Int) ≤ 3 ^ b * 2 ^ d := Int.mul_nonneg (Int.pow_nonneg (by decide)) (Int.pow_nonneg (by decide))
      omega
  have h3 := key (30 - a) a (by omega)
  have e30 : (2 : Int) ^ a * 2 ^ (30 - a) = 2 ^ 30 := by rw [← Int.pow_add]; congr 1; omega
  have q2 : (0 : Int) ≤ 2 ^ (30 - a) := Int.pow_nonneg (by decide)
  have q3 : (0 : Int) ≤ 3 ^ a := Int.pow_nonneg (by decide)
  have h4 : t * 2 ^ a * 2 ^ (30 - a) ≤ 3 ^ a * 19 ^ n * 2 ^ (30 - a) := Int.mul_le_mul_of_nonneg_right h1 q2
  have h5 : t * 2 ^ a * 2 ^ (30 - a) = t * 2 ^ 30 := by rw [Int.mul_assoc, e30]
  have h6 : 3 ^ a * 19 ^ n * 2 ^ (30 - a) = (3 ^ a * 2 ^ (30 - a)) * (19 : Int) ^ n := by grind
  have h7 : (3 ^ a * 2 ^ (30 - a)) * (19 : Int) ^ n ≤ 3 ^ 30 * 19 ^ 10 := Int.mul_le_mul h3 h2 (Int.pow_nonneg (by decide)) (by decide)
  have c1 : (2 : Int) ^ 30 = 1073741824 := by decide
  have c2 : (3 : Int) ^ 30 * 19 ^ 10 = 205891132094649 * 6131066257801 := by decide
  rw [c1] at h5
  omega
theorem foV_ok {n a : Nat} {F T : Nat → Nat} {w : Nat → Int32} (h : netOk n a F T w) : foV n a F T w = dtN n (mkM (fbM F T w Z0 a) n) := by
  obtain ⟨e1, e2⟩ := nmV_id n none none
  obtain ⟨r1, r2⟩ := rkN_all (al := alB none none) n (fun v _ => by unfold alB; simp)
  have eI : ∀ v, v < n → (nmV n (fun v => v) none none).2 v = some v := by
    intro v hv
    rw [e2 v hv, if_pos (by unfold alB; simp)]
    congr 1
    exact (rkN_all (al := alB none none) v (fun v _ => by unfold alB; simp)).1
  unfold foV
  rw [e1, r1]
  generalize (nmV n (fun v => v) none none).2 = I at eI
  have hwx : wX w x0 = wZ w := by funext k; unfold wX x0 wZ; rw [if_pos rfl]
  have li : ∀ i j, ∀ m k, k + m = a → lapI F T (wZ w) I m k i j = lapL F T (wZ w) m k i j := by
    intro i j m
    induction m with
    | zero => intro k _; rfl
    | succ m ih =>
      intro k hk
      have hk2 := h.2.2.1 k (by omega)
      unfold lapI
      rw [lapL_s, ih (k + 1) (by omega)]
      unfold lV lU
      rw [eI _ hk2.1, eI _ hk2.2]
      simp
  have ha := h.2.1
  have en : ∀ i j, i < n → j < n → (rsV a F T w x0 (fun v => v) I 1 i j).toInt = mDel0 (lapL (exF a F) (exT a T) (exW a (wZ w)) (a + n) 0) i j := by
    intro i j hi hj
    have r := rsL_ok (X := x0) (P := fun v => v) (I := I) h.2.2.1 (fun k hk => (h.w0 k hk).1) (fun u v _ _ e => by have : u = v := e; rw [this]) a 0 Z0 i j (by omega)
    have z : Z0 i j = 0 := rfl
    have b := lapI_le (F := F) (T := T) (I := I) h.wz a 0 i j (by omega)
    have e : rsV a F T w x0 (fun v => v) I 1 i j = Int64.ofInt (lapI F T (wZ w) I a 0 i j + (if i = j then 1 else 0)) := by
      unfold rsV
      rw [r, z, hwx, i64_ofa]
      have z1 : Int64.ofInt 1 = 1 := rfl
      have z0 : Int64.ofInt 0 = 0 := rfl
      split <;> simp [z1, z0]
    rw [e, i64_oft (by split <;> omega) (by split <;> omega), li i j a 0 (by omega)]
    unfold mDel0
    rw [lap_ex i j a 0 n (by omega)]
    congr 1
    by_cases c : i = j
    · rw [if_pos c, if_pos ⟨c, hi⟩]
    · rw [if_neg c, if_neg (fun q => c q.1)]
  have hb : ∀ j, 0 ≤ j → j < 0 + (a + n) → exF a F j < n + 1 ∧ exT a T j < n + 1 := by
    intro j _ hj
    unfold exF exT
    by_cases c : j < a
    · have := h.2.2.1 j c
      rw [if_pos c, if_pos c]; omega
    · rw [if_neg c, if_neg c]; omega
  have hw' : ∀ j, 0 ≤ j → j < 0 + (a + n) → 0 ≤ exW a (wZ w) j := by
    intro j _ hj
    unfold exW
    by_cases c : j < a
    · rw [if_pos c]; exact (h.wz j c).1
    · rw [if_neg c]; decide
  have td := lap_tc (F := exF a F) (T := exT a T) (w := exW a (wZ w)) (a + n) 0 (n + 1) (fun v => v) (by omega) hb
  have tp := tcN_pos (F := exF a F) (T := exT a T) (w := exW a (wZ w)) (a + n) 0 (n + 1) (fun v => v) hw'
  have tl := tcN_pr (F := exF a F) (T := exT a T) (w := exW a (wZ w)) (nu := fun k => if k < a then 3 else 19) (de := fun k => if k < a then 2 else 18) (a + n) 0 (n + 1) (fun v => v) (by omega) (fun j h1 h2 => by
    refine ⟨hw' j h1 h2, ?_⟩
    unfold exW
    by_cases c : j < a
    · have := h.wz j c
      simp only [if_pos c]; omega
    · simp only [if_neg c]; omega) hb
  rw [prZ_two a 0 n (by omega), prZ_two a 0 n (by omega)] at tl
  have tl2 := ex_bd tp ha h.1 tl
  rw [← td] at tp tl2
  have en1 : n + 1 - 1 = n := rfl
  rw [en1] at tp tl2
  have ed : mDet n (fun p q => (rsV a F T w x0 (fun v => v) I 1 p q).toInt) = mDet n (mDel0 (lapL (exF a F) (exT a T) (exW a (wZ w)) (a + n) 0)) := mDet_congr _ _ _ (fun p q hp hq => en p q hp hq)
  have dm := dmV_ok (n := n) (A := rsV a F T w x0 (fun v => v) I 1) (by rw [ed]; exact tp) (by rw [ed]; exact tl2)
  rw [← i64_of (dmV _ _), dm, ed, dtN_ok, ← mDet_of]
  refine mDet_congr _ _ _ (fun p q hp hq => ?_)
  unfold mDel0
  rw [mkM_ok, fbM_ok, lap_ex p q a 0 n (by omega), i64_ofa]
  have z : Z0 p q = 0 := rfl
  have z1 : Int64.ofInt 1 = 1 := rfl
  have z0 : Int64.ofInt 0 = 0 := rfl
  rw [z, Int64.zero_add]
  split <;> simp [z1, z0]
