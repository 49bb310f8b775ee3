/-- the count of bits, as Java does it -/
def uN (x : Int32) : Nat := x.toBitVec.toNat
theorem uN_lt (x : Int32) : uN x < 4294967296 := x.toBitVec.isLt
theorem uN_inj {x y : Int32} (h : uN x = uN y) : x = y := Int32.toBitVec_inj.mp (BitVec.eq_of_toNat_eq h)
theorem uN_add (x y : Int32) : uN (x + y) = (uN x + uN y) % 4294967296 := by
  unfold uN; rw [Int32.toBitVec_add, BitVec.toNat_add]
theorem uN_sub {x y : Int32} (h : uN y ≤ uN x) : uN (x - y) = uN x - uN y := by
  have := uN_lt x
  unfold uN at *
  rw [Int32.toBitVec_sub, BitVec.toNat_sub_of_le h]
theorem uN_and (x y : Int32) : uN (x &&& y) = uN x &&& uN y := by
  unfold uN; rw [Int32.toBitVec_and, BitVec.toNat_and]
theorem uN_or (x y : Int32) : uN (x ||| y) = uN x ||| uN y := by
  unfold uN; rw [Int32.toBitVec_or, BitVec.toNat_or]
theorem uN_jus {x : Int32} {k : Nat} (h : k < 32) : uN (jus x (Int32.ofNat k)) = uN x / 2 ^ k := by
  have e : uN (jus x (Int32.ofNat k)) = (x.toUInt32 >>> ((Int32.ofNat k).toUInt32 &&& Int32.toUInt32 31)).toNat := rfl
  rw [e, UInt32.toNat_shiftRight]
  have e2 : x.toUInt32.toNat = uN x := rfl
  have e3 : ∀ k, k < 32 → ((Int32.ofNat k).toUInt32 &&& Int32.toUInt32 31).toNat % 32 = k := by decide +kernel
  rw [e2, e3 k h, Nat.shiftRight_eq_div_pow]
theorem and_split {k a b m m' : Nat} (ha : a < 2 ^ k) (hm : m < 2 ^ k) : (a + 2 ^ k * b) &&& (m + 2 ^ k * m') = (a &&& m) + 2 ^ k * (b &&& m') := by
  have p : 0 < 2 ^ k := Nat.pow_pos (by decide)
  have h1 : ((a + 2 ^ k * b) &&& (m + 2 ^ k * m')) % 2 ^ k = a &&& m := by
    rw [Nat.and_mod_two_pow, Nat.add_mul_mod_self_left, Nat.add_mul_mod_self_left, Nat.mod_eq_of_lt ha, Nat.mod_eq_of_lt hm]
  have h2 : ((a + 2 ^ k * b) &&& (m + 2 ^ k * m')) / 2 ^ k = b &&& m' := by
    rw [Nat.and_div_two_pow, Nat.add_mul_div_left _ _ p, Nat.add_mul_div_left _ _ p, Nat.div_eq_of_lt ha, Nat.div_eq_of_lt hm, Nat.zero_add, Nat.zero_add]
  have h3 := Nat.mod_add_div ((a + 2 ^ k * b) &&& (m + 2 ^ k * m')) (2 ^ k)
  rw [h1, h2] at h3
  exact h3.symm
/-- four bytes -/
def q4 (a b c d : Nat) : Nat := a + 256 * (b + 256 * (c + 256 * d))
theorem and_8 {a b m m' : Nat} (ha : a < 256) (hm : m < 256) : (a + 256 * b) &&& (m + 256 * m') = (a &&& m) + 256 * (b &&& m') := and_split (k := 8) ha hm
theorem and_q4 {a b c d m : Nat} (ha : a < 256) (hb : b < 256) (hc : c < 256) (hm : m < 256) : q4 a b c d &&& q4 m m m m = q4 (a &&& m) (b &&& m) (c &&& m) (d &&& m) := by
  unfold q4
  rw [and_8 ha hm, and_8 hb hm, and_8 hc hm]
theorem sh_q4 {s a b c d : Nat} (hs : s = 1 ∨ s = 2 ∨ s = 4) : q4 a b c d / 2 ^ s = q4 (a / 2 ^ s + 2 ^ (8 - s) * (b % 2 ^ s)) (b / 2 ^ s + 2 ^ (8 - s) * (c % 2 ^ s)) (c / 2 ^ s + 2 ^ (8 - s) * (d % 2 ^ s)) (d / 2 ^ s) := by
  unfold q4
  rcases hs with rfl | rfl | rfl
  all_goals simp only [Nat.reducePow, Nat.reduceSub]; omega
def y1 (a : Nat) : Nat := a - (a / 2 &&& 85)
def y2 (a : Nat) : Nat := (a &&& 51) + (a / 4 &&& 51)
def y3 (a : Nat) : Nat := (a + a / 16) &&& 15
def pcN : Nat → Nat → Nat
  | 0, _ => 0
  | m + 1, u => u % 2 + pcN m (u / 2)
theorem y_m1 : ∀ a, a < 256 → ∀ c, c < 2 → (a / 2 + 128 * c < 256) ∧ ((a / 2 + 128 * c) &&& 85 = a / 2 &&& 85) := by decide +kernel
theorem y_m2 : ∀ a, a < 256 → ∀ c, c < 4 → (a / 4 + 64 * c < 256) ∧ ((a / 4 + 64 * c) &&& 51 = a / 4 &&& 51) := by decide +kernel
theorem y_b1 : ∀ a, a < 256 → y1 a < 256 ∧ (a / 2 &&& 85) ≤ a := by decide +kernel
theorem y_b2 : ∀ a, a < 256 → y2 (y1 a) < 256 ∧ y2 (y1 a) % 16 ≤ 4 ∧ y2 (y1 a) / 16 ≤ 4 := by decide +kernel
theorem y_b3 : ∀ a, a < 256 → a % 16 ≤ 4 → a / 16 ≤ 4 → ∀ c, c < 5 → (a + a / 16 + 16 * c < 256) ∧ ((a + a / 16 + 16 * c) &&& 15 = y3 a) := by decide +kernel
theorem y_b4 : ∀ a, a < 256 → y3 (y2 (y1 a)) = pcN 8 a ∧ pcN 8 a ≤ 8 := by decide +kernel
theorem q4_lt {a b c d : Nat} (ha : a < 256) (hb : b < 256) (hc : c < 256) (hd : d < 256) : q4 a b c d < 4294967296 := by unfold q4; omega
theorem jb1_ok {x : Int32} {a b c d : Nat} (ha : a < 256) (hb : b < 256) (hc : c < 256) (hd : d < 256) (hx : uN x = q4 a b c d) : uN (jb1 x) = q4 (y1 a) (y1 b) (y1 c) (y1 d) := by
  have e0 : uN (jus x 1 &&& 1431655765) = q4 (a / 2 &&& 85) (b / 2 &&& 85) (c / 2 &&& 85) (d / 2 &&& 85) := by
    rw [uN_and, show (1 : Int32) = Int32.ofNat 1 from rfl, uN_jus (by decide), hx, sh_q4 (Or.inl rfl), show uN 1431655765 = q4 85 85 85 85 by decide +kernel]
    simp only [Nat.reducePow, Nat.reduceSub]
    rw [and_q4 (y_m1 a ha _ (by omega)).1 (y_m1 b hb _ (by omega)).1 (y_m1 c hc _ (by omega)).1 (by decide), (y_m1 a ha _ (by omega)).2, (y_m1 b hb _ (by omega)).2, (y_m1 c hc _ (by omega)).2]
  have l1 := (y_b1 a ha).2
  have l2 := (y_b1 b hb).2
  have l3 := (y_b1 c hc).2
  have l4 := (y_b1 d hd).2
  unfold jb1
  rw [uN_sub (by rw [e0, hx]; unfold q4; omega), e0, hx]
  unfold y1 q4
  omega
theorem jb2_ok {x : Int32} {a b c d : Nat} (ha : a < 256) (hb : b < 256) (hc : c < 256) (wa : y2 a < 256) (wb : y2 b < 256) (wc : y2 c < 256) (wd : y2 d < 256) (hx : uN x = q4 a b c d) : uN (jb2 x) = q4 (y2 a) (y2 b) (y2 c) (y2 d) := by
  have e0 : uN (jus x 2 &&& 858993459) = q4 (a / 4 &&& 51) (b / 4 &&& 51) (c / 4 &&& 51) (d / 4 &&& 51) := by
    rw [uN_and, show (2 : Int32) = Int32.ofNat 2 from rfl, uN_jus (by decide), hx, sh_q4 (Or.inr (Or.inl rfl)), show uN 858993459 = q4 51 51 51 51 by decide +kernel]
    simp only [Nat.reducePow, Nat.reduceSub]
    rw [and_q4 (y_m2 a ha _ (by omega)).1 (y_m2 b hb _ (by omega)).1 (y_m2 c hc _ (by omega)).1 (by decide), (y_m2 a ha _ (by omega)).2, (y_m2 b hb _ (by omega)).2, (y_m2 c hc _ (by omega)).2]
  unfold jb2
  rw [uN_add, e0, uN_and, hx, show uN 858993459 = q4 51 51 51 51 by decide +kernel, and_q4 ha hb hc (by decide)]
  have := q4_lt wa wb wc wd
  rw [show q4 (a &&& 51) (b &&& 51) (c &&& 51) (d &&& 51) + q4 (a / 4 &&& 51) (b / 4 &&& 51) (c / 4 &&& 51) (d / 4 &&& 51) = q4 (y2 a) (y2 b) (y2 c) (y2 d) by unfold y2 q4; omega]
  exact Nat.mod_eq_of_lt this
theorem jb3_ok {x : Int32} {a b c d : Nat} (ha : a < 256 ∧ a % 16 ≤ 4 ∧ a / 16 ≤ 4) (hb : b < 256 ∧ b % 16 ≤ 4 ∧ b / 16 ≤ 4) (hc : c < 256 ∧ c % 16 ≤ 4 ∧ c / 16 ≤ 4) (hd : d < 256 ∧ d % 16 ≤ 4 ∧ d / 16 ≤ 4) (hx : uN x = q4 a b c d) : uN (jb3 x) = q4 (y3 a) (y3 b) (y3 c) (y3 d) := by
  have r1 := y_b3 a ha.1 ha.2.1 ha.2.2 (b % 16) (by omega)
  have r2 := y_b3 b hb.1 hb.2.1 hb.2.2 (c % 16) (by omega)
  have r3 := y_b3 c hc.1 hc.2.1 hc.2.2 (d % 16) (by omega)
  have r4 := y_b3 d hd.1 hd.2.1 hd.2.2 0 (by omega)
  have e0 : uN (x + jus x 4) = q4 (a + a / 16 + 16 * (b % 16)) (b + b / 16 + 16 * (c % 16)) (c + c / 16 + 16 * (d % 16)) (d + d / 16) := by
    rw [uN_add, show (4 : Int32) = Int32.ofNat 4 from rfl, uN_jus (by decide), hx, sh_q4 (Or.inr (Or.inr rfl))]
    simp only [Nat.reducePow, Nat.reduceSub]
    have := q4_lt r1.1 r2.1 r3.1 (show d + d / 16 < 256 by omega)
    rw [show q4 a b c d + q4 (a / 16 + 16 * (b % 16)) (b / 16 + 16 * (c % 16)) (c / 16 + 16 * (d % 16)) (d / 16) = q4 (a + a / 16 + 16 * (b % 16)) (b + b / 16 + 16 * (c % 16)) (c + c / 16 + 16 * (d % 16)) (d + d / 16) by unfold q4; omega]
    exact Nat.mod_eq_of_lt this
  unfold jb3
  rw [uN_and, e0, show uN 252645135 = q4 15 15 15 15 by decide +kernel, and_q4 r1.1 r2.1 r3.1 (by decide), r1.2, r2.2, r3.2]
  have := r4.2
  simp only [Nat.mul_zero, Nat.add_zero] at this
  rw [this]
theorem jbc_ok (x : Int32) {a b c d : Nat} (ha : a < 256) (hb : b < 256) (hc : c < 256) (hd : d < 256) (hx : uN x = q4 a b c d) : jbc x = nI (pcN 8 a + pcN 8 b + pcN 8 c + pcN 8 d) := by
  have s1 := jb1_ok ha hb hc hd hx
  have s2 := jb2_ok (y_b1 a ha).1 (y_b1 b hb).1 (y_b1 c hc).1 (y_b2 a ha).1 (y_b2 b hb).1 (y_b2 c hc).1 (y_b2 d hd).1 s1
  have s3 := jb3_ok (y_b2 a ha) (y_b2 b hb) (y_b2 c hc) (y_b2 d hd) s2
  rw [(y_b4 a ha).1, (y_b4 b hb).1, (y_b4 c hc).1, (y_b4 d hd).1] at s3
  have p1 := (y_b4 a ha).2
  have p2 := (y_b4 b hb).2
  have p3 := (y_b4 c hc).2
  have p4 := (y_b4 d hd).2
  generalize pcN 8 a = a1 at *
  generalize pcN 8 b = b1 at *
  generalize pcN 8 c = c1 at *
  generalize pcN 8 d = d1 at *
  apply uN_inj
  unfold jbc
  generalize jb3 (jb2 (jb1 x)) = w at s3
  have s4 : uN (jb4 w) = q4 (a1 + b1) (b1 + c1) (c1 + d1) d1 := by
    unfold jb4
    rw [uN_add, show (8 : Int32) = Int32.ofNat 8 from rfl, uN_jus (by decide), s3]
    unfold q4
    simp only [Nat.reducePow]
    omega
  have s5 : uN (jb5 (jb4 w)) = q4 (a1 + b1 + c1 + d1) (b1 + c1 + d1) (c1 + d1) d1 := by
    unfold jb5
    have r : q4 (a1 + b1) (b1 + c1) (c1 + d1) d1 / 65536 = c1 + d1 + 256 * d1 := by unfold q4; omega
    rw [uN_add, show (16 : Int32) = Int32.ofNat 16 from rfl, uN_jus (by decide), s4]
    simp only [Nat.reducePow]
    rw [r]
    unfold q4
    omega
  rw [uN_and, s5, show uN 63 = 2 ^ 6 - 1 by decide +kernel, Nat.and_two_pow_sub_one_eq_mod]
  have : uN (nI (a1 + b1 + c1 + d1)) = a1 + b1 + c1 + d1 := by
    have : ∀ k, k < 33 → uN (nI k) = k := by decide +kernel
    exact this _ (by omega)
  rw [this]
  unfold q4
  omega
theorem pcN_split {m M : Nat} (hM : M = 8 + m) (u : Nat) : pcN M u = pcN 8 (u % 256) + pcN m (u / 256) := by
  subst hM
  have h : ∀ k u, pcN (k + m) u = pcN k (u % 2 ^ k) + pcN m (u / 2 ^ k) := by
    intro k
    induction k with
    | zero => intro u; simp [pcN]
    | succ k ih =>
      intro u
      rw [Nat.add_right_comm, pcN, ih (u / 2), pcN]
      have e1 : u % 2 ^ (k + 1) % 2 = u % 2 := by
        rw [Nat.pow_succ]; exact Nat.mod_mul_left_mod u (2 ^ k) 2
      have e2 : u % 2 ^ (k + 1) / 2 = u / 2 % 2 ^ k := by
        rw [Nat.pow_succ, Nat.mul_comm, Nat.mod_mul_right_div_self]
      have e3 : u / 2 / 2 ^ k = u / 2 ^ (k + 1) := by rw [Nat.div_div_eq_div_mul, Nat.pow_succ, Nat.mul_comm]
      rw [e1, e2, e3]; omega
  exact h 8 u
theorem jbc_pc (x : Int32) : jbc x = nI (pcN 32 (uN x)) := by
  have hx := uN_lt x
  have e : uN x = q4 (uN x % 256) (uN x / 256 % 256) (uN x / 256 / 256 % 256) (uN x / 256 / 256 / 256) := by unfold q4; omega
  rw [jbc_ok x (by omega) (by omega) (by omega) (by omega) e]
  rw [pcN_split (M := 32) (m := 24) rfl, pcN_split (M := 24) (m := 16) rfl, pcN_split (M := 16) (m := 8) rfl, Nat.add_assoc, Nat.add_assoc]
theorem pcN_top : ∀ m k u, k < m → u < 2 ^ k → pcN m (u + 2 ^ k) = pcN m u + 1 := by
  intro m
  induction m with
  | zero => intro k u h; omega
  | succ m ih =>
    intro k u hk hu
    cases k with
    | zero =>
      have : u = 0 := by simp at hu; exact hu
      subst this
      have z : ∀ m, pcN m 0 = 0 := by
        intro m
        induction m with
        | zero => rfl
        | succ m ih => rw [pcN, ih]
      simp [pcN, z]
    | succ k =>
      have e : (2 : Nat) ^ (k + 1) = 2 * 2 ^ k := by rw [Nat.pow_succ]; omega
      rw [e] at hu ⊢
      rw [pcN, pcN, show (u + 2 * 2 ^ k) / 2 = u / 2 + 2 ^ k by omega, ih k (u / 2) (by omega) (by omega)]
      omega
theorem ft_pc {n a : Nat} {F T : Nat → Nat} (hft : ∀ k, k < a → F k < n ∧ T k < n) (ha : a ≤ 30) : ∀ (m k : Nat) (t : Int32) (c : Nat) (P : Nat → Nat), k + m = a → FO n c P → uN t < 2 ^ k → pcN 32 (uN (ftL F T m k t c P).1) + (ftL F T m k t c P).2.1 = pcN 32 (uN t) + c := by
  intro m
  induction m with
  | zero => intro k t c P _ _ _; rfl
  | succ m ih =>
    intro k t c P hk hF ht
    have hk2 := hft k (by omega)
    have hp : (2 : Nat) ^ (k + 1) = 2 * 2 ^ k := by rw [Nat.pow_succ]; omega
    unfold ftL
    by_cases e : P (F k) = P (T k)
    · have ej1 : jnC (F k) (T k) P c = c := by unfold jnC; rw [if_pos e]
      have ej2 : jnP (F k) (T k) P = P := by unfold jnP; rw [if_pos e]
      rw [if_pos e, ej1, ej2]
      exact ih (k + 1) t c P (by omega) hF (by omega)
    · have ej1 : jnC (F k) (T k) P c = c - 1 := by unfold jnC; rw [if_neg e]
      have ej2 : jnP (F k) (T k) P = unP (F k) (T k) P := by unfold jnP; rw [if_neg e]
      have c1 := hF.1 (F k) hk2.1
      have hu : uN (t ||| (1 <<< (nI k &&& 31))) = uN t + 2 ^ k := by
        have : ∀ k, k < 30 → uN (1 <<< (nI k &&& 31)) = 2 ^ k := by decide +kernel
        have h3 := Nat.two_pow_add_eq_or_of_lt ht 1
        rw [Nat.mul_one] at h3
        rw [uN_or, this k (by omega), Nat.or_comm, ← h3]
        omega
      rw [if_neg e, ej1, ej2, ih (k + 1) _ (c - 1) _ (by omega) (hF.un hk2.1 hk2.2 e) (by rw [hu]; omega), hu, pcN_top 32 k (uN t) (by omega) ht]
      omega
theorem i32_sub30 : ∀ x, x ≤ 30 → ∀ y, y ≤ x → nI x - nI y = nI (x - y) := by decide +kernel
theorem pc_0 : pcN 32 (uN 0) = 0 := by decide +kernel
theorem told3 {n a : Nat} {F T : Nat → Nat} (hft : ∀ k, k < a → F k < n ∧ T k < n) (ha : a ≤ 30) : nI a - jbc (ftV n a F T).1 = nI (ttV a F T).1 := by
  have h1 : pcN 32 (uN (ftV n a F T).1) + (ftV n a F T).2.1 = pcN 32 (uN 0) + n := ft_pc hft ha a 0 0 n (fun v => v) (Nat.zero_add a) (FO.id n) (by decide +kernel)
  have h2 := (tt_ok hft ha).2
  have h4 := tt_rk (a := a) (F := F) (T := T)
  rw [jbc_pc]
  rw [pc_0] at h1
  generalize pcN 32 (uN (ftV n a F T).1) = p at *
  rw [i32_sub30 a ha p (by omega)]
  congr 1
  omega
