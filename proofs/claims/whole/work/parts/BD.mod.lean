theorem im_mul {m a a' b b' : Int} (h1 : a % m = a' % m) (h2 : b % m = b' % m) : (a * b) % m = (a' * b') % m := by
  rw [Int.mul_emod, h1, h2, ← Int.mul_emod]
theorem im_add {m a a' b b' : Int} (h1 : a % m = a' % m) (h2 : b % m = b' % m) : (a + b) % m = (a' + b') % m := by
  rw [Int.add_emod, h1, h2, ← Int.add_emod]
theorem mSum_mod {m : Int} {f g : Nat → Int} : ∀ n, (∀ i, i < n → f i % m = g i % m) → mSum n f % m = mSum n g % m := by
  intro n
  induction n with
  | zero => intro _; rfl
  | succ n ih => intro h; unfold mSum; rw [Int.add_emod, ih (fun i hi => h i (by omega)), h n (by omega), ← Int.add_emod]
theorem mDet_mod {m : Int} : ∀ (n : Nat) (M M' : Nat → Nat → Int), (∀ p q, p < n → q < n → M p q % m = M' p q % m) → mDet n M % m = mDet n M' % m := by
  intro n
  induction n with
  | zero => intro M M' _; rfl
  | succ n ih =>
    intro M M' h
    unfold mDet
    refine mSum_mod _ (fun i hi => ?_)
    exact im_mul (im_mul rfl (h i 0 hi (by omega))) (ih _ (fun p q => M' (mSk i p) (q + 1)) (fun p q hp hq => h _ _ (mSk_lt hp) (by omega)))
/-- column 0 with one entry, at the top -/
theorem mDet_col0 {R : Type} [Lean.Grind.CommRing R] {n : Nat} {M : Nat → Nat → R} (h : ∀ p, 0 < p → p < n + 1 → M p 0 = 0) : mDet (n + 1) M = M 0 0 * mDet n (fun p q => M (p + 1) (q + 1)) := by
  conv => lhs; unfold mDet
  rw [mSum_one (n + 1) 0 (by omega) (fun i hi hne => by rw [h i (by omega) hi]; grind)]
  have : (fun p q => M (mSk 0 p) (q + 1)) = (fun p q => M (p + 1) (q + 1)) := by funext p q; simp [mSk]
  rw [this]
  simp [mSg]; grind
theorem mDet_zcol {R : Type} [Lean.Grind.CommRing R] {n : Nat} {M : Nat → Nat → R} (h : ∀ p, p < n + 1 → M p 0 = 0) : mDet (n + 1) M = 0 := by
  unfold mDet
  exact mSum_zero _ (fun i hi => by rw [h i hi]; grind)
/-- several rows, each with a multiple of row 0 added -/
theorem mDet_elim {R : Type} [Lean.Grind.CommRing R] {n : Nat} (c : Nat → R) (M : Nat → Nat → R) : ∀ k, k ≤ n → mDet (n + 1) (fun p q => if 0 < p ∧ p < k + 1 then M p q + c p * M 0 q else M p q) = mDet (n + 1) M := by
  intro k
  induction k with
  | zero => intro _; refine mDet_congr _ _ _ (fun p q _ _ => ?_); rw [if_neg (by omega)]
  | succ k ih =>
    intro hk
    rw [← ih (by omega)]
    rw [← mDet_addrow (n := n + 1) (r := k + 1) (s := 0) (by omega) (by omega) (by omega) (c (k + 1)) (fun p q => if 0 < p ∧ p < k + 1 then M p q + c p * M 0 q else M p q)]
    refine mDet_congr _ _ _ (fun p q _ _ => ?_)
    unfold mPut
    by_cases e : p = k + 1
    · subst e
      rw [if_pos (by omega), if_pos rfl]
      simp
    · rw [if_neg e]
      by_cases e2 : 0 < p ∧ p < k + 1
      · rw [if_pos (by omega)]; exact (if_pos e2).symm
      · rw [if_neg (by omega)]; exact (if_neg e2).symm
/-- the reference's modulo -/
def moR (M : Nat → Nat → Int64) (c : Nat) : Nat → Nat → Nat
  | 0, r => r
  | m + 1, r => if M r c = 0 then moR M c m (r + 1) else r
def moE (p f : Int64) (c i : Nat) : Nat → Nat → (Nat → Nat → Int64) → Nat → Nat → Int64
  | 0, _, M => M
  | m + 1, j, M => moE p f c i m (j + 1) (mset M i j (jrem (M i j + (p - f) * M c j) p))
def moI (n : Nat) (p : Int64) (c : Nat) (t : Int64) : Nat → Nat → (Nat → Nat → Int64) → Nat → Nat → Int64
  | 0, _, M => M
  | m + 1, i, M => moI n p c t m (i + 1) (if jrem (M i c * t) p = 0 then M else moE p (jrem (M i c * t) p) c i (n - c) c M)
def swJ (r c j : Nat) (M : Nat → Nat → Int64) : Nat → Nat → Int64 := fun p q => if q < j then swN r c M p q else M p q
def moS (n c r : Nat) (M : Nat → Nat → Int64) : Nat → Nat → Int64 := if r = c then M else swJ r c n M
def moL (n : Nat) (p : Int64) (e : Nat) : Nat → Nat → (Nat → Nat → Int64) → Int64 → Int64
  | 0, _, _, d => d
  | m + 1, c, M, d => if moR M c (n - c) c = n then 0 else
      moL n p e m (c + 1) (moI n p c (pwN p 62 1 (jrem (jrem (moS n c (moR M c (n - c) c) M c c) p + p) p) e) (n - (c + 1)) (c + 1) (moS n c (moR M c (n - c) c) M)) (jrem ((if moR M c (n - c) c = c then d else jrem (p - d) p) * moS n c (moR M c (n - c) c) M c c) p)
def mo0 (p : Int64) (A : Nat → Nat → Int64) : Nat → Nat → Int64 := fun i j => jrem (jrem (A i j) p + p) p
def moV (n : Nat) (p : Int64) (e : Nat) (A : Nat → Nat → Int64) : Int64 := moL n p e n 0 (mo0 p A) 1
def mRg (p : Int) (n : Nat) (M : Nat → Nat → Int64) : Prop := ∀ i j, i < n → j < n → 0 ≤ (M i j).toInt ∧ (M i j).toInt < p
theorem mul_lt62 {x y p : Int} (hp : p < 2147483648) (hx : 0 ≤ x) (hx2 : x < p) (hy : 0 ≤ y) (hy2 : y < p) : 0 ≤ x * y ∧ x * y < 4611686018427387904 := by
  have h1 := Int.mul_nonneg hx hy
  have h2 : x * y ≤ 2147483647 * 2147483647 := Int.mul_le_mul (by omega) (by omega) hy (by omega)
  exact ⟨h1, by omega⟩
theorem i64_mulrem {x y p : Int64} (h0 : 0 < p.toInt) (hp : p.toInt < 2147483648) (hx : 0 ≤ x.toInt) (hx2 : x.toInt < p.toInt) (hy : 0 ≤ y.toInt) (hy2 : y.toInt < p.toInt) : (jrem (x * y) p).toInt = (x.toInt * y.toInt) % p.toInt := by
  have h := mul_lt62 hp hx hx2 hy hy2
  have e := i64_mul (x := x) (y := y) (by omega) (by omega)
  rw [i64_jremE h0 (by rw [e]; omega), e]
theorem pwN_ok {p : Int64} (h0 : 0 < p.toInt) (hp : p.toInt < 2147483648) : ∀ (n a : Nat) (r x : Int64), a < 2 ^ n → 0 ≤ r.toInt → r.toInt < p.toInt → 0 ≤ x.toInt → x.toInt < p.toInt → (pwN p n r x a).toInt = (r.toInt * x.toInt ^ a) % p.toInt := by
  intro n
  induction n with
  | zero =>
    intro a r x ha h1 h2 _ _
    obtain rfl : a = 0 := by simpa using ha
    simp [pwN, Int.emod_eq_of_lt h1 h2]
  | succ n ih =>
    intro a r x ha h1 h2 h3 h4
    unfold pwN
    by_cases c : a = 0
    · subst c; simp [Int.emod_eq_of_lt h1 h2]
    · rw [if_neg c]
      have ex := i64_mulrem h0 hp h3 h4 h3 h4
      have er := i64_mulrem h0 hp h1 h2 h3 h4
      have hx1 : 0 ≤ (jrem (x * x) p).toInt := by rw [ex]; exact Int.emod_nonneg _ (by omega)
      have hx2 : (jrem (x * x) p).toInt < p.toInt := by rw [ex]; exact Int.emod_lt_of_pos _ h0
      have hr1 : 0 ≤ (jrem (r * x) p).toInt := by rw [er]; exact Int.emod_nonneg _ (by omega)
      have hr2 : (jrem (r * x) p).toInt < p.toInt := by rw [er]; exact Int.emod_lt_of_pos _ h0
      have ha2 : a / 2 < 2 ^ n := by rw [Nat.pow_succ] at ha; omega
      have pw : x.toInt ^ a = (if a % 2 = 1 then x.toInt else 1) * (x.toInt * x.toInt) ^ (a / 2) := by
        have e1 : (x.toInt * x.toInt) ^ (a / 2) = x.toInt ^ (2 * (a / 2)) := by
          rw [Int.pow_mul]; congr 1; grind
        rw [e1]
        by_cases o : a % 2 = 1
        · rw [if_pos o]
          have : a = 2 * (a / 2) + 1 := by omega
          conv => lhs; rw [this, Int.pow_succ]
          grind
        · rw [if_neg o]
          have : a = 2 * (a / 2) := by omega
          conv => lhs; rw [this]
          grind
      have pm : ∀ (k : Nat) (u : Int), (u % p.toInt) ^ k % p.toInt = u ^ k % p.toInt := by
        intro k u
        induction k with
        | zero => simp
        | succ k ih => rw [Int.pow_succ, Int.pow_succ, Int.mul_emod, ih, Int.emod_emod, ← Int.mul_emod]
      by_cases o : a % 2 = 1
      · rw [if_pos o, ih _ _ _ ha2 hr1 hr2 hx1 hx2, er, ex, Int.mul_emod, pm, Int.emod_emod, ← Int.mul_emod, pw, if_pos o]
        congr 1; grind
      · rw [if_neg o, ih _ _ _ ha2 h1 h2 hx1 hx2, ex, Int.mul_emod, pm, ← Int.mul_emod, pw, if_neg o]
        congr 1; grind
theorem mRg.set {p : Int} {n i j : Nat} {M : Nat → Nat → Int64} {v : Int64} (h : mRg p n M) (h1 : 0 ≤ v.toInt) (h2 : v.toInt < p) : mRg p n (mset M i j v) := by
  intro x y hx hy
  unfold mset
  split
  · exact ⟨h1, h2⟩
  · exact h x y hx hy
theorem i64_zero {x : Int64} : x.toInt = 0 ↔ x = 0 := by
  constructor
  · intro h; exact Int64.toInt_inj.mp (by rw [h]; rfl)
  · intro h; subst h; rfl
/-- one row's clearing -/
theorem moE_ok {p f : Int64} {c i n : Nat} (h0 : 0 < p.toInt) (hp : p.toInt < 2147483648) (f1 : 0 ≤ f.toInt) (f2 : f.toInt < p.toInt) (_ : c ≠ i) (hi : i < n) (hc : c < n) : ∀ (m j : Nat) (M : Nat → Nat → Int64), j + m = n → mRg p.toInt n M → mRg p.toInt n (moE p f c i m j M) ∧ (∀ x y, x ≠ i ∨ y < j → moE p f c i m j M x y = M x y) ∧ (∀ y, j ≤ y → y < n → (moE p f c i m j M i y).toInt = ((M i y).toInt + (p.toInt - f.toInt) * (M c y).toInt) % p.toInt) := by
  intro m
  induction m with
  | zero => intro j M hj h; exact ⟨h, fun _ _ _ => rfl, fun y h1 h2 => by omega⟩
  | succ m ih =>
    intro j M hj h
    have a1 := h i j hi (by omega)
    have a2 := h c j hc (by omega)
    have e1 : (p - f).toInt = p.toInt - f.toInt := i64_sub (by omega) (by omega)
    have b1 : 0 ≤ (p.toInt - f.toInt) * (M c j).toInt := Int.mul_nonneg (by omega) a2.1
    have b2 : (p.toInt - f.toInt) * (M c j).toInt ≤ 2147483648 * 2147483648 := Int.mul_le_mul (by omega) (by omega) a2.1 (by omega)
    have e2 : ((p - f) * M c j).toInt = (p.toInt - f.toInt) * (M c j).toInt := by
      rw [i64_mul (by rw [e1]; omega) (by rw [e1]; omega), e1]
    have e3 : (M i j + (p - f) * M c j).toInt = (M i j).toInt + (p.toInt - f.toInt) * (M c j).toInt := by
      rw [i64_add (by rw [e2]; omega) (by rw [e2]; omega), e2]
    have e4 : (jrem (M i j + (p - f) * M c j) p).toInt = ((M i j).toInt + (p.toInt - f.toInt) * (M c j).toInt) % p.toInt := by
      rw [i64_jremE h0 (by rw [e3]; omega), e3]
    have hs := h.set (i := i) (j := j) (v := jrem (M i j + (p - f) * M c j) p) (by rw [e4]; exact Int.emod_nonneg _ (by omega)) (by rw [e4]; exact Int.emod_lt_of_pos _ h0)
    obtain ⟨r1, r2, r3⟩ := ih (j + 1) _ (by omega) hs
    unfold moE
    refine ⟨r1, fun x y hxy => ?_, fun y h1 h2 => ?_⟩
    · rw [r2 x y (by omega)]
      unfold mset
      rw [if_neg (by omega)]
    · by_cases c1 : y = j
      · subst c1
        rw [r2 i y (by omega)]
        unfold mset
        rw [if_pos ⟨rfl, rfl⟩, e4]
      · rw [r3 y (by omega) h2]
        unfold mset
        rw [if_neg (by omega), if_neg (by omega)]
theorem moI_ok {p t : Int64} {c n : Nat} (h0 : 0 < p.toInt) (hp : p.toInt < 2147483648) (t1 : 0 ≤ t.toInt) (t2 : t.toInt < p.toInt) (hc : c < n) : ∀ (m i : Nat) (M : Nat → Nat → Int64), i + m = n → c < i → mRg p.toInt n M → mRg p.toInt n (moI n p c t m i M) ∧ (∀ x y, x < i ∨ y < c → moI n p c t m i M x y = M x y) ∧ (∀ x y, i ≤ x → x < n → c ≤ y → y < n → (moI n p c t m i M x y).toInt % p.toInt = ((M x y).toInt - (M x c).toInt * t.toInt * (M c y).toInt) % p.toInt) := by
  intro m
  induction m with
  | zero => intro i M hi hci h; exact ⟨h, fun _ _ _ => rfl, fun x y h1 h2 => by omega⟩
  | succ m ih =>
    intro i M hi hci h
    have a1 := h i c (by omega) hc
    have ef := i64_mulrem h0 hp a1.1 a1.2 t1 t2
    have f1 : 0 ≤ (jrem (M i c * t) p).toInt := by rw [ef]; exact Int.emod_nonneg _ (by omega)
    have f2 : (jrem (M i c * t) p).toInt < p.toInt := by rw [ef]; exact Int.emod_lt_of_pos _ h0
    unfold moI
    have fmod : ∀ u v : Int, (u - (M i c).toInt * t.toInt * v) % p.toInt = (u + (p.toInt - (jrem (M i c * t) p).toInt) * v) % p.toInt := by
      intro u v
      rw [ef]
      have : (M i c).toInt * t.toInt = p.toInt * ((M i c).toInt * t.toInt / p.toInt) + (M i c).toInt * t.toInt % p.toInt := (Int.mul_ediv_add_emod _ _).symm
      generalize (M i c).toInt * t.toInt / p.toInt = k at this
      generalize (M i c).toInt * t.toInt % p.toInt = r at this ⊢
      rw [this]
      have e : u + (p.toInt - r) * v = u - (p.toInt * k + r) * v + p.toInt * (v + k * v) := by grind
      rw [e, Int.add_mul_emod_self_left]
    by_cases z : jrem (M i c * t) p = 0
    · rw [if_pos z]
      obtain ⟨r1, r2, r3⟩ := ih (i + 1) M (by omega) (by omega) h
      refine ⟨r1, fun x y hxy => r2 x y (by omega), fun x y h1 h2 h3 h4 => ?_⟩
      by_cases e : x = i
      · subst e
        rw [r2 x y (by omega), fmod, z]
        have : (0 : Int64).toInt = 0 := rfl
        rw [this, Int.sub_zero, Int.add_mul_emod_self_left]
      · exact r3 x y (by omega) h2 h3 h4
    · rw [if_neg z]
      obtain ⟨s1, s2, s3⟩ := moE_ok h0 hp f1 f2 (c := c) (i := i) (n := n) (by omega) (by omega) hc (n - c) c M (by omega) h
      obtain ⟨r1, r2, r3⟩ := ih (i + 1) _ (by omega) (by omega) s1
      refine ⟨r1, fun x y hxy => by rw [r2 x y (by omega), s2 x y (by omega)], fun x y h1 h2 h3 h4 => ?_⟩
      by_cases e : x = i
      · subst e
        rw [r2 x y (by omega), s3 y h3 h4, Int.emod_emod, fmod]
      · rw [r3 x y (by omega) h2 h3 h4, s2 x y (by omega), s2 x c (by omega), s2 c y (by omega)]
theorem moR_ok {M : Nat → Nat → Int64} {c n : Nat} : ∀ m r, r + m = n → r ≤ moR M c m r ∧ moR M c m r ≤ n ∧ (∀ x, r ≤ x → x < moR M c m r → M x c = 0) ∧ (moR M c m r < n → M (moR M c m r) c ≠ 0) := by
  intro m
  induction m with
  | zero => intro r h; exact ⟨Nat.le_refl _, by unfold moR; omega, fun x h1 h2 => by unfold moR at h2; omega, fun h2 => by unfold moR at h2; omega⟩
  | succ m ih =>
    intro r h
    unfold moR
    by_cases z : M r c = 0
    · rw [if_pos z]
      obtain ⟨a, b, d, e⟩ := ih (r + 1) (by omega)
      refine ⟨by omega, b, fun x h1 h2 => ?_, e⟩
      by_cases q : x = r
      · subst q; exact z
      · exact d x (by omega) h2
    · rw [if_neg z]
      exact ⟨Nat.le_refl _, by omega, fun x h1 h2 => by omega, fun _ => z⟩
theorem moL_ok {p : Int64} {pn n : Nat} (hpr : prm pn) (hpn : p.toInt = pn) (hp : p.toInt < 2147483648) : ∀ (m c : Nat) (M : Nat → Nat → Int64) (d : Int64), c + m = n → mRg p.toInt n M → 0 ≤ d.toInt → d.toInt < p.toInt → (moL n p (pn - 2) m c M d).toInt = (d.toInt * mDet m (fun x y => (M (c + x) (c + y)).toInt)) % p.toInt := by
  have hp1 := hpr.1
  have h0 : 0 < p.toInt := by omega
  intro m
  induction m with
  | zero => intro c M d hc h d1 d2; simp [moL, mDet, Int.emod_eq_of_lt d1 d2]
  | succ m ih =>
    intro c M d hc h d1 d2
    obtain ⟨q1, q2, q3, q4⟩ := moR_ok (M := M) (c := c) (n := n) (n - c) c (by omega)
    unfold moL
    generalize moR M c (n - c) c = r at q1 q2 q3 q4 ⊢
    by_cases hr : r = n
    · rw [if_pos hr]
      rw [mDet_zcol (fun x hx => by rw [Nat.add_zero, q3 (c + x) (by omega) (by omega)]; rfl)]
      simp
    · rw [if_neg hr]
      have hrn : r < n := by omega
      -- the exchange
      have hs : mRg p.toInt n (moS n c r M) := by
        unfold moS
        split
        · exact h
        · intro x y hx hy
          unfold swJ swN
          rw [if_pos hy]
          split
          · exact h c y (by omega) hy
          · split
            · exact h r y (by omega) hy
            · exact h x y hx hy
      have hcc : moS n c r M c c = M r c := by
        unfold moS
        by_cases e : r = c
        · rw [if_pos e, e]
        · rw [if_neg e]; unfold swJ swN; rw [if_pos (by omega), if_neg (fun q => e q.symm), if_pos rfl]
      have dsw : (if r = c then d else jrem (p - d) p).toInt % p.toInt * mDet (m + 1) (fun x y => (moS n c r M (c + x) (c + y)).toInt) % p.toInt = d.toInt * mDet (m + 1) (fun x y => (M (c + x) (c + y)).toInt) % p.toInt := by
        unfold moS
        by_cases e : r = c
        · rw [if_pos e, if_pos e, Int.mul_emod, Int.emod_emod, ← Int.mul_emod]
        · rw [if_neg e, if_neg e]
          have e1 : (p - d).toInt = p.toInt - d.toInt := i64_sub (by omega) (by omega)
          rw [i64_jremE h0 (by rw [e1]; omega), e1, Int.emod_emod, Int.mul_emod, Int.emod_emod, ← Int.mul_emod]
          have sw := mDet_swap (n := m + 1) (r := r - c) (s := 0) (by omega) (by omega) (by omega) (fun x y => (M (c + x) (c + y)).toInt)
          have e2 : mDet (m + 1) (fun x y => (swJ r c n M (c + x) (c + y)).toInt) = - mDet (m + 1) (fun x y => (M (c + x) (c + y)).toInt) := by
            rw [← sw]
            refine mDet_congr _ _ _ (fun x y hx hy => ?_)
            unfold mPut swJ swN
            rw [if_pos (by omega)]
            by_cases x0 : x = 0
            · subst x0
              rw [if_neg (by omega), if_pos (by omega), if_pos rfl, show c + (r - c) = r by omega]
            · rw [if_neg x0]
              by_cases x1 : x = r - c
              · rw [if_pos (by omega), if_pos x1, Nat.add_zero]
              · rw [if_neg (by omega), if_neg (by omega), if_neg x1]
          rw [e2]
          generalize mDet (m + 1) (fun x y => (M (c + x) (c + y)).toInt) = K
          have : (p.toInt - d.toInt) * -K = d.toInt * K + p.toInt * (-K) := by grind
          rw [this, Int.add_mul_emod_self_left]
      have dr : 0 ≤ (if r = c then d else jrem (p - d) p).toInt ∧ (if r = c then d else jrem (p - d) p).toInt < p.toInt := by
        by_cases e : r = c
        · rw [if_pos e]; exact ⟨d1, d2⟩
        · rw [if_neg e]
          have e1 : (p - d).toInt = p.toInt - d.toInt := i64_sub (by omega) (by omega)
          rw [i64_jremE h0 (by rw [e1]; omega)]
          exact ⟨Int.emod_nonneg _ (by omega), Int.emod_lt_of_pos _ h0⟩
      generalize (if r = c then d else jrem (p - d) p) = d' at dr dsw ⊢
      generalize hM' : moS n c r M = M' at hs hcc dsw ⊢
      have pv : 0 ≤ (M' c c).toInt ∧ (M' c c).toInt < p.toInt := hs c c (by omega) (by omega)
      have pnz : (M' c c).toInt ≠ 0 := by rw [hcc]; intro q; exact q4 hrn (i64_zero.mp q)
      -- the inverse
      have ex := i64_jremP (x := M' c c) h0 (by omega)
      have ep := pwN_ok h0 hp 62 (pn - 2) 1 (jrem (jrem (M' c c) p + p) p) (by omega) (by decide) (by show (1 : Int) < _; omega) (by rw [ex]; exact Int.emod_nonneg _ (by omega)) (by rw [ex]; exact Int.emod_lt_of_pos _ h0)
      rw [ex, Int.emod_eq_of_lt pv.1 pv.2] at ep
      have e1i : (1 : Int64).toInt = 1 := rfl
      rw [e1i, Int.one_mul] at ep
      generalize pwN p 62 1 (jrem (jrem (M' c c) p + p) p) (pn - 2) = t at ep ⊢
      have t1 : 0 ≤ t.toInt := by rw [ep]; exact Int.emod_nonneg _ (by omega)
      have t2 : t.toInt < p.toInt := by rw [ep]; exact Int.emod_lt_of_pos _ h0
      have tinv : ((M' c c).toInt * t.toInt) % p.toInt = 1 := by
        obtain ⟨k, hk⟩ := Int.eq_ofNat_of_zero_le pv.1
        rw [ep, Int.mul_emod, Int.emod_emod, ← Int.mul_emod, hk, hpn]
        have := hpr.inv (x := k) (fun q => by have := Nat.le_of_dvd (by omega) q; omega)
        have e : ((k : Int) * (k : Int) ^ (pn - 2)) % (pn : Int) = ((k * k ^ (pn - 2) % pn : Nat) : Int) := by
          simp [Int.natCast_emod, Int.natCast_mul, Int.natCast_pow]
        rw [e, this]; rfl
      -- the clearing
      obtain ⟨r1, r2, r3⟩ := moI_ok h0 hp t1 t2 (c := c) (n := n) (by omega) (n - (c + 1)) (c + 1) M' (by omega) (by omega) hs
      generalize moI n p c t (n - (c + 1)) (c + 1) M' = M2 at r1 r2 r3 ⊢
      have em := i64_mulrem h0 hp dr.1 dr.2 pv.1 pv.2
      rw [ih (c + 1) M2 _ (by omega) r1 (by rw [em]; exact Int.emod_nonneg _ (by omega)) (by rw [em]; exact Int.emod_lt_of_pos _ h0), em, ← dsw, Int.emod_eq_of_lt dr.1 dr.2]
      have hel := mDet_elim (n := m) (fun x => - ((M' (c + x) c).toInt * t.toInt)) (fun x y => (M' (c + x) (c + y)).toInt) m (Nat.le_refl _)
      have hc0 : mDet (m + 1) (fun x y => (M2 (c + x) (c + y)).toInt) % p.toInt = mDet (m + 1) (fun x y => (M' (c + x) (c + y)).toInt) % p.toInt := by
        rw [← hel]
        refine mDet_mod _ _ _ (fun x y hx hy => ?_)
        by_cases x0 : x = 0
        · subst x0; rw [if_neg (by omega), r2 (c + 0) (c + y) (by omega)]
        · rw [if_pos (by omega), r3 (c + x) (c + y) (by omega) (by omega) (by omega) (by omega), Nat.add_zero]
          congr 1; grind
      have hz : ∀ x, 0 < x → x < m + 1 → (M2 (c + x) (c + 0)).toInt = 0 := by
        intro x hx hx2
        have := r3 (c + x) c (by omega) (by omega) (by omega) (by omega)
        have b := r1 (c + x) c (by omega) (by omega)
        rw [Int.emod_eq_of_lt b.1 b.2] at this
        rw [Nat.add_zero, this]
        have k : (M' c c).toInt * t.toInt = p.toInt * ((M' c c).toInt * t.toInt / p.toInt) + 1 := by rw [← tinv]; exact (Int.mul_ediv_add_emod _ _).symm
        generalize (M' c c).toInt * t.toInt / p.toInt = u at k
        have : (M' (c + x) c).toInt - (M' (c + x) c).toInt * t.toInt * (M' c c).toInt = p.toInt * (-(M' (c + x) c).toInt * u) := by grind
        rw [this, Int.mul_emod_right]
      have hcol := mDet_col0 (n := m) (M := fun x y => (M2 (c + x) (c + y)).toInt) hz
      have hfin : mDet m (fun x y => (M2 (c + 1 + x) (c + 1 + y)).toInt) = mDet m (fun x y => (M2 (c + (x + 1)) (c + (y + 1))).toInt) := by
        refine mDet_congr _ _ _ (fun x y _ _ => ?_)
        rw [show c + 1 + x = c + (x + 1) by omega, show c + 1 + y = c + (y + 1) by omega]
      have hpiv : (M2 (c + 0) (c + 0)).toInt = (M' c c).toInt := by rw [Nat.add_zero, r2 c c (by omega)]
      have hcol' : mDet (m + 1) (fun x y => (M2 (c + x) (c + y)).toInt) = (M' c c).toInt * mDet m (fun x y => (M2 (c + 1 + x) (c + 1 + y)).toInt) := by
        rw [hcol, hfin]; show (M2 (c + 0) (c + 0)).toInt * _ = _; rw [hpiv]
      rw [hcol'] at hc0
      rw [im_mul (a := d'.toInt) rfl hc0.symm, im_mul (a := d'.toInt * (M' c c).toInt % p.toInt) (Int.emod_emod _ _) rfl]
      congr 1; grind
theorem moV_ok {p : Int64} {pn n e : Nat} (hpr : prm pn) (hpn : p.toInt = pn) (hp : p.toInt < 2147483648) (he : e = pn - 2) (A : Nat → Nat → Int64) : (moV n p e A).toInt = mDet n (fun x y => (A x y).toInt) % p.toInt := by
  subst he
  have hp1 := hpr.1
  have h0 : 0 < p.toInt := by omega
  have er : ∀ i j, (mo0 p A i j).toInt = (A i j).toInt % p.toInt := fun i j => i64_jremP h0 (by omega)
  unfold moV
  rw [moL_ok hpr hpn hp n 0 _ 1 (by omega) (fun i j _ _ => by rw [er]; exact ⟨Int.emod_nonneg _ (by omega), Int.emod_lt_of_pos _ h0⟩) (by decide) (by show (1 : Int) < _; omega)]
  have e1i : (1 : Int64).toInt = 1 := rfl
  rw [e1i, Int.one_mul]
  refine mDet_mod _ _ _ (fun x y _ _ => ?_)
  rw [er, Int.emod_emod, Nat.zero_add, Nat.zero_add]
theorem pwN_inv {q : Int64} {qn e : Nat} (hpr : prm qn) (hq : q.toInt = qn) (hp : q.toInt < 2147483648) (he : e = qn - 2) {b : Int64} (hb : b.toInt % q.toInt ≠ 0) : 0 ≤ (pwN q 62 1 (jrem (jrem b q + q) q) e).toInt ∧ (pwN q 62 1 (jrem (jrem b q + q) q) e).toInt < q.toInt ∧ (b.toInt * (pwN q 62 1 (jrem (jrem b q + q) q) e).toInt) % q.toInt = 1 := by
  have hp1 := hpr.1
  have h0 : 0 < q.toInt := by omega
  have e3 := i64_jremP (x := b) (p := q) h0 (by omega)
  have r1 : 0 ≤ b.toInt % q.toInt := Int.emod_nonneg _ (by omega)
  have r2 : b.toInt % q.toInt < q.toInt := Int.emod_lt_of_pos _ h0
  have e4 := pwN_ok h0 hp 62 e 1 (jrem (jrem b q + q) q) (by omega) (by decide) (by show (1 : Int) < _; omega) (by rw [e3]; exact r1) (by rw [e3]; exact r2)
  have e1i : (1 : Int64).toInt = 1 := rfl
  rw [e3, e1i, Int.one_mul] at e4
  refine ⟨by rw [e4]; exact Int.emod_nonneg _ (by omega), by rw [e4]; exact Int.emod_lt_of_pos _ h0, ?_⟩
  obtain ⟨k, hk⟩ := Int.eq_ofNat_of_zero_le r1
  rw [hk] at e4 hb r2
  rw [e4, im_mul (a := b.toInt) (a' := (k : Int)) (b' := (k : Int) ^ e) (by rw [← hk, Int.emod_emod]) (Int.emod_emod _ _), hq]
  have := hpr.inv (x := k) (fun d => by have := Nat.le_of_dvd (by omega) d; omega)
  rw [← he] at this
  have e : ((k : Int) * (k : Int) ^ e) % (qn : Int) = ((k * k ^ e % qn : Nat) : Int) := by
    simp [Int.natCast_emod, Int.natCast_mul, Int.natCast_pow]
  rw [e, this]; rfl
/-- whatever stands beyond -/
theorem moV_W {p : Int64} {pn n e : Nat} (hpr : prm pn) (hpn : p.toInt = pn) (hp : p.toInt < 2147483648) (he : e = pn - 2) {A W : Nat → Nat → Int64} (h : ∀ i j, i < n → j < n → W i j = mo0 p A i j) : moL n p e n 0 W 1 = moV n p e A := by
  subst he
  have hp1 := hpr.1
  have h0 : 0 < p.toInt := by omega
  have er : ∀ i j, (mo0 p A i j).toInt = (A i j).toInt % p.toInt := fun i j => i64_jremP h0 (by omega)
  have r0 : mRg p.toInt n (mo0 p A) := fun i j _ _ => by rw [er]; exact ⟨Int.emod_nonneg _ (by omega), Int.emod_lt_of_pos _ h0⟩
  have rW : mRg p.toInt n W := fun i j hi hj => by rw [h i j hi hj]; exact r0 i j hi hj
  apply Int64.toInt_inj.mp
  unfold moV
  rw [moL_ok hpr hpn hp n 0 W 1 (by omega) rW (by decide) (by show (1 : Int) < _; omega), moL_ok hpr hpn hp n 0 _ 1 (by omega) r0 (by decide) (by show (1 : Int) < _; omega)]
  congr 2
  exact mDet_congr _ _ _ (fun x y hx hy => by rw [h _ _ (by omega) (by omega)])
