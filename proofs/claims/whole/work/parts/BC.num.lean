/-- primes; Fermat -/
def prm (p : Nat) : Prop := 1 < p ∧ ∀ d, d ∣ p → d = 1 ∨ d = p
def nodiv (p : Nat) : Nat → Nat → Bool
  | 0, lo => p % lo != 0
  | k + 1, lo => nodiv p k lo && nodiv p k (lo + 2 ^ k)
theorem nodiv_ok {p : Nat} : ∀ k lo, nodiv p k lo = true → ∀ d, lo ≤ d → d < lo + 2 ^ k → p % d ≠ 0 := by
  intro k
  induction k with
  | zero => intro lo h d h1 h2; obtain rfl : d = lo := by simp at h2; omega
            simpa [nodiv] using h
  | succ k ih =>
    intro lo h d h1 h2
    simp only [nodiv, Bool.and_eq_true] at h
    by_cases c : d < lo + 2 ^ k
    · exact ih lo h.1 d h1 c
    · exact ih _ h.2 d (by omega) (by rw [Nat.pow_succ] at h2; omega)
theorem prm_of {p : Nat} (h1 : 1 < p) (h2 : p < 65537 * 65537) (h : nodiv p 16 2 = true) : prm p := by
  refine ⟨h1, fun d hd => ?_⟩
  have hdp : d ≤ p := Nat.le_of_dvd (by omega) hd
  have hd0 : 0 < d := Nat.pos_of_dvd_of_pos hd (by omega)
  obtain ⟨e, he⟩ := hd
  by_cases c1 : d = 1
  · exact Or.inl c1
  by_cases c2 : e = 1
  · right; rw [he, c2, Nat.mul_one]
  exfalso
  have he0 : 0 < e := by
    rcases Nat.eq_zero_or_pos e with q | q
    · subst q; omega
    · exact q
  by_cases c3 : d < 65537
  · exact nodiv_ok 16 2 h d (by omega) (by omega) (by rw [he]; exact Nat.mul_mod_right _ _)
  · by_cases c4 : e < 65537
    · exact nodiv_ok 16 2 h e (by omega) (by omega) (by rw [he]; exact Nat.mul_mod_left _ _)
    · have : 65537 * 65537 ≤ d * e := Nat.mul_le_mul (by omega) (by omega)
      omega
theorem prm_P : prm 2147483647 := prm_of (by decide) (by decide) (by decide +kernel)
theorem prm_Q : prm 2147483629 := prm_of (by decide) (by decide) (by decide +kernel)
theorem prm.cop {p x : Nat} (h : prm p) (hx : ¬ p ∣ x) : Nat.Coprime p x := by
  unfold Nat.Coprime
  rcases h.2 _ (Nat.gcd_dvd_left p x) with q | q
  · exact q
  · exfalso; apply hx; rw [← q]; exact Nat.gcd_dvd_right p x
theorem prm.mul {p x y : Nat} (h : prm p) (hd : p ∣ x * y) (hx : ¬ p ∣ x) : p ∣ y := (h.cop hx).dvd_of_dvd_mul_left hd
def ch : Nat → Nat → Nat
  | _, 0 => 1
  | 0, _ + 1 => 0
  | n + 1, k + 1 => ch n k + ch n (k + 1)
theorem ch_gt : ∀ n k, n < k → ch n k = 0 := by
  intro n
  induction n with
  | zero => intro k h; cases k with
    | zero => omega
    | succ k => rfl
  | succ n ih => intro k h; cases k with
    | zero => omega
    | succ k => simp [ch, ih k (by omega), ih (k + 1) (by omega)]
theorem ch_self (n : Nat) : ch n n = 1 := by
  induction n with
  | zero => rfl
  | succ n ih => simp [ch, ih, ch_gt n (n + 1) (by omega)]
theorem ch_abs : ∀ n k, (k + 1) * ch (n + 1) (k + 1) = (n + 1) * ch n k := by
  intro n
  induction n with
  | zero => intro k; cases k with
    | zero => rfl
    | succ k => simp [ch]
  | succ n ih => intro k; cases k with
    | zero =>
      have := ih 0
      simp [ch] at this ⊢
      omega
    | succ k =>
      have h1 := ih k
      have h2 := ih (k + 1)
      have e1 : ch (n + 1 + 1) (k + 1 + 1) = ch (n + 1) (k + 1) + ch (n + 1) (k + 1 + 1) := rfl
      have e2 : ch (n + 1) (k + 1) = ch n k + ch n (k + 1) := rfl
      rw [e1]
      grind
theorem prm.chd {p k : Nat} (h : prm p) (h0 : 0 < k) (h1 : k < p) : p ∣ ch p k := by
  obtain ⟨m, rfl⟩ : ∃ m, p = m + 1 := ⟨p - 1, by omega⟩
  obtain ⟨j, rfl⟩ : ∃ j, k = j + 1 := ⟨k - 1, by omega⟩
  refine h.mul (x := j + 1) ?_ (fun q => absurd (Nat.le_of_dvd (by omega) q) (by omega))
  rw [ch_abs]
  exact Nat.dvd_mul_right _ _
def nSum : Nat → (Nat → Nat) → Nat
  | 0, _ => 0
  | n + 1, f => nSum n f + f n
theorem nSum_front (f : Nat → Nat) : ∀ n, nSum (n + 1) f = f 0 + nSum n (fun i => f (i + 1)) := by
  intro n
  induction n with
  | zero => simp [nSum]
  | succ n ih => rw [nSum, ih]; simp [nSum]; omega
theorem nSum_add (f g : Nat → Nat) : ∀ n, nSum n (fun i => f i + g i) = nSum n f + nSum n g := by
  intro n
  induction n with
  | zero => rfl
  | succ n ih => simp [nSum, ih]; omega
theorem nSum_mul (c : Nat) (f : Nat → Nat) : ∀ n, nSum n (fun i => c * f i) = c * nSum n f := by
  intro n
  induction n with
  | zero => rfl
  | succ n ih => simp [nSum, ih, Nat.mul_add]
theorem nSum_congr {f g : Nat → Nat} : ∀ n, (∀ i, i < n → f i = g i) → nSum n f = nSum n g := by
  intro n
  induction n with
  | zero => intro _; rfl
  | succ n ih => intro h; simp [nSum, ih (fun i hi => h i (by omega)), h n (by omega)]
theorem nSum_dvd {f : Nat → Nat} {p : Nat} : ∀ n, (∀ i, i < n → p ∣ f i) → p ∣ nSum n f := by
  intro n
  induction n with
  | zero => intro _; exact Nat.dvd_zero _
  | succ n ih => intro h; exact Nat.dvd_add (ih (fun i hi => h i (by omega))) (h n (by omega))
theorem binom (x : Nat) : ∀ n, (x + 1) ^ n = nSum (n + 1) (fun k => ch n k * x ^ k) := by
  intro n
  induction n with
  | zero => rfl
  | succ n ih =>
    rw [nSum_front]
    have e : nSum (n + 1) (fun k => ch (n + 1) (k + 1) * x ^ (k + 1)) = x * nSum (n + 1) (fun k => ch n k * x ^ k) + nSum (n + 1) (fun k => ch n (k + 1) * x ^ (k + 1)) := by
      rw [← nSum_mul, ← nSum_add]
      refine nSum_congr _ (fun i _ => ?_)
      show (ch n i + ch n (i + 1)) * x ^ (i + 1) = _
      rw [Nat.pow_succ]; grind
    have e2 : nSum (n + 1) (fun k => ch n (k + 1) * x ^ (k + 1)) = nSum n (fun k => ch n (k + 1) * x ^ (k + 1)) := by
      rw [nSum]; simp [ch_gt n (n + 1) (by omega)]
    have e3 := nSum_front (fun k => ch n k * x ^ k) n
    rw [e, e2, Nat.pow_succ, ih]
    rw [e3]
    simp [ch]
    cases n <;> simp [ch] <;> grind
theorem prm.add1 {p : Nat} (h : prm p) (x : Nat) : (x + 1) ^ p % p = (x ^ p + 1) % p := by
  obtain ⟨m, rfl⟩ : ∃ m, p = m + 1 := ⟨p - 1, by have := h.1; omega⟩
  rw [binom, nSum, nSum_front]
  have hd : (m + 1) ∣ nSum m (fun i => ch (m + 1) (i + 1) * x ^ (i + 1)) := nSum_dvd m (fun i hi => Nat.dvd_trans (h.chd (by omega) (by omega)) (Nat.dvd_mul_right _ _))
  obtain ⟨e, he⟩ := hd
  rw [he, ch_self]
  have : ch (m + 1) 0 * x ^ 0 + (m + 1) * e + 1 * x ^ (m + 1) = x ^ (m + 1) + 1 + (m + 1) * e := by simp [ch]; omega
  rw [this, Nat.add_mul_mod_self_left]
theorem prm.fermat {p : Nat} (h : prm p) : ∀ x, x ^ p % p = x % p := by
  intro x
  induction x with
  | zero => rw [Nat.zero_pow (by have := h.1; omega)]
  | succ x ih => rw [h.add1, Nat.add_mod, ih, ← Nat.add_mod]
theorem prm.inv {p x : Nat} (h : prm p) (hx : ¬ p ∣ x) : x * x ^ (p - 2) % p = 1 := by
  have h1 := h.1
  have e : x * x ^ (p - 2) = x ^ (p - 1) := by rw [show p - 1 = p - 2 + 1 by omega, Nat.pow_succ, Nat.mul_comm]
  have e2 : x ^ p = x * x ^ (p - 1) := by
    have : x ^ p = x ^ (p - 1 + 1) := by congr 1; omega
    rw [this, Nat.pow_succ, Nat.mul_comm]
  have f := h.fermat x
  rw [e2] at f
  rw [e]
  have hpos : 0 < x := by
    rcases Nat.eq_zero_or_pos x with q | q
    · subst q; exact absurd (Nat.dvd_zero p) hx
    · exact q
  have hge : 1 ≤ x ^ (p - 1) := Nat.pow_pos hpos
  have hd : p ∣ x * (x ^ (p - 1) - 1) := by
    rw [Nat.mul_sub, Nat.mul_one]
    exact Nat.dvd_of_mod_eq_zero (Nat.sub_mod_eq_zero_of_mod_eq f)
  obtain ⟨k, hk⟩ := h.mul hd hx
  have : x ^ (p - 1) = 1 + p * k := by omega
  rw [this, Nat.add_mul_mod_self_left, Nat.mod_eq_of_lt h1]
