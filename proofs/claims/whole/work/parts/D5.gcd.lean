/-- the common divisor, in both -/
theorem gc_ok : ∀ (k : Nat) (u v : Int64), 0 ≤ u.toInt → 0 ≤ v.toInt → v.toInt < 2 ^ k → ∀ m, 2 * k + 1 ≤ m → gcO m u v = some (cdL m u v) ∧ (cdL m u v).toInt = Nat.gcd u.toInt.toNat v.toInt.toNat := by
  have z0 : ∀ (u : Int64), 0 ≤ u.toInt → ∀ m, 1 ≤ m → gcO m u 0 = some (cdL m u 0) ∧ (cdL m u 0).toInt = Nat.gcd u.toInt.toNat (0 : Int64).toInt.toNat := by
    intro u hu m hm
    obtain ⟨m', rfl⟩ : ∃ m', m = m' + 1 := ⟨m - 1, by omega⟩
    unfold gcO cdL
    rw [if_pos rfl, if_pos rfl]
    refine ⟨rfl, ?_⟩
    have : (0 : Int64).toInt.toNat = 0 := rfl
    rw [this, Nat.gcd_zero_right]; omega
  intro k
  induction k with
  | zero =>
    intro u v hu hv hk m hm
    have : v.toInt = 0 := by simp at hk; omega
    have hv0 : v = 0 := i64_zero.mp this
    subst hv0
    exact z0 u hu m (by omega)
  | succ k ih =>
    intro u v hu hv hk m hm
    by_cases c : v = 0
    · subst c; exact z0 u hu m (by omega)
    · have hv1 : 0 < v.toInt := by
        have : v.toInt ≠ 0 := fun q => c (i64_zero.mp q)
        omega
      obtain ⟨m', rfl⟩ : ∃ m', m = m' + 2 := ⟨m - 2, by omega⟩
      have er := i64_jremE (x := u) hv1 hu
      have r0 : 0 ≤ (jrem u v).toInt := by rw [er]; exact Int.emod_nonneg _ (by omega)
      have r1 : (jrem u v).toInt < v.toInt := by rw [er]; exact Int.emod_lt_of_pos _ hv1
      have enat : (jrem u v).toInt.toNat = u.toInt.toNat % v.toInt.toNat := by
        rw [er]; exact Int.toNat_emod hu (by omega)
      have g1 : Nat.gcd u.toInt.toNat v.toInt.toNat = Nat.gcd v.toInt.toNat (jrem u v).toInt.toNat := by
        rw [enat, Nat.gcd_comm, Nat.gcd_rec, Nat.gcd_comm]
      unfold gcO cdL
      rw [if_neg c, if_neg c, g1]
      by_cases c2 : jrem u v = 0
      · rw [c2]; exact z0 v hv (m' + 1) (by omega)
      · have hr1 : 0 < (jrem u v).toInt := by
          have : (jrem u v).toInt ≠ 0 := fun q => c2 (i64_zero.mp q)
          omega
        have er2 := i64_jremE (x := v) hr1 hv
        have s0 : 0 ≤ (jrem v (jrem u v)).toInt := by rw [er2]; exact Int.emod_nonneg _ (by omega)
        have s1 : (jrem v (jrem u v)).toInt < (jrem u v).toInt := by rw [er2]; exact Int.emod_lt_of_pos _ hr1
        have half : 2 * (jrem v (jrem u v)).toInt < v.toInt := by
          have hd : (jrem u v).toInt * (v.toInt / (jrem u v).toInt) + v.toInt % (jrem u v).toInt = v.toInt := Int.mul_ediv_add_emod _ _
          have hq : 1 ≤ v.toInt / (jrem u v).toInt := by
            have := Int.le_ediv_of_mul_le hr1 (a := 1) (b := v.toInt) (by omega)
            exact this
          have : (jrem u v).toInt * 1 ≤ (jrem u v).toInt * (v.toInt / (jrem u v).toInt) := Int.mul_le_mul_of_nonneg_left hq (by omega)
          omega
        have enat2 : (jrem v (jrem u v)).toInt.toNat = v.toInt.toNat % (jrem u v).toInt.toNat := by
          rw [er2]; exact Int.toNat_emod hv (by omega)
        have g2 : Nat.gcd v.toInt.toNat (jrem u v).toInt.toNat = Nat.gcd (jrem u v).toInt.toNat (jrem v (jrem u v)).toInt.toNat := by
          rw [enat2, Nat.gcd_comm, Nat.gcd_rec, Nat.gcd_comm]
        unfold gcO cdL
        rw [if_neg c2, if_neg c2, g2]
        have e2 : (2 : Int) ^ (k + 1) = 2 * 2 ^ k := by rw [Int.pow_succ]; grind
        rw [e2] at hk
        exact ih _ _ r0 s0 (by omega) m' (by omega)
theorem gc_some {u v : Int64} (hu : 0 ≤ u.toInt) (hv : 0 ≤ v.toInt) : gcO 128 u v = some (cdV u v) := (gc_ok 63 u v hu hv (by have := i64_lt v; omega) 128 (by omega)).1
theorem cd_gcd {u v : Int64} (hu : 0 ≤ u.toInt) (hv : 0 ≤ v.toInt) : (cdV u v).toInt = Nat.gcd u.toInt.toNat v.toInt.toNat := (gc_ok 63 u v hu hv (by have := i64_lt v; omega) 128 (by omega)).2
theorem cd_pos {u v : Int64} (hu : 0 ≤ u.toInt) (hv : 0 ≤ v.toInt) (h : 0 < u.toInt ∨ 0 < v.toInt) : 0 < (cdV u v).toInt := by
  rw [cd_gcd hu hv]
  have : 0 < Nat.gcd u.toInt.toNat v.toInt.toNat := by
    rcases h with q | q
    · exact Nat.gcd_pos_of_pos_left _ (by omega)
    · exact Nat.gcd_pos_of_pos_right _ (by omega)
  omega
theorem cd_nn {u v : Int64} (hu : 0 ≤ u.toInt) (hv : 0 ≤ v.toInt) : 0 ≤ (cdV u v).toInt := by rw [cd_gcd hu hv]; omega
/-- the reference's times -/
def tiN (d : Int64) : Nat → Int64 → Int64 → Nat → Int64
  | 0, r, _, _ => r
  | n + 1, r, x, a => if a = 0 then r else tiN d n (if a % 2 = 1 then jrem (r + x) d else r) (jrem (x + x) d) (a / 2)
def tmR (x y d : Int64) : Int64 := tiN d 62 0 x y.toInt.toNat
theorem tiN_ok {d : Int64} (h0 : 0 < d.toInt) (hd : d.toInt < 4611686018427387904) : ∀ (n a : Nat) (r x : Int64), a < 2 ^ n → 0 ≤ r.toInt → r.toInt < d.toInt → 0 ≤ x.toInt → x.toInt < d.toInt → (tiN d n r x a).toInt = (r.toInt + x.toInt * a) % d.toInt := by
  intro n
  induction n with
  | zero =>
    intro a r x ha h1 h2 _ _
    obtain rfl : a = 0 := by simpa using ha
    simp [tiN, Int.emod_eq_of_lt h1 h2]
  | succ n ih =>
    intro a r x ha h1 h2 h3 h4
    unfold tiN
    by_cases c : a = 0
    · subst c; simp [Int.emod_eq_of_lt h1 h2]
    · rw [if_neg c]
      have ex : (jrem (x + x) d).toInt = (x.toInt + x.toInt) % d.toInt := by
        have e := i64_add (x := x) (y := x) (by omega) (by omega)
        rw [i64_jremE h0 (by rw [e]; omega), e]
      have er : (jrem (r + x) d).toInt = (r.toInt + x.toInt) % d.toInt := by
        have e := i64_add (x := r) (y := x) (by omega) (by omega)
        rw [i64_jremE h0 (by rw [e]; omega), e]
      have hx1 : 0 ≤ (jrem (x + x) d).toInt := by rw [ex]; exact Int.emod_nonneg _ (by omega)
      have hx2 : (jrem (x + x) d).toInt < d.toInt := by rw [ex]; exact Int.emod_lt_of_pos _ h0
      have hr1 : 0 ≤ (jrem (r + x) d).toInt := by rw [er]; exact Int.emod_nonneg _ (by omega)
      have hr2 : (jrem (r + x) d).toInt < d.toInt := by rw [er]; exact Int.emod_lt_of_pos _ h0
      have ha2 : a / 2 < 2 ^ n := by rw [Nat.pow_succ] at ha; omega
      have key : ∀ r' : Int, (r' + (x.toInt + x.toInt) % d.toInt * (a / 2 : Nat)) % d.toInt = (r' + (x.toInt + x.toInt) * (a / 2 : Nat)) % d.toInt := fun r' => im_add rfl (im_mul (Int.emod_emod _ _) rfl)
      have key2 : ∀ r' t : Int, (r' % d.toInt + t) % d.toInt = (r' + t) % d.toInt := fun r' t => im_add (Int.emod_emod _ _) rfl
      by_cases o : a % 2 = 1
      · rw [if_pos o, ih _ _ _ ha2 hr1 hr2 hx1 hx2, er, ex, key2, key]
        congr 1
        have : (a : Int) = 2 * (a / 2 : Nat) + 1 := by omega
        rw [this]; grind
      · rw [if_neg o, ih _ _ _ ha2 h1 h2 hx1 hx2, ex, key]
        congr 1
        have : (a : Int) = 2 * (a / 2 : Nat) := by omega
        rw [this]; grind
theorem tmR_ok {x y d : Int64} (h0 : 0 < d.toInt) (hd : d.toInt < 4611686018427387904) (hx : 0 ≤ x.toInt) (hx2 : x.toInt < d.toInt) (hy : 0 ≤ y.toInt) (hy2 : y.toInt < 4611686018427387904) : (tmR x y d).toInt = (x.toInt * y.toInt) % d.toInt := by
  unfold tmR
  have e0 : (0 : Int64).toInt = 0 := rfl
  rw [tiN_ok h0 hd 62 y.toInt.toNat 0 x (by omega) (by decide) (by rw [e0]; exact h0) hx hx2, e0, Int.zero_add]
  congr 2
  omega
/-- a / g of both sides -/
theorem gcd_div {u g : Int64} (hg : 0 < g.toInt) : (u / g).toInt = u.toInt.tdiv g.toInt := i64_div hg
