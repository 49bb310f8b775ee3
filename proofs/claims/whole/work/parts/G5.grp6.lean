/-- the class's arithmetic modulo d -/
theorem rdV_ok {d : Int64} (hd : 0 < d.toInt) (hd2 : d.toInt < 4611686018427387904) (x : Int64) : (rdV d x).toInt = x.toInt % d.toInt := by
  unfold rdV
  have c0 : ¬ d < 1 := by
    rw [Int64.lt_iff_toInt_lt]
    have : (1 : Int64).toInt = 1 := rfl
    omega
  rw [if_neg c0]
  have e := i64_jrem (x := x) hd
  have hz : (jrem x d < 0) ↔ (jrem x d).toInt < 0 := by rw [Int64.lt_iff_toInt_lt]; rfl
  have b1 := Int.emod_nonneg x.toInt (b := d.toInt) (by omega)
  have b2 := Int.emod_lt_of_pos x.toInt hd
  have t1 : x.toInt.tmod d.toInt = x.toInt % d.toInt ∨ x.toInt.tmod d.toInt = x.toInt % d.toInt - d.toInt := by
    rw [Int.tmod_eq_emod]
    split
    · left; omega
    · right
      have : (d.toInt.natAbs : Int) = d.toInt := by omega
      omega
  have t2 : -d.toInt < x.toInt.tmod d.toInt := by
    rcases t1 with q | q
    · omega
    · by_cases z : x.toInt % d.toInt = 0
      · have : x.toInt.tmod d.toInt = 0 := Int.tmod_eq_zero_of_dvd (Int.dvd_of_emod_eq_zero z)
        omega
      · omega
  by_cases c : jrem x d < 0
  · rw [if_pos c]
    have := hz.mp c
    rw [i64_add (by omega) (by omega)]
    omega
  · rw [if_neg c]
    have : ¬ (jrem x d).toInt < 0 := fun q => c (hz.mpr q)
    omega
theorem i64_mask (x : Int64) : (x &&& 4095).toInt = x.toInt % 4096 := by
  have e1 : (x &&& 4095).toBitVec.toNat = x.toBitVec.toNat % 4096 := by
    rw [Int64.toBitVec_and, BitVec.toNat_and]
    exact Nat.and_two_pow_sub_one_eq_mod _ 12
  have e2 : x.toInt % 4096 = (x.toBitVec.toNat : Int) % 4096 := by
    show x.toBitVec.toInt % 4096 = _
    rw [BitVec.toInt_eq_toNat_cond]
    split <;> omega
  show (x &&& 4095).toBitVec.toInt = _
  rw [BitVec.toInt_eq_toNat_cond, e1, e2]
  split <;> omega
theorem tmS_ok {d x y p : Int64} {s : Nat} (hs : s < 64) (hd : 0 < d.toInt) (hd2 : d.toInt < 1125899906842624) (hx : 0 ≤ x.toInt) (hx2 : x.toInt < d.toInt) (hp : 0 ≤ p.toInt) (hp2 : p.toInt < d.toInt) : (tmS d x y p (nI s)).toInt = (p.toInt * 4096 + x.toInt * (y.toInt / 2 ^ s % 4096)) % d.toInt := by
  unfold tmS
  rw [rdV_ok hd (by omega)]
  have e1 : ((y >>> ((nI s).toInt64 &&& 63)) &&& 4095).toInt = y.toInt / 2 ^ s % 4096 := by
    rw [i64_mask]; congr 1; exact i64_sh y hs
  have c1 := Int.emod_nonneg (y.toInt / 2 ^ s) (b := 4096) (by omega)
  have c2 := Int.emod_lt_of_pos (y.toInt / 2 ^ s) (b := 4096) (by omega)
  generalize y.toInt / 2 ^ s % 4096 = c at *
  have m1 : (p * 4096).toInt = p.toInt * 4096 := i64_mul (y := 4096) (by show -9223372036854775808 ≤ p.toInt * 4096; omega) (by show p.toInt * 4096 < 9223372036854775808; omega)
  have k1 : 0 ≤ x.toInt * c := Int.mul_nonneg hx c1
  have k2 : x.toInt * c ≤ 1125899906842624 * 4095 := Int.mul_le_mul (by omega) (by omega) c1 (by omega)
  have m2 : (x * ((y >>> ((nI s).toInt64 &&& 63)) &&& 4095)).toInt = x.toInt * c := by
    rw [i64_mul (by rw [e1]; omega) (by rw [e1]; omega), e1]
  rw [i64_add (by rw [m1, m2]; omega) (by rw [m1, m2]; omega), m1, m2]
theorem tm_alg (x a b c e f : Int) : ((((0 * 4096 + x * a) * 4096 + x * b) * 4096 + x * c) * 4096 + x * e) * 4096 + x * f = x * ((((a * 4096 + b) * 4096 + c) * 4096 + e) * 4096 + f) := by grind
theorem tmV_ok {d x y : Int64} (hd : 0 < d.toInt) (hd2 : d.toInt < 1125899906842624) (hx : 0 ≤ x.toInt) (hx2 : x.toInt < d.toInt) (hy : 0 ≤ y.toInt) (hy2 : y.toInt < 1125899906842624) : (tmV d x y).toInt = (x.toInt * y.toInt) % d.toInt := by
  have e0 : rdV d (0 + x * ((y >>> ((48 : Int32).toInt64 &&& 63)) &&& 4095)) = tmS d x y 0 (nI 48) := by
    unfold tmS
    have : (0 : Int64) * 4096 = 0 := rfl
    rw [this]; rfl
  have h : tmV d x y = tmS d x y (tmS d x y (tmS d x y (tmS d x y (tmS d x y 0 (nI 48)) (nI 36)) (nI 24)) (nI 12)) (nI 0) := by
    unfold tmV; rw [e0]; rfl
  have z0 : (0 : Int64).toInt = 0 := rfl
  have rg : ∀ a : Int, 0 ≤ a % d.toInt ∧ a % d.toInt < d.toInt := fun a => ⟨Int.emod_nonneg _ (by omega), Int.emod_lt_of_pos _ hd⟩
  have q1 := tmS_ok (d := d) (x := x) (y := y) (p := 0) (s := 48) (by omega) hd hd2 hx hx2 (by omega) (by omega)
  have r1 := rg ((0 : Int64).toInt * 4096 + x.toInt * (y.toInt / 2 ^ 48 % 4096))
  rw [← q1] at r1
  have q2 := tmS_ok (d := d) (x := x) (y := y) (s := 36) (by omega) hd hd2 hx hx2 r1.1 r1.2
  have r2 := rg ((tmS d x y 0 (nI 48)).toInt * 4096 + x.toInt * (y.toInt / 2 ^ 36 % 4096))
  rw [← q2] at r2
  have q3 := tmS_ok (d := d) (x := x) (y := y) (s := 24) (by omega) hd hd2 hx hx2 r2.1 r2.2
  have r3 := rg ((tmS d x y (tmS d x y 0 (nI 48)) (nI 36)).toInt * 4096 + x.toInt * (y.toInt / 2 ^ 24 % 4096))
  rw [← q3] at r3
  have q4 := tmS_ok (d := d) (x := x) (y := y) (s := 12) (by omega) hd hd2 hx hx2 r3.1 r3.2
  have r4 := rg ((tmS d x y (tmS d x y (tmS d x y 0 (nI 48)) (nI 36)) (nI 24)).toInt * 4096 + x.toInt * (y.toInt / 2 ^ 12 % 4096))
  rw [← q4] at r4
  have q5 := tmS_ok (d := d) (x := x) (y := y) (s := 0) (by omega) hd hd2 hx hx2 r4.1 r4.2
  rw [h, q5, q4, q3, q2, q1, z0]
  have em : ∀ a b c : Int, (a % d.toInt * b + c) % d.toInt = (a * b + c) % d.toInt := fun a b c => im_add (im_mul (Int.emod_emod _ _) rfl) rfl
  rw [em]
  have em2 : ∀ a b c e : Int, ((a % d.toInt * b + c) * b + e) % d.toInt = ((a * b + c) * b + e) % d.toInt := fun a b c e => im_add (im_mul (em a b c) rfl) rfl
  rw [em2]
  have em3 : ∀ a b c e f : Int, (((a % d.toInt * b + c) * b + e) * b + f) % d.toInt = (((a * b + c) * b + e) * b + f) % d.toInt := fun a b c e f => im_add (im_mul (em2 a b c e) rfl) rfl
  rw [em3]
  have em4 : ∀ a b c e f g : Int, ((((a % d.toInt * b + c) * b + e) * b + f) * b + g) % d.toInt = ((((a * b + c) * b + e) * b + f) * b + g) % d.toInt := fun a b c e f g => im_add (im_mul (em3 a b c e f) rfl) rfl
  rw [em4]
  congr 1
  have ey : y.toInt = (((y.toInt / 2 ^ 48 % 4096 * 4096 + y.toInt / 2 ^ 36 % 4096) * 4096 + y.toInt / 2 ^ 24 % 4096) * 4096 + y.toInt / 2 ^ 12 % 4096) * 4096 + y.toInt / 2 ^ 0 % 4096 := by
    generalize y.toInt = v at *
    have p0 : (2 : Int) ^ 0 = 1 := rfl
    have p1 : (2 : Int) ^ 12 = 4096 := rfl
    have p2 : (2 : Int) ^ 24 = 16777216 := rfl
    have p3 : (2 : Int) ^ 36 = 68719476736 := rfl
    have p4 : (2 : Int) ^ 48 = 281474976710656 := rfl
    rw [p0, p1, p2, p3, p4]
    omega
  exact (tm_alg _ _ _ _ _ _).trans (congrArg (fun v => x.toInt * v) ey.symm)
theorem abs_tri (a b q : Int) (hq : 0 ≤ q) : ((a - q * b).natAbs : Int) ≤ a.natAbs + q * b.natAbs := by
  have h1 : ((q * b).natAbs : Int) = q * b.natAbs := by
    rw [Int.natAbs_mul, Int.natCast_mul]
    congr 1; omega
  rw [← h1]; omega
/-- the extended common divisor -/
def MsI (x y d oT pT c tO tP : Int) : Prop := d = oT * y + pT * x ∧ c = tO * y + tP * x ∧ 0 ≤ d ∧ 0 < c ∧ (tO.natAbs : Int) * d + oT.natAbs * c ≤ x ∧ (tP.natAbs : Int) * d + pT.natAbs * c ≤ y ∧ (∀ g : Int, g ∣ d → g ∣ c → g ∣ x ∧ g ∣ y) ∧ tO.natAbs < 1125899906842624 ∧ oT.natAbs < 1125899906842624 ∧ tP.natAbs < 1125899906842624 ∧ pT.natAbs < 1125899906842624 ∧ d < 1125899906842624 ∧ c < 1125899906842624
theorem ms_b1 {t o d c q x : Int} (hd : 0 < d) (hq : q = c / d) (hc : 0 < c) (hx : x < 1125899906842624) (h : (t.natAbs : Int) * d + o.natAbs * c ≤ x) : ((o.natAbs : Int) * (c - q * d) + (t - q * o).natAbs * d ≤ x) ∧ (t - q * o).natAbs < 1125899906842624 ∧ (q * (o.natAbs : Int) ≤ x) := by
  have q0 : 0 ≤ q := by rw [hq]; exact Int.ediv_nonneg (by omega) (by omega)
  have tri := abs_tri t o q q0
  have m1 : ((t - q * o).natAbs : Int) * d ≤ (t.natAbs + q * o.natAbs) * d := Int.mul_le_mul_of_nonneg_right tri (by omega)
  have e1 : (o.natAbs : Int) * (c - q * d) + (t.natAbs + q * o.natAbs) * d = t.natAbs * d + o.natAbs * c := by grind
  have r : 0 ≤ c - q * d := by
    have := Int.mul_ediv_add_emod c d
    have := Int.emod_nonneg c (b := d) (by omega)
    have : d * (c / d) = q * d := by rw [hq]; grind
    omega
  have n1 : 0 ≤ (o.natAbs : Int) * (c - q * d) := Int.mul_nonneg (by omega) r
  have n2 : ((t - q * o).natAbs : Int) * 1 ≤ (t - q * o).natAbs * d := Int.mul_le_mul_of_nonneg_left (by omega) (by omega)
  have n3 : 0 ≤ (t.natAbs : Int) * d := Int.mul_nonneg (by omega) (by omega)
  have n4 : q * (o.natAbs : Int) * 1 ≤ q * (o.natAbs : Int) * d := Int.mul_le_mul_of_nonneg_left (by omega) (Int.mul_nonneg q0 (by omega))
  have n5 : (t.natAbs + q * o.natAbs) * d = t.natAbs * d + q * (o.natAbs : Int) * d := by grind
  generalize ((t - q * o).natAbs : Nat) = T at *
  generalize (T : Int) * d = Td at *
  generalize (o.natAbs : Int) * (c - q * d) = A at *
  generalize (t.natAbs + q * o.natAbs) * d = B at *
  generalize q * (o.natAbs : Int) * d = E at *
  generalize q * (o.natAbs : Int) = F at *
  generalize (t.natAbs : Int) * d = H at *
  generalize (o.natAbs : Int) * c = K at *
  omega
theorem MsI.step {x y : Int} {d oT pT c tO tP : Int64} (hx : x < 1125899906842624) (hy : y < 1125899906842624) (h : MsI x y d.toInt oT.toInt pT.toInt c.toInt tO.toInt tP.toInt) (hd : d ≠ 0) : (c - c / d * d).toInt = c.toInt % d.toInt ∧ MsI x y (c - c / d * d).toInt (tO - c / d * oT).toInt (tP - c / d * pT).toInt d.toInt oT.toInt pT.toInt := by
  obtain ⟨a1, a2, a3, a4, a5, a6, a7, a8, a9, a10, a11, a12, a13⟩ := h
  have d0 : 0 < d.toInt := by have := i64_ne hd; omega
  have eq : (c / d).toInt = c.toInt / d.toInt := by rw [i64_div d0, Int.tdiv_eq_ediv_of_nonneg (by omega)]
  have er : (c - c / d * d).toInt = c.toInt % d.toInt := by
    have := i64_jremE (x := c) d0 (by omega)
    exact this
  have ed := Int.mul_ediv_add_emod c.toInt d.toInt
  have r1 := Int.emod_nonneg c.toInt (b := d.toInt) (by omega)
  have r2 := Int.emod_lt_of_pos c.toInt d0
  obtain ⟨b1, b2, b3⟩ := ms_b1 (q := (c / d).toInt) d0 eq a4 hx a5
  obtain ⟨c1, c2, c3⟩ := ms_b1 (q := (c / d).toInt) d0 eq a4 hy a6
  have q0 : 0 ≤ (c / d).toInt := by rw [eq]; exact Int.ediv_nonneg (by omega) (by omega)
  have ab : ∀ o : Int, ((c / d).toInt * o).natAbs = ((c / d).toInt * (o.natAbs : Int)).natAbs := fun o => by
    rw [Int.natAbs_mul, Int.natAbs_mul, Int.natAbs_natCast]
  have mo : ((c / d) * oT).toInt = (c / d).toInt * oT.toInt := by
    have := ab oT.toInt
    have n0 : 0 ≤ (c / d).toInt * (oT.toInt.natAbs : Int) := Int.mul_nonneg q0 (by omega)
    generalize hA : (c / d).toInt * (oT.toInt.natAbs : Int) = A at *
    generalize hB : (c / d).toInt * oT.toInt = B at *
    rw [i64_mul (by rw [hB]; omega) (by rw [hB]; omega), hB]
  have mp : ((c / d) * pT).toInt = (c / d).toInt * pT.toInt := by
    have := ab pT.toInt
    have n0 : 0 ≤ (c / d).toInt * (pT.toInt.natAbs : Int) := Int.mul_nonneg q0 (by omega)
    generalize hA : (c / d).toInt * (pT.toInt.natAbs : Int) = A at *
    generalize hB : (c / d).toInt * pT.toInt = B at *
    rw [i64_mul (by rw [hB]; omega) (by rw [hB]; omega), hB]
  have so : (tO - c / d * oT).toInt = tO.toInt - (c / d).toInt * oT.toInt := by
    have k : (tO.toInt - (c / d).toInt * oT.toInt).natAbs < 1125899906842624 := b2
    rw [i64_sub (by rw [mo]; omega) (by rw [mo]; omega), mo]
  have sp : (tP - c / d * pT).toInt = tP.toInt - (c / d).toInt * pT.toInt := by
    have k : (tP.toInt - (c / d).toInt * pT.toInt).natAbs < 1125899906842624 := c2
    rw [i64_sub (by rw [mp]; omega) (by rw [mp]; omega), mp]
  have er2 : c.toInt % d.toInt = c.toInt - (c / d).toInt * d.toInt := by rw [eq]; generalize c.toInt / d.toInt = Q at *; rw [Int.mul_comm]; omega
  refine ⟨er, ?_, a1, by rw [er]; exact r1, d0, ?_, ?_, ?_, a9, by rw [so]; exact b2, a11, by rw [sp]; exact c2, by rw [er]; omega, a12⟩
  · rw [er, er2, so, sp]
    generalize (c / d).toInt = Q at *
    rw [a2]
    conv => lhs; rw [a1]
    grind
  · rw [er, er2, so]; exact b1
  · rw [er, er2, sp]; exact c1
  · intro g h1 h2
    rw [er] at h1
    exact a7 g h2 (dvd_of_em h1 h2)
theorem msL_ok {x y : Int} (hx : x < 1125899906842624) (hy : y < 1125899906842624) : ∀ (k m : Nat) (d oT pT c tO tP : Int64), MsI x y d.toInt oT.toInt pT.toInt c.toInt tO.toInt tP.toInt → d.toInt ≤ c.toInt → d.toInt * c.toInt < 2 ^ k → k + 1 ≤ m → ∃ c' tP' tO' : Int64, msL m d oT pT c tO tP = (c', tP', tO') ∧ c'.toInt = tO'.toInt * y + tP'.toInt * x ∧ 0 < c'.toInt ∧ c'.toInt ∣ x ∧ c'.toInt ∣ y := by
  have fin : ∀ (m : Nat) (d oT pT c tO tP : Int64), MsI x y d.toInt oT.toInt pT.toInt c.toInt tO.toInt tP.toInt → d = 0 → 1 ≤ m → ∃ c' tP' tO' : Int64, msL m d oT pT c tO tP = (c', tP', tO') ∧ c'.toInt = tO'.toInt * y + tP'.toInt * x ∧ 0 < c'.toInt ∧ c'.toInt ∣ x ∧ c'.toInt ∣ y := by
    intro m d oT pT c tO tP h hd hm
    obtain ⟨m', rfl⟩ : ∃ m', m = m' + 1 := ⟨m - 1, by omega⟩
    obtain ⟨a1, a2, a3, a4, a5, a6, a7, _⟩ := h
    refine ⟨c, tP, tO, by unfold msL; rw [if_pos hd], a2, a4, ?_⟩
    exact a7 c.toInt (by rw [hd]; exact dvd_i0 _) (Int.dvd_refl _)
  intro k
  induction k with
  | zero =>
    intro m d oT pT c tO tP h hdc hk hm
    have a3 := h.2.2.1
    have a4 := h.2.2.2.1
    refine fin m d oT pT c tO tP h ?_ (by omega)
    apply i64_zero.mp
    rcases Int.lt_or_le 0 d.toInt with q | q
    · have : 1 * 1 ≤ d.toInt * c.toInt := Int.mul_le_mul (by omega) (by omega) (by omega) (by omega)
      have p0 : (2 : Int) ^ 0 = 1 := rfl
      omega
    · omega
  | succ k ih =>
    intro m d oT pT c tO tP h hdc hk hm
    by_cases c0 : d = 0
    · exact fin m d oT pT c tO tP h c0 (by omega)
    · obtain ⟨m', rfl⟩ : ∃ m', m = m' + 1 := ⟨m - 1, by omega⟩
      obtain ⟨er, st⟩ := MsI.step hx hy h c0
      unfold msL
      rw [if_neg c0]
      have d0 : 0 < d.toInt := by have := i64_ne c0; have := h.2.2.1; omega
      have r2 := Int.emod_lt_of_pos c.toInt d0
      have r1 := Int.emod_nonneg c.toInt (b := d.toInt) (by omega)
      refine ih m' _ _ _ _ _ _ st (by rw [er]; omega) ?_ (by omega)
      rw [er]
      have q1 : 1 ≤ c.toInt / d.toInt := Int.le_ediv_of_mul_le d0 (by omega)
      have ed := Int.mul_ediv_add_emod c.toInt d.toInt
      have q2 : d.toInt * 1 ≤ d.toInt * (c.toInt / d.toInt) := Int.mul_le_mul_of_nonneg_left q1 (by omega)
      have q3 : 2 * (c.toInt % d.toInt) ≤ c.toInt := by omega
      have q4 : d.toInt * (2 * (c.toInt % d.toInt)) ≤ d.toInt * c.toInt := Int.mul_le_mul_of_nonneg_left q3 (by omega)
      have e2 : (2 : Int) ^ (k + 1) = 2 * 2 ^ k := by rw [Int.pow_succ]; grind
      have e3 : d.toInt * (2 * (c.toInt % d.toInt)) = 2 * (c.toInt % d.toInt * d.toInt) := by grind
      rw [e2] at hk
      rw [e3] at q4
      omega
theorem msV_ok {x y : Int64} (hx : 0 ≤ x.toInt) (hx2 : x.toInt < 1125899906842624) (hy : 0 < y.toInt) (hy2 : y.toInt < 1125899906842624) : (msV x y).1.toInt = (msV x y).2.2.toInt * y.toInt + (msV x y).2.1.toInt * x.toInt ∧ 0 < (msV x y).1.toInt ∧ (msV x y).1.toInt ∣ x.toInt ∧ (msV x y).1.toInt ∣ y.toInt := by
  have z0 : (0 : Int64).toInt = 0 := rfl
  have z1 : (1 : Int64).toInt = 1 := rfl
  have h0 : MsI x.toInt y.toInt x.toInt (0 : Int64).toInt (1 : Int64).toInt y.toInt (1 : Int64).toInt (0 : Int64).toInt := by
    rw [z0, z1]
    refine ⟨by omega, by omega, hx, hy, ?_, ?_, fun g a b => ⟨a, b⟩, by decide, by decide, by decide, by decide, hx2, hy2⟩
    · show (1 : Int) * x.toInt + 0 * y.toInt ≤ x.toInt
      omega
    · show (0 : Int) * x.toInt + 1 * y.toInt ≤ y.toInt
      omega
  have key : ∃ c' tP' tO' : Int64, msV x y = (c', tP', tO') ∧ c'.toInt = tO'.toInt * y.toInt + tP'.toInt * x.toInt ∧ 0 < c'.toInt ∧ c'.toInt ∣ x.toInt ∧ c'.toInt ∣ y.toInt := by
    by_cases c0 : x = 0
    · exact msL_ok hx2 hy2 0 128 x 0 1 y 1 0 h0 (by rw [c0, z0]; omega) (by rw [c0, z0]; simp) (by omega)
    · have : msV x y = msL 127 (y - y / x * x) (1 - y / x * 0) (0 - y / x * 1) x 0 1 := by
        show msL (127 + 1) x 0 1 y 1 0 = _
        conv => lhs; unfold msL
        rw [if_neg c0]
      rw [this]
      obtain ⟨er, st⟩ := MsI.step hx2 hy2 h0 c0
      have d0 : 0 < x.toInt := by have := i64_ne c0; omega
      have r2 := Int.emod_lt_of_pos y.toInt d0
      have r1 := Int.emod_nonneg y.toInt (b := x.toInt) (by omega)
      refine msL_ok hx2 hy2 100 127 _ _ _ _ _ _ st (by rw [er]; omega) ?_ (by omega)
      rw [er]
      have : y.toInt % x.toInt * x.toInt ≤ 1125899906842623 * 1125899906842623 := Int.mul_le_mul (by omega) (by omega) (by omega) (by omega)
      have p : (1125899906842623 : Int) * 1125899906842623 < 2 ^ 100 := by decide
      omega
  obtain ⟨c', tP', tO', e, h1, h2, h3, h4⟩ := key
  rw [e]; exact ⟨h1, h2, h3, h4⟩
theorem msV_dvd {x y : Int64} (hx : 0 < x.toInt) (hy : 0 ≤ y.toInt) (h : x.toInt ∣ y.toInt) : msV x y = (x, 1, 0) := by
  have c0 : x ≠ 0 := fun q => by rw [q] at hx; exact absurd hx (by decide)
  have e : y - y / x * x = 0 := by
    apply i64_zero.mp
    have := i64_jremE (x := y) hx hy
    exact this.trans (Int.emod_eq_zero_of_dvd h)
  show msL (127 + 1) x 0 1 y 1 0 = _
  unfold msL
  rw [if_neg c0, e]
  show msL (126 + 1) 0 _ _ x 0 1 = _
  unfold msL
  rw [if_pos rfl]
