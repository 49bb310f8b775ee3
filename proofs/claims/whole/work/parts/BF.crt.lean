/-- the reference's determinant: two primes put together -/
def dmX (n : Nat) (A : Nat → Nat → Int64) : Int64 := moV n 2147483647 2147483645 A
def dmY (n : Nat) (A : Nat → Nat → Int64) : Int64 := moV n 2147483629 2147483627 A
def dmK (x y : Int64) : Int64 := jrem (jrem (jrem (y - x) 2147483629 + 2147483629) 2147483629 * pwN 2147483629 62 1 (jrem (jrem 2147483647 2147483629 + 2147483629) 2147483629) 2147483627) 2147483629
def dmV (n : Nat) (A : Nat → Nat → Int64) : Int64 := dmX n A + 2147483647 * dmK (dmX n A) (dmY n A)
theorem dmK_ok {x y q b t : Int64} {d : Int} (h0 : 0 < q.toInt) (hp : q.toInt < 2147483648) (hx : 0 ≤ x.toInt) (hx2 : x.toInt < 2147483648) (hy : 0 ≤ y.toInt) (hy2 : y.toInt < 2147483648) (hb : x.toInt = d % b.toInt) (hyq : y.toInt = d % q.toInt) (t1 : 0 ≤ t.toInt) (t2 : t.toInt < q.toInt) (ti : (b.toInt * t.toInt) % q.toInt = 1) : (jrem (jrem (jrem (y - x) q + q) q * t) q).toInt = (d / b.toInt) % q.toInt := by
  have e1 : (y - x).toInt = y.toInt - x.toInt := i64_sub (by omega) (by omega)
  have e2 := i64_jremP (x := y - x) (p := q) h0 (by omega)
  rw [e1] at e2
  have e5 := i64_mulrem (x := jrem (jrem (y - x) q + q) q) (y := t) (p := q) h0 hp (by rw [e2]; exact Int.emod_nonneg _ (by omega)) (by rw [e2]; exact Int.emod_lt_of_pos _ h0) t1 t2
  rw [e5, e2]
  have hd : b.toInt * (d / b.toInt) + d % b.toInt = d := Int.mul_ediv_add_emod _ _
  rw [← hb] at hd
  generalize d / b.toInt = z at hd ⊢
  have a0 : (y.toInt - x.toInt) % q.toInt % q.toInt = (b.toInt * z) % q.toInt := by
    rw [Int.emod_emod, hyq]
    have : b.toInt * z = d - x.toInt := by omega
    rw [this, Int.sub_emod, Int.emod_emod, ← Int.sub_emod]
  rw [im_mul a0 rfl]
  have a2 : b.toInt * z * t.toInt = z * (b.toInt * t.toInt) := by grind
  have h11 : (1 : Int) % q.toInt = 1 := by rw [← ti]; exact Int.emod_emod _ _
  rw [a2, im_mul (a := z) (a' := z) (b := b.toInt * t.toInt) (b' := 1) rfl (by rw [ti, h11]), Int.mul_one]
theorem dmV_ok {n : Nat} {A : Nat → Nat → Int64} (h1 : 0 ≤ mDet n (fun p q => (A p q).toInt)) (h2 : mDet n (fun p q => (A p q).toInt) < 4611685975477714963) : (dmV n A).toInt = mDet n (fun p q => (A p q).toInt) := by
  have ex : (dmX n A).toInt = mDet n (fun p q => (A p q).toInt) % (2147483647 : Int64).toInt := moV_ok prm_P (by decide) (by decide) (by decide) A
  have ey : (dmY n A).toInt = mDet n (fun p q => (A p q).toInt) % (2147483629 : Int64).toInt := moV_ok prm_Q (by decide) (by decide) (by decide) A
  unfold dmV
  generalize dmX n A = x at ex ⊢
  generalize dmY n A = y at ey ⊢
  generalize mDet n (fun p q => (A p q).toInt) = d at h1 h2 ex ey ⊢
  have hq : (2147483629 : Int64).toInt = 2147483629 := by decide
  have hpq : (2147483647 : Int64).toInt = 2147483647 := by decide
  obtain ⟨t1, t2, t3⟩ := pwN_inv (q := 2147483629) prm_Q (by decide) (by decide) (e := 2147483627) (by decide) (b := 2147483647) (by decide)
  have ek := dmK_ok (x := x) (y := y) (q := 2147483629) (b := 2147483647) (d := d) (by decide) (by decide) (by rw [ex, hpq]; omega) (by rw [ex, hpq]; omega) (by rw [ey, hq]; omega) (by rw [ey, hq]; omega) ex ey t1 t2 t3
  unfold dmK
  generalize jrem (jrem (jrem (y - x) 2147483629 + 2147483629) 2147483629 * pwN 2147483629 62 1 (jrem (jrem 2147483647 2147483629 + 2147483629) 2147483629) 2147483627) 2147483629 = k at ek ⊢
  rw [hq, hpq] at ek
  rw [hpq] at ex
  have em : (2147483647 * k).toInt = 2147483647 * k.toInt := by rw [i64_mul (by rw [hpq]; omega) (by rw [hpq]; omega), hpq]
  rw [i64_add (by rw [em]; omega) (by rw [em]; omega), em]
  omega
