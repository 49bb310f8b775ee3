/-- answers of both sides -/
theorem dmV_nn (n : Nat) (A : Nat → Nat → Int64) : 0 ≤ (dmV n A).toInt := by
  have ex : (dmX n A).toInt = mDet n (fun p q => (A p q).toInt) % (2147483647 : Int64).toInt := moV_ok prm_P (by decide) (by decide) (by decide) A
  have ey : (dmY n A).toInt = mDet n (fun p q => (A p q).toInt) % (2147483629 : Int64).toInt := moV_ok prm_Q (by decide) (by decide) (by decide) A
  unfold dmV
  generalize dmX n A = x at ex ⊢
  generalize dmY n A = y at ey ⊢
  generalize mDet n (fun p q => (A p q).toInt) = d at ex ey ⊢
  have hq : (2147483629 : Int64).toInt = 2147483629 := by decide
  have hpq : (2147483647 : Int64).toInt = 2147483647 := by decide
  obtain ⟨t1, t2, t3⟩ := pwN_inv (q := 2147483629) prm_Q (by decide) (by decide) (e := 2147483627) (by decide) (b := 2147483647) (by decide)
  have ek := dmK_ok (x := x) (y := y) (q := 2147483629) (b := 2147483647) (d := d) (by decide) (by decide) (by rw [ex, hpq]; omega) (by rw [ex, hpq]; omega) (by rw [ey, hq]; omega) (by rw [ey, hq]; omega) ex ey t1 t2 t3
  unfold dmK
  generalize jrem (jrem (jrem (y - x) 2147483629 + 2147483629) 2147483629 * pwN 2147483629 62 1 (jrem (jrem 2147483647 2147483629 + 2147483629) 2147483629) 2147483627) 2147483629 = k at ek ⊢
  rw [hq, hpq] at ek
  rw [hpq] at ex
  have em : (2147483647 * k).toInt = 2147483647 * k.toInt := by rw [i64_mul (by rw [hpq]; omega) (by rw [hpq]; omega), hpq]
  rw [i64_add (by rw [em]; omega) (by rw [em]; omega), em]
  omega
theorem apW_nn {n a x y : Nat} {F T : Nat → Nat} {w : Nat → Int32} : 0 ≤ (apW n a F T w x y).toInt := by
  unfold apW
  split
  · decide
  · exact dmV_nn _ _
theorem zIn_nI {u n : Nat} (hu : u < n) (hn : n < 2 ^ 31) : zIn (nI u) (nI n) = true := zIn_t (Int32.not_lt.mpr (nI_le (a := 0) (Nat.zero_le u) (by omega))) (Int32.not_le.mpr ((nI_ltI (by omega) hn).mpr hu))
theorem nd_nI {u n : Nat} (hu : u < n) (hn : n < 2 ^ 31) : nd n (nI u) = some u := by
  unfold nd
  rw [if_pos (zIn_nI hu hn), nI_clamp (by omega)]
theorem cn_sop {n a : Nat} {F T : Nat → Nat} {w : Nat → Int32} (h : netOk n a F T w) : cnV n a F T w x0 (fun v => v) = sopV n 0 a F T w (fun v => v) ∧ 0 ≤ (cnV n a F T w x0 (fun v => v)).toInt := by
  rcases Nat.eq_zero_or_pos n with q | q
  · subst q
    have e : cnV 0 a F T w x0 (fun v => v) = 0 := if_pos rfl
    rw [e]
    exact ⟨rfl, by decide⟩
  · obtain ⟨hn, ha, hft, hw⟩ := id h
    obtain ⟨s1, s2⟩ := cnV_sop (w := w) (X := x0) (f0 := 0) (P' := fun v => v) q hn ha hft (fun k hk => by have := hw k hk; omega) (FO.id n) hn (fun _ _ _ _ => Iff.rfl) (by omega) (fun k hk => absurd hk (by omega)) (fun _ _ _ => rfl)
    refine ⟨s1, ?_⟩
    rw [s2]
    exact tcN_pos _ _ _ _ (fun j _ hj => by have := hw j (by omega); omega)
theorem apart_eq {n a u v : Nat} {F T : Nat → Nat} {w : Nat → Int32} (h : netOk n a F T w) (hu : u < n) (hv : v < n) : apartV n a F T w (nI u) (nI v) = apW n a F T w u v := by
  have hn := h.1
  unfold apartV
  rw [nd_nI hu (by omega), nd_nI hv (by omega)]
  show (if u = v then 0 else dtN n (strM n v (strM n u (fbM F T w Z0 a)))) = apW n a F T w u v
  unfold apW
  by_cases e : u = v
  · rw [if_pos e, if_pos e]
  · rw [if_neg e, if_neg e, apV_ok h hu hv e]
theorem res_0 {n a u v : Nat} {F T : Nat → Nat} {w : Nat → Int32} {s : Int32} (h : netOk n a F T w) (h0 : cnV n a F T w x0 (fun v => v) = 0) : resV n a F T w (nI u) (nI v) s = -1 := by
  unfold resV
  rw [← (cn_sop h).1, if_pos h0]
theorem res_1 {n a u v : Nat} {F T : Nat → Nat} {w : Nat → Int32} {s : Int32} (h : netOk n a F T w) (hu : u < n) (hv : v < n) (h0 : ¬ cnV n a F T w x0 (fun v => v) = 0) : gcO 128 (apW n a F T w u v) (cnV n a F T w x0 (fun v => v)) = some (cdV (apW n a F T w u v) (cnV n a F T w x0 (fun v => v))) ∧ ¬ cdV (apW n a F T w u v) (cnV n a F T w x0 (fun v => v)) = 0 ∧ resV n a F T w (nI u) (nI v) s = (if s = 0 then apW n a F T w u v else cnV n a F T w x0 (fun v => v)) / cdV (apW n a F T w u v) (cnV n a F T w x0 (fun v => v)) := by
  obtain ⟨c1, c2⟩ := cn_sop h
  have a0 := apW_nn (n := n) (a := a) (x := u) (y := v) (F := F) (T := T) (w := w)
  have np : 0 < (cnV n a F T w x0 (fun v => v)).toInt := by
    have : (cnV n a F T w x0 (fun v => v)).toInt ≠ 0 := fun q => h0 (i64_zero.mp q)
    omega
  have g0 : ¬ cdV (apW n a F T w u v) (cnV n a F T w x0 (fun v => v)) = 0 := fun q => by
    have := cd_pos a0 c2 (Or.inr np)
    rw [q] at this
    exact absurd this (by decide)
  refine ⟨gc_some a0 c2, g0, ?_⟩
  unfold resV
  rw [apart_eq h hu hv, ← c1, if_neg h0, if_neg g0]
theorem told2_eq {n a : Nat} {F T : Nat → Nat} (hft : ∀ k, k < a → F k < n ∧ T k < n) (hn : n ≤ 10) (ha : a ≤ 30) : nI (ftV n a F T).2.1 = nI n - (nI a - nI (ttV a F T).1) := by
  have h := (tt_ok hft ha).2
  have hle : (ftV n a F T).2.1 ≤ n := by
    have := ft_pc hft ha a 0 0 n (fun v => v) (by omega) (FO.id n) (by decide)
    rw [pc_0, Nat.zero_add] at this
    show (ftL F T a 0 0 n (fun v => v)).2.1 ≤ n
    generalize pcN 32 (uN (ftL F T a 0 0 n (fun v => v)).1) = z at this
    omega
  rw [i32_sub30 a ha _ (by omega), i32_sub30 n (by omega) _ (by omega)]
  congr 1
  omega
/-- what lies behind the nodes stays as it was -/
theorem frL_hi {M : Nat → Nat → Int64} {v n q : Nat} {t : Int64} (hq : n ≤ q) : ∀ (m j : Nat) (C : Nat → Int64), j + m = n → frL M v t m j C q = C q := by
  intro m
  induction m with
  | zero => intro j C _; rfl
  | succ m ih =>
    intro j C hj
    unfold frL
    rw [ih (j + 1) _ (by omega)]
    unfold vp_updL
    rw [if_neg (by omega)]
theorem rnI_hi {M : Nat → Nat → Int64} {n s q : Nat} (hq : n ≤ q) : ∀ (m v : Nat) (C K : Nat → Int64) (mv : Int32), v + m = n → (rnI M n s m v C K mv).1 q = C q ∧ (rnI M n s m v C K mv).2.1 q = K q := by
  intro m
  induction m with
  | zero => intro v C K mv _; exact ⟨rfl, rfl⟩
  | succ m ih =>
    intro v C K mv hv
    unfold rnI
    split
    · exact ih (v + 1) C K mv (by omega)
    · obtain ⟨a, b⟩ := ih (v + 1) (frV M n v (C v / M v v) C) (vp_updL K v (K v + C v / M v v)) 1 (by omega)
      refine ⟨a.trans (frL_hi hq n 0 C (by omega)), b.trans ?_⟩
      unfold vp_updL
      rw [if_neg (by omega)]
theorem rnO_hi {M : Nat → Nat → Int64} {n s q : Nat} (hq : n ≤ q) : ∀ (m : Nat) (S : (Nat → Int64) × (Nat → Int64) × Int32), (rnO M n s m S).1 q = S.1 q ∧ (rnO M n s m S).2 q = S.2.1 q := by
  intro m
  induction m with
  | zero => intro S; exact ⟨rfl, rfl⟩
  | succ m ih =>
    intro S
    unfold rnO
    split
    · exact ⟨rfl, rfl⟩
    · obtain ⟨a, b⟩ := ih (rnI M n s n 0 S.1 S.2.1 0)
      obtain ⟨c, d⟩ := rnI_hi (M := M) (s := s) hq n 0 S.1 S.2.1 0 (by omega)
      exact ⟨a.trans c, b.trans d⟩
theorem rnV_hi {M : Nat → Nat → Int64} {n s q : Nat} {C K : Nat → Int64} (hq : n ≤ q) (hq2 : q < 10) : (rnV M n s C K).1 q = C q ∧ (rnV M n s C K).2 q = 0 := by
  unfold rnV
  obtain ⟨a, b⟩ := rnO_hi (M := M) (s := s) hq 1000000 (C, zrA 10 K, 1)
  refine ⟨a, b.trans ?_⟩
  exact if_pos hq2
theorem chO_set {n v : Nat} {B : Int} {C : Nat → Int64} {y : Int64} (h : chO n B C) (hv : v < n) (hy : 0 ≤ y.toInt) (hy2 : y.toInt ≤ 200) : chO n (B + 200) (vp_updL C v y) := by
  refine ⟨fun j hj => ?_, ?_⟩
  · unfold vp_updL
    split
    · exact hy
    · exact h.1 j hj
  · have e1 := mSum_add (fun j => (C j).toInt) (fun j => if j = v then y.toInt else 0) n
    have e2 : mSum n (fun j => if j = v then y.toInt else 0) = y.toInt := by
      rw [mSum_one n v hv (fun i _ hn => if_neg hn), if_pos rfl]
    have le : ∀ m, m ≤ n → mSum m (fun j => (vp_updL C v y j).toInt) ≤ mSum m (fun j => (C j).toInt + (if j = v then y.toInt else 0)) := by
      intro m
      induction m with
      | zero => intro _; exact Int.le_refl _
      | succ m ih =>
        intro hm
        have := ih (by omega)
        have c := h.1 m (by omega)
        show mSum m (fun j => (vp_updL C v y j).toInt) + (vp_updL C v y m).toInt ≤ mSum m (fun j => (C j).toInt + (if j = v then y.toInt else 0)) + ((C m).toInt + (if m = v then y.toInt else 0))
        unfold vp_updL at *
        by_cases e : m = v
        · rw [if_pos e, if_pos e]; omega
        · rw [if_neg e, if_neg e]; omega
    have := le n (Nat.le_refl _)
    have := h.2
    omega
theorem chO_up {n : Nat} {B B' : Int} {C : Nat → Int64} (h : chO n B C) (hB : B ≤ B') : chO n B' C := ⟨h.1, Int.le_trans h.2 hB⟩
theorem chO_s {n : Nat} {B : Int} {C : Nat → Int64} (h : chO n B C) (h0 : C n = 0) : chO (n + 1) B C := by
  have z : (0 : Int64).toInt = 0 := rfl
  refine ⟨fun j hj => ?_, ?_⟩
  · by_cases e : j = n
    · rw [e, h0, z]; exact Int.le_refl _
    · exact h.1 j (by omega)
  · show mSum n (fun j => (C j).toInt) + (C n).toInt ≤ B
    rw [h0, z, Int.add_zero]; exact h.2
