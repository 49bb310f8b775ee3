/-- the reference's cross: the measure of the pivot -/
def muN (d : Int64) (t : Nat) (M : Nat → Nat → Int64) : Nat := if M t t = 0 then d.toInt.toNat else (M t t).toInt.toNat
theorem dvd_i0 (g : Int) : g ∣ (0 : Int64).toInt := by
  show g ∣ 0
  exact Int.dvd_zero g
theorem i64_ne {x : Int64} (h : ¬ x = 0) : x.toInt ≠ 0 := fun q => h (i64_zero.mp q)
theorem mu_le {d : Int64} {s t : Nat} {M : Nat → Nat → Int64} (h : mRg d.toInt s M) (ht : t < s) : muN d t M ≤ d.toInt.toNat := by
  unfold muN
  have := h t t ht ht
  split
  · exact Nat.le_refl _
  · omega
theorem euc1 {x y d : Int64} (hx : 0 ≤ x.toInt) (hx2 : x.toInt < d.toInt) (hy : 0 < y.toInt) (hy2 : y.toInt < d.toInt) (_ : d.toInt < 4611686018427387904) : (x.toInt - y.toInt * (jrem (x / y) d).toInt) % d.toInt = x.toInt % y.toInt := by
  have e1 : (x / y).toInt = x.toInt / y.toInt := by rw [i64_div hy, Int.tdiv_eq_ediv_of_nonneg hx]
  have n1 : 0 ≤ x.toInt / y.toInt := Int.ediv_nonneg hx (by omega)
  have n2 : x.toInt / y.toInt ≤ x.toInt := Int.ediv_le_self _ hx
  have e2 : (jrem (x / y) d).toInt = x.toInt / y.toInt := by
    rw [i64_jremE (by omega) (by rw [e1]; exact n1), e1]
    exact Int.emod_eq_of_lt n1 (by omega)
  rw [e2]
  have e3 := Int.mul_ediv_add_emod x.toInt y.toInt
  have e4 : x.toInt - y.toInt * (x.toInt / y.toInt) = x.toInt % y.toInt := by omega
  rw [e4]
  have a1 := Int.emod_nonneg x.toInt (b := y.toInt) (by omega)
  have a2 := Int.emod_lt_of_pos x.toInt hy
  exact Int.emod_eq_of_lt a1 (by omega)
theorem dvd_of_em {g x y : Int} (h1 : g ∣ x % y) (h2 : g ∣ y) : g ∣ x := by
  rw [← Int.mul_ediv_add_emod x y]
  exact Int.dvd_add (Int.dvd_mul_of_dvd_left h2) h1
/-- one row cleared -/
theorem ccR_ok {t s i : Nat} {d : Int64} (hd : 0 < d.toInt) (hd2 : d.toInt < 4611686018427387904) (ht : t < i) (hi : i < s) : ∀ f M, mRg d.toInt s M → Zt s t M → muN d t M + 2 ≤ f → ∃ M', ccR t s d i f M = some M' ∧ Rf s t d.toInt M M' ∧ M' i t = 0 ∧ muN d t M' ≤ muN d t M ∧ (∀ p c, p < s → c < s → p ≠ i → p ≠ t → M' p c = M p c) ∧ (∀ g : Int, g ∣ d.toInt → g ∣ (M' t t).toInt → g ∣ (M t t).toInt ∧ g ∣ (M i t).toInt) ∧ (M i t = 0 → M' = M) := by
  intro f
  induction f with
  | zero => intro M _ _ q; omega
  | succ f ih =>
    intro M h z hf
    unfold ccR
    by_cases c : M i t = 0
    · rw [if_pos c]
      exact ⟨M, rfl, Rf.rf h, c, Nat.le_refl _, fun _ _ _ _ _ _ => rfl, fun _ _ q => ⟨q, by rw [c]; exact dvd_i0 _⟩, fun _ => rfl⟩
    · rw [if_neg c]
      have hts : t < s := by omega
      have hit := h i t hi hts
      have nit := i64_ne c
      have st : ∀ N, Rf s t d.toInt M N → N t t = M t t → (M t t = 0 ∧ N = M ∨ M t t ≠ 0 ∧ (N i t).toInt = (M i t).toInt % (M t t).toInt) → (∀ p c, p < s → c < s → p ≠ i → N p c = M p c) → ∃ M', ccR t s d i f (cr2 t s i N) = some M' ∧ Rf s t d.toInt M M' ∧ M' i t = 0 ∧ muN d t M' ≤ muN d t M ∧ (∀ p c, p < s → c < s → p ≠ i → p ≠ t → M' p c = M p c) ∧ (∀ g : Int, g ∣ d.toInt → g ∣ (M' t t).toInt → g ∣ (M t t).toInt ∧ g ∣ (M i t).toInt) ∧ (M i t = 0 → M' = M) := by
        intro N rN e1 e2 e3
        unfold cr2
        by_cases c2 : N i t = 0
        · rw [if_pos c2]
          obtain ⟨f', rfl⟩ : ∃ f', f = f' + 1 := ⟨f - 1, by omega⟩
          unfold ccR
          rw [if_pos c2]
          refine ⟨N, rfl, rN, c2, ?_, fun p q hp hq n1 _ => e3 p q hp hq n1, fun g _ q => ?_, fun q => absurd q c⟩
          · unfold muN; rw [e1]; exact Nat.le_refl _
          · rw [e1] at q
            refine ⟨q, ?_⟩
            rcases e2 with ⟨a, b⟩ | ⟨a, b⟩
            · rw [b] at c2; exact absurd c2 c
            · refine dvd_of_em ?_ q
              rw [← b, c2]; exact dvd_i0 _
        · rw [if_neg c2]
          have zN := rN.zt z
          have hR := sw_Rf (d := d.toInt) rN.1 zN (by omega) hi (Nat.le_refl t) hts (by omega)
          have s1 : swJ i t s N t t = N i t := by unfold swJ swN; rw [if_pos hts, if_neg (by omega), if_pos rfl]
          have s2 : swJ i t s N i t = N t t := by unfold swJ swN; rw [if_pos hts, if_pos rfl]
          have n1 := i64_ne c2
          have r1 := rN.1 i t hi hts
          have m1 : muN d t (swJ i t s N) < muN d t M := by
            unfold muN
            rw [s1, if_neg c2]
            rcases e2 with ⟨a, b⟩ | ⟨a, b⟩
            · rw [if_pos a]; omega
            · rw [if_neg a, b]
              have n2 := i64_ne a
              have r2 := h t t hts hts
              have := Int.emod_lt_of_pos (M i t).toInt (b := (M t t).toInt) (by omega)
              have := Int.emod_nonneg (M i t).toInt (b := (M t t).toInt) (by omega)
              omega
          obtain ⟨M', a1, a2, a3, a4, a5, a6, a7⟩ := ih (swJ i t s N) hR.1 (hR.zt zN) (by omega)
          refine ⟨M', a1, (rN.tr hR).tr a2, a3, by omega, fun p q hp hq n1 n2 => ?_, fun g hg q => ?_, fun q => absurd q c⟩
          · rw [a5 p q hp hq n1 n2]
            unfold swJ swN
            rw [if_pos hq, if_neg n1, if_neg n2]; exact e3 p q hp hq n1
          · have q1 := a6 g hg q
            rw [s1, s2, e1] at q1
            refine ⟨q1.2, ?_⟩
            rcases e2 with ⟨a, b⟩ | ⟨a, b⟩
            · rw [b] at q1; exact q1.1
            · rw [b] at q1; exact dvd_of_em q1.1 q1.2
      by_cases c3 : M t t = 0
      · have : cr1 t s d i M = M := by unfold cr1; rw [if_pos c3]
        rw [this]
        exact st M (Rf.rf h) rfl (Or.inl ⟨c3, rfl⟩) (fun _ _ _ _ _ => rfl)
      · have n2 := i64_ne c3
        have r2 := h t t hts hts
        have c1 : cr1 t s d i M = lrL i t (M i t / M t t) d s 0 M := by unfold cr1; rw [if_neg c3]
        have qd := qd_ok (x := M i t) (y := M t t) (d := d) hit.1 (by omega) hd hd2
        have o := lrL_ok hd hd2 hi hts (by omega) qd.1 qd.2 s 0 M (by omega) h
        have hR := lr_Rf hd hd2 h z (by omega) hi (Nat.le_refl t) hts (by omega) qd.1 qd.2
        rw [c1]
        exact st _ hR (o.1 t t (Or.inl (by omega))) (Or.inr ⟨c3, by rw [o.2 t (by omega) hts]; exact euc1 hit.1 hit.2 (by omega) r2.2 hd2⟩) (fun p q _ _ n => o.1 p q (Or.inl n))
theorem ccRO_ok {t s : Nat} {d : Int64} {f : Nat} (hd : 0 < d.toInt) (hd2 : d.toInt < 4611686018427387904) (hts : t < s) (hf : d.toInt.toNat + 2 ≤ f) : ∀ m i M, i + m = s → t < i → mRg d.toInt s M → Zt s t M → (∀ p, t < p → p < i → M p t = 0) → ∃ M', ccRO t s d f m i M = some M' ∧ Rf s t d.toInt M M' ∧ (∀ p, t < p → p < s → M' p t = 0) ∧ muN d t M' ≤ muN d t M ∧ (∀ g : Int, g ∣ d.toInt → g ∣ (M' t t).toInt → g ∣ (M t t).toInt) ∧ ((∀ p, t < p → p < s → M p t = 0) → M' = M) := by
  intro m
  induction m with
  | zero => intro i M hi _ h _ hz; exact ⟨M, rfl, Rf.rf h, fun p a b => hz p a (by omega), Nat.le_refl _, fun _ _ q => q, fun _ => rfl⟩
  | succ m ih =>
    intro i M hi hti h z hz
    have := mu_le h hts
    obtain ⟨M1, a1, a2, a3, a4, a5, a6, a7⟩ := ccR_ok hd hd2 hti (by omega) f M h z (by omega)
    obtain ⟨M2, b1, b2, b3, b4, b5, b6⟩ := ih (i + 1) M1 (by omega) (by omega) a2.1 (a2.zt z) (fun p q1 q2 => by
      by_cases c : p = i
      · rw [c]; exact a3
      · rw [a5 p t (by omega) hts c (by omega)]; exact hz p q1 (by omega))
    refine ⟨M2, ?_, a2.tr b2, b3, by omega, fun g hg q => (a6 g hg (b5 g hg q)).1, fun q => ?_⟩
    · unfold ccRO; rw [a1]; exact b1
    · have e := a7 (q i hti (by omega))
      rw [e] at b6
      exact b6 q
/-- one column cleared -/
theorem ccC_ok {t s i : Nat} {d : Int64} (hd : 0 < d.toInt) (hd2 : d.toInt < 4611686018427387904) (ht : t < i) (hi : i < s) : ∀ f M go, mRg d.toInt s M → Zt s t M → muN d t M + 2 ≤ f → ∃ M' go', ccC t s d i f M go = some (M', go') ∧ Rf s t d.toInt M M' ∧ M' t i = 0 ∧ muN d t M' ≤ muN d t M ∧ (∀ p c, p < s → c < s → c ≠ i → c ≠ t → M' p c = M p c) ∧ (∀ g : Int, g ∣ d.toInt → g ∣ (M' t t).toInt → g ∣ (M t t).toInt ∧ g ∣ (M t i).toInt) ∧ (go = true → go' = true) ∧ (go' = true → go = true ∨ muN d t M' < muN d t M) ∧ (go' = false → ∀ p, p < s → M' p t = M p t) := by
  intro f
  induction f with
  | zero => intro M go _ _ q; omega
  | succ f ih =>
    intro M go h z hf
    unfold ccC
    by_cases c : M t i = 0
    · rw [if_pos c]
      exact ⟨M, go, rfl, Rf.rf h, c, Nat.le_refl _, fun _ _ _ _ _ _ => rfl, fun _ _ q => ⟨q, by rw [c]; exact dvd_i0 _⟩, fun q => q, fun q => Or.inl q, fun _ _ _ => rfl⟩
    · rw [if_neg c]
      have hts : t < s := by omega
      have hit := h t i hts hi
      have nit := i64_ne c
      have st : ∀ N, Rf s t d.toInt M N → (∀ p, p < s → N p t = M p t) → (M t t = 0 ∧ N = M ∨ M t t ≠ 0 ∧ (N t i).toInt = (M t i).toInt % (M t t).toInt) → (∀ p c, p < s → c < s → c ≠ i → N p c = M p c) → ∃ M' go', (if N t i = 0 then ccC t s d i f N go else ccC t s d i f (swK i t s N) true) = some (M', go') ∧ Rf s t d.toInt M M' ∧ M' t i = 0 ∧ muN d t M' ≤ muN d t M ∧ (∀ p c, p < s → c < s → c ≠ i → c ≠ t → M' p c = M p c) ∧ (∀ g : Int, g ∣ d.toInt → g ∣ (M' t t).toInt → g ∣ (M t t).toInt ∧ g ∣ (M t i).toInt) ∧ (go = true → go' = true) ∧ (go' = true → go = true ∨ muN d t M' < muN d t M) ∧ (go' = false → ∀ p, p < s → M' p t = M p t) := by
        intro N rN e0 e2 e3
        have e1 := e0 t hts
        by_cases c2 : N t i = 0
        · rw [if_pos c2]
          obtain ⟨f', rfl⟩ : ∃ f', f = f' + 1 := ⟨f - 1, by omega⟩
          unfold ccC
          rw [if_pos c2]
          refine ⟨N, go, rfl, rN, c2, ?_, fun p q hp hq n1 _ => e3 p q hp hq n1, fun g _ q => ?_, fun q => q, fun q => Or.inl q, fun _ => e0⟩
          · unfold muN; rw [e1]; exact Nat.le_refl _
          · rw [e1] at q
            refine ⟨q, ?_⟩
            rcases e2 with ⟨a, b⟩ | ⟨a, b⟩
            · rw [b] at c2; exact absurd c2 c
            · refine dvd_of_em ?_ q
              rw [← b, c2]; exact dvd_i0 _
        · rw [if_neg c2]
          have zN := rN.zt z
          have hR := sk_Rf (d := d.toInt) rN.1 zN (by omega) hi (Nat.le_refl t) hts (by omega)
          have s1 : swK i t s N t t = N t i := by unfold swK; rw [if_pos hts, if_neg (by omega), if_pos rfl]
          have s2 : swK i t s N t i = N t t := by unfold swK; rw [if_pos hts, if_pos rfl]
          have n1 := i64_ne c2
          have r1 := rN.1 t i hts hi
          have m1 : muN d t (swK i t s N) < muN d t M := by
            unfold muN
            rw [s1, if_neg c2]
            rcases e2 with ⟨a, b⟩ | ⟨a, b⟩
            · rw [if_pos a]; omega
            · rw [if_neg a, b]
              have n2 := i64_ne a
              have r2 := h t t hts hts
              have := Int.emod_lt_of_pos (M t i).toInt (b := (M t t).toInt) (by omega)
              have := Int.emod_nonneg (M t i).toInt (b := (M t t).toInt) (by omega)
              omega
          obtain ⟨M', go', a1, a2, a3, a4, a5, a6, a7, a8, a9⟩ := ih (swK i t s N) true hR.1 (hR.zt zN) (by omega)
          refine ⟨M', go', a1, (rN.tr hR).tr a2, a3, by omega, fun p q hp hq n1 n2 => ?_, fun g hg q => ?_, fun _ => a7 rfl, fun _ => Or.inr (by omega), fun q => by rw [a7 rfl] at q; cases q⟩
          · rw [a5 p q hp hq n1 n2]
            unfold swK
            rw [if_pos hp, if_neg n1, if_neg n2]; exact e3 p q hp hq n1
          · have q1 := a6 g hg q
            rw [s1, s2, e1] at q1
            refine ⟨q1.2, ?_⟩
            rcases e2 with ⟨a, b⟩ | ⟨a, b⟩
            · rw [b] at q1; exact q1.1
            · rw [b] at q1; exact dvd_of_em q1.1 q1.2
      by_cases c3 : M t t = 0
      · have : cc1 t s d i M = M := by unfold cc1; rw [if_pos c3]
        rw [this]
        exact st M (Rf.rf h) (fun _ _ => rfl) (Or.inl ⟨c3, rfl⟩) (fun _ _ _ _ _ => rfl)
      · have n2 := i64_ne c3
        have r2 := h t t hts hts
        have c1 : cc1 t s d i M = lcL i t (M t i / M t t) d s 0 M := by unfold cc1; rw [if_neg c3]
        have qd := qd_ok (x := M t i) (y := M t t) (d := d) hit.1 (by omega) hd hd2
        have o := lcL_ok hd hd2 hi hts (by omega) qd.1 qd.2 s 0 M (by omega) h
        have hR := lc_Rf hd hd2 h z (by omega) hi (Nat.le_refl t) hts (by omega) qd.1 qd.2
        rw [c1]
        exact st _ hR (fun p _ => o.1 p t (Or.inl (by omega))) (Or.inr ⟨c3, by rw [o.2 t (by omega) hts]; exact euc1 hit.1 hit.2 (by omega) r2.2 hd2⟩) (fun p q _ _ n => o.1 p q (Or.inl n))
theorem ccCO_ok {t s : Nat} {d : Int64} {f : Nat} (hd : 0 < d.toInt) (hd2 : d.toInt < 4611686018427387904) (hts : t < s) (hf : d.toInt.toNat + 2 ≤ f) : ∀ m i M go, i + m = s → t < i → mRg d.toInt s M → Zt s t M → (∀ p, t < p → p < i → M t p = 0) → ∃ M' go', ccCO t s d f m i M go = some (M', go') ∧ Rf s t d.toInt M M' ∧ (∀ p, t < p → p < s → M' t p = 0) ∧ muN d t M' ≤ muN d t M ∧ (∀ g : Int, g ∣ d.toInt → g ∣ (M' t t).toInt → g ∣ (M t t).toInt ∧ ∀ c, i ≤ c → c < s → g ∣ (M t c).toInt) ∧ (go = true → go' = true) ∧ (go' = true → go = true ∨ muN d t M' < muN d t M) ∧ (go' = false → ∀ p, p < s → M' p t = M p t) := by
  intro m
  induction m with
  | zero => intro i M go hi _ h _ hz; exact ⟨M, go, rfl, Rf.rf h, fun p a b => hz p a (by omega), Nat.le_refl _, fun _ _ q => ⟨q, fun c a b => by omega⟩, fun q => q, fun q => Or.inl q, fun _ _ _ => rfl⟩
  | succ m ih =>
    intro i M go hi hti h z hz
    have := mu_le h hts
    obtain ⟨M1, go1, a1, a2, a3, a4, a5, a6, a7, a8, a9⟩ := ccC_ok hd hd2 hti (by omega) f M go h z (by omega)
    obtain ⟨M2, go2, b1, b2, b3, b4, b5, b6, b7, b8⟩ := ih (i + 1) M1 go1 (by omega) (by omega) a2.1 (a2.zt z) (fun p q1 q2 => by
      by_cases c : p = i
      · rw [c]; exact a3
      · rw [a5 t p hts (by omega) c (by omega)]; exact hz p q1 (by omega))
    refine ⟨M2, go2, ?_, a2.tr b2, b3, by omega, fun g hg q => ?_, fun q => b6 (a7 q), fun q => ?_, fun q p hp => ?_⟩
    · unfold ccCO; rw [a1]; exact b1
    · have q2 := b5 g hg q
      have q3 := a6 g hg q2.1
      refine ⟨q3.1, fun c h1 h2 => ?_⟩
      by_cases e : c = i
      · rw [e]; exact q3.2
      · have := q2.2 c (by omega) h2
        rwa [a5 t c hts h2 e (by omega)] at this
    · rcases b7 q with r | r
      · rcases a8 r with r | r
        · exact Or.inl r
        · exact Or.inr (by omega)
      · exact Or.inr (by omega)
    · rw [b8 q p hp]
      refine a9 ?_ p hp
      cases hg : go1 with
      | false => rfl
      | true => rw [b6 hg] at q; cases q
theorem cc3_ok {t : Nat} {M : Nat → Nat → Int64} : ∀ m i go, cc3 t M m i go = true ↔ (go = true ∨ ∃ p, i ≤ p ∧ p < i + m ∧ ¬ M p t = 0) := by
  intro m
  induction m with
  | zero => intro i go; unfold cc3; exact ⟨fun q => Or.inl q, fun q => by
      rcases q with q | ⟨p, a, b, _⟩
      · exact q
      · omega⟩
  | succ m ih =>
    intro i go
    unfold cc3
    rw [ih]
    constructor
    · rintro (q | ⟨p, a, b, c⟩)
      · rw [Bool.or_eq_true] at q
        rcases q with q | q
        · exact Or.inl q
        · exact Or.inr ⟨i, Nat.le_refl _, by omega, of_decide_eq_true q⟩
      · exact Or.inr ⟨p, by omega, by omega, c⟩
    · rintro (q | ⟨p, a, b, c⟩)
      · exact Or.inl (by rw [q]; rfl)
      · by_cases e : p = i
        · subst e; exact Or.inl (by rw [decide_eq_true c, Bool.or_true])
        · exact Or.inr ⟨p, by omega, by omega, c⟩
theorem ccO_ok {t s : Nat} {d : Int64} {f : Nat} (hd : 0 < d.toInt) (hd2 : d.toInt < 4611686018427387904) (hts : t < s) (hf : d.toInt.toNat + 2 ≤ f) : ∀ h M, mRg d.toInt s M → Zt s t M → muN d t M + 1 ≤ h → ∃ M', ccO t s d f h M = some M' ∧ Rf s t d.toInt M M' ∧ (∀ p, t < p → p < s → M' p t = 0 ∧ M' t p = 0) ∧ (∀ g : Int, g ∣ d.toInt → g ∣ (M' t t).toInt → g ∣ (M t t).toInt ∧ ((∀ p, t < p → p < s → M p t = 0) → ∀ c, t ≤ c → c < s → g ∣ (M t c).toInt)) := by
  intro h
  induction h with
  | zero => intro M _ _ q; omega
  | succ h ih =>
    intro M hM z hh
    obtain ⟨M1, a1, a2, a3, a4, a5, a6⟩ := ccRO_ok hd hd2 hts hf (s - (t + 1)) (t + 1) M (by omega) (by omega) hM z (fun p q1 q2 => by omega)
    obtain ⟨M2, go, b1, b2, b3, b4, b5, b6, b7, b8⟩ := ccCO_ok hd hd2 hts hf (s - (t + 1)) (t + 1) M1 false (by omega) (by omega) a2.1 (a2.zt z) (fun p q1 q2 => by omega)
    have hu : ccO t s d f (h + 1) M = if cc3 t M2 (s - (t + 1)) (t + 1) go = true then ccO t s d f h M2 else some M2 := by
      conv => lhs; unfold ccO
      rw [a1]
      show (ccCO t s d f (s - (t + 1)) (t + 1) M1 false).bind _ = _
      rw [b1]; rfl
    rw [hu]
    have dv : ∀ g : Int, g ∣ d.toInt → g ∣ (M2 t t).toInt → g ∣ (M t t).toInt ∧ ((∀ p, t < p → p < s → M p t = 0) → ∀ c, t ≤ c → c < s → g ∣ (M t c).toInt) := by
      intro g hg q
      have q2 := b5 g hg q
      refine ⟨a5 g hg q2.1, fun e c h1 h2 => ?_⟩
      have e2 := a6 e
      rw [e2] at q2
      by_cases k : c = t
      · rw [k]; exact q2.1
      · exact q2.2 c (by omega) h2
    cases hg : go with
    | true =>
      have m := b7 hg
      rw [if_pos ((cc3_ok _ _ _).mpr (Or.inl rfl))]
      rcases m with m | m
      · cases m
      obtain ⟨M3, c1, c2, c3, c4⟩ := ih M2 b2.1 (b2.zt (a2.zt z)) (by omega)
      exact ⟨M3, c1, (a2.tr b2).tr c2, c3, fun g hg q => dv g hg (c4 g hg q).1⟩
    | false =>
      have e := b8 hg
      rw [if_neg (by
        rw [cc3_ok]
        rintro (q | ⟨p, q1, q2, q3⟩)
        · cases q
        · exact q3 (by rw [e p (by omega)]; exact a3 p (by omega) (by omega)))]
      exact ⟨M2, rfl, a2.tr b2, fun p q1 q2 => ⟨by rw [e p q2]; exact a3 p q1 q2, b3 p q1 q2⟩, dv⟩
