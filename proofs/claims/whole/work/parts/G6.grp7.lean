/-- the class's steps -/
theorem mxI_ok {d tp to sh os : Int64} {n x y : Nat} (hne : x ≠ y) : ∀ m c M, c + m = n → (∀ p q, (p ≠ x ∧ p ≠ y) ∨ q < c ∨ n ≤ q → mxI d tp to sh os x y m c M p q = M p q) ∧ (∀ q, c ≤ q → q < n → mxI d tp to sh os x y m c M x q = rdV d (tmV d tp (M x q) + tmV d to (M y q)) ∧ mxI d tp to sh os x y m c M y q = rdV d (tmV d sh (M y q) - tmV d os (M x q))) := by
  intro m
  induction m with
  | zero => intro c M hc; exact ⟨fun _ _ _ => rfl, fun q h1 h2 => by omega⟩
  | succ m ih =>
    intro c M hc
    unfold mxI
    have hyx : y ≠ x := fun q => hne q.symm
    generalize hv : rdV d (tmV d tp (M x c) + tmV d to (M y c)) = v
    generalize hw : rdV d (tmV d sh (M y c) - tmV d os (M x c)) = w
    have := ih (c + 1) (mset (mset M x c v) y c w) (by omega)
    have other : ∀ p q, q ≠ c → mset (mset M x c v) y c w p q = M p q := fun p q h => by unfold mset; rw [if_neg (by omega), if_neg (by omega)]
    refine ⟨fun p q h => ?_, fun q h1 h2 => ?_⟩
    · rw [this.1 p q (by omega)]
      by_cases e : q = c
      · unfold mset; rw [if_neg (by omega), if_neg (by omega)]
      · exact other p q e
    · by_cases e : q = c
      · subst e
        rw [this.1 x q (by omega), this.1 y q (by omega)]
        constructor
        · unfold mset; rw [if_neg (by omega), if_pos ⟨rfl, rfl⟩, hv]
        · unfold mset; rw [if_pos ⟨rfl, rfl⟩, hw]
      · have := this.2 q (by omega) h2
        rw [other x q e, other y q e] at this
        exact this
/-- the class's relation: the leading part the same, the lattice the same -/
def Cr (n x : Nat) (d : Int) (M M' : Nat → Nat → Int64) : Prop := mRg d n M' ∧ EqD n d (mI M) (mI M') ∧ (∀ i j, i < n → j < n → (i < x ∨ j < x) → M' i j = M i j)
theorem Cr.rf {n x : Nat} {d : Int} {M : Nat → Nat → Int64} (h : mRg d n M) : Cr n x d M M := ⟨h, EqD.rf _, fun _ _ _ _ _ => rfl⟩
theorem Cr.tr {n x : Nat} {d : Int} {M M' M'' : Nat → Nat → Int64} (h : Cr n x d M M') (g : Cr n x d M' M'') : Cr n x d M M'' := ⟨g.1, h.2.1.tr g.2.1, fun i j hi hj q => (g.2.2 i j hi hj q).trans (h.2.2 i j hi hj q)⟩
theorem Cr.zt {n x : Nat} {d : Int} {M M' : Nat → Nat → Int64} (h : Cr n x d M M') (z : Zt n x M) : Zt n x M' := fun i j hi hj q hn => (h.2.2 i j hi hj q).trans (z i j hi hj q hn)
theorem mxV_ok {d : Int64} {n x y : Nat} {M : Nat → Nat → Int64} (hd : 0 < d.toInt) (hd2 : d.toInt < 1125899906842624) (h : mRg d.toInt n M) (z : Zt n x M) (hxy : x < y) (hy : y < n) (hne : ¬ M y x = 0) : Cr n x d.toInt M (mxV d n x y M) ∧ mxV d n x y M y x = 0 ∧ 0 < (mxV d n x y M x x).toInt ∧ (mxV d n x y M x x).toInt ∣ (M x x).toInt ∧ (∀ p q, p < n → q < n → p ≠ x → p ≠ y → mxV d n x y M p q = M p q) ∧ (mxV d n x y M x x = M x x → ∀ q, q < n → mxV d n x y M x q = M x q) := by
  have hx : x < n := by omega
  have ryx := h y x hy hx
  have rxx := h x x hx hx
  have nyx := i64_ne hne
  obtain ⟨m1, m2, m3, m4⟩ := msV_ok (x := M x x) (y := M y x) rxx.1 (by omega) (by omega) (by omega)
  have dvdcase : (M x x).toInt = (msV (M x x) (M y x)).1.toInt → msV (M x x) (M y x) = (M x x, 1, 0) := fun e => msV_dvd (by omega) ryx.1 (by rw [e]; exact m4)
  have hun : mxV d n x y M = mxI d (rdV d (msV (M x x) (M y x)).2.1) (rdV d (msV (M x x) (M y x)).2.2) (M x x / (msV (M x x) (M y x)).1) (M y x / (msV (M x x) (M y x)).1) x y (n - x) x M := by
    unfold mxV
    rw [if_neg (fun q => by rw [q] at m2; exact absurd m2 (by decide))]
  rw [hun]
  generalize msV (M x x) (M y x) = S at *
  obtain ⟨c, tp, to⟩ := S
  have m1 : c.toInt = to.toInt * (M y x).toInt + tp.toInt * (M x x).toInt := m1
  have m2 : 0 < c.toInt := m2
  have m3 : c.toInt ∣ (M x x).toInt := m3
  have m4 : c.toInt ∣ (M y x).toInt := m4
  have dvdcase : (M x x).toInt = c.toInt → (c, tp, to) = (M x x, 1, 0) := dvdcase
  show Cr n x d.toInt M (mxI d (rdV d tp) (rdV d to) (M x x / c) (M y x / c) x y (n - x) x M) ∧ _
  have hcy := Int.le_of_dvd (by omega) m4
  have e1 := rdV_ok hd (by omega) tp
  have e2 := rdV_ok hd (by omega) to
  have e3 : (M x x / c).toInt = (M x x).toInt / c.toInt := by rw [i64_div m2, Int.tdiv_eq_ediv_of_nonneg rxx.1]
  have e4 : (M y x / c).toInt = (M y x).toInt / c.toInt := by rw [i64_div m2, Int.tdiv_eq_ediv_of_nonneg ryx.1]
  have f3 : c.toInt * ((M x x).toInt / c.toInt) = (M x x).toInt := Int.mul_ediv_cancel' m3
  have f4 : c.toInt * ((M y x).toInt / c.toInt) = (M y x).toInt := Int.mul_ediv_cancel' m4
  have rg : ∀ a : Int, 0 ≤ a % d.toInt ∧ a % d.toInt < d.toInt := fun a => ⟨Int.emod_nonneg _ (by omega), Int.emod_lt_of_pos _ hd⟩
  have n3 : 0 ≤ (M x x).toInt / c.toInt := Int.ediv_nonneg rxx.1 (by omega)
  have n4 : 0 ≤ (M y x).toInt / c.toInt := Int.ediv_nonneg ryx.1 (by omega)
  have l3 := Int.ediv_le_self c.toInt rxx.1
  have l4 := Int.ediv_le_self c.toInt ryx.1
  have o := mxI_ok (d := d) (tp := rdV d tp) (to := rdV d to) (sh := M x x / c) (os := M y x / c) (n := n) (show x ≠ y by omega) (n - x) x M (by omega)
  generalize hM' : mxI d (rdV d tp) (rdV d to) (M x x / c) (M y x / c) x y (n - x) x M = M' at *
  have vx : ∀ q, x ≤ q → q < n → (M' x q).toInt = (tp.toInt * (M x q).toInt + to.toInt * (M y q).toInt) % d.toInt := by
    intro q h1 h2
    have rx := h x q hx h2
    have ry := h y q hy h2
    have a1 := tmV_ok (x := rdV d tp) (y := M x q) hd hd2 (by rw [e1]; exact (rg _).1) (by rw [e1]; exact (rg _).2) rx.1 (by omega)
    have a2 := tmV_ok (x := rdV d to) (y := M y q) hd hd2 (by rw [e2]; exact (rg _).1) (by rw [e2]; exact (rg _).2) ry.1 (by omega)
    have b1 := rg ((rdV d tp).toInt * (M x q).toInt)
    have b2 := rg ((rdV d to).toInt * (M y q).toInt)
    rw [← a1] at b1
    rw [← a2] at b2
    rw [(o.2 q h1 h2).1, rdV_ok hd (by omega), i64_add (by omega) (by omega), a1, a2, e1, e2]
    exact im_add ((Int.emod_emod _ _).trans (im_mul (Int.emod_emod _ _) rfl)) ((Int.emod_emod _ _).trans (im_mul (Int.emod_emod _ _) rfl))
  have vy : ∀ q, x ≤ q → q < n → (M' y q).toInt = ((M x x).toInt / c.toInt * (M y q).toInt + -((M y x).toInt / c.toInt) * (M x q).toInt) % d.toInt := by
    intro q h1 h2
    have rx := h x q hx h2
    have ry := h y q hy h2
    have a1 := tmV_ok (x := M x x / c) (y := M y q) hd hd2 (by rw [e3]; exact n3) (by rw [e3]; omega) ry.1 (by omega)
    have a2 := tmV_ok (x := M y x / c) (y := M x q) hd hd2 (by rw [e4]; exact n4) (by rw [e4]; omega) rx.1 (by omega)
    have b1 := rg ((M x x / c).toInt * (M y q).toInt)
    have b2 := rg ((M y x / c).toInt * (M x q).toInt)
    rw [← a1] at b1
    rw [← a2] at b2
    rw [(o.2 q h1 h2).2, rdV_ok hd (by omega), i64_sub (by omega) (by omega), a1, a2, e3, e4]
    have : (M x x).toInt / c.toInt * (M y q).toInt + -((M y x).toInt / c.toInt) * (M x q).toInt = (M x x).toInt / c.toInt * (M y q).toInt - (M y x).toInt / c.toInt * (M x q).toInt := by grind
    rw [this]
    exact (Int.sub_emod _ _ _).symm
  have hR : mRg d.toInt n M' := by
    intro i j hi hj
    by_cases c1 : j < x
    · rw [o.1 i j (by omega)]; exact h i j hi hj
    · by_cases c2 : i = x
      · rw [c2, vx j (by omega) hj]; exact rg _
      · by_cases c3 : i = y
        · rw [c3, vy j (by omega) hj]; exact rg _
        · rw [o.1 i j (by omega)]; exact h i j hi hj
  have det : tp.toInt * ((M x x).toInt / c.toInt) - to.toInt * -((M y x).toInt / c.toInt) = 1 := by
    have : c.toInt * (tp.toInt * ((M x x).toInt / c.toInt) - to.toInt * -((M y x).toInt / c.toInt)) = c.toInt * 1 := by
      have k : c.toInt * (tp.toInt * ((M x x).toInt / c.toInt) - to.toInt * -((M y x).toInt / c.toInt)) = to.toInt * (c.toInt * ((M y x).toInt / c.toInt)) + tp.toInt * (c.toInt * ((M x x).toInt / c.toInt)) := by grind
      rw [k, f3, f4, ← m1, Int.mul_one]
    exact Int.eq_of_mul_eq_mul_left (by omega) this
  refine ⟨⟨hR, ?_, fun i j hi hj q => ?_⟩, ?_, ?_, ?_, fun p q hp hq h1 h2 => o.1 p q (Or.inl ⟨h1, h2⟩), fun e q hq => ?_⟩
  · refine EqD.r2 hx hy (by omega) (α := tp.toInt) (β := to.toInt) (γ := -((M y x).toInt / c.toInt)) (δ := (M x x).toInt / c.toInt) (Or.inl det) (fun p q hp hq => ?_)
    by_cases c1 : q < x
    · have zx : M x q = 0 := z x q hx hq (Or.inr c1) (by omega)
      have zy : M y q = 0 := z y q hy hq (Or.inr c1) (by omega)
      have e0 : (0 : Int64).toInt = 0 := rfl
      simp only [mI, r2M]
      rw [o.1 p q (by omega)]
      by_cases c2 : p = x
      · rw [if_pos c2, c2, zx, zy, e0]; simp
      · rw [if_neg c2]
        by_cases c3 : p = y
        · rw [if_pos c3, c3, zx, zy, e0]; simp
        · rw [if_neg c3]; simp
    · simp only [mI, r2M]
      by_cases c2 : p = x
      · rw [if_pos c2, c2, vx q (by omega) hq]; exact emod_sub_dvd _ _
      · rw [if_neg c2]
        by_cases c3 : p = y
        · rw [if_pos c3, c3, vy q (by omega) hq, Int.add_comm]; exact emod_sub_dvd _ _
        · rw [if_neg c3, o.1 p q (by omega)]; simp
  · by_cases c1 : j < x
    · exact o.1 i j (by omega)
    · exact o.1 i j (by omega)
  · apply i64_zero.mp
    rw [vy x (Nat.le_refl _) hx]
    have : (M x x).toInt / c.toInt * (M y x).toInt + -((M y x).toInt / c.toInt) * (M x x).toInt = 0 := by
      conv => lhs; rw [← f4]
      have g4 : c.toInt * ((M y x).toInt / c.toInt) / c.toInt = (M y x).toInt / c.toInt := by rw [f4]
      rw [g4]
      generalize (M y x).toInt / c.toInt = A at *
      generalize (M x x).toInt / c.toInt = B at *
      rw [← f3]; grind
    rw [this]; simp
  · rw [vx x (Nat.le_refl _) hx, Int.add_comm, ← m1, Int.emod_eq_of_lt (by omega) (by omega)]; exact m2
  · rw [vx x (Nat.le_refl _) hx, Int.add_comm, ← m1, Int.emod_eq_of_lt (by omega) (by omega)]; exact m3
  · by_cases c1 : q < x
    · exact o.1 x q (by omega)
    · have e5 : (M' x x).toInt = c.toInt := by rw [vx x (Nat.le_refl _) hx, Int.add_comm, ← m1, Int.emod_eq_of_lt (by omega) (by omega)]
      have e6 := dvdcase (by rw [← e, e5])
      have e7 : tp = 1 := congrArg (fun s => s.2.1) e6
      have e8 : to = 0 := congrArg (fun s => s.2.2) e6
      have v := vx q (by omega) hq
      have z0 : (0 : Int64).toInt = 0 := rfl
      have z1 : (1 : Int64).toInt = 1 := rfl
      rw [e7, e8, z0, z1, Int.one_mul, Int.zero_mul, Int.add_zero, Int.emod_eq_of_lt (h x q hx hq).1 (h x q hx hq).2] at v
      exact Int64.toInt_inj.mp v
/-- the column below the pivot cleared -/
theorem clI_ok {d : Int64} {n x : Nat} (hd : 0 < d.toInt) (hd2 : d.toInt < 1125899906842624) (hx : x < n) : ∀ m row M, row + m = n → x < row → mRg d.toInt n M → Zt n x M → (∀ p, x < p → p < row → M p x = 0) → Cr n x d.toInt M (clI d n x m row M) ∧ (∀ p, x < p → p < n → clI d n x m row M p x = 0) ∧ (clI d n x m row M x x).toInt ∣ (M x x).toInt ∧ (clI d n x m row M x x = 0 → clI d n x m row M = M) ∧ (clI d n x m row M x x = M x x → (M x x) ≠ 0 → ∀ q, q < n → clI d n x m row M x q = M x q) := by
  intro m
  induction m with
  | zero => intro row M hr _ h z hz; exact ⟨Cr.rf h, fun p h1 h2 => hz p h1 (by omega), Int.dvd_refl _, fun _ => rfl, fun _ _ _ _ => rfl⟩
  | succ m ih =>
    intro row M hr hxr h z hz
    unfold clI
    by_cases c : M row x = 0
    · rw [if_pos c]
      exact ih (row + 1) M (by omega) (by omega) h z (fun p h1 h2 => by
        by_cases e : p = row
        · rw [e]; exact c
        · exact hz p h1 (by omega))
    · rw [if_neg c]
      obtain ⟨a1, a2, a3, a4, a5, a6⟩ := mxV_ok hd hd2 h z hxr (by omega) c
      obtain ⟨b1, b2, b3, b4, b5⟩ := ih (row + 1) (mxV d n x row M) (by omega) (by omega) a1.1 (a1.zt z) (fun p h1 h2 => by
        by_cases e : p = row
        · rw [e]; exact a2
        · rw [a5 p x (by omega) hx (by omega) e]; exact hz p h1 (by omega))
      have nz : mxV d n x row M x x ≠ 0 := fun q => by rw [q] at a3; exact absurd a3 (by decide)
      refine ⟨a1.tr b1, b2, Int.dvd_trans b3 a4, fun q => ?_, fun q hn k hk => ?_⟩
      · rw [b4 q] at q; exact absurd q nz
      · -- the pivot stands: it stood in the step too
        have hp0 := (h x x hx hx).1
        have pn := i64_ne hn
        have l1 := Int.le_of_dvd (by omega) a4
        have l2 := Int.le_of_dvd a3 b3
        have e : (mxV d n x row M x x).toInt = (M x x).toInt := by rw [q] at l2; omega
        have e' : mxV d n x row M x x = M x x := Int64.toInt_inj.mp e
        rw [b5 (by rw [q, e']) nz k hk]
        exact a6 e' k hk
theorem rwL_ok {M : Nat → Nat → Int64} {x n : Nat} : ∀ m c, c + m = n → (rwL M x m c = 1 ∧ (∀ q, c ≤ q → q < n → M x q = 0)) ∨ (rwL M x m c = 0 ∧ ∃ q, c ≤ q ∧ q < n ∧ ¬ M x q = 0) := by
  intro m
  induction m with
  | zero => intro c hc; left; exact ⟨rfl, fun q h1 h2 => by omega⟩
  | succ m ih =>
    intro c hc
    unfold rwL
    by_cases e : M x c = 0
    · rw [if_pos e]
      rcases ih (c + 1) (by omega) with ⟨a, b⟩ | ⟨a, q, h1, h2, h3⟩
      · left
        refine ⟨a, fun q h1 h2 => ?_⟩
        by_cases k : q = c
        · rw [k]; exact e
        · exact b q (by omega) h2
      · right; exact ⟨a, q, by omega, h2, h3⟩
    · rw [if_neg e]; right; exact ⟨rfl, c, Nat.le_refl _, by omega, e⟩
theorem tpI_ok {row n : Nat} : ∀ m c (M : Nat → Nat → Int64), c + m = n → row < c → ∀ p q, tpI row m c M p q = if p = row ∧ c ≤ q ∧ q < n then M q row else if q = row ∧ c ≤ p ∧ p < n then M row p else M p q := by
  intro m
  induction m with
  | zero => intro c M hc hr p q; unfold tpI; rw [if_neg (by omega), if_neg (by omega)]
  | succ m ih =>
    intro c M hc hr p q
    unfold tpI
    rw [ih (c + 1) _ (by omega) (by omega)]
    unfold mset
    by_cases c1 : p = row ∧ c ≤ q ∧ q < n
    · rw [if_pos c1]
      by_cases c2 : q = c
      · rw [if_neg (by omega), if_neg (by omega), if_neg (by omega), if_pos (by omega), c2]
      · rw [if_pos (by omega), if_neg (by omega), if_neg (by omega)]
    · rw [if_neg c1]
      by_cases c3 : q = row ∧ c ≤ p ∧ p < n
      · rw [if_pos c3]
        by_cases c2 : p = c
        · rw [if_neg (by omega), if_neg (by omega), if_pos (by omega), c2]
        · rw [if_neg (by omega), if_pos (by omega), if_neg (by omega), if_neg (by omega)]
      · rw [if_neg c3]
        by_cases c4 : p = row ∧ c + 1 ≤ q ∧ q < n
        · omega
        · rw [if_neg c4]
          by_cases c5 : q = row ∧ c + 1 ≤ p ∧ p < n
          · omega
          · rw [if_neg c5, if_neg (by omega), if_neg (by omega)]
theorem tpO_ok {n : Nat} : ∀ m row (M : Nat → Nat → Int64), row + m = n → ∀ p q, tpO n m row M p q = if row ≤ p ∧ p < n ∧ row ≤ q ∧ q < n then M q p else M p q := by
  intro m
  induction m with
  | zero => intro row M hr p q; unfold tpO; rw [if_neg (by omega)]
  | succ m ih =>
    intro row M hr p q
    unfold tpO
    rw [ih (row + 1) _ (by omega)]
    have T := tpI_ok (n := n) (row := row) (n - (row + 1)) (row + 1) M (by omega) (by omega)
    by_cases c1 : row + 1 ≤ p ∧ p < n ∧ row + 1 ≤ q ∧ q < n
    · rw [if_pos c1, T, if_neg (by omega), if_neg (by omega), if_pos (by omega)]
    · rw [if_neg c1, T]
      by_cases c2 : row ≤ p ∧ p < n ∧ row ≤ q ∧ q < n
      · rw [if_pos c2]
        by_cases c3 : p = row
        · by_cases c4 : q = row
          · rw [if_neg (by omega), if_neg (by omega), c3, c4]
          · rw [if_pos (by omega), c3]
        · rw [if_neg (by omega), if_pos (by omega)]
          have : q = row := by omega
          rw [this]
      · rw [if_neg c2, if_neg (by omega), if_neg (by omega)]
theorem tpV_ok {n x : Nat} {d : Int} {M : Nat → Nat → Int64} (hx : x ≤ n) (h : mRg d n M) (z : Zt n x M) : (∀ p q, p < n → q < n → tpV n x M p q = M q p) ∧ Cr n x d M (tpV n x M) := by
  have T := tpO_ok (n := n) (n - x) x M (by omega)
  have T' : ∀ p q, tpV n x M p q = if x ≤ p ∧ p < n ∧ x ≤ q ∧ q < n then M q p else M p q := T
  have all : ∀ p q, p < n → q < n → tpV n x M p q = M q p := by
    intro p q hp hq
    rw [T']
    by_cases c : x ≤ p ∧ p < n ∧ x ≤ q ∧ q < n
    · rw [if_pos c]
    · rw [if_neg c]
      by_cases e : p = q
      · rw [e]
      · rw [z p q hp hq (by omega) e, z q p hq hp (by omega) (fun k => e k.symm)]
  refine ⟨all, fun i j hi hj => by rw [all i j hi hj]; exact h j i hj hi, (EqD.tp (mI M)).tr (EqD.eq (fun p q hp hq => ?_)), fun i j hi hj q => ?_⟩
  · show (M q p).toInt = (tpV n x M p q).toInt
    rw [all p q hp hq]
  · rw [T', if_neg (by omega)]
/-- row and column of x cleared -/
theorem clO_A {d : Int64} {n x : Nat} (hd : 0 < d.toInt) (hd2 : d.toInt < 1125899906842624) (hx : x < n) : ∀ b m M, mRg d.toInt n M → Zt n x M → (∀ q, x < q → q < n → M x q = 0) → 0 < (M x x).toInt → (M x x).toInt < 2 ^ b → b + 1 ≤ m → Cr n x d.toInt M (clO d n x m M) ∧ Zt n (x + 1) (clO d n x m M) := by
  have zz : ∀ M, Zt n x M → (∀ q, x < q → q < n → M x q = 0) → (∀ p, x < p → p < n → M p x = 0) → Zt n (x + 1) M := fun M z r c i j hi hj q hn => by
    by_cases e1 : i < x ∨ j < x
    · exact z i j hi hj e1 hn
    · by_cases e2 : i = x
      · rw [e2]; exact r j (by omega) hj
      · have : j = x := by omega
        rw [this]; exact c i (by omega) hi
  intro b
  induction b with
  | zero => intro m M _ _ _ h1 h2; have p : (2 : Int) ^ 0 = 1 := rfl
            omega
  | succ b ih =>
    intro m M h z r p1 p2 hm
    obtain ⟨m, rfl⟩ : ∃ m', m = m' + 1 := ⟨m - 1, by omega⟩
    obtain ⟨a1, a2, a3, a4, a5⟩ := clI_ok hd hd2 hx (n - (x + 1)) (x + 1) M (by omega) (by omega) h z (fun p h1 h2 => by omega)
    unfold clO
    generalize clI d n x (n - (x + 1)) (x + 1) M = N at *
    rcases rwL_ok (M := N) (x := x) (n := n) (n - (x + 1)) (x + 1) (by omega) with ⟨w, e⟩ | ⟨w, q, h1, h2, h3⟩
    · have w' : rwV N n x = 1 := w
      rw [if_neg (by rw [w']; decide)]
      exact ⟨a1, zz N (a1.zt z) (fun q h1 h2 => e q (by omega) h2) a2⟩
    · have w' : rwV N n x = 0 := w
      rw [if_pos w']
      have ne : N x x ≠ M x x := fun k => h3 (by
        rw [a5 k (fun k2 => by rw [k2] at p1; exact absurd p1 (by decide)) q h2]; exact r q (by omega) h2)
      have nn := (a1.1 x x hx hx).1
      have np : 0 < (N x x).toInt := by
        have : (N x x).toInt ≠ 0 := fun k => by rw [k] at a3; have := Int.zero_dvd.mp a3; omega
        omega
      have half : 2 * (N x x).toInt ≤ (M x x).toInt := by
        obtain ⟨k, hk⟩ := a3
        have k0 : k ≠ 0 := fun q => by rw [q] at hk; omega
        have k1 : k ≠ 1 := fun q => ne (Int64.toInt_inj.mp (by rw [q] at hk; omega))
        have k2 : 0 ≤ k := by
          rcases Int.lt_or_le k 0 with q | q
          · have := Int.mul_nonneg nn (show 0 ≤ -k by omega)
            have e : (N x x).toInt * -k = -((N x x).toInt * k) := by grind
            omega
          · exact q
        have := Int.mul_le_mul_of_nonneg_left (show 2 ≤ k by omega) nn
        omega
      obtain ⟨t1, t2⟩ := tpV_ok (n := n) (x := x) (by omega) a1.1 (a1.zt z)
      have e2 : (2 : Int) ^ (b + 1) = 2 * 2 ^ b := by rw [Int.pow_succ]; grind
      obtain ⟨b1, b2⟩ := ih m (tpV n x N) t2.1 (t2.zt (a1.zt z)) (fun q h1 h2 => by rw [t1 x q hx h2]; exact a2 q h1 h2) (by rw [t1 x x hx hx]; exact np) (by rw [t1 x x hx hx]; omega) (by omega)
      exact ⟨(a1.tr t2).tr b1, b2⟩
theorem clO_B {d : Int64} {n x : Nat} (hd : 0 < d.toInt) (hd2 : d.toInt < 1125899906842624) (hx : x < n) : ∀ k m M, mRg d.toInt n M → Zt n x M → (k = 0 → ∀ q, x < q → q < n → M x q = 0) → k ≤ 1 → k + 52 ≤ m → Cr n x d.toInt M (clO d n x m M) ∧ Zt n (x + 1) (clO d n x m M) := by
  have zz : ∀ M, Zt n x M → (∀ q, x < q → q < n → M x q = 0) → (∀ p, x < p → p < n → M p x = 0) → Zt n (x + 1) M := fun M z r c i j hi hj q hn => by
    by_cases e1 : i < x ∨ j < x
    · exact z i j hi hj e1 hn
    · by_cases e2 : i = x
      · rw [e2]; exact r j (by omega) hj
      · have : j = x := by omega
        rw [this]; exact c i (by omega) hi
  intro k
  induction k with
  | zero =>
    intro m M h z r _ hm
    have r := r rfl
    by_cases p0 : M x x = 0
    · obtain ⟨m, rfl⟩ : ∃ m', m = m' + 1 := ⟨m - 1, by omega⟩
      obtain ⟨a1, a2, a3, a4, a5⟩ := clI_ok hd hd2 hx (n - (x + 1)) (x + 1) M (by omega) (by omega) h z (fun p h1 h2 => by omega)
      unfold clO
      generalize clI d n x (n - (x + 1)) (x + 1) M = N at *
      rcases rwL_ok (M := N) (x := x) (n := n) (n - (x + 1)) (x + 1) (by omega) with ⟨w, e⟩ | ⟨w, q, h1, h2, h3⟩
      · have w' : rwV N n x = 1 := w
        rw [if_neg (by rw [w']; decide)]
        exact ⟨a1, zz N (a1.zt z) (fun q h1 h2 => e q (by omega) h2) a2⟩
      · have w' : rwV N n x = 0 := w
        rw [if_pos w']
        have nz : ¬ N x x = 0 := fun k => h3 (by rw [a4 k]; exact r q (by omega) h2)
        have np : 0 < (N x x).toInt := by have := i64_ne nz; have := (a1.1 x x hx hx).1; omega
        have nl := (a1.1 x x hx hx).2
        obtain ⟨t1, t2⟩ := tpV_ok (n := n) (x := x) (by omega) a1.1 (a1.zt z)
        have pw : (2 : Int) ^ 50 = 1125899906842624 := rfl
        obtain ⟨b1, b2⟩ := clO_A hd hd2 hx 50 m (tpV n x N) t2.1 (t2.zt (a1.zt z)) (fun q h1 h2 => by rw [t1 x q hx h2]; exact a2 q h1 h2) (by rw [t1 x x hx hx]; exact np) (by rw [t1 x x hx hx]; omega) (by omega)
        exact ⟨(a1.tr t2).tr b1, b2⟩
    · have pw : (2 : Int) ^ 50 = 1125899906842624 := rfl
      have np : 0 < (M x x).toInt := by have := i64_ne p0; have := (h x x hx hx).1; omega
      have nl := (h x x hx hx).2
      exact clO_A hd hd2 hx 50 m M h z r np (by omega) (by omega)
  | succ k ih =>
    intro m M h z _ hk hm
    obtain rfl : k = 0 := by omega
    obtain ⟨m, rfl⟩ : ∃ m', m = m' + 1 := ⟨m - 1, by omega⟩
    obtain ⟨a1, a2, a3, a4, a5⟩ := clI_ok hd hd2 hx (n - (x + 1)) (x + 1) M (by omega) (by omega) h z (fun p h1 h2 => by omega)
    unfold clO
    generalize clI d n x (n - (x + 1)) (x + 1) M = N at *
    rcases rwL_ok (M := N) (x := x) (n := n) (n - (x + 1)) (x + 1) (by omega) with ⟨w, e⟩ | ⟨w, q, h1, h2, h3⟩
    · have w' : rwV N n x = 1 := w
      rw [if_neg (by rw [w']; decide)]
      exact ⟨a1, zz N (a1.zt z) (fun q h1 h2 => e q (by omega) h2) a2⟩
    · have w' : rwV N n x = 0 := w
      rw [if_pos w']
      obtain ⟨t1, t2⟩ := tpV_ok (n := n) (x := x) (by omega) a1.1 (a1.zt z)
      obtain ⟨b1, b2⟩ := ih m (tpV n x N) t2.1 (t2.zt (a1.zt z)) (fun _ q h1 h2 => by rw [t1 x q hx h2]; exact a2 q h1 h2) (by omega) (by omega)
      exact ⟨(a1.tr t2).tr b1, b2⟩
theorem clV_ok {d : Int64} {n x : Nat} (hd : 0 < d.toInt) (hd2 : d.toInt < 1125899906842624) (hx : x < n) {M : Nat → Nat → Int64} (h : mRg d.toInt n M) (z : Zt n x M) : Cr n x d.toInt M (clV d n x M) ∧ Zt n (x + 1) (clV d n x M) := clO_B hd hd2 hx 1 128 M h z (fun q => absurd q (by omega)) (by omega) (by omega)
/-- the diagonal of the class -/
theorem fgL_ok {d : Int64} {n : Nat} (hd : 0 < d.toInt) (hd2 : d.toInt < 1125899906842624) : ∀ m x M G, x + m = n → mRg d.toInt n M → Zt n x M → ∃ M', Cr n x d.toInt M M' ∧ Zt n n M' ∧ (∀ i, x ≤ i → i < n → fgL d n m x M G i = cdV (M' i i) d) ∧ (∀ i, i < x → fgL d n m x M G i = G i) := by
  intro m
  induction m with
  | zero => intro x M G hx h z; obtain rfl : x = n := by omega
            exact ⟨M, Cr.rf h, z, fun i h1 h2 => by omega, fun _ _ => rfl⟩
  | succ m ih =>
    intro x M G hx h z
    obtain ⟨a1, a2⟩ := clV_ok hd hd2 (show x < n by omega) h z
    unfold fgL
    generalize clV d n x M = N at *
    obtain ⟨M', b1, b2, b3, b4⟩ := ih (x + 1) N (vp_updL G x (cdV (N x x) d)) (by omega) a1.1 a2
    refine ⟨M', ⟨b1.1, a1.2.1.tr b1.2.1, fun i j hi hj q => (b1.2.2 i j hi hj (by omega)).trans (a1.2.2 i j hi hj q)⟩, b2, fun i h1 h2 => ?_, fun i h1 => ?_⟩
    · by_cases e : i = x
      · rw [e, b4 x (by omega), b1.2.2 x x (by omega) (by omega) (by omega)]
        unfold vp_updL; rw [if_pos rfl]
      · exact b3 i (by omega) h2
    · rw [b4 i (by omega)]; unfold vp_updL; rw [if_neg (by omega)]
