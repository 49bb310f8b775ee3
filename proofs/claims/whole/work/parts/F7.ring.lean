/-- bits of a row of arcs -/
theorem i32_and_or (x y : Int32) : (x ||| y) &&& 1 = (x &&& 1) ||| (y &&& 1) := by
  apply Int32.toBitVec_inj.mp
  simp only [Int32.toBitVec_and, Int32.toBitVec_or]
  ext i
  simp
  cases x.toBitVec[i] <;> cases y.toBitVec[i] <;> simp
theorem a1_01 (x : Int32) : x &&& 1 = 0 ∨ x &&& 1 = 1 := by
  have h : (x &&& 1).toBitVec.toNat = x.toBitVec.toNat % 2 := by
    rw [Int32.toBitVec_and, BitVec.toNat_and]
    exact Nat.and_one_is_mod _
  rcases (by omega : x.toBitVec.toNat % 2 = 0 ∨ x.toBitVec.toNat % 2 = 1) with q | q
  · left
    apply Int32.toBitVec_inj.mp
    apply BitVec.eq_of_toNat_eq
    rw [h, q]; rfl
  · right
    apply Int32.toBitVec_inj.mp
    apply BitVec.eq_of_toNat_eq
    rw [h, q]; rfl
theorem tb_or {t : Int32} {j k : Nat} (hj : j < 30) (hk : k < 30) : tb (t ||| (1 <<< (nI k &&& 31))) j = (tb t j || decide (j = k)) := by
  have hd : ∀ k, k < 30 → ∀ j, j < 30 → (((1 : Int32) <<< (nI k &&& 31)) >>> (nI j &&& 31)) &&& 1 = if j = k then 1 else 0 := by decide +kernel
  unfold tb
  rw [Int32.shiftRight_or, i32_and_or, hd k hk j hj]
  rcases a1_01 (t >>> (nI j &&& 31)) with q | q
  · rw [q]
    by_cases c : j = k
    · rw [if_pos c]; simp [c]
    · rw [if_neg c]; simp [c]
  · rw [q]
    by_cases c : j = k
    · rw [if_pos c]; simp
    · rw [if_neg c]; simp
theorem tb_0 {j : Nat} (hj : j < 30) : tb 0 j = false := by
  have : ∀ j, j < 30 → tb 0 j = false := by decide +kernel
  exact this j hj
/-- the arcs taken: class and reference -/
theorem ft_tt {n a : Nat} {F T : Nat → Nat} (hft : ∀ k, k < a → F k < n ∧ T k < n) (ha : a ≤ 30) : ∀ (m k : Nat) (t : Int32) (c : Nat) (P P' : Nat → Nat) (X : Nat → Bool) (r : Nat), k + m = a → FO n c P → EqP n P P' → (∀ j, j < k → tb t j = X j) → (∀ j, k ≤ j → j < 30 → tb t j = false) → (∀ j, j < a → tb (ftL F T m k t c P).1 j = (ttL F T m k P' X r).2 j) ∧ (ttL F T m k P' X r).1 + c = r + m + (ftL F T m k t c P).2.1 := by
  intro m
  induction m with
  | zero =>
    intro k t c P P' X r hk hF hE h1 h2
    exact ⟨fun j hj => h1 j (by omega), by show r + c = r + 0 + c; omega⟩
  | succ m ih =>
    intro k t c P P' X r hk hF hE h1 h2
    have hk2 := hft k (by omega)
    unfold ftL ttL
    by_cases e : P (F k) = P (T k)
    · have e' := (hE _ _ hk2.1 hk2.2).mp e
      have ej1 : jnC (F k) (T k) P c = c := by unfold jnC; rw [if_pos e]
      have ej2 : jnP (F k) (T k) P = P := by unfold jnP; rw [if_pos e]
      rw [if_pos e, if_pos e', ej1, ej2, jmP_id e']
      obtain ⟨b1, b2⟩ := ih (k + 1) t c P P' (fun j => if j = k then decide (¬ P' (F k) = P' (T k)) else X j) (r + 1) (by omega) hF hE (fun j hj => by
        by_cases q : j = k
        · rw [if_pos q, q, h2 k (Nat.le_refl _) (by omega)]; simp [e']
        · rw [if_neg q]; exact h1 j (by omega)) (fun j h3 h4 => h2 j (by omega) h4)
      exact ⟨b1, by omega⟩
    · have e' := fun q => e ((hE _ _ hk2.1 hk2.2).mpr q)
      have ej1 : jnC (F k) (T k) P c = c - 1 := by unfold jnC; rw [if_neg e]
      have ej2 : jnP (F k) (T k) P = unP (F k) (T k) P := by unfold jnP; rw [if_neg e]
      have c1 := hF.1 (F k) hk2.1
      have c2 := hF.1 (T k) hk2.2
      rw [if_neg e, if_neg e', ej1, ej2]
      obtain ⟨b1, b2⟩ := ih (k + 1) (t ||| (1 <<< (nI k &&& 31))) (c - 1) _ (jmP (F k) (T k) P') (fun j => if j = k then decide (¬ P' (F k) = P' (T k)) else X j) r (by omega) (hF.un hk2.1 hk2.2 e) (hE.un hk2.1 hk2.2 e) (fun j hj => by
        rw [tb_or (by omega) (by omega)]
        by_cases q : j = k
        · rw [if_pos q, q, decide_eq_true (show ¬ P' (F k) = P' (T k) from e')]; simp
        · rw [if_neg q, h1 j (by omega)]; simp [q]) (fun j h3 h4 => by
        rw [tb_or h4 (by omega), h2 j (by omega) h4]; simp; omega)
      exact ⟨b1, by omega⟩
theorem tt_ok {n a : Nat} {F T : Nat → Nat} (hft : ∀ k, k < a → F k < n ∧ T k < n) (ha : a ≤ 30) : (∀ j, j < a → tb (ftV n a F T).1 j = (ttV a F T).2 j) ∧ (ttV a F T).1 + n = a + (ftV n a F T).2.1 := by
  obtain ⟨h1, h2⟩ := ft_tt hft ha a 0 0 n (fun v => v) (fun v => v) (fun _ => false) 0 (by omega) (FO.id n) (EqP.rf n _) (fun j hj => by omega) (fun j _ hj => tb_0 hj)
  exact ⟨h1, by unfold ttV ftV; omega⟩
/-- the arc of a ring -/
theorem ut_rg {X : Nat → Bool} {tk : Int32} {a r : Nat} (hX : ∀ j, j < a → tb tk j = X j) (hr : r < 2 ^ 31) : ∀ (m k p : Nat), k + m = a → p ≤ r → utL tk (nI r) m k (nI p) = rgE X m k (r - p) := by
  intro m
  induction m with
  | zero => intro k p _ _; rfl
  | succ m ih =>
    intro k p hk hp
    have hb := hX k (by omega)
    unfold utL rgE
    unfold tb at hb
    by_cases c : X k = true
    · rw [c, decide_eq_true_iff] at hb
      rw [if_neg (by rw [hb]; decide), if_pos (Or.inl c), if_pos c]
      exact ih (k + 1) p (by omega) hp
    · have hx : X k = false := by cases q : X k with
        | false => rfl
        | true => exact absurd q c
      rw [hx, decide_eq_false_iff_not] at hb
      have h0 : (tk >>> (nI k &&& 31)) &&& 1 = 0 := by
        rcases a1_01 (tk >>> (nI k &&& 31)) with q | q
        · exact q
        · exact absurd q hb
      rw [if_pos h0]
      by_cases e : p = r
      · rw [if_pos (by rw [e]), if_neg (fun z => by rcases z with z | z; exact c z; omega)]
      · have hne : ¬ nI p = nI r := fun z => e (by
          have := congrArg Int32.toInt z
          unfold nI at this
          rw [Int32.toInt_ofNat_of_lt (by omega), Int32.toInt_ofNat_of_lt (by omega)] at this
          omega)
        have h1 : nI p + 1 = nI (p + 1) := (Int32.ofNat_add p 1).symm
        rw [if_neg hne, if_pos (Or.inr (by omega)), if_neg c, h1, ih (k + 1) (p + 1) (by omega) (by omega), show r - (p + 1) = r - p - 1 by omega]
/-- there is one below the number of rings -/
theorem rg_some {X : Nat → Bool} : ∀ (m k l : Nat), (l < m - (rkN X (k + m) - rkN X k) → ∃ e, rgE X m k l = some e ∧ k ≤ e ∧ e < k + m ∧ X e = false) ∧ (m - (rkN X (k + m) - rkN X k) ≤ l → rgE X m k l = none) := by
  intro m
  induction m with
  | zero => intro k l; exact ⟨fun h => by omega, fun _ => rfl⟩
  | succ m ih =>
    intro k l
    have e1 : k + (m + 1) = k + 1 + m := by omega
    have s1 := rkN_s X k
    have m1 := rkN_mono X m (k + 1)
    have m2 : rkN X (k + 1 + m) ≤ rkN X (k + 1) + m := by
      have : ∀ d, rkN X (k + 1 + d) ≤ rkN X (k + 1) + d := by
        intro d
        induction d with
        | zero => exact Nat.le_refl _
        | succ d ihd => rw [← Nat.add_assoc, rkN_s]; split <;> omega
      exact this m
    rw [e1]
    unfold rgE
    by_cases c : X k = true
    · rw [if_pos (Or.inl c), if_pos c]
      rw [if_pos c] at s1
      obtain ⟨i1, i2⟩ := ih (k + 1) l
      refine ⟨fun h => ?_, fun h => i2 (by omega)⟩
      obtain ⟨e, a1, a2, a3, a4⟩ := i1 (by omega)
      exact ⟨e, a1, by omega, by omega, a4⟩
    · rw [if_neg c] at s1
      have hx : X k = false := by cases q : X k with
        | false => rfl
        | true => exact absurd q c
      by_cases d : 0 < l
      · rw [if_pos (Or.inr d), if_neg c]
        obtain ⟨i1, i2⟩ := ih (k + 1) (l - 1)
        refine ⟨fun h => ?_, fun h => i2 (by omega)⟩
        obtain ⟨e, a1, a2, a3, a4⟩ := i1 (by omega)
        exact ⟨e, a1, by omega, by omega, a4⟩
      · rw [if_neg (fun z => by rcases z with z | z; exact c z; exact d z)]
        exact ⟨fun _ => ⟨k, rfl, by omega, by omega, hx⟩, fun h => by omega⟩
theorem tt_cnt {F T : Nat → Nat} : ∀ (m k : Nat) (P : Nat → Nat) (X : Nat → Bool) (r : Nat), (∀ j, j < k → (ttL F T m k P X r).2 j = X j) ∧ (ttL F T m k P X r).1 + (rkN (ttL F T m k P X r).2 (k + m) - rkN (ttL F T m k P X r).2 k) = r + m := by
  intro m
  induction m with
  | zero => intro k P X r; exact ⟨fun j _ => rfl, by show r + (rkN X k - rkN X k) = r + 0; omega⟩
  | succ m ih =>
    intro k P X r
    unfold ttL
    obtain ⟨i1, i2⟩ := ih (k + 1) (jmP (F k) (T k) P) (fun j => if j = k then decide (¬ P (F k) = P (T k)) else X j) (if P (F k) = P (T k) then r + 1 else r)
    generalize hY : ttL F T m (k + 1) (jmP (F k) (T k) P) (fun j => if j = k then decide (¬ P (F k) = P (T k)) else X j) (if P (F k) = P (T k) then r + 1 else r) = Y at i1 i2
    refine ⟨fun j hj => by rw [i1 j (by omega), if_neg (by omega)], ?_⟩
    have hk := i1 k (by omega)
    rw [if_pos rfl] at hk
    have s1 := rkN_s Y.2 k
    have m1 := rkN_mono Y.2 m (k + 1)
    rw [hk] at s1
    rw [show k + (m + 1) = k + 1 + m by omega]
    by_cases e : P (F k) = P (T k)
    · rw [if_pos e] at i2
      simp [e] at s1
      omega
    · rw [if_neg e] at i2
      simp [e] at s1
      omega
theorem tt_rk {a : Nat} {F T : Nat → Nat} : (ttV a F T).1 + rkN (ttV a F T).2 a = a := by
  have := (tt_cnt (F := F) (T := T) a 0 (fun v => v) (fun _ => false) 0).2
  have z : rkN (ttL F T a 0 (fun v => v) (fun _ => false) 0).2 0 = 0 := rfl
  unfold ttV
  rw [z, Nat.zero_add, Nat.sub_zero] at this
  omega
theorem ring_arc {a r : Nat} {F T : Nat → Nat} : (r < (ttV a F T).1 → ∃ e, rgE (ttV a F T).2 a 0 r = some e ∧ e < a ∧ (ttV a F T).2 e = false) ∧ ((ttV a F T).1 ≤ r → rgE (ttV a F T).2 a 0 r = none) := by
  have h := rg_some (X := (ttV a F T).2) a 0 r
  have z : rkN (ttV a F T).2 0 = 0 := rfl
  have t := tt_rk (a := a) (F := F) (T := T)
  rw [z, Nat.zero_add, Nat.sub_zero] at h
  refine ⟨fun hr => ?_, fun hr => h.2 (by omega)⟩
  obtain ⟨e, a1, _, a3, a4⟩ := h.1 (by omega)
  exact ⟨e, a1, a3, a4⟩
/-- what the taken arcs join -/
theorem tt_join {n a : Nat} {F T : Nat → Nat} (hft : ∀ k, k < a → F k < n ∧ T k < n) {h : Nat → Nat} : ∀ (m k : Nat) (P : Nat → Nat) (X : Nat → Bool) (r : Nat), k + m = a → (∀ u v, u < n → v < n → P u = P v → h u = h v) → (∀ j, k ≤ j → j < a → (ttL F T m k P X r).2 j = true → h (F j) = h (T j)) → ∀ j, k ≤ j → j < a → h (F j) = h (T j) := by
  intro m
  induction m with
  | zero => intro k P X r hk _ _ j h1 h2; omega
  | succ m ih =>
    intro k P X r hk hP hX j h1 h2
    have hk2 := hft k (by omega)
    unfold ttL at hX
    have tk := (tt_cnt (F := F) (T := T) m (k + 1) (jmP (F k) (T k) P) (fun j => if j = k then decide (¬ P (F k) = P (T k)) else X j) (if P (F k) = P (T k) then r + 1 else r)).1 k (by omega)
    rw [if_pos rfl] at tk
    have hkk : h (F k) = h (T k) := by
      by_cases e : P (F k) = P (T k)
      · exact hP _ _ hk2.1 hk2.2 e
      · exact hX k (Nat.le_refl _) (by omega) (by rw [tk]; simp [e])
    by_cases e : j = k
    · rw [e]; exact hkk
    · refine ih (k + 1) (jmP (F k) (T k) P) _ _ (by omega) (fun u v hu hv q => ?_) (fun j h3 h4 => hX j (by omega) h4) j (by omega) h2
      unfold jmP at q
      by_cases c1 : P u = P (T k)
      · have e1 := hP u (T k) hu hk2.2 c1
        rw [if_pos c1] at q
        by_cases c2 : P v = P (T k)
        · have e2 := hP v (T k) hv hk2.2 c2; omega
        · rw [if_neg c2] at q
          have e2 := hP (F k) v hk2.1 hv q; omega
      · rw [if_neg c1] at q
        by_cases c2 : P v = P (T k)
        · rw [if_pos c2] at q
          have e1 := hP u (F k) hu hk2.1 q
          have e2 := hP v (T k) hv hk2.2 c2; omega
        · rw [if_neg c2] at q
          exact hP u v hu hv q
theorem taken_all {n a : Nat} {F T : Nat → Nat} (hft : ∀ k, k < a → F k < n ∧ T k < n) {h : Nat → Nat} (hX : ∀ j, j < a → (ttV a F T).2 j = true → h (F j) = h (T j)) : ∀ j, j < a → h (F j) = h (T j) := fun j hj =>
  tt_join hft a 0 (fun v => v) (fun _ => false) 0 (by omega) (fun u v _ _ e => by have : u = v := e; rw [this]) (fun j _ hj => hX j hj) j (by omega) hj
