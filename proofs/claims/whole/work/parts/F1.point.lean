theorem lpw_s (y : Int64) (n : Nat) : lpw y (n + 1) = lpw y n * y := rfl
theorem lpw_po (b : Int64) : ∀ m r, poL b m r = r * lpw b m := by
  intro m
  induction m with
  | zero => intro r; unfold poL lpw; grind
  | succ m ih => intro r; unfold poL; rw [ih, lpw_s]; grind
theorem poV_n (b : Int64) {e : Nat} (h : e < 2 ^ 31) : poV b (nI e) = lpw b e := by
  unfold poV
  rw [nI_clamp h, lpw_po]; grind
/-- the bits of a small number -/
theorem tb_nI {t k : Nat} (ht : t < 2 ^ 30) (hk : k < 30) : (tb (nI t) k = true) ↔ (t / 2 ^ k % 2 = 1) := by
  have e : nI k &&& 31 = Int32.ofNat k := by
    have : ∀ k, k < 30 → nI k &&& 31 = Int32.ofNat k := by decide +kernel
    exact this k hk
  have e2 : ((Int32.ofNat k).toBitVec.smod 32).toNat = k := by
    have : ∀ k, k < 30 → ((Int32.ofNat k).toBitVec.smod 32).toNat = k := by decide +kernel
    exact this k hk
  have hs : (nI t >>> (nI k &&& 31)).toInt = (t / 2 ^ k : Nat) := by
    rw [e]
    show (BitVec.sshiftRight' (nI t).toBitVec ((Int32.ofNat k).toBitVec.smod 32)).toInt = _
    rw [BitVec.sshiftRight', e2, BitVec.toInt_sshiftRight, Int.shiftRight_eq_div_pow]
    have : (nI t).toBitVec.toInt = (t : Int) := by
      show (Int32.ofNat t).toInt = _
      rw [Int32.toInt_ofNat_of_lt (by omega)]
    rw [this]
    rw [Int.natCast_ediv, Int.natCast_pow]
  have ha : ((nI t >>> (nI k &&& 31)) &&& 1).toBitVec.toNat = (nI t >>> (nI k &&& 31)).toBitVec.toNat % 2 := by
    rw [Int32.toBitVec_and, BitVec.toNat_and]
    exact Nat.and_one_is_mod _
  have hb : (nI t >>> (nI k &&& 31)).toInt % 2 = ((nI t >>> (nI k &&& 31)).toBitVec.toNat : Int) % 2 := by
    show (nI t >>> (nI k &&& 31)).toBitVec.toInt % 2 = _
    rw [BitVec.toInt_eq_toNat_cond]
    split <;> omega
  rw [hs] at hb
  unfold tb
  rw [decide_eq_true_iff]
  generalize t / 2 ^ k = z at hb ⊢
  constructor
  · intro h
    rw [h] at ha
    have : (1 : Nat) = (nI t >>> (nI k &&& 31)).toBitVec.toNat % 2 := ha
    omega
  · intro h
    apply Int32.toBitVec_inj.mp
    apply BitVec.eq_of_toNat_eq
    rw [ha]
    show _ = 1
    omega
/-- the sum over sets, arc by arc -/
def utN (F T : Nat → Nat) (x y : Int64) (f : Nat) : Nat → Nat → Nat → (Nat → Nat) → Int64
  | 0, _, c, _ => lpw (x - 1) (c - f)
  | m + 1, k, c, P => utN F T x y f m (k + 1) c P + (if P (F k) = P (T k) then (y - 1) * utN F T x y f m (k + 1) c P else utN F T x y f m (k + 1) (c - 1) (unP (F k) (T k) P))
/-- nothing more to join -/
theorem ut_end {n a f : Nat} {F T : Nat → Nat} {x y : Int64} (hft : ∀ k, k < a → F k < n ∧ T k < n) : ∀ (m k c : Nat) (P : Nat → Nat), k + m = a → FO n c P → (∀ j, k ≤ j → j < a → P (F j) = P (T j)) → c = f → utN F T x y f m k c P = lpw y m := by
  intro m
  induction m with
  | zero => intro k c P _ _ _ hc; unfold utN; rw [hc, Nat.sub_self]; rfl
  | succ m ih =>
    intro k c P hk hF h hc
    unfold utN
    rw [if_pos (h k (by omega) (by omega)), ih (k + 1) c P (by omega) hF (fun j h1 h2 => h j (by omega) h2) hc, lpw_s]
    grind
theorem sf_ut {n a f : Nat} {F T : Nat → Nat} {Q : Nat → Nat} {x y : Int64} (hft : ∀ k, k < a → F k < n ∧ T k < n) (hQ : FO n f Q) (hq : ∀ j, j < a → Q (F j) = Q (T j)) : ∀ (m k c : Nat) (P : Nat → Nat), k + m = a → FO n c P → (∀ u v, u < n → v < n → P u = P v → Q u = Q v) → sfV (lpw (x - 1)) (lpw y) F T f a m k c P = utN F T x y f m k c P := by
  -- with as few parts as possible all arcs lie inside
  have fin : ∀ (k c : Nat) (P : Nat → Nat), FO n c P → (∀ u v, u < n → v < n → P u = P v → Q u = Q v) → c = f → ∀ j, j < a → P (F j) = P (T j) := by
    intro k c P hF h hc j hj
    have hj2 := hft j hj
    false_or_by_contra
    rename_i hne
    have h2 := (hF.un hj2.1 hj2.2 hne).fine hQ (fun u v hu hv e => by
      have ej : jnP (F j) (T j) P = unP (F j) (T j) P := by unfold jnP; rw [if_neg hne]
      have h3 := hq j hj
      rw [← ej] at e
      rcases (jnP_eq (P := P) hj2.1 hj2.2 u v hu hv).mp e with q | ⟨q1, q2⟩
      · exact h u v hu hv q
      · rcases q1 with q1 | q1 <;> rcases q2 with q2 | q2
        · exact h u v hu hv (by omega)
        · have e3 := h u _ hu hj2.1 q1; have e4 := h v _ hv hj2.2 q2; omega
        · have e3 := h u _ hu hj2.2 q1; have e4 := h v _ hv hj2.1 q2; omega
        · exact h u v hu hv (by omega))
    have := hF.1 (F j) hj2.1
    omega
  intro m
  induction m with
  | zero =>
    intro k c P hk hF h
    unfold sfV utN
    by_cases e : c = f
    · rw [if_pos e, e, Nat.sub_self, show a - k = 0 by omega]; rfl
    · rw [if_neg e]
  | succ m ih =>
    intro k c P hk hF h
    have hk2 := hft k (by omega)
    unfold sfV
    by_cases e : c = f
    · rw [if_pos e, ut_end hft (m + 1) k c P hk hF (fun j _ hj => fin k c P hF h e j hj) e, show a - k = m + 1 by omega]
    · rw [if_neg e]
      unfold utN
      by_cases e2 : P (F k) = P (T k)
      · rw [if_pos e2, if_pos e2, ih (k + 1) c P (by omega) hF h]
        have : lpw y 1 = y := by unfold lpw lpw; grind
        rw [this]; grind
      · have ej1 : jnC (F k) (T k) P c = c - 1 := by unfold jnC; rw [if_neg e2]
        have ej2 : jnP (F k) (T k) P = unP (F k) (T k) P := by unfold jnP; rw [if_neg e2]
        rw [if_neg e2, if_neg e2, ej1, ej2, ih (k + 1) c P (by omega) hF h, ih (k + 1) (c - 1) _ (by omega) (hF.un hk2.1 hk2.2 e2) (fun u v hu hv e3 => by
          have h3 := hq k (by omega)
          rw [← ej2] at e3
          rcases (jnP_eq (P := P) hk2.1 hk2.2 u v hu hv).mp e3 with q | ⟨q1, q2⟩
          · exact h u v hu hv q
          · rcases q1 with q1 | q1 <;> rcases q2 with q2 | q2
            · exact h u v hu hv (by omega)
            · have e3 := h u _ hu hk2.1 q1; have e4 := h v _ hv hk2.2 q2; omega
            · have e3 := h u _ hu hk2.2 q1; have e4 := h v _ hv hk2.1 q2; omega
            · exact h u v hu hv (by omega))]
/-- the reference's term from arc k on: parts left, rank and count so far -/
def rkT (F T : Nat → Nat) : Nat → Nat → Nat → (Nat → Nat) → Nat → Nat
  | 0, _, _, _, s => s
  | m + 1, k, t, P, s => if t % 2 = 1 then (if P (F k) = P (T k) then rkT F T m (k + 1) (t / 2) (jmP (F k) (T k) P) s else rkT F T m (k + 1) (t / 2) (jmP (F k) (T k) P) (s + 1)) else rkT F T m (k + 1) (t / 2) P s
def pcT : Nat → Nat → Nat → Nat
  | 0, _, c => c
  | m + 1, t, c => pcT m (t / 2) (if t % 2 = 1 then c + 1 else c)
theorem rk_T {F T : Nat → Nat} {t : Nat} (ht : t < 2 ^ 30) : ∀ m k P s, k + m ≤ 30 → rkL F T (nI t) m k P s = rkT F T m k (t / 2 ^ k) P s := by
  intro m
  induction m with
  | zero => intro k P s _; rfl
  | succ m ih =>
    intro k P s hk
    have b := tb_nI ht (k := k) (by omega)
    have e : t / 2 ^ k / 2 = t / 2 ^ (k + 1) := by rw [Nat.div_div_eq_div_mul, ← Nat.pow_succ]
    unfold rkL rkT
    rw [ih _ _ _ (by omega), ih _ _ _ (by omega), ih _ _ _ (by omega), e]
    by_cases c : tb (nI t) k = true
    · rw [if_pos c, if_pos (b.mp c)]
    · rw [if_neg c, if_neg (fun q => c (b.mpr q))]
theorem pc_T {t : Nat} (ht : t < 2 ^ 30) : ∀ m k c, k + m ≤ 30 → pcL (nI t) m k c = pcT m (t / 2 ^ k) c := by
  intro m
  induction m with
  | zero => intro k c _; rfl
  | succ m ih =>
    intro k c hk
    have b := tb_nI ht (k := k) (by omega)
    have e : t / 2 ^ k / 2 = t / 2 ^ (k + 1) := by rw [Nat.div_div_eq_div_mul, ← Nat.pow_succ]
    unfold pcL pcT
    rw [ih _ _ (by omega), e]
    by_cases c : tb (nI t) k = true
    · rw [if_pos c, if_pos (b.mp c)]
    · rw [if_neg c, if_neg (fun q => c (b.mpr q))]
theorem rkT_s {F T : Nat → Nat} : ∀ m k t P s, rkT F T m k t P s = s + rkT F T m k t P 0 := by
  intro m
  induction m with
  | zero => intro k t P s; unfold rkT; omega
  | succ m ih =>
    intro k t P s
    unfold rkT
    split
    · split
      · exact ih _ _ _ _
      · rw [ih _ _ _ (s + 1), ih _ _ _ (0 + 1)]; omega
    · exact ih _ _ _ _
theorem pcT_s : ∀ m t c, pcT m t c = c + pcT m t 0 := by
  intro m
  induction m with
  | zero => intro t c; unfold pcT; omega
  | succ m ih =>
    intro t c
    unfold pcT
    split
    · rw [ih _ (c + 1), ih _ (0 + 1)]; omega
    · exact ih _ _
theorem rk_pc {F T : Nat → Nat} : ∀ m k t P, rkT F T m k t P 0 ≤ pcT m t 0 := by
  intro m
  induction m with
  | zero => intro k t P; exact Nat.le_refl _
  | succ m ih =>
    intro k t P
    unfold rkT pcT
    split
    · have h := ih (k + 1) (t / 2) (jmP (F k) (T k) P)
      split
      · rw [pcT_s m _ (0 + 1)]; omega
      · rw [rkT_s m _ _ _ (0 + 1), pcT_s m _ (0 + 1)]; omega
    · exact ih _ _ _
/-- the rank of a set, against the parts of the class -/
theorem rk_FO {n a f : Nat} {F T : Nat → Nat} {Q : Nat → Nat} (hft : ∀ k, k < a → F k < n ∧ T k < n) (hQ : FO n f Q) (hq : ∀ j, j < a → Q (F j) = Q (T j)) : ∀ (m k t c : Nat) (P P' : Nat → Nat), k + m = a → FO n c P → EqP n P P' → (∀ u v, u < n → v < n → P u = P v → Q u = Q v) → f + rkT F T m k t P' 0 ≤ c := by
  intro m
  induction m with
  | zero => intro k t c P P' _ hF _ h; exact hF.fine hQ h
  | succ m ih =>
    intro k t c P P' hk hF hE h
    have hk2 := hft k (by omega)
    unfold rkT
    split
    · by_cases e : P (F k) = P (T k)
      · have e' := (hE _ _ hk2.1 hk2.2).mp e
        rw [if_pos e']
        have : jmP (F k) (T k) P' = P' := by
          funext v; unfold jmP
          by_cases q : P' v = P' (T k)
          · rw [if_pos q, q, e']
          · rw [if_neg q]
        rw [this]
        exact ih (k + 1) _ c P P' (by omega) hF hE h
      · rw [if_neg (fun q => e ((hE _ _ hk2.1 hk2.2).mpr q)), rkT_s]
        have ej2 : jnP (F k) (T k) P = unP (F k) (T k) P := by unfold jnP; rw [if_neg e]
        have := ih (k + 1) (t / 2) (c - 1) (unP (F k) (T k) P) (jmP (F k) (T k) P') (by omega) (hF.un hk2.1 hk2.2 e) (hE.un hk2.1 hk2.2 e) (fun u v hu hv e3 => by
          have h3 := hq k (by omega)
          rw [← ej2] at e3
          rcases (jnP_eq (P := P) hk2.1 hk2.2 u v hu hv).mp e3 with q | ⟨q1, q2⟩
          · exact h u v hu hv q
          · rcases q1 with q1 | q1 <;> rcases q2 with q2 | q2
            · exact h u v hu hv (by omega)
            · have e3 := h u _ hu hk2.1 q1; have e4 := h v _ hv hk2.2 q2; omega
            · have e3 := h u _ hu hk2.2 q1; have e4 := h v _ hv hk2.1 q2; omega
            · exact h u v hu hv (by omega))
        have c1 := hF.1 (F k) hk2.1
        have c2 := hF.1 (T k) hk2.2
        omega
    · exact ih (k + 1) _ c P P' (by omega) hF hE h
/-- a sum by pairs -/
def ppT (m : Nat) (g : Nat → Int64) : Int64 := mSum m g
theorem mSum_pair (g : Nat → Int64) : ∀ m, mSum (2 * m) g = mSum m (fun t => g (2 * t) + g (2 * t + 1)) := by
  intro m
  induction m with
  | zero => rfl
  | succ m ih =>
    have : 2 * (m + 1) = 2 * m + 1 + 1 := by omega
    rw [this]
    unfold mSum
    rw [show mSum (2 * m + 1) g = mSum (2 * m) g + g (2 * m) from rfl, ih]
    grind
theorem ut_sum {n a f : Nat} {F T : Nat → Nat} {Q : Nat → Nat} {x y : Int64} (hft : ∀ k, k < a → F k < n ∧ T k < n) (hQ : FO n f Q) (hq : ∀ j, j < a → Q (F j) = Q (T j)) : ∀ (m k c : Nat) (P P' : Nat → Nat), k + m = a → FO n c P → EqP n P P' → (∀ u v, u < n → v < n → P u = P v → Q u = Q v) → mSum (2 ^ m) (fun t => lpw (x - 1) (c - f - rkT F T m k t P' 0) * lpw (y - 1) (pcT m t 0 - rkT F T m k t P' 0)) = utN F T x y f m k c P := by
  intro m
  induction m with
  | zero =>
    intro k c P P' _ _ _ _
    show 0 + lpw (x - 1) (c - f - 0) * lpw (y - 1) 0 = lpw (x - 1) (c - f)
    unfold lpw
    rw [Nat.sub_zero]
    cases c - f <;> simp [lpw] <;> grind
  | succ m ih =>
    intro k c P P' hk hF hE h
    have hk2 := hft k (by omega)
    have ej2 : ¬ P (F k) = P (T k) → jnP (F k) (T k) P = unP (F k) (T k) P := fun e => by unfold jnP; rw [if_neg e]
    have hfin : ¬ P (F k) = P (T k) → ∀ u v, u < n → v < n → unP (F k) (T k) P u = unP (F k) (T k) P v → Q u = Q v := fun e u v hu hv e3 => by
      have h3 := hq k (by omega)
      rw [← ej2 e] at e3
      rcases (jnP_eq (P := P) hk2.1 hk2.2 u v hu hv).mp e3 with q | ⟨q1, q2⟩
      · exact h u v hu hv q
      · rcases q1 with q1 | q1 <;> rcases q2 with q2 | q2
        · exact h u v hu hv (by omega)
        · have e3 := h u _ hu hk2.1 q1; have e4 := h v _ hv hk2.2 q2; omega
        · have e3 := h u _ hu hk2.2 q1; have e4 := h v _ hv hk2.1 q2; omega
        · exact h u v hu hv (by omega)
    rw [Nat.pow_succ, Nat.mul_comm, mSum_pair, mSum_add]
    unfold utN
    have e0 : mSum (2 ^ m) (fun t => lpw (x - 1) (c - f - rkT F T (m + 1) k (2 * t) P' 0) * lpw (y - 1) (pcT (m + 1) (2 * t) 0 - rkT F T (m + 1) k (2 * t) P' 0)) = utN F T x y f m (k + 1) c P := by
      rw [← ih (k + 1) c P P' (by omega) hF hE h]
      refine mSum_congr _ (fun t _ => ?_)
      have a1 : rkT F T (m + 1) k (2 * t) P' 0 = rkT F T m (k + 1) t P' 0 := by
        unfold rkT
        rw [if_neg (show ¬ 2 * t % 2 = 1 by omega), show 2 * t / 2 = t by omega]
        cases m <;> rfl
      have a2 : pcT (m + 1) (2 * t) 0 = pcT m t 0 := by
        conv => lhs; unfold pcT
        rw [if_neg (show ¬ 2 * t % 2 = 1 by omega), show 2 * t / 2 = t by omega]
      rw [a1, a2]
    rw [e0]
    congr 1
    have d1 : ∀ t, (2 * t + 1) / 2 = t := fun t => by omega
    have d2 : ∀ t, (2 * t + 1) % 2 = 1 := fun t => by omega
    by_cases e : P (F k) = P (T k)
    · have e' := (hE _ _ hk2.1 hk2.2).mp e
      rw [if_pos e, ← ih (k + 1) c P P' (by omega) hF hE h, ← mSum_mul]
      refine mSum_congr _ (fun t _ => ?_)
      have hj : jmP (F k) (T k) P' = P' := by
        funext v; unfold jmP
        by_cases q : P' v = P' (T k)
        · rw [if_pos q, q, e']
        · rw [if_neg q]
      have a1 : rkT F T (m + 1) k (2 * t + 1) P' 0 = rkT F T m (k + 1) t P' 0 := by
        conv => lhs; unfold rkT
        rw [if_pos (d2 t), if_pos e', hj, d1]
      have a2 : pcT (m + 1) (2 * t + 1) 0 = pcT m t 0 + 1 := by
        conv => lhs; unfold pcT
        rw [if_pos (d2 t), d1, pcT_s]; omega
      have a3 := rk_pc (F := F) (T := T) m (k + 1) t P'
      rw [a1, a2, show pcT m t 0 + 1 - rkT F T m (k + 1) t P' 0 = (pcT m t 0 - rkT F T m (k + 1) t P' 0) + 1 by omega]
      conv => lhs; rw [lpw]
      grind
    · have e' := fun q => e ((hE _ _ hk2.1 hk2.2).mpr q)
      rw [if_neg e, ← ih (k + 1) (c - 1) _ (jmP (F k) (T k) P') (by omega) (hF.un hk2.1 hk2.2 e) (hE.un hk2.1 hk2.2 e) (hfin e)]
      refine mSum_congr _ (fun t _ => ?_)
      have a1 : rkT F T (m + 1) k (2 * t + 1) P' 0 = rkT F T m (k + 1) t (jmP (F k) (T k) P') 0 + 1 := by
        conv => lhs; unfold rkT
        rw [if_pos (d2 t), if_neg e', d1, rkT_s]; omega
      have a2 : pcT (m + 1) (2 * t + 1) 0 = pcT m t 0 + 1 := by
        conv => lhs; unfold pcT
        rw [if_pos (d2 t), d1, pcT_s]; omega
      rw [a1, a2]
      congr 2
      · omega
      · omega
theorem ppL_sum {a : Nat} {F T : Nat → Nat} {x y : Int64} {r : Nat} : ∀ m t s, ppL a F T x y r m t s = s + mSum m (fun i => ppS a F T x y r (t + i)) := by
  intro m
  induction m with
  | zero => intro t s; unfold ppL mSum; grind
  | succ m ih =>
    intro t s
    unfold ppL
    rw [ih]
    have key : ∀ m (g : Nat → Int64), mSum (m + 1) g = g 0 + mSum m (fun i => g (i + 1)) := by
      intro m g
      induction m with
      | zero => unfold mSum; unfold mSum; grind
      | succ m ih => rw [mSum, ih]; conv => rhs; rw [mSum]
                     grind
    rw [key]
    have : (fun i => ppS a F T x y r (t + 1 + i)) = (fun i => ppS a F T x y r (t + (i + 1))) := by funext i; rw [show t + 1 + i = t + (i + 1) by omega]
    rw [this, Nat.add_zero]; grind
/-- all arcs -/
theorem rk_all {n a : Nat} {F T : Nat → Nat} (hft : ∀ k, k < a → F k < n ∧ T k < n) : ∀ (m k c : Nat) (b : Int32) (P P' : Nat → Nat), k + m = a → FO n c P → EqP n P P' → (ftL F T m k b c P).2.1 + rkT F T m k (2 ^ m - 1) P' 0 = c := by
  intro m
  induction m with
  | zero => intro k c b P P' _ _ _; rfl
  | succ m ih =>
    intro k c b P P' hk hF hE
    have hk2 := hft k (by omega)
    have p2 : 0 < 2 ^ m := Nat.pow_pos (by decide)
    have e1 : (2 ^ (m + 1) - 1) % 2 = 1 := by rw [Nat.pow_succ]; omega
    have e2 : (2 ^ (m + 1) - 1) / 2 = 2 ^ m - 1 := by rw [Nat.pow_succ]; omega
    unfold ftL rkT
    rw [if_pos e1, e2]
    by_cases e : P (F k) = P (T k)
    · have e' := (hE _ _ hk2.1 hk2.2).mp e
      have hj : jmP (F k) (T k) P' = P' := by
        funext v; unfold jmP
        by_cases q : P' v = P' (T k)
        · rw [if_pos q, q, e']
        · rw [if_neg q]
      have ej1 : jnC (F k) (T k) P c = c := by unfold jnC; rw [if_pos e]
      have ej2 : jnP (F k) (T k) P = P := by unfold jnP; rw [if_pos e]
      rw [if_pos e, if_pos e', hj, ej1, ej2]
      exact ih (k + 1) c _ P P' (by omega) hF hE
    · have ej1 : jnC (F k) (T k) P c = c - 1 := by unfold jnC; rw [if_neg e]
      have ej2 : jnP (F k) (T k) P = unP (F k) (T k) P := by unfold jnP; rw [if_neg e]
      have c1 := hF.1 (F k) hk2.1
      have c2 := hF.1 (T k) hk2.2
      rw [if_neg e, if_neg (fun q => e ((hE _ _ hk2.1 hk2.2).mpr q)), ej1, ej2, rkT_s]
      have := ih (k + 1) (c - 1) (b ||| (1 <<< (nI k &&& 31))) _ (jmP (F k) (T k) P') (by omega) (hF.un hk2.1 hk2.2 e) (hE.un hk2.1 hk2.2 e)
      omega
theorem ppV_ok {n a : Nat} {F T : Nat → Nat} {x y : Int64} (hft : ∀ k, k < a → F k < n ∧ T k < n) (hn : n ≤ 10) (ha : a ≤ 14) : ppV a F T x y = ptV n a F T x y := by
  obtain ⟨a1, a2, a3⟩ := ftV_ok hft
  have hid : ∀ u v, u < n → v < n → (fun v => v) u = (fun v => v) v → (ftV n a F T).2.2 u = (ftV n a F T).2.2 v := fun u v _ _ e => by have : u = v := e; rw [this]
  have p2 : 2 ^ a ≤ 2 ^ 14 := Nat.pow_le_pow_right (by decide) ha
  have hr : (ftV n a F T).2.1 + rkV a F T (nI (2 ^ a - 1)) = n := by
    unfold rkV
    rw [rk_T (by omega) a 0 _ 0 (by omega), Nat.pow_zero, Nat.div_one]
    exact rk_all hft a 0 n 0 _ _ (by omega) (FO.id n) (EqP.rf n _)
  unfold ppV ptV
  rw [ppL_sum, sf_ut hft a1 a2 a 0 n _ (by omega) (FO.id n) hid, ← ut_sum hft a1 a2 a 0 n _ (fun v => v) (by omega) (FO.id n) (EqP.rf n _) hid]
  have : ∀ z : Int64, 0 + z = z := fun z => by grind
  rw [this]
  refine mSum_congr _ (fun t ht => ?_)
  unfold ppS rkV
  rw [Nat.zero_add, rk_T (t := t) (by omega) a 0 _ 0 (by omega), pc_T (t := t) (by omega) a 0 0 (by omega), Nat.pow_zero, Nat.div_one]
  have h1 := rk_FO (P' := fun v => v) hft a1 a2 a 0 t n _ (by omega) (FO.id n) (EqP.rf n _) hid
  have h2 := rk_pc (F := F) (T := T) a 0 t (fun v => v)
  have h3 : pcT a t 0 ≤ a := by
    have : ∀ m t c, pcT m t c ≤ c + m := by
      intro m
      induction m with
      | zero => intro t c; exact Nat.le_refl _
      | succ m ih => intro t c; unfold pcT; have h1 := ih (t / 2) (if t % 2 = 1 then c + 1 else c); have h2 : (if t % 2 = 1 then c + 1 else c) ≤ c + 1 := (by split <;> omega); omega
    have := this a t 0; omega
  unfold rkV at hr
  rw [pk_sub (by omega), pk_sub h2, poV_n _ (by omega), poV_n _ (by omega)]
  congr 2
  omega
