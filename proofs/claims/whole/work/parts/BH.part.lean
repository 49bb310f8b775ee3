/-- the class's sums over trees -/
theorem skM_ok {x : Nat} {M : Nat → Nat → Int64} : ∀ n p q, skM x M n p q = if (p = x ∧ q < n) ∨ (q = x ∧ p < n) then 0 else M p q := by
  intro n
  induction n with
  | zero => intro p q; rw [if_neg (by omega)]; rfl
  | succ n ih =>
    intro p q
    unfold skM mset
    rw [ih]
    by_cases c1 : p = n ∧ q = x
    · rw [if_pos c1, if_pos (by omega)]
    · rw [if_neg c1]
      by_cases c2 : p = x ∧ q = n
      · rw [if_pos c2, if_pos (by omega)]
      · rw [if_neg c2]
        by_cases c3 : (p = x ∧ q < n) ∨ (q = x ∧ p < n)
        · rw [if_pos c3, if_pos (by omega)]
        · rw [if_neg c3, if_neg (by omega)]
theorem strM_ok {n x p q : Nat} {M : Nat → Nat → Int64} (hx : x < n) (hp : p < n) (hq : q < n) : strM n x M p q = if p = x then (if q = x then 1 else 0) else if q = x then 0 else M p q := by
  unfold strM mset
  rw [if_pos hx, skM_ok]
  by_cases c1 : p = x
  · by_cases c2 : q = x
    · rw [if_pos ⟨c1, c2⟩, if_pos c1, if_pos c2]
    · rw [if_neg (by omega), if_pos (by omega), if_pos c1, if_neg c2]
  · by_cases c2 : q = x
    · rw [if_neg (by omega), if_pos (by omega), if_neg c1, if_pos c2]
    · rw [if_neg (by omega), if_neg (by omega), if_neg c1, if_neg c2]
theorem mDet_str {n x : Nat} {M : Nat → Nat → Int64} (hx : x < n + 1) : mDet (n + 1) (strM (n + 1) x M) = mDet n (fun p q => M (mSk x p) (mSk x q)) := by
  rw [mDet_unit n x x _ hx hx (fun q hq hne => by rw [strM_ok hx hx hq, if_pos rfl, if_neg hne]), strM_ok hx hx hx, if_pos rfl, if_pos rfl, mSg_add, mSg_sq]
  have : mDet n (fun p q => strM (n + 1) x M (mSk x p) (mSk x q)) = mDet n (fun p q => M (mSk x p) (mSk x q)) :=
    mDet_congr _ _ _ (fun p q hp hq => by rw [strM_ok hx (mSk_lt hp) (mSk_lt hq), if_neg (mSk_ne _ _), if_neg (mSk_ne _ _)])
  rw [this]; grind
theorem i32_64 (x : Int32) : x.toInt64 = Int64.ofInt x.toInt := by
  apply Int64.toInt_inj.mp
  rw [Int32.toInt_toInt64]
  have h1 := Int32.le_toInt x
  have h2 := Int32.toInt_lt x
  rw [Int64.toInt_ofInt, i64_bm (by omega) (by omega)]
theorem i64_ofn (x : Int) : Int64.ofInt (-x) = - Int64.ofInt x := Int64.ofInt_neg x
theorem i64_ofs (x y : Int) : Int64.ofInt (x - y) = Int64.ofInt x - Int64.ofInt y := Int64.ofInt_sub x y
theorem abw_ok {M : Nat → Nat → Int64} {x y : Nat} {w : Int} (i j : Nat) : abw M x y (Int64.ofInt w) i j = M i j + Int64.ofInt (w * ((if x = i then 1 else 0) - (if y = i then 1 else 0)) * ((if x = j then 1 else 0) - (if y = j then 1 else 0))) := by
  have z0 : Int64.ofInt 0 = 0 := rfl
  have z1 : Int64.ofInt 1 = 1 := rfl
  rw [i64_ofm, i64_ofm, i64_ofs, i64_ofs]
  have b : ∀ p q : Nat, Int64.ofInt (if p = q then 1 else 0) = if q = p then 1 else 0 := by
    intro p q
    by_cases c : p = q
    · rw [if_pos c, if_pos c.symm, z1]
    · rw [if_neg c, if_neg (fun e => c e.symm), z0]
  rw [b, b, b, b]
  generalize Int64.ofInt w = u
  unfold abw a1w mset
  by_cases e : x = y
  · subst e
    by_cases c1 : i = x <;> by_cases c2 : j = x <;> simp [c1, c2] <;> grind
  · have e' : ¬ y = x := fun q => e q.symm
    by_cases c1 : i = x <;> by_cases c2 : j = x <;> by_cases c3 : i = y <;> by_cases c4 : j = y <;> simp [c1, c2, c3, c4, e, e'] <;> grind
theorem fbF_ok {F T : Nat → Nat} {w : Nat → Int32} : ∀ (m k : Nat) (M : Nat → Nat → Int64) (i j : Nat), fbF F T w m k M i j = M i j + Int64.ofInt (lapL F T (fun k => (w k).toInt) m k i j) := by
  intro m
  induction m with
  | zero => intro k M i j; show M i j = M i j + 0; grind
  | succ m ih =>
    intro k M i j
    unfold fbF
    rw [ih, i32_64, abw_ok, lapL_s, i64_ofa]
    unfold lU
    grind
theorem sopV_ok {c f0 a : Nat} {F T : Nat → Nat} {w : Nat → Int32} {P : Nat → Nat} (hc : 0 < c) (hf : f0 ≤ a) (hP : ∀ j, f0 ≤ j → j < a → P (F j) < c ∧ P (T j) < c) : sopV c f0 a F T w P = Int64.ofInt (tcN F T (fun k => (w k).toInt) (a - f0) f0 c P) := by
  unfold sopV
  rw [if_neg (by omega), dtN_ok]
  obtain ⟨d, rfl⟩ : ∃ d, c = d + 1 := ⟨c - 1, by omega⟩
  rw [mDet_str (by omega), ← lap_tc (a - f0) f0 (d + 1) P hc (fun j h1 h2 => hP j h1 (by omega)), ← mDet_of]
  refine mDet_congr _ _ _ (fun p q hp hq => ?_)
  rw [fbF_ok]
  show (0 : Int64) + _ = _
  have : ∀ p, mSk 0 p = p + 1 := by intro p; simp [mSk]
  rw [this, this]
  unfold mDel0
  grind
/-- numbering of parts by their first nodes -/
def FO (n c : Nat) (P : Nat → Nat) : Prop := (∀ v, v < n → P v < c) ∧ (∀ v, v < n → ∀ j, j < P v → ∃ u, u < v ∧ P u = j) ∧ (∀ j, j < c → ∃ v, v < n ∧ P v = j)
def EqP (n : Nat) (P P' : Nat → Nat) : Prop := ∀ u v, u < n → v < n → (P u = P v ↔ P' u = P' v)
theorem FO.id (n : Nat) : FO n n (fun v => v) := ⟨fun _ h => h, fun _ _ j hj => ⟨j, hj, rfl⟩, fun j hj => ⟨j, hj, rfl⟩⟩
theorem EqP.rf (n : Nat) (P : Nat → Nat) : EqP n P P := fun _ _ _ _ => Iff.rfl
theorem uniN_back {lo hi j v : Nat} {P : Nat → Nat} (h : P v = mSk hi j) : uniN lo hi P v = j := by
  unfold uniN mSk at *
  rw [h]
  by_cases c : j < hi
  · simp only [if_pos c, if_neg (show ¬ j = hi by omega), if_pos (show j ≤ hi by omega)]
  · simp only [if_neg c, if_neg (show ¬ j + 1 = hi by omega), if_neg (show ¬ j + 1 ≤ hi by omega)]; omega
theorem FO.un {n c x y : Nat} {P : Nat → Nat} (h : FO n c P) (hx : x < n) (hy : y < n) (hne : P x ≠ P y) : FO n (c - 1) (unP x y P) := by
  obtain ⟨h1, h2, h3⟩ := h
  have hlt : mnN (P x) (P y) < mxN (P x) (P y) := by unfold mnN mxN; split <;> split <;> omega
  have hmx : mxN (P x) (P y) < c := by have := h1 x hx; have := h1 y hy; unfold mxN; split <;> omega
  refine ⟨fun v hv => unP_lt (h1 x hx) (h1 y hy) hne (h1 v hv), fun v hv j hj => ?_, fun j hj => ?_⟩
  · have : mSk (mxN (P x) (P y)) j < P v := by
      unfold unP uniN at hj
      unfold mSk
      split at hj
      · split <;> omega
      · split at hj
        · split <;> omega
        · split <;> omega
    obtain ⟨u, hu, e⟩ := h2 v hv _ this
    exact ⟨u, hu, uniN_back e⟩
  · obtain ⟨v, hv, e⟩ := h3 (mSk (mxN (P x) (P y)) j) (by unfold mSk; split <;> omega)
    exact ⟨v, hv, uniN_back e⟩
theorem EqP.un {n x y : Nat} {P P' : Nat → Nat} (h : EqP n P P') (hx : x < n) (hy : y < n) (hne : P x ≠ P y) : EqP n (unP x y P) (jmP x y P') := by
  intro u v hu hv
  have a1 := h u v hu hv
  have a2 := h u x hu hx
  have a3 := h u y hu hy
  have a4 := h v x hv hx
  have a5 := h v y hv hy
  unfold unP uniN jmP
  have e1 : ∀ z : Nat, (if z = mxN (P x) (P y) then mnN (P x) (P y) else if z ≤ mxN (P x) (P y) then z else z - 1) = (if z = P x ∨ z = P y then mnN (P x) (P y) else if z ≤ mxN (P x) (P y) then z else z - 1) := by
    intro z
    unfold mxN mnN
    by_cases c : P x < P y
    · rw [if_pos c, if_neg (show ¬ P y < P x by omega)]
      by_cases c1 : z = P y
      · rw [if_pos c1, if_pos (Or.inr c1)]
      · rw [if_neg c1]
        by_cases c2 : z = P x
        · rw [if_pos (Or.inl c2), if_pos (by omega)]; omega
        · rw [if_neg (show ¬ (z = P x ∨ z = P y) by omega)]
    · rw [if_neg c, if_pos (show P y < P x by omega)]
      by_cases c1 : z = P x
      · rw [if_pos c1, if_pos (Or.inl c1)]
      · rw [if_neg c1]
        by_cases c2 : z = P y
        · rw [if_pos (Or.inr c2), if_pos (by omega)]; omega
        · rw [if_neg (show ¬ (z = P x ∨ z = P y) by omega)]
  rw [e1, e1]
  have hlo : mnN (P x) (P y) = P x ∨ mnN (P x) (P y) = P y := by unfold mnN; split <;> simp
  have hhi : mxN (P x) (P y) = P x ∨ mxN (P x) (P y) = P y := by unfold mxN; split <;> simp
  have hlt : mnN (P x) (P y) < mxN (P x) (P y) := by unfold mnN mxN; split <;> split <;> omega
  by_cases cu : P u = P x ∨ P u = P y
  · rw [if_pos cu]
    have du : (if P' u = P' y then P' x else P' u) = P' x := by
      rcases cu with q | q
      · split
        · rfl
        · exact a2.mp q
      · rw [if_pos (a3.mp q)]
    rw [du]
    by_cases cv : P v = P x ∨ P v = P y
    · rw [if_pos cv]
      have dv : (if P' v = P' y then P' x else P' v) = P' x := by
        rcases cv with q | q
        · split
          · rfl
          · exact a4.mp q
        · rw [if_pos (a5.mp q)]
      rw [dv]; simp
    · rw [if_neg cv, if_neg (fun q => cv (Or.inr (a5.mpr q)))]
      constructor
      · intro q; exfalso; split at q <;> omega
      · intro q; exact absurd (Or.inl (a4.mpr q.symm)) cv
  · rw [if_neg cu, if_neg (fun q => cu (Or.inr (a3.mpr q)))]
    by_cases cv : P v = P x ∨ P v = P y
    · rw [if_pos cv]
      have dv : (if P' v = P' y then P' x else P' v) = P' x := by
        rcases cv with q | q
        · split
          · rfl
          · exact a4.mp q
        · rw [if_pos (a5.mp q)]
      rw [dv]
      constructor
      · intro q; exfalso; split at q <;> omega
      · intro q; exact absurd (Or.inl (a2.mpr q)) cu
    · rw [if_neg cv, if_neg (fun q => cv (Or.inr (a5.mpr q))), ← a1]
      constructor
      · intro q; split at q <;> split at q <;> omega
      · intro q; rw [q]
/-- the reference's number -/
def nmL (n : Nat) (P : Nat → Nat) (bu ot : Option Nat) : Nat → Nat → Nat → (Nat → Option Nat) → Nat × (Nat → Option Nat)
  | 0, _, c, I => (c, I)
  | m + 1, x, c, I => if (∀ y, y < x → P y ≠ P x) ∧ some (P x) ≠ bu ∧ some (P x) ≠ ot then nmL n P bu ot m (x + 1) (c + 1) (fun v => if v < n ∧ P v = P x then some c else I v) else nmL n P bu ot m (x + 1) c I
def nmV (n : Nat) (P : Nat → Nat) (bu ot : Option Nat) : Nat × (Nat → Option Nat) := nmL n P bu ot n 0 0 (fun _ => none)
theorem nmL_ok {n c : Nat} {P P' : Nat → Nat} (hF : FO n c P) (hE : EqP n P P') (hn : 0 < n) : ∀ (m x s : Nat) (I : Nat → Option Nat), x + m = n → (∀ u, u < x → P u < s) → (∀ j, j < s → ∃ u, u < x ∧ P u = j) → (∀ v, v < n → I v = if P v < s ∧ P v ≠ 0 then some (P v - 1) else none) → (nmL n P' (some (P' 0)) none m x (s - 1) I).1 = c - 1 ∧ ∀ v, v < n → (nmL n P' (some (P' 0)) none m x (s - 1) I).2 v = if P v = 0 then none else some (P v - 1) := by
  obtain ⟨h1, h2, h3⟩ := hF
  have p0 : P 0 = 0 := by
    rcases Nat.eq_zero_or_pos (P 0) with q | q
    · exact q
    · obtain ⟨u, hu, _⟩ := h2 0 hn 0 q; omega
  intro m
  induction m with
  | zero =>
    intro x s I hx a1 a2 a3
    obtain rfl : x = n := by omega
    have hs : s = c := by
      rcases Nat.lt_trichotomy s c with q | q | q
      · obtain ⟨v, hv, e⟩ := h3 s q; have := a1 v hv; omega
      · exact q
      · obtain ⟨v, hv, e⟩ := a2 c q; have := h1 v hv; omega
    subst hs
    refine ⟨rfl, fun v hv => ?_⟩
    show I v = _
    rw [a3 v hv]
    have := a1 v hv
    by_cases z : P v = 0
    · rw [if_pos z, if_neg (by omega)]
    · rw [if_neg z, if_pos ⟨this, z⟩]
  | succ m ih =>
    intro x s I hx a1 a2 a3
    have hxn : x < n := by omega
    have hle : P x ≤ s := by
      rcases Nat.lt_or_ge s (P x) with q | q
      · obtain ⟨u, hu, e⟩ := h2 x hxn s q; have := a1 u hu; omega
      · exact q
    unfold nmL
    by_cases hf : P x = s
    · -- a first node
      have first : ∀ y, y < x → P' y ≠ P' x := fun y hy q => by have := (hE y x (by omega) hxn).mpr q; have := a1 y hy; omega
      have b1 : ∀ u, u < x + 1 → P u < s + 1 := fun u hu => by
        by_cases q : u = x
        · subst q; omega
        · have := a1 u (by omega); omega
      have b2 : ∀ j, j < s + 1 → ∃ u, u < x + 1 ∧ P u = j := fun j hj => by
        by_cases q : j = s
        · exact ⟨x, by omega, by omega⟩
        · obtain ⟨u, hu, e⟩ := a2 j (by omega); exact ⟨u, by omega, e⟩
      by_cases z : s = 0
      · subst z
        rw [if_neg (fun q => q.2.1 (by rw [(hE x 0 hxn hn).mp (by omega)]))]
        have := ih (x + 1) 1 I (by omega) b1 b2 (fun v hv => by
          rw [a3 v hv, if_neg (by omega), if_neg (by omega)])
        exact this
      · have hnb : some (P' x) ≠ some (P' 0) := fun q => by have := (hE x 0 hxn hn).mpr (Option.some.inj q); omega
        rw [if_pos ⟨first, hnb, by simp⟩]
        have e1 : s - 1 + 1 = s + 1 - 1 := by omega
        rw [e1]
        refine ih (x + 1) (s + 1) _ (by omega) b1 b2 (fun v hv => ?_)
        have hvx := hE v x hv hxn
        by_cases q : P v = P x
        · rw [if_pos ⟨hv, hvx.mp q⟩, if_pos (by omega), q, hf]
        · rw [if_neg (fun h => q (hvx.mpr h.2)), a3 v hv]
          by_cases y : P v < s ∧ P v ≠ 0
          · rw [if_pos y, if_pos (by omega)]
          · rw [if_neg y, if_neg (by omega)]
    · have hlt : P x < s := by omega
      obtain ⟨u, hu, e⟩ := a2 (P x) hlt
      rw [if_neg (fun q => q.1 u hu ((hE u x (by omega) hxn).mp e))]
      refine ih (x + 1) s I (by omega) (fun y hy => ?_) (fun j hj => ?_) a3
      · by_cases q : y = x
        · subst q; exact hlt
        · exact a1 y (by omega)
      · obtain ⟨y, hy, e⟩ := a2 j hj; exact ⟨y, by omega, e⟩
theorem nmV_ok {n c : Nat} {P P' : Nat → Nat} (hF : FO n c P) (hE : EqP n P P') (hn : 0 < n) : (nmV n P' (some (P' 0)) none).1 = c - 1 ∧ ∀ v, v < n → (nmV n P' (some (P' 0)) none).2 v = if P v = 0 then none else some (P v - 1) :=
  nmL_ok hF hE hn n 0 0 (fun _ => none) (by omega) (fun u hu => by omega) (fun j hj => by omega) (fun v hv => by rw [if_neg (by omega)])
