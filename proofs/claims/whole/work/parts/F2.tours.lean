/-- the reference's labels when all arcs are joined -/
theorem jmP_id {x y : Nat} {P : Nat → Nat} (h : P x = P y) : jmP x y P = P := by
  funext v; unfold jmP
  by_cases q : P v = P y
  · rw [if_pos q, q, h]
  · rw [if_neg q]
theorem ja_eq {n a : Nat} {F T : Nat → Nat} (hft : ∀ k, k < a → F k < n ∧ T k < n) : ∀ (m k : Nat) (t : Int32) (c : Nat) (P P' : Nat → Nat), k + m = a → EqP n P P' → EqP n (ftL F T m k t c P).2.2 (jaL F T m k P') := by
  intro m
  induction m with
  | zero => intro k t c P P' _ h; exact h
  | succ m ih =>
    intro k t c P P' hk h
    have hk2 := hft k (by omega)
    unfold ftL jaL
    refine ih (k + 1) _ _ _ _ (by omega) ?_
    unfold jnP
    by_cases e : P (F k) = P (T k)
    · rw [if_pos e, jmP_id ((h _ _ hk2.1 hk2.2).mp e)]; exact h
    · rw [if_neg e]; exact h.un hk2.1 hk2.2 e
theorem wtN_s {F W : Nat → Nat} {x : Nat} : ∀ m k s, wtN F W x m k s = s + wtN F W x m k 0 := by
  intro m
  induction m with
  | zero => intro k s; unfold wtN; omega
  | succ m ih => intro k s; unfold wtN; rw [ih _ (s + _), ih _ (0 + _)]; omega
theorem wt_pos {F W : Nat → Nat} {x : Nat} : ∀ m k, (∃ j, k ≤ j ∧ j < k + m ∧ F j = x ∧ 0 < W j) → 0 < wtN F W x m k 0 := by
  intro m
  induction m with
  | zero => intro k ⟨j, h1, h2, _⟩; omega
  | succ m ih =>
    intro k ⟨j, h1, h2, h3, h4⟩
    unfold wtN
    rw [wtN_s]
    by_cases e : j = k
    · subst e; rw [if_pos h3]; omega
    · have := ih (k + 1) ⟨j, by omega, by omega, h3, h4⟩; omega
theorem wt_zero {F W : Nat → Nat} {x : Nat} : ∀ m k, 0 < wtN F W x m k 0 → ∃ j, k ≤ j ∧ j < k + m ∧ F j = x := by
  intro m
  induction m with
  | zero => intro k h; unfold wtN at h; omega
  | succ m ih =>
    intro k h
    unfold wtN at h
    rw [wtN_s] at h
    by_cases e : F k = x
    · exact ⟨k, by omega, by omega, e⟩
    · rw [if_neg e] at h
      obtain ⟨j, h1, h2, h3⟩ := ih (k + 1) (by omega)
      exact ⟨j, by omega, by omega, h3⟩
theorem prF_mul : ∀ m f p, prF m f p = p * prF m f 1 := by
  intro m
  induction m with
  | zero => intro f p; unfold prF; grind
  | succ m ih => intro f p; unfold prF; rw [ih (f + 1) (p * lN f), ih (f + 1) (1 * lN f)]; grind
theorem fcL_pr : ∀ m f p, f + m < 2 ^ 31 → fcL m f p = prF m f p := by
  intro m
  induction m with
  | zero => intro f p _; rfl
  | succ m ih => intro f p h; unfold fcL prF; rw [ih (f + 1) _ (by omega), nI_l (by omega)]
theorem strS_str {n x : Nat} {al : Nat → Bool} {M M' : Nat → Nat → Int64} (hx : x < n) (h : agr n M' (strS al M)) : agr n (strM n x M') (strS (fun v => al v && decide (¬ v = x)) M) := by
  intro p q hp hq
  rw [strM_ok hx hp hq, h p q hp hq]
  unfold strS
  by_cases c1 : p = x
  · have hc : ¬ ((fun v => al v && decide (¬ v = x)) p = true ∧ (fun v => al v && decide (¬ v = x)) q = true) := fun z => by have := z.1; simp [c1] at this
    rw [if_pos c1, if_neg hc]
    by_cases c2 : q = x
    · rw [if_pos c2, if_pos (by omega)]
    · rw [if_neg c2, if_neg (by omega)]
  · rw [if_neg c1]
    by_cases c2 : q = x
    · have hc : ¬ ((fun v => al v && decide (¬ v = x)) p = true ∧ (fun v => al v && decide (¬ v = x)) q = true) := fun z => by have := z.2; simp [c2] at this
      rw [if_pos c2, if_neg hc, if_neg (by omega)]
    · rw [if_neg c2]
      simp [c1, c2]
theorem mDet_agr {n : Nat} {M M' : Nat → Nat → Int64} (h : agr n M M') : mDet n M = mDet n M' := mDet_congr n M M' (fun p q hp hq => h p q hp hq)
theorem strS_al {n : Nat} {al al' : Nat → Bool} {M : Nat → Nat → Int64} (h : ∀ v, v < n → al v = al' v) : agr n (strS al M) (strS al' M) := by
  intro p q hp hq
  unfold strS
  rw [h p hp, h q hq]
/-- the product over the nodes -/
def prL (F W : Nat → Nat) (a : Nat) : Nat → Nat → Int64 → Int64
  | 0, _, p => p
  | m + 1, v, p => prL F W a m (v + 1) (prF (wtV F W a v - 2) 2 p)
/-- the class's loop where every node is balanced -/
theorem tr_ok {F T W : Nat → Nat} {n a : Nat} {M0 : Nat → Nat → Int64} (h9 : ∀ k, k < a → W k ≤ 9) (ha : a ≤ 30) (hr : F 0 < n) (hb : ∀ v, v < n → wtV F W a v = wtV T W a v) : ∀ (m v : Nat) (M : Nat → Nat → Int64) (o : Int64) (al : Nat → Bool), v + m = n → (∀ u, al u = decide (¬ (u < v ∧ wtV F W a u = 0))) → agr n M (strS al M0) → trL F T W n a m v M o = prL F W a m v o * dtN n (strS (fun u => decide (¬ wtV F W a u = 0) && decide (¬ u = F 0)) M0) := by
  intro m
  induction m with
  | zero =>
    intro v M o al hv hal h
    obtain rfl : v = n := by omega
    unfold trL prL
    rw [dtN_ok, dtN_ok, mDet_agr (strS_str hr h)]
    congr 1
    refine mDet_agr (strS_al (fun u hu => ?_))
    rw [hal]
    congr 1
    simp [hu]
  | succ m ih =>
    intro v M o al hv hal h
    unfold trL prL
    rw [if_pos (hb v (by omega))]
    have hw := wtN_le (F := F) (x := v) h9 a 0 0 (by omega)
    have e1 : fcN (wtV F W a v - 1) = prF (wtV F W a v - 2) 2 1 := by
      unfold fcN
      rw [show wtV F W a v - 1 - 1 = wtV F W a v - 2 by omega, fcL_pr _ _ _ (by unfold wtV; omega)]
    rw [e1, ← prF_mul]
    by_cases z : wtV F W a v = 0
    · rw [if_pos z]
      refine ih (v + 1) _ _ (fun u => al u && decide (¬ u = v)) (by omega) (fun u => ?_) (strS_str (by omega) h)
      rw [hal]
      by_cases c : u = v
      · subst c; simp [z]
      · simp [c]
        by_cases d : u < v
        · simp [d, show u < v + 1 by omega]
        · simp [d, show ¬ u < v + 1 by omega]
    · rw [if_neg z]
      refine ih (v + 1) _ _ al (by omega) (fun u => ?_) h
      rw [hal]
      by_cases c : u = v
      · subst c; simp [z]
      · congr 1
        simp only [eq_iff_iff]
        constructor
        · intro q w; exact q ⟨by omega, w.2⟩
        · intro q w; exact q ⟨by omega, w.2⟩
theorem tr_bad {F T W : Nat → Nat} {n a : Nat} : ∀ (m v : Nat) (M : Nat → Nat → Int64) (o : Int64), v + m = n → (∃ u, v ≤ u ∧ u < n ∧ wtV F W a u ≠ wtV T W a u) → trL F T W n a m v M o = 0 := by
  intro m
  induction m with
  | zero => intro v M o hv ⟨u, h1, h2, _⟩; omega
  | succ m ih =>
    intro v M o hv ⟨u, h1, h2, h3⟩
    unfold trL
    by_cases e : u = v
    · subst e; rw [if_neg h3]
    · split
      · exact ih (v + 1) _ _ (by omega) ⟨u, by omega, h2, h3⟩
      · rfl
/-- the reference's loop -/
theorem tv_ok {F T W : Nat → Nat} {n a g : Nat} {P : Nat → Nat} : ∀ (m v : Nat) (p : Int64), v + m = n → (∀ u, v ≤ u → u < n → wtV T W a u = wtV F W a u ∧ (0 < wtV F W a u → P u = P g)) → tvL F T W a P g m v p = some (prL F W a m v p) := by
  intro m
  induction m with
  | zero => intro v p _ _; rfl
  | succ m ih =>
    intro v p hv h
    have hvv := h v (by omega) (by omega)
    unfold tvL prL
    rw [if_neg (fun z => by rcases z with z | z; exact z hvv.1; exact z.2 (hvv.2 z.1))]
    exact ih (v + 1) _ (by omega) (fun u h1 h2 => h u (by omega) h2)
theorem tv_bad {F T W : Nat → Nat} {n a g : Nat} {P : Nat → Nat} : ∀ (m v : Nat) (p : Int64), v + m = n → (∃ u, v ≤ u ∧ u < n ∧ (¬ wtV T W a u = wtV F W a u ∨ (0 < wtV F W a u ∧ ¬ P u = P g))) → tvL F T W a P g m v p = none := by
  intro m
  induction m with
  | zero => intro v p hv ⟨u, h1, h2, _⟩; omega
  | succ m ih =>
    intro v p hv ⟨u, h1, h2, h3⟩
    unfold tvL
    by_cases e : u = v
    · subst e; rw [if_pos h3]
    · split
      · rfl
      · exact ih (v + 1) _ (by omega) ⟨u, by omega, h2, h3⟩
theorem ti_ok {n g : Nat} {P : Nat → Nat} : ∀ (m x : Nat) (I : Nat → Option Nat), x + m = n → (∀ v, v < x → I v = if (P v = P g ∧ ¬ v = g) then some (rkN (fun v => decide (P v = P g ∧ ¬ v = g)) v) else none) → (tiL P g m x (rkN (fun v => decide (P v = P g ∧ ¬ v = g)) x) I).1 = rkN (fun v => decide (P v = P g ∧ ¬ v = g)) n ∧ ∀ v, v < n → (tiL P g m x (rkN (fun v => decide (P v = P g ∧ ¬ v = g)) x) I).2 v = if decide (P v = P g ∧ ¬ v = g) = true then some (rkN (fun v => decide (P v = P g ∧ ¬ v = g)) v) else none := by
  intro m
  induction m with
  | zero =>
    intro x I hx h
    obtain rfl : x = n := by omega
    refine ⟨rfl, fun v hv => ?_⟩
    show I v = _
    rw [h v hv]
    simp only [decide_eq_true_eq]
  | succ m ih =>
    intro x I hx h
    unfold tiL
    by_cases c : P x = P g ∧ ¬ x = g
    · rw [if_pos c]
      have e : rkN (fun v => decide (P v = P g ∧ ¬ v = g)) x + 1 = rkN (fun v => decide (P v = P g ∧ ¬ v = g)) (x + 1) := by rw [rkN_s, if_pos (decide_eq_true c)]
      rw [e]
      refine ih (x + 1) _ (by omega) (fun v hv => ?_)
      by_cases q : v = x
      · subst q; rw [if_pos rfl, if_pos c]
      · rw [if_neg q]; exact h v (by omega)
    · rw [if_neg c]
      have e : rkN (fun v => decide (P v = P g ∧ ¬ v = g)) x = rkN (fun v => decide (P v = P g ∧ ¬ v = g)) (x + 1) := by rw [rkN_s, if_neg (by simpa using c)]; rfl
      rw [e]
      refine ih (x + 1) _ (by omega) (fun v hv => ?_)
      by_cases q : v = x
      · subst q; rw [if_pos rfl, if_neg c]
      · rw [if_neg q]; exact h v (by omega)
/-- columns that add up to nought -/
theorem mDet_colsum {R : Type} [Lean.Grind.CommRing R] {n j0 : Nat} (hj : j0 < n) (f : Nat → R) (hf : f j0 = 1) (M : Nat → Nat → R) (h : ∀ i, i < n → mSum n (fun j => f j * M i j) = 0) : mDet n M = 0 := by
  -- rows of the exchanged matrix, added one by one to row j0
  have key : ∀ k, k ≤ n → mDet n (mPut (fun p q => M q p) j0 (fun q => M q j0 + mSum k (fun j => if j = j0 then 0 else f j * M q j))) = mDet n (fun p q => M q p) := by
    intro k
    induction k with
    | zero =>
      intro _
      refine mDet_congr _ _ _ (fun p q _ _ => ?_)
      unfold mPut
      by_cases c : p = j0
      · rw [if_pos c, c]; unfold mSum; grind
      · rw [if_neg c]
    | succ k ih =>
      intro hk
      rw [← ih (by omega)]
      by_cases c : k = j0
      · refine mDet_congr _ _ _ (fun p q _ _ => ?_)
        unfold mPut
        by_cases d : p = j0
        · rw [if_pos d, if_pos d]
          show M q j0 + (mSum k (fun j => if j = j0 then 0 else f j * M q j) + (if k = j0 then 0 else f k * M q k)) = M q j0 + mSum k (fun j => if j = j0 then 0 else f j * M q j)
          rw [if_pos c]; grind
        · rw [if_neg d, if_neg d]
      · rw [← mDet_addrow (n := n) (r := j0) (s := k) hj (by omega) (fun z => c z.symm) (f k) (mPut (fun p q => M q p) j0 (fun q => M q j0 + mSum k (fun j => if j = j0 then 0 else f j * M q j)))]
        refine mDet_congr _ _ _ (fun p q _ _ => ?_)
        unfold mPut
        by_cases d : p = j0
        · rw [if_pos d, if_pos d]
          show M q j0 + (mSum k (fun j => if j = j0 then 0 else f j * M q j) + (if k = j0 then 0 else f k * M q k)) = (if j0 = j0 then M q j0 + mSum k (fun j => if j = j0 then 0 else f j * M q j) else M q j0) + f k * (if k = j0 then M q j0 + mSum k (fun j => if j = j0 then 0 else f j * M q j) else M q k)
          rw [if_neg c, if_neg c, if_pos rfl]; grind
        · rw [if_neg d, if_neg d, if_neg d]
  rw [← mDet_tr n M, ← key n (Nat.le_refl _)]
  refine mDet_zrow hj _ (fun q hq => ?_)
  rw [mPut_s]
  have h1 := h q hq
  have h2 : mSum n (fun j => f j * M q j) = M q j0 + mSum n (fun j => if j = j0 then 0 else f j * M q j) := by
    have e : mSum n (fun j => f j * M q j) = mSum n (fun j => (if j = j0 then M q j0 else 0) + (if j = j0 then 0 else f j * M q j)) := by
      refine mSum_congr _ (fun j _ => ?_)
      by_cases c : j = j0
      · rw [if_pos c, if_pos c, c, hf]; grind
      · rw [if_neg c, if_neg c]; grind
    rw [e, mSum_add, mSum_one n j0 hj (fun i _ hne => if_neg hne), if_pos rfl]
  rw [← h2]; exact h1
theorem rkN_nt2 {S : Nat → Bool} {y : Nat} (hs : S y = false) : ∀ n, y < n → rkN S n < n := by
  intro n
  induction n with
  | zero => intro h; omega
  | succ n ih =>
    intro h
    rw [rkN_s]
    by_cases e : y = n
    · subst e
      have := rkN_le S y
      rw [hs]; simp; omega
    · have := ih (by omega)
      split <;> omega
/-- a closed part other than the root's: no tours -/
theorem lapD_sum {F T : Nat → Nat} {W : Nat → Int} {f : Nat → Int} {n : Nat} (i : Nat) : ∀ (m k : Nat), (∀ j, k ≤ j → j < k + m → F j < n ∧ T j < n ∧ f (F j) = f (T j)) → mSum n (fun j => f j * lapD F F T W m k i j) = 0 := by
  intro m
  induction m with
  | zero => intro k _; exact mSum_zero n (fun j _ => by show f j * 0 = 0; grind)
  | succ m ih =>
    intro k h
    obtain ⟨h1, h2, h3⟩ := h k (by omega) (by omega)
    have e : mSum n (fun j => f j * lapD F F T W (m + 1) k i j) = mSum n (fun j => f j * lapD F F T W m (k + 1) i j + ((W k * (if F k = i then 1 else 0)) * (if j = F k then f j else 0) + (-(W k * (if F k = i then 1 else 0))) * (if j = T k then f j else 0))) := by
      refine mSum_congr _ (fun j _ => ?_)
      rw [lapD_s]
      have a : ∀ x : Nat, (if x = j then (1 : Int) else 0) = if j = x then 1 else 0 := by
        intro x
        by_cases z : x = j
        · rw [if_pos z, if_pos z.symm]
        · rw [if_neg z, if_neg (fun q => z q.symm)]
      rw [a (F k), a (T k)]
      split <;> split <;> grind
    rw [e, mSum_add, ih (k + 1) (fun j a b => h j (by omega) (by omega)), mSum_add, mSum_mul, mSum_mul, mSum_one n (F k) h1 (fun j _ hne => if_neg hne), mSum_one n (T k) h2 (fun j _ hne => if_neg hne), if_pos rfl, if_pos rfl, h3]
    grind
theorem tours_0 {n a : Nat} {F T : Nat → Nat} {w : Nat → Int32} {al : Nat → Bool} {Q : Nat → Nat} {v : Nat} (h : netOk n a F T w) (hq : ∀ k, k < a → Q (F k) = Q (T k)) (hv : v < n) (hal : ∀ u, u < n → Q u = Q v → al u = true) : dtN n (strS al (foM F T w Z0 a)) = 0 := by
  rw [dtN_ok]
  refine mDet_colsum hv (fun j => if Q j = Q v then 1 else 0) (if_pos rfl) _ (fun i hi => ?_)
  by_cases c : al i = true
  · have e : mSum n (fun j => (if Q j = Q v then (1 : Int64) else 0) * strS al (foM F T w Z0 a) i j) = mSum n (fun j => Int64.ofInt ((if Q j = Q v then 1 else 0) * lapD F F T (wZ w) a 0 i j)) := by
      refine mSum_congr _ (fun j hj => ?_)
      by_cases d : Q j = Q v
      · rw [if_pos d, if_pos d]
        unfold strS
        rw [if_pos ⟨c, hal j hj d⟩, foM_ok, Int.one_mul]
        show 1 * (0 + _) = _
        grind
      · rw [if_neg d, if_neg d, Int.zero_mul]
        have z0 : Int64.ofInt 0 = 0 := rfl
        rw [z0]; grind
    rw [e, mSum_of, lapD_sum i a 0 (fun j _ hj => ⟨(h.2.2.1 j (by omega)).1, (h.2.2.1 j (by omega)).2, by rw [hq j (by omega)]⟩)]
    rfl
  · refine mSum_zero n (fun j hj => ?_)
    unfold strS
    have hc : ¬ (al i = true ∧ al j = true) := fun z => c z.1
    rw [if_neg hc]
    by_cases d : i = j
    · subst d
      rw [if_neg (fun z => c (hal i hi z))]; grind
    · rw [if_neg d]; grind
theorem toV_ok {n a : Nat} {F T W : Nat → Nat} {w : Nat → Int32} (h : netOk n a F T w) (hw : ∀ k, k < a → 1 ≤ W k ∧ W k ≤ 9) : toV n a F T W w = trV F T W w n a := by
  unfold toV trV
  by_cases a0 : a = 0
  · rw [if_pos a0, if_pos a0]
  · rw [if_neg a0, if_neg a0]
    have hr := (h.2.2.1 0 (by omega)).1
    have hn := h.1
    obtain ⟨q1, q2, q3⟩ := ftV_ok h.2.2.1
    have hE : EqP n (ftV n a F T).2.2 (jaL F T a 0 (fun v => v)) := ja_eq h.2.2.1 a 0 0 n _ _ (by omega) (EqP.rf n _)
    generalize hQ : (ftV n a F T).2.2 = Q at q2 q3 hE
    unfold toR
    generalize jaL F T a 0 (fun v => v) = P at hE ⊢
    -- a node with no arc stands alone
    have alone : ∀ v, v < n → (∀ k, k < a → F k ≠ v ∧ T k ≠ v) → ∀ u, u < n → Q u = Q v → u = v := by
      intro v hv hno u hu e
      have := q3 (fun x => if x = v then 1 else 0) (fun k hk => by rw [if_neg (hno k hk).1, if_neg (hno k hk).2]) u v hu hv e
      rw [if_pos rfl] at this
      by_cases c : u = v
      · exact c
      · rw [if_neg c] at this; omega
    by_cases hb : ∀ v, v < n → wtV F W a v = wtV T W a v
    · -- balanced
      have hw0 : ∀ v, v < n → wtV F W a v = 0 → ∀ k, k < a → F k ≠ v ∧ T k ≠ v := by
        intro v hv z k hk
        refine ⟨fun e => ?_, fun e => ?_⟩
        · have := wt_pos (F := F) (W := W) (x := v) a 0 ⟨k, by omega, by omega, e, by have := hw k hk; omega⟩
          unfold wtV at z; omega
        · have := wt_pos (F := T) (W := W) (x := v) a 0 ⟨k, by omega, by omega, e, by have := hw k hk; omega⟩
          have z2 := hb v hv
          unfold wtV at z z2; omega
      have tr := tr_ok (M0 := foM F T w Z0 a) (fun k hk => (hw k hk).2) h.2.1 hr hb n 0 (foM F T w Z0 a) 1 (fun _ => true) (by omega) (fun u => by simp) (fun p q _ _ => by unfold strS; simp)
      rw [tr]
      by_cases hp : ∀ u, u < n → 0 < wtV F W a u → P u = P (F 0)
      · rw [tv_ok n 0 1 (by omega) (fun u _ hu => ⟨(hb u hu).symm, hp u hu⟩)]
        have ti := ti_ok (n := n) (g := F 0) (P := P) n 0 (fun _ => none) (by omega) (fun v hv => by omega)
        have r0 : rkN (fun v => decide (P v = P (F 0) ∧ ¬ v = F 0)) 0 = 0 := rfl
        rw [r0] at ti
        have hle : rkN (fun v => decide (P v = P (F 0) ∧ ¬ v = F 0)) n ≤ 9 := by
          have := rkN_nt2 (S := fun v => decide (P v = P (F 0) ∧ ¬ v = F 0)) (y := F 0) (by simp) n hr
          omega
        dsimp only
        rw [ti.1, ro_dt h hle ti.2]
        have ea : dtN n (strS (fun v => decide (P v = P (F 0) ∧ ¬ v = F 0)) (foM F T w Z0 a)) = dtN n (strS (fun u => decide (¬ wtV F W a u = 0) && decide (¬ u = F 0)) (foM F T w Z0 a)) := by
          rw [dtN_ok, dtN_ok]
          refine mDet_agr (strS_al (fun v hv => ?_))
          by_cases c : v = F 0
          · simp [c]
          · by_cases z : wtV F W a v = 0
            · have hne : ¬ P v = P (F 0) := fun e => by
                have e2 := (hE v (F 0) hv hr).mpr e
                exact c (alone v hv (hw0 v hv z) (F 0) hr e2.symm).symm
              simp [z, hne]
            · have := hp v hv (by omega)
              simp [z, this, c]
        rw [ea]; grind
      · -- another part
        obtain ⟨v, hv, hpos, hne⟩ : ∃ v, v < n ∧ 0 < wtV F W a v ∧ ¬ P v = P (F 0) := by
          false_or_by_contra
          rename_i hc
          exact hp (fun u hu hpos => by
            by_cases q : P u = P (F 0)
            · exact q
            · exact absurd ⟨u, hu, hpos, q⟩ hc)
        rw [tv_bad n 0 1 (by omega) ⟨v, by omega, hv, Or.inr ⟨hpos, hne⟩⟩]
        dsimp only
        rw [tours_0 (Q := Q) h q2 hv (fun u hu e => ?_)]
        · grind
        · have hur : ¬ u = F 0 := fun z => hne (by rw [← z]; exact ((hE u v hu hv).mp e).symm)
          have huz : ¬ wtV F W a u = 0 := fun z => by
            have := alone u hu (hw0 u hu z) v hv e.symm
            rw [this] at hpos; omega
          simp [hur, huz]
    · -- not balanced
      obtain ⟨v, hv, hne⟩ : ∃ v, v < n ∧ wtV F W a v ≠ wtV T W a v := by
        false_or_by_contra
        rename_i hc
        exact hb (fun u hu => by
          by_cases q : wtV F W a u = wtV T W a u
          · exact q
          · exact absurd ⟨u, hu, q⟩ hc)
      rw [tr_bad n 0 _ _ (by omega) ⟨v, by omega, hv, hne⟩, tv_bad n 0 1 (by omega) ⟨v, by omega, hv, Or.inl (fun z => hne z.symm)⟩]
