def ttL (F T : Nat → Nat) : Nat → Nat → (Nat → Nat) → (Nat → Bool) → Nat → Nat × (Nat → Bool)
  | 0, _, _, X, r => (r, X)
  | m + 1, k, P, X, r => ttL F T m (k + 1) (jmP (F k) (T k) P) (fun j => if j = k then decide (¬ P (F k) = P (T k)) else X j) (if P (F k) = P (T k) then r + 1 else r)
def ttV (a : Nat) (F T : Nat → Nat) : Nat × (Nat → Bool) := ttL F T a 0 (fun v => v) (fun _ => false) 0
theorem ttL_le {F T : Nat → Nat} : ∀ m k P X r, (ttL F T m k P X r).1 ≤ r + m := by
  intro m
  induction m with
  | zero => intro k P X r; exact Nat.le_refl _
  | succ m ih =>
    intro k P X r
    unfold ttL
    have := ih (k + 1) (jmP (F k) (T k) P) (fun j => if j = k then decide (¬ P (F k) = P (T k)) else X j) (if P (F k) = P (T k) then r + 1 else r)
    have hr : (if P (F k) = P (T k) then r + 1 else r) ≤ r + 1 := by split <;> omega
    omega
theorem ttV_le {a : Nat} {F T : Nat → Nat} : (ttV a F T).1 ≤ a := by
  have := ttL_le (F := F) (T := T) a 0 (fun v => v) (fun _ => false) 0
  unfold ttV
  omega
/-- the place of the ring's arc -/
def rgE (X : Nat → Bool) : Nat → Nat → Nat → Option Nat
  | 0, _, _ => none
  | m + 1, e, l => if X e = true ∨ 0 < l then rgE X m (e + 1) (if X e = true then l else l - 1) else some e
theorem rgE_lt {X : Nat → Bool} {a e0 : Nat} : ∀ m e l, e + m = a → rgE X m e l = some e0 → e0 < a := by
  intro m
  induction m with
  | zero => intro e l _ h; cases h
  | succ m ih =>
    intro e l he h
    unfold rgE at h
    split at h
    · exact ih _ _ (by omega) h
    · cases h; omega
/-- the search: seen, ways back, queue, many -/
def bfI (F T : Nat → Nat) (X : Nat → Bool) (q : Nat) : Nat → Nat → (Nat → Bool) → (Nat → Option Nat) → (Nat → Nat) → Nat → (Nat → Bool) × (Nat → Option Nat) × (Nat → Nat) × Nat
  | 0, _, S, B, Q, c => (S, B, Q, c)
  | m + 1, k, S, B, Q, c => if X k = true ∧ (F k = q ∨ T k = q) ∧ S (if F k = q then T k else F k) = false then bfI F T X q m (k + 1) (bset S (if F k = q then T k else F k)) (updO B (if F k = q then T k else F k) k) (updN Q c (if F k = q then T k else F k)) (c + 1) else bfI F T X q m (k + 1) S B Q c
def bfO (F T : Nat → Nat) (X : Nat → Bool) (a : Nat) : Nat → Nat → (Nat → Bool) → (Nat → Option Nat) → (Nat → Nat) → Nat → Nat → Option Nat
  | 0, _, _, B, _, _ => B
  | m + 1, i, S, B, Q, c => if i < c then bfO F T X a m (i + 1) (bfI F T X (Q i) a 0 S B Q c).1 (bfI F T X (Q i) a 0 S B Q c).2.1 (bfI F T X (Q i) a 0 S B Q c).2.2.1 (bfI F T X (Q i) a 0 S B Q c).2.2.2 else B
/-- the way back -/
def pbL (F T : Nat → Nat) (B : Nat → Option Nat) (g : Nat) : Nat → Nat → Nat → (Nat → Int32) → Option (Nat × (Nat → Int32))
  | 0, _, _, _ => none
  | m + 1, v, s, R => if v = g then some (s, R) else match B v with
    | none => none
    | some k => pbL F T B g m (if F k = v then T k else F k) (s + 1) (upd R s (nI k))
theorem rkN_nt {S : Nat → Bool} {y : Nat} (hs : S y = false) : ∀ n, y < n → rkN S n < n ∧ rkN (bset S y) n = rkN S n + 1 := by
  have low : ∀ n, n ≤ y → rkN (bset S y) n = rkN S n := by
    intro n
    induction n with
    | zero => intro _; rfl
    | succ n ih =>
      intro h
      have e : bset S y n = S n := by unfold bset; rw [if_neg (by omega)]
      rw [rkN_s, rkN_s, ih (by omega), e]
  intro n
  induction n with
  | zero => intro h; omega
  | succ n ih =>
    intro h
    rw [rkN_s, rkN_s]
    by_cases e : y = n
    · subst e
      have e1 : bset S y y = true := by unfold bset; rw [if_pos rfl]
      have e2 := rkN_le S y
      rw [low y (Nat.le_refl _), e1, hs]
      simp
      omega
    · have e1 : bset S y n = S n := by unfold bset; rw [if_neg (fun z => e z.symm)]
      obtain ⟨a1, a2⟩ := ih (by omega)
      rw [e1, a2]
      split <;> omega
theorem rkN_one {S : Nat → Bool} {y : Nat} (h : ∀ v, S v = decide (v = y)) : ∀ n, y < n → rkN S n = 1 := by
  have low : ∀ n, n ≤ y → rkN S n = 0 := by
    intro n
    induction n with
    | zero => intro _; rfl
    | succ n ih => intro hn; rw [rkN_s, ih (by omega), h n]; simp; omega
  intro n
  induction n with
  | zero => intro hn; omega
  | succ n ih =>
    intro hn
    rw [rkN_s, h n]
    by_cases e : n = y
    · subst e; rw [low n (Nat.le_refl _)]; simp
    · rw [ih (by omega)]; simp [e]
/-- ways back: what is known of the row -/
def WB (a : Nat) (g : Nat → Int32) (B : Nat → Option Nat) : Prop := ∀ v k, B v = some k → g v = nI k ∧ k < a
theorem WB.set {a v k : Nat} {g : Nat → Int32} {B : Nat → Option Nat} (h : WB a g B) (hk : k < a) : WB a (upd g v (nI k)) (updO B v k) := by
  intro u j hj
  unfold updO at hj
  by_cases e : u = v
  · subst e; rw [if_pos rfl] at hj; cases hj; exact ⟨by simp [upd], hk⟩
  · rw [if_neg e] at hj
    have := h u j hj
    exact ⟨by simp [upd, e, this.1], this.2⟩
theorem BX.k {k : Nat} {g : Nat → Int32} {X : Nat → Bool} {q : Bool} (h : BX k g X) : BX (k + 1) (upd g k (zB q)) (fun j => if j = k then q else X j) := by
  intro j hj
  by_cases e : j = k
  · subst e; simp [upd]
  · have := h j (by omega)
    simp [upd, e, this]
set_option maxHeartbeats 4000000 in
set_option maxRecDepth 100000 in
theorem l_M_take {l : Launch} {D : va_G} {tys : List (ClassId × FieldType)} {b N : Nat} {σ0 : Nat → Option va_E} {cI cJ cA : ClassId} (ht0 : tys[0]? = some (cI, .int)) (ht1 : tys[1]? = some (cJ, .long)) (ht3 : tys[3]? = some (cA, .array .long)) {cZ : ClassId} (ht2 : tys[2]? = some (cZ, .boolean)) {th fa ls rm : Value} {n a : Nat} {gf gt gw : Nat → Int32} {F T : Nat → Nat} {val : Nat × (Nat → Bool)} : ∀ (m k : Nat) (σ : Nat → Option va_E) (g2 g6 : Nat → Int32) (P : Nat → Nat) (X : Nat → Bool) (r : Nat), k + m = a → r ≤ k → MN b cI σ th fa ls rm n a gf gt gw F T → σ 62 = some (.inl (cI, 10, .inl g2)) → PH n n g2 P → σ 66 = some (.inl (cZ, 30, .inl g6)) → BX k g6 X → F2 62 62 66 66 σ0 σ → ttL F T m k P X r = val → Z l D kCl tys (kh_M_takeTrees :: zT) kNw ky_M_takeTrees.cls ky_M_takeTrees.name kb_M_takeTrees 3 (some FieldType.int) { frames := 1, cells := 0, slots := 0, locals := 40 } b (zFi D kCl b 0 0 (fun oc N' σ' => oc = .returned (some (.int (nI (val).1))) ∧ N' = N ∧ (∃ g, σ' 62 = some (.inl (cI, 10, .inl g))) ∧ (∃ g, σ' 66 = some (.inl (cZ, 30, .inl g)) ∧ BX a g (val).2) ∧ F2 62 62 66 66 σ0 σ')) 0 0 N (σ) 8 [(2, .int (nI k)), (1, .int (nI r)), (0, .ref (b + 54))] [] := by
  intro m
  induction m with
  | zero =>
    intro k σ g2 g6 P X r hk hr hM h62 hp h66 hX hF hv
    obtain rfl : k = a := by omega
    have ha := hM.ha
    have hv : (r, X) = val := hv
    subst hv
    refine z_iload_n kd_M_takeTrees_8 0 rfl ?_
    refine z_aload_n kd_M_takeTrees_9 2 rfl ?_
    refine z_get kd_M_takeTrees_10 (kf_M_80 _) hM.h1 rfl ?_
    refine z_icmp_ge (tgt := 61) kd_M_takeTrees_13 (by decide) (fun c13 => ?_) (fun c13 => ?_)
    · refine z_iload_n kd_M_takeTrees_61 1 rfl ?_
      exact z_iret kd_M_takeTrees_62 rfl (Nat.le_of_ble_eq_true rfl) (Nat.le_of_ble_eq_true rfl) ⟨rfl, rfl, ⟨_, h62⟩, ⟨_, h66, hX⟩, hF⟩
    · exact absurd (nI_le (Nat.le_refl k) (by omega)) c13
  | succ m ih =>
    intro k σ g2 g6 P X r hk hr hM h62 hp h66 hX hF hv
    have hlt : k < a := by omega
    have hn := hM.hn
    have ha := hM.ha
    obtain ⟨kf, kfn, kt, ktn⟩ := hM.hft k hlt
    have lF := (hp (F k) kfn).2
    have lT := (hp (T k) ktn).2
    unfold ttL at hv
    refine z_iload_n kd_M_takeTrees_8 0 rfl ?_
    refine z_aload_n kd_M_takeTrees_9 2 rfl ?_
    refine z_get kd_M_takeTrees_10 (kf_M_80 _) hM.h1 rfl ?_
    refine z_icmp_ge (tgt := 61) kd_M_takeTrees_13 (by decide) (fun c13 => ?_) (fun c13 => ?_)
    · exact absurd c13 (nI_ge hlt (by omega))
    · refine z_aload_n kd_M_takeTrees_16 2 rfl ?_
      refine z_get kd_M_takeTrees_17 (kf_M_45 _) hM.h1 rfl ?_
      refine z_iload_n kd_M_takeTrees_20 0 rfl ?_
      refine z_aload_n kd_M_takeTrees_21 2 rfl ?_
      refine z_aload_n kd_M_takeTrees_22 2 rfl ?_
      refine z_get kd_M_takeTrees_23 (kf_M_7 _) hM.h1 rfl ?_
      refine z_iload_n kd_M_takeTrees_26 0 rfl ?_
      refine z_ialdN (t0 := 0) kd_M_takeTrees_27 (by assumption) hM.h2 (by omega) (by decide) ?_
      refine z_topi kf ?_
      refine z_aload_n kd_M_takeTrees_28 2 rfl ?_
      refine z_get kd_M_takeTrees_29 (kf_M_13 _) hM.h1 rfl ?_
      refine z_iload_n kd_M_takeTrees_32 0 rfl ?_
      refine z_ialdN (t0 := 0) kd_M_takeTrees_33 (by assumption) hM.h3 (by omega) (by decide) ?_
      refine z_topi kt ?_
      refine z_callV (a := 54) (As := [_, _]) kd_M_takeTrees_34 (kg_M_144 _) hM.h1 kc_M (c_M_join ht0 ht1 ht3 hM kfn ktn hp h62) rfl rfl (Nat.le_of_ble_eq_true rfl) ⟨Nat.le_of_ble_eq_true rfl, Nat.le_of_ble_eq_true rfl⟩ ⟨Nat.le_of_ble_eq_true rfl, Nat.le_of_ble_eq_true rfl⟩ ?_
      rintro _ _ σ_1 ⟨hv, rfl, ⟨g2_1, hp_1, x62_1⟩, q_1⟩
      cases hv
      refine z_eq (st' := [_, _, _]) rfl rfl rfl rfl ?_
      have x66_1 := (q_1 66 (by omega)).trans h66
      have hM_1 := hM.fr q_1 (by omega)
      refine z_zastN (t0 := 2) kd_M_takeTrees_37 (by assumption) x66_1 (by omega) (by decide) (zB_n _) ?_
      refine z_upd (fun σ_2 x66_2 q_2 => ?_)
      have x62_2 := (q_2 62 (by omega)).trans x62_1
      have hM_2 := hM_1.fr q_2 (by omega)
      refine z_iload_n kd_M_takeTrees_38 1 rfl ?_
      refine z_aload_n kd_M_takeTrees_39 2 rfl ?_
      refine z_get kd_M_takeTrees_40 (kf_M_45 _) hM_2.h1 rfl ?_
      refine z_iload_n kd_M_takeTrees_43 0 rfl ?_
      refine z_zaldN (t0 := 2) kd_M_takeTrees_44 (by assumption) x66_2 (by omega) (by decide) ?_
      refine z_topi (show upd g6 k (zB (decide (¬ P (F k) = P (T k)))) k = zB (decide (¬ P (F k) = P (T k))) by simp [upd]) ?_
      refine z_if_eq (tgt := 52) kd_M_takeTrees_45 (by decide) (fun c45 => ?_) (fun c45 => ?_)
      · rw [if_pos (Classical.not_not.mp (zBz c45))] at hv
        refine z_iconst (v := 1) kd_M_takeTrees_52 (by decide) ?_
        refine z_iadd kd_M_takeTrees_53 ?_
        refine z_topi (nI_add r 1) ?_
        refine z_istore_n (lv' := [(1, .int _), (2, .int _), (0, .ref (b + 54))]) kd_M_takeTrees_54 (by decide) rfl ?_
        refine z_iinc (v := (nI (k + 1))) (lv' := [(2, .int _), (1, .int _), (0, .ref (b + 54))]) kd_M_takeTrees_55 1 rfl (nI_1 _) (by decide) rfl ?_
        refine z_goto (tgt := 8) kd_M_takeTrees_58 (by decide) ?_
        refine z_pick (lv' := [(2, .int (nI (k + 1))), (1, .int (nI (r + 1))), (0, .ref (b + 54))]) [0, 1, 2] rfl ?_
        exact ih (k + 1) _ _ _ _ _ _ (by omega) (by omega) hM_2 x62_2 hp_1 x66_2 hX.k ((hF.tr q_1 (by omega)).tr q_2 (by omega)) hv
      · rw [if_neg (zBn c45)] at hv
        refine z_iconst (v := 0) kd_M_takeTrees_48 (by decide) ?_
        refine z_goto (tgt := 53) kd_M_takeTrees_49 (by decide) ?_
        refine z_iadd kd_M_takeTrees_53 ?_
        refine z_topi (nI_add r 0) ?_
        refine z_istore_n (lv' := [(1, .int _), (2, .int _), (0, .ref (b + 54))]) kd_M_takeTrees_54 (by decide) rfl ?_
        refine z_iinc (v := (nI (k + 1))) (lv' := [(2, .int _), (1, .int _), (0, .ref (b + 54))]) kd_M_takeTrees_55 1 rfl (nI_1 _) (by decide) rfl ?_
        refine z_goto (tgt := 8) kd_M_takeTrees_58 (by decide) ?_
        refine z_pick (lv' := [(2, .int (nI (k + 1))), (1, .int (nI r)), (0, .ref (b + 54))]) [0, 1, 2] rfl ?_
        exact ih (k + 1) _ _ _ _ _ _ (by omega) (by omega) hM_2 x62_2 hp_1 x66_2 hX.k ((hF.tr q_1 (by omega)).tr q_2 (by omega)) hv
set_option maxHeartbeats 4000000 in
set_option maxRecDepth 100000 in
theorem c_M_takeTrees {l : Launch} {D : va_G} {tys : List (ClassId × FieldType)} {b N : Nat} {σ : Nat → Option va_E} {cI cJ cA : ClassId} (ht0 : tys[0]? = some (cI, .int)) (ht1 : tys[1]? = some (cJ, .long)) (ht3 : tys[3]? = some (cA, .array .long)) {cZ : ClassId} (ht2 : tys[2]? = some (cZ, .boolean)) {th fa ls rm : Value} {n a : Nat} {gf gt gw : Nat → Int32} {F T : Nat → Nat} (hM : MN b cI σ th fa ls rm n a gf gt gw F T) {g2 g6 : Nat → Int32} (h62 : σ 62 = some (.inl (cI, 10, .inl g2))) (h66 : σ 66 = some (.inl (cZ, 30, .inl g6))) : zM l D kCl tys kNw b ky_M_takeTrees (kh_M_takeTrees :: zT) 1 40 0 0 [.ref (b + 54)] N σ ((fun oc N' σ' => oc = .returned (some (.int (nI (ttV a F T).1))) ∧ N' = N ∧ (∃ g, σ' 62 = some (.inl (cI, 10, .inl g))) ∧ (∃ g, σ' 66 = some (.inl (cZ, 30, .inl g)) ∧ BX a g (ttV a F T).2) ∧ F2 62 62 66 66 σ σ')) := by
  refine zM.of (by decide +kernel) rfl (Nat.le_of_ble_eq_true rfl) ?_
  refine z_pick (lv' := [(0, .ref (b + 54))]) [0] rfl ?_
  refine z_iconst (v := 0) kd_M_takeTrees_0 (by decide) ?_
  refine z_istore_n (lv' := [(1, .int _), (0, .ref (b + 54))]) kd_M_takeTrees_1 (by decide) rfl ?_
  refine z_aload_n kd_M_takeTrees_2 1 rfl ?_
  refine z_callV (a := 54) (As := []) kd_M_takeTrees_3 (kg_M_121 _) hM.h1 kc_M (c_M_apartAll ht0 ht1 ht3 hM h62) rfl rfl (Nat.le_of_ble_eq_true rfl) ⟨Nat.le_of_ble_eq_true rfl, Nat.le_of_ble_eq_true rfl⟩ ⟨Nat.le_of_ble_eq_true rfl, Nat.le_of_ble_eq_true rfl⟩ ?_
  rintro _ _ σ_1 ⟨hv, rfl, ⟨g2_1, hp_1, x62_1⟩, q_1⟩
  cases hv
  refine z_eq (st' := []) rfl rfl rfl rfl ?_
  have x66_1 := (q_1 66 (by omega)).trans h66
  have hM_1 := hM.fr q_1 (by omega)
  refine z_iconst (v := 0) kd_M_takeTrees_6 (by decide) ?_
  refine z_istore_n (lv' := [(2, .int _), (1, .int _), (0, .ref (b + 54))]) kd_M_takeTrees_7 (by decide) rfl ?_
  refine z_pick (lv' := [(2, .int (nI 0)), (1, .int (nI 0)), (0, .ref (b + 54))]) [0, 1, 2] rfl ?_
  exact l_M_take ht0 ht1 ht3 ht2 a 0 _ _ _ _ (fun _ => false) _ (by omega) (by omega) hM_1 x62_1 hp_1 x66_1 (fun j hj => absurd hj (Nat.not_lt_zero j)) (F2.rf.tr q_1 (by omega)) rfl
