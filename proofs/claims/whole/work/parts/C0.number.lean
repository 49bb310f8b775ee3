theorem nI_mul (a b : Nat) : nI a * nI b = nI (a * b) := (Int32.ofNat_mul a b).symm
/-- a row of 100 as a matrix -/
def RM (g : Nat → Int64) (M : Nat → Nat → Int64) : Prop := ∀ i j, i < 10 → j < 10 → g (10 * i + j) = M i j
theorem RM.get {g : Nat → Int64} {M : Nat → Nat → Int64} (h : RM g M) {i j : Nat} (hi : i < 10) (hj : j < 10) : g ((10 * i) + j) = M i j := h i j hi hj
theorem RM.gt11 {g : Nat → Int64} {M : Nat → Nat → Int64} (h : RM g M) {t : Nat} (ht : t < 10) : g (11 * t) = M t t := by
  rw [show 11 * t = 10 * t + t by omega]; exact h t t ht ht
theorem RM.set {g : Nat → Int64} {M : Nat → Nat → Int64} (h : RM g M) {i j : Nat} (hi : i < 10) (hj : j < 10) : ∀ v, RM (vp_updL g ((10 * i) + j) v) (mset M i j v) := by
  intro v p q hp hq
  unfold vp_updL mset
  by_cases c : p = i ∧ q = j
  · rw [if_pos c, if_pos (by omega)]
  · rw [if_neg c, if_neg (by omega)]; exact h p q hp hq
theorem RM.st11 {g : Nat → Int64} {M : Nat → Nat → Int64} (h : RM g M) {t : Nat} (ht : t < 10) : ∀ v, RM (vp_updL g (11 * t) v) (mset M t t v) := by
  intro v
  rw [show 11 * t = 10 * t + t by omega]; exact h.set ht ht v
theorem RM.setX {g : Nat → Int64} {M : Nat → Nat → Int64} {σ : Nat → Option va_E} {k : Nat} {cJ : ClassId} {v : Int64} {i j : Nat} (h : RM g M) (hi : i < 10) (hj : j < 10) (_ : σ k = some (.inl (cJ, 100, .inr (.inl (vp_updL g ((10 * i) + j) v))))) : RM (vp_updL g ((10 * i) + j) v) (mset M i j v) := h.set hi hj v
theorem RM.stX {g : Nat → Int64} {M : Nat → Nat → Int64} {σ : Nat → Option va_E} {k : Nat} {cJ : ClassId} {v : Int64} {t : Nat} (h : RM g M) (ht : t < 10) (_ : σ k = some (.inl (cJ, 100, .inr (.inl (vp_updL g (11 * t) v))))) : RM (vp_updL g (11 * t) v) (mset M t t v) := h.st11 ht v
theorem oI_eq {p : Nat} {o : Option Nat} (hp : p < 10) (ho : ∀ q, o = some q → q < 10) : (nI p = oI o) ↔ (some p = o) := by
  cases o with
  | none =>
    constructor
    · intro h; exact absurd h (nI_nm1 (by omega))
    · intro h; cases h
  | some q =>
    have := ho q rfl
    show nI p = nI q ↔ _
    rw [nI_eq (by omega) (by omega)]
    simp
set_option maxHeartbeats 4000000 in
set_option maxRecDepth 100000 in
theorem c_M_isNode {l : Launch} {D : va_G} {tys : List (ClassId × FieldType)} {b N : Nat} {σ : Nat → Option va_E} {cI cJ cA : ClassId} (ht0 : tys[0]? = some (cI, .int)) (ht1 : tys[1]? = some (cJ, .long)) (ht3 : tys[3]? = some (cA, .array .long)) {th fa ls rm : Value} {n a : Nat} {gf gt gw : Nat → Int32} {F T : Nat → Nat} (hM : MN b cI σ th fa ls rm n a gf gt gw F T) {x : Int32} : zM l D kCl tys kNw b ky_M_isNode (kh_M_isNode :: zT) 0 0 0 0 [.ref (b + 54), .int x] N σ (zD (some (.int (zB (zIn x (nI n))))) N σ) := by
  refine zM.of (by decide +kernel) rfl (Nat.le_of_ble_eq_true rfl) ?_
  refine z_pick (lv' := [(0, .ref (b + 54)), (1, .int x)]) [0, 1] rfl ?_
  refine z_iload_n kd_M_isNode_0 1 rfl ?_
  refine z_if_lt (tgt := 16) kd_M_isNode_1 (by decide) (fun c1 => ?_) (fun c1 => ?_)
  · refine z_iconst (v := 0) kd_M_isNode_16 (by decide) ?_
    exact z_zret kd_M_isNode_17 rfl rfl (Nat.le_of_ble_eq_true rfl) (Nat.le_of_ble_eq_true rfl) ⟨by simp [zIn, zB, *], rfl, rfl⟩
  · refine z_iload_n kd_M_isNode_4 1 rfl ?_
    refine z_aload_n kd_M_isNode_5 0 rfl ?_
    refine z_get kd_M_isNode_6 (kf_M_73 _) hM.h1 rfl ?_
    refine z_icmp_ge (tgt := 16) kd_M_isNode_9 (by decide) (fun c9 => ?_) (fun c9 => ?_)
    · refine z_iconst (v := 0) kd_M_isNode_16 (by decide) ?_
      exact z_zret kd_M_isNode_17 rfl rfl (Nat.le_of_ble_eq_true rfl) (Nat.le_of_ble_eq_true rfl) ⟨by simp [zIn, zB, *], rfl, rfl⟩
    · refine z_iconst (v := 1) kd_M_isNode_12 (by decide) ?_
      refine z_goto (tgt := 17) kd_M_isNode_13 (by decide) ?_
      exact z_zret kd_M_isNode_17 rfl rfl (Nat.le_of_ble_eq_true rfl) (Nat.le_of_ble_eq_true rfl) ⟨by simp [zIn, zB, *], rfl, rfl⟩
theorem fi_s {x i : Nat} {P : Nat → Nat} {q : Bool} (h : q = true ↔ (∀ y, y < i → P y ≠ P x)) (hq : q = true) (hn : P i ≠ P x) : true = true ↔ (∀ y, y < i + 1 → P y ≠ P x) := by
  refine ⟨fun _ y hy => ?_, fun _ => rfl⟩
  by_cases e : y = i
  · subst e; exact hn
  · exact h.mp hq y (by omega)
theorem fi_f {x i : Nat} {P : Nat → Nat} {q : Bool} (h : q = true ↔ (∀ y, y < i → P y ≠ P x)) (hq : ¬ q = true ∨ P i = P x) : false = true ↔ (∀ y, y < i + 1 → P y ≠ P x) := by
  refine ⟨fun z => absurd z (by decide), fun z => ?_⟩
  rcases hq with c | c
  · exact absurd (h.mpr (fun y hy => z y (by omega))) c
  · exact absurd c (z i (by omega))
set_option maxHeartbeats 4000000 in
set_option maxRecDepth 100000 in
theorem l_M_isFirst {l : Launch} {D : va_G} {tys : List (ClassId × FieldType)} {b N : Nat} {σ : Nat → Option va_E} {cI cJ cA : ClassId} (ht0 : tys[0]? = some (cI, .int)) (ht1 : tys[1]? = some (cJ, .long)) (ht3 : tys[3]? = some (cA, .array .long)) {th fa ls rm : Value} {n a : Nat} {gf gt gw : Nat → Int32} {F T : Nat → Nat} (hM : MN b cI σ th fa ls rm n a gf gt gw F T) {P : Nat → Nat} {g : Nat → Int32} (h62 : σ 62 = some (.inl (cI, 10, .inl g))) (hp : PH n n g P) {x : Nat} (hx : x < n) {R : Room} : ∀ (m i : Nat) (q : Bool), i + m = x → (q = true ↔ (∀ y, y < i → P y ≠ P x)) → Z l D kCl tys (kh_M_isFirst :: zT) kNw ky_M_isFirst.cls ky_M_isFirst.name kb_M_isFirst 4 (some FieldType.boolean) R b (zFi D kCl b 0 0 (zD (some (.int (zB (decide (∀ y, y < x → P y ≠ P x))))) N σ)) 0 0 N (σ) 4 [(3, .int (nI i)), (2, .int (zB q)), (0, .ref (b + 54)), (1, .int (nI x))] [] := by
  have hn := hM.hn
  intro m
  induction m with
  | zero =>
    intro i q hi hq
    obtain rfl : i = x := by omega
    have e : q = decide (∀ y, y < i → P y ≠ P i) := by
      cases q with
      | true => exact (decide_eq_true (hq.mp rfl)).symm
      | false => exact (decide_eq_false (fun z => absurd (hq.mpr z) (by decide))).symm
    subst e
    refine z_iload_n kd_M_isFirst_4 0 rfl ?_
    refine z_iload_n kd_M_isFirst_5 3 rfl ?_
    refine z_icmp_ge (tgt := 40) kd_M_isFirst_6 (by decide) (fun c6 => ?_) (fun c6 => ?_)
    · refine z_iload_n kd_M_isFirst_40 1 rfl ?_
      exact z_zret kd_M_isFirst_41 rfl (zB_n _) (Nat.le_of_ble_eq_true rfl) (Nat.le_of_ble_eq_true rfl) ⟨rfl, rfl, rfl⟩
    · exact absurd (nI_le (Nat.le_refl i) (by omega)) c6
  | succ m ih =>
    intro i q hi hq
    have hlt : i < x := by omega
    have li := (hp i (by omega)).2
    have lx := (hp x hx).2
    refine z_iload_n kd_M_isFirst_4 0 rfl ?_
    refine z_iload_n kd_M_isFirst_5 3 rfl ?_
    refine z_icmp_ge (tgt := 40) kd_M_isFirst_6 (by decide) (fun c6 => ?_) (fun c6 => ?_)
    · exact absurd c6 (nI_ge hlt (by omega))
    · refine z_iload_n kd_M_isFirst_9 1 rfl ?_
      refine z_if_eq (tgt := 32) kd_M_isFirst_10 (by decide) (fun c10 => ?_) (fun c10 => ?_)
      · have hq2 := fi_f hq (Or.inl (fun z => by rw [z] at c10; exact absurd c10 (by decide)))
        refine z_iconst (v := 0) kd_M_isFirst_32 (by decide) ?_
        refine z_istore_n (lv' := [(2, .int _), (3, .int _), (0, .ref (b + 54)), (1, .int _)]) kd_M_isFirst_33 (by decide) rfl ?_
        refine z_iinc (v := (nI (i + 1))) (lv' := [(3, .int _), (2, .int _), (0, .ref (b + 54)), (1, .int _)]) kd_M_isFirst_34 1 rfl (nI_1 _) (by decide) rfl ?_
        refine z_goto (tgt := 4) kd_M_isFirst_37 (by decide) ?_
        refine z_pick (lv' := [(3, .int (nI (i + 1))), (2, .int (zB false)), (0, .ref (b + 54)), (1, .int (nI x))]) [0, 1, 2, 3] rfl ?_
        exact ih (i + 1) false (by omega) hq2
      · have hqt : q = true := by
          cases q with
          | true => rfl
          | false => exact absurd rfl c10
        refine z_aload_n kd_M_isFirst_13 2 rfl ?_
        refine z_get kd_M_isFirst_14 (kf_M_32 _) hM.h1 rfl ?_
        refine z_iload_n kd_M_isFirst_17 0 rfl ?_
        refine z_ialdN (t0 := 0) kd_M_isFirst_18 (by assumption) h62 (by omega) (by decide) ?_
        refine z_topi (hp i (by omega)).1 ?_
        refine z_aload_n kd_M_isFirst_19 2 rfl ?_
        refine z_get kd_M_isFirst_20 (kf_M_32 _) hM.h1 rfl ?_
        refine z_iload_n kd_M_isFirst_23 3 rfl ?_
        refine z_ialdN (t0 := 0) kd_M_isFirst_24 (by assumption) h62 (by omega) (by decide) ?_
        refine z_topi (hp x hx).1 ?_
        refine z_icmp_eq (tgt := 32) kd_M_isFirst_25 (by decide) (fun c25 => ?_) (fun c25 => ?_)
        · have hq2 := fi_f hq (Or.inr ((nI_eq (by omega) (by omega)).mp c25))
          refine z_iconst (v := 0) kd_M_isFirst_32 (by decide) ?_
          refine z_istore_n (lv' := [(2, .int _), (3, .int _), (0, .ref (b + 54)), (1, .int _)]) kd_M_isFirst_33 (by decide) rfl ?_
          refine z_iinc (v := (nI (i + 1))) (lv' := [(3, .int _), (2, .int _), (0, .ref (b + 54)), (1, .int _)]) kd_M_isFirst_34 1 rfl (nI_1 _) (by decide) rfl ?_
          refine z_goto (tgt := 4) kd_M_isFirst_37 (by decide) ?_
          refine z_pick (lv' := [(3, .int (nI (i + 1))), (2, .int (zB false)), (0, .ref (b + 54)), (1, .int (nI x))]) [0, 1, 2, 3] rfl ?_
          exact ih (i + 1) false (by omega) hq2
        · have hq2 := fi_s hq hqt (fun z => c25 (by rw [z]))
          refine z_iconst (v := 1) kd_M_isFirst_28 (by decide) ?_
          refine z_goto (tgt := 33) kd_M_isFirst_29 (by decide) ?_
          refine z_istore_n (lv' := [(2, .int _), (3, .int _), (0, .ref (b + 54)), (1, .int _)]) kd_M_isFirst_33 (by decide) rfl ?_
          refine z_iinc (v := (nI (i + 1))) (lv' := [(3, .int _), (2, .int _), (0, .ref (b + 54)), (1, .int _)]) kd_M_isFirst_34 1 rfl (nI_1 _) (by decide) rfl ?_
          refine z_goto (tgt := 4) kd_M_isFirst_37 (by decide) ?_
          refine z_pick (lv' := [(3, .int (nI (i + 1))), (2, .int (zB true)), (0, .ref (b + 54)), (1, .int (nI x))]) [0, 1, 2, 3] rfl ?_
          exact ih (i + 1) true (by omega) hq2
set_option maxHeartbeats 4000000 in
set_option maxRecDepth 100000 in
theorem c_M_isFirst {l : Launch} {D : va_G} {tys : List (ClassId × FieldType)} {b N : Nat} {σ : Nat → Option va_E} {cI cJ cA : ClassId} (ht0 : tys[0]? = some (cI, .int)) (ht1 : tys[1]? = some (cJ, .long)) (ht3 : tys[3]? = some (cA, .array .long)) {th fa ls rm : Value} {n a : Nat} {gf gt gw : Nat → Int32} {F T : Nat → Nat} (hM : MN b cI σ th fa ls rm n a gf gt gw F T) {P : Nat → Nat} {g : Nat → Int32} (h62 : σ 62 = some (.inl (cI, 10, .inl g))) (hp : PH n n g P) {x : Nat} (hx : x < n) : zM l D kCl tys kNw b ky_M_isFirst (kh_M_isFirst :: zT) 0 0 0 0 [.ref (b + 54), .int (nI x)] N σ (zD (some (.int (zB (decide (∀ y, y < x → P y ≠ P x))))) N σ) := by
  refine zM.of (by decide +kernel) rfl (Nat.le_of_ble_eq_true rfl) ?_
  refine z_pick (lv' := [(0, .ref (b + 54)), (1, .int (nI x))]) [0, 1] rfl ?_
  refine z_iconst (v := 1) kd_M_isFirst_0 (by decide) ?_
  refine z_istore_n (lv' := [(2, .int _), (0, .ref (b + 54)), (1, .int _)]) kd_M_isFirst_1 (by decide) rfl ?_
  refine z_iconst (v := 0) kd_M_isFirst_2 (by decide) ?_
  refine z_istore_n (lv' := [(3, .int _), (2, .int _), (0, .ref (b + 54)), (1, .int _)]) kd_M_isFirst_3 (by decide) rfl ?_
  refine z_pick (lv' := [(3, .int (nI 0)), (2, .int (zB true)), (0, .ref (b + 54)), (1, .int (nI x))]) [0, 1, 2, 3] rfl ?_
  exact l_M_isFirst ht0 ht1 ht3 hM h62 hp hx x 0 true (by omega) ⟨fun _ y hy => absurd hy (Nat.not_lt_zero y), fun _ => rfl⟩
def nmI (P : Nat → Nat) (x c y : Nat) (I : Nat → Option Nat) : Nat → Option Nat := fun v => if v < y ∧ P v = P x then some c else I v
theorem nmI_0 {P : Nat → Nat} {x c : Nat} {I : Nat → Option Nat} : nmI P x c 0 I = I := by
  funext v
  unfold nmI
  rw [if_neg (fun h => by omega)]
theorem BH.nm {n x c y : Nat} {g : Nat → Int32} {P : Nat → Nat} {I : Nat → Option Nat} (h : BH n 10 g (nmI P x c y I)) (hc : c < 10) (hp : P y = P x) : BH n 10 (upd g y (nI c)) (nmI P x c (y + 1) I) := by
  intro v hv
  have h2 := h v hv
  by_cases e : v = y
  · subst e
    refine ⟨by simp [upd, nmI, hp, oI], fun k hk => ?_⟩
    simp [nmI, hp] at hk; omega
  · have e2 : nmI P x c (y + 1) I v = nmI P x c y I v := by
      unfold nmI
      by_cases d : v < y ∧ P v = P x
      · rw [if_pos d, if_pos ⟨by omega, d.2⟩]
      · rw [if_neg d, if_neg (fun q => d ⟨by omega, q.2⟩)]
    refine ⟨by simp [upd, e, h2.1, e2], fun k hk => h2.2 k (by rw [← e2]; exact hk)⟩
theorem BH.nk {n x c y : Nat} {g : Nat → Int32} {P : Nat → Nat} {I : Nat → Option Nat} (h : BH n 10 g (nmI P x c y I)) (hp : ¬ P y = P x) : BH n 10 (upd g y (g y)) (nmI P x c (y + 1) I) := by
  intro v hv
  have h2 := h v hv
  have e2 : nmI P x c (y + 1) I v = nmI P x c y I v := by
    unfold nmI
    by_cases d : v < y ∧ P v = P x
    · rw [if_pos d, if_pos ⟨by omega, d.2⟩]
    · rw [if_neg d, if_neg (fun q => by
        by_cases e : v = y
        · subst e; exact hp q.2
        · exact d ⟨by omega, q.2⟩)]
  rw [e2]
  refine ⟨?_, h2.2⟩
  by_cases e : v = y
  · subst e; simp [upd, h2.1]
  · simp [upd, e, h2.1]
set_option maxHeartbeats 4000000 in
set_option maxRecDepth 100000 in
theorem l_M_nmi {l : Launch} {D : va_G} {tys : List (ClassId × FieldType)} {b N : Nat} {σ0 : Nat → Option va_E} {cI cJ cA : ClassId} (ht0 : tys[0]? = some (cI, .int)) (ht1 : tys[1]? = some (cJ, .long)) (ht3 : tys[3]? = some (cA, .array .long)) {th fa ls rm : Value} {n a : Nat} {gf gt gw : Nat → Int32} {F T : Nat → Nat} {P : Nat → Nat} {g2 : Nat → Int32} (hp : PH n n g2 P) {bu ot : Option Nat} (hbu : ∀ q, bu = some q → q < 10) (hot : ∀ q, ot = some q → q < 10) {x c : Nat} (hx : x < n) (hc : c < 10) {I : Nat → Option Nat} {Q : Outcome → Nat → (Nat → Option va_E) → Prop} (kk : ∀ (σ : Nat → Option va_E) (g : Nat → Int32), MN b cI σ th fa ls rm n a gf gt gw F T → σ 62 = some (.inl (cI, 10, .inl g2)) → σ 64 = some (.inl (cI, 10, .inl g)) → BH n 10 g (nmI P x c n I) → Fr 64 64 σ0 σ → Z l D kCl tys (kh_M_number :: zT) kNw ky_M_number.cls ky_M_number.name kb_M_number 7 (some FieldType.int) { frames := 1, cells := 0, slots := 0, locals := 30 } b (zFi D kCl b 0 0 Q) 0 0 N (σ) 31 [(4, .int (nI (x + 1))), (3, .int (nI (c + 1))), (0, .ref (b + 54)), (1, .int (oI bu)), (2, .int (oI ot))] []) : ∀ (m y : Nat) (σ : Nat → Option va_E) (g : Nat → Int32), y + m = n → MN b cI σ th fa ls rm n a gf gt gw F T → σ 62 = some (.inl (cI, 10, .inl g2)) → σ 64 = some (.inl (cI, 10, .inl g)) → BH n 10 g (nmI P x c y I) → Fr 64 64 σ0 σ → Z l D kCl tys (kh_M_number :: zT) kNw ky_M_number.cls ky_M_number.name kb_M_number 7 (some FieldType.int) { frames := 1, cells := 0, slots := 0, locals := 30 } b (zFi D kCl b 0 0 Q) 0 0 N (σ) 81 [(6, .int (nI y)), (5, .int 1), (4, .int (nI x)), (3, .int (nI c)), (0, .ref (b + 54)), (1, .int (oI bu)), (2, .int (oI ot))] [] := by
  intro m
  induction m with
  | zero =>
    intro y σ g hy hM h62 h64 hB hF
    obtain rfl : y = n := by omega
    have hn := hM.hn
    refine z_iload kd_M_number_81 0 rfl ?_
    refine z_aload_n kd_M_number_83 4 rfl ?_
    refine z_get kd_M_number_84 (kf_M_73 _) hM.h1 rfl ?_
    refine z_icmp_ge (tgt := 136) kd_M_number_87 (by decide) (fun c87 => ?_) (fun c87 => ?_)
    · refine z_iload_n kd_M_number_136 3 rfl ?_
      refine z_iload kd_M_number_137 1 rfl ?_
      refine z_if_eq (tgt := 146) kd_M_number_139 (by decide) (fun c139 => absurd c139 (by decide)) (fun c139 => ?_)
      refine z_iconst (v := 1) kd_M_number_142 (by decide) ?_
      refine z_goto (tgt := 147) kd_M_number_143 (by decide) ?_
      refine z_iadd kd_M_number_147 ?_
      refine z_topi (nI_add c 1) ?_
      refine z_istore_n (lv' := [(3, .int _), (6, .int _), (5, .int _), (4, .int _), (0, .ref (b + 54)), (1, .int _), (2, .int _)]) kd_M_number_148 (by decide) rfl ?_
      refine z_iinc (v := (nI (x + 1))) (lv' := [(4, .int _), (3, .int _), (6, .int _), (5, .int _), (0, .ref (b + 54)), (1, .int _), (2, .int _)]) kd_M_number_149 3 rfl (nI_1 _) (by decide) rfl ?_
      refine z_goto (tgt := 31) kd_M_number_152 (by decide) ?_
      refine z_pick (lv' := [(4, .int (nI (x + 1))), (3, .int (nI (c + 1))), (0, .ref (b + 54)), (1, .int (oI bu)), (2, .int (oI ot))]) [0, 1, 4, 5, 6] rfl ?_
      exact kk σ g hM h62 h64 hB hF
    · exact absurd (nI_le (Nat.le_refl y) (by omega)) c87
  | succ m ih =>
    intro y σ g hy hM h62 h64 hB hF
    have hlt : y < n := by omega
    have hn := hM.hn
    have ly := (hp y hlt).2
    have lx := (hp x hx).2
    refine z_iload kd_M_number_81 0 rfl ?_
    refine z_aload_n kd_M_number_83 4 rfl ?_
    refine z_get kd_M_number_84 (kf_M_73 _) hM.h1 rfl ?_
    refine z_icmp_ge (tgt := 136) kd_M_number_87 (by decide) (fun c87 => ?_) (fun c87 => ?_)
    · exact absurd c87 (nI_ge hlt (by omega))
    · refine z_iload kd_M_number_90 1 rfl ?_
      refine z_if_eq (tgt := 136) kd_M_number_92 (by decide) (fun c92 => absurd c92 (by decide)) (fun c92 => ?_)
      refine z_aload_n kd_M_number_95 4 rfl ?_
      refine z_get kd_M_number_96 (kf_M_39 _) hM.h1 rfl ?_
      refine z_iload kd_M_number_99 0 rfl ?_
      refine z_aload_n kd_M_number_101 4 rfl ?_
      refine z_get kd_M_number_102 (kf_M_32 _) hM.h1 rfl ?_
      refine z_iload kd_M_number_105 0 rfl ?_
      refine z_ialdN (t0 := 0) kd_M_number_107 (by assumption) h62 (by omega) (by decide) ?_
      refine z_topi (hp y hlt).1 ?_
      refine z_aload_n kd_M_number_108 4 rfl ?_
      refine z_get kd_M_number_109 (kf_M_32 _) hM.h1 rfl ?_
      refine z_iload kd_M_number_112 2 rfl ?_
      refine z_ialdN (t0 := 0) kd_M_number_114 (by assumption) h62 (by omega) (by decide) ?_
      refine z_topi (hp x hx).1 ?_
      refine z_icmp_ne (tgt := 122) kd_M_number_115 (by decide) (fun c115 => ?_) (fun c115 => ?_)
      · have hB2 := hB.nk (fun z => c115 (by rw [z]))
        refine z_aload_n kd_M_number_122 4 rfl ?_
        refine z_get kd_M_number_123 (kf_M_39 _) hM.h1 rfl ?_
        refine z_iload kd_M_number_126 0 rfl ?_
        refine z_ialdN (t0 := 0) kd_M_number_128 (by assumption) h64 (by omega) (by decide) ?_
        refine z_iastN (t0 := 0) kd_M_number_129 (by assumption) h64 (by omega) (by decide) ?_
        refine z_upd (fun σ_1 x64_1 q_1 => ?_)
        have x62_1 := (q_1 62 (by omega)).trans h62
        have hM_1 := hM.fr q_1 (by omega)
        refine z_iinc (v := (nI (y + 1))) (lv' := [(6, .int _), (5, .int _), (4, .int _), (3, .int _), (0, .ref (b + 54)), (1, .int _), (2, .int _)]) kd_M_number_130 0 rfl (nI_1 _) (by decide) rfl ?_
        refine z_goto (tgt := 81) kd_M_number_133 (by decide) ?_
        refine z_pick (lv' := [(6, .int (nI (y + 1))), (5, .int 1), (4, .int (nI x)), (3, .int (nI c)), (0, .ref (b + 54)), (1, .int (oI bu)), (2, .int (oI ot))]) [0, 1, 2, 3, 4, 5, 6] rfl ?_
        exact ih (y + 1) _ _ (by omega) hM_1 x62_1 x64_1 hB2 (Fr.tr hF (q_1.wide (by omega) (by omega)))
      · have hB2 := hB.nm hc ((nI_eq (by omega) (by omega)).mp c115)
        refine z_iload_n kd_M_number_118 3 rfl ?_
        refine z_goto (tgt := 129) kd_M_number_119 (by decide) ?_
        refine z_iastN (t0 := 0) kd_M_number_129 (by assumption) h64 (by omega) (by decide) ?_
        refine z_upd (fun σ_2 x64_2 q_2 => ?_)
        have x62_2 := (q_2 62 (by omega)).trans h62
        have hM_2 := hM.fr q_2 (by omega)
        refine z_iinc (v := (nI (y + 1))) (lv' := [(6, .int _), (5, .int _), (4, .int _), (3, .int _), (0, .ref (b + 54)), (1, .int _), (2, .int _)]) kd_M_number_130 0 rfl (nI_1 _) (by decide) rfl ?_
        refine z_goto (tgt := 81) kd_M_number_133 (by decide) ?_
        refine z_pick (lv' := [(6, .int (nI (y + 1))), (5, .int 1), (4, .int (nI x)), (3, .int (nI c)), (0, .ref (b + 54)), (1, .int (oI bu)), (2, .int (oI ot))]) [0, 1, 2, 3, 4, 5, 6] rfl ?_
        exact ih (y + 1) _ _ (by omega) hM_2 x62_2 x64_2 hB2 (Fr.tr hF (q_2.wide (by omega) (by omega)))
set_option maxHeartbeats 4000000 in
set_option maxRecDepth 100000 in
theorem l_M_nmo {l : Launch} {D : va_G} {tys : List (ClassId × FieldType)} {b N : Nat} {σ0 : Nat → Option va_E} {cI cJ cA : ClassId} (ht0 : tys[0]? = some (cI, .int)) (ht1 : tys[1]? = some (cJ, .long)) (ht3 : tys[3]? = some (cA, .array .long)) {th fa ls rm : Value} {n a : Nat} {gf gt gw : Nat → Int32} {F T : Nat → Nat} {P : Nat → Nat} {g2 : Nat → Int32} (hp : PH n n g2 P) {bu ot : Option Nat} (hbu : ∀ q, bu = some q → q < 10) (hot : ∀ q, ot = some q → q < 10) {val : Nat × (Nat → Option Nat)} : ∀ (m x : Nat) (σ : Nat → Option va_E) (g : Nat → Int32) (c : Nat) (I : Nat → Option Nat), x + m = n → c ≤ x → MN b cI σ th fa ls rm n a gf gt gw F T → σ 62 = some (.inl (cI, 10, .inl g2)) → σ 64 = some (.inl (cI, 10, .inl g)) → BH n 10 g I → Fr 64 64 σ0 σ → nmL n P bu ot m x c I = val → Z l D kCl tys (kh_M_number :: zT) kNw ky_M_number.cls ky_M_number.name kb_M_number 7 (some FieldType.int) { frames := 1, cells := 0, slots := 0, locals := 30 } b (zFi D kCl b 0 0 (fun oc N' σ' => oc = .returned (some (.int (nI (val).1))) ∧ N' = N ∧ (∃ g, BH n 10 g (val).2 ∧ σ' 64 = some (.inl (cI, 10, .inl g))) ∧ Fr 64 64 σ0 σ')) 0 0 N (σ) 31 [(4, .int (nI x)), (3, .int (nI c)), (0, .ref (b + 54)), (1, .int (oI bu)), (2, .int (oI ot))] [] := by
  intro m
  induction m with
  | zero =>
    intro x σ g c I hx hcx hM h62 h64 hB hF hv
    obtain rfl : x = n := by omega
    have hn := hM.hn
    have hv : (c, I) = val := hv
    subst hv
    refine z_iload kd_M_number_31 0 rfl ?_
    refine z_aload_n kd_M_number_33 2 rfl ?_
    refine z_get kd_M_number_34 (kf_M_73 _) hM.h1 rfl ?_
    refine z_icmp_ge (tgt := 155) kd_M_number_37 (by decide) (fun c37 => ?_) (fun c37 => ?_)
    · refine z_iload_n kd_M_number_155 1 rfl ?_
      exact z_iret kd_M_number_156 rfl (Nat.le_of_ble_eq_true rfl) (Nat.le_of_ble_eq_true rfl) ⟨rfl, rfl, ⟨g, hB, h64⟩, hF⟩
    · exact absurd (nI_le (Nat.le_refl x) (by omega)) c37
  | succ m ih =>
    intro x σ g c I hx hcx hM h62 h64 hB hF hv
    have hlt : x < n := by omega
    have hn := hM.hn
    have lx := (hp x hlt).2
    unfold nmL at hv
    refine z_iload kd_M_number_31 0 rfl ?_
    refine z_aload_n kd_M_number_33 2 rfl ?_
    refine z_get kd_M_number_34 (kf_M_73 _) hM.h1 rfl ?_
    refine z_icmp_ge (tgt := 155) kd_M_number_37 (by decide) (fun c37 => ?_) (fun c37 => ?_)
    · exact absurd c37 (nI_ge hlt (by omega))
    · refine z_aload_n kd_M_number_40 2 rfl ?_
      refine z_iload kd_M_number_41 0 rfl ?_
      refine z_V1 (a := 54) (As := [_]) kd_M_number_43 (kg_M_99 _) hM.h1 kc_M (c_M_isFirst ht0 ht1 ht3 hM h62 hp hlt) rfl rfl (Nat.le_of_ble_eq_true rfl) ⟨Nat.le_of_ble_eq_true rfl, Nat.le_of_ble_eq_true rfl⟩ ⟨Nat.le_of_ble_eq_true rfl, Nat.le_of_ble_eq_true rfl⟩ ?_
      refine z_if_eq (tgt := 149) kd_M_number_46 (by decide) (fun c46 => ?_) (fun c46 => ?_)
      · have hf := zBz c46
        rw [if_neg (fun z => hf z.1)] at hv
        refine z_iinc (v := (nI (x + 1))) (lv' := [(4, .int _), (3, .int _), (0, .ref (b + 54)), (1, .int _), (2, .int _)]) kd_M_number_149 0 rfl (nI_1 _) (by decide) rfl ?_
        refine z_goto (tgt := 31) kd_M_number_152 (by decide) ?_
        refine z_pick (lv' := [(4, .int (nI (x + 1))), (3, .int (nI c)), (0, .ref (b + 54)), (1, .int (oI bu)), (2, .int (oI ot))]) [0, 1, 2, 3, 4] rfl ?_
        exact ih (x + 1) _ _ _ _ (by omega) (by omega) hM h62 h64 hB hF hv
      · have hf := zBn c46
        refine z_aload_n kd_M_number_49 2 rfl ?_
        refine z_get kd_M_number_50 (kf_M_32 _) hM.h1 rfl ?_
        refine z_iload kd_M_number_53 0 rfl ?_
        refine z_ialdN (t0 := 0) kd_M_number_55 (by assumption) h62 (by omega) (by decide) ?_
        refine z_topi (hp x hlt).1 ?_
        refine z_iload_n kd_M_number_56 3 rfl ?_
        refine z_icmp_eq (tgt := 75) kd_M_number_57 (by decide) (fun c57 => ?_) (fun c57 => ?_)
        · rw [if_neg (fun z => z.2.1 ((oI_eq (by omega) hbu).mp c57))] at hv
          refine z_iconst (v := 0) kd_M_number_75 (by decide) ?_
          refine z_istore (lv' := [(5, .int _), (4, .int _), (3, .int _), (0, .ref (b + 54)), (1, .int _), (2, .int _)]) kd_M_number_76 (by decide) rfl ?_
          refine z_iconst (v := 0) kd_M_number_78 (by decide) ?_
          refine z_istore (lv' := [(6, .int _), (5, .int _), (4, .int _), (3, .int _), (0, .ref (b + 54)), (1, .int _), (2, .int _)]) kd_M_number_79 (by decide) rfl ?_
          refine z_iload kd_M_number_81 0 rfl ?_
          refine z_aload_n kd_M_number_83 4 rfl ?_
          refine z_get kd_M_number_84 (kf_M_73 _) hM.h1 rfl ?_
          refine z_icmp_ge (tgt := 136) kd_M_number_87 (by decide) (fun c87 => ?_) (fun c87 => ?_)
          · exact absurd c87 (nI_ge (a := 0) (by omega) (by omega))
          · refine z_iload kd_M_number_90 1 rfl ?_
            refine z_if_eq (tgt := 136) kd_M_number_92 (by decide) (fun c92 => ?_) (fun c92 => absurd c92 (by decide))
            refine z_iload_n kd_M_number_136 3 rfl ?_
            refine z_iload kd_M_number_137 1 rfl ?_
            refine z_if_eq (tgt := 146) kd_M_number_139 (by decide) (fun c139 => ?_) (fun c139 => absurd c139 (by decide))
            refine z_iconst (v := 0) kd_M_number_146 (by decide) ?_
            refine z_iadd kd_M_number_147 ?_
            refine z_topi (nI_add c 0) ?_
            refine z_istore_n (lv' := [(3, .int _), (6, .int _), (5, .int _), (4, .int _), (0, .ref (b + 54)), (1, .int _), (2, .int _)]) kd_M_number_148 (by decide) rfl ?_
            refine z_iinc (v := (nI (x + 1))) (lv' := [(4, .int _), (3, .int _), (6, .int _), (5, .int _), (0, .ref (b + 54)), (1, .int _), (2, .int _)]) kd_M_number_149 3 rfl (nI_1 _) (by decide) rfl ?_
            refine z_goto (tgt := 31) kd_M_number_152 (by decide) ?_
            refine z_pick (lv' := [(4, .int (nI (x + 1))), (3, .int (nI c)), (0, .ref (b + 54)), (1, .int (oI bu)), (2, .int (oI ot))]) [0, 1, 4, 5, 6] rfl ?_
            exact ih (x + 1) _ _ _ _ (by omega) (by omega) hM h62 h64 hB hF hv
        · have hb1 : ¬ some (P x) = bu := fun z => c57 ((oI_eq (by omega) hbu).mpr z)
          refine z_aload_n kd_M_number_60 2 rfl ?_
          refine z_get kd_M_number_61 (kf_M_32 _) hM.h1 rfl ?_
          refine z_iload kd_M_number_64 0 rfl ?_
          refine z_ialdN (t0 := 0) kd_M_number_66 (by assumption) h62 (by omega) (by decide) ?_
          refine z_topi (hp x hlt).1 ?_
          refine z_iload_n kd_M_number_67 4 rfl ?_
          refine z_icmp_eq (tgt := 75) kd_M_number_68 (by decide) (fun c68 => ?_) (fun c68 => ?_)
          · rw [if_neg (fun z => z.2.2 ((oI_eq (by omega) hot).mp c68))] at hv
            refine z_iconst (v := 0) kd_M_number_75 (by decide) ?_
            refine z_istore (lv' := [(5, .int _), (4, .int _), (3, .int _), (0, .ref (b + 54)), (1, .int _), (2, .int _)]) kd_M_number_76 (by decide) rfl ?_
            refine z_iconst (v := 0) kd_M_number_78 (by decide) ?_
            refine z_istore (lv' := [(6, .int _), (5, .int _), (4, .int _), (3, .int _), (0, .ref (b + 54)), (1, .int _), (2, .int _)]) kd_M_number_79 (by decide) rfl ?_
            refine z_iload kd_M_number_81 0 rfl ?_
            refine z_aload_n kd_M_number_83 4 rfl ?_
            refine z_get kd_M_number_84 (kf_M_73 _) hM.h1 rfl ?_
            refine z_icmp_ge (tgt := 136) kd_M_number_87 (by decide) (fun c87 => ?_) (fun c87 => ?_)
            · exact absurd c87 (nI_ge (a := 0) (by omega) (by omega))
            · refine z_iload kd_M_number_90 1 rfl ?_
              refine z_if_eq (tgt := 136) kd_M_number_92 (by decide) (fun c92 => ?_) (fun c92 => absurd c92 (by decide))
              refine z_iload_n kd_M_number_136 3 rfl ?_
              refine z_iload kd_M_number_137 1 rfl ?_
              refine z_if_eq (tgt := 146) kd_M_number_139 (by decide) (fun c139 => ?_) (fun c139 => absurd c139 (by decide))
              refine z_iconst (v := 0) kd_M_number_146 (by decide) ?_
              refine z_iadd kd_M_number_147 ?_
              refine z_topi (nI_add c 0) ?_
              refine z_istore_n (lv' := [(3, .int _), (6, .int _), (5, .int _), (4, .int _), (0, .ref (b + 54)), (1, .int _), (2, .int _)]) kd_M_number_148 (by decide) rfl ?_
              refine z_iinc (v := (nI (x + 1))) (lv' := [(4, .int _), (3, .int _), (6, .int _), (5, .int _), (0, .ref (b + 54)), (1, .int _), (2, .int _)]) kd_M_number_149 3 rfl (nI_1 _) (by decide) rfl ?_
              refine z_goto (tgt := 31) kd_M_number_152 (by decide) ?_
              refine z_pick (lv' := [(4, .int (nI (x + 1))), (3, .int (nI c)), (0, .ref (b + 54)), (1, .int (oI bu)), (2, .int (oI ot))]) [0, 1, 4, 5, 6] rfl ?_
              exact ih (x + 1) _ _ _ _ (by omega) (by omega) hM h62 h64 hB hF hv
          · have hb2 : ¬ some (P x) = ot := fun z => c68 ((oI_eq (by omega) hot).mpr z)
            rw [if_pos ⟨hf, hb1, hb2⟩] at hv
            refine z_iconst (v := 1) kd_M_number_71 (by decide) ?_
            refine z_goto (tgt := 76) kd_M_number_72 (by decide) ?_
            refine z_istore (lv' := [(5, .int _), (4, .int _), (3, .int _), (0, .ref (b + 54)), (1, .int _), (2, .int _)]) kd_M_number_76 (by decide) rfl ?_
            refine z_iconst (v := 0) kd_M_number_78 (by decide) ?_
            refine z_istore (lv' := [(6, .int _), (5, .int _), (4, .int _), (3, .int _), (0, .ref (b + 54)), (1, .int _), (2, .int _)]) kd_M_number_79 (by decide) rfl ?_
            refine z_pick (lv' := [(6, .int (nI 0)), (5, .int 1), (4, .int (nI x)), (3, .int (nI c)), (0, .ref (b + 54)), (1, .int (oI bu)), (2, .int (oI ot))]) [0, 1, 2, 3, 4, 5, 6] rfl ?_
            refine l_M_nmi ht0 ht1 ht3 hp hbu hot hlt (by omega) (fun σ g hM h62 h64 hB hF => ?_) n 0 σ g (by omega) hM h62 h64 (by rw [nmI_0]; exact hB) hF
            exact ih (x + 1) _ _ _ _ (by omega) (by omega) hM h62 h64 hB hF hv
set_option maxHeartbeats 4000000 in
set_option maxRecDepth 100000 in
theorem l_M_nmb {l : Launch} {D : va_G} {tys : List (ClassId × FieldType)} {b N : Nat} {σ0 : Nat → Option va_E} {cI cJ cA : ClassId} (ht0 : tys[0]? = some (cI, .int)) (ht1 : tys[1]? = some (cJ, .long)) (ht3 : tys[3]? = some (cA, .array .long)) {th fa ls rm : Value} {n a : Nat} {gf gt gw : Nat → Int32} {F T : Nat → Nat} {P : Nat → Nat} {g2 : Nat → Int32} (hp : PH n n g2 P) {bu ot : Option Nat} (hbu : ∀ q, bu = some q → q < 10) (hot : ∀ q, ot = some q → q < 10) : ∀ (m i : Nat) (σ : Nat → Option va_E) (g : Nat → Int32), i + m = n → MN b cI σ th fa ls rm n a gf gt gw F T → σ 62 = some (.inl (cI, 10, .inl g2)) → σ 64 = some (.inl (cI, 10, .inl g)) → (∀ v, v < i → g v = -1) → Fr 64 64 σ0 σ → Z l D kCl tys (kh_M_number :: zT) kNw ky_M_number.cls ky_M_number.name kb_M_number 7 (some FieldType.int) { frames := 1, cells := 0, slots := 0, locals := 30 } b (zFi D kCl b 0 0 (fun oc N' σ' => oc = .returned (some (.int (nI (nmV n P bu ot).1))) ∧ N' = N ∧ (∃ g, BH n 10 g (nmV n P bu ot).2 ∧ σ' 64 = some (.inl (cI, 10, .inl g))) ∧ Fr 64 64 σ0 σ')) 0 0 N (σ) 5 [(4, .int (nI i)), (3, .int 0), (0, .ref (b + 54)), (1, .int (oI bu)), (2, .int (oI ot))] [] := by
  intro m
  induction m with
  | zero =>
    intro i σ g hi hM h62 h64 hg hF
    obtain rfl : i = n := by omega
    have hn := hM.hn
    refine z_iload kd_M_number_5 0 rfl ?_
    refine z_aload_n kd_M_number_7 2 rfl ?_
    refine z_get kd_M_number_8 (kf_M_73 _) hM.h1 rfl ?_
    refine z_icmp_ge (tgt := 28) kd_M_number_11 (by decide) (fun c11 => ?_) (fun c11 => ?_)
    · refine z_iconst (v := 0) kd_M_number_28 (by decide) ?_
      refine z_istore (lv' := [(4, .int _), (3, .int _), (0, .ref (b + 54)), (1, .int _), (2, .int _)]) kd_M_number_29 (by decide) rfl ?_
      refine z_pick (lv' := [(4, .int (nI 0)), (3, .int (nI 0)), (0, .ref (b + 54)), (1, .int (oI bu)), (2, .int (oI ot))]) [0, 1, 2, 3, 4] rfl ?_
      exact l_M_nmo ht0 ht1 ht3 hp hbu hot i 0 _ _ 0 (fun _ => none) (by omega) (by omega) hM h62 h64 (fun v hv => ⟨hg v hv, fun k hk => by cases hk⟩) hF rfl
    · exact absurd (nI_le (Nat.le_refl i) (by omega)) c11
  | succ m ih =>
    intro i σ g hi hM h62 h64 hg hF
    have hlt : i < n := by omega
    have hn := hM.hn
    refine z_iload kd_M_number_5 0 rfl ?_
    refine z_aload_n kd_M_number_7 2 rfl ?_
    refine z_get kd_M_number_8 (kf_M_73 _) hM.h1 rfl ?_
    refine z_icmp_ge (tgt := 28) kd_M_number_11 (by decide) (fun c11 => ?_) (fun c11 => ?_)
    · exact absurd c11 (nI_ge hlt (by omega))
    · refine z_aload_n kd_M_number_14 2 rfl ?_
      refine z_get kd_M_number_15 (kf_M_39 _) hM.h1 rfl ?_
      refine z_iload kd_M_number_18 0 rfl ?_
      refine z_iconst (v := -1) kd_M_number_20 (by decide) ?_
      refine z_iastN (t0 := 0) kd_M_number_21 (by assumption) h64 (by omega) (by decide) ?_
      refine z_upd (fun σ_1 x64_1 q_1 => ?_)
      have x62_1 := (q_1 62 (by omega)).trans h62
      have hM_1 := hM.fr q_1 (by omega)
      refine z_iinc (v := (nI (i + 1))) (lv' := [(4, .int _), (3, .int _), (0, .ref (b + 54)), (1, .int _), (2, .int _)]) kd_M_number_22 0 rfl (nI_1 _) (by decide) rfl ?_
      refine z_goto (tgt := 5) kd_M_number_25 (by decide) ?_
      refine z_pick (lv' := [(4, .int (nI (i + 1))), (3, .int 0), (0, .ref (b + 54)), (1, .int (oI bu)), (2, .int (oI ot))]) [0, 1, 2, 3, 4] rfl ?_
      exact ih (i + 1) _ _ (by omega) hM_1 x62_1 x64_1 (upd_m1 hg) (Fr.tr hF (q_1.wide (by omega) (by omega)))
set_option maxHeartbeats 4000000 in
set_option maxRecDepth 100000 in
theorem c_M_number {l : Launch} {D : va_G} {tys : List (ClassId × FieldType)} {b N : Nat} {σ : Nat → Option va_E} {cI cJ cA : ClassId} (ht0 : tys[0]? = some (cI, .int)) (ht1 : tys[1]? = some (cJ, .long)) (ht3 : tys[3]? = some (cA, .array .long)) {th fa ls rm : Value} {n a : Nat} {gf gt gw : Nat → Int32} {F T : Nat → Nat} (hM : MN b cI σ th fa ls rm n a gf gt gw F T) {P : Nat → Nat} {g2 : Nat → Int32} (hp : PH n n g2 P) {bu ot : Option Nat} (hbu : ∀ q, bu = some q → q < 10) (hot : ∀ q, ot = some q → q < 10) (h62 : σ 62 = some (.inl (cI, 10, .inl g2))) {g4 : Nat → Int32} (h64 : σ 64 = some (.inl (cI, 10, .inl g4))) : zM l D kCl tys kNw b ky_M_number (kh_M_number :: zT) 1 30 0 0 [.ref (b + 54), .int (oI bu), .int (oI ot)] N σ ((fun oc N' σ' => oc = .returned (some (.int (nI (nmV n P bu ot).1))) ∧ N' = N ∧ (∃ g, BH n 10 g (nmV n P bu ot).2 ∧ σ' 64 = some (.inl (cI, 10, .inl g))) ∧ Fr 64 64 σ σ')) := by
  refine zM.of (by decide +kernel) rfl (Nat.le_of_ble_eq_true rfl) ?_
  refine z_pick (lv' := [(0, .ref (b + 54)), (1, .int (oI bu)), (2, .int (oI ot))]) [0, 1, 2] rfl ?_
  refine z_iconst (v := 0) kd_M_number_0 (by decide) ?_
  refine z_istore_n (lv' := [(3, .int _), (0, .ref (b + 54)), (1, .int _), (2, .int _)]) kd_M_number_1 (by decide) rfl ?_
  refine z_iconst (v := 0) kd_M_number_2 (by decide) ?_
  refine z_istore (lv' := [(4, .int _), (3, .int _), (0, .ref (b + 54)), (1, .int _), (2, .int _)]) kd_M_number_3 (by decide) rfl ?_
  refine z_pick (lv' := [(4, .int (nI 0)), (3, .int 0), (0, .ref (b + 54)), (1, .int (oI bu)), (2, .int (oI ot))]) [0, 1, 2, 3, 4] rfl ?_
  exact l_M_nmb ht0 ht1 ht3 hp hbu hot n 0 σ g4 (by omega) hM h62 h64 (fun v hv => absurd hv (Nat.not_lt_zero v)) Fr.rf
