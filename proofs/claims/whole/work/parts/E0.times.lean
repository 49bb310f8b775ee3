set_option maxHeartbeats 4000000 in
set_option maxRecDepth 100000 in
theorem l_M_times {l : Launch} {D : va_G} {tys : List (ClassId × FieldType)} {b N : Nat} {σ : Nat → Option va_E} {d : Int64} (hp : ¬ d = 0) {R : Room} {v : Int64} : ∀ (n : Nat) (a : Nat) (r x : Int64), n ≤ 62 → a < 2 ^ n → tiN d n r x a = v → Z l D kCl tys (kh_M_times :: zT) kNw ky_M_times.cls ky_M_times.name kb_M_times 12 (some FieldType.long) R b (zFi D kCl b 0 0 (zD (some (.long v)) N σ)) 0 0 N (σ) 9 [(10, .long (lN a)), (8, .long x), (6, .long r), (4, .long d)] [] := by
  intro n
  induction n with
  | zero =>
    intro a r x hn ha hv
    obtain rfl : a = 0 := by simp at ha; exact ha
    have hv : r = v := hv
    subst hv
    refine z_lload kd_M_times_9 0 rfl ?_
    refine z_lconst (v := 0) kd_M_times_11 (by decide +kernel) ?_
    refine z_lcmp kd_M_times_12 ?_
    refine z_if_le (tgt := 54) kd_M_times_13 (by decide) (fun c13 => ?_) (fun c13 => ?_)
    · refine z_lload kd_M_times_54 2 rfl ?_
      exact z_lret kd_M_times_56 rfl (Nat.le_of_ble_eq_true rfl) (Nat.le_of_ble_eq_true rfl) ⟨rfl, rfl, rfl⟩
    · exact absurd ((lg_cmp_le _ _).mpr (by decide)) c13
  | succ n ih =>
    intro a r x hn ha hv
    have ha62 : a < 2 ^ 62 := Nat.lt_of_lt_of_le ha (Nat.pow_le_pow_right (by decide) hn)
    unfold tiN at hv
    by_cases h0 : a = 0
    · rw [if_pos h0] at hv
      subst hv
      subst h0
      refine z_lload kd_M_times_9 0 rfl ?_
      refine z_lconst (v := 0) kd_M_times_11 (by decide +kernel) ?_
      refine z_lcmp kd_M_times_12 ?_
      refine z_if_le (tgt := 54) kd_M_times_13 (by decide) (fun c13 => ?_) (fun c13 => ?_)
      · refine z_lload kd_M_times_54 2 rfl ?_
        exact z_lret kd_M_times_56 rfl (Nat.le_of_ble_eq_true rfl) (Nat.le_of_ble_eq_true rfl) ⟨rfl, rfl, rfl⟩
      · exact absurd ((lg_cmp_le _ _).mpr (by decide)) c13
    · rw [if_neg h0] at hv
      refine z_lload kd_M_times_9 0 rfl ?_
      refine z_lconst (v := 0) kd_M_times_11 (by decide +kernel) ?_
      refine z_lcmp kd_M_times_12 ?_
      refine z_if_le (tgt := 54) kd_M_times_13 (by decide) (fun c13 => ?_) (fun c13 => ?_)
      · exact absurd ((lg_cmp_le _ _).mp c13) (lN_pos (by omega) ha62)
      · refine z_lload kd_M_times_16 0 rfl ?_
        refine z_lconst (v := 1) kd_M_times_18 (by decide +kernel) ?_
        refine z_land kd_M_times_19 ?_
        refine z_lconst (v := 1) kd_M_times_20 (by decide +kernel) ?_
        refine z_lcmp kd_M_times_21 ?_
        refine z_if_ne (tgt := 35) kd_M_times_22 (by decide) (fun c22 => ?_) (fun c22 => ?_)
        · have hodd : ¬ a % 2 = 1 := fun q => c22 ((lg_cmp_0 _ _).mpr ((lN_odd ha62).mpr q))
          rw [if_neg hodd] at hv
          refine z_lload kd_M_times_35 1 rfl ?_
          refine z_lload kd_M_times_37 1 rfl ?_
          refine z_ladd kd_M_times_39 ?_
          refine z_lload kd_M_times_40 3 rfl ?_
          refine z_lrem kd_M_times_42 hp ?_
          refine z_lstore (lv' := [(8, .long _), (10, .long _), (6, .long _), (4, .long _)]) kd_M_times_43 (by decide) rfl ?_
          refine z_lload kd_M_times_45 1 rfl ?_
          refine z_iconst (v := 1) kd_M_times_47 (by decide) ?_
          refine z_lshr kd_M_times_48 ?_
          refine z_lstore (lv' := [(10, .long _), (8, .long _), (6, .long _), (4, .long _)]) kd_M_times_49 (by decide) rfl ?_
          refine z_goto (tgt := 9) kd_M_times_51 (by decide) ?_
          refine z_pick (lv' := [(10, .long _), (8, .long _), (6, .long _), (4, .long d)]) [0, 1, 2, 3] rfl ?_
          have hd2 : a / 2 < 2 ^ n := by rw [Nat.pow_succ] at ha; omega
          rw [lN_sh1 ha62]
          exact ih (a / 2) _ _ (by omega) hd2 hv
        · have hodd : a % 2 = 1 := (lN_odd ha62).mp ((lg_cmp_0 _ _).mp c22)
          rw [if_pos hodd] at hv
          refine z_lload kd_M_times_25 2 rfl ?_
          refine z_lload kd_M_times_27 1 rfl ?_
          refine z_ladd kd_M_times_29 ?_
          refine z_lload kd_M_times_30 3 rfl ?_
          refine z_lrem kd_M_times_32 hp ?_
          refine z_lstore (lv' := [(6, .long _), (10, .long _), (8, .long _), (4, .long _)]) kd_M_times_33 (by decide) rfl ?_
          refine z_lload kd_M_times_35 2 rfl ?_
          refine z_lload kd_M_times_37 2 rfl ?_
          refine z_ladd kd_M_times_39 ?_
          refine z_lload kd_M_times_40 3 rfl ?_
          refine z_lrem kd_M_times_42 hp ?_
          refine z_lstore (lv' := [(8, .long _), (6, .long _), (10, .long _), (4, .long _)]) kd_M_times_43 (by decide) rfl ?_
          refine z_lload kd_M_times_45 2 rfl ?_
          refine z_iconst (v := 1) kd_M_times_47 (by decide) ?_
          refine z_lshr kd_M_times_48 ?_
          refine z_lstore (lv' := [(10, .long _), (8, .long _), (6, .long _), (4, .long _)]) kd_M_times_49 (by decide) rfl ?_
          refine z_goto (tgt := 9) kd_M_times_51 (by decide) ?_
          refine z_pick (lv' := [(10, .long _), (8, .long _), (6, .long _), (4, .long d)]) [0, 1, 2, 3] rfl ?_
          have hd2 : a / 2 < 2 ^ n := by rw [Nat.pow_succ] at ha; omega
          rw [lN_sh1 ha62]
          exact ih (a / 2) _ _ (by omega) hd2 hv
set_option maxHeartbeats 4000000 in
set_option maxRecDepth 100000 in
theorem c_M_times0 {l : Launch} {D : va_G} {tys : List (ClassId × FieldType)} {b N : Nat} {σ : Nat → Option va_E} {x d : Int64} {a : Nat} (ha : a < 2 ^ 62) (hp : ¬ d = 0) : zM l D kCl tys kNw b ky_M_times (kh_M_times :: zT) 0 0 0 0 [.long x, .long (lN a), .long d] N σ (zD (some (.long (tiN d 62 0 x a))) N σ) := by
  refine zM.of (by decide +kernel) rfl (Nat.le_of_ble_eq_true rfl) ?_
  refine z_pick (lv' := [(0, .long x), (2, .long (lN a)), (4, .long d)]) [0, 1, 2] rfl ?_
  refine z_lconst (v := 0) kd_M_times_0 (by decide +kernel) ?_
  refine z_lstore (lv' := [(6, .long _), (0, .long _), (2, .long _), (4, .long _)]) kd_M_times_1 (by decide) rfl ?_
  refine z_lload_n kd_M_times_3 1 rfl ?_
  refine z_lstore (lv' := [(8, .long _), (6, .long _), (0, .long _), (2, .long _), (4, .long _)]) kd_M_times_4 (by decide) rfl ?_
  refine z_lload_n kd_M_times_6 3 rfl ?_
  refine z_lstore (lv' := [(10, .long _), (8, .long _), (6, .long _), (0, .long _), (2, .long _), (4, .long _)]) kd_M_times_7 (by decide) rfl ?_
  refine z_pick (lv' := [(10, .long (lN a)), (8, .long x), (6, .long 0), (4, .long d)]) [0, 1, 2, 5] rfl ?_
  exact l_M_times hp 62 a _ _ (by omega) ha rfl
theorem lN_of {y : Int64} (h : 0 ≤ y.toInt) : lN y.toInt.toNat = y := by
  apply Int64.toInt_inj.mp
  have := i64_lt y
  unfold lN
  rw [Int64.toInt_ofNat_of_lt (by omega)]; omega
theorem c_M_times {l : Launch} {D : va_G} {tys : List (ClassId × FieldType)} {b N : Nat} {σ : Nat → Option va_E} {x y d : Int64} (hy : 0 ≤ y.toInt) (hy2 : y.toInt < 4611686018427387904) (hp : ¬ d = 0) : zM l D kCl tys kNw b ky_M_times (kh_M_times :: zT) 0 0 0 0 [.long x, .long y, .long d] N σ (zD (some (.long (tmR x y d))) N σ) := by
  have := c_M_times0 (l := l) (D := D) (tys := tys) (b := b) (N := N) (σ := σ) (x := x) (d := d) (a := y.toInt.toNat) (by omega) hp
  rw [lN_of hy] at this
  exact this
/-- a row less a multiple of another -/
def lrL (i k : Nat) (t d : Int64) : Nat → Nat → (Nat → Nat → Int64) → Nat → Nat → Int64
  | 0, _, M => M
  | m + 1, j, M => lrL i k t d m (j + 1) (mset M i j (jrem (M i j + d - tmR (M k j) (jrem t d) d) d))
def lcL (j k : Nat) (t d : Int64) : Nat → Nat → (Nat → Nat → Int64) → Nat → Nat → Int64
  | 0, _, M => M
  | m + 1, i, M => lcL j k t d m (i + 1) (mset M i j (jrem (M i j + d - tmR (M i k) (jrem t d) d) d))
def swK (j k i : Nat) (M : Nat → Nat → Int64) : Nat → Nat → Int64 := fun p q => if p < i then (if q = j then M p k else if q = k then M p j else M p q) else M p q
theorem swK_0 {j k : Nat} {M : Nat → Nat → Int64} : swK j k 0 M = M := by
  funext p q
  unfold swK
  rw [if_neg (by omega)]
theorem swK_s {j k i : Nat} {M : Nat → Nat → Int64} (hne : j ≠ k) : mset (mset (swK j k i M) i j (swK j k i M i k)) i k (swK j k i M i j) = swK j k (i + 1) M := by
  funext p q
  unfold mset swK
  by_cases c1 : p = i
  · subst c1
    by_cases c2 : q = k
    · subst c2; simp [show ¬ q = j from fun z => hne z.symm]
    · by_cases c3 : q = j
      · subst c3; simp [c2]
      · simp [c2, c3]
  · by_cases c4 : p < i
    · simp [c1, c4, show p < i + 1 by omega]
    · simp [c1, c4, show ¬ p < i + 1 by omega]
set_option maxHeartbeats 4000000 in
set_option maxRecDepth 100000 in
theorem l_M_lr {l : Launch} {D : va_G} {tys : List (ClassId × FieldType)} {b N : Nat} {σ0 : Nat → Option va_E} {cI cJ cA : ClassId} (ht0 : tys[0]? = some (cI, .int)) (ht1 : tys[1]? = some (cJ, .long)) (ht3 : tys[3]? = some (cA, .array .long)) {th fa ls rm : Value} {n a : Nat} {gf gt gw : Nat → Int32} {F T : Nat → Nat} {i k s : Nat} {t d : Int64} (hs : s ≤ 10) (hi : i < 10) (hk : k < 10) (hp : ¬ d = 0) (ht1y : 0 ≤ (jrem t d).toInt) (ht2y : (jrem t d).toInt < 4611686018427387904) {Mf : Nat → Nat → Int64} : ∀ (m j : Nat) (σ : Nat → Option va_E) (g : Nat → Int64) (M : Nat → Nat → Int64), j + m = s → MN b cI σ th fa ls rm n a gf gt gw F T → σ 60 = some (.inl (cJ, 100, .inr (.inl g))) → RM g M → Fr 60 60 σ0 σ → lrL i k t d m j M = Mf → Z l D kCl tys (kh_M_lessRow :: zT) kNw ky_M_lessRow.cls ky_M_lessRow.name kb_M_lessRow 9 none { frames := 1, cells := 0, slots := 0, locals := 40 } b (zFi D kCl b 0 0 (fun oc N' σ' => oc = .returned none ∧ N' = N ∧ (∃ g, RM g (Mf) ∧ σ' 60 = some (.inl (cJ, 100, .inr (.inl g)))) ∧ Fr 60 60 σ0 σ')) 0 0 N (σ) 3 [(8, .int (nI j)), (0, .ref (b + 54)), (1, .int (nI i)), (2, .int (nI k)), (3, .long t), (5, .int (nI s)), (6, .long d)] [] := by
  intro m
  induction m with
  | zero =>
    intro j σ g M hm hM h60 r60 hF hv
    obtain rfl : j = s := by omega
    have hv : M = Mf := hv
    subst hv
    refine z_iload kd_M_lessRow_3 0 rfl ?_
    refine z_iload kd_M_lessRow_5 5 rfl ?_
    refine z_icmp_ge (tgt := 68) kd_M_lessRow_7 (by decide) (fun c7 => ?_) (fun c7 => ?_)
    · exact z_vret kd_M_lessRow_68 rfl (Nat.le_of_ble_eq_true rfl) (Nat.le_of_ble_eq_true rfl) ⟨rfl, rfl, ⟨_, r60, h60⟩, hF⟩
    · exact absurd (nI_le (Nat.le_refl j) (by omega)) c7
  | succ m ih =>
    intro j σ g M hm hM h60 r60 hF hv
    have hlt : j < s := by omega
    unfold lrL at hv
    refine z_iload kd_M_lessRow_3 0 rfl ?_
    refine z_iload kd_M_lessRow_5 5 rfl ?_
    refine z_icmp_ge (tgt := 68) kd_M_lessRow_7 (by decide) (fun c7 => ?_) (fun c7 => ?_)
    · exact absurd c7 (nI_ge hlt (by omega))
    · refine z_aload_n kd_M_lessRow_10 1 rfl ?_
      refine z_get kd_M_lessRow_11 (kf_M_26 _) hM.h1 rfl ?_
      refine z_bipush (v := 10) kd_M_lessRow_14 (by decide +kernel) ?_
      refine z_iload_n kd_M_lessRow_16 2 rfl ?_
      refine z_imul kd_M_lessRow_17 ?_
      refine z_topi (nI_mul 10 i) ?_
      refine z_iload kd_M_lessRow_18 0 rfl ?_
      refine z_iadd kd_M_lessRow_20 ?_
      refine z_topi (nI_add (10 * i) j) ?_
      refine z_aload_n kd_M_lessRow_21 1 rfl ?_
      refine z_get kd_M_lessRow_22 (kf_M_26 _) hM.h1 rfl ?_
      refine z_bipush (v := 10) kd_M_lessRow_25 (by decide +kernel) ?_
      refine z_iload_n kd_M_lessRow_27 2 rfl ?_
      refine z_imul kd_M_lessRow_28 ?_
      refine z_topi (nI_mul 10 i) ?_
      refine z_iload kd_M_lessRow_29 0 rfl ?_
      refine z_iadd kd_M_lessRow_31 ?_
      refine z_topi (nI_add (10 * i) j) ?_
      refine z_laldN (t0 := 1) kd_M_lessRow_32 (by assumption) h60 (by omega) (by decide) ?_
      refine z_topl (RM.get r60 (i := i) (j := j) (by omega) (by omega)) ?_
      refine z_lload kd_M_lessRow_33 6 rfl ?_
      refine z_ladd kd_M_lessRow_35 ?_
      refine z_aload_n kd_M_lessRow_36 1 rfl ?_
      refine z_get kd_M_lessRow_37 (kf_M_26 _) hM.h1 rfl ?_
      refine z_bipush (v := 10) kd_M_lessRow_40 (by decide +kernel) ?_
      refine z_iload_n kd_M_lessRow_42 3 rfl ?_
      refine z_imul kd_M_lessRow_43 ?_
      refine z_topi (nI_mul 10 k) ?_
      refine z_iload kd_M_lessRow_44 0 rfl ?_
      refine z_iadd kd_M_lessRow_46 ?_
      refine z_topi (nI_add (10 * k) j) ?_
      refine z_laldN (t0 := 1) kd_M_lessRow_47 (by assumption) h60 (by omega) (by decide) ?_
      refine z_topl (RM.get r60 (i := k) (j := j) (by omega) (by omega)) ?_
      refine z_lload_n kd_M_lessRow_48 4 rfl ?_
      refine z_lload kd_M_lessRow_49 6 rfl ?_
      refine z_lrem kd_M_lessRow_51 hp ?_
      refine z_lload kd_M_lessRow_52 6 rfl ?_
      refine z_S1 (As := [_, _, _]) kd_M_lessRow_54 (kg_M_166 _) (c_M_times ht1y ht2y hp) rfl rfl (Nat.le_of_ble_eq_true rfl) ⟨Nat.le_of_ble_eq_true rfl, Nat.le_of_ble_eq_true rfl⟩ ⟨Nat.le_of_ble_eq_true rfl, Nat.le_of_ble_eq_true rfl⟩ ?_
      refine z_lsub kd_M_lessRow_57 ?_
      refine z_lload kd_M_lessRow_58 6 rfl ?_
      refine z_lrem kd_M_lessRow_60 hp ?_
      refine z_lastN (t0 := 1) kd_M_lessRow_61 (by assumption) h60 (by omega) (by decide) ?_
      refine z_upd (fun σ_1 x60_1 q_1 => ?_)
      have hM_1 := hM.fr q_1 (by omega)
      have r60_1 := RM.setX (i := i) (j := j) r60 (by omega) (by omega) x60_1
      refine z_iinc (v := (nI (j + 1))) (lv' := [(8, .int _), (0, .ref (b + 54)), (1, .int _), (2, .int _), (3, .long _), (5, .int _), (6, .long _)]) kd_M_lessRow_62 0 rfl (nI_1 _) (by decide) rfl ?_
      refine z_goto (tgt := 3) kd_M_lessRow_65 (by decide) ?_
      refine z_pick (lv' := [(8, .int (nI (j + 1))), (0, .ref (b + 54)), (1, .int (nI i)), (2, .int (nI k)), (3, .long t), (5, .int (nI s)), (6, .long d)]) [0, 1, 2, 3, 4, 5, 6] rfl ?_
      exact ih (j + 1) _ _ _ (by omega) hM_1 x60_1 r60_1 (Fr.tr hF (q_1.wide (by omega) (by omega))) hv
set_option maxHeartbeats 4000000 in
set_option maxRecDepth 100000 in
theorem l_M_lc {l : Launch} {D : va_G} {tys : List (ClassId × FieldType)} {b N : Nat} {σ0 : Nat → Option va_E} {cI cJ cA : ClassId} (ht0 : tys[0]? = some (cI, .int)) (ht1 : tys[1]? = some (cJ, .long)) (ht3 : tys[3]? = some (cA, .array .long)) {th fa ls rm : Value} {n a : Nat} {gf gt gw : Nat → Int32} {F T : Nat → Nat} {i k s : Nat} {t d : Int64} (hs : s ≤ 10) (hi : i < 10) (hk : k < 10) (hp : ¬ d = 0) (ht1y : 0 ≤ (jrem t d).toInt) (ht2y : (jrem t d).toInt < 4611686018427387904) {Mf : Nat → Nat → Int64} : ∀ (m j : Nat) (σ : Nat → Option va_E) (g : Nat → Int64) (M : Nat → Nat → Int64), j + m = s → MN b cI σ th fa ls rm n a gf gt gw F T → σ 60 = some (.inl (cJ, 100, .inr (.inl g))) → RM g M → Fr 60 60 σ0 σ → lcL i k t d m j M = Mf → Z l D kCl tys (kh_M_lessColumn :: zT) kNw ky_M_lessColumn.cls ky_M_lessColumn.name kb_M_lessColumn 9 none { frames := 1, cells := 0, slots := 0, locals := 40 } b (zFi D kCl b 0 0 (fun oc N' σ' => oc = .returned none ∧ N' = N ∧ (∃ g, RM g (Mf) ∧ σ' 60 = some (.inl (cJ, 100, .inr (.inl g)))) ∧ Fr 60 60 σ0 σ')) 0 0 N (σ) 3 [(8, .int (nI j)), (0, .ref (b + 54)), (1, .int (nI i)), (2, .int (nI k)), (3, .long t), (5, .int (nI s)), (6, .long d)] [] := by
  intro m
  induction m with
  | zero =>
    intro j σ g M hm hM h60 r60 hF hv
    obtain rfl : j = s := by omega
    have hv : M = Mf := hv
    subst hv
    refine z_iload kd_M_lessColumn_3 0 rfl ?_
    refine z_iload kd_M_lessColumn_5 5 rfl ?_
    refine z_icmp_ge (tgt := 68) kd_M_lessColumn_7 (by decide) (fun c7 => ?_) (fun c7 => ?_)
    · exact z_vret kd_M_lessColumn_68 rfl (Nat.le_of_ble_eq_true rfl) (Nat.le_of_ble_eq_true rfl) ⟨rfl, rfl, ⟨_, r60, h60⟩, hF⟩
    · exact absurd (nI_le (Nat.le_refl j) (by omega)) c7
  | succ m ih =>
    intro j σ g M hm hM h60 r60 hF hv
    have hlt : j < s := by omega
    unfold lcL at hv
    refine z_iload kd_M_lessColumn_3 0 rfl ?_
    refine z_iload kd_M_lessColumn_5 5 rfl ?_
    refine z_icmp_ge (tgt := 68) kd_M_lessColumn_7 (by decide) (fun c7 => ?_) (fun c7 => ?_)
    · exact absurd c7 (nI_ge hlt (by omega))
    · refine z_aload_n kd_M_lessColumn_10 1 rfl ?_
      refine z_get kd_M_lessColumn_11 (kf_M_26 _) hM.h1 rfl ?_
      refine z_bipush (v := 10) kd_M_lessColumn_14 (by decide +kernel) ?_
      refine z_iload kd_M_lessColumn_16 0 rfl ?_
      refine z_imul kd_M_lessColumn_18 ?_
      refine z_topi (nI_mul 10 j) ?_
      refine z_iload_n kd_M_lessColumn_19 2 rfl ?_
      refine z_iadd kd_M_lessColumn_20 ?_
      refine z_topi (nI_add (10 * j) i) ?_
      refine z_aload_n kd_M_lessColumn_21 1 rfl ?_
      refine z_get kd_M_lessColumn_22 (kf_M_26 _) hM.h1 rfl ?_
      refine z_bipush (v := 10) kd_M_lessColumn_25 (by decide +kernel) ?_
      refine z_iload kd_M_lessColumn_27 0 rfl ?_
      refine z_imul kd_M_lessColumn_29 ?_
      refine z_topi (nI_mul 10 j) ?_
      refine z_iload_n kd_M_lessColumn_30 2 rfl ?_
      refine z_iadd kd_M_lessColumn_31 ?_
      refine z_topi (nI_add (10 * j) i) ?_
      refine z_laldN (t0 := 1) kd_M_lessColumn_32 (by assumption) h60 (by omega) (by decide) ?_
      refine z_topl (RM.get r60 (i := j) (j := i) (by omega) (by omega)) ?_
      refine z_lload kd_M_lessColumn_33 6 rfl ?_
      refine z_ladd kd_M_lessColumn_35 ?_
      refine z_aload_n kd_M_lessColumn_36 1 rfl ?_
      refine z_get kd_M_lessColumn_37 (kf_M_26 _) hM.h1 rfl ?_
      refine z_bipush (v := 10) kd_M_lessColumn_40 (by decide +kernel) ?_
      refine z_iload kd_M_lessColumn_42 0 rfl ?_
      refine z_imul kd_M_lessColumn_44 ?_
      refine z_topi (nI_mul 10 j) ?_
      refine z_iload_n kd_M_lessColumn_45 3 rfl ?_
      refine z_iadd kd_M_lessColumn_46 ?_
      refine z_topi (nI_add (10 * j) k) ?_
      refine z_laldN (t0 := 1) kd_M_lessColumn_47 (by assumption) h60 (by omega) (by decide) ?_
      refine z_topl (RM.get r60 (i := j) (j := k) (by omega) (by omega)) ?_
      refine z_lload_n kd_M_lessColumn_48 4 rfl ?_
      refine z_lload kd_M_lessColumn_49 6 rfl ?_
      refine z_lrem kd_M_lessColumn_51 hp ?_
      refine z_lload kd_M_lessColumn_52 6 rfl ?_
      refine z_S1 (As := [_, _, _]) kd_M_lessColumn_54 (kg_M_166 _) (c_M_times ht1y ht2y hp) rfl rfl (Nat.le_of_ble_eq_true rfl) ⟨Nat.le_of_ble_eq_true rfl, Nat.le_of_ble_eq_true rfl⟩ ⟨Nat.le_of_ble_eq_true rfl, Nat.le_of_ble_eq_true rfl⟩ ?_
      refine z_lsub kd_M_lessColumn_57 ?_
      refine z_lload kd_M_lessColumn_58 6 rfl ?_
      refine z_lrem kd_M_lessColumn_60 hp ?_
      refine z_lastN (t0 := 1) kd_M_lessColumn_61 (by assumption) h60 (by omega) (by decide) ?_
      refine z_upd (fun σ_1 x60_1 q_1 => ?_)
      have hM_1 := hM.fr q_1 (by omega)
      have r60_1 := RM.setX (i := j) (j := i) r60 (by omega) (by omega) x60_1
      refine z_iinc (v := (nI (j + 1))) (lv' := [(8, .int _), (0, .ref (b + 54)), (1, .int _), (2, .int _), (3, .long _), (5, .int _), (6, .long _)]) kd_M_lessColumn_62 0 rfl (nI_1 _) (by decide) rfl ?_
      refine z_goto (tgt := 3) kd_M_lessColumn_65 (by decide) ?_
      refine z_pick (lv' := [(8, .int (nI (j + 1))), (0, .ref (b + 54)), (1, .int (nI i)), (2, .int (nI k)), (3, .long t), (5, .int (nI s)), (6, .long d)]) [0, 1, 2, 3, 4, 5, 6] rfl ?_
      exact ih (j + 1) _ _ _ (by omega) hM_1 x60_1 r60_1 (Fr.tr hF (q_1.wide (by omega) (by omega))) hv
set_option maxHeartbeats 4000000 in
set_option maxRecDepth 100000 in
theorem l_M_swr {l : Launch} {D : va_G} {tys : List (ClassId × FieldType)} {b N : Nat} {σ0 : Nat → Option va_E} {cI cJ cA : ClassId} (ht0 : tys[0]? = some (cI, .int)) (ht1 : tys[1]? = some (cJ, .long)) (ht3 : tys[3]? = some (cA, .array .long)) {th fa ls rm : Value} {n a : Nat} {gf gt gw : Nat → Int32} {F T : Nat → Nat} {i k s : Nat} (hs : s ≤ 10) (hi : i < 10) (hk : k < 10) (hne : i ≠ k) {M0 Mf : Nat → Nat → Int64} : ∀ (m j : Nat) (σ : Nat → Option va_E) (g : Nat → Int64), j + m = s → MN b cI σ th fa ls rm n a gf gt gw F T → σ 60 = some (.inl (cJ, 100, .inr (.inl g))) → RM g (swJ i k j M0) → Fr 60 60 σ0 σ → swJ i k s M0 = Mf → Z l D kCl tys (kh_M_swapRows :: zT) kNw ky_M_swapRows.cls ky_M_swapRows.name kb_M_swapRows 7 none { frames := 1, cells := 0, slots := 0, locals := 40 } b (zFi D kCl b 0 0 (fun oc N' σ' => oc = .returned none ∧ N' = N ∧ (∃ g, RM g (Mf) ∧ σ' 60 = some (.inl (cJ, 100, .inr (.inl g)))) ∧ Fr 60 60 σ0 σ')) 0 0 N (σ) 3 [(4, .int (nI j)), (0, .ref (b + 54)), (1, .int (nI i)), (2, .int (nI k)), (3, .int (nI s))] [] := by
  intro m
  induction m with
  | zero =>
    intro j σ g hm hM h60 r60 hF hv
    obtain rfl : j = s := by omega
    subst hv
    refine z_iload kd_M_swapRows_3 0 rfl ?_
    refine z_iload_n kd_M_swapRows_5 4 rfl ?_
    refine z_icmp_ge (tgt := 67) kd_M_swapRows_6 (by decide) (fun c6 => ?_) (fun c6 => ?_)
    · exact z_vret kd_M_swapRows_67 rfl (Nat.le_of_ble_eq_true rfl) (Nat.le_of_ble_eq_true rfl) ⟨rfl, rfl, ⟨_, r60, h60⟩, hF⟩
    · exact absurd (nI_le (Nat.le_refl j) (by omega)) c6
  | succ m ih =>
    intro j σ g hm hM h60 r60 hF hv
    have hlt : j < s := by omega
    refine z_iload kd_M_swapRows_3 0 rfl ?_
    refine z_iload_n kd_M_swapRows_5 4 rfl ?_
    refine z_icmp_ge (tgt := 67) kd_M_swapRows_6 (by decide) (fun c6 => ?_) (fun c6 => ?_)
    · exact absurd c6 (nI_ge hlt (by omega))
    · refine z_aload_n kd_M_swapRows_9 1 rfl ?_
      refine z_get kd_M_swapRows_10 (kf_M_26 _) hM.h1 rfl ?_
      refine z_bipush (v := 10) kd_M_swapRows_13 (by decide +kernel) ?_
      refine z_iload_n kd_M_swapRows_15 2 rfl ?_
      refine z_imul kd_M_swapRows_16 ?_
      refine z_topi (nI_mul 10 i) ?_
      refine z_iload kd_M_swapRows_17 0 rfl ?_
      refine z_iadd kd_M_swapRows_19 ?_
      refine z_topi (nI_add (10 * i) j) ?_
      refine z_laldN (t0 := 1) kd_M_swapRows_20 (by assumption) h60 (by omega) (by decide) ?_
      refine z_topl (RM.get r60 (i := i) (j := j) (by omega) (by omega)) ?_
      refine z_lstore (lv' := [(5, .long _), (4, .int _), (0, .ref (b + 54)), (1, .int _), (2, .int _), (3, .int _)]) kd_M_swapRows_21 (by decide) rfl ?_
      refine z_aload_n kd_M_swapRows_23 2 rfl ?_
      refine z_get kd_M_swapRows_24 (kf_M_26 _) hM.h1 rfl ?_
      refine z_bipush (v := 10) kd_M_swapRows_27 (by decide +kernel) ?_
      refine z_iload_n kd_M_swapRows_29 3 rfl ?_
      refine z_imul kd_M_swapRows_30 ?_
      refine z_topi (nI_mul 10 i) ?_
      refine z_iload kd_M_swapRows_31 1 rfl ?_
      refine z_iadd kd_M_swapRows_33 ?_
      refine z_topi (nI_add (10 * i) j) ?_
      refine z_aload_n kd_M_swapRows_34 2 rfl ?_
      refine z_get kd_M_swapRows_35 (kf_M_26 _) hM.h1 rfl ?_
      refine z_bipush (v := 10) kd_M_swapRows_38 (by decide +kernel) ?_
      refine z_iload_n kd_M_swapRows_40 4 rfl ?_
      refine z_imul kd_M_swapRows_41 ?_
      refine z_topi (nI_mul 10 k) ?_
      refine z_iload kd_M_swapRows_42 1 rfl ?_
      refine z_iadd kd_M_swapRows_44 ?_
      refine z_topi (nI_add (10 * k) j) ?_
      refine z_laldN (t0 := 1) kd_M_swapRows_45 (by assumption) h60 (by omega) (by decide) ?_
      refine z_topl (RM.get r60 (i := k) (j := j) (by omega) (by omega)) ?_
      refine z_lastN (t0 := 1) kd_M_swapRows_46 (by assumption) h60 (by omega) (by decide) ?_
      refine z_upd (fun σ_1 x60_1 q_1 => ?_)
      have hM_1 := hM.fr q_1 (by omega)
      have r60_1 := RM.setX (i := i) (j := j) r60 (by omega) (by omega) x60_1
      refine z_aload_n kd_M_swapRows_47 2 rfl ?_
      refine z_get kd_M_swapRows_48 (kf_M_26 _) hM_1.h1 rfl ?_
      refine z_bipush (v := 10) kd_M_swapRows_51 (by decide +kernel) ?_
      refine z_iload_n kd_M_swapRows_53 4 rfl ?_
      refine z_imul kd_M_swapRows_54 ?_
      refine z_topi (nI_mul 10 k) ?_
      refine z_iload kd_M_swapRows_55 1 rfl ?_
      refine z_iadd kd_M_swapRows_57 ?_
      refine z_topi (nI_add (10 * k) j) ?_
      refine z_lload kd_M_swapRows_58 0 rfl ?_
      refine z_lastN (t0 := 1) kd_M_swapRows_60 (by assumption) x60_1 (by omega) (by decide) ?_
      refine z_upd (fun σ_2 x60_2 q_2 => ?_)
      have hM_2 := hM_1.fr q_2 (by omega)
      have r60_2 := RM.setX (i := k) (j := j) r60_1 (by omega) (by omega) x60_2
      refine z_iinc (v := (nI (j + 1))) (lv' := [(4, .int _), (5, .long _), (0, .ref (b + 54)), (1, .int _), (2, .int _), (3, .int _)]) kd_M_swapRows_61 1 rfl (nI_1 _) (by decide) rfl ?_
      refine z_goto (tgt := 3) kd_M_swapRows_64 (by decide) ?_
      refine z_pick (lv' := [(4, .int (nI (j + 1))), (0, .ref (b + 54)), (1, .int (nI i)), (2, .int (nI k)), (3, .int (nI s))]) [0, 2, 3, 4, 5] rfl ?_
      exact ih (j + 1) _ _ (by omega) hM_2 x60_2 (by rw [← (swJ_s hne)]; exact r60_2) (Fr.tr (Fr.tr hF (q_1.wide (by omega) (by omega))) (q_2.wide (by omega) (by omega))) hv
set_option maxHeartbeats 4000000 in
set_option maxRecDepth 100000 in
theorem l_M_swc {l : Launch} {D : va_G} {tys : List (ClassId × FieldType)} {b N : Nat} {σ0 : Nat → Option va_E} {cI cJ cA : ClassId} (ht0 : tys[0]? = some (cI, .int)) (ht1 : tys[1]? = some (cJ, .long)) (ht3 : tys[3]? = some (cA, .array .long)) {th fa ls rm : Value} {n a : Nat} {gf gt gw : Nat → Int32} {F T : Nat → Nat} {i k s : Nat} (hs : s ≤ 10) (hi : i < 10) (hk : k < 10) (hne : i ≠ k) {M0 Mf : Nat → Nat → Int64} : ∀ (m j : Nat) (σ : Nat → Option va_E) (g : Nat → Int64), j + m = s → MN b cI σ th fa ls rm n a gf gt gw F T → σ 60 = some (.inl (cJ, 100, .inr (.inl g))) → RM g (swK i k j M0) → Fr 60 60 σ0 σ → swK i k s M0 = Mf → Z l D kCl tys (kh_M_swapColumns :: zT) kNw ky_M_swapColumns.cls ky_M_swapColumns.name kb_M_swapColumns 7 none { frames := 1, cells := 0, slots := 0, locals := 40 } b (zFi D kCl b 0 0 (fun oc N' σ' => oc = .returned none ∧ N' = N ∧ (∃ g, RM g (Mf) ∧ σ' 60 = some (.inl (cJ, 100, .inr (.inl g)))) ∧ Fr 60 60 σ0 σ')) 0 0 N (σ) 3 [(4, .int (nI j)), (0, .ref (b + 54)), (1, .int (nI i)), (2, .int (nI k)), (3, .int (nI s))] [] := by
  intro m
  induction m with
  | zero =>
    intro j σ g hm hM h60 r60 hF hv
    obtain rfl : j = s := by omega
    subst hv
    refine z_iload kd_M_swapColumns_3 0 rfl ?_
    refine z_iload_n kd_M_swapColumns_5 4 rfl ?_
    refine z_icmp_ge (tgt := 67) kd_M_swapColumns_6 (by decide) (fun c6 => ?_) (fun c6 => ?_)
    · exact z_vret kd_M_swapColumns_67 rfl (Nat.le_of_ble_eq_true rfl) (Nat.le_of_ble_eq_true rfl) ⟨rfl, rfl, ⟨_, r60, h60⟩, hF⟩
    · exact absurd (nI_le (Nat.le_refl j) (by omega)) c6
  | succ m ih =>
    intro j σ g hm hM h60 r60 hF hv
    have hlt : j < s := by omega
    refine z_iload kd_M_swapColumns_3 0 rfl ?_
    refine z_iload_n kd_M_swapColumns_5 4 rfl ?_
    refine z_icmp_ge (tgt := 67) kd_M_swapColumns_6 (by decide) (fun c6 => ?_) (fun c6 => ?_)
    · exact absurd c6 (nI_ge hlt (by omega))
    · refine z_aload_n kd_M_swapColumns_9 1 rfl ?_
      refine z_get kd_M_swapColumns_10 (kf_M_26 _) hM.h1 rfl ?_
      refine z_bipush (v := 10) kd_M_swapColumns_13 (by decide +kernel) ?_
      refine z_iload kd_M_swapColumns_15 0 rfl ?_
      refine z_imul kd_M_swapColumns_17 ?_
      refine z_topi (nI_mul 10 j) ?_
      refine z_iload_n kd_M_swapColumns_18 2 rfl ?_
      refine z_iadd kd_M_swapColumns_19 ?_
      refine z_topi (nI_add (10 * j) i) ?_
      refine z_laldN (t0 := 1) kd_M_swapColumns_20 (by assumption) h60 (by omega) (by decide) ?_
      refine z_topl (RM.get r60 (i := j) (j := i) (by omega) (by omega)) ?_
      refine z_lstore (lv' := [(5, .long _), (4, .int _), (0, .ref (b + 54)), (1, .int _), (2, .int _), (3, .int _)]) kd_M_swapColumns_21 (by decide) rfl ?_
      refine z_aload_n kd_M_swapColumns_23 2 rfl ?_
      refine z_get kd_M_swapColumns_24 (kf_M_26 _) hM.h1 rfl ?_
      refine z_bipush (v := 10) kd_M_swapColumns_27 (by decide +kernel) ?_
      refine z_iload kd_M_swapColumns_29 1 rfl ?_
      refine z_imul kd_M_swapColumns_31 ?_
      refine z_topi (nI_mul 10 j) ?_
      refine z_iload_n kd_M_swapColumns_32 3 rfl ?_
      refine z_iadd kd_M_swapColumns_33 ?_
      refine z_topi (nI_add (10 * j) i) ?_
      refine z_aload_n kd_M_swapColumns_34 2 rfl ?_
      refine z_get kd_M_swapColumns_35 (kf_M_26 _) hM.h1 rfl ?_
      refine z_bipush (v := 10) kd_M_swapColumns_38 (by decide +kernel) ?_
      refine z_iload kd_M_swapColumns_40 1 rfl ?_
      refine z_imul kd_M_swapColumns_42 ?_
      refine z_topi (nI_mul 10 j) ?_
      refine z_iload_n kd_M_swapColumns_43 4 rfl ?_
      refine z_iadd kd_M_swapColumns_44 ?_
      refine z_topi (nI_add (10 * j) k) ?_
      refine z_laldN (t0 := 1) kd_M_swapColumns_45 (by assumption) h60 (by omega) (by decide) ?_
      refine z_topl (RM.get r60 (i := j) (j := k) (by omega) (by omega)) ?_
      refine z_lastN (t0 := 1) kd_M_swapColumns_46 (by assumption) h60 (by omega) (by decide) ?_
      refine z_upd (fun σ_1 x60_1 q_1 => ?_)
      have hM_1 := hM.fr q_1 (by omega)
      have r60_1 := RM.setX (i := j) (j := i) r60 (by omega) (by omega) x60_1
      refine z_aload_n kd_M_swapColumns_47 2 rfl ?_
      refine z_get kd_M_swapColumns_48 (kf_M_26 _) hM_1.h1 rfl ?_
      refine z_bipush (v := 10) kd_M_swapColumns_51 (by decide +kernel) ?_
      refine z_iload kd_M_swapColumns_53 1 rfl ?_
      refine z_imul kd_M_swapColumns_55 ?_
      refine z_topi (nI_mul 10 j) ?_
      refine z_iload_n kd_M_swapColumns_56 4 rfl ?_
      refine z_iadd kd_M_swapColumns_57 ?_
      refine z_topi (nI_add (10 * j) k) ?_
      refine z_lload kd_M_swapColumns_58 0 rfl ?_
      refine z_lastN (t0 := 1) kd_M_swapColumns_60 (by assumption) x60_1 (by omega) (by decide) ?_
      refine z_upd (fun σ_2 x60_2 q_2 => ?_)
      have hM_2 := hM_1.fr q_2 (by omega)
      have r60_2 := RM.setX (i := j) (j := k) r60_1 (by omega) (by omega) x60_2
      refine z_iinc (v := (nI (j + 1))) (lv' := [(4, .int _), (5, .long _), (0, .ref (b + 54)), (1, .int _), (2, .int _), (3, .int _)]) kd_M_swapColumns_61 1 rfl (nI_1 _) (by decide) rfl ?_
      refine z_goto (tgt := 3) kd_M_swapColumns_64 (by decide) ?_
      refine z_pick (lv' := [(4, .int (nI (j + 1))), (0, .ref (b + 54)), (1, .int (nI i)), (2, .int (nI k)), (3, .int (nI s))]) [0, 2, 3, 4, 5] rfl ?_
      exact ih (j + 1) _ _ (by omega) hM_2 x60_2 (by rw [← (swK_s hne)]; exact r60_2) (Fr.tr (Fr.tr hF (q_1.wide (by omega) (by omega))) (q_2.wide (by omega) (by omega))) hv
set_option maxHeartbeats 4000000 in
set_option maxRecDepth 100000 in
theorem c_M_lessRow {l : Launch} {D : va_G} {tys : List (ClassId × FieldType)} {b N : Nat} {σ : Nat → Option va_E} {cI cJ cA : ClassId} (ht0 : tys[0]? = some (cI, .int)) (ht1 : tys[1]? = some (cJ, .long)) (ht3 : tys[3]? = some (cA, .array .long)) {th fa ls rm : Value} {n a : Nat} {gf gt gw : Nat → Int32} {F T : Nat → Nat} (hM : MN b cI σ th fa ls rm n a gf gt gw F T) {g0 : Nat → Int64} {M : Nat → Nat → Int64} (r60 : RM g0 M) (h60 : σ 60 = some (.inl (cJ, 100, .inr (.inl g0)))) {i k s : Nat} {t d : Int64} (hs : s ≤ 10) (hi : i < 10) (hk : k < 10) (hp : ¬ d = 0) (ht1y : 0 ≤ (jrem t d).toInt) (ht2y : (jrem t d).toInt < 4611686018427387904) : zM l D kCl tys kNw b ky_M_lessRow (kh_M_lessRow :: zT) 1 40 0 0 [.ref (b + 54), .int (nI i), .int (nI k), .long t, .int (nI s), .long d] N σ ((fun oc N' σ' => oc = .returned none ∧ N' = N ∧ (∃ g, RM g (lrL i k t d s 0 M) ∧ σ' 60 = some (.inl (cJ, 100, .inr (.inl g)))) ∧ Fr 60 60 σ σ')) := by
  refine zM.of (by decide +kernel) rfl (Nat.le_of_ble_eq_true rfl) ?_
  refine z_pick (lv' := [(0, .ref (b + 54)), (1, .int (nI i)), (2, .int (nI k)), (3, .long t), (5, .int (nI s)), (6, .long d)]) [0, 1, 2, 3, 4, 5] rfl ?_
  refine z_iconst (v := 0) kd_M_lessRow_0 (by decide) ?_
  refine z_istore (lv' := [(8, .int _), (0, .ref (b + 54)), (1, .int _), (2, .int _), (3, .long _), (5, .int _), (6, .long _)]) kd_M_lessRow_1 (by decide) rfl ?_
  refine z_pick (lv' := [(8, .int (nI 0)), (0, .ref (b + 54)), (1, .int (nI i)), (2, .int (nI k)), (3, .long t), (5, .int (nI s)), (6, .long d)]) [0, 1, 2, 3, 4, 5, 6] rfl ?_
  exact l_M_lr ht0 ht1 ht3 hs hi hk hp ht1y ht2y s 0 _ _ _ (by omega) hM h60 r60 Fr.rf rfl
set_option maxHeartbeats 4000000 in
set_option maxRecDepth 100000 in
theorem c_M_lessColumn {l : Launch} {D : va_G} {tys : List (ClassId × FieldType)} {b N : Nat} {σ : Nat → Option va_E} {cI cJ cA : ClassId} (ht0 : tys[0]? = some (cI, .int)) (ht1 : tys[1]? = some (cJ, .long)) (ht3 : tys[3]? = some (cA, .array .long)) {th fa ls rm : Value} {n a : Nat} {gf gt gw : Nat → Int32} {F T : Nat → Nat} (hM : MN b cI σ th fa ls rm n a gf gt gw F T) {g0 : Nat → Int64} {M : Nat → Nat → Int64} (r60 : RM g0 M) (h60 : σ 60 = some (.inl (cJ, 100, .inr (.inl g0)))) {i k s : Nat} {t d : Int64} (hs : s ≤ 10) (hi : i < 10) (hk : k < 10) (hp : ¬ d = 0) (ht1y : 0 ≤ (jrem t d).toInt) (ht2y : (jrem t d).toInt < 4611686018427387904) : zM l D kCl tys kNw b ky_M_lessColumn (kh_M_lessColumn :: zT) 1 40 0 0 [.ref (b + 54), .int (nI i), .int (nI k), .long t, .int (nI s), .long d] N σ ((fun oc N' σ' => oc = .returned none ∧ N' = N ∧ (∃ g, RM g (lcL i k t d s 0 M) ∧ σ' 60 = some (.inl (cJ, 100, .inr (.inl g)))) ∧ Fr 60 60 σ σ')) := by
  refine zM.of (by decide +kernel) rfl (Nat.le_of_ble_eq_true rfl) ?_
  refine z_pick (lv' := [(0, .ref (b + 54)), (1, .int (nI i)), (2, .int (nI k)), (3, .long t), (5, .int (nI s)), (6, .long d)]) [0, 1, 2, 3, 4, 5] rfl ?_
  refine z_iconst (v := 0) kd_M_lessColumn_0 (by decide) ?_
  refine z_istore (lv' := [(8, .int _), (0, .ref (b + 54)), (1, .int _), (2, .int _), (3, .long _), (5, .int _), (6, .long _)]) kd_M_lessColumn_1 (by decide) rfl ?_
  refine z_pick (lv' := [(8, .int (nI 0)), (0, .ref (b + 54)), (1, .int (nI i)), (2, .int (nI k)), (3, .long t), (5, .int (nI s)), (6, .long d)]) [0, 1, 2, 3, 4, 5, 6] rfl ?_
  exact l_M_lc ht0 ht1 ht3 hs hi hk hp ht1y ht2y s 0 _ _ _ (by omega) hM h60 r60 Fr.rf rfl
set_option maxHeartbeats 4000000 in
set_option maxRecDepth 100000 in
theorem c_M_swapRows {l : Launch} {D : va_G} {tys : List (ClassId × FieldType)} {b N : Nat} {σ : Nat → Option va_E} {cI cJ cA : ClassId} (ht0 : tys[0]? = some (cI, .int)) (ht1 : tys[1]? = some (cJ, .long)) (ht3 : tys[3]? = some (cA, .array .long)) {th fa ls rm : Value} {n a : Nat} {gf gt gw : Nat → Int32} {F T : Nat → Nat} (hM : MN b cI σ th fa ls rm n a gf gt gw F T) {g0 : Nat → Int64} {M : Nat → Nat → Int64} (r60 : RM g0 M) (h60 : σ 60 = some (.inl (cJ, 100, .inr (.inl g0)))) {i k s : Nat} (hs : s ≤ 10) (hi : i < 10) (hk : k < 10) (hne : i ≠ k) : zM l D kCl tys kNw b ky_M_swapRows (kh_M_swapRows :: zT) 1 40 0 0 [.ref (b + 54), .int (nI i), .int (nI k), .int (nI s)] N σ ((fun oc N' σ' => oc = .returned none ∧ N' = N ∧ (∃ g, RM g (swJ i k s M) ∧ σ' 60 = some (.inl (cJ, 100, .inr (.inl g)))) ∧ Fr 60 60 σ σ')) := by
  refine zM.of (by decide +kernel) rfl (Nat.le_of_ble_eq_true rfl) ?_
  refine z_pick (lv' := [(0, .ref (b + 54)), (1, .int (nI i)), (2, .int (nI k)), (3, .int (nI s))]) [0, 1, 2, 3] rfl ?_
  refine z_iconst (v := 0) kd_M_swapRows_0 (by decide) ?_
  refine z_istore (lv' := [(4, .int _), (0, .ref (b + 54)), (1, .int _), (2, .int _), (3, .int _)]) kd_M_swapRows_1 (by decide) rfl ?_
  refine z_pick (lv' := [(4, .int (nI 0)), (0, .ref (b + 54)), (1, .int (nI i)), (2, .int (nI k)), (3, .int (nI s))]) [0, 1, 2, 3, 4] rfl ?_
  exact l_M_swr ht0 ht1 ht3 hs hi hk hne s 0 _ _ (by omega) hM h60 (by rw [swJ_0]; exact r60) Fr.rf rfl
set_option maxHeartbeats 4000000 in
set_option maxRecDepth 100000 in
theorem c_M_swapColumns {l : Launch} {D : va_G} {tys : List (ClassId × FieldType)} {b N : Nat} {σ : Nat → Option va_E} {cI cJ cA : ClassId} (ht0 : tys[0]? = some (cI, .int)) (ht1 : tys[1]? = some (cJ, .long)) (ht3 : tys[3]? = some (cA, .array .long)) {th fa ls rm : Value} {n a : Nat} {gf gt gw : Nat → Int32} {F T : Nat → Nat} (hM : MN b cI σ th fa ls rm n a gf gt gw F T) {g0 : Nat → Int64} {M : Nat → Nat → Int64} (r60 : RM g0 M) (h60 : σ 60 = some (.inl (cJ, 100, .inr (.inl g0)))) {i k s : Nat} (hs : s ≤ 10) (hi : i < 10) (hk : k < 10) (hne : i ≠ k) : zM l D kCl tys kNw b ky_M_swapColumns (kh_M_swapColumns :: zT) 1 40 0 0 [.ref (b + 54), .int (nI i), .int (nI k), .int (nI s)] N σ ((fun oc N' σ' => oc = .returned none ∧ N' = N ∧ (∃ g, RM g (swK i k s M) ∧ σ' 60 = some (.inl (cJ, 100, .inr (.inl g)))) ∧ Fr 60 60 σ σ')) := by
  refine zM.of (by decide +kernel) rfl (Nat.le_of_ble_eq_true rfl) ?_
  refine z_pick (lv' := [(0, .ref (b + 54)), (1, .int (nI i)), (2, .int (nI k)), (3, .int (nI s))]) [0, 1, 2, 3] rfl ?_
  refine z_iconst (v := 0) kd_M_swapColumns_0 (by decide) ?_
  refine z_istore (lv' := [(4, .int _), (0, .ref (b + 54)), (1, .int _), (2, .int _), (3, .int _)]) kd_M_swapColumns_1 (by decide) rfl ?_
  refine z_pick (lv' := [(4, .int (nI 0)), (0, .ref (b + 54)), (1, .int (nI i)), (2, .int (nI k)), (3, .int (nI s))]) [0, 1, 2, 3, 4] rfl ?_
  exact l_M_swc ht0 ht1 ht3 hs hi hk hne s 0 _ _ (by omega) hM h60 (by rw [swK_0]; exact r60) Fr.rf rfl
