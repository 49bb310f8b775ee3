def cfI (M : Nat → Nat → Int64) (i : Nat) : Nat → Nat → Int64 → Int64
  | 0, _, g => g
  | m + 1, j, g => cfI M i m (j + 1) (cdV g (M i j))
def cfO (M : Nat → Nat → Int64) (t s : Nat) : Nat → Nat → Int64 → Int64
  | 0, _, g => g
  | m + 1, i, g => cfO M t s m (i + 1) (cfI M i (s - t) t g)
def cfV (M : Nat → Nat → Int64) (t s : Nat) (d : Int64) : Int64 := cfO M t s (s - t) t d
theorem cfI_nn {M : Nat → Nat → Int64} {i s : Nat} {p : Int} (hi : i < s) (h : mRg p s M) : ∀ m j g, j + m = s → 0 ≤ g.toInt → 0 ≤ (cfI M i m j g).toInt := by
  intro m
  induction m with
  | zero => intro j g _ h0; exact h0
  | succ m ih => intro j g hj h0; exact ih (j + 1) _ (by omega) (cd_nn h0 (h i j hi (by omega)).1)
/-- an entry of the row that the divisor does not divide -/
def ioL (M : Nat → Nat → Int64) (i : Nat) (g : Int64) : Nat → Nat → Bool → Bool
  | 0, _, q => q
  | m + 1, j, q => ioL M i g m (j + 1) (q || decide (¬ jrem (M i j) g = 0))
def ioV (M : Nat → Nat → Int64) (t s : Nat) (d : Int64) (i : Nat) : Bool := ioL M i (cdV (M t t) d) (s - (t + 1)) (t + 1) false
set_option maxHeartbeats 4000000 in
set_option maxRecDepth 100000 in
theorem l_M_cfi {l : Launch} {D : va_G} {tys : List (ClassId × FieldType)} {b N : Nat} {σ : Nat → Option va_E} {cI cJ cA : ClassId} (ht0 : tys[0]? = some (cI, .int)) (ht1 : tys[1]? = some (cJ, .long)) (ht3 : tys[3]? = some (cA, .array .long)) {th fa ls rm : Value} {n a : Nat} {gf gt gw : Nat → Int32} {F T : Nat → Nat} (hM : MN b cI σ th fa ls rm n a gf gt gw F T) {t s : Nat} {d : Int64} (hs : s ≤ 10) (ht : t < s) (hd : 0 < d.toInt) (hd2 : d.toInt < 4611686018427387904) {g0 : Nat → Int64} {M : Nat → Nat → Int64} (r60 : RM g0 M) (h60 : σ 60 = some (.inl (cJ, 100, .inr (.inl g0)))) (hR : mRg d.toInt s M) {i : Nat} (hi : i < s) {Q : Outcome → Nat → (Nat → Option va_E) → Prop} {val : Int64} (kk : Z l D kCl tys (kh_M_commonFrom :: zT) kNw ky_M_commonFrom.cls ky_M_commonFrom.name kb_M_commonFrom 9 (some FieldType.long) { frames := 1, cells := 0, slots := 0, locals := 40 } b (zFi D kCl b 0 0 Q) 0 0 N (σ) 6 [(7, .int (nI (i + 1))), (5, .long val), (0, .ref (b + 54)), (1, .int (nI t)), (2, .int (nI s))] []) : ∀ (m j : Nat) (g : Int64), j + m = s → 0 ≤ g.toInt → cfI M i m j g = val → Z l D kCl tys (kh_M_commonFrom :: zT) kNw ky_M_commonFrom.cls ky_M_commonFrom.name kb_M_commonFrom 9 (some FieldType.long) { frames := 1, cells := 0, slots := 0, locals := 40 } b (zFi D kCl b 0 0 Q) 0 0 N (σ) 15 [(8, .int (nI j)), (7, .int (nI i)), (5, .long g), (0, .ref (b + 54)), (1, .int (nI t)), (2, .int (nI s))] [] := by
  intro m
  induction m with
  | zero =>
    intro j g hj hg hv
    obtain rfl : j = s := by omega
    have hv : g = val := hv
    subst hv
    refine z_iload kd_M_commonFrom_15 0 rfl ?_
    refine z_iload_n kd_M_commonFrom_17 5 rfl ?_
    refine z_icmp_ge (tgt := 47) kd_M_commonFrom_18 (by decide) (fun c18 => ?_) (fun c18 => ?_)
    · refine z_iinc (v := (nI (i + 1))) (lv' := [(7, .int _), (8, .int _), (5, .long _), (0, .ref (b + 54)), (1, .int _), (2, .int _)]) kd_M_commonFrom_47 1 rfl (nI_1 _) (by decide) rfl ?_
      refine z_goto (tgt := 6) kd_M_commonFrom_50 (by decide) ?_
      refine z_pick (lv' := [(7, .int (nI (i + 1))), (5, .long g), (0, .ref (b + 54)), (1, .int (nI t)), (2, .int (nI j))]) [0, 2, 3, 4, 5] rfl ?_
      exact kk
    · exact absurd (nI_le (Nat.le_refl j) (by omega)) c18
  | succ m ih =>
    intro j g hj hg hv
    have hlt : j < s := by omega
    unfold cfI at hv
    refine z_iload kd_M_commonFrom_15 0 rfl ?_
    refine z_iload_n kd_M_commonFrom_17 5 rfl ?_
    refine z_icmp_ge (tgt := 47) kd_M_commonFrom_18 (by decide) (fun c18 => ?_) (fun c18 => ?_)
    · exact absurd c18 (nI_ge hlt (by omega))
    · refine z_lload kd_M_commonFrom_21 2 rfl ?_
      refine z_aload_n kd_M_commonFrom_23 3 rfl ?_
      refine z_get kd_M_commonFrom_24 (kf_M_26 _) hM.h1 rfl ?_
      refine z_bipush (v := 10) kd_M_commonFrom_27 (by decide +kernel) ?_
      refine z_iload kd_M_commonFrom_29 1 rfl ?_
      refine z_imul kd_M_commonFrom_31 ?_
      refine z_topi (nI_mul 10 i) ?_
      refine z_iload kd_M_commonFrom_32 0 rfl ?_
      refine z_iadd kd_M_commonFrom_34 ?_
      refine z_topi (nI_add (10 * i) j) ?_
      refine z_laldN (t0 := 1) kd_M_commonFrom_35 (by assumption) h60 (by omega) (by decide) ?_
      refine z_topl (RM.get r60 (i := i) (j := j) (by omega) (by omega)) ?_
      refine z_S1 (As := [_, _]) kd_M_commonFrom_36 (kg_M_140 _) (c_M_gcd (gc_some hg (hR i j hi hlt).1)) rfl rfl (Nat.le_of_ble_eq_true rfl) ⟨Nat.le_of_ble_eq_true rfl, Nat.le_of_ble_eq_true rfl⟩ ⟨Nat.le_of_ble_eq_true rfl, Nat.le_of_ble_eq_true rfl⟩ ?_
      refine z_lstore (lv' := [(5, .long _), (8, .int _), (7, .int _), (0, .ref (b + 54)), (1, .int _), (2, .int _)]) kd_M_commonFrom_39 (by decide) rfl ?_
      refine z_iinc (v := (nI (j + 1))) (lv' := [(8, .int _), (5, .long _), (7, .int _), (0, .ref (b + 54)), (1, .int _), (2, .int _)]) kd_M_commonFrom_41 1 rfl (nI_1 _) (by decide) rfl ?_
      refine z_goto (tgt := 15) kd_M_commonFrom_44 (by decide) ?_
      refine z_pick (lv' := [(8, .int (nI (j + 1))), (7, .int (nI i)), (5, .long _), (0, .ref (b + 54)), (1, .int (nI t)), (2, .int (nI s))]) [0, 2, 1, 3, 4, 5] rfl ?_
      exact ih (j + 1) _ (by omega) (cd_nn hg (hR i j hi hlt).1) hv
set_option maxHeartbeats 4000000 in
set_option maxRecDepth 100000 in
theorem l_M_cfo {l : Launch} {D : va_G} {tys : List (ClassId × FieldType)} {b N : Nat} {σ : Nat → Option va_E} {cI cJ cA : ClassId} (ht0 : tys[0]? = some (cI, .int)) (ht1 : tys[1]? = some (cJ, .long)) (ht3 : tys[3]? = some (cA, .array .long)) {th fa ls rm : Value} {n a : Nat} {gf gt gw : Nat → Int32} {F T : Nat → Nat} (hM : MN b cI σ th fa ls rm n a gf gt gw F T) {t s : Nat} {d : Int64} (hs : s ≤ 10) (ht : t < s) (hd : 0 < d.toInt) (hd2 : d.toInt < 4611686018427387904) {g0 : Nat → Int64} {M : Nat → Nat → Int64} (r60 : RM g0 M) (h60 : σ 60 = some (.inl (cJ, 100, .inr (.inl g0)))) (hR : mRg d.toInt s M) {val : Int64} : ∀ (m i : Nat) (g : Int64), i + m = s → 0 ≤ g.toInt → cfO M t s m i g = val → Z l D kCl tys (kh_M_commonFrom :: zT) kNw ky_M_commonFrom.cls ky_M_commonFrom.name kb_M_commonFrom 9 (some FieldType.long) { frames := 1, cells := 0, slots := 0, locals := 40 } b (zFi D kCl b 0 0 (zD (some (.long val)) N σ)) 0 0 N (σ) 6 [(7, .int (nI i)), (5, .long g), (0, .ref (b + 54)), (1, .int (nI t)), (2, .int (nI s))] [] := by
  intro m
  induction m with
  | zero =>
    intro i g hi hg hv
    obtain rfl : i = s := by omega
    have hv : g = val := hv
    subst hv
    refine z_iload kd_M_commonFrom_6 0 rfl ?_
    refine z_iload_n kd_M_commonFrom_8 4 rfl ?_
    refine z_icmp_ge (tgt := 53) kd_M_commonFrom_9 (by decide) (fun c9 => ?_) (fun c9 => ?_)
    · refine z_lload kd_M_commonFrom_53 1 rfl ?_
      exact z_lret kd_M_commonFrom_55 rfl (Nat.le_of_ble_eq_true rfl) (Nat.le_of_ble_eq_true rfl) ⟨rfl, rfl, rfl⟩
    · exact absurd (nI_le (Nat.le_refl i) (by omega)) c9
  | succ m ih =>
    intro i g hi hg hv
    have hlt : i < s := by omega
    unfold cfO at hv
    refine z_iload kd_M_commonFrom_6 0 rfl ?_
    refine z_iload_n kd_M_commonFrom_8 4 rfl ?_
    refine z_icmp_ge (tgt := 53) kd_M_commonFrom_9 (by decide) (fun c9 => ?_) (fun c9 => ?_)
    · exact absurd c9 (nI_ge hlt (by omega))
    · refine z_iload_n kd_M_commonFrom_12 3 rfl ?_
      refine z_istore (lv' := [(8, .int _), (7, .int _), (5, .long _), (0, .ref (b + 54)), (1, .int _), (2, .int _)]) kd_M_commonFrom_13 (by decide) rfl ?_
      refine z_pick (lv' := [(8, .int (nI t)), (7, .int (nI i)), (5, .long g), (0, .ref (b + 54)), (1, .int (nI t)), (2, .int (nI s))]) [0, 1, 2, 3, 4, 5] rfl ?_
      exact l_M_cfi ht0 ht1 ht3 hM hs ht hd hd2 r60 h60 hR hlt (ih (i + 1) _ (by omega) (cfI_nn hlt hR _ _ _ (by omega) hg) hv) (s - t) t g (by omega) hg rfl
set_option maxHeartbeats 4000000 in
set_option maxRecDepth 100000 in
theorem c_M_commonFrom {l : Launch} {D : va_G} {tys : List (ClassId × FieldType)} {b N : Nat} {σ : Nat → Option va_E} {cI cJ cA : ClassId} (ht0 : tys[0]? = some (cI, .int)) (ht1 : tys[1]? = some (cJ, .long)) (ht3 : tys[3]? = some (cA, .array .long)) {th fa ls rm : Value} {n a : Nat} {gf gt gw : Nat → Int32} {F T : Nat → Nat} (hM : MN b cI σ th fa ls rm n a gf gt gw F T) {t s : Nat} {d : Int64} (hs : s ≤ 10) (ht : t < s) (hd : 0 < d.toInt) (hd2 : d.toInt < 4611686018427387904) {g0 : Nat → Int64} {M : Nat → Nat → Int64} (r60 : RM g0 M) (h60 : σ 60 = some (.inl (cJ, 100, .inr (.inl g0)))) (hR : mRg d.toInt s M) : zM l D kCl tys kNw b ky_M_commonFrom (kh_M_commonFrom :: zT) 1 40 0 0 [.ref (b + 54), .int (nI t), .int (nI s), .long d] N σ (zD (some (.long (cfV M t s d))) N σ) := by
  refine zM.of (by decide +kernel) rfl (Nat.le_of_ble_eq_true rfl) ?_
  refine z_pick (lv' := [(0, .ref (b + 54)), (1, .int (nI t)), (2, .int (nI s)), (3, .long d)]) [0, 1, 2, 3] rfl ?_
  refine z_lload_n kd_M_commonFrom_0 3 rfl ?_
  refine z_lstore (lv' := [(5, .long _), (0, .ref (b + 54)), (1, .int _), (2, .int _), (3, .long _)]) kd_M_commonFrom_1 (by decide) rfl ?_
  refine z_iload_n kd_M_commonFrom_3 2 rfl ?_
  refine z_istore (lv' := [(7, .int _), (5, .long _), (0, .ref (b + 54)), (1, .int _), (2, .int _), (3, .long _)]) kd_M_commonFrom_4 (by decide) rfl ?_
  refine z_pick (lv' := [(7, .int (nI t)), (5, .long d), (0, .ref (b + 54)), (1, .int (nI t)), (2, .int (nI s))]) [0, 1, 2, 3, 4] rfl ?_
  exact l_M_cfo ht0 ht1 ht3 hM hs ht hd hd2 r60 h60 hR (s - t) t d (by omega) (by omega) rfl
set_option maxHeartbeats 4000000 in
set_option maxRecDepth 100000 in
theorem l_M_io {l : Launch} {D : va_G} {tys : List (ClassId × FieldType)} {b N : Nat} {σ : Nat → Option va_E} {cI cJ cA : ClassId} (ht0 : tys[0]? = some (cI, .int)) (ht1 : tys[1]? = some (cJ, .long)) (ht3 : tys[3]? = some (cA, .array .long)) {th fa ls rm : Value} {n a : Nat} {gf gt gw : Nat → Int32} {F T : Nat → Nat} (hM : MN b cI σ th fa ls rm n a gf gt gw F T) {t s : Nat} {d : Int64} (hs : s ≤ 10) (ht : t < s) (hd : 0 < d.toInt) (hd2 : d.toInt < 4611686018427387904) {g0 : Nat → Int64} {M : Nat → Nat → Int64} (r60 : RM g0 M) (h60 : σ 60 = some (.inl (cJ, 100, .inr (.inl g0)))) (hR : mRg d.toInt s M) {i : Nat} (hi : i < s) {g : Int64} (hg : ¬ g = 0) {val : Bool} {R : Room} : ∀ (m j : Nat) (q : Bool), j + m = s → ioL M i g m j q = val → Z l D kCl tys (kh_M_isOther :: zT) kNw ky_M_isOther.cls ky_M_isOther.name kb_M_isOther 10 (some FieldType.boolean) R b (zFi D kCl b 0 0 (zD (some (.int (zB val))) N σ)) 0 0 N (σ) 24 [(9, .int (nI j)), (8, .int (zB q)), (6, .long g), (0, .ref (b + 54)), (1, .int (nI i)), (2, .int (nI t)), (3, .int (nI s))] [] := by
  intro m
  induction m with
  | zero =>
    intro j q hj hv
    obtain rfl : j = s := by omega
    have hv : q = val := hv
    subst hv
    refine z_iload kd_M_isOther_24 0 rfl ?_
    refine z_iload_n kd_M_isOther_26 6 rfl ?_
    refine z_icmp_ge (tgt := 68) kd_M_isOther_27 (by decide) (fun c27 => ?_) (fun c27 => ?_)
    · refine z_iload kd_M_isOther_68 1 rfl ?_
      exact z_zret kd_M_isOther_70 rfl (zB_n _) (Nat.le_of_ble_eq_true rfl) (Nat.le_of_ble_eq_true rfl) ⟨rfl, rfl, rfl⟩
    · exact absurd (nI_le (Nat.le_refl j) (by omega)) c27
  | succ m ih =>
    intro j q hj hv
    have hlt : j < s := by omega
    unfold ioL at hv
    refine z_iload kd_M_isOther_24 0 rfl ?_
    refine z_iload_n kd_M_isOther_26 6 rfl ?_
    refine z_icmp_ge (tgt := 68) kd_M_isOther_27 (by decide) (fun c27 => ?_) (fun c27 => ?_)
    · exact absurd c27 (nI_ge hlt (by omega))
    · refine z_iload kd_M_isOther_30 1 rfl ?_
      refine z_if_ne (tgt := 55) kd_M_isOther_32 (by decide) (fun c32 => ?_) (fun c32 => ?_)
      · have hq : q = true := zB_t c32
        rw [hq, Bool.true_or] at hv
        refine z_iconst (v := 1) kd_M_isOther_55 (by decide) ?_
        refine z_goto (tgt := 60) kd_M_isOther_56 (by decide) ?_
        refine z_istore (lv' := [(8, .int _), (9, .int _), (6, .long _), (0, .ref (b + 54)), (1, .int _), (2, .int _), (3, .int _)]) kd_M_isOther_60 (by decide) rfl ?_
        refine z_iinc (v := (nI (j + 1))) (lv' := [(9, .int _), (8, .int _), (6, .long _), (0, .ref (b + 54)), (1, .int _), (2, .int _), (3, .int _)]) kd_M_isOther_62 1 rfl (nI_1 _) (by decide) rfl ?_
        refine z_goto (tgt := 24) kd_M_isOther_65 (by decide) ?_
        refine z_pick (lv' := [(9, .int (nI (j + 1))), (8, .int (zB true)), (6, .long g), (0, .ref (b + 54)), (1, .int (nI i)), (2, .int (nI t)), (3, .int (nI s))]) [0, 1, 2, 3, 4, 5, 6] rfl ?_
        exact ih (j + 1) true (by omega) hv
      · have hq : q = false := zB_f c32
        rw [hq, Bool.false_or] at hv
        refine z_aload_n kd_M_isOther_35 3 rfl ?_
        refine z_get kd_M_isOther_36 (kf_M_26 _) hM.h1 rfl ?_
        refine z_bipush (v := 10) kd_M_isOther_39 (by decide +kernel) ?_
        refine z_iload_n kd_M_isOther_41 4 rfl ?_
        refine z_imul kd_M_isOther_42 ?_
        refine z_topi (nI_mul 10 i) ?_
        refine z_iload kd_M_isOther_43 0 rfl ?_
        refine z_iadd kd_M_isOther_45 ?_
        refine z_topi (nI_add (10 * i) j) ?_
        refine z_laldN (t0 := 1) kd_M_isOther_46 (by assumption) h60 (by omega) (by decide) ?_
        refine z_topl (RM.get r60 (i := i) (j := j) (by omega) (by omega)) ?_
        refine z_lload kd_M_isOther_47 2 rfl ?_
        refine z_lrem kd_M_isOther_49 hg ?_
        refine z_lconst (v := 0) kd_M_isOther_50 (by decide +kernel) ?_
        refine z_lcmp kd_M_isOther_51 ?_
        refine z_if_eq (tgt := 59) kd_M_isOther_52 (by decide) (fun c52 => ?_) (fun c52 => ?_)
        · rw [decide_eq_false (fun z => z ((lg_cmp_0 _ _).mp c52))] at hv
          refine z_iconst (v := 0) kd_M_isOther_59 (by decide) ?_
          refine z_istore (lv' := [(8, .int _), (9, .int _), (6, .long _), (0, .ref (b + 54)), (1, .int _), (2, .int _), (3, .int _)]) kd_M_isOther_60 (by decide) rfl ?_
          refine z_iinc (v := (nI (j + 1))) (lv' := [(9, .int _), (8, .int _), (6, .long _), (0, .ref (b + 54)), (1, .int _), (2, .int _), (3, .int _)]) kd_M_isOther_62 1 rfl (nI_1 _) (by decide) rfl ?_
          refine z_goto (tgt := 24) kd_M_isOther_65 (by decide) ?_
          refine z_pick (lv' := [(9, .int (nI (j + 1))), (8, .int (zB false)), (6, .long g), (0, .ref (b + 54)), (1, .int (nI i)), (2, .int (nI t)), (3, .int (nI s))]) [0, 1, 2, 3, 4, 5, 6] rfl ?_
          exact ih (j + 1) false (by omega) hv
        · rw [decide_eq_true (show ¬ jrem (M i j) g = 0 from fun z => c52 ((lg_cmp_0 _ _).mpr z))] at hv
          refine z_iconst (v := 1) kd_M_isOther_55 (by decide) ?_
          refine z_goto (tgt := 60) kd_M_isOther_56 (by decide) ?_
          refine z_istore (lv' := [(8, .int _), (9, .int _), (6, .long _), (0, .ref (b + 54)), (1, .int _), (2, .int _), (3, .int _)]) kd_M_isOther_60 (by decide) rfl ?_
          refine z_iinc (v := (nI (j + 1))) (lv' := [(9, .int _), (8, .int _), (6, .long _), (0, .ref (b + 54)), (1, .int _), (2, .int _), (3, .int _)]) kd_M_isOther_62 1 rfl (nI_1 _) (by decide) rfl ?_
          refine z_goto (tgt := 24) kd_M_isOther_65 (by decide) ?_
          refine z_pick (lv' := [(9, .int (nI (j + 1))), (8, .int (zB true)), (6, .long g), (0, .ref (b + 54)), (1, .int (nI i)), (2, .int (nI t)), (3, .int (nI s))]) [0, 1, 2, 3, 4, 5, 6] rfl ?_
          exact ih (j + 1) true (by omega) hv
set_option maxHeartbeats 4000000 in
set_option maxRecDepth 100000 in
theorem c_M_isOther {l : Launch} {D : va_G} {tys : List (ClassId × FieldType)} {b N : Nat} {σ : Nat → Option va_E} {cI cJ cA : ClassId} (ht0 : tys[0]? = some (cI, .int)) (ht1 : tys[1]? = some (cJ, .long)) (ht3 : tys[3]? = some (cA, .array .long)) {th fa ls rm : Value} {n a : Nat} {gf gt gw : Nat → Int32} {F T : Nat → Nat} (hM : MN b cI σ th fa ls rm n a gf gt gw F T) {t s : Nat} {d : Int64} (hs : s ≤ 10) (ht : t < s) (hd : 0 < d.toInt) (hd2 : d.toInt < 4611686018427387904) {g0 : Nat → Int64} {M : Nat → Nat → Int64} (r60 : RM g0 M) (h60 : σ 60 = some (.inl (cJ, 100, .inr (.inl g0)))) (hR : mRg d.toInt s M) {i : Nat} (hi : i < s) : zM l D kCl tys kNw b ky_M_isOther (kh_M_isOther :: zT) 1 40 0 0 [.ref (b + 54), .int (nI i), .int (nI t), .int (nI s), .long d] N σ (zD (some (.int (zB (ioV M t s d i)))) N σ) := by
  refine zM.of (by decide +kernel) rfl (Nat.le_of_ble_eq_true rfl) ?_
  refine z_pick (lv' := [(0, .ref (b + 54)), (1, .int (nI i)), (2, .int (nI t)), (3, .int (nI s)), (4, .long d)]) [0, 1, 2, 3, 4] rfl ?_
  refine z_aload_n kd_M_isOther_0 0 rfl ?_
  refine z_get kd_M_isOther_1 (kf_M_26 _) hM.h1 rfl ?_
  refine z_bipush (v := 11) kd_M_isOther_4 (by decide +kernel) ?_
  refine z_iload_n kd_M_isOther_6 2 rfl ?_
  refine z_imul kd_M_isOther_7 ?_
  refine z_topi (nI_mul 11 t) ?_
  refine z_laldN (t0 := 1) kd_M_isOther_8 (by assumption) h60 (by omega) (by decide) ?_
  refine z_topl (RM.gt11 r60 (t := t) (by omega)) ?_
  refine z_lload kd_M_isOther_9 4 rfl ?_
  refine z_S1 (As := [_, _]) kd_M_isOther_11 (kg_M_140 _) (c_M_gcd (gc_some (hR t t ht ht).1 (by omega))) rfl rfl (Nat.le_of_ble_eq_true rfl) ⟨Nat.le_of_ble_eq_true rfl, Nat.le_of_ble_eq_true rfl⟩ ⟨Nat.le_of_ble_eq_true rfl, Nat.le_of_ble_eq_true rfl⟩ ?_
  refine z_lstore (lv' := [(6, .long _), (0, .ref (b + 54)), (1, .int _), (2, .int _), (3, .int _), (4, .long _)]) kd_M_isOther_14 (by decide) rfl ?_
  refine z_iconst (v := 0) kd_M_isOther_16 (by decide) ?_
  refine z_istore (lv' := [(8, .int _), (6, .long _), (0, .ref (b + 54)), (1, .int _), (2, .int _), (3, .int _), (4, .long _)]) kd_M_isOther_17 (by decide) rfl ?_
  refine z_iload_n kd_M_isOther_19 4 rfl ?_
  refine z_iconst (v := 1) kd_M_isOther_20 (by decide) ?_
  refine z_iadd kd_M_isOther_21 ?_
  refine z_topi (nI_add t 1) ?_
  refine z_istore (lv' := [(9, .int _), (8, .int _), (6, .long _), (0, .ref (b + 54)), (1, .int _), (2, .int _), (3, .int _), (4, .long _)]) kd_M_isOther_22 (by decide) rfl ?_
  have hg : ¬ cdV (M t t) d = 0 := fun z => by have := cd_pos (u := M t t) (v := d) (hR t t ht ht).1 (by omega) (Or.inr hd); rw [z] at this; exact absurd this (by decide)
  refine z_pick (lv' := [(9, .int (nI (t + 1))), (8, .int (zB false)), (6, .long (cdV (M t t) d)), (0, .ref (b + 54)), (1, .int (nI i)), (2, .int (nI t)), (3, .int (nI s))]) [0, 1, 2, 3, 4, 5, 6] rfl ?_
  exact l_M_io ht0 ht1 ht3 hM hs ht hd hd2 r60 h60 hR hi hg (s - (t + 1)) (t + 1) _ (by omega) rfl
