/-- the quotient of two entries, reduced -/
theorem qd_ok {x y d : Int64} (hx : 0 ≤ x.toInt) (hy : 0 < y.toInt) (hd : 0 < d.toInt) (hd2 : d.toInt < 4611686018427387904) : 0 ≤ (jrem (x / y) d).toInt ∧ (jrem (x / y) d).toInt < 4611686018427387904 := by
  have e1 := i64_div (x := x) hy
  have h1 : 0 ≤ (x / y).toInt := by rw [e1]; exact Int.tdiv_nonneg hx (by omega)
  rw [i64_jremE hd h1]
  have h2 := Int.emod_nonneg (x / y).toInt (b := d.toInt) (by omega)
  have h3 := Int.emod_lt_of_pos (x / y).toInt hd
  omega
theorem lx_rg {u v t d : Int64} (hd : 0 < d.toInt) (hd2 : d.toInt < 4611686018427387904) (hu : 0 ≤ u.toInt) (hu2 : u.toInt < d.toInt) (hv : 0 ≤ v.toInt) (hv2 : v.toInt < d.toInt) (ht : 0 ≤ (jrem t d).toInt) (ht2 : (jrem t d).toInt < 4611686018427387904) : (jrem (u + d - tmR v (jrem t d) d) d).toInt = (u.toInt - v.toInt * (jrem t d).toInt) % d.toInt := by
  have et := tmR_ok hd hd2 hv hv2 ht ht2
  have t0 : 0 ≤ (tmR v (jrem t d) d).toInt := by rw [et]; exact Int.emod_nonneg _ (by omega)
  have t1 : (tmR v (jrem t d) d).toInt < d.toInt := by rw [et]; exact Int.emod_lt_of_pos _ hd
  have e1 := i64_add (x := u) (y := d) (by omega) (by omega)
  have e2 : (u + d - tmR v (jrem t d) d).toInt = u.toInt + d.toInt - (tmR v (jrem t d) d).toInt := by rw [i64_sub (by rw [e1]; omega) (by rw [e1]; omega), e1]
  rw [i64_jremE hd (by rw [e2]; omega), e2, et]
  have e3 : u.toInt + d.toInt - v.toInt * (jrem t d).toInt % d.toInt = (u.toInt - v.toInt * (jrem t d).toInt) + d.toInt * (1 + v.toInt * (jrem t d).toInt / d.toInt) := by
    have := Int.mul_ediv_add_emod (v.toInt * (jrem t d).toInt) d.toInt
    grind
  rw [e3, Int.add_mul_emod_self_left]
theorem lr_rg {i k s : Nat} {t d : Int64} (hd : 0 < d.toInt) (hd2 : d.toInt < 4611686018427387904) (hi : i < s) (hk : k < s) (ht : 0 ≤ (jrem t d).toInt) (ht2 : (jrem t d).toInt < 4611686018427387904) : ∀ m j M, j + m = s → mRg d.toInt s M → mRg d.toInt s (lrL i k t d m j M) := by
  intro m
  induction m with
  | zero => intro j M _ h; exact h
  | succ m ih =>
    intro j M hj h
    unfold lrL
    have a1 := h i j hi (by omega)
    have a2 := h k j hk (by omega)
    have e := lx_rg hd hd2 a1.1 a1.2 a2.1 a2.2 ht ht2
    exact ih (j + 1) _ (by omega) (h.set (by rw [e]; exact Int.emod_nonneg _ (by omega)) (by rw [e]; exact Int.emod_lt_of_pos _ hd))
theorem lc_rg {i k s : Nat} {t d : Int64} (hd : 0 < d.toInt) (hd2 : d.toInt < 4611686018427387904) (hi : i < s) (hk : k < s) (ht : 0 ≤ (jrem t d).toInt) (ht2 : (jrem t d).toInt < 4611686018427387904) : ∀ m j M, j + m = s → mRg d.toInt s M → mRg d.toInt s (lcL i k t d m j M) := by
  intro m
  induction m with
  | zero => intro j M _ h; exact h
  | succ m ih =>
    intro j M hj h
    unfold lcL
    have a1 := h j i (by omega) hi
    have a2 := h j k (by omega) hk
    have e := lx_rg hd hd2 a1.1 a1.2 a2.1 a2.2 ht ht2
    exact ih (j + 1) _ (by omega) (h.set (by rw [e]; exact Int.emod_nonneg _ (by omega)) (by rw [e]; exact Int.emod_lt_of_pos _ hd))
theorem sw_rg {i k s j : Nat} {p : Int} {M : Nat → Nat → Int64} (hi : i < s) (hk : k < s) (h : mRg p s M) : mRg p s (swJ i k j M) := by
  intro x y hx hy
  unfold swJ swN
  split
  · split
    · exact h k y hk hy
    · split
      · exact h i y hi hy
      · exact h x y hx hy
  · exact h x y hx hy
theorem sk_rg {i k s j : Nat} {p : Int} {M : Nat → Nat → Int64} (hi : i < s) (hk : k < s) (h : mRg p s M) : mRg p s (swK i k j M) := by
  intro x y hx hy
  unfold swK
  split
  · split
    · exact h x k hx hk
    · split
      · exact h x i hx hi
      · exact h x y hx hy
  · exact h x y hx hy
theorem rg_pos {p : Int} {s i j : Nat} {M : Nat → Nat → Int64} (h : mRg p s M) (hi : i < s) (hj : j < s) (hne : ¬ M i j = 0) : 0 < (M i j).toInt := by
  have a := (h i j hi hj).1
  have : (M i j).toInt ≠ 0 := fun q => hne (i64_zero.mp q)
  omega
def cr1 (t s : Nat) (d : Int64) (i : Nat) (M : Nat → Nat → Int64) : Nat → Nat → Int64 := if M t t = 0 then M else lrL i t (M i t / M t t) d s 0 M
def cr2 (t s i : Nat) (M : Nat → Nat → Int64) : Nat → Nat → Int64 := if M i t = 0 then M else swJ i t s M
def ccR (t s : Nat) (d : Int64) (i : Nat) : Nat → (Nat → Nat → Int64) → Option (Nat → Nat → Int64)
  | 0, _ => none
  | f + 1, M => if M i t = 0 then some M else ccR t s d i f (cr2 t s i (cr1 t s d i M))
def ccRO (t s : Nat) (d : Int64) (f : Nat) : Nat → Nat → (Nat → Nat → Int64) → Option (Nat → Nat → Int64)
  | 0, _, M => some M
  | m + 1, i, M => (ccR t s d i f M).bind (fun M' => ccRO t s d f m (i + 1) M')
def cc1 (t s : Nat) (d : Int64) (j : Nat) (M : Nat → Nat → Int64) : Nat → Nat → Int64 := if M t t = 0 then M else lcL j t (M t j / M t t) d s 0 M
def ccC (t s : Nat) (d : Int64) (j : Nat) : Nat → (Nat → Nat → Int64) → Bool → Option ((Nat → Nat → Int64) × Bool)
  | 0, _, _ => none
  | f + 1, M, go => if M t j = 0 then some (M, go) else if cc1 t s d j M t j = 0 then ccC t s d j f (cc1 t s d j M) go else ccC t s d j f (swK j t s (cc1 t s d j M)) true
def ccCO (t s : Nat) (d : Int64) (f : Nat) : Nat → Nat → (Nat → Nat → Int64) → Bool → Option ((Nat → Nat → Int64) × Bool)
  | 0, _, M, go => some (M, go)
  | m + 1, j, M, go => (ccC t s d j f M go).bind (fun r => ccCO t s d f m (j + 1) r.1 r.2)
def cc3 (t : Nat) (M : Nat → Nat → Int64) : Nat → Nat → Bool → Bool
  | 0, _, go => go
  | m + 1, i, go => cc3 t M m (i + 1) (go || decide (¬ M i t = 0))
def ccO (t s : Nat) (d : Int64) (f : Nat) : Nat → (Nat → Nat → Int64) → Option (Nat → Nat → Int64)
  | 0, _ => none
  | h + 1, M => (ccRO t s d f (s - (t + 1)) (t + 1) M).bind (fun M1 => (ccCO t s d f (s - (t + 1)) (t + 1) M1 false).bind (fun r => if cc3 t r.1 (s - (t + 1)) (t + 1) r.2 = true then ccO t s d f h r.1 else some r.1))
set_option maxHeartbeats 4000000 in
set_option maxRecDepth 100000 in
theorem l_M_ccr {l : Launch} {D : va_G} {tys : List (ClassId × FieldType)} {b N : Nat} {σ0 : Nat → Option va_E} {cI cJ cA : ClassId} (ht0 : tys[0]? = some (cI, .int)) (ht1 : tys[1]? = some (cJ, .long)) (ht3 : tys[3]? = some (cA, .array .long)) {th fa ls rm : Value} {n a : Nat} {gf gt gw : Nat → Int32} {F T : Nat → Nat} {t s : Nat} {d : Int64} (hs : s ≤ 10) (ht : t < s) (hd : 0 < d.toInt) (hd2 : d.toInt < 4611686018427387904) {i : Nat} (hi : i < s) (hne : i ≠ t) {go : Bool} {Q : Outcome → Nat → (Nat → Option va_E) → Prop} {Mf : Nat → Nat → Int64} (kk : ∀ (σ : Nat → Option va_E) (g : Nat → Int64), MN b cI σ th fa ls rm n a gf gt gw F T → σ 60 = some (.inl (cJ, 100, .inr (.inl g))) → RM g (Mf) → mRg d.toInt s (Mf) → Fr 60 60 σ0 σ → Z l D kCl tys (kh_M_clearCross :: zT) kNw ky_M_clearCross.cls ky_M_clearCross.name kb_M_clearCross 7 none { frames := 2, cells := 0, slots := 0, locals := 80 } b (zFi D kCl b 0 0 Q) 0 0 N (σ) 16 [(6, .int (nI (i + 1))), (5, .int (zB go)), (0, .ref (b + 54)), (1, .int (nI t)), (2, .int (nI s)), (3, .long d)] []) : ∀ (f : Nat) (σ : Nat → Option va_E) (g : Nat → Int64) (M : Nat → Nat → Int64), MN b cI σ th fa ls rm n a gf gt gw F T → σ 60 = some (.inl (cJ, 100, .inr (.inl g))) → RM g (M) → mRg d.toInt s (M) → Fr 60 60 σ0 σ → ccR t s d i f M = some Mf → Z l D kCl tys (kh_M_clearCross :: zT) kNw ky_M_clearCross.cls ky_M_clearCross.name kb_M_clearCross 7 none { frames := 2, cells := 0, slots := 0, locals := 80 } b (zFi D kCl b 0 0 Q) 0 0 N (σ) 22 [(6, .int (nI i)), (5, .int (zB go)), (0, .ref (b + 54)), (1, .int (nI t)), (2, .int (nI s)), (3, .long d)] [] := by
  have hd0 : ¬ d = 0 := fun z => by rw [z] at hd; exact absurd hd (by decide)
  intro f
  induction f with
  | zero => intro σ g M _ _ _ _ _ hv; cases hv
  | succ f ih =>
    intro σ g M hM h60 r60 hR hF hv
    unfold ccR at hv
    refine z_aload_n kd_M_clearCross_22 2 rfl ?_
    refine z_get kd_M_clearCross_23 (kf_M_26 _) hM.h1 rfl ?_
    refine z_bipush (v := 10) kd_M_clearCross_26 (by decide +kernel) ?_
    refine z_iload kd_M_clearCross_28 0 rfl ?_
    refine z_imul kd_M_clearCross_30 ?_
    refine z_topi (nI_mul 10 i) ?_
    refine z_iload_n kd_M_clearCross_31 3 rfl ?_
    refine z_iadd kd_M_clearCross_32 ?_
    refine z_topi (nI_add (10 * i) t) ?_
    refine z_laldN (t0 := 1) kd_M_clearCross_33 (by assumption) h60 (by omega) (by decide) ?_
    refine z_topl (RM.get r60 (i := i) (j := t) (by omega) (by omega)) ?_
    refine z_lconst (v := 0) kd_M_clearCross_34 (by decide +kernel) ?_
    refine z_lcmp kd_M_clearCross_35 ?_
    refine z_if_eq (tgt := 112) kd_M_clearCross_36 (by decide) (fun c36 => ?_) (fun c36 => ?_)
    · rw [if_pos ((lg_cmp_0 _ _).mp c36)] at hv
      cases hv
      refine z_iinc (v := (nI (i + 1))) (lv' := [(6, .int _), (5, .int _), (0, .ref (b + 54)), (1, .int _), (2, .int _), (3, .long _)]) kd_M_clearCross_112 0 rfl (nI_1 _) (by decide) rfl ?_
      refine z_goto (tgt := 16) kd_M_clearCross_115 (by decide) ?_
      refine z_pick (lv' := [(6, .int (nI (i + 1))), (5, .int (zB go)), (0, .ref (b + 54)), (1, .int (nI t)), (2, .int (nI s)), (3, .long d)]) [0, 1, 2, 3, 4, 5] rfl ?_
      exact kk _ _ hM h60 r60 hR hF
    · have q0 : ¬ M i t = 0 := fun z => c36 ((lg_cmp_0 _ _).mpr z)
      rw [if_neg q0] at hv
      refine z_aload_n kd_M_clearCross_39 2 rfl ?_
      refine z_get kd_M_clearCross_40 (kf_M_26 _) hM.h1 rfl ?_
      refine z_bipush (v := 11) kd_M_clearCross_43 (by decide +kernel) ?_
      refine z_iload_n kd_M_clearCross_45 3 rfl ?_
      refine z_imul kd_M_clearCross_46 ?_
      refine z_topi (nI_mul 11 t) ?_
      refine z_laldN (t0 := 1) kd_M_clearCross_47 (by assumption) h60 (by omega) (by decide) ?_
      refine z_topl (RM.gt11 r60 (t := t) (by omega)) ?_
      refine z_lconst (v := 0) kd_M_clearCross_48 (by decide +kernel) ?_
      refine z_lcmp kd_M_clearCross_49 ?_
      refine z_if_eq (tgt := 84) kd_M_clearCross_50 (by decide) (fun c50 => ?_) (fun c50 => ?_)
      · have q1 : M t t = 0 := (lg_cmp_0 _ _).mp c50
        unfold cr1 at hv
        rw [if_pos q1] at hv
        refine z_aload_n kd_M_clearCross_84 2 rfl ?_
        refine z_get kd_M_clearCross_85 (kf_M_26 _) hM.h1 rfl ?_
        refine z_bipush (v := 10) kd_M_clearCross_88 (by decide +kernel) ?_
        refine z_iload kd_M_clearCross_90 0 rfl ?_
        refine z_imul kd_M_clearCross_92 ?_
        refine z_topi (nI_mul 10 i) ?_
        refine z_iload_n kd_M_clearCross_93 3 rfl ?_
        refine z_iadd kd_M_clearCross_94 ?_
        refine z_topi (nI_add (10 * i) t) ?_
        refine z_laldN (t0 := 1) kd_M_clearCross_95 (by assumption) h60 (by omega) (by decide) ?_
        refine z_topl (RM.get r60 (i := i) (j := t) (by omega) (by omega)) ?_
        refine z_lconst (v := 0) kd_M_clearCross_96 (by decide +kernel) ?_
        refine z_lcmp kd_M_clearCross_97 ?_
        refine z_if_eq (tgt := 22) kd_M_clearCross_98 (by decide) (fun c98 => ?_) (fun c98 => ?_)
        · unfold cr2 at hv
          rw [if_pos ((lg_cmp_0 _ _).mp c98)] at hv
          refine z_pick (lv' := [(6, .int (nI i)), (5, .int (zB go)), (0, .ref (b + 54)), (1, .int (nI t)), (2, .int (nI s)), (3, .long d)]) [0, 1, 2, 3, 4, 5] rfl ?_
          exact ih _ _ _ hM h60 r60 hR hF hv
        · unfold cr2 at hv
          rw [if_neg (fun z => c98 ((lg_cmp_0 _ _).mpr z))] at hv
          refine z_aload_n kd_M_clearCross_101 2 rfl ?_
          refine z_iload kd_M_clearCross_102 0 rfl ?_
          refine z_iload_n kd_M_clearCross_104 3 rfl ?_
          refine z_iload_n kd_M_clearCross_105 4 rfl ?_
          refine z_callV (a := 54) (As := [_, _, _]) kd_M_clearCross_106 (kg_M_173 _) hM.h1 kc_M (c_M_swapRows ht0 ht1 ht3 hM r60 h60 hs (i := i) (k := t) (by omega) (by omega) hne) rfl rfl (Nat.le_of_ble_eq_true rfl) ⟨Nat.le_of_ble_eq_true rfl, Nat.le_of_ble_eq_true rfl⟩ ⟨Nat.le_of_ble_eq_true rfl, Nat.le_of_ble_eq_true rfl⟩ ?_
          rintro _ _ σ_1 ⟨hv, rfl, ⟨g_1, r60_1, x60_1⟩, q_1⟩
          cases hv
          refine z_eq (st' := []) rfl rfl rfl rfl ?_
          have hM_1 := hM.fr q_1 (by omega)
          refine z_goto (tgt := 22) kd_M_clearCross_109 (by decide) ?_
          refine z_pick (lv' := [(6, .int (nI i)), (5, .int (zB go)), (0, .ref (b + 54)), (1, .int (nI t)), (2, .int (nI s)), (3, .long d)]) [0, 1, 2, 3, 4, 5] rfl ?_
          exact ih _ _ _ hM_1 x60_1 r60_1 (sw_rg hi ht hR) (Fr.tr hF (q_1.wide (by omega) (by omega))) hv
      · have q1 : ¬ M t t = 0 := fun z => c50 ((lg_cmp_0 _ _).mpr z)
        unfold cr1 at hv
        rw [if_neg q1] at hv
        obtain ⟨y1, y2⟩ := qd_ok (hR i t hi ht).1 (rg_pos hR ht ht q1) hd hd2
        have hR1 := lr_rg hd hd2 hi ht y1 y2 s 0 M (by omega) hR
        refine z_aload_n kd_M_clearCross_53 2 rfl ?_
        refine z_iload kd_M_clearCross_54 0 rfl ?_
        refine z_iload_n kd_M_clearCross_56 3 rfl ?_
        refine z_aload_n kd_M_clearCross_57 2 rfl ?_
        refine z_get kd_M_clearCross_58 (kf_M_26 _) hM.h1 rfl ?_
        refine z_bipush (v := 10) kd_M_clearCross_61 (by decide +kernel) ?_
        refine z_iload kd_M_clearCross_63 0 rfl ?_
        refine z_imul kd_M_clearCross_65 ?_
        refine z_topi (nI_mul 10 i) ?_
        refine z_iload_n kd_M_clearCross_66 3 rfl ?_
        refine z_iadd kd_M_clearCross_67 ?_
        refine z_topi (nI_add (10 * i) t) ?_
        refine z_laldN (t0 := 1) kd_M_clearCross_68 (by assumption) h60 (by omega) (by decide) ?_
        refine z_topl (RM.get r60 (i := i) (j := t) (by omega) (by omega)) ?_
        refine z_aload_n kd_M_clearCross_69 2 rfl ?_
        refine z_get kd_M_clearCross_70 (kf_M_26 _) hM.h1 rfl ?_
        refine z_bipush (v := 11) kd_M_clearCross_73 (by decide +kernel) ?_
        refine z_iload_n kd_M_clearCross_75 3 rfl ?_
        refine z_imul kd_M_clearCross_76 ?_
        refine z_topi (nI_mul 11 t) ?_
        refine z_laldN (t0 := 1) kd_M_clearCross_77 (by assumption) h60 (by omega) (by decide) ?_
        refine z_topl (RM.gt11 r60 (t := t) (by omega)) ?_
        refine z_ldiv kd_M_clearCross_78 q1 ?_
        refine z_iload_n kd_M_clearCross_79 4 rfl ?_
        refine z_lload_n kd_M_clearCross_80 5 rfl ?_
        refine z_callV (a := 54) (As := [_, _, _, _, _]) kd_M_clearCross_81 (kg_M_169 _) hM.h1 kc_M (c_M_lessRow ht0 ht1 ht3 hM r60 h60 hs (i := i) (k := t) (by omega) (by omega) hd0 y1 y2) rfl rfl (Nat.le_of_ble_eq_true rfl) ⟨Nat.le_of_ble_eq_true rfl, Nat.le_of_ble_eq_true rfl⟩ ⟨Nat.le_of_ble_eq_true rfl, Nat.le_of_ble_eq_true rfl⟩ ?_
        rintro _ _ σ_2 ⟨hv, rfl, ⟨g_2, r60_2, x60_2⟩, q_2⟩
        cases hv
        refine z_eq (st' := []) rfl rfl rfl rfl ?_
        have hM_2 := hM.fr q_2 (by omega)
        refine z_aload_n kd_M_clearCross_84 2 rfl ?_
        refine z_get kd_M_clearCross_85 (kf_M_26 _) hM_2.h1 rfl ?_
        refine z_bipush (v := 10) kd_M_clearCross_88 (by decide +kernel) ?_
        refine z_iload kd_M_clearCross_90 0 rfl ?_
        refine z_imul kd_M_clearCross_92 ?_
        refine z_topi (nI_mul 10 i) ?_
        refine z_iload_n kd_M_clearCross_93 3 rfl ?_
        refine z_iadd kd_M_clearCross_94 ?_
        refine z_topi (nI_add (10 * i) t) ?_
        refine z_laldN (t0 := 1) kd_M_clearCross_95 (by assumption) x60_2 (by omega) (by decide) ?_
        refine z_topl (RM.get r60_2 (i := i) (j := t) (by omega) (by omega)) ?_
        refine z_lconst (v := 0) kd_M_clearCross_96 (by decide +kernel) ?_
        refine z_lcmp kd_M_clearCross_97 ?_
        refine z_if_eq (tgt := 22) kd_M_clearCross_98 (by decide) (fun c98 => ?_) (fun c98 => ?_)
        · unfold cr2 at hv
          rw [if_pos ((lg_cmp_0 _ _).mp c98)] at hv
          refine z_pick (lv' := [(6, .int (nI i)), (5, .int (zB go)), (0, .ref (b + 54)), (1, .int (nI t)), (2, .int (nI s)), (3, .long d)]) [0, 1, 2, 3, 4, 5] rfl ?_
          exact ih _ _ _ hM_2 x60_2 r60_2 hR1 (Fr.tr hF (q_2.wide (by omega) (by omega))) hv
        · unfold cr2 at hv
          rw [if_neg (fun z => c98 ((lg_cmp_0 _ _).mpr z))] at hv
          refine z_aload_n kd_M_clearCross_101 2 rfl ?_
          refine z_iload kd_M_clearCross_102 0 rfl ?_
          refine z_iload_n kd_M_clearCross_104 3 rfl ?_
          refine z_iload_n kd_M_clearCross_105 4 rfl ?_
          refine z_callV (a := 54) (As := [_, _, _]) kd_M_clearCross_106 (kg_M_173 _) hM_2.h1 kc_M (c_M_swapRows ht0 ht1 ht3 hM_2 r60_2 x60_2 hs (i := i) (k := t) (by omega) (by omega) hne) rfl rfl (Nat.le_of_ble_eq_true rfl) ⟨Nat.le_of_ble_eq_true rfl, Nat.le_of_ble_eq_true rfl⟩ ⟨Nat.le_of_ble_eq_true rfl, Nat.le_of_ble_eq_true rfl⟩ ?_
          rintro _ _ σ_3 ⟨hv, rfl, ⟨g_3, r60_3, x60_3⟩, q_3⟩
          cases hv
          refine z_eq (st' := []) rfl rfl rfl rfl ?_
          have hM_3 := hM_2.fr q_3 (by omega)
          refine z_goto (tgt := 22) kd_M_clearCross_109 (by decide) ?_
          refine z_pick (lv' := [(6, .int (nI i)), (5, .int (zB go)), (0, .ref (b + 54)), (1, .int (nI t)), (2, .int (nI s)), (3, .long d)]) [0, 1, 2, 3, 4, 5] rfl ?_
          exact ih _ _ _ hM_3 x60_3 r60_3 (sw_rg hi ht hR1) (Fr.tr (Fr.tr hF (q_2.wide (by omega) (by omega))) (q_3.wide (by omega) (by omega))) hv
set_option maxHeartbeats 4000000 in
set_option maxRecDepth 100000 in
theorem l_M_ccro {l : Launch} {D : va_G} {tys : List (ClassId × FieldType)} {b N : Nat} {σ0 : Nat → Option va_E} {cI cJ cA : ClassId} (ht0 : tys[0]? = some (cI, .int)) (ht1 : tys[1]? = some (cJ, .long)) (ht3 : tys[3]? = some (cA, .array .long)) {th fa ls rm : Value} {n a : Nat} {gf gt gw : Nat → Int32} {F T : Nat → Nat} {t s : Nat} {d : Int64} (hs : s ≤ 10) (ht : t < s) (hd : 0 < d.toInt) (hd2 : d.toInt < 4611686018427387904) {go : Bool} {Q : Outcome → Nat → (Nat → Option va_E) → Prop} {f : Nat} {Mf : Nat → Nat → Int64} (kk : ∀ (σ : Nat → Option va_E) (g : Nat → Int64), MN b cI σ th fa ls rm n a gf gt gw F T → σ 60 = some (.inl (cJ, 100, .inr (.inl g))) → RM g (Mf) → mRg d.toInt s (Mf) → Fr 60 60 σ0 σ → Z l D kCl tys (kh_M_clearCross :: zT) kNw ky_M_clearCross.cls ky_M_clearCross.name kb_M_clearCross 7 none { frames := 2, cells := 0, slots := 0, locals := 80 } b (zFi D kCl b 0 0 Q) 0 0 N (σ) 118 [(5, .int (zB go)), (0, .ref (b + 54)), (1, .int (nI t)), (2, .int (nI s)), (3, .long d)] []) : ∀ (m i : Nat) (σ : Nat → Option va_E) (g : Nat → Int64) (M : Nat → Nat → Int64), i + m = s → t < i → MN b cI σ th fa ls rm n a gf gt gw F T → σ 60 = some (.inl (cJ, 100, .inr (.inl g))) → RM g (M) → mRg d.toInt s (M) → Fr 60 60 σ0 σ → ccRO t s d f m i M = some Mf → Z l D kCl tys (kh_M_clearCross :: zT) kNw ky_M_clearCross.cls ky_M_clearCross.name kb_M_clearCross 7 none { frames := 2, cells := 0, slots := 0, locals := 80 } b (zFi D kCl b 0 0 Q) 0 0 N (σ) 16 [(6, .int (nI i)), (5, .int (zB go)), (0, .ref (b + 54)), (1, .int (nI t)), (2, .int (nI s)), (3, .long d)] [] := by
  intro m
  induction m with
  | zero =>
    intro i σ g M hi hti hM h60 r60 hR hF hv
    obtain rfl : i = s := by omega
    have hv : some M = some Mf := hv
    cases hv
    refine z_iload kd_M_clearCross_16 0 rfl ?_
    refine z_iload_n kd_M_clearCross_18 4 rfl ?_
    refine z_icmp_ge (tgt := 118) kd_M_clearCross_19 (by decide) (fun c19 => ?_) (fun c19 => ?_)
    · refine z_pick (lv' := [(5, .int (zB go)), (0, .ref (b + 54)), (1, .int (nI t)), (2, .int (nI i)), (3, .long d)]) [1, 2, 3, 4, 5] rfl ?_
      exact kk _ _ hM h60 r60 hR hF
    · exact absurd (nI_le (Nat.le_refl i) (by omega)) c19
  | succ m ih =>
    intro i σ g M hi hti hM h60 r60 hR hF hv
    have hlt : i < s := by omega
    unfold ccRO at hv
    cases hc : ccR t s d i f M with
    | none => rw [hc] at hv; cases hv
    | some M1 =>
      rw [hc, Option.bind_some] at hv
      refine z_iload kd_M_clearCross_16 0 rfl ?_
      refine z_iload_n kd_M_clearCross_18 4 rfl ?_
      refine z_icmp_ge (tgt := 118) kd_M_clearCross_19 (by decide) (fun c19 => ?_) (fun c19 => ?_)
      · exact absurd c19 (nI_ge hlt (by omega))
      · refine z_pick (lv' := [(6, .int (nI i)), (5, .int (zB go)), (0, .ref (b + 54)), (1, .int (nI t)), (2, .int (nI s)), (3, .long d)]) [0, 1, 2, 3, 4, 5] rfl ?_
        exact l_M_ccr ht0 ht1 ht3 hs ht hd hd2 hlt (by omega) (fun σ g hM h60 r60 hR hF => ih (i + 1) _ _ _ (by omega) (by omega) hM h60 r60 hR hF hv) f _ _ _ hM h60 r60 hR hF hc
set_option maxHeartbeats 4000000 in
set_option maxRecDepth 100000 in
theorem l_M_ccc {l : Launch} {D : va_G} {tys : List (ClassId × FieldType)} {b N : Nat} {σ0 : Nat → Option va_E} {cI cJ cA : ClassId} (ht0 : tys[0]? = some (cI, .int)) (ht1 : tys[1]? = some (cJ, .long)) (ht3 : tys[3]? = some (cA, .array .long)) {th fa ls rm : Value} {n a : Nat} {gf gt gw : Nat → Int32} {F T : Nat → Nat} {t s : Nat} {d : Int64} (hs : s ≤ 10) (ht : t < s) (hd : 0 < d.toInt) (hd2 : d.toInt < 4611686018427387904) {i : Nat} (hi : i < s) (hne : i ≠ t) {Q : Outcome → Nat → (Nat → Option va_E) → Prop} {rf : (Nat → Nat → Int64) × Bool} (kk : ∀ (σ : Nat → Option va_E) (g : Nat → Int64), MN b cI σ th fa ls rm n a gf gt gw F T → σ 60 = some (.inl (cJ, 100, .inr (.inl g))) → RM g (rf.1) → mRg d.toInt s (rf.1) → Fr 60 60 σ0 σ → Z l D kCl tys (kh_M_clearCross :: zT) kNw ky_M_clearCross.cls ky_M_clearCross.name kb_M_clearCross 7 none { frames := 2, cells := 0, slots := 0, locals := 80 } b (zFi D kCl b 0 0 Q) 0 0 N (σ) 123 [(6, .int (nI (i + 1))), (5, .int (zB rf.2)), (0, .ref (b + 54)), (1, .int (nI t)), (2, .int (nI s)), (3, .long d)] []) : ∀ (f : Nat) (σ : Nat → Option va_E) (g : Nat → Int64) (M : Nat → Nat → Int64) (go : Bool), MN b cI σ th fa ls rm n a gf gt gw F T → σ 60 = some (.inl (cJ, 100, .inr (.inl g))) → RM g (M) → mRg d.toInt s (M) → Fr 60 60 σ0 σ → ccC t s d i f M go = some rf → Z l D kCl tys (kh_M_clearCross :: zT) kNw ky_M_clearCross.cls ky_M_clearCross.name kb_M_clearCross 7 none { frames := 2, cells := 0, slots := 0, locals := 80 } b (zFi D kCl b 0 0 Q) 0 0 N (σ) 129 [(6, .int (nI i)), (5, .int (zB go)), (0, .ref (b + 54)), (1, .int (nI t)), (2, .int (nI s)), (3, .long d)] [] := by
  have hd0 : ¬ d = 0 := fun z => by rw [z] at hd; exact absurd hd (by decide)
  intro f
  induction f with
  | zero => intro σ g M go _ _ _ _ _ hv; cases hv
  | succ f ih =>
    intro σ g M go hM h60 r60 hR hF hv
    unfold ccC at hv
    refine z_aload_n kd_M_clearCross_129 2 rfl ?_
    refine z_get kd_M_clearCross_130 (kf_M_26 _) hM.h1 rfl ?_
    refine z_bipush (v := 10) kd_M_clearCross_133 (by decide +kernel) ?_
    refine z_iload_n kd_M_clearCross_135 3 rfl ?_
    refine z_imul kd_M_clearCross_136 ?_
    refine z_topi (nI_mul 10 t) ?_
    refine z_iload kd_M_clearCross_137 0 rfl ?_
    refine z_iadd kd_M_clearCross_139 ?_
    refine z_topi (nI_add (10 * t) i) ?_
    refine z_laldN (t0 := 1) kd_M_clearCross_140 (by assumption) h60 (by omega) (by decide) ?_
    refine z_topl (RM.get r60 (i := t) (j := i) (by omega) (by omega)) ?_
    refine z_lconst (v := 0) kd_M_clearCross_141 (by decide +kernel) ?_
    refine z_lcmp kd_M_clearCross_142 ?_
    refine z_if_eq (tgt := 222) kd_M_clearCross_143 (by decide) (fun c143 => ?_) (fun c143 => ?_)
    · rw [if_pos ((lg_cmp_0 _ _).mp c143)] at hv
      cases hv
      refine z_iinc (v := (nI (i + 1))) (lv' := [(6, .int _), (5, .int _), (0, .ref (b + 54)), (1, .int _), (2, .int _), (3, .long _)]) kd_M_clearCross_222 0 rfl (nI_1 _) (by decide) rfl ?_
      refine z_goto (tgt := 123) kd_M_clearCross_225 (by decide) ?_
      refine z_pick (lv' := [(6, .int (nI (i + 1))), (5, .int (zB go)), (0, .ref (b + 54)), (1, .int (nI t)), (2, .int (nI s)), (3, .long d)]) [0, 1, 2, 3, 4, 5] rfl ?_
      exact kk _ _ hM h60 r60 hR hF
    · have q0 : ¬ M t i = 0 := fun z => c143 ((lg_cmp_0 _ _).mpr z)
      rw [if_neg q0] at hv
      refine z_aload_n kd_M_clearCross_146 2 rfl ?_
      refine z_get kd_M_clearCross_147 (kf_M_26 _) hM.h1 rfl ?_
      refine z_bipush (v := 11) kd_M_clearCross_150 (by decide +kernel) ?_
      refine z_iload_n kd_M_clearCross_152 3 rfl ?_
      refine z_imul kd_M_clearCross_153 ?_
      refine z_topi (nI_mul 11 t) ?_
      refine z_laldN (t0 := 1) kd_M_clearCross_154 (by assumption) h60 (by omega) (by decide) ?_
      refine z_topl (RM.gt11 r60 (t := t) (by omega)) ?_
      refine z_lconst (v := 0) kd_M_clearCross_155 (by decide +kernel) ?_
      refine z_lcmp kd_M_clearCross_156 ?_
      refine z_if_eq (tgt := 191) kd_M_clearCross_157 (by decide) (fun c157 => ?_) (fun c157 => ?_)
      · have q1 : M t t = 0 := (lg_cmp_0 _ _).mp c157
        unfold cc1 at hv
        rw [if_pos q1] at hv
        refine z_aload_n kd_M_clearCross_191 2 rfl ?_
        refine z_get kd_M_clearCross_192 (kf_M_26 _) hM.h1 rfl ?_
        refine z_bipush (v := 10) kd_M_clearCross_195 (by decide +kernel) ?_
        refine z_iload_n kd_M_clearCross_197 3 rfl ?_
        refine z_imul kd_M_clearCross_198 ?_
        refine z_topi (nI_mul 10 t) ?_
        refine z_iload kd_M_clearCross_199 0 rfl ?_
        refine z_iadd kd_M_clearCross_201 ?_
        refine z_topi (nI_add (10 * t) i) ?_
        refine z_laldN (t0 := 1) kd_M_clearCross_202 (by assumption) h60 (by omega) (by decide) ?_
        refine z_topl (RM.get r60 (i := t) (j := i) (by omega) (by omega)) ?_
        refine z_lconst (v := 0) kd_M_clearCross_203 (by decide +kernel) ?_
        refine z_lcmp kd_M_clearCross_204 ?_
        refine z_if_eq (tgt := 129) kd_M_clearCross_205 (by decide) (fun c205 => ?_) (fun c205 => ?_)
        · rw [if_pos ((lg_cmp_0 _ _).mp c205)] at hv
          refine z_pick (lv' := [(6, .int (nI i)), (5, .int (zB go)), (0, .ref (b + 54)), (1, .int (nI t)), (2, .int (nI s)), (3, .long d)]) [0, 1, 2, 3, 4, 5] rfl ?_
          exact ih _ _ _ _ hM h60 r60 hR hF hv
        · rw [if_neg (fun z => c205 ((lg_cmp_0 _ _).mpr z))] at hv
          refine z_aload_n kd_M_clearCross_208 2 rfl ?_
          refine z_iload kd_M_clearCross_209 0 rfl ?_
          refine z_iload_n kd_M_clearCross_211 3 rfl ?_
          refine z_iload_n kd_M_clearCross_212 4 rfl ?_
          refine z_callV (a := 54) (As := [_, _, _]) kd_M_clearCross_213 (kg_M_180 _) hM.h1 kc_M (c_M_swapColumns ht0 ht1 ht3 hM r60 h60 hs (i := i) (k := t) (by omega) (by omega) hne) rfl rfl (Nat.le_of_ble_eq_true rfl) ⟨Nat.le_of_ble_eq_true rfl, Nat.le_of_ble_eq_true rfl⟩ ⟨Nat.le_of_ble_eq_true rfl, Nat.le_of_ble_eq_true rfl⟩ ?_
          rintro _ _ σ_1 ⟨hv, rfl, ⟨g_1, r60_1, x60_1⟩, q_1⟩
          cases hv
          refine z_eq (st' := []) rfl rfl rfl rfl ?_
          have hM_1 := hM.fr q_1 (by omega)
          refine z_iconst (v := 1) kd_M_clearCross_216 (by decide) ?_
          refine z_istore (lv' := [(5, .int _), (6, .int _), (0, .ref (b + 54)), (1, .int _), (2, .int _), (3, .long _)]) kd_M_clearCross_217 (by decide) rfl ?_
          refine z_goto (tgt := 129) kd_M_clearCross_219 (by decide) ?_
          refine z_pick (lv' := [(6, .int (nI i)), (5, .int (zB true)), (0, .ref (b + 54)), (1, .int (nI t)), (2, .int (nI s)), (3, .long d)]) [1, 0, 2, 3, 4, 5] rfl ?_
          exact ih _ _ _ _ hM_1 x60_1 r60_1 (sk_rg hi ht hR) (Fr.tr hF (q_1.wide (by omega) (by omega))) hv
      · have q1 : ¬ M t t = 0 := fun z => c157 ((lg_cmp_0 _ _).mpr z)
        unfold cc1 at hv
        rw [if_neg q1] at hv
        obtain ⟨y1, y2⟩ := qd_ok (hR t i ht hi).1 (rg_pos hR ht ht q1) hd hd2
        have hR1 := lc_rg hd hd2 hi ht y1 y2 s 0 M (by omega) hR
        refine z_aload_n kd_M_clearCross_160 2 rfl ?_
        refine z_iload kd_M_clearCross_161 0 rfl ?_
        refine z_iload_n kd_M_clearCross_163 3 rfl ?_
        refine z_aload_n kd_M_clearCross_164 2 rfl ?_
        refine z_get kd_M_clearCross_165 (kf_M_26 _) hM.h1 rfl ?_
        refine z_bipush (v := 10) kd_M_clearCross_168 (by decide +kernel) ?_
        refine z_iload_n kd_M_clearCross_170 3 rfl ?_
        refine z_imul kd_M_clearCross_171 ?_
        refine z_topi (nI_mul 10 t) ?_
        refine z_iload kd_M_clearCross_172 0 rfl ?_
        refine z_iadd kd_M_clearCross_174 ?_
        refine z_topi (nI_add (10 * t) i) ?_
        refine z_laldN (t0 := 1) kd_M_clearCross_175 (by assumption) h60 (by omega) (by decide) ?_
        refine z_topl (RM.get r60 (i := t) (j := i) (by omega) (by omega)) ?_
        refine z_aload_n kd_M_clearCross_176 2 rfl ?_
        refine z_get kd_M_clearCross_177 (kf_M_26 _) hM.h1 rfl ?_
        refine z_bipush (v := 11) kd_M_clearCross_180 (by decide +kernel) ?_
        refine z_iload_n kd_M_clearCross_182 3 rfl ?_
        refine z_imul kd_M_clearCross_183 ?_
        refine z_topi (nI_mul 11 t) ?_
        refine z_laldN (t0 := 1) kd_M_clearCross_184 (by assumption) h60 (by omega) (by decide) ?_
        refine z_topl (RM.gt11 r60 (t := t) (by omega)) ?_
        refine z_ldiv kd_M_clearCross_185 q1 ?_
        refine z_iload_n kd_M_clearCross_186 4 rfl ?_
        refine z_lload_n kd_M_clearCross_187 5 rfl ?_
        refine z_callV (a := 54) (As := [_, _, _, _, _]) kd_M_clearCross_188 (kg_M_177 _) hM.h1 kc_M (c_M_lessColumn ht0 ht1 ht3 hM r60 h60 hs (i := i) (k := t) (by omega) (by omega) hd0 y1 y2) rfl rfl (Nat.le_of_ble_eq_true rfl) ⟨Nat.le_of_ble_eq_true rfl, Nat.le_of_ble_eq_true rfl⟩ ⟨Nat.le_of_ble_eq_true rfl, Nat.le_of_ble_eq_true rfl⟩ ?_
        rintro _ _ σ_2 ⟨hv, rfl, ⟨g_2, r60_2, x60_2⟩, q_2⟩
        cases hv
        refine z_eq (st' := []) rfl rfl rfl rfl ?_
        have hM_2 := hM.fr q_2 (by omega)
        refine z_aload_n kd_M_clearCross_191 2 rfl ?_
        refine z_get kd_M_clearCross_192 (kf_M_26 _) hM_2.h1 rfl ?_
        refine z_bipush (v := 10) kd_M_clearCross_195 (by decide +kernel) ?_
        refine z_iload_n kd_M_clearCross_197 3 rfl ?_
        refine z_imul kd_M_clearCross_198 ?_
        refine z_topi (nI_mul 10 t) ?_
        refine z_iload kd_M_clearCross_199 0 rfl ?_
        refine z_iadd kd_M_clearCross_201 ?_
        refine z_topi (nI_add (10 * t) i) ?_
        refine z_laldN (t0 := 1) kd_M_clearCross_202 (by assumption) x60_2 (by omega) (by decide) ?_
        refine z_topl (RM.get r60_2 (i := t) (j := i) (by omega) (by omega)) ?_
        refine z_lconst (v := 0) kd_M_clearCross_203 (by decide +kernel) ?_
        refine z_lcmp kd_M_clearCross_204 ?_
        refine z_if_eq (tgt := 129) kd_M_clearCross_205 (by decide) (fun c205 => ?_) (fun c205 => ?_)
        · rw [if_pos ((lg_cmp_0 _ _).mp c205)] at hv
          refine z_pick (lv' := [(6, .int (nI i)), (5, .int (zB go)), (0, .ref (b + 54)), (1, .int (nI t)), (2, .int (nI s)), (3, .long d)]) [0, 1, 2, 3, 4, 5] rfl ?_
          exact ih _ _ _ _ hM_2 x60_2 r60_2 hR1 (Fr.tr hF (q_2.wide (by omega) (by omega))) hv
        · rw [if_neg (fun z => c205 ((lg_cmp_0 _ _).mpr z))] at hv
          refine z_aload_n kd_M_clearCross_208 2 rfl ?_
          refine z_iload kd_M_clearCross_209 0 rfl ?_
          refine z_iload_n kd_M_clearCross_211 3 rfl ?_
          refine z_iload_n kd_M_clearCross_212 4 rfl ?_
          refine z_callV (a := 54) (As := [_, _, _]) kd_M_clearCross_213 (kg_M_180 _) hM_2.h1 kc_M (c_M_swapColumns ht0 ht1 ht3 hM_2 r60_2 x60_2 hs (i := i) (k := t) (by omega) (by omega) hne) rfl rfl (Nat.le_of_ble_eq_true rfl) ⟨Nat.le_of_ble_eq_true rfl, Nat.le_of_ble_eq_true rfl⟩ ⟨Nat.le_of_ble_eq_true rfl, Nat.le_of_ble_eq_true rfl⟩ ?_
          rintro _ _ σ_3 ⟨hv, rfl, ⟨g_3, r60_3, x60_3⟩, q_3⟩
          cases hv
          refine z_eq (st' := []) rfl rfl rfl rfl ?_
          have hM_3 := hM_2.fr q_3 (by omega)
          refine z_iconst (v := 1) kd_M_clearCross_216 (by decide) ?_
          refine z_istore (lv' := [(5, .int _), (6, .int _), (0, .ref (b + 54)), (1, .int _), (2, .int _), (3, .long _)]) kd_M_clearCross_217 (by decide) rfl ?_
          refine z_goto (tgt := 129) kd_M_clearCross_219 (by decide) ?_
          refine z_pick (lv' := [(6, .int (nI i)), (5, .int (zB true)), (0, .ref (b + 54)), (1, .int (nI t)), (2, .int (nI s)), (3, .long d)]) [1, 0, 2, 3, 4, 5] rfl ?_
          exact ih _ _ _ _ hM_3 x60_3 r60_3 (sk_rg hi ht hR1) (Fr.tr (Fr.tr hF (q_2.wide (by omega) (by omega))) (q_3.wide (by omega) (by omega))) hv
set_option maxHeartbeats 4000000 in
set_option maxRecDepth 100000 in
theorem l_M_ccco {l : Launch} {D : va_G} {tys : List (ClassId × FieldType)} {b N : Nat} {σ0 : Nat → Option va_E} {cI cJ cA : ClassId} (ht0 : tys[0]? = some (cI, .int)) (ht1 : tys[1]? = some (cJ, .long)) (ht3 : tys[3]? = some (cA, .array .long)) {th fa ls rm : Value} {n a : Nat} {gf gt gw : Nat → Int32} {F T : Nat → Nat} {t s : Nat} {d : Int64} (hs : s ≤ 10) (ht : t < s) (hd : 0 < d.toInt) (hd2 : d.toInt < 4611686018427387904) {Q : Outcome → Nat → (Nat → Option va_E) → Prop} {f : Nat} {rf : (Nat → Nat → Int64) × Bool} (kk : ∀ (σ : Nat → Option va_E) (g : Nat → Int64), MN b cI σ th fa ls rm n a gf gt gw F T → σ 60 = some (.inl (cJ, 100, .inr (.inl g))) → RM g (rf.1) → mRg d.toInt s (rf.1) → Fr 60 60 σ0 σ → Z l D kCl tys (kh_M_clearCross :: zT) kNw ky_M_clearCross.cls ky_M_clearCross.name kb_M_clearCross 7 none { frames := 2, cells := 0, slots := 0, locals := 80 } b (zFi D kCl b 0 0 Q) 0 0 N (σ) 228 [(5, .int (zB rf.2)), (0, .ref (b + 54)), (1, .int (nI t)), (2, .int (nI s)), (3, .long d)] []) : ∀ (m i : Nat) (σ : Nat → Option va_E) (g : Nat → Int64) (M : Nat → Nat → Int64) (go : Bool), i + m = s → t < i → MN b cI σ th fa ls rm n a gf gt gw F T → σ 60 = some (.inl (cJ, 100, .inr (.inl g))) → RM g (M) → mRg d.toInt s (M) → Fr 60 60 σ0 σ → ccCO t s d f m i M go = some rf → Z l D kCl tys (kh_M_clearCross :: zT) kNw ky_M_clearCross.cls ky_M_clearCross.name kb_M_clearCross 7 none { frames := 2, cells := 0, slots := 0, locals := 80 } b (zFi D kCl b 0 0 Q) 0 0 N (σ) 123 [(6, .int (nI i)), (5, .int (zB go)), (0, .ref (b + 54)), (1, .int (nI t)), (2, .int (nI s)), (3, .long d)] [] := by
  intro m
  induction m with
  | zero =>
    intro i σ g M go hi hti hM h60 r60 hR hF hv
    obtain rfl : i = s := by omega
    have hv : some (M, go) = some rf := hv
    cases hv
    refine z_iload kd_M_clearCross_123 0 rfl ?_
    refine z_iload_n kd_M_clearCross_125 4 rfl ?_
    refine z_icmp_ge (tgt := 228) kd_M_clearCross_126 (by decide) (fun c126 => ?_) (fun c126 => ?_)
    · refine z_pick (lv' := [(5, .int (zB go)), (0, .ref (b + 54)), (1, .int (nI t)), (2, .int (nI i)), (3, .long d)]) [1, 2, 3, 4, 5] rfl ?_
      exact kk _ _ hM h60 r60 hR hF
    · exact absurd (nI_le (Nat.le_refl i) (by omega)) c126
  | succ m ih =>
    intro i σ g M go hi hti hM h60 r60 hR hF hv
    have hlt : i < s := by omega
    unfold ccCO at hv
    cases hc : ccC t s d i f M go with
    | none => rw [hc] at hv; cases hv
    | some r1 =>
      rw [hc, Option.bind_some] at hv
      refine z_iload kd_M_clearCross_123 0 rfl ?_
      refine z_iload_n kd_M_clearCross_125 4 rfl ?_
      refine z_icmp_ge (tgt := 228) kd_M_clearCross_126 (by decide) (fun c126 => ?_) (fun c126 => ?_)
      · exact absurd c126 (nI_ge hlt (by omega))
      · refine z_pick (lv' := [(6, .int (nI i)), (5, .int (zB go)), (0, .ref (b + 54)), (1, .int (nI t)), (2, .int (nI s)), (3, .long d)]) [0, 1, 2, 3, 4, 5] rfl ?_
        exact l_M_ccc ht0 ht1 ht3 hs ht hd hd2 hlt (by omega) (fun σ g hM h60 r60 hR hF => ih (i + 1) _ _ _ _ (by omega) (by omega) hM h60 r60 hR hF hv) f _ _ _ _ hM h60 r60 hR hF hc
set_option maxHeartbeats 4000000 in
set_option maxRecDepth 100000 in
theorem l_M_cc3 {l : Launch} {D : va_G} {tys : List (ClassId × FieldType)} {b N : Nat} {σ : Nat → Option va_E} {cI cJ cA : ClassId} (ht0 : tys[0]? = some (cI, .int)) (ht1 : tys[1]? = some (cJ, .long)) (ht3 : tys[3]? = some (cA, .array .long)) {th fa ls rm : Value} {n a : Nat} {gf gt gw : Nat → Int32} {F T : Nat → Nat} (hM : MN b cI σ th fa ls rm n a gf gt gw F T) {t s : Nat} {d : Int64} (hs : s ≤ 10) (ht : t < s) (hd : 0 < d.toInt) (hd2 : d.toInt < 4611686018427387904) {g : Nat → Int64} {M : Nat → Nat → Int64} (h60 : σ 60 = some (.inl (cJ, 100, .inr (.inl g)))) (r60 : RM g M) {Q : Outcome → Nat → (Nat → Option va_E) → Prop} {val : Bool} (kk : Z l D kCl tys (kh_M_clearCross :: zT) kNw ky_M_clearCross.cls ky_M_clearCross.name kb_M_clearCross 7 none { frames := 2, cells := 0, slots := 0, locals := 80 } b (zFi D kCl b 0 0 Q) 0 0 N (σ) 3 [(5, .int (zB val)), (0, .ref (b + 54)), (1, .int (nI t)), (2, .int (nI s)), (3, .long d)] []) : ∀ (m i : Nat) (go : Bool), i + m = s → cc3 t M m i go = val → Z l D kCl tys (kh_M_clearCross :: zT) kNw ky_M_clearCross.cls ky_M_clearCross.name kb_M_clearCross 7 none { frames := 2, cells := 0, slots := 0, locals := 80 } b (zFi D kCl b 0 0 Q) 0 0 N (σ) 233 [(6, .int (nI i)), (5, .int (zB go)), (0, .ref (b + 54)), (1, .int (nI t)), (2, .int (nI s)), (3, .long d)] [] := by
  intro m
  induction m with
  | zero =>
    intro i go hi hv
    obtain rfl : i = s := by omega
    have hv : go = val := hv
    subst hv
    refine z_iload kd_M_clearCross_233 0 rfl ?_
    refine z_iload_n kd_M_clearCross_235 4 rfl ?_
    refine z_icmp_ge (tgt := 274) kd_M_clearCross_236 (by decide) (fun c236 => ?_) (fun c236 => ?_)
    · refine z_goto (tgt := 3) kd_M_clearCross_274 (by decide) ?_
      refine z_pick (lv' := [(5, .int (zB go)), (0, .ref (b + 54)), (1, .int (nI t)), (2, .int (nI i)), (3, .long d)]) [1, 2, 3, 4, 5] rfl ?_
      exact kk
    · exact absurd (nI_le (Nat.le_refl i) (by omega)) c236
  | succ m ih =>
    intro i go hi hv
    have hlt : i < s := by omega
    unfold cc3 at hv
    refine z_iload kd_M_clearCross_233 0 rfl ?_
    refine z_iload_n kd_M_clearCross_235 4 rfl ?_
    refine z_icmp_ge (tgt := 274) kd_M_clearCross_236 (by decide) (fun c236 => ?_) (fun c236 => ?_)
    · exact absurd c236 (nI_ge hlt (by omega))
    · refine z_iload kd_M_clearCross_239 1 rfl ?_
      refine z_if_ne (tgt := 261) kd_M_clearCross_241 (by decide) (fun c241 => ?_) (fun c241 => ?_)
      · have hg : go = true := zB_t c241
        rw [hg, Bool.true_or] at hv
        refine z_iconst (v := 1) kd_M_clearCross_261 (by decide) ?_
        refine z_goto (tgt := 266) kd_M_clearCross_262 (by decide) ?_
        refine z_istore (lv' := [(5, .int _), (6, .int _), (0, .ref (b + 54)), (1, .int _), (2, .int _), (3, .long _)]) kd_M_clearCross_266 (by decide) rfl ?_
        refine z_iinc (v := (nI (i + 1))) (lv' := [(6, .int _), (5, .int _), (0, .ref (b + 54)), (1, .int _), (2, .int _), (3, .long _)]) kd_M_clearCross_268 1 rfl (nI_1 _) (by decide) rfl ?_
        refine z_goto (tgt := 233) kd_M_clearCross_271 (by decide) ?_
        refine z_pick (lv' := [(6, .int (nI (i + 1))), (5, .int (zB true)), (0, .ref (b + 54)), (1, .int (nI t)), (2, .int (nI s)), (3, .long d)]) [0, 1, 2, 3, 4, 5] rfl ?_
        exact ih (i + 1) true (by omega) hv
      · have hg : go = false := zB_f c241
        rw [hg, Bool.false_or] at hv
        refine z_aload_n kd_M_clearCross_244 2 rfl ?_
        refine z_get kd_M_clearCross_245 (kf_M_26 _) hM.h1 rfl ?_
        refine z_bipush (v := 10) kd_M_clearCross_248 (by decide +kernel) ?_
        refine z_iload kd_M_clearCross_250 0 rfl ?_
        refine z_imul kd_M_clearCross_252 ?_
        refine z_topi (nI_mul 10 i) ?_
        refine z_iload_n kd_M_clearCross_253 3 rfl ?_
        refine z_iadd kd_M_clearCross_254 ?_
        refine z_topi (nI_add (10 * i) t) ?_
        refine z_laldN (t0 := 1) kd_M_clearCross_255 (by assumption) h60 (by omega) (by decide) ?_
        refine z_topl (RM.get r60 (i := i) (j := t) (by omega) (by omega)) ?_
        refine z_lconst (v := 0) kd_M_clearCross_256 (by decide +kernel) ?_
        refine z_lcmp kd_M_clearCross_257 ?_
        refine z_if_eq (tgt := 265) kd_M_clearCross_258 (by decide) (fun c258 => ?_) (fun c258 => ?_)
        · rw [decide_eq_false (fun z => z ((lg_cmp_0 _ _).mp c258))] at hv
          refine z_iconst (v := 0) kd_M_clearCross_265 (by decide) ?_
          refine z_istore (lv' := [(5, .int _), (6, .int _), (0, .ref (b + 54)), (1, .int _), (2, .int _), (3, .long _)]) kd_M_clearCross_266 (by decide) rfl ?_
          refine z_iinc (v := (nI (i + 1))) (lv' := [(6, .int _), (5, .int _), (0, .ref (b + 54)), (1, .int _), (2, .int _), (3, .long _)]) kd_M_clearCross_268 1 rfl (nI_1 _) (by decide) rfl ?_
          refine z_goto (tgt := 233) kd_M_clearCross_271 (by decide) ?_
          refine z_pick (lv' := [(6, .int (nI (i + 1))), (5, .int (zB false)), (0, .ref (b + 54)), (1, .int (nI t)), (2, .int (nI s)), (3, .long d)]) [0, 1, 2, 3, 4, 5] rfl ?_
          exact ih (i + 1) false (by omega) hv
        · rw [decide_eq_true (show ¬ M i t = 0 from fun z => c258 ((lg_cmp_0 _ _).mpr z))] at hv
          refine z_iconst (v := 1) kd_M_clearCross_261 (by decide) ?_
          refine z_goto (tgt := 266) kd_M_clearCross_262 (by decide) ?_
          refine z_istore (lv' := [(5, .int _), (6, .int _), (0, .ref (b + 54)), (1, .int _), (2, .int _), (3, .long _)]) kd_M_clearCross_266 (by decide) rfl ?_
          refine z_iinc (v := (nI (i + 1))) (lv' := [(6, .int _), (5, .int _), (0, .ref (b + 54)), (1, .int _), (2, .int _), (3, .long _)]) kd_M_clearCross_268 1 rfl (nI_1 _) (by decide) rfl ?_
          refine z_goto (tgt := 233) kd_M_clearCross_271 (by decide) ?_
          refine z_pick (lv' := [(6, .int (nI (i + 1))), (5, .int (zB true)), (0, .ref (b + 54)), (1, .int (nI t)), (2, .int (nI s)), (3, .long d)]) [0, 1, 2, 3, 4, 5] rfl ?_
          exact ih (i + 1) true (by omega) hv
set_option maxHeartbeats 4000000 in
set_option maxRecDepth 100000 in
theorem l_M_cc {l : Launch} {D : va_G} {tys : List (ClassId × FieldType)} {b N : Nat} {σ0 : Nat → Option va_E} {cI cJ cA : ClassId} (ht0 : tys[0]? = some (cI, .int)) (ht1 : tys[1]? = some (cJ, .long)) (ht3 : tys[3]? = some (cA, .array .long)) {th fa ls rm : Value} {n a : Nat} {gf gt gw : Nat → Int32} {F T : Nat → Nat} {t s : Nat} {d : Int64} (hs : s ≤ 10) (ht : t < s) (hd : 0 < d.toInt) (hd2 : d.toInt < 4611686018427387904) {f : Nat} {Mf : Nat → Nat → Int64} : ∀ (h : Nat) (σ : Nat → Option va_E) (g : Nat → Int64) (M : Nat → Nat → Int64), MN b cI σ th fa ls rm n a gf gt gw F T → σ 60 = some (.inl (cJ, 100, .inr (.inl g))) → RM g (M) → mRg d.toInt s (M) → Fr 60 60 σ0 σ → ccO t s d f h M = some Mf → Z l D kCl tys (kh_M_clearCross :: zT) kNw ky_M_clearCross.cls ky_M_clearCross.name kb_M_clearCross 7 none { frames := 2, cells := 0, slots := 0, locals := 80 } b (zFi D kCl b 0 0 (fun oc N' σ' => oc = .returned none ∧ N' = N ∧ (∃ g, RM g (Mf) ∧ σ' 60 = some (.inl (cJ, 100, .inr (.inl g)))) ∧ mRg d.toInt s (Mf) ∧ Fr 60 60 σ0 σ')) 0 0 N (σ) 3 [(5, .int (zB true)), (0, .ref (b + 54)), (1, .int (nI t)), (2, .int (nI s)), (3, .long d)] [] := by
  intro h
  induction h with
  | zero => intro σ g M _ _ _ _ _ hv; cases hv
  | succ h ih =>
    intro σ g M hM h60 r60 hR hF hv
    unfold ccO at hv
    cases hc1 : ccRO t s d f (s - (t + 1)) (t + 1) M with
    | none => rw [hc1] at hv; cases hv
    | some M1 =>
      rw [hc1, Option.bind_some] at hv
      cases hc2 : ccCO t s d f (s - (t + 1)) (t + 1) M1 false with
      | none => rw [hc2] at hv; cases hv
      | some r2 =>
        rw [hc2, Option.bind_some] at hv
        refine z_iload kd_M_clearCross_3 0 rfl ?_
        refine z_if_eq (tgt := 277) kd_M_clearCross_5 (by decide) (fun c5 => ?_) (fun c5 => ?_)
        · exact absurd c5 (by decide)
        · refine z_iconst (v := 0) kd_M_clearCross_8 (by decide) ?_
          refine z_istore (lv' := [(5, .int _), (0, .ref (b + 54)), (1, .int _), (2, .int _), (3, .long _)]) kd_M_clearCross_9 (by decide) rfl ?_
          refine z_iload_n kd_M_clearCross_11 2 rfl ?_
          refine z_iconst (v := 1) kd_M_clearCross_12 (by decide) ?_
          refine z_iadd kd_M_clearCross_13 ?_
          refine z_topi (nI_add t 1) ?_
          refine z_istore (lv' := [(6, .int _), (5, .int _), (0, .ref (b + 54)), (1, .int _), (2, .int _), (3, .long _)]) kd_M_clearCross_14 (by decide) rfl ?_
          refine z_pick (lv' := [(6, .int (nI (t + 1))), (5, .int (zB false)), (0, .ref (b + 54)), (1, .int (nI t)), (2, .int (nI s)), (3, .long d)]) [0, 1, 2, 3, 4, 5] rfl ?_
          refine l_M_ccro ht0 ht1 ht3 hs ht hd hd2 (fun σ g hM h60 r60 hR hF => ?_) (s - (t + 1)) (t + 1) _ _ _ (by omega) (by omega) hM h60 r60 hR hF hc1
          refine z_iload_n kd_M_clearCross_118 2 rfl ?_
          refine z_iconst (v := 1) kd_M_clearCross_119 (by decide) ?_
          refine z_iadd kd_M_clearCross_120 ?_
          refine z_topi (nI_add t 1) ?_
          refine z_istore (lv' := [(6, .int _), (5, .int _), (0, .ref (b + 54)), (1, .int _), (2, .int _), (3, .long _)]) kd_M_clearCross_121 (by decide) rfl ?_
          refine z_pick (lv' := [(6, .int (nI (t + 1))), (5, .int (zB false)), (0, .ref (b + 54)), (1, .int (nI t)), (2, .int (nI s)), (3, .long d)]) [0, 1, 2, 3, 4, 5] rfl ?_
          refine l_M_ccco ht0 ht1 ht3 hs ht hd hd2 (fun σ g hM h60 r60 hR hF => ?_) (s - (t + 1)) (t + 1) _ _ _ _ (by omega) (by omega) hM h60 r60 hR hF hc2
          refine z_iload_n kd_M_clearCross_228 2 rfl ?_
          refine z_iconst (v := 1) kd_M_clearCross_229 (by decide) ?_
          refine z_iadd kd_M_clearCross_230 ?_
          refine z_topi (nI_add t 1) ?_
          refine z_istore (lv' := [(6, .int _), (5, .int _), (0, .ref (b + 54)), (1, .int _), (2, .int _), (3, .long _)]) kd_M_clearCross_231 (by decide) rfl ?_
          refine z_pick (lv' := [(6, .int (nI (t + 1))), (5, .int (zB r2.2)), (0, .ref (b + 54)), (1, .int (nI t)), (2, .int (nI s)), (3, .long d)]) [0, 1, 2, 3, 4, 5] rfl ?_
          refine l_M_cc3 ht0 ht1 ht3 hM hs ht hd hd2 h60 r60 (val := cc3 t r2.1 (s - (t + 1)) (t + 1) r2.2) ?_ (s - (t + 1)) (t + 1) _ (by omega) rfl
          by_cases hg : cc3 t r2.1 (s - (t + 1)) (t + 1) r2.2 = true
          · rw [if_pos hg] at hv
            rw [hg]
            exact ih _ _ _ hM h60 r60 hR hF hv
          · rw [if_neg hg] at hv
            cases hv
            rw [Bool.not_eq_true] at hg
            rw [hg]
            refine z_iload kd_M_clearCross_3 0 rfl ?_
            refine z_if_eq (tgt := 277) kd_M_clearCross_5 (by decide) (fun c5 => ?_) (fun c5 => ?_)
            · exact z_vret kd_M_clearCross_277 rfl (Nat.le_of_ble_eq_true rfl) (Nat.le_of_ble_eq_true rfl) ⟨rfl, rfl, ⟨_, r60, h60⟩, hR, hF⟩
            · exact absurd (by decide) c5
set_option maxHeartbeats 4000000 in
set_option maxRecDepth 100000 in
theorem c_M_clearCross {l : Launch} {D : va_G} {tys : List (ClassId × FieldType)} {b N : Nat} {σ : Nat → Option va_E} {cI cJ cA : ClassId} (ht0 : tys[0]? = some (cI, .int)) (ht1 : tys[1]? = some (cJ, .long)) (ht3 : tys[3]? = some (cA, .array .long)) {th fa ls rm : Value} {n a : Nat} {gf gt gw : Nat → Int32} {F T : Nat → Nat} (hM : MN b cI σ th fa ls rm n a gf gt gw F T) {g0 : Nat → Int64} {M : Nat → Nat → Int64} (r60 : RM g0 M) (h60 : σ 60 = some (.inl (cJ, 100, .inr (.inl g0)))) {t s : Nat} {d : Int64} (hs : s ≤ 10) (ht : t < s) (hd : 0 < d.toInt) (hd2 : d.toInt < 4611686018427387904) (hR : mRg d.toInt s M) {f h : Nat} {Mf : Nat → Nat → Int64} (hv : ccO t s d f h M = some Mf) : zM l D kCl tys kNw b ky_M_clearCross (kh_M_clearCross :: zT) 2 80 0 0 [.ref (b + 54), .int (nI t), .int (nI s), .long d] N σ ((fun oc N' σ' => oc = .returned none ∧ N' = N ∧ (∃ g, RM g (Mf) ∧ σ' 60 = some (.inl (cJ, 100, .inr (.inl g)))) ∧ mRg d.toInt s (Mf) ∧ Fr 60 60 σ σ')) := by
  refine zM.of (by decide +kernel) rfl (Nat.le_of_ble_eq_true rfl) ?_
  refine z_pick (lv' := [(0, .ref (b + 54)), (1, .int (nI t)), (2, .int (nI s)), (3, .long d)]) [0, 1, 2, 3] rfl ?_
  refine z_iconst (v := 1) kd_M_clearCross_0 (by decide) ?_
  refine z_istore (lv' := [(5, .int _), (0, .ref (b + 54)), (1, .int _), (2, .int _), (3, .long _)]) kd_M_clearCross_1 (by decide) rfl ?_
  refine z_pick (lv' := [(5, .int (zB true)), (0, .ref (b + 54)), (1, .int (nI t)), (2, .int (nI s)), (3, .long d)]) [0, 1, 2, 3, 4] rfl ?_
  exact l_M_cc ht0 ht1 ht3 hs ht hd hd2 h _ _ _ hM h60 r60 hR Fr.rf hv
