set_option maxHeartbeats 4000000 in
set_option maxRecDepth 100000 in
theorem c_M_addTo0 {l : Launch} {D : va_G} {tys : List (ClassId × FieldType)} {b N : Nat} {σ : Nat → Option va_E} {cI cJ cA : ClassId} (ht0 : tys[0]? = some (cI, .int)) (ht1 : tys[1]? = some (cJ, .long)) (ht3 : tys[3]? = some (cA, .array .long)) {th fa ls rm : Value} {n a : Nat} {gf gt gw : Nat → Int32} {F T : Nat → Nat} (hM : MN b cI σ th fa ls rm n a gf gt gw F T) {g0 : Nat → Int64} {M : Nat → Nat → Int64} (r60 : RM g0 M) (h60 : σ 60 = some (.inl (cJ, 100, .inr (.inl g0)))) {v : Int64} {y : Int32} : zM l D kCl tys kNw b ky_M_addTo (kh_M_addTo :: zT) 0 0 0 0 [.ref (b + 54), .int (-1), .int y, .long v] N σ ((fun oc N' σ' => oc = .returned none ∧ N' = N ∧ (∃ g, RM g (M) ∧ σ' 60 = some (.inl (cJ, 100, .inr (.inl g)))) ∧ Fr 60 60 σ σ')) := by
  refine zM.of (by decide +kernel) rfl (Nat.le_of_ble_eq_true rfl) ?_
  refine z_pick (lv' := [(0, .ref (b + 54)), (1, .int (-1)), (2, .int y), (3, .long v)]) [0, 1, 2, 3] rfl ?_
  refine z_iload_n kd_M_addTo_0 1 rfl ?_
  refine z_iconst (v := -1) kd_M_addTo_1 (by decide) ?_
  refine z_icmp_eq (tgt := 25) kd_M_addTo_2 (by decide) (fun c2 => ?_) (fun c2 => ?_)
  · exact z_vret kd_M_addTo_25 rfl (Nat.le_of_ble_eq_true rfl) (Nat.le_of_ble_eq_true rfl) ⟨rfl, rfl, ⟨_, r60, h60⟩, Fr.rf⟩
  · exact absurd rfl c2
set_option maxHeartbeats 4000000 in
set_option maxRecDepth 100000 in
theorem c_M_addTo1 {l : Launch} {D : va_G} {tys : List (ClassId × FieldType)} {b N : Nat} {σ : Nat → Option va_E} {cI cJ cA : ClassId} (ht0 : tys[0]? = some (cI, .int)) (ht1 : tys[1]? = some (cJ, .long)) (ht3 : tys[3]? = some (cA, .array .long)) {th fa ls rm : Value} {n a : Nat} {gf gt gw : Nat → Int32} {F T : Nat → Nat} (hM : MN b cI σ th fa ls rm n a gf gt gw F T) {g0 : Nat → Int64} {M : Nat → Nat → Int64} (r60 : RM g0 M) (h60 : σ 60 = some (.inl (cJ, 100, .inr (.inl g0)))) {v : Int64} {x : Nat} (hx : x < 10) : zM l D kCl tys kNw b ky_M_addTo (kh_M_addTo :: zT) 0 0 0 0 [.ref (b + 54), .int (nI x), .int (-1), .long v] N σ ((fun oc N' σ' => oc = .returned none ∧ N' = N ∧ (∃ g, RM g (M) ∧ σ' 60 = some (.inl (cJ, 100, .inr (.inl g)))) ∧ Fr 60 60 σ σ')) := by
  refine zM.of (by decide +kernel) rfl (Nat.le_of_ble_eq_true rfl) ?_
  refine z_pick (lv' := [(0, .ref (b + 54)), (1, .int (nI x)), (2, .int (-1)), (3, .long v)]) [0, 1, 2, 3] rfl ?_
  refine z_iload_n kd_M_addTo_0 1 rfl ?_
  refine z_iconst (v := -1) kd_M_addTo_1 (by decide) ?_
  refine z_icmp_eq (tgt := 25) kd_M_addTo_2 (by decide) (fun c2 => ?_) (fun c2 => ?_)
  · exact absurd c2 (nI_nm1 (by omega))
  · refine z_iload_n kd_M_addTo_5 2 rfl ?_
    refine z_iconst (v := -1) kd_M_addTo_6 (by decide) ?_
    refine z_icmp_eq (tgt := 25) kd_M_addTo_7 (by decide) (fun c7 => ?_) (fun c7 => ?_)
    · exact z_vret kd_M_addTo_25 rfl (Nat.le_of_ble_eq_true rfl) (Nat.le_of_ble_eq_true rfl) ⟨rfl, rfl, ⟨_, r60, h60⟩, Fr.rf⟩
    · exact absurd rfl c7
set_option maxHeartbeats 4000000 in
set_option maxRecDepth 100000 in
theorem c_M_addTo2 {l : Launch} {D : va_G} {tys : List (ClassId × FieldType)} {b N : Nat} {σ : Nat → Option va_E} {cI cJ cA : ClassId} (ht0 : tys[0]? = some (cI, .int)) (ht1 : tys[1]? = some (cJ, .long)) (ht3 : tys[3]? = some (cA, .array .long)) {th fa ls rm : Value} {n a : Nat} {gf gt gw : Nat → Int32} {F T : Nat → Nat} (hM : MN b cI σ th fa ls rm n a gf gt gw F T) {g0 : Nat → Int64} {M : Nat → Nat → Int64} (r60 : RM g0 M) (h60 : σ 60 = some (.inl (cJ, 100, .inr (.inl g0)))) {v : Int64} {x y : Nat} (hx : x < 10) (hy : y < 10) : zM l D kCl tys kNw b ky_M_addTo (kh_M_addTo :: zT) 0 0 0 0 [.ref (b + 54), .int (nI x), .int (nI y), .long v] N σ ((fun oc N' σ' => oc = .returned none ∧ N' = N ∧ (∃ g, RM g (mset M x y (M x y + v)) ∧ σ' 60 = some (.inl (cJ, 100, .inr (.inl g)))) ∧ Fr 60 60 σ σ')) := by
  refine zM.of (by decide +kernel) rfl (Nat.le_of_ble_eq_true rfl) ?_
  refine z_pick (lv' := [(0, .ref (b + 54)), (1, .int (nI x)), (2, .int (nI y)), (3, .long v)]) [0, 1, 2, 3] rfl ?_
  refine z_iload_n kd_M_addTo_0 1 rfl ?_
  refine z_iconst (v := -1) kd_M_addTo_1 (by decide) ?_
  refine z_icmp_eq (tgt := 25) kd_M_addTo_2 (by decide) (fun c2 => ?_) (fun c2 => ?_)
  · exact absurd c2 (nI_nm1 (by omega))
  · refine z_iload_n kd_M_addTo_5 2 rfl ?_
    refine z_iconst (v := -1) kd_M_addTo_6 (by decide) ?_
    refine z_icmp_eq (tgt := 25) kd_M_addTo_7 (by decide) (fun c7 => ?_) (fun c7 => ?_)
    · exact absurd c7 (nI_nm1 (by omega))
    · refine z_aload_n kd_M_addTo_10 0 rfl ?_
      refine z_get kd_M_addTo_11 (kf_M_26 _) hM.h1 rfl ?_
      refine z_bipush (v := 10) kd_M_addTo_14 (by decide +kernel) ?_
      refine z_iload_n kd_M_addTo_16 1 rfl ?_
      refine z_imul kd_M_addTo_17 ?_
      refine z_topi (nI_mul 10 x) ?_
      refine z_iload_n kd_M_addTo_18 2 rfl ?_
      refine z_iadd kd_M_addTo_19 ?_
      refine z_topi (nI_add (10 * x) y) ?_
      refine z_dup2_11 kd_M_addTo_20 rfl rfl ?_
      refine z_laldN (t0 := 1) kd_M_addTo_21 (by assumption) h60 (by omega) (by decide) ?_
      refine z_topl (RM.get r60 (i := x) (j := y) (by omega) (by omega)) ?_
      refine z_lload_n kd_M_addTo_22 3 rfl ?_
      refine z_ladd kd_M_addTo_23 ?_
      refine z_lastN (t0 := 1) kd_M_addTo_24 (by assumption) h60 (by omega) (by decide) ?_
      refine z_upd (fun σ_1 x60_1 q_1 => ?_)
      have hM_1 := hM.fr q_1 (by omega)
      have r60_1 := RM.setX (i := x) (j := y) r60 (by omega) (by omega) x60_1
      exact z_vret kd_M_addTo_25 rfl (Nat.le_of_ble_eq_true rfl) (Nat.le_of_ble_eq_true rfl) ⟨rfl, rfl, ⟨_, r60_1, x60_1⟩, (Fr.tr Fr.rf (q_1.wide (by omega) (by omega)))⟩
theorem c_M_addTo {l : Launch} {D : va_G} {tys : List (ClassId × FieldType)} {b N : Nat} {σ : Nat → Option va_E} {cI cJ cA : ClassId} (ht0 : tys[0]? = some (cI, .int)) (ht1 : tys[1]? = some (cJ, .long)) (ht3 : tys[3]? = some (cA, .array .long)) {th fa ls rm : Value} {n a : Nat} {gf gt gw : Nat → Int32} {F T : Nat → Nat} (hM : MN b cI σ th fa ls rm n a gf gt gw F T) {g0 : Nat → Int64} {M : Nat → Nat → Int64} (r60 : RM g0 M) (h60 : σ 60 = some (.inl (cJ, 100, .inr (.inl g0)))) {v : Int64} {x y : Option Nat} (hx : ∀ q, x = some q → q < 10) (hy : ∀ q, y = some q → q < 10) : zM l D kCl tys kNw b ky_M_addTo (kh_M_addTo :: zT) 0 0 0 0 [.ref (b + 54), .int (oI x), .int (oI y), .long v] N σ (fun oc N' σ' => oc = .returned none ∧ N' = N ∧ (∃ g, RM g (adO x y v M) ∧ σ' 60 = some (.inl (cJ, 100, .inr (.inl g)))) ∧ Fr 60 60 σ σ') := by
  cases x with
  | none => exact c_M_addTo0 ht0 ht1 ht3 hM r60 h60
  | some p =>
    cases y with
    | none => exact c_M_addTo1 ht0 ht1 ht3 hM r60 h60 (hx p rfl)
    | some q => exact c_M_addTo2 ht0 ht1 ht3 hM r60 h60 (hx p rfl) (hy q rfl)
/-- a row of booleans -/
def BX (a : Nat) (g : Nat → Int32) (X : Nat → Bool) : Prop := ∀ k, k < a → g k = zB (X k)
theorem zB_f {x : Bool} (h : zB x = 0) : x = false := zB_0.mp h
theorem zB_t {x : Bool} (h : ¬ zB x = 0) : x = true := by
  cases x with
  | true => rfl
  | false => exact absurd rfl h
theorem RM.z {g : Nat → Int64} (h : ∀ j, j < 100 → g j = 0) : RM g Z0 := fun i j hi hj => h _ (by omega)
def plM (pl : Int64) (i : Nat) (M : Nat → Nat → Int64) : Nat → Nat → Int64 := fun p q => if p = q ∧ p < i then M p q + pl else M p q
theorem plM_0 {pl : Int64} {M : Nat → Nat → Int64} : plM pl 0 M = M := by
  funext p q
  unfold plM
  rw [if_neg (fun h => by omega)]
theorem plM_s {pl : Int64} {i : Nat} {M : Nat → Nat → Int64} : mset (plM pl i M) i i (plM pl i M i i + pl) = plM pl (i + 1) M := by
  funext p q
  unfold mset plM
  by_cases c : p = i ∧ q = i
  · rw [if_pos c, if_neg (by omega), if_pos (by omega), c.1, c.2]
  · rw [if_neg c]
    by_cases d : p = q ∧ p < i
    · rw [if_pos d, if_pos (by omega)]
    · rw [if_neg d, if_neg (by omega)]
set_option maxHeartbeats 4000000 in
set_option maxRecDepth 100000 in
theorem l_M_rpl {l : Launch} {D : va_G} {tys : List (ClassId × FieldType)} {b N : Nat} {σ0 : Nat → Option va_E} {cI cJ cA : ClassId} (ht0 : tys[0]? = some (cI, .int)) (ht1 : tys[1]? = some (cJ, .long)) (ht3 : tys[3]? = some (cA, .array .long)) {th fa ls rm : Value} {n a : Nat} {gf gt gw : Nat → Int32} {F T : Nat → Nat} {pl : Int64} {M0 : Nat → Nat → Int64} : ∀ (m i : Nat) (σ : Nat → Option va_E) (g : Nat → Int64), i + m = 10 → MN b cI σ th fa ls rm n a gf gt gw F T → σ 60 = some (.inl (cJ, 100, .inr (.inl g))) → RM g (plM pl i M0) → Fr 60 60 σ0 σ → Z l D kCl tys (kh_M_rows :: zT) kNw ky_M_rows.cls ky_M_rows.name kb_M_rows 6 none { frames := 1, cells := 0, slots := 0, locals := 40 } b (zFi D kCl b 0 0 (fun oc N' σ' => oc = .returned none ∧ N' = N ∧ (∃ g, RM g (fun i j => if i = j then M0 i j + pl else M0 i j) ∧ σ' 60 = some (.inl (cJ, 100, .inr (.inl g)))) ∧ Fr 60 60 σ0 σ')) 0 0 N (σ) 144 [(3, .int (nI i)), (0, .ref (b + 54)), (1, .long pl)] [] := by
  intro m
  induction m with
  | zero =>
    intro i σ g hi hM h60 r60 hF
    obtain rfl : i = 10 := by omega
    have rf : RM g (fun i j => if i = j then M0 i j + pl else M0 i j) := fun p q hp hq => by
      rw [r60 p q hp hq]
      unfold plM
      by_cases c : p = q
      · rw [if_pos ⟨c, hp⟩]; exact (if_pos c).symm
      · rw [if_neg (fun z => c z.1)]; exact (if_neg c).symm
    refine z_iload_n kd_M_rows_144 0 rfl ?_
    refine z_bipush (v := 10) kd_M_rows_145 (by decide +kernel) ?_
    refine z_icmp_ge (tgt := 169) kd_M_rows_147 (by decide) (fun c147 => ?_) (fun c147 => ?_)
    · exact z_vret kd_M_rows_169 rfl (Nat.le_of_ble_eq_true rfl) (Nat.le_of_ble_eq_true rfl) ⟨rfl, rfl, ⟨_, rf, h60⟩, hF⟩
    · exact absurd (nI_le (Nat.le_refl 10) (by decide)) c147
  | succ m ih =>
    intro i σ g hi hM h60 r60 hF
    have hlt : i < 10 := by omega
    refine z_iload_n kd_M_rows_144 0 rfl ?_
    refine z_bipush (v := 10) kd_M_rows_145 (by decide +kernel) ?_
    refine z_icmp_ge (tgt := 169) kd_M_rows_147 (by decide) (fun c147 => ?_) (fun c147 => ?_)
    · exact absurd c147 (nI_ge (b := 10) hlt (by decide))
    · refine z_aload_n kd_M_rows_150 1 rfl ?_
      refine z_get kd_M_rows_151 (kf_M_26 _) hM.h1 rfl ?_
      refine z_bipush (v := 11) kd_M_rows_154 (by decide +kernel) ?_
      refine z_iload_n kd_M_rows_156 0 rfl ?_
      refine z_imul kd_M_rows_157 ?_
      refine z_topi (nI_mul 11 i) ?_
      refine z_dup2_11 kd_M_rows_158 rfl rfl ?_
      refine z_laldN (t0 := 1) kd_M_rows_159 (by assumption) h60 (by omega) (by decide) ?_
      refine z_topl (RM.gt11 r60 (t := i) (by omega)) ?_
      refine z_lload_n kd_M_rows_160 2 rfl ?_
      refine z_ladd kd_M_rows_161 ?_
      refine z_lastN (t0 := 1) kd_M_rows_162 (by assumption) h60 (by omega) (by decide) ?_
      refine z_upd (fun σ_1 x60_1 q_1 => ?_)
      have hM_1 := hM.fr q_1 (by omega)
      have r60_1 := RM.stX (t := i) r60 (by omega) x60_1
      refine z_iinc (v := (nI (i + 1))) (lv' := [(3, .int _), (0, .ref (b + 54)), (1, .long _)]) kd_M_rows_163 0 rfl (nI_1 _) (by decide) rfl ?_
      refine z_goto (tgt := 144) kd_M_rows_166 (by decide) ?_
      refine z_pick (lv' := [(3, .int (nI (i + 1))), (0, .ref (b + 54)), (1, .long pl)]) [0, 1, 2] rfl ?_
      exact ih (i + 1) _ _ (by omega) hM_1 x60_1 (by rw [← plM_s]; exact r60_1) (Fr.tr hF (q_1.wide (by omega) (by omega)))
set_option maxHeartbeats 4000000 in
set_option maxRecDepth 100000 in
theorem l_M_rows2 {l : Launch} {D : va_G} {tys : List (ClassId × FieldType)} {b N : Nat} {σ0 : Nat → Option va_E} {cI cJ cA : ClassId} (ht0 : tys[0]? = some (cI, .int)) (ht1 : tys[1]? = some (cJ, .long)) (ht3 : tys[3]? = some (cA, .array .long)) {cZ : ClassId} (ht2 : tys[2]? = some (cZ, .boolean)) {th fa ls rm : Value} {n a : Nat} {gf gt gw : Nat → Int32} {F T : Nat → Nat} {P : Nat → Nat} {g2 g3 g4 : Nat → Int32} {X : Nat → Bool} {I : Nat → Option Nat} (hp : PH n n g2 P) (hX : BX a g3 X) (hI : BH n 10 g4 I) {pl : Int64} {M0 : Nat → Nat → Int64} : ∀ (m k : Nat) (σ : Nat → Option va_E) (g : Nat → Int64) (M : Nat → Nat → Int64), k + m = a → MN b cI σ th fa ls rm n a gf gt gw F T → σ 60 = some (.inl (cJ, 100, .inr (.inl g))) → σ 62 = some (.inl (cI, 10, .inl g2)) → σ 63 = some (.inl (cZ, 30, .inl g3)) → σ 64 = some (.inl (cI, 10, .inl g4)) → RM g M → Fr 60 60 σ0 σ → rsL F T gw X P I m k M = M0 → Z l D kCl tys (kh_M_rows :: zT) kNw ky_M_rows.cls ky_M_rows.name kb_M_rows 6 none { frames := 1, cells := 0, slots := 0, locals := 40 } b (zFi D kCl b 0 0 (fun oc N' σ' => oc = .returned none ∧ N' = N ∧ (∃ g, RM g (fun i j => if i = j then M0 i j + pl else M0 i j) ∧ σ' 60 = some (.inl (cJ, 100, .inr (.inl g)))) ∧ Fr 60 60 σ0 σ')) 0 0 N (σ) 6 [(3, .int (nI k)), (0, .ref (b + 54)), (1, .long pl)] [] := by
  intro m
  induction m with
  | zero =>
    intro k σ g M hk hM h60 h62 h63 h64 r60 hF hv
    obtain rfl : k = a := by omega
    have hn := hM.hn
    have ha := hM.ha
    have hv : M = M0 := hv
    subst hv
    refine z_iload_n kd_M_rows_6 0 rfl ?_
    refine z_aload_n kd_M_rows_7 1 rfl ?_
    refine z_get kd_M_rows_8 (kf_M_80 _) hM.h1 rfl ?_
    refine z_icmp_ge (tgt := 142) kd_M_rows_11 (by decide) (fun c11 => ?_) (fun c11 => ?_)
    · refine z_iconst (v := 0) kd_M_rows_142 (by decide) ?_
      refine z_istore_n (lv' := [(3, .int _), (0, .ref (b + 54)), (1, .long _)]) kd_M_rows_143 (by decide) rfl ?_
      refine z_pick (lv' := [(3, .int (nI 0)), (0, .ref (b + 54)), (1, .long pl)]) [0, 1, 2] rfl ?_
      exact l_M_rpl ht0 ht1 ht3 10 0 _ _ (by omega) hM h60 (by rw [plM_0]; exact r60) hF
    · exact absurd (nI_le (Nat.le_refl k) (by omega)) c11
  | succ m ih =>
    intro k σ g M hk hM h60 h62 h63 h64 r60 hF hv
    have hlt : k < a := by omega
    have hn := hM.hn
    have ha := hM.ha
    obtain ⟨kf, kfn, kt, ktn⟩ := hM.hft k hlt
    have hxI := (hI (F k) kfn).2
    have hyI := (hI (T k) ktn).2
    have lF := (hp (F k) kfn).2
    have lT := (hp (T k) ktn).2
    unfold rsL at hv
    refine z_iload_n kd_M_rows_6 0 rfl ?_
    refine z_aload_n kd_M_rows_7 1 rfl ?_
    refine z_get kd_M_rows_8 (kf_M_80 _) hM.h1 rfl ?_
    refine z_icmp_ge (tgt := 142) kd_M_rows_11 (by decide) (fun c11 => ?_) (fun c11 => ?_)
    · exact absurd c11 (nI_ge hlt (by omega))
    · refine z_aload_n kd_M_rows_14 1 rfl ?_
      refine z_get kd_M_rows_15 (kf_M_39 _) hM.h1 rfl ?_
      refine z_aload_n kd_M_rows_18 1 rfl ?_
      refine z_get kd_M_rows_19 (kf_M_7 _) hM.h1 rfl ?_
      refine z_iload_n kd_M_rows_22 0 rfl ?_
      refine z_ialdN (t0 := 0) kd_M_rows_23 (by assumption) hM.h2 (by omega) (by decide) ?_
      refine z_topi kf ?_
      refine z_ialdN (t0 := 0) kd_M_rows_24 (by assumption) h64 (by omega) (by decide) ?_
      refine z_topi (hI (F k) kfn).1 ?_
      refine z_istore (lv' := [(4, .int _), (3, .int _), (0, .ref (b + 54)), (1, .long _)]) kd_M_rows_25 (by decide) rfl ?_
      refine z_aload_n kd_M_rows_27 2 rfl ?_
      refine z_get kd_M_rows_28 (kf_M_39 _) hM.h1 rfl ?_
      refine z_aload_n kd_M_rows_31 2 rfl ?_
      refine z_get kd_M_rows_32 (kf_M_13 _) hM.h1 rfl ?_
      refine z_iload_n kd_M_rows_35 1 rfl ?_
      refine z_ialdN (t0 := 0) kd_M_rows_36 (by assumption) hM.h3 (by omega) (by decide) ?_
      refine z_topi kt ?_
      refine z_ialdN (t0 := 0) kd_M_rows_37 (by assumption) h64 (by omega) (by decide) ?_
      refine z_topi (hI (T k) ktn).1 ?_
      refine z_istore (lv' := [(5, .int _), (4, .int _), (3, .int _), (0, .ref (b + 54)), (1, .long _)]) kd_M_rows_38 (by decide) rfl ?_
      refine z_aload_n kd_M_rows_40 3 rfl ?_
      refine z_get kd_M_rows_41 (kf_M_35 _) hM.h1 rfl ?_
      refine z_iload_n kd_M_rows_44 2 rfl ?_
      refine z_zaldN (t0 := 2) kd_M_rows_45 (by assumption) h63 (by omega) (by decide) ?_
      refine z_topi (hX k hlt) ?_
      refine z_if_ne (tgt := 136) kd_M_rows_46 (by decide) (fun c46 => ?_) (fun c46 => ?_)
      · rw [if_neg (fun z => by rw [z.1] at c46; exact c46 rfl)] at hv
        refine z_iinc (v := (nI (k + 1))) (lv' := [(3, .int _), (5, .int _), (4, .int _), (0, .ref (b + 54)), (1, .long _)]) kd_M_rows_136 2 rfl (nI_1 _) (by decide) rfl ?_
        refine z_goto (tgt := 6) kd_M_rows_139 (by decide) ?_
        refine z_pick (lv' := [(3, .int (nI (k + 1))), (0, .ref (b + 54)), (1, .long pl)]) [0, 3, 4] rfl ?_
        exact ih (k + 1) _ _ _ (by omega) hM h60 h62 h63 h64 r60 hF hv
      · have hx0 : X k = false := by
          cases hq : X k with
          | false => rfl
          | true => rw [hq] at c46; exact absurd c46 (by decide)
        refine z_aload_n kd_M_rows_49 3 rfl ?_
        refine z_get kd_M_rows_50 (kf_M_32 _) hM.h1 rfl ?_
        refine z_aload_n kd_M_rows_53 3 rfl ?_
        refine z_get kd_M_rows_54 (kf_M_7 _) hM.h1 rfl ?_
        refine z_iload_n kd_M_rows_57 2 rfl ?_
        refine z_ialdN (t0 := 0) kd_M_rows_58 (by assumption) hM.h2 (by omega) (by decide) ?_
        refine z_topi kf ?_
        refine z_ialdN (t0 := 0) kd_M_rows_59 (by assumption) h62 (by omega) (by decide) ?_
        refine z_topi (hp (F k) kfn).1 ?_
        refine z_aload_n kd_M_rows_60 3 rfl ?_
        refine z_get kd_M_rows_61 (kf_M_32 _) hM.h1 rfl ?_
        refine z_aload_n kd_M_rows_64 3 rfl ?_
        refine z_get kd_M_rows_65 (kf_M_13 _) hM.h1 rfl ?_
        refine z_iload_n kd_M_rows_68 2 rfl ?_
        refine z_ialdN (t0 := 0) kd_M_rows_69 (by assumption) hM.h3 (by omega) (by decide) ?_
        refine z_topi kt ?_
        refine z_ialdN (t0 := 0) kd_M_rows_70 (by assumption) h62 (by omega) (by decide) ?_
        refine z_topi (hp (T k) ktn).1 ?_
        refine z_icmp_eq (tgt := 136) kd_M_rows_71 (by decide) (fun c71 => ?_) (fun c71 => ?_)
        · rw [if_neg (fun z => z.2 ((nI_eq (by omega) (by omega)).mp c71))] at hv
          refine z_iinc (v := (nI (k + 1))) (lv' := [(3, .int _), (5, .int _), (4, .int _), (0, .ref (b + 54)), (1, .long _)]) kd_M_rows_136 2 rfl (nI_1 _) (by decide) rfl ?_
          refine z_goto (tgt := 6) kd_M_rows_139 (by decide) ?_
          refine z_pick (lv' := [(3, .int (nI (k + 1))), (0, .ref (b + 54)), (1, .long pl)]) [0, 3, 4] rfl ?_
          exact ih (k + 1) _ _ _ (by omega) hM h60 h62 h63 h64 r60 hF hv
        · rw [if_pos ⟨hx0, fun z => c71 (by rw [z])⟩] at hv
          refine z_aload_n kd_M_rows_74 3 rfl ?_
          refine z_iload kd_M_rows_75 1 rfl ?_
          refine z_iload kd_M_rows_77 1 rfl ?_
          refine z_aload_n kd_M_rows_79 3 rfl ?_
          refine z_get kd_M_rows_80 (kf_M_16 _) hM.h1 rfl ?_
          refine z_iload_n kd_M_rows_83 2 rfl ?_
          refine z_ialdN (t0 := 0) kd_M_rows_84 (by assumption) hM.h4 (by omega) (by decide) ?_
          refine z_i2l kd_M_rows_85 ?_
          refine z_callV (a := 54) (As := [_, _, _]) kd_M_rows_86 (kg_M_105 _) hM.h1 kc_M (c_M_addTo ht0 ht1 ht3 hM r60 h60 (x := I (F k)) (y := I (F k)) hxI hxI) rfl rfl (Nat.le_of_ble_eq_true rfl) ⟨Nat.le_of_ble_eq_true rfl, Nat.le_of_ble_eq_true rfl⟩ ⟨Nat.le_of_ble_eq_true rfl, Nat.le_of_ble_eq_true rfl⟩ ?_
          rintro _ _ σ_1 ⟨hv, rfl, ⟨g_1, r60_1, x60_1⟩, q_1⟩
          cases hv
          refine z_eq (st' := []) rfl rfl rfl rfl ?_
          have x62_1 := (q_1 62 (by omega)).trans h62
          have x63_1 := (q_1 63 (by omega)).trans h63
          have x64_1 := (q_1 64 (by omega)).trans h64
          have hM_1 := hM.fr q_1 (by omega)
          refine z_aload_n kd_M_rows_89 3 rfl ?_
          refine z_iload kd_M_rows_90 0 rfl ?_
          refine z_iload kd_M_rows_92 0 rfl ?_
          refine z_aload_n kd_M_rows_94 3 rfl ?_
          refine z_get kd_M_rows_95 (kf_M_16 _) hM_1.h1 rfl ?_
          refine z_iload_n kd_M_rows_98 2 rfl ?_
          refine z_ialdN (t0 := 0) kd_M_rows_99 (by assumption) hM_1.h4 (by omega) (by decide) ?_
          refine z_i2l kd_M_rows_100 ?_
          refine z_callV (a := 54) (As := [_, _, _]) kd_M_rows_101 (kg_M_105 _) hM_1.h1 kc_M (c_M_addTo ht0 ht1 ht3 hM_1 r60_1 x60_1 (x := I (T k)) (y := I (T k)) hyI hyI) rfl rfl (Nat.le_of_ble_eq_true rfl) ⟨Nat.le_of_ble_eq_true rfl, Nat.le_of_ble_eq_true rfl⟩ ⟨Nat.le_of_ble_eq_true rfl, Nat.le_of_ble_eq_true rfl⟩ ?_
          rintro _ _ σ_2 ⟨hv, rfl, ⟨g_2, r60_2, x60_2⟩, q_2⟩
          cases hv
          refine z_eq (st' := []) rfl rfl rfl rfl ?_
          have x62_2 := (q_2 62 (by omega)).trans x62_1
          have x63_2 := (q_2 63 (by omega)).trans x63_1
          have x64_2 := (q_2 64 (by omega)).trans x64_1
          have hM_2 := hM_1.fr q_2 (by omega)
          refine z_aload_n kd_M_rows_104 3 rfl ?_
          refine z_iload kd_M_rows_105 1 rfl ?_
          refine z_iload kd_M_rows_107 0 rfl ?_
          refine z_aload_n kd_M_rows_109 3 rfl ?_
          refine z_get kd_M_rows_110 (kf_M_16 _) hM_2.h1 rfl ?_
          refine z_iload_n kd_M_rows_113 2 rfl ?_
          refine z_ialdN (t0 := 0) kd_M_rows_114 (by assumption) hM_2.h4 (by omega) (by decide) ?_
          refine z_ineg kd_M_rows_115 ?_
          refine z_i2l kd_M_rows_116 ?_
          refine z_callV (a := 54) (As := [_, _, _]) kd_M_rows_117 (kg_M_105 _) hM_2.h1 kc_M (c_M_addTo ht0 ht1 ht3 hM_2 r60_2 x60_2 (x := I (F k)) (y := I (T k)) hxI hyI) rfl rfl (Nat.le_of_ble_eq_true rfl) ⟨Nat.le_of_ble_eq_true rfl, Nat.le_of_ble_eq_true rfl⟩ ⟨Nat.le_of_ble_eq_true rfl, Nat.le_of_ble_eq_true rfl⟩ ?_
          rintro _ _ σ_3 ⟨hv, rfl, ⟨g_3, r60_3, x60_3⟩, q_3⟩
          cases hv
          refine z_eq (st' := []) rfl rfl rfl rfl ?_
          have x62_3 := (q_3 62 (by omega)).trans x62_2
          have x63_3 := (q_3 63 (by omega)).trans x63_2
          have x64_3 := (q_3 64 (by omega)).trans x64_2
          have hM_3 := hM_2.fr q_3 (by omega)
          refine z_aload_n kd_M_rows_120 3 rfl ?_
          refine z_iload kd_M_rows_121 0 rfl ?_
          refine z_iload kd_M_rows_123 1 rfl ?_
          refine z_aload_n kd_M_rows_125 3 rfl ?_
          refine z_get kd_M_rows_126 (kf_M_16 _) hM_3.h1 rfl ?_
          refine z_iload_n kd_M_rows_129 2 rfl ?_
          refine z_ialdN (t0 := 0) kd_M_rows_130 (by assumption) hM_3.h4 (by omega) (by decide) ?_
          refine z_ineg kd_M_rows_131 ?_
          refine z_i2l kd_M_rows_132 ?_
          refine z_callV (a := 54) (As := [_, _, _]) kd_M_rows_133 (kg_M_105 _) hM_3.h1 kc_M (c_M_addTo ht0 ht1 ht3 hM_3 r60_3 x60_3 (x := I (T k)) (y := I (F k)) hyI hxI) rfl rfl (Nat.le_of_ble_eq_true rfl) ⟨Nat.le_of_ble_eq_true rfl, Nat.le_of_ble_eq_true rfl⟩ ⟨Nat.le_of_ble_eq_true rfl, Nat.le_of_ble_eq_true rfl⟩ ?_
          rintro _ _ σ_4 ⟨hv, rfl, ⟨g_4, r60_4, x60_4⟩, q_4⟩
          cases hv
          refine z_eq (st' := []) rfl rfl rfl rfl ?_
          have x62_4 := (q_4 62 (by omega)).trans x62_3
          have x63_4 := (q_4 63 (by omega)).trans x63_3
          have x64_4 := (q_4 64 (by omega)).trans x64_3
          have hM_4 := hM_3.fr q_4 (by omega)
          refine z_iinc (v := (nI (k + 1))) (lv' := [(3, .int _), (5, .int _), (4, .int _), (0, .ref (b + 54)), (1, .long _)]) kd_M_rows_136 2 rfl (nI_1 _) (by decide) rfl ?_
          refine z_goto (tgt := 6) kd_M_rows_139 (by decide) ?_
          refine z_pick (lv' := [(3, .int (nI (k + 1))), (0, .ref (b + 54)), (1, .long pl)]) [0, 3, 4] rfl ?_
          exact ih (k + 1) _ _ _ (by omega) hM_4 x60_4 x62_4 x63_4 x64_4 r60_4 (Fr.tr (Fr.tr (Fr.tr (Fr.tr hF (q_1.wide (by omega) (by omega))) (q_2.wide (by omega) (by omega))) (q_3.wide (by omega) (by omega))) (q_4.wide (by omega) (by omega))) hv
set_option maxHeartbeats 4000000 in
set_option maxRecDepth 100000 in
theorem c_M_rows {l : Launch} {D : va_G} {tys : List (ClassId × FieldType)} {b N : Nat} {σ : Nat → Option va_E} {cI cJ cA : ClassId} (ht0 : tys[0]? = some (cI, .int)) (ht1 : tys[1]? = some (cJ, .long)) (ht3 : tys[3]? = some (cA, .array .long)) {cZ : ClassId} (ht2 : tys[2]? = some (cZ, .boolean)) {th fa ls rm : Value} {n a : Nat} {gf gt gw : Nat → Int32} {F T : Nat → Nat} (hM : MN b cI σ th fa ls rm n a gf gt gw F T) {P : Nat → Nat} {g2 g3 g4 : Nat → Int32} {X : Nat → Bool} {I : Nat → Option Nat} (hp : PH n n g2 P) (hX : BX a g3 X) (hI : BH n 10 g4 I) {g0 : Nat → Int64} (h60 : σ 60 = some (.inl (cJ, 100, .inr (.inl g0)))) (h62 : σ 62 = some (.inl (cI, 10, .inl g2))) (h63 : σ 63 = some (.inl (cZ, 30, .inl g3))) (h64 : σ 64 = some (.inl (cI, 10, .inl g4))) {pl : Int64} : zM l D kCl tys kNw b ky_M_rows (kh_M_rows :: zT) 1 40 0 0 [.ref (b + 54), .long pl] N σ ((fun oc N' σ' => oc = .returned none ∧ N' = N ∧ (∃ g, RM g (rsV a F T gw X P I pl) ∧ σ' 60 = some (.inl (cJ, 100, .inr (.inl g)))) ∧ Fr 60 60 σ σ')) := by
  refine zM.of (by decide +kernel) rfl (Nat.le_of_ble_eq_true rfl) ?_
  refine z_pick (lv' := [(0, .ref (b + 54)), (1, .long pl)]) [0, 1] rfl ?_
  refine z_aload_n kd_M_rows_0 0 rfl ?_
  refine z_callV (a := 54) (As := []) kd_M_rows_1 (kg_M_102 _) hM.h1 kc_M (c_M_clearRows ht1 hM.h1 h60) rfl rfl (Nat.le_of_ble_eq_true rfl) ⟨Nat.le_of_ble_eq_true rfl, Nat.le_of_ble_eq_true rfl⟩ ⟨Nat.le_of_ble_eq_true rfl, Nat.le_of_ble_eq_true rfl⟩ ?_
  rintro _ _ _ ⟨hv, rfl, g_1, hg_1, rfl⟩
  cases hv
  refine z_eq (st' := []) rfl rfl rfl rfl ?_
  refine z_upd (fun σ_1 x60_1 q_1 => ?_)
  have x62_1 := (q_1 62 (by omega)).trans h62
  have x63_1 := (q_1 63 (by omega)).trans h63
  have x64_1 := (q_1 64 (by omega)).trans h64
  have hM_1 := hM.fr q_1 (by omega)
  refine z_iconst (v := 0) kd_M_rows_4 (by decide) ?_
  refine z_istore_n (lv' := [(3, .int _), (0, .ref (b + 54)), (1, .long _)]) kd_M_rows_5 (by decide) rfl ?_
  refine z_pick (lv' := [(3, .int (nI 0)), (0, .ref (b + 54)), (1, .long pl)]) [0, 1, 2] rfl ?_
  exact l_M_rows2 ht0 ht1 ht3 ht2 hp hX hI a 0 _ _ _ (by omega) hM_1 x60_1 x62_1 x63_1 x64_1 (RM.z hg_1) (Fr.tr Fr.rf (q_1.wide (by omega) (by omega))) rfl
