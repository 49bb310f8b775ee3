theorem MN.put {b : Nat} {cI : ClassId} {σ σ' : Nat → Option va_E} {th fa ls rm th' fa' ls' rm' : Value} {n a : Nat} {gf gt gw : Nat → Int32} {F T : Nat → Nat} (h : MN b cI σ th fa ls rm n a gf gt gw F T) (x : σ' 54 = some (.inr (9, [th', .int (nI n), .int (nI a), .ref (b + 55), .ref (b + 56), .ref (b + 57), .ref (b + 58), .ref (b + 59), .ref (b + 60), .ref (b + 61), .ref (b + 62), .ref (b + 63), .ref (b + 64), .ref (b + 65), fa', .ref (b + 66), .ref (b + 67), ls', .ref (b + 68), .ref (b + 69), .ref (b + 70), .ref (b + 71), rm', .ref (b + 72), .ref (b + 73)]))) (q : Fr 54 54 σ σ') : MN b cI σ' th' fa' ls' rm' n a gf gt gw F T :=
  ⟨x, (q 55 (by omega)).trans h.h2, (q 56 (by omega)).trans h.h3, (q 57 (by omega)).trans h.h4, h.hn, h.ha, h.hft⟩
/-- the reference's rows, whatever they hold -/
def MR (cI cJ cZ : ClassId) (σ : Nat → Option va_E) : Prop := (∃ g, σ 60 = some (.inl (cJ, 100, .inr (.inl g)))) ∧ (∃ g, σ 61 = some (.inl (cJ, 100, .inr (.inl g)))) ∧ (∃ g, σ 62 = some (.inl (cI, 10, .inl g))) ∧ (∃ g, σ 63 = some (.inl (cZ, 30, .inl g))) ∧ (∃ g, σ 64 = some (.inl (cI, 10, .inl g))) ∧ (∃ g, σ 65 = some (.inl (cI, 10, .inl g))) ∧ (∃ g, σ 66 = some (.inl (cZ, 30, .inl g))) ∧ (∃ g, σ 67 = some (.inl (cI, 30, .inl g))) ∧ (∃ g, σ 68 = some (.inl (cI, 10, .inl g))) ∧ (∃ g, σ 69 = some (.inl (cZ, 10, .inl g))) ∧ (∃ g, σ 70 = some (.inl (cI, 10, .inl g))) ∧ (∃ g, σ 71 = some (.inl (cJ, 10, .inr (.inl g)))) ∧ (∃ g, σ 72 = some (.inl (cJ, 10, .inr (.inl g)))) ∧ (∃ g, σ 73 = some (.inl (cJ, 10, .inr (.inl g))))
/-- the reference's state -/
def MS (b : Nat) (cI cJ cZ : ClassId) (σ : Nat → Option va_E) (n a : Nat) (gf gt gw : Nat → Int32) (F T : Nat → Nat) (C K : Nat → Int64) : Prop := (∃ th fa ls rm, MN b cI σ th fa ls rm n a gf gt gw F T) ∧ σ 58 = some (.inl (cJ, 10, .inr (.inl C))) ∧ σ 59 = some (.inl (cJ, 10, .inr (.inl K))) ∧ MR cI cJ cZ σ
set_option maxHeartbeats 4000000 in
set_option maxRecDepth 100000 in
theorem c_M_count0 {l : Launch} {D : va_G} {tys : List (ClassId × FieldType)} {b N : Nat} {σ : Nat → Option va_E} {cI cJ cA : ClassId} (ht0 : tys[0]? = some (cI, .int)) (ht1 : tys[1]? = some (cJ, .long)) (ht3 : tys[3]? = some (cA, .array .long)) {cZ : ClassId} (ht2 : tys[2]? = some (cZ, .boolean)) {th fa ls rm : Value} {n a : Nat} {gf gt gw : Nat → Int32} {F T : Nat → Nat} (hM : MN b cI σ th fa ls rm n a gf gt gw F T) {P : Nat → Nat} {g2 g3 g4 : Nat → Int32} {g0 g1 : Nat → Int64} {X : Nat → Bool} (hp : PH n n g2 P) (hX : BX a g3 X) (h60 : σ 60 = some (.inl (cJ, 100, .inr (.inl g0)))) (h61 : σ 61 = some (.inl (cJ, 100, .inr (.inl g1)))) (h62 : σ 62 = some (.inl (cI, 10, .inl g2))) (h63 : σ 63 = some (.inl (cZ, 30, .inl g3))) (h64 : σ 64 = some (.inl (cI, 10, .inl g4))) (hn0 : n = 0) : zM l D kCl tys kNw b ky_M_count (kh_M_count :: zT) 3 140 0 0 [.ref (b + 54)] N σ ((fun oc N' σ' => oc = .returned (some (.long (0))) ∧ N' = N ∧ (∃ g, σ' 60 = some (.inl (cJ, 100, .inr (.inl g)))) ∧ (∃ g, σ' 61 = some (.inl (cJ, 100, .inr (.inl g)))) ∧ (∃ g, σ' 64 = some (.inl (cI, 10, .inl g))) ∧ σ' 62 = σ 62 ∧ σ' 63 = σ 63 ∧ Fr 60 64 σ σ')) := by
  refine zM.of (by decide +kernel) rfl (Nat.le_of_ble_eq_true rfl) ?_
  refine z_pick (lv' := [(0, .ref (b + 54))]) [0] rfl ?_
  have hn := hM.hn
  have ha := hM.ha
  refine z_aload_n kd_M_count_0 0 rfl ?_
  refine z_get kd_M_count_1 (kf_M_73 _) hM.h1 rfl ?_
  refine z_if_ne (tgt := 9) kd_M_count_4 (by decide) (fun c4 => ?_) (fun c4 => ?_)
  · exact absurd (by rw [hn0]; rfl) c4
  · refine z_lconst (v := 0) kd_M_count_7 (by decide +kernel) ?_
    exact z_lret kd_M_count_8 rfl (Nat.le_of_ble_eq_true rfl) (Nat.le_of_ble_eq_true rfl) ⟨rfl, rfl, ⟨_, h60⟩, ⟨_, h61⟩, ⟨_, h64⟩, rfl, rfl, Fr.rf⟩
theorem nmL_le {n : Nat} {P : Nat → Nat} {bu ot : Option Nat} : ∀ (m x c : Nat) (I : Nat → Option Nat), c ≤ x → (nmL n P bu ot m x c I).1 ≤ x + m := by
  intro m
  induction m with
  | zero => intro x c I h; exact h
  | succ m ih =>
    intro x c I h
    unfold nmL
    split
    · have := ih (x + 1) (c + 1) (fun v => if v < n ∧ P v = P x then some c else I v) (by omega); omega
    · have := ih (x + 1) c I (by omega); omega
theorem nmV_le {n : Nat} {P : Nat → Nat} {bu ot : Option Nat} : (nmV n P bu ot).1 ≤ n := by
  have := nmL_le (n := n) (P := P) (bu := bu) (ot := ot) n 0 0 (fun _ => none) (by omega)
  unfold nmV
  omega
set_option maxHeartbeats 4000000 in
set_option maxRecDepth 100000 in
theorem c_M_count1 {l : Launch} {D : va_G} {tys : List (ClassId × FieldType)} {b N : Nat} {σ : Nat → Option va_E} {cI cJ cA : ClassId} (ht0 : tys[0]? = some (cI, .int)) (ht1 : tys[1]? = some (cJ, .long)) (ht3 : tys[3]? = some (cA, .array .long)) {cZ : ClassId} (ht2 : tys[2]? = some (cZ, .boolean)) {th fa ls rm : Value} {n a : Nat} {gf gt gw : Nat → Int32} {F T : Nat → Nat} (hM : MN b cI σ th fa ls rm n a gf gt gw F T) {P : Nat → Nat} {g2 g3 g4 : Nat → Int32} {g0 g1 : Nat → Int64} {X : Nat → Bool} (hp : PH n n g2 P) (hX : BX a g3 X) (h60 : σ 60 = some (.inl (cJ, 100, .inr (.inl g0)))) (h61 : σ 61 = some (.inl (cJ, 100, .inr (.inl g1)))) (h62 : σ 62 = some (.inl (cI, 10, .inl g2))) (h63 : σ 63 = some (.inl (cZ, 30, .inl g3))) (h64 : σ 64 = some (.inl (cI, 10, .inl g4))) (hn0 : 0 < n) : zM l D kCl tys kNw b ky_M_count (kh_M_count :: zT) 3 140 0 0 [.ref (b + 54)] N σ ((fun oc N' σ' => oc = .returned (some (.long (cnV n a F T gw X P))) ∧ N' = N ∧ (∃ g, σ' 60 = some (.inl (cJ, 100, .inr (.inl g)))) ∧ (∃ g, σ' 61 = some (.inl (cJ, 100, .inr (.inl g)))) ∧ (∃ g, σ' 64 = some (.inl (cI, 10, .inl g))) ∧ σ' 62 = σ 62 ∧ σ' 63 = σ 63 ∧ Fr 60 64 σ σ')) := by
  refine zM.of (by decide +kernel) rfl (Nat.le_of_ble_eq_true rfl) ?_
  refine z_pick (lv' := [(0, .ref (b + 54))]) [0] rfl ?_
  have hn := hM.hn
  have ha := hM.ha
  refine z_aload_n kd_M_count_0 0 rfl ?_
  refine z_get kd_M_count_1 (kf_M_73 _) hM.h1 rfl ?_
  refine z_if_ne (tgt := 9) kd_M_count_4 (by decide) (fun c4 => ?_) (fun c4 => ?_)
  · refine z_aload_n kd_M_count_9 0 rfl ?_
    refine z_aload_n kd_M_count_10 0 rfl ?_
    refine z_get kd_M_count_11 (kf_M_32 _) hM.h1 rfl ?_
    refine z_iconst (v := nI 0) kd_M_count_14 (by decide) ?_
    refine z_ialdN (t0 := 0) kd_M_count_15 (by assumption) h62 (by omega) (by decide) ?_
    refine z_topi (hp 0 hn0).1 ?_
    refine z_iconst (v := -1) kd_M_count_16 (by decide) ?_
    refine z_callV (a := 54) (As := [_, _]) kd_M_count_17 (kg_M_109 _) hM.h1 kc_M (c_M_number ht0 ht1 ht3 hM hp (bu := some (P 0)) (ot := none) (fun q hq => by cases hq; exact Nat.lt_of_lt_of_le (hp 0 hn0).2 hn) (fun q hq => by cases hq) h62 h64) rfl rfl (Nat.le_of_ble_eq_true rfl) ⟨Nat.le_of_ble_eq_true rfl, Nat.le_of_ble_eq_true rfl⟩ ⟨Nat.le_of_ble_eq_true rfl, Nat.le_of_ble_eq_true rfl⟩ ?_
    rintro _ _ σ_1 ⟨hv, rfl, ⟨g4_1, hI_1, x64_1⟩, q_1⟩
    cases hv
    refine z_eq (st' := [_]) rfl rfl rfl rfl ?_
    have x60_1 := (q_1 60 (by omega)).trans h60
    have x61_1 := (q_1 61 (by omega)).trans h61
    have x62_1 := (q_1 62 (by omega)).trans h62
    have x63_1 := (q_1 63 (by omega)).trans h63
    have hM_1 := hM.fr q_1 (by omega)
    refine z_istore_n (lv' := [(1, .int _), (0, .ref (b + 54))]) kd_M_count_20 (by decide) rfl ?_
    refine z_aload_n kd_M_count_21 1 rfl ?_
    refine z_lconst (v := 0) kd_M_count_22 (by decide +kernel) ?_
    refine z_callV (a := 54) (As := [_]) kd_M_count_23 (kg_M_113 _) hM_1.h1 kc_M (c_M_rows ht0 ht1 ht3 ht2 hM_1 hp hX hI_1 x60_1 x62_1 x63_1 x64_1 (pl := 0)) rfl rfl (Nat.le_of_ble_eq_true rfl) ⟨Nat.le_of_ble_eq_true rfl, Nat.le_of_ble_eq_true rfl⟩ ⟨Nat.le_of_ble_eq_true rfl, Nat.le_of_ble_eq_true rfl⟩ ?_
    rintro _ _ σ_2 ⟨hv, rfl, ⟨g0_2, r60_2, x60_2⟩, q_2⟩
    cases hv
    refine z_eq (st' := []) rfl rfl rfl rfl ?_
    have x61_2 := (q_2 61 (by omega)).trans x61_1
    have x62_2 := (q_2 62 (by omega)).trans x62_1
    have x63_2 := (q_2 63 (by omega)).trans x63_1
    have x64_2 := (q_2 64 (by omega)).trans x64_1
    have hM_2 := hM_1.fr q_2 (by omega)
    refine z_aload_n kd_M_count_26 1 rfl ?_
    refine z_iload_n kd_M_count_27 0 rfl ?_
    refine z_callV (a := 54) (As := [_]) kd_M_count_28 (kg_M_117 _) hM_2.h1 kc_M (c_M_determinant ht0 ht1 ht3 hM_2 (Nat.le_trans nmV_le hn) x60_2 x61_2 r60_2) rfl rfl (Nat.le_of_ble_eq_true rfl) ⟨Nat.le_of_ble_eq_true rfl, Nat.le_of_ble_eq_true rfl⟩ ⟨Nat.le_of_ble_eq_true rfl, Nat.le_of_ble_eq_true rfl⟩ ?_
    rintro _ _ σ_3 ⟨hv, rfl, ⟨g1_3, x61_3⟩, q_3⟩
    cases hv
    refine z_eq (st' := [_]) rfl rfl rfl rfl ?_
    have x60_3 := (q_3 60 (by omega)).trans x60_2
    have x62_3 := (q_3 62 (by omega)).trans x62_2
    have x63_3 := (q_3 63 (by omega)).trans x63_2
    have x64_3 := (q_3 64 (by omega)).trans x64_2
    have hM_3 := hM_2.fr q_3 (by omega)
    exact z_lret kd_M_count_31 rfl (Nat.le_of_ble_eq_true rfl) (Nat.le_of_ble_eq_true rfl) ⟨by unfold cnV; rw [if_neg (by omega)], rfl, ⟨_, x60_3⟩, ⟨_, x61_3⟩, ⟨_, x64_3⟩, x62_3.trans h62.symm, x63_3.trans h63.symm, (Fr.tr (Fr.tr (Fr.tr Fr.rf (q_1.wide (by omega) (by omega))) (q_2.wide (by omega) (by omega))) (q_3.wide (by omega) (by omega)))⟩
  · exact absurd c4 (nI_ne0 hn0 (by omega))
theorem c_M_count {l : Launch} {D : va_G} {tys : List (ClassId × FieldType)} {b N : Nat} {σ : Nat → Option va_E} {cI cJ cA : ClassId} (ht0 : tys[0]? = some (cI, .int)) (ht1 : tys[1]? = some (cJ, .long)) (ht3 : tys[3]? = some (cA, .array .long)) {cZ : ClassId} (ht2 : tys[2]? = some (cZ, .boolean)) {th fa ls rm : Value} {n a : Nat} {gf gt gw : Nat → Int32} {F T : Nat → Nat} (hM : MN b cI σ th fa ls rm n a gf gt gw F T) {P : Nat → Nat} {g2 g3 g4 : Nat → Int32} {g0 g1 : Nat → Int64} {X : Nat → Bool} (hp : PH n n g2 P) (hX : BX a g3 X) (h60 : σ 60 = some (.inl (cJ, 100, .inr (.inl g0)))) (h61 : σ 61 = some (.inl (cJ, 100, .inr (.inl g1)))) (h62 : σ 62 = some (.inl (cI, 10, .inl g2))) (h63 : σ 63 = some (.inl (cZ, 30, .inl g3))) (h64 : σ 64 = some (.inl (cI, 10, .inl g4))) : zM l D kCl tys kNw b ky_M_count (kh_M_count :: zT) 3 140 0 0 [.ref (b + 54)] N σ (fun oc N' σ' => oc = .returned (some (.long (cnV n a F T gw X P))) ∧ N' = N ∧ (∃ g, σ' 60 = some (.inl (cJ, 100, .inr (.inl g)))) ∧ (∃ g, σ' 61 = some (.inl (cJ, 100, .inr (.inl g)))) ∧ (∃ g, σ' 64 = some (.inl (cI, 10, .inl g))) ∧ σ' 62 = σ 62 ∧ σ' 63 = σ 63 ∧ Fr 60 64 σ σ') := by
  rcases Nat.eq_zero_or_pos n with q | q
  · have e : cnV n a F T gw X P = 0 := by unfold cnV; rw [if_pos q]
    rw [e]
    exact c_M_count0 ht0 ht1 ht3 ht2 hM hp hX h60 h61 h62 h63 h64 q
  · exact c_M_count1 ht0 ht1 ht3 ht2 hM hp hX h60 h61 h62 h63 h64 q
theorem BX.z {a : Nat} {g : Nat → Int32} (ha : a ≤ 30) (h : ∀ j, j < 30 → g j = 0) : BX a g x0 := fun k hk => h k (by omega)
theorem BX.set {a k : Nat} {g : Nat → Int32} {X : Nat → Bool} (h : BX a g X) : BX a (upd g k 1) (bset X k) := by
  intro j hj
  by_cases e : j = k
  · subst e; simp [upd, bset, zB]
  · have := h j hj
    simp [upd, bset, e, this]
set_option maxHeartbeats 4000000 in
set_option maxRecDepth 100000 in
theorem c_M_trees {l : Launch} {D : va_G} {tys : List (ClassId × FieldType)} {b N : Nat} {σ : Nat → Option va_E} {cI cJ cA : ClassId} (ht0 : tys[0]? = some (cI, .int)) (ht1 : tys[1]? = some (cJ, .long)) (ht3 : tys[3]? = some (cA, .array .long)) {cZ : ClassId} (ht2 : tys[2]? = some (cZ, .boolean)) {n a : Nat} {gf gt gw : Nat → Int32} {F T : Nat → Nat} {C K : Nat → Int64} (hMS : MS b cI cJ cZ σ n a gf gt gw F T C K) : zM l D kCl tys kNw b ky_M_trees (kh_M_trees :: zT) 4 180 0 0 [.ref (b + 54)] N σ ((fun oc N' σ' => oc = .returned (some (.long (cnV n a F T gw x0 (fun v => v)))) ∧ N' = N ∧ MS b cI cJ cZ σ' n a gf gt gw F T C K ∧ (∃ g2 g3, σ' 62 = some (.inl (cI, 10, .inl g2)) ∧ PH n n g2 (fun v => v) ∧ σ' 63 = some (.inl (cZ, 30, .inl g3)) ∧ BX a g3 x0) ∧ Fr 54 73 σ σ')) := by
  refine zM.of (by decide +kernel) rfl (Nat.le_of_ble_eq_true rfl) ?_
  refine z_pick (lv' := [(0, .ref (b + 54))]) [0] rfl ?_
  obtain ⟨⟨th, fa, ls, rm, hM⟩, h58, h59, ⟨g60, h60⟩, ⟨g61, h61⟩, ⟨g62, h62⟩, ⟨g63, h63⟩, ⟨g64, h64⟩, ⟨g65, h65⟩, ⟨g66, h66⟩, ⟨g67, h67⟩, ⟨g68, h68⟩, ⟨g69, h69⟩, ⟨g70, h70⟩, ⟨g71, h71⟩, ⟨g72, h72⟩, ⟨g73, h73⟩⟩ := hMS
  have hn := hM.hn
  have ha := hM.ha
  refine z_aload_n kd_M_trees_0 0 rfl ?_
  refine z_iconst (v := 0) kd_M_trees_1 (by decide) ?_
  refine z_putE (fs' := [_, _, _, _, _, _, _, _, _, _, _, _, _, _, _, _, _, _, _, _, _, _, _, _, _]) kd_M_trees_2 (kp_M_69 _) hM.h1 (Nat.le_of_ble_eq_true rfl) rfl rfl rfl ?_
  refine z_upd (fun σ_1 x54_1 q_1 => ?_)
  have x58_1 := (q_1 58 (by omega)).trans h58
  have x59_1 := (q_1 59 (by omega)).trans h59
  have x60_1 := (q_1 60 (by omega)).trans h60
  have x61_1 := (q_1 61 (by omega)).trans h61
  have x62_1 := (q_1 62 (by omega)).trans h62
  have x63_1 := (q_1 63 (by omega)).trans h63
  have x64_1 := (q_1 64 (by omega)).trans h64
  have x65_1 := (q_1 65 (by omega)).trans h65
  have x66_1 := (q_1 66 (by omega)).trans h66
  have x67_1 := (q_1 67 (by omega)).trans h67
  have x68_1 := (q_1 68 (by omega)).trans h68
  have x69_1 := (q_1 69 (by omega)).trans h69
  have x70_1 := (q_1 70 (by omega)).trans h70
  have x71_1 := (q_1 71 (by omega)).trans h71
  have x72_1 := (q_1 72 (by omega)).trans h72
  have x73_1 := (q_1 73 (by omega)).trans h73
  have hM_1 := hM.put x54_1 q_1
  refine z_aload_n kd_M_trees_5 0 rfl ?_
  refine z_callV (a := 54) (As := []) kd_M_trees_6 (kg_M_121 _) hM_1.h1 kc_M (c_M_apartAll ht0 ht1 ht3 hM_1 x62_1) rfl rfl (Nat.le_of_ble_eq_true rfl) ⟨Nat.le_of_ble_eq_true rfl, Nat.le_of_ble_eq_true rfl⟩ ⟨Nat.le_of_ble_eq_true rfl, Nat.le_of_ble_eq_true rfl⟩ ?_
  rintro _ _ σ_2 ⟨hv, rfl, ⟨g2_2, hp_2, x62_2⟩, q_2⟩
  cases hv
  refine z_eq (st' := []) rfl rfl rfl rfl ?_
  have x58_2 := (q_2 58 (by omega)).trans x58_1
  have x59_2 := (q_2 59 (by omega)).trans x59_1
  have x60_2 := (q_2 60 (by omega)).trans x60_1
  have x61_2 := (q_2 61 (by omega)).trans x61_1
  have x63_2 := (q_2 63 (by omega)).trans x63_1
  have x64_2 := (q_2 64 (by omega)).trans x64_1
  have x65_2 := (q_2 65 (by omega)).trans x65_1
  have x66_2 := (q_2 66 (by omega)).trans x66_1
  have x67_2 := (q_2 67 (by omega)).trans x67_1
  have x68_2 := (q_2 68 (by omega)).trans x68_1
  have x69_2 := (q_2 69 (by omega)).trans x69_1
  have x70_2 := (q_2 70 (by omega)).trans x70_1
  have x71_2 := (q_2 71 (by omega)).trans x71_1
  have x72_2 := (q_2 72 (by omega)).trans x72_1
  have x73_2 := (q_2 73 (by omega)).trans x73_1
  have hM_2 := hM_1.fr q_2 (by omega)
  refine z_aload_n kd_M_trees_9 0 rfl ?_
  refine z_callV (a := 54) (As := []) kd_M_trees_10 (kg_M_124 _) hM_2.h1 kc_M (c_M_noneOut ht2 hM_2.h1 x63_2) rfl rfl (Nat.le_of_ble_eq_true rfl) ⟨Nat.le_of_ble_eq_true rfl, Nat.le_of_ble_eq_true rfl⟩ ⟨Nat.le_of_ble_eq_true rfl, Nat.le_of_ble_eq_true rfl⟩ ?_
  rintro _ _ _ ⟨hv, rfl, g3_3, hg3_3, rfl⟩
  cases hv
  refine z_eq (st' := []) rfl rfl rfl rfl ?_
  refine z_upd (fun σ_3 x63_3 q_3 => ?_)
  have x58_3 := (q_3 58 (by omega)).trans x58_2
  have x59_3 := (q_3 59 (by omega)).trans x59_2
  have x60_3 := (q_3 60 (by omega)).trans x60_2
  have x61_3 := (q_3 61 (by omega)).trans x61_2
  have x62_3 := (q_3 62 (by omega)).trans x62_2
  have x64_3 := (q_3 64 (by omega)).trans x64_2
  have x65_3 := (q_3 65 (by omega)).trans x65_2
  have x66_3 := (q_3 66 (by omega)).trans x66_2
  have x67_3 := (q_3 67 (by omega)).trans x67_2
  have x68_3 := (q_3 68 (by omega)).trans x68_2
  have x69_3 := (q_3 69 (by omega)).trans x69_2
  have x70_3 := (q_3 70 (by omega)).trans x70_2
  have x71_3 := (q_3 71 (by omega)).trans x71_2
  have x72_3 := (q_3 72 (by omega)).trans x72_2
  have x73_3 := (q_3 73 (by omega)).trans x73_2
  have hM_3 := hM_2.fr q_3 (by omega)
  refine z_aload_n kd_M_trees_13 0 rfl ?_
  refine z_callV (a := 54) (As := []) kd_M_trees_14 (kg_M_127 _) hM_3.h1 kc_M (c_M_count ht0 ht1 ht3 ht2 hM_3 hp_2 (BX.z (by omega) hg3_3) x60_3 x61_3 x62_3 x63_3 x64_3) rfl rfl (Nat.le_of_ble_eq_true rfl) ⟨Nat.le_of_ble_eq_true rfl, Nat.le_of_ble_eq_true rfl⟩ ⟨Nat.le_of_ble_eq_true rfl, Nat.le_of_ble_eq_true rfl⟩ ?_
  rintro _ _ σ_4 ⟨hv, rfl, ⟨g0_4, x60_4⟩, ⟨g1_4, x61_4⟩, ⟨g4_4, x64_4⟩, e62_4, e63_4, q_4⟩
  cases hv
  refine z_eq (st' := [_]) rfl rfl rfl rfl ?_
  have x58_4 := (q_4 58 (by omega)).trans x58_3
  have x59_4 := (q_4 59 (by omega)).trans x59_3
  have x65_4 := (q_4 65 (by omega)).trans x65_3
  have x66_4 := (q_4 66 (by omega)).trans x66_3
  have x67_4 := (q_4 67 (by omega)).trans x67_3
  have x68_4 := (q_4 68 (by omega)).trans x68_3
  have x69_4 := (q_4 69 (by omega)).trans x69_3
  have x70_4 := (q_4 70 (by omega)).trans x70_3
  have x71_4 := (q_4 71 (by omega)).trans x71_3
  have x72_4 := (q_4 72 (by omega)).trans x72_3
  have x73_4 := (q_4 73 (by omega)).trans x73_3
  have hM_4 := hM_3.fr q_4 (by omega)
  exact z_lret kd_M_trees_17 rfl (Nat.le_of_ble_eq_true rfl) (Nat.le_of_ble_eq_true rfl) ⟨rfl, rfl, ⟨⟨_, _, _, _, hM_4⟩, x58_4, x59_4, ⟨_, x60_4⟩, ⟨_, x61_4⟩, ⟨_, (e62_4.trans x62_3)⟩, ⟨_, (e63_4.trans x63_3)⟩, ⟨_, x64_4⟩, ⟨_, x65_4⟩, ⟨_, x66_4⟩, ⟨_, x67_4⟩, ⟨_, x68_4⟩, ⟨_, x69_4⟩, ⟨_, x70_4⟩, ⟨_, x71_4⟩, ⟨_, x72_4⟩, ⟨_, x73_4⟩⟩, ⟨_, _, (e62_4.trans x62_3), hp_2, (e63_4.trans x63_3), (BX.z (by omega) hg3_3)⟩, (Fr.tr (Fr.tr (Fr.tr (Fr.tr Fr.rf (q_1.wide (by omega) (by omega))) (q_2.wide (by omega) (by omega))) (q_3.wide (by omega) (by omega))) (q_4.wide (by omega) (by omega)))⟩
