def siV (a : Nat) (F T : Nat → Nat) (w : Nat → Int32) (k : Nat) (cs cp : Int64) (c : Nat) (P : Nat → Nat) : Int64 := if P (F k) = P (T k) then 0 else cs - cp * sopV c (k + 1) a F T w P
set_option maxHeartbeats 4000000 in
set_option maxRecDepth 100000 in
theorem c_T_beginChoice {l : Launch} {D : va_G} {tys : List (ClassId × FieldType)} {b N : Nat} {σ : Nat → Option va_E} {cI cJ cA : ClassId} (ht0 : tys[0]? = some (cI, .int)) (ht1 : tys[1]? = some (cJ, .long)) (ht3 : tys[3]? = some (cA, .array .long)) {n a : Nat} {gf gt gw : Nat → Int32} {F T : Nat → Nat} (hN : NS b cI σ n a gf gt gw F T) {v19 w19 : Value} (h19 : σ 19 = some (.inr (4, [.ref (b + 1), .ref (b + 5), .ref (b + 7), v19, w19]))) (hPA : PA b cI σ 5) (hA : GA b cA cJ σ) : zM l D kCl tys kNw b ky_T_beginChoice (kh_T_beginChoice :: zT) 4 170 0 0 [.ref (b + 19)] N σ (fun oc N' σ' => oc = .returned none ∧ N' = N ∧ PS b cI σ' 5 n n (fun v => v) ∧ GA b cA cJ σ' ∧ σ' 19 = some (.inr (4, [.ref (b + 1), .ref (b + 5), .ref (b + 7), .long (sopV n 0 a F T gw (fun v => v)), .long 1])) ∧ Fr 5 19 σ σ') := by
  refine zM.of (by decide +kernel) rfl (Nat.le_of_ble_eq_true rfl) ?_
  refine z_pick (lv' := [(0, .ref (b + 19))]) [0] rfl ?_
  obtain ⟨s0, M0, hS0⟩ := hA
  obtain ⟨u5, x5, g5, h5, h6⟩ := hPA
  have hn := hN.hn
  have ha := hN.ha
  refine z_aload_n kd_T_beginChoice_0 0 rfl ?_
  refine z_get kd_T_beginChoice_1 (kf_T_15 _) h19 rfl ?_
  refine z_aload_n kd_T_beginChoice_4 0 rfl ?_
  refine z_get kd_T_beginChoice_5 (kf_T_9 _) h19 rfl ?_
  refine z_get kd_T_beginChoice_8 (kf_T_23 _) hN.h1 rfl ?_
  refine z_callV (a := 5) (As := [_]) kd_T_beginChoice_11 (kg_T_29 _) h5 kc_P (c_P_splitS ht0 (a := 5) (n := n) hn ⟨_, _, _, h5, h6⟩) rfl rfl (Nat.le_of_ble_eq_true rfl) ⟨Nat.le_of_ble_eq_true rfl, Nat.le_of_ble_eq_true rfl⟩ ⟨Nat.le_of_ble_eq_true rfl, Nat.le_of_ble_eq_true rfl⟩ ?_
  rintro _ _ σ_1 ⟨hv, rfl, hP_1, q_1⟩
  cases hv
  refine z_eq (st' := []) rfl rfl rfl rfl ?_
  have hN_1 := hN.fr q_1 (by omega)
  have hS_1 := hS0.fr q_1 (by omega)
  have x19_1 := (q_1 19 (by omega)).trans h19
  refine z_aload_n kd_T_beginChoice_14 0 rfl ?_
  refine z_aload_n kd_T_beginChoice_15 0 rfl ?_
  refine z_iconst (v := 0) kd_T_beginChoice_16 (by decide) ?_
  refine z_callV (a := 19) (As := [_]) kd_T_beginChoice_17 (kg_T_35 _) x19_1 kc_T (c_T_sopS ht0 ht1 ht3 (f0 := 0) hN_1 hP_1 hn x19_1 ⟨_, _, hS_1⟩ (Nat.zero_le _)) rfl rfl (Nat.le_of_ble_eq_true rfl) ⟨Nat.le_of_ble_eq_true rfl, Nat.le_of_ble_eq_true rfl⟩ ⟨Nat.le_of_ble_eq_true rfl, Nat.le_of_ble_eq_true rfl⟩ ?_
  rintro _ _ σ_2 ⟨hv, rfl, ⟨s_2, M_2, hS_2⟩, q_2⟩
  cases hv
  refine z_eq (st' := [_, _]) rfl rfl rfl rfl ?_
  have hN_2 := hN_1.fr q_2 (by omega)
  have x19_2 := (q_2 19 (by omega)).trans x19_1
  have hP_2 := hP_1.fr q_2 (by omega)
  refine z_putE (fs' := [_, _, _, _, _]) kd_T_beginChoice_20 (kp_T_102 _) x19_2 (Nat.le_of_ble_eq_true rfl) rfl rfl rfl ?_
  refine z_upd (fun σ_3 x19_3 q_3 => ?_)
  have hN_3 := hN_2.fr q_3 (by omega)
  have hS_3 := hS_2.fr q_3 (by omega)
  have hP_3 := hP_2.fr q_3 (by omega)
  refine z_aload_n kd_T_beginChoice_23 0 rfl ?_
  refine z_lconst (v := 1) kd_T_beginChoice_24 (by decide +kernel) ?_
  refine z_putE (fs' := [_, _, _, _, _]) kd_T_beginChoice_25 (kp_T_113 _) x19_3 (Nat.le_of_ble_eq_true rfl) rfl rfl rfl ?_
  refine z_upd (fun σ_4 x19_4 q_4 => ?_)
  have hN_4 := hN_3.fr q_4 (by omega)
  have hS_4 := hS_3.fr q_4 (by omega)
  have hP_4 := hP_3.fr q_4 (by omega)
  exact z_vret kd_T_beginChoice_28 rfl (Nat.le_of_ble_eq_true rfl) (Nat.le_of_ble_eq_true rfl) ⟨rfl, rfl, hP_4, ⟨_, _, hS_4⟩, x19_4, (Fr.tr (Fr.tr (Fr.tr (Fr.tr Fr.rf (q_1.wide (by omega) (by omega))) (q_2.wide (by omega) (by omega))) (q_3.wide (by omega) (by omega))) (q_4.wide (by omega) (by omega)))⟩
set_option maxHeartbeats 4000000 in
set_option maxRecDepth 100000 in
theorem c_T_sumIfTaken {l : Launch} {D : va_G} {tys : List (ClassId × FieldType)} {b N : Nat} {σ : Nat → Option va_E} {cI cJ cA : ClassId} (ht0 : tys[0]? = some (cI, .int)) (ht1 : tys[1]? = some (cJ, .long)) (ht3 : tys[3]? = some (cA, .array .long)) {n a : Nat} {gf gt gw : Nat → Int32} {F T : Nat → Nat} (hN : NS b cI σ n a gf gt gw F T) {c k : Nat} {P : Nat → Nat} {cs cp : Int64} (hc : c ≤ 10) (hk : k < a) (hP : PS b cI σ 5 n c P) (h19 : σ 19 = some (.inr (4, [.ref (b + 1), .ref (b + 5), .ref (b + 7), .long cs, .long cp]))) (hA : GA b cA cJ σ) : zM l D kCl tys kNw b ky_T_sumIfTaken (kh_T_sumIfTaken :: zT) 4 170 0 0 [.ref (b + 19), .int (nI k)] N σ ((fun oc N' σ' => oc = .returned (some (.long (siV a F T gw k cs cp c P))) ∧ N' = N ∧ GA b cA cJ σ' ∧ Fr 7 18 σ σ')) := by
  refine zM.of (by decide +kernel) rfl (Nat.le_of_ble_eq_true rfl) ?_
  refine z_pick (lv' := [(0, .ref (b + 19)), (1, .int (nI k))]) [0, 1] rfl ?_
  obtain ⟨s0, M0, hS0⟩ := hA
  have hn := hN.hn
  have ha := hN.ha
  refine z_aload_n kd_T_sumIfTaken_0 0 rfl ?_
  refine z_get kd_T_sumIfTaken_1 (kf_T_15 _) h19 rfl ?_
  refine z_aload_n kd_T_sumIfTaken_4 0 rfl ?_
  refine z_get kd_T_sumIfTaken_5 (kf_T_9 _) h19 rfl ?_
  refine z_get kd_T_sumIfTaken_8 (kf_T_54 _) hN.h1 rfl ?_
  refine z_iload_n kd_T_sumIfTaken_11 1 rfl ?_
  refine z_ialdN (t0 := 0) kd_T_sumIfTaken_12 (by assumption) hN.h2 (by omega) (by decide) ?_
  refine z_topi (hN.hft k hk).1 ?_
  refine z_aload_n kd_T_sumIfTaken_13 0 rfl ?_
  refine z_get kd_T_sumIfTaken_14 (kf_T_9 _) h19 rfl ?_
  refine z_get kd_T_sumIfTaken_17 (kf_T_57 _) hN.h1 rfl ?_
  refine z_iload_n kd_T_sumIfTaken_20 1 rfl ?_
  refine z_ialdN (t0 := 0) kd_T_sumIfTaken_21 (by assumption) hN.h3 (by omega) (by decide) ?_
  refine z_topi (hN.hft k hk).2.2.1 ?_
  refine z_V1 (a := 5) (As := [_, _]) kd_T_sumIfTaken_22 (kg_T_116 _) hP.1 kc_P (c_P_areOneS ht0 (a := 5) (x := F k) (y := T k) hn hc (hN.ft k hk).1 (hN.ft k hk).2 hP) rfl rfl (Nat.le_of_ble_eq_true rfl) ⟨Nat.le_of_ble_eq_true rfl, Nat.le_of_ble_eq_true rfl⟩ ⟨Nat.le_of_ble_eq_true rfl, Nat.le_of_ble_eq_true rfl⟩ ?_
  refine z_if_eq (tgt := 30) kd_T_sumIfTaken_25 (by decide) (fun c25 => ?_) (fun c25 => ?_)
  · have he : ¬ P (F k) = P (T k) := zBz c25
    refine z_aload_n kd_T_sumIfTaken_30 0 rfl ?_
    refine z_get kd_T_sumIfTaken_31 (kf_T_102 _) h19 rfl ?_
    refine z_aload_n kd_T_sumIfTaken_34 0 rfl ?_
    refine z_get kd_T_sumIfTaken_35 (kf_T_113 _) h19 rfl ?_
    refine z_aload_n kd_T_sumIfTaken_38 0 rfl ?_
    refine z_iload_n kd_T_sumIfTaken_39 1 rfl ?_
    refine z_iconst (v := 1) kd_T_sumIfTaken_40 (by decide) ?_
    refine z_iadd kd_T_sumIfTaken_41 ?_
    refine z_topi (nI_add k 1) ?_
    refine z_callV (a := 19) (As := [_]) kd_T_sumIfTaken_42 (kg_T_35 _) h19 kc_T (c_T_sopS ht0 ht1 ht3 (f0 := k + 1) hN hP hc h19 ⟨_, _, hS0⟩ (by omega)) rfl rfl (Nat.le_of_ble_eq_true rfl) ⟨Nat.le_of_ble_eq_true rfl, Nat.le_of_ble_eq_true rfl⟩ ⟨Nat.le_of_ble_eq_true rfl, Nat.le_of_ble_eq_true rfl⟩ ?_
    rintro _ _ σ_1 ⟨hv, rfl, ⟨s_1, M_1, hS_1⟩, q_1⟩
    cases hv
    refine z_eq (st' := [_, _, _]) rfl rfl rfl rfl ?_
    have hN_1 := hN.fr q_1 (by omega)
    have hP_1 := hP.fr q_1 (by omega)
    have x19_1 := (q_1 19 (by omega)).trans h19
    refine z_lmul kd_T_sumIfTaken_45 ?_
    refine z_lsub kd_T_sumIfTaken_46 ?_
    exact z_lret kd_T_sumIfTaken_47 rfl (Nat.le_of_ble_eq_true rfl) (Nat.le_of_ble_eq_true rfl) ⟨by unfold siV; rw [if_neg he], rfl, ⟨_, _, hS_1⟩, (Fr.tr Fr.rf (q_1.wide (by omega) (by omega)))⟩
  · have he : P (F k) = P (T k) := zBn c25
    refine z_lconst (v := 0) kd_T_sumIfTaken_28 (by decide +kernel) ?_
    exact z_lret kd_T_sumIfTaken_29 rfl (Nat.le_of_ble_eq_true rfl) (Nat.le_of_ble_eq_true rfl) ⟨by unfold siV; rw [if_pos he], rfl, ⟨_, _, hS0⟩, Fr.rf⟩
set_option maxHeartbeats 4000000 in
set_option maxRecDepth 100000 in
theorem c_T_take {l : Launch} {D : va_G} {tys : List (ClassId × FieldType)} {b N : Nat} {σ : Nat → Option va_E} {cI cJ cA : ClassId} (ht0 : tys[0]? = some (cI, .int)) (ht1 : tys[1]? = some (cJ, .long)) (ht3 : tys[3]? = some (cA, .array .long)) {n a : Nat} {gf gt gw : Nat → Int32} {F T : Nat → Nat} (hN : NS b cI σ n a gf gt gw F T) {c k : Nat} {P : Nat → Nat} {cs cp : Int64} (hc : c ≤ 10) (hk : k < a) (hP : PS b cI σ 5 n c P) (h19 : σ 19 = some (.inr (4, [.ref (b + 1), .ref (b + 5), .ref (b + 7), .long cs, .long cp]))) {s : Int64} (hA : GA b cA cJ σ) : zM l D kCl tys kNw b ky_T_take (kh_T_take :: zT) 2 50 0 0 [.ref (b + 19), .int (nI k), .long s] N σ (fun oc N' σ' => oc = .returned none ∧ N' = N ∧ PS b cI σ' 5 n (jnC (F k) (T k) P c) (jnP (F k) (T k) P) ∧ GA b cA cJ σ' ∧ σ' 19 = some (.inr (4, [.ref (b + 1), .ref (b + 5), .ref (b + 7), .long s, .long (cp * (gw k).toInt64)])) ∧ Fr 5 19 σ σ') := by
  refine zM.of (by decide +kernel) rfl (Nat.le_of_ble_eq_true rfl) ?_
  refine z_pick (lv' := [(0, .ref (b + 19)), (1, .int (nI k)), (2, .long s)]) [0, 1, 2] rfl ?_
  obtain ⟨s0, M0, hS0⟩ := hA
  have hn := hN.hn
  have ha := hN.ha
  refine z_aload_n kd_T_take_0 0 rfl ?_
  refine z_lload_n kd_T_take_1 2 rfl ?_
  refine z_putE (fs' := [_, _, _, _, _]) kd_T_take_2 (kp_T_102 _) h19 (Nat.le_of_ble_eq_true rfl) rfl rfl rfl ?_
  refine z_upd (fun σ_1 x19_1 q_1 => ?_)
  have hN_1 := hN.fr q_1 (by omega)
  have hP_1 := hP.fr q_1 (by omega)
  have hS_1 := hS0.fr q_1 (by omega)
  refine z_aload_n kd_T_take_5 0 rfl ?_
  refine z_dup kd_T_take_6 rfl ?_
  refine z_get kd_T_take_7 (kf_T_113 _) x19_1 rfl ?_
  refine z_aload_n kd_T_take_10 0 rfl ?_
  refine z_get kd_T_take_11 (kf_T_9 _) x19_1 rfl ?_
  refine z_get kd_T_take_14 (kf_T_60 _) hN_1.h1 rfl ?_
  refine z_iload_n kd_T_take_17 1 rfl ?_
  refine z_ialdN (t0 := 0) kd_T_take_18 (by assumption) hN_1.h4 (by omega) (by decide) ?_
  refine z_i2l kd_T_take_19 ?_
  refine z_lmul kd_T_take_20 ?_
  refine z_putE (fs' := [_, _, _, _, _]) kd_T_take_21 (kp_T_113 _) x19_1 (Nat.le_of_ble_eq_true rfl) rfl rfl rfl ?_
  refine z_upd (fun σ_2 x19_2 q_2 => ?_)
  have hN_2 := hN_1.fr q_2 (by omega)
  have hP_2 := hP_1.fr q_2 (by omega)
  have hS_2 := hS_1.fr q_2 (by omega)
  refine z_aload_n kd_T_take_24 0 rfl ?_
  refine z_get kd_T_take_25 (kf_T_15 _) x19_2 rfl ?_
  refine z_aload_n kd_T_take_28 0 rfl ?_
  refine z_get kd_T_take_29 (kf_T_9 _) x19_2 rfl ?_
  refine z_get kd_T_take_32 (kf_T_54 _) hN_2.h1 rfl ?_
  refine z_iload_n kd_T_take_35 1 rfl ?_
  refine z_ialdN (t0 := 0) kd_T_take_36 (by assumption) hN_2.h2 (by omega) (by decide) ?_
  refine z_topi (hN.hft k hk).1 ?_
  refine z_aload_n kd_T_take_37 0 rfl ?_
  refine z_get kd_T_take_38 (kf_T_9 _) x19_2 rfl ?_
  refine z_get kd_T_take_41 (kf_T_57 _) hN_2.h1 rfl ?_
  refine z_iload_n kd_T_take_44 1 rfl ?_
  refine z_ialdN (t0 := 0) kd_T_take_45 (by assumption) hN_2.h3 (by omega) (by decide) ?_
  refine z_topi (hN.hft k hk).2.2.1 ?_
  refine z_callV (a := 5) (As := [_, _]) kd_T_take_46 (kg_T_74 _) hP_2.1 kc_P (c_P_uniteS ht0 (a := 5) (x := F k) (y := T k) hn hc (hN.ft k hk).1 (hN.ft k hk).2 hP_2) rfl rfl (Nat.le_of_ble_eq_true rfl) ⟨Nat.le_of_ble_eq_true rfl, Nat.le_of_ble_eq_true rfl⟩ ⟨Nat.le_of_ble_eq_true rfl, Nat.le_of_ble_eq_true rfl⟩ ?_
  rintro _ _ σ_3 ⟨hv, rfl, hP_3, q_3⟩
  cases hv
  refine z_eq (st' := [_]) rfl rfl rfl rfl ?_
  have hN_3 := hN_2.fr q_3 (by omega)
  have x19_3 := (q_3 19 (by omega)).trans x19_2
  have hS_3 := hS_2.fr q_3 (by omega)
  refine z_pop kd_T_take_49 rfl ?_
  exact z_vret kd_T_take_50 rfl (Nat.le_of_ble_eq_true rfl) (Nat.le_of_ble_eq_true rfl) ⟨rfl, rfl, hP_3, ⟨_, _, hS_3⟩, x19_3, (Fr.tr (Fr.tr (Fr.tr Fr.rf (q_1.wide (by omega) (by omega))) (q_2.wide (by omega) (by omega))) (q_3.wide (by omega) (by omega)))⟩
def taL (a : Nat) (F T : Nat → Nat) (w : Nat → Int32) : Nat → Nat → Nat → (Nat → Nat) → Int64 → Int64 → Int32 → Int64 → Int32
  | 0, _, _, _, _, _, t, _ => t
  | m + 1, k, c, P, cs, cp, t, r => if c ≤ 1 then t else if r < siV a F T w k cs cp c P then taL a F T w m (k + 1) (jnC (F k) (T k) P c) (jnP (F k) (T k) P) (siV a F T w k cs cp c P) (cp * (w k).toInt64) (t ||| (1 <<< (nI k &&& 31))) r else taL a F T w m (k + 1) c P (cs - siV a F T w k cs cp c P) cp t (r - siV a F T w k cs cp c P)
def taV (n a : Nat) (F T : Nat → Nat) (w : Nat → Int32) (p : Int64) : Int32 := if p < 0 ∨ sopV n 0 a F T w (fun v => v) ≤ p then -1 else taL a F T w a 0 n (fun v => v) (sopV n 0 a F T w (fun v => v)) 1 0 p
def sbL (a : Nat) (F T : Nat → Nat) (w : Nat → Int32) (tree : Int32) : Nat → Nat → Nat → (Nat → Nat) → Int64 → Int64 → Int64 → Int64
  | 0, _, _, _, _, _, r => r
  | m + 1, k, c, P, cs, cp, r => if c ≤ 1 then r else if (tree >>> (nI k &&& 31)) &&& 1 = 1 then sbL a F T w tree m (k + 1) (jnC (F k) (T k) P c) (jnP (F k) (T k) P) (siV a F T w k cs cp c P) (cp * (w k).toInt64) r else sbL a F T w tree m (k + 1) c P (cs - siV a F T w k cs cp c P) cp (r + siV a F T w k cs cp c P)
def sbV (n a : Nat) (F T : Nat → Nat) (w : Nat → Int32) (tree : Int32) : Int64 := sbL a F T w tree a 0 n (fun v => v) (sopV n 0 a F T w (fun v => v)) 1 0
/-- the sums' own object -/
def TS (b : Nat) (σ : Nat → Option va_E) : Prop := ∃ v w, σ 19 = some (.inr (4, [.ref (b + 1), .ref (b + 5), .ref (b + 7), v, w]))
set_option maxHeartbeats 4000000 in
set_option maxRecDepth 100000 in
theorem l_T_treeAt {l : Launch} {D : va_G} {tys : List (ClassId × FieldType)} {b N : Nat} {σ0 : Nat → Option va_E} {cI cJ cA : ClassId} (ht0 : tys[0]? = some (cI, .int)) (ht1 : tys[1]? = some (cJ, .long)) (ht3 : tys[3]? = some (cA, .array .long)) {n a : Nat} {gf gt gw : Nat → Int32} {F T : Nat → Nat} {p : Int64} {val : Int32} : ∀ (m k : Nat) (σ : Nat → Option va_E) (c : Nat) (P : Nat → Nat) (cs cp : Int64) (t : Int32) (r : Int64), k + m = a → c ≤ 10 → NS b cI σ n a gf gt gw F T → PS b cI σ 5 n c P → GA b cA cJ σ → σ 19 = some (.inr (4, [.ref (b + 1), .ref (b + 5), .ref (b + 7), .long cs, .long cp])) → Fr 5 19 σ0 σ → taL a F T gw m k c P cs cp t r = val → Z l D kCl tys (kh_T_treeAt :: zT) kNw ky_T_treeAt.cls ky_T_treeAt.name kb_T_treeAt 9 (some FieldType.int) { frames := 5, cells := 0, slots := 0, locals := 210 } b (zFi D kCl b 0 0 (fun oc N' σ' => oc = .returned (some (.int val)) ∧ N' = N ∧ PA b cI σ' 5 ∧ GA b cA cJ σ' ∧ TS b σ' ∧ Fr 5 19 σ0 σ')) 0 0 N (σ) 29 [(6, .int (nI k)), (3, .int t), (4, .long r), (0, .ref (b + 19)), (1, .long p)] [] := by
  intro m
  induction m with
  | zero =>
    intro k σ c P cs cp t r hkm hc hN hP hA h19 hF hv
    obtain rfl : k = a := by omega
    obtain ⟨s0, M0, hS0⟩ := hA
    have hn := hN.hn
    have ha := hN.ha
    have hv : t = val := hv
    subst hv
    refine z_iload kd_T_treeAt_29 0 rfl ?_
    refine z_aload_n kd_T_treeAt_31 3 rfl ?_
    refine z_get kd_T_treeAt_32 (kf_T_9 _) h19 rfl ?_
    refine z_get kd_T_treeAt_35 (kf_T_47 _) hN.h1 rfl ?_
    refine z_icmp_ge (tgt := 110) kd_T_treeAt_38 (by decide) (fun c38 => ?_) (fun c38 => ?_)
    · refine z_iload_n kd_T_treeAt_110 1 rfl ?_
      exact z_iret kd_T_treeAt_111 rfl (Nat.le_of_ble_eq_true rfl) (Nat.le_of_ble_eq_true rfl) ⟨rfl, rfl, hP.pa, ⟨_, _, hS0⟩, ⟨_, _, h19⟩, hF⟩
    · exact absurd (nI_le (Nat.le_refl k) (by omega)) c38
  | succ m ih =>
    intro k σ c P cs cp t r hkm hc hN hP hA h19 hF hv
    have hk : k < a := by omega
    obtain ⟨s0, M0, hS0⟩ := hA
    have hn := hN.hn
    have ha := hN.ha
    unfold taL at hv
    refine z_iload kd_T_treeAt_29 0 rfl ?_
    refine z_aload_n kd_T_treeAt_31 3 rfl ?_
    refine z_get kd_T_treeAt_32 (kf_T_9 _) h19 rfl ?_
    refine z_get kd_T_treeAt_35 (kf_T_47 _) hN.h1 rfl ?_
    refine z_icmp_ge (tgt := 110) kd_T_treeAt_38 (by decide) (fun c38 => ?_) (fun c38 => ?_)
    · exact absurd c38 (nI_ge hk (by omega))
    · refine z_aload_n kd_T_treeAt_41 3 rfl ?_
      refine z_get kd_T_treeAt_42 (kf_T_15 _) h19 rfl ?_
      refine z_get kd_T_treeAt_45 (kf_T_39 _) hP.1 rfl ?_
      refine z_iconst (v := 1) kd_T_treeAt_48 (by decide) ?_
      refine z_icmp_le (tgt := 110) kd_T_treeAt_49 (by decide) (fun c49 => ?_) (fun c49 => ?_)
      · rw [if_pos ((nI_leI (a := c) (b := 1) (by omega) (by omega)).mp c49)] at hv
        subst hv
        refine z_iload_n kd_T_treeAt_110 1 rfl ?_
        exact z_iret kd_T_treeAt_111 rfl (Nat.le_of_ble_eq_true rfl) (Nat.le_of_ble_eq_true rfl) ⟨rfl, rfl, hP.pa, ⟨_, _, hS0⟩, ⟨_, _, h19⟩, hF⟩
      · rw [if_neg (fun q => c49 ((nI_leI (a := c) (b := 1) (by omega) (by omega)).mpr q))] at hv
        refine z_aload_n kd_T_treeAt_52 3 rfl ?_
        refine z_iload kd_T_treeAt_53 0 rfl ?_
        refine z_callV (a := 19) (As := [_]) kd_T_treeAt_55 (kg_T_106 _) h19 kc_T (c_T_sumIfTaken ht0 ht1 ht3 hN hc hk hP h19 ⟨_, _, hS0⟩) rfl rfl (Nat.le_of_ble_eq_true rfl) ⟨Nat.le_of_ble_eq_true rfl, Nat.le_of_ble_eq_true rfl⟩ ⟨Nat.le_of_ble_eq_true rfl, Nat.le_of_ble_eq_true rfl⟩ ?_
        rintro _ _ σ_1 ⟨hv, rfl, ⟨s_1, M_1, hS_1⟩, q_1⟩
        cases hv
        refine z_eq (st' := [_]) rfl rfl rfl rfl ?_
        have hN_1 := hN.fr q_1 (by omega)
        have hP_1 := hP.fr q_1 (by omega)
        have x19_1 := (q_1 19 (by omega)).trans h19
        refine z_lstore (lv' := [(7, .long _), (6, .int _), (3, .int _), (4, .long _), (0, .ref (b + 19)), (1, .long _)]) kd_T_treeAt_58 (by decide) rfl ?_
        refine z_lload kd_T_treeAt_60 3 rfl ?_
        refine z_lload kd_T_treeAt_62 0 rfl ?_
        refine z_lcmp kd_T_treeAt_64 ?_
        refine z_if_ge (tgt := 86) kd_T_treeAt_65 (by decide) (fun c65 => ?_) (fun c65 => ?_)
        · rw [if_neg (fun q => absurd ((lg_cmp_ge _ _).mp c65) (Int64.not_le.mpr q))] at hv
          refine z_lload kd_T_treeAt_86 3 rfl ?_
          refine z_lload kd_T_treeAt_88 0 rfl ?_
          refine z_lsub kd_T_treeAt_90 ?_
          refine z_lstore (lv' := [(4, .long _), (7, .long _), (6, .int _), (3, .int _), (0, .ref (b + 19)), (1, .long _)]) kd_T_treeAt_91 (by decide) rfl ?_
          refine z_aload_n kd_T_treeAt_93 4 rfl ?_
          refine z_dup kd_T_treeAt_94 rfl ?_
          refine z_get kd_T_treeAt_95 (kf_T_102 _) x19_1 rfl ?_
          refine z_lload kd_T_treeAt_98 1 rfl ?_
          refine z_lsub kd_T_treeAt_100 ?_
          refine z_putE (fs' := [_, _, _, _, _]) kd_T_treeAt_101 (kp_T_102 _) x19_1 (Nat.le_of_ble_eq_true rfl) rfl rfl rfl ?_
          refine z_upd (fun σ_2 x19_2 q_2 => ?_)
          have hN_2 := hN_1.fr q_2 (by omega)
          have hP_2 := hP_1.fr q_2 (by omega)
          have hS_2 := hS_1.fr q_2 (by omega)
          refine z_iinc (v := (nI (k + 1))) (lv' := [(6, .int _), (4, .long _), (7, .long _), (3, .int _), (0, .ref (b + 19)), (1, .long _)]) kd_T_treeAt_104 2 rfl (nI_1 _) (by decide) rfl ?_
          refine z_goto (tgt := 29) kd_T_treeAt_107 (by decide) ?_
          refine z_pick (lv' := [(6, .int (nI (k + 1))), (3, .int _), (4, .long _), (0, .ref (b + 19)), (1, .long _)]) [0, 3, 1, 4, 5] rfl ?_
          exact ih (k + 1) _ _ _ _ _ _ _ (by omega) (by first | exact hc | exact Nat.le_trans (jnC_le _ _ _ _) hc) hN_2 hP_2 ⟨_, _, hS_2⟩ x19_2 (Fr.tr (Fr.tr hF (q_1.wide (by omega) (by omega))) (q_2.wide (by omega) (by omega))) hv
        · rw [if_pos (Int64.not_le.mp (fun q => c65 ((lg_cmp_ge _ _).mpr q)))] at hv
          refine z_iload_n kd_T_treeAt_68 2 rfl ?_
          refine z_iconst (v := 1) kd_T_treeAt_69 (by decide) ?_
          refine z_iload kd_T_treeAt_70 1 rfl ?_
          refine z_ishl kd_T_treeAt_72 ?_
          refine z_ior kd_T_treeAt_73 ?_
          refine z_istore_n (lv' := [(3, .int _), (7, .long _), (6, .int _), (4, .long _), (0, .ref (b + 19)), (1, .long _)]) kd_T_treeAt_74 (by decide) rfl ?_
          refine z_aload_n kd_T_treeAt_75 4 rfl ?_
          refine z_iload kd_T_treeAt_76 2 rfl ?_
          refine z_lload kd_T_treeAt_78 1 rfl ?_
          refine z_callV (a := 19) (As := [_, _]) kd_T_treeAt_80 (kg_T_109 _) x19_1 kc_T (c_T_take ht0 ht1 ht3 hN_1 hc hk hP_1 x19_1 ⟨_, _, hS_1⟩) rfl rfl (Nat.le_of_ble_eq_true rfl) ⟨Nat.le_of_ble_eq_true rfl, Nat.le_of_ble_eq_true rfl⟩ ⟨Nat.le_of_ble_eq_true rfl, Nat.le_of_ble_eq_true rfl⟩ ?_
          rintro _ _ σ_3 ⟨hv, rfl, hP_3, ⟨s_3, M_3, hS_3⟩, x19_3, q_3⟩
          cases hv
          refine z_eq (st' := []) rfl rfl rfl rfl ?_
          have hN_3 := hN_1.fr q_3 (by omega)
          refine z_goto (tgt := 104) kd_T_treeAt_83 (by decide) ?_
          refine z_iinc (v := (nI (k + 1))) (lv' := [(6, .int _), (3, .int _), (7, .long _), (4, .long _), (0, .ref (b + 19)), (1, .long _)]) kd_T_treeAt_104 2 rfl (nI_1 _) (by decide) rfl ?_
          refine z_goto (tgt := 29) kd_T_treeAt_107 (by decide) ?_
          refine z_pick (lv' := [(6, .int (nI (k + 1))), (3, .int _), (4, .long _), (0, .ref (b + 19)), (1, .long _)]) [0, 1, 3, 4, 5] rfl ?_
          exact ih (k + 1) _ _ _ _ _ _ _ (by omega) (by first | exact hc | exact Nat.le_trans (jnC_le _ _ _ _) hc) hN_3 hP_3 ⟨_, _, hS_3⟩ x19_3 (Fr.tr (Fr.tr hF (q_1.wide (by omega) (by omega))) (q_3.wide (by omega) (by omega))) hv
set_option maxHeartbeats 4000000 in
set_option maxRecDepth 100000 in
theorem l_T_sumBefore {l : Launch} {D : va_G} {tys : List (ClassId × FieldType)} {b N : Nat} {σ0 : Nat → Option va_E} {cI cJ cA : ClassId} (ht0 : tys[0]? = some (cI, .int)) (ht1 : tys[1]? = some (cJ, .long)) (ht3 : tys[3]? = some (cA, .array .long)) {n a : Nat} {gf gt gw : Nat → Int32} {F T : Nat → Nat} {tree : Int32} {val : Int64} : ∀ (m k : Nat) (σ : Nat → Option va_E) (c : Nat) (P : Nat → Nat) (cs cp : Int64) (r : Int64), k + m = a → c ≤ 10 → NS b cI σ n a gf gt gw F T → PS b cI σ 5 n c P → GA b cA cJ σ → σ 19 = some (.inr (4, [.ref (b + 1), .ref (b + 5), .ref (b + 7), .long cs, .long cp])) → Fr 5 19 σ0 σ → sbL a F T gw tree m k c P cs cp r = val → Z l D kCl tys (kh_T_sumBefore :: zT) kNw ky_T_sumBefore.cls ky_T_sumBefore.name kb_T_sumBefore 7 (some FieldType.long) { frames := 5, cells := 0, slots := 0, locals := 210 } b (zFi D kCl b 0 0 (fun oc N' σ' => oc = .returned (some (.long val)) ∧ N' = N ∧ PA b cI σ' 5 ∧ GA b cA cJ σ' ∧ TS b σ' ∧ Fr 5 19 σ0 σ')) 0 0 N (σ) 9 [(4, .int (nI k)), (2, .long r), (0, .ref (b + 19)), (1, .int tree)] [] := by
  intro m
  induction m with
  | zero =>
    intro k σ c P cs cp r hkm hc hN hP hA h19 hF hv
    obtain rfl : k = a := by omega
    obtain ⟨s0, M0, hS0⟩ := hA
    have hn := hN.hn
    have ha := hN.ha
    have hv : r = val := hv
    subst hv
    refine z_iload kd_T_sumBefore_9 0 rfl ?_
    refine z_aload_n kd_T_sumBefore_11 2 rfl ?_
    refine z_get kd_T_sumBefore_12 (kf_T_9 _) h19 rfl ?_
    refine z_get kd_T_sumBefore_15 (kf_T_47 _) hN.h1 rfl ?_
    refine z_icmp_ge (tgt := 83) kd_T_sumBefore_18 (by decide) (fun c18 => ?_) (fun c18 => ?_)
    · refine z_lload_n kd_T_sumBefore_83 1 rfl ?_
      exact z_lret kd_T_sumBefore_84 rfl (Nat.le_of_ble_eq_true rfl) (Nat.le_of_ble_eq_true rfl) ⟨rfl, rfl, hP.pa, ⟨_, _, hS0⟩, ⟨_, _, h19⟩, hF⟩
    · exact absurd (nI_le (Nat.le_refl k) (by omega)) c18
  | succ m ih =>
    intro k σ c P cs cp r hkm hc hN hP hA h19 hF hv
    have hk : k < a := by omega
    obtain ⟨s0, M0, hS0⟩ := hA
    have hn := hN.hn
    have ha := hN.ha
    unfold sbL at hv
    refine z_iload kd_T_sumBefore_9 0 rfl ?_
    refine z_aload_n kd_T_sumBefore_11 2 rfl ?_
    refine z_get kd_T_sumBefore_12 (kf_T_9 _) h19 rfl ?_
    refine z_get kd_T_sumBefore_15 (kf_T_47 _) hN.h1 rfl ?_
    refine z_icmp_ge (tgt := 83) kd_T_sumBefore_18 (by decide) (fun c18 => ?_) (fun c18 => ?_)
    · exact absurd c18 (nI_ge hk (by omega))
    · refine z_aload_n kd_T_sumBefore_21 2 rfl ?_
      refine z_get kd_T_sumBefore_22 (kf_T_15 _) h19 rfl ?_
      refine z_get kd_T_sumBefore_25 (kf_T_39 _) hP.1 rfl ?_
      refine z_iconst (v := 1) kd_T_sumBefore_28 (by decide) ?_
      refine z_icmp_le (tgt := 83) kd_T_sumBefore_29 (by decide) (fun c29 => ?_) (fun c29 => ?_)
      · rw [if_pos ((nI_leI (a := c) (b := 1) (by omega) (by omega)).mp c29)] at hv
        subst hv
        refine z_lload_n kd_T_sumBefore_83 1 rfl ?_
        exact z_lret kd_T_sumBefore_84 rfl (Nat.le_of_ble_eq_true rfl) (Nat.le_of_ble_eq_true rfl) ⟨rfl, rfl, hP.pa, ⟨_, _, hS0⟩, ⟨_, _, h19⟩, hF⟩
      · rw [if_neg (fun q => c29 ((nI_leI (a := c) (b := 1) (by omega) (by omega)).mpr q))] at hv
        refine z_aload_n kd_T_sumBefore_32 2 rfl ?_
        refine z_iload kd_T_sumBefore_33 0 rfl ?_
        refine z_callV (a := 19) (As := [_]) kd_T_sumBefore_35 (kg_T_106 _) h19 kc_T (c_T_sumIfTaken ht0 ht1 ht3 hN hc hk hP h19 ⟨_, _, hS0⟩) rfl rfl (Nat.le_of_ble_eq_true rfl) ⟨Nat.le_of_ble_eq_true rfl, Nat.le_of_ble_eq_true rfl⟩ ⟨Nat.le_of_ble_eq_true rfl, Nat.le_of_ble_eq_true rfl⟩ ?_
        rintro _ _ σ_1 ⟨hv, rfl, ⟨s_1, M_1, hS_1⟩, q_1⟩
        cases hv
        refine z_eq (st' := [_]) rfl rfl rfl rfl ?_
        have hN_1 := hN.fr q_1 (by omega)
        have hP_1 := hP.fr q_1 (by omega)
        have x19_1 := (q_1 19 (by omega)).trans h19
        refine z_lstore (lv' := [(5, .long _), (4, .int _), (2, .long _), (0, .ref (b + 19)), (1, .int _)]) kd_T_sumBefore_38 (by decide) rfl ?_
        refine z_iload_n kd_T_sumBefore_40 4 rfl ?_
        refine z_iload kd_T_sumBefore_41 1 rfl ?_
        refine z_ishr kd_T_sumBefore_43 ?_
        refine z_iconst (v := 1) kd_T_sumBefore_44 (by decide) ?_
        refine z_iand kd_T_sumBefore_45 ?_
        refine z_iconst (v := 1) kd_T_sumBefore_46 (by decide) ?_
        refine z_icmp_ne (tgt := 61) kd_T_sumBefore_47 (by decide) (fun c47 => ?_) (fun c47 => ?_)
        · rw [if_neg c47] at hv
          refine z_lload_n kd_T_sumBefore_61 2 rfl ?_
          refine z_lload kd_T_sumBefore_62 0 rfl ?_
          refine z_ladd kd_T_sumBefore_64 ?_
          refine z_lstore_n (lv' := [(2, .long _), (5, .long _), (4, .int _), (0, .ref (b + 19)), (1, .int _)]) kd_T_sumBefore_65 (by decide) rfl ?_
          refine z_aload_n kd_T_sumBefore_66 3 rfl ?_
          refine z_dup kd_T_sumBefore_67 rfl ?_
          refine z_get kd_T_sumBefore_68 (kf_T_102 _) x19_1 rfl ?_
          refine z_lload kd_T_sumBefore_71 1 rfl ?_
          refine z_lsub kd_T_sumBefore_73 ?_
          refine z_putE (fs' := [_, _, _, _, _]) kd_T_sumBefore_74 (kp_T_102 _) x19_1 (Nat.le_of_ble_eq_true rfl) rfl rfl rfl ?_
          refine z_upd (fun σ_2 x19_2 q_2 => ?_)
          have hN_2 := hN_1.fr q_2 (by omega)
          have hP_2 := hP_1.fr q_2 (by omega)
          have hS_2 := hS_1.fr q_2 (by omega)
          refine z_iinc (v := (nI (k + 1))) (lv' := [(4, .int _), (2, .long _), (5, .long _), (0, .ref (b + 19)), (1, .int _)]) kd_T_sumBefore_77 2 rfl (nI_1 _) (by decide) rfl ?_
          refine z_goto (tgt := 9) kd_T_sumBefore_80 (by decide) ?_
          refine z_pick (lv' := [(4, .int (nI (k + 1))), (2, .long _), (0, .ref (b + 19)), (1, .int _)]) [0, 1, 3, 4] rfl ?_
          exact ih (k + 1) _ _ _ _ _ _ (by omega) (by first | exact hc | exact Nat.le_trans (jnC_le _ _ _ _) hc) hN_2 hP_2 ⟨_, _, hS_2⟩ x19_2 (Fr.tr (Fr.tr hF (q_1.wide (by omega) (by omega))) (q_2.wide (by omega) (by omega))) hv
        · rw [if_pos c47] at hv
          refine z_aload_n kd_T_sumBefore_50 3 rfl ?_
          refine z_iload kd_T_sumBefore_51 1 rfl ?_
          refine z_lload kd_T_sumBefore_53 0 rfl ?_
          refine z_callV (a := 19) (As := [_, _]) kd_T_sumBefore_55 (kg_T_109 _) x19_1 kc_T (c_T_take ht0 ht1 ht3 hN_1 hc hk hP_1 x19_1 ⟨_, _, hS_1⟩) rfl rfl (Nat.le_of_ble_eq_true rfl) ⟨Nat.le_of_ble_eq_true rfl, Nat.le_of_ble_eq_true rfl⟩ ⟨Nat.le_of_ble_eq_true rfl, Nat.le_of_ble_eq_true rfl⟩ ?_
          rintro _ _ σ_3 ⟨hv, rfl, hP_3, ⟨s_3, M_3, hS_3⟩, x19_3, q_3⟩
          cases hv
          refine z_eq (st' := []) rfl rfl rfl rfl ?_
          have hN_3 := hN_1.fr q_3 (by omega)
          refine z_goto (tgt := 77) kd_T_sumBefore_58 (by decide) ?_
          refine z_iinc (v := (nI (k + 1))) (lv' := [(4, .int _), (5, .long _), (2, .long _), (0, .ref (b + 19)), (1, .int _)]) kd_T_sumBefore_77 1 rfl (nI_1 _) (by decide) rfl ?_
          refine z_goto (tgt := 9) kd_T_sumBefore_80 (by decide) ?_
          refine z_pick (lv' := [(4, .int (nI (k + 1))), (2, .long _), (0, .ref (b + 19)), (1, .int _)]) [0, 2, 3, 4] rfl ?_
          exact ih (k + 1) _ _ _ _ _ _ (by omega) (by first | exact hc | exact Nat.le_trans (jnC_le _ _ _ _) hc) hN_3 hP_3 ⟨_, _, hS_3⟩ x19_3 (Fr.tr (Fr.tr hF (q_1.wide (by omega) (by omega))) (q_3.wide (by omega) (by omega))) hv
set_option maxHeartbeats 4000000 in
set_option maxRecDepth 100000 in
theorem c_T_treeAt {l : Launch} {D : va_G} {tys : List (ClassId × FieldType)} {b N : Nat} {σ : Nat → Option va_E} {cI cJ cA : ClassId} (ht0 : tys[0]? = some (cI, .int)) (ht1 : tys[1]? = some (cJ, .long)) (ht3 : tys[3]? = some (cA, .array .long)) {n a : Nat} {gf gt gw : Nat → Int32} {F T : Nat → Nat} (hN : NS b cI σ n a gf gt gw F T) {v19 w19 : Value} (h19 : σ 19 = some (.inr (4, [.ref (b + 1), .ref (b + 5), .ref (b + 7), v19, w19]))) (hPA : PA b cI σ 5) (hA : GA b cA cJ σ) {p : Int64} : zM l D kCl tys kNw b ky_T_treeAt (kh_T_treeAt :: zT) 5 210 0 0 [.ref (b + 19), .long p] N σ ((fun oc N' σ' => oc = .returned (some (.int (taV n a F T gw p))) ∧ N' = N ∧ PA b cI σ' 5 ∧ GA b cA cJ σ' ∧ TS b σ' ∧ Fr 5 19 σ σ')) := by
  refine zM.of (by decide +kernel) rfl (Nat.le_of_ble_eq_true rfl) ?_
  refine z_pick (lv' := [(0, .ref (b + 19)), (1, .long p)]) [0, 1] rfl ?_
  obtain ⟨s0, M0, hS0⟩ := hA
  obtain ⟨u5, x5, g5, h5, h6⟩ := hPA
  have hn := hN.hn
  have ha := hN.ha
  refine z_aload_n kd_T_treeAt_0 0 rfl ?_
  refine z_callV (a := 19) (As := []) kd_T_treeAt_1 (kg_T_99 _) h19 kc_T (c_T_beginChoice ht0 ht1 ht3 hN h19 ⟨_, _, _, h5, h6⟩ ⟨_, _, hS0⟩) rfl rfl (Nat.le_of_ble_eq_true rfl) ⟨Nat.le_of_ble_eq_true rfl, Nat.le_of_ble_eq_true rfl⟩ ⟨Nat.le_of_ble_eq_true rfl, Nat.le_of_ble_eq_true rfl⟩ ?_
  rintro _ _ σ_1 ⟨hv, rfl, hP_1, ⟨s_1, M_1, hS_1⟩, x19_1, q_1⟩
  cases hv
  refine z_eq (st' := []) rfl rfl rfl rfl ?_
  have hN_1 := hN.fr q_1 (by omega)
  refine z_lload_n kd_T_treeAt_4 1 rfl ?_
  refine z_lconst (v := 0) kd_T_treeAt_5 (by decide +kernel) ?_
  refine z_lcmp kd_T_treeAt_6 ?_
  refine z_if_lt (tgt := 19) kd_T_treeAt_7 (by decide) (fun c7 => ?_) (fun c7 => ?_)
  · have hr : p < 0 := (lg_cmp_lt _ _).mp c7
    refine z_iconst (v := -1) kd_T_treeAt_19 (by decide) ?_
    exact z_iret kd_T_treeAt_20 rfl (Nat.le_of_ble_eq_true rfl) (Nat.le_of_ble_eq_true rfl) ⟨by unfold taV; rw [if_pos (Or.inl hr)], rfl, hP_1.pa, ⟨_, _, hS_1⟩, ⟨_, _, x19_1⟩, (Fr.tr Fr.rf (q_1.wide (by omega) (by omega)))⟩
  · have hr : ¬ p < 0 := fun q => c7 ((lg_cmp_lt _ _).mpr q)
    refine z_lload_n kd_T_treeAt_10 1 rfl ?_
    refine z_aload_n kd_T_treeAt_11 0 rfl ?_
    refine z_get kd_T_treeAt_12 (kf_T_102 _) x19_1 rfl ?_
    refine z_lcmp kd_T_treeAt_15 ?_
    refine z_if_lt (tgt := 21) kd_T_treeAt_16 (by decide) (fun c16 => ?_) (fun c16 => ?_)
    · have hs : ¬ sopV n 0 a F T gw (fun v => v) ≤ p := fun q => absurd ((lg_cmp_lt _ _).mp c16) (Int64.not_lt.mpr q)
      refine z_iconst (v := 0) kd_T_treeAt_21 (by decide) ?_
      refine z_istore_n (lv' := [(3, .int _), (0, .ref (b + 19)), (1, .long _)]) kd_T_treeAt_22 (by decide) rfl ?_
      refine z_lload_n kd_T_treeAt_23 2 rfl ?_
      refine z_lstore (lv' := [(4, .long _), (3, .int _), (0, .ref (b + 19)), (1, .long _)]) kd_T_treeAt_24 (by decide) rfl ?_
      refine z_iconst (v := 0) kd_T_treeAt_26 (by decide) ?_
      refine z_istore (lv' := [(6, .int _), (4, .long _), (3, .int _), (0, .ref (b + 19)), (1, .long _)]) kd_T_treeAt_27 (by decide) rfl ?_
      refine z_pick (lv' := [(6, .int (nI 0)), (3, .int 0), (4, .long p), (0, .ref (b + 19)), (1, .long p)]) [0, 2, 1, 3, 4] rfl ?_
      exact l_T_treeAt ht0 ht1 ht3 a 0 _ _ _ _ _ _ _ (by omega) hn hN_1 hP_1 ⟨_, _, hS_1⟩ x19_1 (Fr.tr Fr.rf (q_1.wide (by omega) (by omega))) (by unfold taV; rw [if_neg (fun q => q.elim hr hs)])
    · have hs : sopV n 0 a F T gw (fun v => v) ≤ p := Int64.not_lt.mp (fun q => c16 ((lg_cmp_lt _ _).mpr q))
      refine z_iconst (v := -1) kd_T_treeAt_19 (by decide) ?_
      exact z_iret kd_T_treeAt_20 rfl (Nat.le_of_ble_eq_true rfl) (Nat.le_of_ble_eq_true rfl) ⟨by unfold taV; rw [if_pos (Or.inr hs)], rfl, hP_1.pa, ⟨_, _, hS_1⟩, ⟨_, _, x19_1⟩, (Fr.tr Fr.rf (q_1.wide (by omega) (by omega)))⟩
set_option maxHeartbeats 4000000 in
set_option maxRecDepth 100000 in
theorem c_T_sumBefore {l : Launch} {D : va_G} {tys : List (ClassId × FieldType)} {b N : Nat} {σ : Nat → Option va_E} {cI cJ cA : ClassId} (ht0 : tys[0]? = some (cI, .int)) (ht1 : tys[1]? = some (cJ, .long)) (ht3 : tys[3]? = some (cA, .array .long)) {n a : Nat} {gf gt gw : Nat → Int32} {F T : Nat → Nat} (hN : NS b cI σ n a gf gt gw F T) {v19 w19 : Value} (h19 : σ 19 = some (.inr (4, [.ref (b + 1), .ref (b + 5), .ref (b + 7), v19, w19]))) (hPA : PA b cI σ 5) (hA : GA b cA cJ σ) {tree : Int32} : zM l D kCl tys kNw b ky_T_sumBefore (kh_T_sumBefore :: zT) 5 210 0 0 [.ref (b + 19), .int tree] N σ ((fun oc N' σ' => oc = .returned (some (.long (sbV n a F T gw tree))) ∧ N' = N ∧ PA b cI σ' 5 ∧ GA b cA cJ σ' ∧ TS b σ' ∧ Fr 5 19 σ σ')) := by
  refine zM.of (by decide +kernel) rfl (Nat.le_of_ble_eq_true rfl) ?_
  refine z_pick (lv' := [(0, .ref (b + 19)), (1, .int tree)]) [0, 1] rfl ?_
  obtain ⟨s0, M0, hS0⟩ := hA
  obtain ⟨u5, x5, g5, h5, h6⟩ := hPA
  have hn := hN.hn
  have ha := hN.ha
  refine z_aload_n kd_T_sumBefore_0 0 rfl ?_
  refine z_callV (a := 19) (As := []) kd_T_sumBefore_1 (kg_T_99 _) h19 kc_T (c_T_beginChoice ht0 ht1 ht3 hN h19 ⟨_, _, _, h5, h6⟩ ⟨_, _, hS0⟩) rfl rfl (Nat.le_of_ble_eq_true rfl) ⟨Nat.le_of_ble_eq_true rfl, Nat.le_of_ble_eq_true rfl⟩ ⟨Nat.le_of_ble_eq_true rfl, Nat.le_of_ble_eq_true rfl⟩ ?_
  rintro _ _ σ_1 ⟨hv, rfl, hP_1, ⟨s_1, M_1, hS_1⟩, x19_1, q_1⟩
  cases hv
  refine z_eq (st' := []) rfl rfl rfl rfl ?_
  have hN_1 := hN.fr q_1 (by omega)
  refine z_lconst (v := 0) kd_T_sumBefore_4 (by decide +kernel) ?_
  refine z_lstore_n (lv' := [(2, .long _), (0, .ref (b + 19)), (1, .int _)]) kd_T_sumBefore_5 (by decide) rfl ?_
  refine z_iconst (v := 0) kd_T_sumBefore_6 (by decide) ?_
  refine z_istore (lv' := [(4, .int _), (2, .long _), (0, .ref (b + 19)), (1, .int _)]) kd_T_sumBefore_7 (by decide) rfl ?_
  refine z_pick (lv' := [(4, .int (nI 0)), (2, .long 0), (0, .ref (b + 19)), (1, .int tree)]) [0, 1, 2, 3] rfl ?_
  exact l_T_sumBefore ht0 ht1 ht3 a 0 _ _ _ _ _ _ (by omega) hn hN_1 hP_1 ⟨_, _, hS_1⟩ x19_1 (Fr.tr Fr.rf (q_1.wide (by omega) (by omega))) rfl
