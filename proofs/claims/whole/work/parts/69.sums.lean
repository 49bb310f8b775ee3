section ZU
variable {l : Launch} {D : va_G} {cl : List vw_C} {tys : List (ClassId × FieldType)} {Ts Nw : List Cond} {own nm : String} {cc : ByteArray} {nL : Nat} {ret : Option FieldType} {R : Room} {b : Nat} {Fi : List Frame → Array Value → State → State → Prop} {k n N : Nat} {σ : Nat → Option va_E} {pc : Nat} {lv : List (Nat × Value)} {st : List Value}
/-- a cell changed: from here on only what it holds, and that the others are as they were -/
theorem z_upd {j : Nat} {x : va_E} (kk : ∀ σ', σ' j = some x → Fr j j σ σ' → Z l D cl tys Ts Nw own nm cc nL ret R b Fi k n N σ' pc lv st) : Z l D cl tys Ts Nw own nm cc nL ret R b Fi k n N (zUp σ j x) pc lv st := kk _ (zUp_s _ _ _) (Fr.rf.up (Nat.le_refl _) (Nat.le_refl _))
end ZU
theorem zBz {p : Prop} [Decidable p] (h : zB (decide p) = 0) : ¬ p := fun q => by rw [zBt q] at h; exact absurd h (by decide)
theorem jnC_le (x y : Nat) (P : Nat → Nat) (c : Nat) : jnC x y P c ≤ c := by
  unfold jnC
  by_cases h : P x = P y
  · rw [if_pos h]; exact Nat.le_refl _
  · rw [if_neg h]; omega
set_option maxHeartbeats 4000000 in
set_option maxRecDepth 100000 in
theorem c_T_sumOfAll {l : Launch} {D : va_G} {tys : List (ClassId × FieldType)} {b N : Nat} {σ : Nat → Option va_E} {cI cJ cA : ClassId} (ht0 : tys[0]? = some (cI, .int)) (ht1 : tys[1]? = some (cJ, .long)) (ht3 : tys[3]? = some (cA, .array .long)) {n a : Nat} {gf gt gw : Nat → Int32} {F T : Nat → Nat} (hN : NS b cI σ n a gf gt gw F T) {v19 w19 : Value} (h19 : σ 19 = some (.inr (4, [.ref (b + 1), .ref (b + 5), .ref (b + 7), v19, w19]))) (hPA : PA b cI σ 5) (hA : GA b cA cJ σ) : zM l D kCl tys kNw b ky_T_sumOfAll (kh_T_sumOfAll :: zT) 4 170 0 0 [.ref (b + 19)] N σ ((fun oc N' σ' => oc = .returned (some (.long (sopV n 0 a F T gw (fun v => v)))) ∧ N' = N ∧ PA b cI σ' 5 ∧ GA b cA cJ σ' ∧ Fr 5 18 σ σ')) := by
  refine zM.of (by decide +kernel) rfl (Nat.le_of_ble_eq_true rfl) ?_
  refine z_pick (lv' := [(0, .ref (b + 19))]) [0] rfl ?_
  obtain ⟨s0, M0, hS0⟩ := hA
  obtain ⟨u5, x5, g5, h5, h6⟩ := hPA
  have hn := hN.hn
  have ha := hN.ha
  refine z_aload_n kd_T_sumOfAll_0 0 rfl ?_
  refine z_get kd_T_sumOfAll_1 (kf_T_15 _) h19 rfl ?_
  refine z_aload_n kd_T_sumOfAll_4 0 rfl ?_
  refine z_get kd_T_sumOfAll_5 (kf_T_9 _) h19 rfl ?_
  refine z_get kd_T_sumOfAll_8 (kf_T_23 _) hN.h1 rfl ?_
  refine z_callV (a := 5) (As := [_]) kd_T_sumOfAll_11 (kg_T_29 _) h5 kc_P (c_P_splitS ht0 (a := 5) (n := n) hn ⟨_, _, _, h5, h6⟩) rfl rfl (Nat.le_of_ble_eq_true rfl) ⟨Nat.le_of_ble_eq_true rfl, Nat.le_of_ble_eq_true rfl⟩ ⟨Nat.le_of_ble_eq_true rfl, Nat.le_of_ble_eq_true rfl⟩ ?_
  rintro _ _ σ_1 ⟨hv, rfl, hP_1, q_1⟩
  cases hv
  refine z_eq (st' := []) rfl rfl rfl rfl ?_
  have hN_1 := hN.fr q_1 (by omega)
  have hS_1 := hS0.fr q_1 (by omega)
  have x19_1 := (q_1 19 (by omega)).trans h19
  refine z_aload_n kd_T_sumOfAll_14 0 rfl ?_
  refine z_iconst (v := 0) kd_T_sumOfAll_15 (by decide) ?_
  refine z_callV (a := 19) (As := [_]) kd_T_sumOfAll_16 (kg_T_35 _) x19_1 kc_T (c_T_sopS ht0 ht1 ht3 (f0 := 0) hN_1 hP_1 hn x19_1 ⟨_, _, hS_1⟩ (Nat.zero_le _)) rfl rfl (Nat.le_of_ble_eq_true rfl) ⟨Nat.le_of_ble_eq_true rfl, Nat.le_of_ble_eq_true rfl⟩ ⟨Nat.le_of_ble_eq_true rfl, Nat.le_of_ble_eq_true rfl⟩ ?_
  rintro _ _ σ_2 ⟨hv, rfl, ⟨s_2, M_2, hS_2⟩, q_2⟩
  cases hv
  refine z_eq (st' := [_]) rfl rfl rfl rfl ?_
  have hN_2 := hN_1.fr q_2 (by omega)
  have x19_2 := (q_2 19 (by omega)).trans x19_1
  have hP_2 := hP_1.fr q_2 (by omega)
  exact z_lret kd_T_sumOfAll_19 rfl (Nat.le_of_ble_eq_true rfl) (Nat.le_of_ble_eq_true rfl) ⟨rfl, rfl, hP_2.pa, ⟨_, _, hS_2⟩, (Fr.tr (Fr.tr Fr.rf (q_1.wide (by omega) (by omega))) (q_2.wide (by omega) (by omega)))⟩
def swV (n a : Nat) (F T : Nat → Nat) (w : Nat → Int32) (k : Nat) : Int64 := if F k = T k then 0 else (w k).toInt64 * sopV (jnC (F k) (T k) (fun v => v) n) 0 a F T w (jnP (F k) (T k) (fun v => v))
set_option maxHeartbeats 4000000 in
set_option maxRecDepth 100000 in
theorem c_T_sumWith {l : Launch} {D : va_G} {tys : List (ClassId × FieldType)} {b N : Nat} {σ : Nat → Option va_E} {cI cJ cA : ClassId} (ht0 : tys[0]? = some (cI, .int)) (ht1 : tys[1]? = some (cJ, .long)) (ht3 : tys[3]? = some (cA, .array .long)) {n a : Nat} {gf gt gw : Nat → Int32} {F T : Nat → Nat} (hN : NS b cI σ n a gf gt gw F T) {v19 w19 : Value} (h19 : σ 19 = some (.inr (4, [.ref (b + 1), .ref (b + 5), .ref (b + 7), v19, w19]))) (hPA : PA b cI σ 5) (hA : GA b cA cJ σ) {k : Nat} (hk : k < a) : zM l D kCl tys kNw b ky_T_sumWith (kh_T_sumWith :: zT) 4 170 0 0 [.ref (b + 19), .int (nI k)] N σ ((fun oc N' σ' => oc = .returned (some (.long (swV n a F T gw k))) ∧ N' = N ∧ PA b cI σ' 5 ∧ GA b cA cJ σ' ∧ Fr 5 18 σ σ')) := by
  refine zM.of (by decide +kernel) rfl (Nat.le_of_ble_eq_true rfl) ?_
  refine z_pick (lv' := [(0, .ref (b + 19)), (1, .int (nI k))]) [0, 1] rfl ?_
  obtain ⟨s0, M0, hS0⟩ := hA
  obtain ⟨u5, x5, g5, h5, h6⟩ := hPA
  have hn := hN.hn
  have ha := hN.ha
  refine z_aload_n kd_T_sumWith_0 0 rfl ?_
  refine z_get kd_T_sumWith_1 (kf_T_15 _) h19 rfl ?_
  refine z_aload_n kd_T_sumWith_4 0 rfl ?_
  refine z_get kd_T_sumWith_5 (kf_T_9 _) h19 rfl ?_
  refine z_get kd_T_sumWith_8 (kf_T_23 _) hN.h1 rfl ?_
  refine z_callV (a := 5) (As := [_]) kd_T_sumWith_11 (kg_T_29 _) h5 kc_P (c_P_splitS ht0 (a := 5) (n := n) hn ⟨_, _, _, h5, h6⟩) rfl rfl (Nat.le_of_ble_eq_true rfl) ⟨Nat.le_of_ble_eq_true rfl, Nat.le_of_ble_eq_true rfl⟩ ⟨Nat.le_of_ble_eq_true rfl, Nat.le_of_ble_eq_true rfl⟩ ?_
  rintro _ _ σ_1 ⟨hv, rfl, hP_1, q_1⟩
  cases hv
  refine z_eq (st' := []) rfl rfl rfl rfl ?_
  have hN_1 := hN.fr q_1 (by omega)
  have hS_1 := hS0.fr q_1 (by omega)
  have x19_1 := (q_1 19 (by omega)).trans h19
  refine z_aload_n kd_T_sumWith_14 0 rfl ?_
  refine z_get kd_T_sumWith_15 (kf_T_15 _) x19_1 rfl ?_
  refine z_aload_n kd_T_sumWith_18 0 rfl ?_
  refine z_get kd_T_sumWith_19 (kf_T_9 _) x19_1 rfl ?_
  refine z_get kd_T_sumWith_22 (kf_T_54 _) hN_1.h1 rfl ?_
  refine z_iload_n kd_T_sumWith_25 1 rfl ?_
  refine z_ialdN (t0 := 0) kd_T_sumWith_26 (by assumption) hN_1.h2 (by omega) (by decide) ?_
  refine z_topi (hN.hft k hk).1 ?_
  refine z_aload_n kd_T_sumWith_27 0 rfl ?_
  refine z_get kd_T_sumWith_28 (kf_T_9 _) x19_1 rfl ?_
  refine z_get kd_T_sumWith_31 (kf_T_57 _) hN_1.h1 rfl ?_
  refine z_iload_n kd_T_sumWith_34 1 rfl ?_
  refine z_ialdN (t0 := 0) kd_T_sumWith_35 (by assumption) hN_1.h3 (by omega) (by decide) ?_
  refine z_topi (hN.hft k hk).2.2.1 ?_
  refine z_callV (a := 5) (As := [_, _]) kd_T_sumWith_36 (kg_T_74 _) hP_1.1 kc_P (c_P_uniteS ht0 (a := 5) (x := F k) (y := T k) hn hn (hN.ft k hk).1 (hN.ft k hk).2 hP_1) rfl rfl (Nat.le_of_ble_eq_true rfl) ⟨Nat.le_of_ble_eq_true rfl, Nat.le_of_ble_eq_true rfl⟩ ⟨Nat.le_of_ble_eq_true rfl, Nat.le_of_ble_eq_true rfl⟩ ?_
  rintro _ _ σ_2 ⟨hv, rfl, hP_2, q_2⟩
  cases hv
  refine z_eq (st' := [_]) rfl rfl rfl rfl ?_
  have hN_2 := hN_1.fr q_2 (by omega)
  have hS_2 := hS_1.fr q_2 (by omega)
  have x19_2 := (q_2 19 (by omega)).trans x19_1
  refine z_if_ne (tgt := 44) kd_T_sumWith_39 (by decide) (fun c39 => ?_) (fun c39 => ?_)
  · have he : ¬ F k = T k := zBn c39
    refine z_aload_n kd_T_sumWith_44 0 rfl ?_
    refine z_get kd_T_sumWith_45 (kf_T_9 _) x19_2 rfl ?_
    refine z_get kd_T_sumWith_48 (kf_T_60 _) hN_2.h1 rfl ?_
    refine z_iload_n kd_T_sumWith_51 1 rfl ?_
    refine z_ialdN (t0 := 0) kd_T_sumWith_52 (by assumption) hN_2.h4 (by omega) (by decide) ?_
    refine z_i2l kd_T_sumWith_53 ?_
    refine z_aload_n kd_T_sumWith_54 0 rfl ?_
    refine z_iconst (v := 0) kd_T_sumWith_55 (by decide) ?_
    refine z_callV (a := 19) (As := [_]) kd_T_sumWith_56 (kg_T_35 _) x19_2 kc_T (c_T_sopS ht0 ht1 ht3 (f0 := 0) hN_2 hP_2 (Nat.le_trans (jnC_le _ _ _ _) hn) x19_2 ⟨_, _, hS_2⟩ (Nat.zero_le _)) rfl rfl (Nat.le_of_ble_eq_true rfl) ⟨Nat.le_of_ble_eq_true rfl, Nat.le_of_ble_eq_true rfl⟩ ⟨Nat.le_of_ble_eq_true rfl, Nat.le_of_ble_eq_true rfl⟩ ?_
    rintro _ _ σ_3 ⟨hv, rfl, ⟨s_3, M_3, hS_3⟩, q_3⟩
    cases hv
    refine z_eq (st' := [_, _]) rfl rfl rfl rfl ?_
    have hN_3 := hN_2.fr q_3 (by omega)
    have x19_3 := (q_3 19 (by omega)).trans x19_2
    have hP_3 := hP_2.fr q_3 (by omega)
    refine z_lmul kd_T_sumWith_59 ?_
    exact z_lret kd_T_sumWith_60 rfl (Nat.le_of_ble_eq_true rfl) (Nat.le_of_ble_eq_true rfl) ⟨by unfold swV; rw [if_neg he], rfl, hP_3.pa, ⟨_, _, hS_3⟩, (Fr.tr (Fr.tr (Fr.tr Fr.rf (q_1.wide (by omega) (by omega))) (q_2.wide (by omega) (by omega))) (q_3.wide (by omega) (by omega)))⟩
  · have he : F k = T k := Classical.not_not.mp (zBz c39)
    refine z_lconst (v := 0) kd_T_sumWith_42 (by decide +kernel) ?_
    exact z_lret kd_T_sumWith_43 rfl (Nat.le_of_ble_eq_true rfl) (Nat.le_of_ble_eq_true rfl) ⟨by unfold swV; rw [if_pos he], rfl, hP_2.pa, ⟨_, _, hS_2⟩, (Fr.tr (Fr.tr Fr.rf (q_1.wide (by omega) (by omega))) (q_2.wide (by omega) (by omega)))⟩
set_option maxHeartbeats 4000000 in
set_option maxRecDepth 100000 in
theorem c_T_sumTowards {l : Launch} {D : va_G} {tys : List (ClassId × FieldType)} {b N : Nat} {σ : Nat → Option va_E} {cI cJ cA : ClassId} (ht0 : tys[0]? = some (cI, .int)) (ht1 : tys[1]? = some (cJ, .long)) (ht3 : tys[3]? = some (cA, .array .long)) {n a : Nat} {gf gt gw : Nat → Int32} {F T : Nat → Nat} (hN : NS b cI σ n a gf gt gw F T) {v19 w19 : Value} (h19 : σ 19 = some (.inr (4, [.ref (b + 1), .ref (b + 5), .ref (b + 7), v19, w19]))) (hA : GA b cA cJ σ) {x : Nat} (hx : x < n) : zM l D kCl tys kNw b ky_T_sumTowards (kh_T_sumTowards :: zT) 3 130 0 0 [.ref (b + 19), .int (nI x)] N σ ((fun oc N' σ' => oc = .returned (some (.long (dtN n (strM n x (foM F T gw Z0 a))))) ∧ N' = N ∧ GA b cA cJ σ' ∧ Fr 7 18 σ σ')) := by
  refine zM.of (by decide +kernel) rfl (Nat.le_of_ble_eq_true rfl) ?_
  refine z_pick (lv' := [(0, .ref (b + 19)), (1, .int (nI x))]) [0, 1] rfl ?_
  obtain ⟨s0, M0, hS0⟩ := hA
  have hn := hN.hn
  have ha := hN.ha
  refine z_aload_n kd_T_sumTowards_0 0 rfl ?_
  refine z_get kd_T_sumTowards_1 (kf_T_19 _) h19 rfl ?_
  refine z_aload_n kd_T_sumTowards_4 0 rfl ?_
  refine z_get kd_T_sumTowards_5 (kf_T_9 _) h19 rfl ?_
  refine z_callV (a := 7) (As := [_]) kd_T_sumTowards_8 (kg_T_78 _) hS0.1 kc_G (c_G_fillOneWayS ht0 ht1 ht3 hN ⟨_, _, hS0⟩) rfl rfl (Nat.le_of_ble_eq_true rfl) ⟨Nat.le_of_ble_eq_true rfl, Nat.le_of_ble_eq_true rfl⟩ ⟨Nat.le_of_ble_eq_true rfl, Nat.le_of_ble_eq_true rfl⟩ ?_
  rintro _ _ σ_1 ⟨hv, rfl, ⟨M_1, hS_1, hM_1⟩, q_1⟩
  cases hv
  refine z_eq (st' := []) rfl rfl rfl rfl ?_
  have hN_1 := hN.fr q_1 (by omega)
  have x19_1 := (q_1 19 (by omega)).trans h19
  refine z_aload_n kd_T_sumTowards_11 0 rfl ?_
  refine z_get kd_T_sumTowards_12 (kf_T_19 _) x19_1 rfl ?_
  refine z_iload_n kd_T_sumTowards_15 1 rfl ?_
  refine z_callV (a := 7) (As := [_]) kd_T_sumTowards_16 (kg_T_67 _) hS_1.1 kc_G (c_G_strikeS ht0 ht1 ht3 (x := x) hn hx ⟨_, hS_1, hM_1⟩) rfl rfl (Nat.le_of_ble_eq_true rfl) ⟨Nat.le_of_ble_eq_true rfl, Nat.le_of_ble_eq_true rfl⟩ ⟨Nat.le_of_ble_eq_true rfl, Nat.le_of_ble_eq_true rfl⟩ ?_
  rintro _ _ σ_2 ⟨hv, rfl, ⟨M_2, hS_2, hM_2⟩, q_2⟩
  cases hv
  refine z_eq (st' := []) rfl rfl rfl rfl ?_
  have hN_2 := hN_1.fr q_2 (by omega)
  have x19_2 := (q_2 19 (by omega)).trans x19_1
  refine z_aload_n kd_T_sumTowards_19 0 rfl ?_
  refine z_get kd_T_sumTowards_20 (kf_T_19 _) x19_2 rfl ?_
  refine z_callV (a := 7) (As := []) kd_T_sumTowards_23 (kg_T_70 _) hS_2.1 kc_G (c_G_determinantS ht0 ht1 ht3 (n := n) hn ⟨_, hS_2, hM_2⟩) rfl rfl (Nat.le_of_ble_eq_true rfl) ⟨Nat.le_of_ble_eq_true rfl, Nat.le_of_ble_eq_true rfl⟩ ⟨Nat.le_of_ble_eq_true rfl, Nat.le_of_ble_eq_true rfl⟩ ?_
  rintro _ _ σ_3 ⟨hv, rfl, ⟨s_3, M_3, hS_3⟩, q_3⟩
  cases hv
  refine z_eq (st' := [_]) rfl rfl rfl rfl ?_
  have hN_3 := hN_2.fr q_3 (by omega)
  have x19_3 := (q_3 19 (by omega)).trans x19_2
  exact z_lret kd_T_sumTowards_26 rfl (Nat.le_of_ble_eq_true rfl) (Nat.le_of_ble_eq_true rfl) ⟨rfl, rfl, ⟨_, _, hS_3⟩, (Fr.tr (Fr.tr (Fr.tr Fr.rf (q_1.wide (by omega) (by omega))) (q_2.wide (by omega) (by omega))) (q_3.wide (by omega) (by omega)))⟩
set_option maxHeartbeats 4000000 in
set_option maxRecDepth 100000 in
theorem c_T_sumOfPairs {l : Launch} {D : va_G} {tys : List (ClassId × FieldType)} {b N : Nat} {σ : Nat → Option va_E} {cI cJ cA : ClassId} (ht0 : tys[0]? = some (cI, .int)) (ht1 : tys[1]? = some (cJ, .long)) (ht3 : tys[3]? = some (cA, .array .long)) {n a : Nat} {gf gt gw : Nat → Int32} {F T : Nat → Nat} (hN : NS b cI σ n a gf gt gw F T) {v19 w19 : Value} (h19 : σ 19 = some (.inr (4, [.ref (b + 1), .ref (b + 5), .ref (b + 7), v19, w19]))) (hA : GA b cA cJ σ) {x y : Nat} (hx : x < n) (hy : y < n) : zM l D kCl tys kNw b ky_T_sumOfPairs (kh_T_sumOfPairs :: zT) 3 130 0 0 [.ref (b + 19), .int (nI x), .int (nI y)] N σ ((fun oc N' σ' => oc = .returned (some (.long (dtN n (strM n y (strM n x (fbM F T gw Z0 a)))))) ∧ N' = N ∧ GA b cA cJ σ' ∧ Fr 7 18 σ σ')) := by
  refine zM.of (by decide +kernel) rfl (Nat.le_of_ble_eq_true rfl) ?_
  refine z_pick (lv' := [(0, .ref (b + 19)), (1, .int (nI x)), (2, .int (nI y))]) [0, 1, 2] rfl ?_
  obtain ⟨s0, M0, hS0⟩ := hA
  have hn := hN.hn
  have ha := hN.ha
  refine z_aload_n kd_T_sumOfPairs_0 0 rfl ?_
  refine z_get kd_T_sumOfPairs_1 (kf_T_19 _) h19 rfl ?_
  refine z_aload_n kd_T_sumOfPairs_4 0 rfl ?_
  refine z_get kd_T_sumOfPairs_5 (kf_T_9 _) h19 rfl ?_
  refine z_callV (a := 7) (As := [_]) kd_T_sumOfPairs_8 (kg_T_82 _) hS0.1 kc_G (c_G_fillBothWaysS ht0 ht1 ht3 hN ⟨_, _, hS0⟩) rfl rfl (Nat.le_of_ble_eq_true rfl) ⟨Nat.le_of_ble_eq_true rfl, Nat.le_of_ble_eq_true rfl⟩ ⟨Nat.le_of_ble_eq_true rfl, Nat.le_of_ble_eq_true rfl⟩ ?_
  rintro _ _ σ_1 ⟨hv, rfl, ⟨M_1, hS_1, hM_1⟩, q_1⟩
  cases hv
  refine z_eq (st' := []) rfl rfl rfl rfl ?_
  have hN_1 := hN.fr q_1 (by omega)
  have x19_1 := (q_1 19 (by omega)).trans h19
  refine z_aload_n kd_T_sumOfPairs_11 0 rfl ?_
  refine z_get kd_T_sumOfPairs_12 (kf_T_19 _) x19_1 rfl ?_
  refine z_iload_n kd_T_sumOfPairs_15 1 rfl ?_
  refine z_callV (a := 7) (As := [_]) kd_T_sumOfPairs_16 (kg_T_67 _) hS_1.1 kc_G (c_G_strikeS ht0 ht1 ht3 (x := x) hn hx ⟨_, hS_1, hM_1⟩) rfl rfl (Nat.le_of_ble_eq_true rfl) ⟨Nat.le_of_ble_eq_true rfl, Nat.le_of_ble_eq_true rfl⟩ ⟨Nat.le_of_ble_eq_true rfl, Nat.le_of_ble_eq_true rfl⟩ ?_
  rintro _ _ σ_2 ⟨hv, rfl, ⟨M_2, hS_2, hM_2⟩, q_2⟩
  cases hv
  refine z_eq (st' := []) rfl rfl rfl rfl ?_
  have hN_2 := hN_1.fr q_2 (by omega)
  have x19_2 := (q_2 19 (by omega)).trans x19_1
  refine z_aload_n kd_T_sumOfPairs_19 0 rfl ?_
  refine z_get kd_T_sumOfPairs_20 (kf_T_19 _) x19_2 rfl ?_
  refine z_iload_n kd_T_sumOfPairs_23 2 rfl ?_
  refine z_callV (a := 7) (As := [_]) kd_T_sumOfPairs_24 (kg_T_67 _) hS_2.1 kc_G (c_G_strikeS ht0 ht1 ht3 (x := y) hn hy ⟨_, hS_2, hM_2⟩) rfl rfl (Nat.le_of_ble_eq_true rfl) ⟨Nat.le_of_ble_eq_true rfl, Nat.le_of_ble_eq_true rfl⟩ ⟨Nat.le_of_ble_eq_true rfl, Nat.le_of_ble_eq_true rfl⟩ ?_
  rintro _ _ σ_3 ⟨hv, rfl, ⟨M_3, hS_3, hM_3⟩, q_3⟩
  cases hv
  refine z_eq (st' := []) rfl rfl rfl rfl ?_
  have hN_3 := hN_2.fr q_3 (by omega)
  have x19_3 := (q_3 19 (by omega)).trans x19_2
  refine z_aload_n kd_T_sumOfPairs_27 0 rfl ?_
  refine z_get kd_T_sumOfPairs_28 (kf_T_19 _) x19_3 rfl ?_
  refine z_callV (a := 7) (As := []) kd_T_sumOfPairs_31 (kg_T_70 _) hS_3.1 kc_G (c_G_determinantS ht0 ht1 ht3 (n := n) hn ⟨_, hS_3, hM_3⟩) rfl rfl (Nat.le_of_ble_eq_true rfl) ⟨Nat.le_of_ble_eq_true rfl, Nat.le_of_ble_eq_true rfl⟩ ⟨Nat.le_of_ble_eq_true rfl, Nat.le_of_ble_eq_true rfl⟩ ?_
  rintro _ _ σ_4 ⟨hv, rfl, ⟨s_4, M_4, hS_4⟩, q_4⟩
  cases hv
  refine z_eq (st' := [_]) rfl rfl rfl rfl ?_
  have hN_4 := hN_3.fr q_4 (by omega)
  have x19_4 := (q_4 19 (by omega)).trans x19_3
  exact z_lret kd_T_sumOfPairs_34 rfl (Nat.le_of_ble_eq_true rfl) (Nat.le_of_ble_eq_true rfl) ⟨rfl, rfl, ⟨_, _, hS_4⟩, (Fr.tr (Fr.tr (Fr.tr (Fr.tr Fr.rf (q_1.wide (by omega) (by omega))) (q_2.wide (by omega) (by omega))) (q_3.wide (by omega) (by omega))) (q_4.wide (by omega) (by omega)))⟩
def woL (F : Nat → Nat) (w : Nat → Int32) (x : Nat) : Nat → Nat → Int32 → Int32
  | 0, _, s => s
  | m + 1, k, s => woL F w x m (k + 1) (s + (if F k = x then w k else 0))
set_option maxHeartbeats 4000000 in
set_option maxRecDepth 100000 in
theorem l_N_weightOutOf {l : Launch} {D : va_G} {tys : List (ClassId × FieldType)} {b N : Nat} {σ : Nat → Option va_E} {cI cJ cA : ClassId} (ht0 : tys[0]? = some (cI, .int)) (ht1 : tys[1]? = some (cJ, .long)) (ht3 : tys[3]? = some (cA, .array .long)) {n a : Nat} {gf gt gw : Nat → Int32} {F T : Nat → Nat} (hN : NS b cI σ n a gf gt gw F T) {x : Nat} (hx : x < 10) {R : Room} {v : Int32} : ∀ (m k : Nat) (s : Int32), k + m = a → woL F gw x m k s = v → Z l D kCl tys (kh_N_weightOutOf :: zT) kNw ky_N_weightOutOf.cls ky_N_weightOutOf.name kb_N_weightOutOf 4 (some FieldType.int) R b (zFi D kCl b 0 0 (zD (some (.int v)) N σ)) 0 0 N (σ) 4 [(2, .int s), (3, .int (nI k)), (0, .ref (b + 1)), (1, .int (nI x))] [] := by
  have hn := hN.hn
  have ha := hN.ha
  intro m
  induction m with
  | zero =>
    intro k s hk hv
    obtain rfl : k = a := by omega
    have hv : s = v := hv
    subst hv
    refine z_iload_n kd_N_weightOutOf_4 1 rfl ?_
    refine z_aload_n kd_N_weightOutOf_5 2 rfl ?_
    refine z_get kd_N_weightOutOf_6 (kf_N_25 _) hN.h1 rfl ?_
    refine z_icmp_ge (tgt := 41) kd_N_weightOutOf_9 (by decide) (fun c9 => ?_) (fun c9 => ?_)
    · refine z_iload_n kd_N_weightOutOf_41 0 rfl ?_
      exact z_iret kd_N_weightOutOf_42 rfl (Nat.le_of_ble_eq_true rfl) (Nat.le_of_ble_eq_true rfl) ⟨rfl, rfl, rfl⟩
    · exact absurd (nI_le (Nat.le_refl k) (by omega)) c9
  | succ m ih =>
    intro k s hk hv
    have hlt : k < a := by omega
    have e1 := (hN.hft k hlt).1
    have l1 := (hN.ft k hlt).1
    unfold woL at hv
    refine z_iload_n kd_N_weightOutOf_4 1 rfl ?_
    refine z_aload_n kd_N_weightOutOf_5 2 rfl ?_
    refine z_get kd_N_weightOutOf_6 (kf_N_25 _) hN.h1 rfl ?_
    refine z_icmp_ge (tgt := 41) kd_N_weightOutOf_9 (by decide) (fun c9 => ?_) (fun c9 => ?_)
    · exact absurd c9 (nI_ge hlt (by omega))
    · refine z_iload_n kd_N_weightOutOf_12 0 rfl ?_
      refine z_aload_n kd_N_weightOutOf_13 2 rfl ?_
      refine z_get kd_N_weightOutOf_14 (kf_N_9 _) hN.h1 rfl ?_
      refine z_iload_n kd_N_weightOutOf_17 1 rfl ?_
      refine z_ialdN (t0 := 0) kd_N_weightOutOf_18 (by assumption) hN.h2 (by omega) (by decide) ?_
      refine z_topi e1 ?_
      refine z_iload_n kd_N_weightOutOf_19 3 rfl ?_
      refine z_icmp_ne (tgt := 32) kd_N_weightOutOf_20 (by decide) (fun c20 => ?_) (fun c20 => ?_)
      · rw [if_neg (fun q : F k = x => c20 (by rw [q]))] at hv
        refine z_iconst (v := 0) kd_N_weightOutOf_32 (by decide) ?_
        refine z_iadd kd_N_weightOutOf_33 ?_
        refine z_istore_n (lv' := [(2, .int _), (3, .int _), (0, .ref (b + 1)), (1, .int _)]) kd_N_weightOutOf_34 (by decide) rfl ?_
        refine z_iinc (v := (nI (k + 1))) (lv' := [(3, .int _), (2, .int _), (0, .ref (b + 1)), (1, .int _)]) kd_N_weightOutOf_35 1 rfl (nI_1 _) (by decide) rfl ?_
        refine z_goto (tgt := 4) kd_N_weightOutOf_38 (by decide) ?_
        refine z_pick (lv' := [(2, .int _), (3, .int (nI (k + 1))), (0, .ref (b + 1)), (1, .int (nI x))]) [1, 0, 2, 3] rfl ?_
        exact ih (k + 1) _ (by omega) hv
      · rw [if_pos ((nI_eq (by omega) (by omega)).mp c20)] at hv
        refine z_aload_n kd_N_weightOutOf_23 2 rfl ?_
        refine z_get kd_N_weightOutOf_24 (kf_N_18 _) hN.h1 rfl ?_
        refine z_iload_n kd_N_weightOutOf_27 1 rfl ?_
        refine z_ialdN (t0 := 0) kd_N_weightOutOf_28 (by assumption) hN.h4 (by omega) (by decide) ?_
        refine z_goto (tgt := 33) kd_N_weightOutOf_29 (by decide) ?_
        refine z_iadd kd_N_weightOutOf_33 ?_
        refine z_istore_n (lv' := [(2, .int _), (3, .int _), (0, .ref (b + 1)), (1, .int _)]) kd_N_weightOutOf_34 (by decide) rfl ?_
        refine z_iinc (v := (nI (k + 1))) (lv' := [(3, .int _), (2, .int _), (0, .ref (b + 1)), (1, .int _)]) kd_N_weightOutOf_35 1 rfl (nI_1 _) (by decide) rfl ?_
        refine z_goto (tgt := 4) kd_N_weightOutOf_38 (by decide) ?_
        refine z_pick (lv' := [(2, .int _), (3, .int (nI (k + 1))), (0, .ref (b + 1)), (1, .int (nI x))]) [1, 0, 2, 3] rfl ?_
        exact ih (k + 1) _ (by omega) hv
set_option maxHeartbeats 4000000 in
set_option maxRecDepth 100000 in
theorem c_N_weightOutOf {l : Launch} {D : va_G} {tys : List (ClassId × FieldType)} {b N : Nat} {σ : Nat → Option va_E} {cI cJ cA : ClassId} (ht0 : tys[0]? = some (cI, .int)) (ht1 : tys[1]? = some (cJ, .long)) (ht3 : tys[3]? = some (cA, .array .long)) {n a : Nat} {gf gt gw : Nat → Int32} {F T : Nat → Nat} (hN : NS b cI σ n a gf gt gw F T) {x : Nat} (hx : x < 10) : zM l D kCl tys kNw b ky_N_weightOutOf (kh_N_weightOutOf :: zT) 0 0 0 0 [.ref (b + 1), .int (nI x)] N σ (zD (some (.int (woL F gw x a 0 0))) N σ) := by
  refine zM.of (by decide +kernel) rfl (Nat.le_of_ble_eq_true rfl) ?_
  refine z_pick (lv' := [(0, .ref (b + 1)), (1, .int (nI x))]) [0, 1] rfl ?_
  refine z_iconst (v := 0) kd_N_weightOutOf_0 (by decide) ?_
  refine z_istore_n (lv' := [(2, .int _), (0, .ref (b + 1)), (1, .int _)]) kd_N_weightOutOf_1 (by decide) rfl ?_
  refine z_iconst (v := 0) kd_N_weightOutOf_2 (by decide) ?_
  refine z_istore_n (lv' := [(3, .int _), (2, .int _), (0, .ref (b + 1)), (1, .int _)]) kd_N_weightOutOf_3 (by decide) rfl ?_
  refine z_pick (lv' := [(2, .int 0), (3, .int (nI 0)), (0, .ref (b + 1)), (1, .int (nI x))]) [1, 0, 2, 3] rfl ?_
  exact l_N_weightOutOf ht0 ht1 ht3 hN hx a 0 0 (by omega) rfl
def wiL (T : Nat → Nat) (w : Nat → Int32) (x : Nat) : Nat → Nat → Int32 → Int32
  | 0, _, s => s
  | m + 1, k, s => wiL T w x m (k + 1) (s + (if T k = x then w k else 0))
set_option maxHeartbeats 4000000 in
set_option maxRecDepth 100000 in
theorem l_N_weightInto {l : Launch} {D : va_G} {tys : List (ClassId × FieldType)} {b N : Nat} {σ : Nat → Option va_E} {cI cJ cA : ClassId} (ht0 : tys[0]? = some (cI, .int)) (ht1 : tys[1]? = some (cJ, .long)) (ht3 : tys[3]? = some (cA, .array .long)) {n a : Nat} {gf gt gw : Nat → Int32} {F T : Nat → Nat} (hN : NS b cI σ n a gf gt gw F T) {x : Nat} (hx : x < 10) {R : Room} {v : Int32} : ∀ (m k : Nat) (s : Int32), k + m = a → wiL T gw x m k s = v → Z l D kCl tys (kh_N_weightInto :: zT) kNw ky_N_weightInto.cls ky_N_weightInto.name kb_N_weightInto 4 (some FieldType.int) R b (zFi D kCl b 0 0 (zD (some (.int v)) N σ)) 0 0 N (σ) 4 [(2, .int s), (3, .int (nI k)), (0, .ref (b + 1)), (1, .int (nI x))] [] := by
  have hn := hN.hn
  have ha := hN.ha
  intro m
  induction m with
  | zero =>
    intro k s hk hv
    obtain rfl : k = a := by omega
    have hv : s = v := hv
    subst hv
    refine z_iload_n kd_N_weightInto_4 1 rfl ?_
    refine z_aload_n kd_N_weightInto_5 2 rfl ?_
    refine z_get kd_N_weightInto_6 (kf_N_25 _) hN.h1 rfl ?_
    refine z_icmp_ge (tgt := 41) kd_N_weightInto_9 (by decide) (fun c9 => ?_) (fun c9 => ?_)
    · refine z_iload_n kd_N_weightInto_41 0 rfl ?_
      exact z_iret kd_N_weightInto_42 rfl (Nat.le_of_ble_eq_true rfl) (Nat.le_of_ble_eq_true rfl) ⟨rfl, rfl, rfl⟩
    · exact absurd (nI_le (Nat.le_refl k) (by omega)) c9
  | succ m ih =>
    intro k s hk hv
    have hlt : k < a := by omega
    have e1 := (hN.hft k hlt).2.2.1
    have l1 := (hN.ft k hlt).2
    unfold wiL at hv
    refine z_iload_n kd_N_weightInto_4 1 rfl ?_
    refine z_aload_n kd_N_weightInto_5 2 rfl ?_
    refine z_get kd_N_weightInto_6 (kf_N_25 _) hN.h1 rfl ?_
    refine z_icmp_ge (tgt := 41) kd_N_weightInto_9 (by decide) (fun c9 => ?_) (fun c9 => ?_)
    · exact absurd c9 (nI_ge hlt (by omega))
    · refine z_iload_n kd_N_weightInto_12 0 rfl ?_
      refine z_aload_n kd_N_weightInto_13 2 rfl ?_
      refine z_get kd_N_weightInto_14 (kf_N_15 _) hN.h1 rfl ?_
      refine z_iload_n kd_N_weightInto_17 1 rfl ?_
      refine z_ialdN (t0 := 0) kd_N_weightInto_18 (by assumption) hN.h3 (by omega) (by decide) ?_
      refine z_topi e1 ?_
      refine z_iload_n kd_N_weightInto_19 3 rfl ?_
      refine z_icmp_ne (tgt := 32) kd_N_weightInto_20 (by decide) (fun c20 => ?_) (fun c20 => ?_)
      · rw [if_neg (fun q : T k = x => c20 (by rw [q]))] at hv
        refine z_iconst (v := 0) kd_N_weightInto_32 (by decide) ?_
        refine z_iadd kd_N_weightInto_33 ?_
        refine z_istore_n (lv' := [(2, .int _), (3, .int _), (0, .ref (b + 1)), (1, .int _)]) kd_N_weightInto_34 (by decide) rfl ?_
        refine z_iinc (v := (nI (k + 1))) (lv' := [(3, .int _), (2, .int _), (0, .ref (b + 1)), (1, .int _)]) kd_N_weightInto_35 1 rfl (nI_1 _) (by decide) rfl ?_
        refine z_goto (tgt := 4) kd_N_weightInto_38 (by decide) ?_
        refine z_pick (lv' := [(2, .int _), (3, .int (nI (k + 1))), (0, .ref (b + 1)), (1, .int (nI x))]) [1, 0, 2, 3] rfl ?_
        exact ih (k + 1) _ (by omega) hv
      · rw [if_pos ((nI_eq (by omega) (by omega)).mp c20)] at hv
        refine z_aload_n kd_N_weightInto_23 2 rfl ?_
        refine z_get kd_N_weightInto_24 (kf_N_18 _) hN.h1 rfl ?_
        refine z_iload_n kd_N_weightInto_27 1 rfl ?_
        refine z_ialdN (t0 := 0) kd_N_weightInto_28 (by assumption) hN.h4 (by omega) (by decide) ?_
        refine z_goto (tgt := 33) kd_N_weightInto_29 (by decide) ?_
        refine z_iadd kd_N_weightInto_33 ?_
        refine z_istore_n (lv' := [(2, .int _), (3, .int _), (0, .ref (b + 1)), (1, .int _)]) kd_N_weightInto_34 (by decide) rfl ?_
        refine z_iinc (v := (nI (k + 1))) (lv' := [(3, .int _), (2, .int _), (0, .ref (b + 1)), (1, .int _)]) kd_N_weightInto_35 1 rfl (nI_1 _) (by decide) rfl ?_
        refine z_goto (tgt := 4) kd_N_weightInto_38 (by decide) ?_
        refine z_pick (lv' := [(2, .int _), (3, .int (nI (k + 1))), (0, .ref (b + 1)), (1, .int (nI x))]) [1, 0, 2, 3] rfl ?_
        exact ih (k + 1) _ (by omega) hv
set_option maxHeartbeats 4000000 in
set_option maxRecDepth 100000 in
theorem c_N_weightInto {l : Launch} {D : va_G} {tys : List (ClassId × FieldType)} {b N : Nat} {σ : Nat → Option va_E} {cI cJ cA : ClassId} (ht0 : tys[0]? = some (cI, .int)) (ht1 : tys[1]? = some (cJ, .long)) (ht3 : tys[3]? = some (cA, .array .long)) {n a : Nat} {gf gt gw : Nat → Int32} {F T : Nat → Nat} (hN : NS b cI σ n a gf gt gw F T) {x : Nat} (hx : x < 10) : zM l D kCl tys kNw b ky_N_weightInto (kh_N_weightInto :: zT) 0 0 0 0 [.ref (b + 1), .int (nI x)] N σ (zD (some (.int (wiL T gw x a 0 0))) N σ) := by
  refine zM.of (by decide +kernel) rfl (Nat.le_of_ble_eq_true rfl) ?_
  refine z_pick (lv' := [(0, .ref (b + 1)), (1, .int (nI x))]) [0, 1] rfl ?_
  refine z_iconst (v := 0) kd_N_weightInto_0 (by decide) ?_
  refine z_istore_n (lv' := [(2, .int _), (0, .ref (b + 1)), (1, .int _)]) kd_N_weightInto_1 (by decide) rfl ?_
  refine z_iconst (v := 0) kd_N_weightInto_2 (by decide) ?_
  refine z_istore_n (lv' := [(3, .int _), (2, .int _), (0, .ref (b + 1)), (1, .int _)]) kd_N_weightInto_3 (by decide) rfl ?_
  refine z_pick (lv' := [(2, .int 0), (3, .int (nI 0)), (0, .ref (b + 1)), (1, .int (nI x))]) [1, 0, 2, 3] rfl ?_
  exact l_N_weightInto ht0 ht1 ht3 hN hx a 0 0 (by omega) rfl
