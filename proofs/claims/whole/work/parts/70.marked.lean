def mkM (M : Nat → Nat → Int64) : Nat → Nat → Nat → Int64
  | 0 => M
  | i + 1 => mset (mkM M i) i i (mkM M i i i + 1)
theorem agr.mk {n : Nat} {M M' : Nat → Nat → Int64} (h : agr n M M') : ∀ i, i ≤ n → agr n (mkM M i) (mkM M' i) := by
  intro i
  induction i with
  | zero => intro _; exact h
  | succ i ih => intro hi; have h2 := ih (by omega); exact h2.set (by rw [h2 i i (by omega) (by omega)])
set_option maxHeartbeats 4000000 in
set_option maxRecDepth 100000 in
theorem l_T_marked {l : Launch} {D : va_G} {tys : List (ClassId × FieldType)} {b N : Nat} {σ0 : Nat → Option va_E} {cI cJ cA : ClassId} (ht0 : tys[0]? = some (cI, .int)) (ht1 : tys[1]? = some (cJ, .long)) (ht3 : tys[3]? = some (cA, .array .long)) {n : Nat} {va : Int32} (hn : n ≤ 10) {f : Nat → Option Nat} {r : Nat → Nat} {M : Nat → Nat → Int64} {v19 w19 : Value} (h1 : σ0 1 = some (.inr (1, [.int (nI n), .int va, .ref (b + 2), .ref (b + 3), .ref (b + 4)]))) (h19 : σ0 19 = some (.inr (4, [.ref (b + 1), .ref (b + 5), .ref (b + 7), v19, w19]))) {R : Room} {Q : Outcome → Nat → (Nat → Option va_E) → Prop} (hc : ∀ σ, σ 7 = some (.inr (3, [.int (nI n), .ref (b + 8)])) → GR b cA cJ σ f r (mkM M n) → Fr 7 18 σ0 σ → Z l D kCl tys (kh_T_sumOfMarked :: zT) kNw ky_T_sumOfMarked.cls ky_T_sumOfMarked.name kb_T_sumOfMarked 2 (some FieldType.long) R b (zFi D kCl b 0 0 Q) 0 0 N (σ) 45 [(1, .int (nI n)), (0, .ref (b + 19))] []) : ∀ (m i : Nat) (σ : Nat → Option va_E), i + m = n → σ 7 = some (.inr (3, [.int (nI n), .ref (b + 8)])) → GR b cA cJ σ f r (mkM M i) → Fr 7 18 σ0 σ → Z l D kCl tys (kh_T_sumOfMarked :: zT) kNw ky_T_sumOfMarked.cls ky_T_sumOfMarked.name kb_T_sumOfMarked 2 (some FieldType.long) R b (zFi D kCl b 0 0 Q) 0 0 N (σ) 13 [(1, .int (nI i)), (0, .ref (b + 19))] [] := by
  intro m
  induction m with
  | zero =>
    intro i σ hi0 h7 hG hF
    obtain rfl : i = n := by omega
    refine z_iload_n kd_T_sumOfMarked_13 0 rfl ?_
    refine z_aload_n kd_T_sumOfMarked_14 1 rfl ?_
    refine z_get kd_T_sumOfMarked_15 (kf_T_9 _) ((hF 19 (by omega)).trans h19) rfl ?_
    refine z_get kd_T_sumOfMarked_18 (kf_T_23 _) ((hF 1 (by omega)).trans h1) rfl ?_
    refine z_icmp_ge (tgt := 45) kd_T_sumOfMarked_21 (by decide) (fun c21 => ?_) (fun c21 => ?_)
    · exact hc σ h7 hG hF
    · exact absurd (nI_le (Nat.le_refl i) (by omega)) c21
  | succ m ih =>
    intro i σ hi0 h7 hG hF
    have hlt : i < n := by omega
    refine z_iload_n kd_T_sumOfMarked_13 0 rfl ?_
    refine z_aload_n kd_T_sumOfMarked_14 1 rfl ?_
    refine z_get kd_T_sumOfMarked_15 (kf_T_9 _) ((hF 19 (by omega)).trans h19) rfl ?_
    refine z_get kd_T_sumOfMarked_18 (kf_T_23 _) ((hF 1 (by omega)).trans h1) rfl ?_
    refine z_icmp_ge (tgt := 45) kd_T_sumOfMarked_21 (by decide) (fun c21 => ?_) (fun c21 => ?_)
    · exact absurd c21 (nI_ge hlt (by omega))
    · refine z_aload_n kd_T_sumOfMarked_24 1 rfl ?_
      refine z_get kd_T_sumOfMarked_25 (kf_T_19 _) ((hF 19 (by omega)).trans h19) rfl ?_
      refine z_get kd_T_sumOfMarked_28 (kf_T_85 _) h7 rfl ?_
      refine z_iload_n kd_T_sumOfMarked_31 0 rfl ?_
      refine z_gal kd_T_sumOfMarked_32 ht3 hG (by omega) ?_
      refine z_iload_n kd_T_sumOfMarked_33 0 rfl ?_
      refine z_dup2_11 kd_T_sumOfMarked_34 rfl rfl ?_
      refine z_gld kd_T_sumOfMarked_35 ht1 hG (by omega) (by omega) ?_
      refine z_lconst (v := 1) kd_T_sumOfMarked_36 (by decide +kernel) ?_
      refine z_ladd kd_T_sumOfMarked_37 ?_
      refine z_gst kd_T_sumOfMarked_38 ht1 hG (by omega) (by omega) (fun σ1 g1 q1 => ?_)
      refine z_iinc (v := (nI (i + 1))) (lv' := [(1, .int _), (0, .ref (b + 19))]) kd_T_sumOfMarked_39 0 rfl (nI_1 _) (by decide) rfl ?_
      refine z_goto (tgt := 13) kd_T_sumOfMarked_42 (by decide) ?_
      exact ih (i + 1) _ (by omega) ((q1 7 (by omega)).trans h7) g1 (Fr.tr hF (q1.wide (by omega) (by omega)))
set_option maxHeartbeats 4000000 in
set_option maxRecDepth 100000 in
theorem t_T_marked {l : Launch} {D : va_G} {tys : List (ClassId × FieldType)} {b N : Nat} {σ0 : Nat → Option va_E} {σ : Nat → Option va_E} {cI cJ cA : ClassId} (ht0 : tys[0]? = some (cI, .int)) (ht1 : tys[1]? = some (cJ, .long)) (ht3 : tys[3]? = some (cA, .array .long)) {n : Nat} (hn : n ≤ 10) {M0 M : Nat → Nat → Int64} {v19 w19 : Value} (h19 : σ 19 = some (.inr (4, [.ref (b + 1), .ref (b + 5), .ref (b + 7), v19, w19]))) (hS0 : GS b cA cJ σ (nI n) M0) (hM0 : agr n M0 M) (hF : Fr 7 18 σ0 σ) : Z l D kCl tys (kh_T_sumOfMarked :: zT) kNw ky_T_sumOfMarked.cls ky_T_sumOfMarked.name kb_T_sumOfMarked 2 (some FieldType.long) { frames := 3, cells := 0, slots := 0, locals := 130 } b (zFi D kCl b 0 0 (fun oc N' σ' => oc = .returned (some (.long (dtN n M))) ∧ N' = N ∧ GA b cA cJ σ' ∧ Fr 7 18 σ0 σ')) 0 0 N (σ) 45 [(1, .int (nI n)), (0, .ref (b + 19))] [] := by
  refine z_aload_n kd_T_sumOfMarked_45 1 rfl ?_
  refine z_get kd_T_sumOfMarked_46 (kf_T_19 _) h19 rfl ?_
  refine z_callV (a := 7) (As := []) kd_T_sumOfMarked_49 (kg_T_70 _) hS0.1 kc_G (c_G_determinantS ht0 ht1 ht3 (n := n) hn ⟨_, hS0, hM0⟩) rfl rfl (Nat.le_of_ble_eq_true rfl) ⟨Nat.le_of_ble_eq_true rfl, Nat.le_of_ble_eq_true rfl⟩ ⟨Nat.le_of_ble_eq_true rfl, Nat.le_of_ble_eq_true rfl⟩ ?_
  rintro _ _ σ_1 ⟨hv, rfl, ⟨s_1, M_1, hS_1⟩, q_1⟩
  cases hv
  refine z_eq (st' := [_]) rfl rfl rfl rfl ?_
  have x19_1 := (q_1 19 (by omega)).trans h19
  exact z_lret kd_T_sumOfMarked_52 rfl (Nat.le_of_ble_eq_true rfl) (Nat.le_of_ble_eq_true rfl) ⟨rfl, rfl, ⟨_, _, hS_1⟩, (Fr.tr hF (q_1.wide (by omega) (by omega)))⟩
set_option maxHeartbeats 4000000 in
set_option maxRecDepth 100000 in
theorem c_T_sumOfMarked {l : Launch} {D : va_G} {tys : List (ClassId × FieldType)} {b N : Nat} {σ : Nat → Option va_E} {cI cJ cA : ClassId} (ht0 : tys[0]? = some (cI, .int)) (ht1 : tys[1]? = some (cJ, .long)) (ht3 : tys[3]? = some (cA, .array .long)) {n a : Nat} {gf gt gw : Nat → Int32} {F T : Nat → Nat} (hN : NS b cI σ n a gf gt gw F T) {v19 w19 : Value} (h19 : σ 19 = some (.inr (4, [.ref (b + 1), .ref (b + 5), .ref (b + 7), v19, w19]))) (hA : GA b cA cJ σ) : zM l D kCl tys kNw b ky_T_sumOfMarked (kh_T_sumOfMarked :: zT) 3 130 0 0 [.ref (b + 19)] N σ ((fun oc N' σ' => oc = .returned (some (.long (dtN n (mkM (fbM F T gw Z0 a) n)))) ∧ N' = N ∧ GA b cA cJ σ' ∧ Fr 7 18 σ σ')) := by
  refine zM.of (by decide +kernel) rfl (Nat.le_of_ble_eq_true rfl) ?_
  refine z_pick (lv' := [(0, .ref (b + 19))]) [0] rfl ?_
  obtain ⟨s0, M0, hS0⟩ := hA
  have hn := hN.hn
  have ha := hN.ha
  refine z_aload_n kd_T_sumOfMarked_0 0 rfl ?_
  refine z_get kd_T_sumOfMarked_1 (kf_T_19 _) h19 rfl ?_
  refine z_aload_n kd_T_sumOfMarked_4 0 rfl ?_
  refine z_get kd_T_sumOfMarked_5 (kf_T_9 _) h19 rfl ?_
  refine z_callV (a := 7) (As := [_]) kd_T_sumOfMarked_8 (kg_T_82 _) hS0.1 kc_G (c_G_fillBothWaysS ht0 ht1 ht3 hN ⟨_, _, hS0⟩) rfl rfl (Nat.le_of_ble_eq_true rfl) ⟨Nat.le_of_ble_eq_true rfl, Nat.le_of_ble_eq_true rfl⟩ ⟨Nat.le_of_ble_eq_true rfl, Nat.le_of_ble_eq_true rfl⟩ ?_
  rintro _ _ σ_1 ⟨hv, rfl, ⟨M_1, hS_1, hM_1⟩, q_1⟩
  cases hv
  refine z_eq (st' := []) rfl rfl rfl rfl ?_
  have hN_1 := hN.fr q_1 (by omega)
  have x19_1 := (q_1 19 (by omega)).trans h19
  refine z_iconst (v := 0) kd_T_sumOfMarked_11 (by decide) ?_
  refine z_istore_n (lv' := [(1, .int _), (0, .ref (b + 19))]) kd_T_sumOfMarked_12 (by decide) rfl ?_
  obtain ⟨h7, f, r, hG⟩ := hS_1
  refine l_T_marked ht0 ht1 ht3 hn hN_1.h1 x19_1 (fun σ h7 hG hF => ?_) n 0 _ (by omega) h7 hG Fr.rf
  exact t_T_marked ht0 ht1 ht3 hn ((hF 19 (by omega)).trans x19_1) ⟨h7, f, r, hG⟩ (hM_1.mk n (Nat.le_refl n)) (Fr.tr (Fr.tr Fr.rf (q_1.wide (by omega) (by omega))) hF)
def fcL : Nat → Nat → Int64 → Int64
  | 0, _, p => p
  | m + 1, f, p => fcL m (f + 1) (p * (nI f).toInt64)
def fcN (q : Nat) : Int64 := fcL (q - 1) 2 1
set_option maxHeartbeats 4000000 in
set_option maxRecDepth 100000 in
theorem l_T_factorial {l : Launch} {D : va_G} {tys : List (ClassId × FieldType)} {b N : Nat} {σ : Nat → Option va_E} {R : Room} {v : Int64} {q : Nat} (hq : q ≤ 1000) : ∀ (m f : Nat) (p : Int64), f ≤ 1001 → q < f + m → (0 < m → f + m = q + 1) → fcL m f p = v → Z l D kCl tys (kh_T_factorial :: zT) kNw ky_T_factorial.cls ky_T_factorial.name kb_T_factorial 4 (some FieldType.long) R b (zFi D kCl b 0 0 (zD (some (.long v)) N σ)) 0 0 N (σ) 4 [(3, .int (nI f)), (1, .long p), (0, .int (nI q))] [] := by
  intro m
  induction m with
  | zero =>
    intro f p hf h1 h2 hv
    have hv : p = v := hv
    subst hv
    refine z_iload_n kd_T_factorial_4 0 rfl ?_
    refine z_iload_n kd_T_factorial_5 2 rfl ?_
    refine z_icmp_gt (tgt := 20) kd_T_factorial_6 (by decide) (fun c6 => ?_) (fun c6 => ?_)
    · refine z_lload_n kd_T_factorial_20 1 rfl ?_
      exact z_lret kd_T_factorial_21 rfl (Nat.le_of_ble_eq_true rfl) (Nat.le_of_ble_eq_true rfl) ⟨rfl, rfl, rfl⟩
    · exact absurd (nI_lt (a := q) (b := f) (by omega) (by omega)) c6
  | succ m ih =>
    intro f p hf h1 h2 hv
    have h3 := h2 (Nat.succ_pos m)
    refine z_iload_n kd_T_factorial_4 0 rfl ?_
    refine z_iload_n kd_T_factorial_5 2 rfl ?_
    refine z_icmp_gt (tgt := 20) kd_T_factorial_6 (by decide) (fun c6 => ?_) (fun c6 => ?_)
    · exact absurd c6 (nI_nlt (by omega) (by omega))
    · refine z_lload_n kd_T_factorial_9 1 rfl ?_
      refine z_iload_n kd_T_factorial_10 0 rfl ?_
      refine z_i2l kd_T_factorial_11 ?_
      refine z_lmul kd_T_factorial_12 ?_
      refine z_lstore_n (lv' := [(1, .long _), (3, .int _), (0, .int _)]) kd_T_factorial_13 (by decide) rfl ?_
      refine z_iinc (v := (nI (f + 1))) (lv' := [(3, .int _), (1, .long _), (0, .int _)]) kd_T_factorial_14 1 rfl (nI_1 _) (by decide) rfl ?_
      refine z_goto (tgt := 4) kd_T_factorial_17 (by decide) ?_
      refine z_pick (lv' := [(3, .int (nI (f + 1))), (1, .long _), (0, .int (nI q))]) [0, 1, 2] rfl ?_
      exact ih (f + 1) _ (by omega) (by omega) (fun _ => by omega) hv
set_option maxHeartbeats 4000000 in
set_option maxRecDepth 100000 in
theorem c_T_factorial1 {l : Launch} {D : va_G} {tys : List (ClassId × FieldType)} {b N : Nat} {σ : Nat → Option va_E} {q : Nat} (hq : q ≤ 1000) : zM l D kCl tys kNw b ky_T_factorial (kh_T_factorial :: zT) 0 0 0 0 [.int (nI q)] N σ (zD (some (.long (fcN q))) N σ) := by
  refine zM.of (by decide +kernel) rfl (Nat.le_of_ble_eq_true rfl) ?_
  refine z_pick (lv' := [(0, .int (nI q))]) [0] rfl ?_
  refine z_lconst (v := 1) kd_T_factorial_0 (by decide +kernel) ?_
  refine z_lstore_n (lv' := [(1, .long _), (0, .int _)]) kd_T_factorial_1 (by decide) rfl ?_
  refine z_iconst (v := 2) kd_T_factorial_2 (by decide) ?_
  refine z_istore_n (lv' := [(3, .int _), (1, .long _), (0, .int _)]) kd_T_factorial_3 (by decide) rfl ?_
  exact l_T_factorial hq (q - 1) 2 1 (by omega) (by omega) (fun _ => by omega) rfl
set_option maxHeartbeats 4000000 in
set_option maxRecDepth 100000 in
theorem c_T_factorial0 {l : Launch} {D : va_G} {tys : List (ClassId × FieldType)} {b N : Nat} {σ : Nat → Option va_E}  : zM l D kCl tys kNw b ky_T_factorial (kh_T_factorial :: zT) 0 0 0 0 [.int (-1)] N σ (zD (some (.long 1)) N σ) := by
  refine zM.of (by decide +kernel) rfl (Nat.le_of_ble_eq_true rfl) ?_
  refine z_pick (lv' := [(0, .int (-1))]) [0] rfl ?_
  refine z_lconst (v := 1) kd_T_factorial_0 (by decide +kernel) ?_
  refine z_lstore_n (lv' := [(1, .long _), (0, .int _)]) kd_T_factorial_1 (by decide) rfl ?_
  refine z_iconst (v := 2) kd_T_factorial_2 (by decide) ?_
  refine z_istore_n (lv' := [(3, .int _), (1, .long _), (0, .int _)]) kd_T_factorial_3 (by decide) rfl ?_
  refine z_iload_n kd_T_factorial_4 0 rfl ?_
  refine z_iload_n kd_T_factorial_5 2 rfl ?_
  refine z_icmp_gt (tgt := 20) kd_T_factorial_6 (by decide) (fun c6 => ?_) (fun c6 => absurd c6 (by decide))
  refine z_lload_n kd_T_factorial_20 1 rfl ?_
  exact z_lret kd_T_factorial_21 rfl (Nat.le_of_ble_eq_true rfl) (Nat.le_of_ble_eq_true rfl) ⟨rfl, rfl, rfl⟩
theorem c_T_factorial {l : Launch} {D : va_G} {tys : List (ClassId × FieldType)} {b N : Nat} {σ : Nat → Option va_E} {o : Nat} (ho : o ≤ 1000) : zM l D kCl tys kNw b ky_T_factorial (kh_T_factorial :: zT) 0 0 0 0 [.int (nI o - 1)] N σ (zD (some (.long (fcN (o - 1)))) N σ) := by
  by_cases h : o = 0
  · subst h
    exact c_T_factorial0
  · rw [show nI o - 1 = nI (o - 1) from pk_sub (a := o) (b := 1) (by omega)]
    exact c_T_factorial1 (by omega)
