theorem lyL_le (F T : Nat → Nat) (beg : Nat) (B : Nat → Option Nat) : ∀ m len at_ R, (lyL F T beg B m len at_ R).1 ≤ len + m := by
  intro m
  induction m with
  | zero => intro len at_ R; exact Nat.le_refl _
  | succ m ih =>
    intro len at_ R
    unfold lyL
    by_cases c : at_ = beg
    · rw [if_pos c]; show len ≤ len + (m + 1); omega
    · rw [if_neg c]
      cases hb : B at_ with
      | none => show len ≤ len + (m + 1); omega
      | some k => have := ih (len + 1) (if F k = at_ then T k else F k) (upd R len (nI k)); show (lyL F T beg B m (len + 1) (if F k = at_ then T k else F k) (upd R len (nI k))).1 ≤ len + (m + 1); omega
theorem lyV_le (F T : Nat → Nat) (n a : Nat) (ring : Int32) (R : Nat → Int32) : (lyV F T n a ring R).1 ≤ 10 := by
  unfold lyV
  cases utL (ftV n a F T).1 ring a 0 0 with
  | none => exact Nat.zero_le _
  | some j => exact lyL_le F T _ _ 9 1 _ _
section ZS
variable {b lo hi lo2 hi2 : Nat} {cI cJ cA cP : ClassId} {σ σ' : Nat → Option va_E} {n a : Nat} {gf gt gw : Nat → Int32} {F T : Nat → Nat} {C K C' K' : Nat → Int64}
theorem CS.r20 (h : CS b cI cJ cA cP σ n a gf gt gw F T C K) (hP : PA b cI σ' 5) (hr : RS b cI σ') (q : F2 5 6 20 22 σ σ') : CS b cI cJ cA cP σ' n a gf gt gw F T C K := by
  obtain ⟨hN, h26, h27, c0, -, hG, ts, -, us, h25, tr, ss, pe⟩ := h
  obtain ⟨_, qa, qb⟩ := q.two
  exact ⟨(hN.fr qa (by omega)).fr qb (by omega), (q 26 (by omega) (by omega)).trans h26, (q 27 (by omega) (by omega)).trans h27, (c0.fr qa (by omega)).fr qb (by omega), hP, (hG.fr qa (by omega)).fr qb (by omega), (ts.fr qa (by omega)).fr qb (by omega), hr, (us.fr qa (by omega)).fr qb (by omega), (q 25 (by omega) (by omega)).trans h25, (tr.fr qa (by omega)).fr qb (by omega), (ss.fr qa (by omega)).fr qb (by omega), (pe.fr qa (by omega)).fr qb (by omega)⟩
theorem CS.r23 (h : CS b cI cJ cA cP σ n a gf gt gw F T C K) (hP : PA b cI σ' 5) (hG : GA b cA cJ σ') (hu : US b cJ σ') (q : F2 5 18 23 24 σ σ') : CS b cI cJ cA cP σ' n a gf gt gw F T C K := by
  obtain ⟨hN, h26, h27, c0, -, -, ts, rs, -, h25, tr, ss, pe⟩ := h
  obtain ⟨_, qa, qb⟩ := q.two
  exact ⟨(hN.fr qa (by omega)).fr qb (by omega), (q 26 (by omega) (by omega)).trans h26, (q 27 (by omega) (by omega)).trans h27, (c0.fr qa (by omega)).fr qb (by omega), hP, hG, (ts.fr qa (by omega)).fr qb (by omega), (rs.fr qa (by omega)).fr qb (by omega), hu, (q 25 (by omega) (by omega)).trans h25, (tr.fr qa (by omega)).fr qb (by omega), (ss.fr qa (by omega)).fr qb (by omega), (pe.fr qa (by omega)).fr qb (by omega)⟩
end ZS
def ringV (F T : Nat → Nat) (n a : Nat) (x : Int32) (k : Nat) (R : Nat → Int32) : Int32 := if k < (lyV F T n a x R).1 then (lyV F T n a x R).2 k else -1
set_option maxHeartbeats 4000000 in
set_option maxRecDepth 100000 in
theorem c_C_ring1 {l : Launch} {D : va_G} {tys : List (ClassId × FieldType)} {b N : Nat} {σ : Nat → Option va_E} {cI cJ cA : ClassId} (ht0 : tys[0]? = some (cI, .int)) (ht1 : tys[1]? = some (cJ, .long)) (ht3 : tys[3]? = some (cA, .array .long)) {cP : ClassId} {n a : Nat} {gf gt gw : Nat → Int32} {F T : Nat → Nat} {C K : Nat → Int64} (hC : CS b cI cJ cA cP σ n a gf gt gw F T C K) {x : Int32} {k : Nat} (hx : ¬ x < 0) (hk31 : k < 2 ^ 31) : zM l D kCl tys kNw b ky_C_ring (kh_C_ring :: zT) 20 700 0 0 [.ref (b + 0), .int x, .int (nI k)] N σ ((fun oc N' σ' => (∃ R, oc = .returned (some (.int (ringV F T n a x k R)))) ∧ N' = N ∧ CS b cI cJ cA cP σ' n a gf gt gw F T C K ∧ Fr 0 53 σ σ')) := by
  refine zM.of (by decide +kernel) rfl (Nat.le_of_ble_eq_true rfl) ?_
  refine z_pick (lv' := [(0, .ref (b + 0)), (1, .int x), (2, .int (nI k))]) [0, 1, 2] rfl ?_
  obtain ⟨hN, h26, h27, c0, ⟨u5, x5, g5, h5, h6⟩, ⟨s0, M0, hS0⟩, ⟨v19, w19, h19⟩, rs, us, h25, tr, ss, pe⟩ := id hC
  have hn := hN.hn
  have ha := hN.ha
  obtain ⟨⟨v20, h20⟩, ⟨Rw, h21⟩, ⟨g22, h22⟩⟩ := id rs
  have hl10 := lyV_le F T n a x Rw
  refine z_iload_n kd_C_ring_0 1 rfl ?_
  refine z_if_lt (tgt := 8) kd_C_ring_1 (by decide) (fun c1 => ?_) (fun c1 => ?_)
  · exact absurd c1 hx
  · refine z_iload_n kd_C_ring_4 2 rfl ?_
    refine z_if_ge (tgt := 10) kd_C_ring_5 (by decide) (fun c5 => ?_) (fun c5 => ?_)
    · refine z_aload_n kd_C_ring_10 0 rfl ?_
      refine z_get kd_C_ring_11 (kf_C_36 _) c0 rfl ?_
      refine z_iload_n kd_C_ring_14 1 rfl ?_
      refine z_callV (a := 20) (As := [_]) kd_C_ring_15 (kg_C_132 _) h20 kc_R (c_R_lay ht0 ht1 ht3 hN h20 h21 h22 ⟨_, _, _, h5, h6⟩) rfl rfl (Nat.le_of_ble_eq_true rfl) ⟨Nat.le_of_ble_eq_true rfl, Nat.le_of_ble_eq_true rfl⟩ ⟨Nat.le_of_ble_eq_true rfl, Nat.le_of_ble_eq_true rfl⟩ ?_
      rintro _ _ σ_1 ⟨hv, rfl, ⟨u5_1, x5_1, g5_1, h5_1, h6_1⟩, x20_1, x21_1, ⟨g22_1, x22_1⟩, q_1⟩
      cases hv
      refine z_eq (st' := []) rfl rfl rfl rfl ?_
      obtain ⟨_, qa_1, qb_1⟩ := F2.two q_1
      have hN_1 := (hN.fr qa_1 (by omega)).fr qb_1 (by omega)
      have x0_1 := (q_1 0 (by omega) (by omega)).trans c0
      refine z_iload_n kd_C_ring_18 2 rfl ?_
      refine z_aload_n kd_C_ring_19 0 rfl ?_
      refine z_get kd_C_ring_20 (kf_C_36 _) x0_1 rfl ?_
      refine z_get kd_C_ring_23 (kf_C_136 _) x20_1 rfl ?_
      refine z_icmp_ge (tgt := 41) kd_C_ring_26 (by decide) (fun c26 => ?_) (fun c26 => ?_)
      · have hk : ¬ k < (lyV F T n a x Rw).1 := fun q => absurd c26 (nI_ge q (by omega))
        refine z_iconst (v := -1) kd_C_ring_41 (by decide) ?_
        exact z_iret kd_C_ring_42 rfl (Nat.le_of_ble_eq_true rfl) (Nat.le_of_ble_eq_true rfl) ⟨⟨Rw, by unfold ringV; first | rw [if_pos hk] | rw [if_neg hk]⟩, rfl, hC.r20 ⟨_, _, _, h5_1, h6_1⟩ ⟨⟨_, x20_1⟩, ⟨_, x21_1⟩, ⟨_, x22_1⟩⟩ (F2.tr3 F2.rf q_1 (by omega)), F2.all (show F2 5 6 20 22 σ _ from (F2.tr3 F2.rf q_1 (by omega))) (by omega) (by omega)⟩
      · have hk : k < (lyV F T n a x Rw).1 := by
          rcases Nat.lt_or_ge k (lyV F T n a x Rw).1 with q | q
          · exact q
          · exact absurd (nI_le q hk31) c26
        refine z_aload_n kd_C_ring_29 0 rfl ?_
        refine z_get kd_C_ring_30 (kf_C_36 _) x0_1 rfl ?_
        refine z_get kd_C_ring_33 (kf_C_139 _) x20_1 rfl ?_
        refine z_iload_n kd_C_ring_36 2 rfl ?_
        refine z_ialdN (t0 := 0) kd_C_ring_37 (by assumption) x21_1 (by omega) (by decide) ?_
        refine z_goto (tgt := 42) kd_C_ring_38 (by decide) ?_
        exact z_iret kd_C_ring_42 rfl (Nat.le_of_ble_eq_true rfl) (Nat.le_of_ble_eq_true rfl) ⟨⟨Rw, by unfold ringV; first | rw [if_pos hk] | rw [if_neg hk]⟩, rfl, hC.r20 ⟨_, _, _, h5_1, h6_1⟩ ⟨⟨_, x20_1⟩, ⟨_, x21_1⟩, ⟨_, x22_1⟩⟩ (F2.tr3 F2.rf q_1 (by omega)), F2.all (show F2 5 6 20 22 σ _ from (F2.tr3 F2.rf q_1 (by omega))) (by omega) (by omega)⟩
    · exact absurd (nI_le (a := 0) (Nat.zero_le k) hk31) c5
set_option maxHeartbeats 4000000 in
set_option maxRecDepth 100000 in
theorem c_C_ring0 {l : Launch} {D : va_G} {tys : List (ClassId × FieldType)} {b N : Nat} {σ : Nat → Option va_E} {cI cJ cA : ClassId} (ht0 : tys[0]? = some (cI, .int)) (ht1 : tys[1]? = some (cJ, .long)) (ht3 : tys[3]? = some (cA, .array .long)) {cP : ClassId} {n a : Nat} {gf gt gw : Nat → Int32} {F T : Nat → Nat} {C K : Nat → Int64} (hC : CS b cI cJ cA cP σ n a gf gt gw F T C K) {x y : Int32} (hx : ¬ (¬ x < 0 ∧ 0 ≤ y)) : zM l D kCl tys kNw b ky_C_ring (kh_C_ring :: zT) 20 700 0 0 [.ref (b + 0), .int x, .int y] N σ ((fun oc N' σ' => oc = .returned (some (.int (-1))) ∧ N' = N ∧ CS b cI cJ cA cP σ' n a gf gt gw F T C K ∧ Fr 0 53 σ σ')) := by
  refine zM.of (by decide +kernel) rfl (Nat.le_of_ble_eq_true rfl) ?_
  refine z_pick (lv' := [(0, .ref (b + 0)), (1, .int x), (2, .int y)]) [0, 1, 2] rfl ?_
  obtain ⟨hN, h26, h27, c0, ⟨u5, x5, g5, h5, h6⟩, ⟨s0, M0, hS0⟩, ⟨v19, w19, h19⟩, rs, us, h25, tr, ss, pe⟩ := id hC
  have hn := hN.hn
  have ha := hN.ha
  obtain ⟨⟨v20, h20⟩, ⟨Rw, h21⟩, ⟨g22, h22⟩⟩ := id rs
  refine z_iload_n kd_C_ring_0 1 rfl ?_
  refine z_if_lt (tgt := 8) kd_C_ring_1 (by decide) (fun c1 => ?_) (fun c1 => ?_)
  · refine z_iconst (v := -1) kd_C_ring_8 (by decide) ?_
    exact z_iret kd_C_ring_9 rfl (Nat.le_of_ble_eq_true rfl) (Nat.le_of_ble_eq_true rfl) ⟨rfl, rfl, hC, Fr.rf⟩
  · refine z_iload_n kd_C_ring_4 2 rfl ?_
    refine z_if_ge (tgt := 10) kd_C_ring_5 (by decide) (fun c5 => ?_) (fun c5 => ?_)
    · exact absurd ⟨c1, c5⟩ hx
    · refine z_iconst (v := -1) kd_C_ring_8 (by decide) ?_
      exact z_iret kd_C_ring_9 rfl (Nat.le_of_ble_eq_true rfl) (Nat.le_of_ble_eq_true rfl) ⟨rfl, rfl, hC, Fr.rf⟩
