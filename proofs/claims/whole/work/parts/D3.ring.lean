theorem pbL_le {F T : Nat → Nat} {B : Nat → Option Nat} {g : Nat} {val : Nat × (Nat → Int32)} : ∀ m v s R, pbL F T B g m v s R = some val → val.1 ≤ s + m := by
  intro m
  induction m with
  | zero => intro v s R h; cases h
  | succ m ih =>
    intro v s R h
    unfold pbL at h
    split at h
    · cases h; show s ≤ _; omega
    · split at h
      · cases h
      · have := ih _ _ _ h; omega
set_option maxHeartbeats 4000000 in
set_option maxRecDepth 100000 in
theorem c_M_ring0 {l : Launch} {D : va_G} {tys : List (ClassId × FieldType)} {b N : Nat} {σ : Nat → Option va_E} {cI cJ cA : ClassId} (ht0 : tys[0]? = some (cI, .int)) (ht1 : tys[1]? = some (cJ, .long)) (ht3 : tys[3]? = some (cA, .array .long)) {cZ : ClassId} (ht2 : tys[2]? = some (cZ, .boolean)) {n a : Nat} {gf gt gw : Nat → Int32} {F T : Nat → Nat} {C K : Nat → Int64} (hMS : MS b cI cJ cZ σ n a gf gt gw F T C K) {x y : Int32} (h : x < 0 ∨ y < 0) : zM l D kCl tys kNw b ky_M_ring (kh_M_ring :: zT) 10 360 0 0 [.ref (b + 54), .int x, .int y] N σ ((fun oc N' σ' => oc = .returned (some (.int (-1))) ∧ N' = N ∧ MS b cI cJ cZ σ' n a gf gt gw F T C K ∧ Fr 54 73 σ σ')) := by
  refine zM.of (by decide +kernel) rfl (Nat.le_of_ble_eq_true rfl) ?_
  refine z_pick (lv' := [(0, .ref (b + 54)), (1, .int x), (2, .int y)]) [0, 1, 2] rfl ?_
  obtain ⟨⟨th, fa, ls, rm, hM⟩, h58, h59, ⟨g60, h60⟩, ⟨g61, h61⟩, ⟨g62, h62⟩, ⟨g63, h63⟩, ⟨g64, h64⟩, ⟨g65, h65⟩, ⟨g66, h66⟩, ⟨g67, h67⟩, ⟨g68, h68⟩, ⟨g69, h69⟩, ⟨g70, h70⟩, ⟨g71, h71⟩, ⟨g72, h72⟩, ⟨g73, h73⟩⟩ := hMS
  have hn := hM.hn
  have ha := hM.ha
  refine z_aload_n kd_M_ring_0 0 rfl ?_
  refine z_iconst (v := 0) kd_M_ring_1 (by decide) ?_
  refine z_putE (fs' := [_, _, _, _, _, _, _, _, _, _, _, _, _, _, _, _, _, _, _, _, _, _, _, _, _]) kd_M_ring_2 (kp_M_69 _) hM.h1 (Nat.le_of_ble_eq_true rfl) rfl rfl rfl ?_
  refine z_upd (fun σ_1 x54_1 q_1 => ?_)
  have x58_1 := (q_1 58 (by omega)).trans h58
  have x59_1 := (q_1 59 (by omega)).trans h59
  have x60_1 := (q_1 60 (by omega)).trans h60
  have x61_1 := (q_1 61 (by omega)).trans h61
  have x62_1 := (q_1 62 (by omega)).trans h62
  have x63_1 := (q_1 63 (by omega)).trans h63
  have x64_1 := (q_1 64 (by omega)).trans h64
  have x65_1 := (q_1 65 (by omega)).trans h65
  have x66_1 := (q_1 66 (by omega)).trans h66
  have x67_1 := (q_1 67 (by omega)).trans h67
  have x68_1 := (q_1 68 (by omega)).trans h68
  have x69_1 := (q_1 69 (by omega)).trans h69
  have x70_1 := (q_1 70 (by omega)).trans h70
  have x71_1 := (q_1 71 (by omega)).trans h71
  have x72_1 := (q_1 72 (by omega)).trans h72
  have x73_1 := (q_1 73 (by omega)).trans h73
  have hM_1 := hM.put x54_1 q_1
  refine z_iload_n kd_M_ring_5 1 rfl ?_
  refine z_if_lt (tgt := 21) kd_M_ring_6 (by decide) (fun c6 => ?_) (fun c6 => ?_)
  · refine z_iconst (v := -1) kd_M_ring_21 (by decide) ?_
    exact z_iret kd_M_ring_22 rfl (Nat.le_of_ble_eq_true rfl) (Nat.le_of_ble_eq_true rfl) ⟨rfl, rfl, ⟨⟨_, _, _, _, hM_1⟩, x58_1, x59_1, ⟨_, x60_1⟩, ⟨_, x61_1⟩, ⟨_, x62_1⟩, ⟨_, x63_1⟩, ⟨_, x64_1⟩, ⟨_, x65_1⟩, ⟨_, x66_1⟩, ⟨_, x67_1⟩, ⟨_, x68_1⟩, ⟨_, x69_1⟩, ⟨_, x70_1⟩, ⟨_, x71_1⟩, ⟨_, x72_1⟩, ⟨_, x73_1⟩⟩, (Fr.tr Fr.rf (q_1.wide (by omega) (by omega)))⟩
  · refine z_iload_n kd_M_ring_9 2 rfl ?_
    refine z_if_lt (tgt := 21) kd_M_ring_10 (by decide) (fun c10 => ?_) (fun c10 => ?_)
    · refine z_iconst (v := -1) kd_M_ring_21 (by decide) ?_
      exact z_iret kd_M_ring_22 rfl (Nat.le_of_ble_eq_true rfl) (Nat.le_of_ble_eq_true rfl) ⟨rfl, rfl, ⟨⟨_, _, _, _, hM_1⟩, x58_1, x59_1, ⟨_, x60_1⟩, ⟨_, x61_1⟩, ⟨_, x62_1⟩, ⟨_, x63_1⟩, ⟨_, x64_1⟩, ⟨_, x65_1⟩, ⟨_, x66_1⟩, ⟨_, x67_1⟩, ⟨_, x68_1⟩, ⟨_, x69_1⟩, ⟨_, x70_1⟩, ⟨_, x71_1⟩, ⟨_, x72_1⟩, ⟨_, x73_1⟩⟩, (Fr.tr Fr.rf (q_1.wide (by omega) (by omega)))⟩
    · exact absurd h (fun z => by rcases z with z | z; exact c6 z; exact c10 z)
set_option maxHeartbeats 4000000 in
set_option maxRecDepth 100000 in
theorem c_M_ring1 {l : Launch} {D : va_G} {tys : List (ClassId × FieldType)} {b N : Nat} {σ : Nat → Option va_E} {cI cJ cA : ClassId} (ht0 : tys[0]? = some (cI, .int)) (ht1 : tys[1]? = some (cJ, .long)) (ht3 : tys[3]? = some (cA, .array .long)) {cZ : ClassId} (ht2 : tys[2]? = some (cZ, .boolean)) {n a : Nat} {gf gt gw : Nat → Int32} {F T : Nat → Nat} {C K : Nat → Int64} (hMS : MS b cI cJ cZ σ n a gf gt gw F T C K) {r k : Nat} (hr : r < 2 ^ 31) (hk : k < 2 ^ 31) (h : (ttV a F T).1 ≤ r) : zM l D kCl tys kNw b ky_M_ring (kh_M_ring :: zT) 10 360 0 0 [.ref (b + 54), .int (nI r), .int (nI k)] N σ ((fun oc N' σ' => oc = .returned (some (.int (-1))) ∧ N' = N ∧ MS b cI cJ cZ σ' n a gf gt gw F T C K ∧ Fr 54 73 σ σ')) := by
  refine zM.of (by decide +kernel) rfl (Nat.le_of_ble_eq_true rfl) ?_
  refine z_pick (lv' := [(0, .ref (b + 54)), (1, .int (nI r)), (2, .int (nI k))]) [0, 1, 2] rfl ?_
  obtain ⟨⟨th, fa, ls, rm, hM⟩, h58, h59, ⟨g60, h60⟩, ⟨g61, h61⟩, ⟨g62, h62⟩, ⟨g63, h63⟩, ⟨g64, h64⟩, ⟨g65, h65⟩, ⟨g66, h66⟩, ⟨g67, h67⟩, ⟨g68, h68⟩, ⟨g69, h69⟩, ⟨g70, h70⟩, ⟨g71, h71⟩, ⟨g72, h72⟩, ⟨g73, h73⟩⟩ := hMS
  have hn := hM.hn
  have ha := hM.ha
  refine z_aload_n kd_M_ring_0 0 rfl ?_
  refine z_iconst (v := 0) kd_M_ring_1 (by decide) ?_
  refine z_putE (fs' := [_, _, _, _, _, _, _, _, _, _, _, _, _, _, _, _, _, _, _, _, _, _, _, _, _]) kd_M_ring_2 (kp_M_69 _) hM.h1 (Nat.le_of_ble_eq_true rfl) rfl rfl rfl ?_
  refine z_upd (fun σ_1 x54_1 q_1 => ?_)
  have x58_1 := (q_1 58 (by omega)).trans h58
  have x59_1 := (q_1 59 (by omega)).trans h59
  have x60_1 := (q_1 60 (by omega)).trans h60
  have x61_1 := (q_1 61 (by omega)).trans h61
  have x62_1 := (q_1 62 (by omega)).trans h62
  have x63_1 := (q_1 63 (by omega)).trans h63
  have x64_1 := (q_1 64 (by omega)).trans h64
  have x65_1 := (q_1 65 (by omega)).trans h65
  have x66_1 := (q_1 66 (by omega)).trans h66
  have x67_1 := (q_1 67 (by omega)).trans h67
  have x68_1 := (q_1 68 (by omega)).trans h68
  have x69_1 := (q_1 69 (by omega)).trans h69
  have x70_1 := (q_1 70 (by omega)).trans h70
  have x71_1 := (q_1 71 (by omega)).trans h71
  have x72_1 := (q_1 72 (by omega)).trans h72
  have x73_1 := (q_1 73 (by omega)).trans h73
  have hM_1 := hM.put x54_1 q_1
  refine z_iload_n kd_M_ring_5 1 rfl ?_
  refine z_if_lt (tgt := 21) kd_M_ring_6 (by decide) (fun c6 => ?_) (fun c6 => ?_)
  · exact absurd c6 (nI_pos hr)
  · refine z_iload_n kd_M_ring_9 2 rfl ?_
    refine z_if_lt (tgt := 21) kd_M_ring_10 (by decide) (fun c10 => ?_) (fun c10 => ?_)
    · exact absurd c10 (nI_pos hk)
    · refine z_iload_n kd_M_ring_13 1 rfl ?_
      refine z_aload_n kd_M_ring_14 0 rfl ?_
      refine z_callV (a := 54) (As := []) kd_M_ring_15 (kg_M_158 _) hM_1.h1 kc_M (c_M_takeTrees ht0 ht1 ht3 ht2 hM_1 x62_1 x66_1) rfl rfl (Nat.le_of_ble_eq_true rfl) ⟨Nat.le_of_ble_eq_true rfl, Nat.le_of_ble_eq_true rfl⟩ ⟨Nat.le_of_ble_eq_true rfl, Nat.le_of_ble_eq_true rfl⟩ ?_
      rintro _ _ σ_2 ⟨hv, rfl, ⟨g2_2, x62_2⟩, ⟨g6_2, x66_2, hX6_2⟩, q_2⟩
      cases hv
      refine z_eq (st' := [_, _]) rfl rfl rfl rfl ?_
      have hM_2 : MN _ _ _ _ _ _ _ _ _ _ _ _ _ _ := ⟨(q_2 54 (by omega) (by omega)).trans hM_1.h1, (q_2 55 (by omega) (by omega)).trans hM_1.h2, (q_2 56 (by omega) (by omega)).trans hM_1.h3, (q_2 57 (by omega) (by omega)).trans hM_1.h4, hM_1.hn, hM_1.ha, hM_1.hft⟩
      have x58_2 := (q_2 58 (by omega) (by omega)).trans x58_1
      have x59_2 := (q_2 59 (by omega) (by omega)).trans x59_1
      have x60_2 := (q_2 60 (by omega) (by omega)).trans x60_1
      have x61_2 := (q_2 61 (by omega) (by omega)).trans x61_1
      have x63_2 := (q_2 63 (by omega) (by omega)).trans x63_1
      have x64_2 := (q_2 64 (by omega) (by omega)).trans x64_1
      have x65_2 := (q_2 65 (by omega) (by omega)).trans x65_1
      have x67_2 := (q_2 67 (by omega) (by omega)).trans x67_1
      have x68_2 := (q_2 68 (by omega) (by omega)).trans x68_1
      have x69_2 := (q_2 69 (by omega) (by omega)).trans x69_1
      have x70_2 := (q_2 70 (by omega) (by omega)).trans x70_1
      have x71_2 := (q_2 71 (by omega) (by omega)).trans x71_1
      have x72_2 := (q_2 72 (by omega) (by omega)).trans x72_1
      have x73_2 := (q_2 73 (by omega) (by omega)).trans x73_1
      refine z_icmp_lt (tgt := 23) kd_M_ring_18 (by decide) (fun c18 => ?_) (fun c18 => ?_)
      · exact absurd c18 (nI_nlt h hr)
      · refine z_iconst (v := -1) kd_M_ring_21 (by decide) ?_
        exact z_iret kd_M_ring_22 rfl (Nat.le_of_ble_eq_true rfl) (Nat.le_of_ble_eq_true rfl) ⟨rfl, rfl, ⟨⟨_, _, _, _, hM_2⟩, x58_2, x59_2, ⟨_, x60_2⟩, ⟨_, x61_2⟩, ⟨_, x62_2⟩, ⟨_, x63_2⟩, ⟨_, x64_2⟩, ⟨_, x65_2⟩, ⟨_, x66_2⟩, ⟨_, x67_2⟩, ⟨_, x68_2⟩, ⟨_, x69_2⟩, ⟨_, x70_2⟩, ⟨_, x71_2⟩, ⟨_, x72_2⟩, ⟨_, x73_2⟩⟩, (Fr.tr (Fr.tr Fr.rf (q_1.wide (by omega) (by omega))) (fun k hk => q_2 k (by omega) (by omega)))⟩
set_option maxHeartbeats 4000000 in
set_option maxRecDepth 100000 in
theorem c_M_ring2 {l : Launch} {D : va_G} {tys : List (ClassId × FieldType)} {b N : Nat} {σ : Nat → Option va_E} {cI cJ cA : ClassId} (ht0 : tys[0]? = some (cI, .int)) (ht1 : tys[1]? = some (cJ, .long)) (ht3 : tys[3]? = some (cA, .array .long)) {cZ : ClassId} (ht2 : tys[2]? = some (cZ, .boolean)) {n a : Nat} {gf gt gw : Nat → Int32} {F T : Nat → Nat} {C K : Nat → Int64} (hMS : MS b cI cJ cZ σ n a gf gt gw F T C K) {r k : Nat} (hr : r < 2 ^ 31) (hk : k < 2 ^ 31) (h : r < (ttV a F T).1) {e f : Nat} (hre : rgE (ttV a F T).2 a 0 r = some e) {val : Nat × (Nat → Int32)} (hf : f ≤ 29) (hpb : pbL F T (bfO F T (ttV a F T).2 a (n + 1) 0 (fun v => decide (v = F e)) (fun _ => none) (fun _ => F e) 1) (F e) f (T e) 1 (upd (fun _ => 0) 0 (nI e)) = some val) : zM l D kCl tys kNw b ky_M_ring (kh_M_ring :: zT) 10 360 0 0 [.ref (b + 54), .int (nI r), .int (nI k)] N σ ((fun oc N' σ' => oc = .returned (some (.int (if k < val.1 then val.2 k else -1))) ∧ N' = N ∧ MS b cI cJ cZ σ' n a gf gt gw F T C K ∧ Fr 54 73 σ σ')) := by
  refine zM.of (by decide +kernel) rfl (Nat.le_of_ble_eq_true rfl) ?_
  refine z_pick (lv' := [(0, .ref (b + 54)), (1, .int (nI r)), (2, .int (nI k))]) [0, 1, 2] rfl ?_
  obtain ⟨⟨th, fa, ls, rm, hM⟩, h58, h59, ⟨g60, h60⟩, ⟨g61, h61⟩, ⟨g62, h62⟩, ⟨g63, h63⟩, ⟨g64, h64⟩, ⟨g65, h65⟩, ⟨g66, h66⟩, ⟨g67, h67⟩, ⟨g68, h68⟩, ⟨g69, h69⟩, ⟨g70, h70⟩, ⟨g71, h71⟩, ⟨g72, h72⟩, ⟨g73, h73⟩⟩ := hMS
  have hn := hM.hn
  have ha := hM.ha
  have hle := pbL_le f (T e) 1 _ hpb
  refine z_aload_n kd_M_ring_0 0 rfl ?_
  refine z_iconst (v := 0) kd_M_ring_1 (by decide) ?_
  refine z_putE (fs' := [_, _, _, _, _, _, _, _, _, _, _, _, _, _, _, _, _, _, _, _, _, _, _, _, _]) kd_M_ring_2 (kp_M_69 _) hM.h1 (Nat.le_of_ble_eq_true rfl) rfl rfl rfl ?_
  refine z_upd (fun σ_1 x54_1 q_1 => ?_)
  have x58_1 := (q_1 58 (by omega)).trans h58
  have x59_1 := (q_1 59 (by omega)).trans h59
  have x60_1 := (q_1 60 (by omega)).trans h60
  have x61_1 := (q_1 61 (by omega)).trans h61
  have x62_1 := (q_1 62 (by omega)).trans h62
  have x63_1 := (q_1 63 (by omega)).trans h63
  have x64_1 := (q_1 64 (by omega)).trans h64
  have x65_1 := (q_1 65 (by omega)).trans h65
  have x66_1 := (q_1 66 (by omega)).trans h66
  have x67_1 := (q_1 67 (by omega)).trans h67
  have x68_1 := (q_1 68 (by omega)).trans h68
  have x69_1 := (q_1 69 (by omega)).trans h69
  have x70_1 := (q_1 70 (by omega)).trans h70
  have x71_1 := (q_1 71 (by omega)).trans h71
  have x72_1 := (q_1 72 (by omega)).trans h72
  have x73_1 := (q_1 73 (by omega)).trans h73
  have hM_1 := hM.put x54_1 q_1
  refine z_iload_n kd_M_ring_5 1 rfl ?_
  refine z_if_lt (tgt := 21) kd_M_ring_6 (by decide) (fun c6 => ?_) (fun c6 => ?_)
  · exact absurd c6 (nI_pos hr)
  · refine z_iload_n kd_M_ring_9 2 rfl ?_
    refine z_if_lt (tgt := 21) kd_M_ring_10 (by decide) (fun c10 => ?_) (fun c10 => ?_)
    · exact absurd c10 (nI_pos hk)
    · refine z_iload_n kd_M_ring_13 1 rfl ?_
      refine z_aload_n kd_M_ring_14 0 rfl ?_
      refine z_callV (a := 54) (As := []) kd_M_ring_15 (kg_M_158 _) hM_1.h1 kc_M (c_M_takeTrees ht0 ht1 ht3 ht2 hM_1 x62_1 x66_1) rfl rfl (Nat.le_of_ble_eq_true rfl) ⟨Nat.le_of_ble_eq_true rfl, Nat.le_of_ble_eq_true rfl⟩ ⟨Nat.le_of_ble_eq_true rfl, Nat.le_of_ble_eq_true rfl⟩ ?_
      rintro _ _ σ_2 ⟨hv, rfl, ⟨g2_2, x62_2⟩, ⟨g6_2, x66_2, hX6_2⟩, q_2⟩
      cases hv
      refine z_eq (st' := [_, _]) rfl rfl rfl rfl ?_
      have hM_2 : MN _ _ _ _ _ _ _ _ _ _ _ _ _ _ := ⟨(q_2 54 (by omega) (by omega)).trans hM_1.h1, (q_2 55 (by omega) (by omega)).trans hM_1.h2, (q_2 56 (by omega) (by omega)).trans hM_1.h3, (q_2 57 (by omega) (by omega)).trans hM_1.h4, hM_1.hn, hM_1.ha, hM_1.hft⟩
      have x58_2 := (q_2 58 (by omega) (by omega)).trans x58_1
      have x59_2 := (q_2 59 (by omega) (by omega)).trans x59_1
      have x60_2 := (q_2 60 (by omega) (by omega)).trans x60_1
      have x61_2 := (q_2 61 (by omega) (by omega)).trans x61_1
      have x63_2 := (q_2 63 (by omega) (by omega)).trans x63_1
      have x64_2 := (q_2 64 (by omega) (by omega)).trans x64_1
      have x65_2 := (q_2 65 (by omega) (by omega)).trans x65_1
      have x67_2 := (q_2 67 (by omega) (by omega)).trans x67_1
      have x68_2 := (q_2 68 (by omega) (by omega)).trans x68_1
      have x69_2 := (q_2 69 (by omega) (by omega)).trans x69_1
      have x70_2 := (q_2 70 (by omega) (by omega)).trans x70_1
      have x71_2 := (q_2 71 (by omega) (by omega)).trans x71_1
      have x72_2 := (q_2 72 (by omega) (by omega)).trans x72_1
      have x73_2 := (q_2 73 (by omega) (by omega)).trans x73_1
      refine z_icmp_lt (tgt := 23) kd_M_ring_18 (by decide) (fun c18 => ?_) (fun c18 => ?_)
      · refine z_aload_n kd_M_ring_23 0 rfl ?_
        refine z_iload_n kd_M_ring_24 1 rfl ?_
        refine z_callV (a := 54) (As := [_]) kd_M_ring_25 (kg_M_162 _) hM_2.h1 kc_M (c_M_ringOf ht0 ht1 ht3 ht2 hM_2 x66_2 hX6_2 x67_2 x68_2 x69_2 x70_2 (r := r) hr hre hf hpb) rfl rfl (Nat.le_of_ble_eq_true rfl) ⟨Nat.le_of_ble_eq_true rfl, Nat.le_of_ble_eq_true rfl⟩ ⟨Nat.le_of_ble_eq_true rfl, Nat.le_of_ble_eq_true rfl⟩ ?_
        rintro _ _ σ_3 ⟨hv, rfl, hM_3, ⟨g7_3, x67_3, hL_3⟩, ⟨g8_3, x68_3⟩, ⟨g9_3, x69_3⟩, ⟨g0_3, x70_3⟩, q_3⟩
        cases hv
        refine z_eq (st' := []) rfl rfl rfl rfl ?_
        have x58_3 := (q_3 58 (by omega) (by omega)).trans x58_2
        have x59_3 := (q_3 59 (by omega) (by omega)).trans x59_2
        have x60_3 := (q_3 60 (by omega) (by omega)).trans x60_2
        have x61_3 := (q_3 61 (by omega) (by omega)).trans x61_2
        have x62_3 := (q_3 62 (by omega) (by omega)).trans x62_2
        have x63_3 := (q_3 63 (by omega) (by omega)).trans x63_2
        have x64_3 := (q_3 64 (by omega) (by omega)).trans x64_2
        have x65_3 := (q_3 65 (by omega) (by omega)).trans x65_2
        have x66_3 := (q_3 66 (by omega) (by omega)).trans x66_2
        have x71_3 := (q_3 71 (by omega) (by omega)).trans x71_2
        have x72_3 := (q_3 72 (by omega) (by omega)).trans x72_2
        have x73_3 := (q_3 73 (by omega) (by omega)).trans x73_2
        refine z_iload_n kd_M_ring_28 2 rfl ?_
        refine z_aload_n kd_M_ring_29 0 rfl ?_
        refine z_get kd_M_ring_30 (kf_M_155 _) hM_3.h1 rfl ?_
        refine z_icmp_ge (tgt := 45) kd_M_ring_33 (by decide) (fun c33 => ?_) (fun c33 => ?_)
        · have hkl : ¬ k < val.1 := fun z => absurd c33 (nI_ge z (by omega))
          refine z_iconst (v := -1) kd_M_ring_45 (by decide) ?_
          exact z_iret kd_M_ring_46 rfl (Nat.le_of_ble_eq_true rfl) (Nat.le_of_ble_eq_true rfl) ⟨by rw [if_neg hkl], rfl, ⟨⟨_, _, _, _, hM_3⟩, x58_3, x59_3, ⟨_, x60_3⟩, ⟨_, x61_3⟩, ⟨_, x62_3⟩, ⟨_, x63_3⟩, ⟨_, x64_3⟩, ⟨_, x65_3⟩, ⟨_, x66_3⟩, ⟨_, x67_3⟩, ⟨_, x68_3⟩, ⟨_, x69_3⟩, ⟨_, x70_3⟩, ⟨_, x71_3⟩, ⟨_, x72_3⟩, ⟨_, x73_3⟩⟩, (Fr.tr (Fr.tr (Fr.tr Fr.rf (q_1.wide (by omega) (by omega))) (fun k hk => q_2 k (by omega) (by omega))) (fun k hk => q_3 k (by omega) (by omega)))⟩
        · have hkl : k < val.1 := Nat.lt_of_not_le (fun z => c33 (nI_le z (by omega)))
          refine z_aload_n kd_M_ring_36 0 rfl ?_
          refine z_get kd_M_ring_37 (kf_M_48 _) hM_3.h1 rfl ?_
          refine z_iload_n kd_M_ring_40 2 rfl ?_
          refine z_ialdN (t0 := 0) kd_M_ring_41 (by assumption) x67_3 (by omega) (by decide) ?_
          refine z_topi (hL_3 k hkl) ?_
          refine z_goto (tgt := 46) kd_M_ring_42 (by decide) ?_
          exact z_iret kd_M_ring_46 rfl (Nat.le_of_ble_eq_true rfl) (Nat.le_of_ble_eq_true rfl) ⟨by rw [if_pos hkl], rfl, ⟨⟨_, _, _, _, hM_3⟩, x58_3, x59_3, ⟨_, x60_3⟩, ⟨_, x61_3⟩, ⟨_, x62_3⟩, ⟨_, x63_3⟩, ⟨_, x64_3⟩, ⟨_, x65_3⟩, ⟨_, x66_3⟩, ⟨_, x67_3⟩, ⟨_, x68_3⟩, ⟨_, x69_3⟩, ⟨_, x70_3⟩, ⟨_, x71_3⟩, ⟨_, x72_3⟩, ⟨_, x73_3⟩⟩, (Fr.tr (Fr.tr (Fr.tr Fr.rf (q_1.wide (by omega) (by omega))) (fun k hk => q_2 k (by omega) (by omega))) (fun k hk => q_3 k (by omega) (by omega)))⟩
      · exact absurd (nI_lt h (by have := ttV_le (a := a) (F := F) (T := T); omega)) c18
set_option maxHeartbeats 4000000 in
set_option maxRecDepth 100000 in
theorem c_M_told0 {l : Launch} {D : va_G} {tys : List (ClassId × FieldType)} {b N : Nat} {σ : Nat → Option va_E} {cI cJ cA : ClassId} (ht0 : tys[0]? = some (cI, .int)) (ht1 : tys[1]? = some (cJ, .long)) (ht3 : tys[3]? = some (cA, .array .long)) {cZ : ClassId} (ht2 : tys[2]? = some (cZ, .boolean)) {n a : Nat} {gf gt gw : Nat → Int32} {F T : Nat → Nat} {C K : Nat → Int64} (hMS : MS b cI cJ cZ σ n a gf gt gw F T C K) : zM l D kCl tys kNw b ky_M_told (kh_M_told :: zT) 10 360 0 0 [.ref (b + 54), .int 0] N σ ((fun oc N' σ' => oc = .returned (some (.int (nI n))) ∧ N' = N ∧ MS b cI cJ cZ σ' n a gf gt gw F T C K ∧ Fr 54 73 σ σ')) := by
  refine zM.of (by decide +kernel) rfl (Nat.le_of_ble_eq_true rfl) ?_
  refine z_pick (lv' := [(0, .ref (b + 54)), (1, .int 0)]) [0, 1] rfl ?_
  obtain ⟨⟨th, fa, ls, rm, hM⟩, h58, h59, ⟨g60, h60⟩, ⟨g61, h61⟩, ⟨g62, h62⟩, ⟨g63, h63⟩, ⟨g64, h64⟩, ⟨g65, h65⟩, ⟨g66, h66⟩, ⟨g67, h67⟩, ⟨g68, h68⟩, ⟨g69, h69⟩, ⟨g70, h70⟩, ⟨g71, h71⟩, ⟨g72, h72⟩, ⟨g73, h73⟩⟩ := hMS
  have hn := hM.hn
  have ha := hM.ha
  refine z_aload_n kd_M_told_0 0 rfl ?_
  refine z_iconst (v := 0) kd_M_told_1 (by decide) ?_
  refine z_putE (fs' := [_, _, _, _, _, _, _, _, _, _, _, _, _, _, _, _, _, _, _, _, _, _, _, _, _]) kd_M_told_2 (kp_M_69 _) hM.h1 (Nat.le_of_ble_eq_true rfl) rfl rfl rfl ?_
  refine z_upd (fun σ_1 x54_1 q_1 => ?_)
  have x58_1 := (q_1 58 (by omega)).trans h58
  have x59_1 := (q_1 59 (by omega)).trans h59
  have x60_1 := (q_1 60 (by omega)).trans h60
  have x61_1 := (q_1 61 (by omega)).trans h61
  have x62_1 := (q_1 62 (by omega)).trans h62
  have x63_1 := (q_1 63 (by omega)).trans h63
  have x64_1 := (q_1 64 (by omega)).trans h64
  have x65_1 := (q_1 65 (by omega)).trans h65
  have x66_1 := (q_1 66 (by omega)).trans h66
  have x67_1 := (q_1 67 (by omega)).trans h67
  have x68_1 := (q_1 68 (by omega)).trans h68
  have x69_1 := (q_1 69 (by omega)).trans h69
  have x70_1 := (q_1 70 (by omega)).trans h70
  have x71_1 := (q_1 71 (by omega)).trans h71
  have x72_1 := (q_1 72 (by omega)).trans h72
  have x73_1 := (q_1 73 (by omega)).trans h73
  have hM_1 := hM.put x54_1 q_1
  refine z_iload_n kd_M_told_5 1 rfl ?_
  refine z_tableIn (off := 34) (tgt := 40) kd_M_told_6 (by decide) (by decide) (by decide +kernel) (by decide) ?_
  refine z_aload_n kd_M_told_40 0 rfl ?_
  refine z_get kd_M_told_41 (kf_M_73 _) hM_1.h1 rfl ?_
  exact z_iret kd_M_told_44 rfl (Nat.le_of_ble_eq_true rfl) (Nat.le_of_ble_eq_true rfl) ⟨rfl, rfl, ⟨⟨_, _, _, _, hM_1⟩, x58_1, x59_1, ⟨_, x60_1⟩, ⟨_, x61_1⟩, ⟨_, x62_1⟩, ⟨_, x63_1⟩, ⟨_, x64_1⟩, ⟨_, x65_1⟩, ⟨_, x66_1⟩, ⟨_, x67_1⟩, ⟨_, x68_1⟩, ⟨_, x69_1⟩, ⟨_, x70_1⟩, ⟨_, x71_1⟩, ⟨_, x72_1⟩, ⟨_, x73_1⟩⟩, (Fr.tr Fr.rf (q_1.wide (by omega) (by omega)))⟩
set_option maxHeartbeats 4000000 in
set_option maxRecDepth 100000 in
theorem c_M_told1 {l : Launch} {D : va_G} {tys : List (ClassId × FieldType)} {b N : Nat} {σ : Nat → Option va_E} {cI cJ cA : ClassId} (ht0 : tys[0]? = some (cI, .int)) (ht1 : tys[1]? = some (cJ, .long)) (ht3 : tys[3]? = some (cA, .array .long)) {cZ : ClassId} (ht2 : tys[2]? = some (cZ, .boolean)) {n a : Nat} {gf gt gw : Nat → Int32} {F T : Nat → Nat} {C K : Nat → Int64} (hMS : MS b cI cJ cZ σ n a gf gt gw F T C K) : zM l D kCl tys kNw b ky_M_told (kh_M_told :: zT) 10 360 0 0 [.ref (b + 54), .int 1] N σ ((fun oc N' σ' => oc = .returned (some (.int (nI a))) ∧ N' = N ∧ MS b cI cJ cZ σ' n a gf gt gw F T C K ∧ Fr 54 73 σ σ')) := by
  refine zM.of (by decide +kernel) rfl (Nat.le_of_ble_eq_true rfl) ?_
  refine z_pick (lv' := [(0, .ref (b + 54)), (1, .int 1)]) [0, 1] rfl ?_
  obtain ⟨⟨th, fa, ls, rm, hM⟩, h58, h59, ⟨g60, h60⟩, ⟨g61, h61⟩, ⟨g62, h62⟩, ⟨g63, h63⟩, ⟨g64, h64⟩, ⟨g65, h65⟩, ⟨g66, h66⟩, ⟨g67, h67⟩, ⟨g68, h68⟩, ⟨g69, h69⟩, ⟨g70, h70⟩, ⟨g71, h71⟩, ⟨g72, h72⟩, ⟨g73, h73⟩⟩ := hMS
  have hn := hM.hn
  have ha := hM.ha
  refine z_aload_n kd_M_told_0 0 rfl ?_
  refine z_iconst (v := 0) kd_M_told_1 (by decide) ?_
  refine z_putE (fs' := [_, _, _, _, _, _, _, _, _, _, _, _, _, _, _, _, _, _, _, _, _, _, _, _, _]) kd_M_told_2 (kp_M_69 _) hM.h1 (Nat.le_of_ble_eq_true rfl) rfl rfl rfl ?_
  refine z_upd (fun σ_1 x54_1 q_1 => ?_)
  have x58_1 := (q_1 58 (by omega)).trans h58
  have x59_1 := (q_1 59 (by omega)).trans h59
  have x60_1 := (q_1 60 (by omega)).trans h60
  have x61_1 := (q_1 61 (by omega)).trans h61
  have x62_1 := (q_1 62 (by omega)).trans h62
  have x63_1 := (q_1 63 (by omega)).trans h63
  have x64_1 := (q_1 64 (by omega)).trans h64
  have x65_1 := (q_1 65 (by omega)).trans h65
  have x66_1 := (q_1 66 (by omega)).trans h66
  have x67_1 := (q_1 67 (by omega)).trans h67
  have x68_1 := (q_1 68 (by omega)).trans h68
  have x69_1 := (q_1 69 (by omega)).trans h69
  have x70_1 := (q_1 70 (by omega)).trans h70
  have x71_1 := (q_1 71 (by omega)).trans h71
  have x72_1 := (q_1 72 (by omega)).trans h72
  have x73_1 := (q_1 73 (by omega)).trans h73
  have hM_1 := hM.put x54_1 q_1
  refine z_iload_n kd_M_told_5 1 rfl ?_
  refine z_tableIn (off := 39) (tgt := 45) kd_M_told_6 (by decide) (by decide) (by decide +kernel) (by decide) ?_
  refine z_aload_n kd_M_told_45 0 rfl ?_
  refine z_get kd_M_told_46 (kf_M_80 _) hM_1.h1 rfl ?_
  exact z_iret kd_M_told_49 rfl (Nat.le_of_ble_eq_true rfl) (Nat.le_of_ble_eq_true rfl) ⟨rfl, rfl, ⟨⟨_, _, _, _, hM_1⟩, x58_1, x59_1, ⟨_, x60_1⟩, ⟨_, x61_1⟩, ⟨_, x62_1⟩, ⟨_, x63_1⟩, ⟨_, x64_1⟩, ⟨_, x65_1⟩, ⟨_, x66_1⟩, ⟨_, x67_1⟩, ⟨_, x68_1⟩, ⟨_, x69_1⟩, ⟨_, x70_1⟩, ⟨_, x71_1⟩, ⟨_, x72_1⟩, ⟨_, x73_1⟩⟩, (Fr.tr Fr.rf (q_1.wide (by omega) (by omega)))⟩
set_option maxHeartbeats 4000000 in
set_option maxRecDepth 100000 in
theorem c_M_told2 {l : Launch} {D : va_G} {tys : List (ClassId × FieldType)} {b N : Nat} {σ : Nat → Option va_E} {cI cJ cA : ClassId} (ht0 : tys[0]? = some (cI, .int)) (ht1 : tys[1]? = some (cJ, .long)) (ht3 : tys[3]? = some (cA, .array .long)) {cZ : ClassId} (ht2 : tys[2]? = some (cZ, .boolean)) {n a : Nat} {gf gt gw : Nat → Int32} {F T : Nat → Nat} {C K : Nat → Int64} (hMS : MS b cI cJ cZ σ n a gf gt gw F T C K) : zM l D kCl tys kNw b ky_M_told (kh_M_told :: zT) 10 360 0 0 [.ref (b + 54), .int 2] N σ ((fun oc N' σ' => oc = .returned (some (.int (nI n - (nI a - nI (ttV a F T).1)))) ∧ N' = N ∧ MS b cI cJ cZ σ' n a gf gt gw F T C K ∧ Fr 54 73 σ σ')) := by
  refine zM.of (by decide +kernel) rfl (Nat.le_of_ble_eq_true rfl) ?_
  refine z_pick (lv' := [(0, .ref (b + 54)), (1, .int 2)]) [0, 1] rfl ?_
  obtain ⟨⟨th, fa, ls, rm, hM⟩, h58, h59, ⟨g60, h60⟩, ⟨g61, h61⟩, ⟨g62, h62⟩, ⟨g63, h63⟩, ⟨g64, h64⟩, ⟨g65, h65⟩, ⟨g66, h66⟩, ⟨g67, h67⟩, ⟨g68, h68⟩, ⟨g69, h69⟩, ⟨g70, h70⟩, ⟨g71, h71⟩, ⟨g72, h72⟩, ⟨g73, h73⟩⟩ := hMS
  have hn := hM.hn
  have ha := hM.ha
  refine z_aload_n kd_M_told_0 0 rfl ?_
  refine z_iconst (v := 0) kd_M_told_1 (by decide) ?_
  refine z_putE (fs' := [_, _, _, _, _, _, _, _, _, _, _, _, _, _, _, _, _, _, _, _, _, _, _, _, _]) kd_M_told_2 (kp_M_69 _) hM.h1 (Nat.le_of_ble_eq_true rfl) rfl rfl rfl ?_
  refine z_upd (fun σ_1 x54_1 q_1 => ?_)
  have x58_1 := (q_1 58 (by omega)).trans h58
  have x59_1 := (q_1 59 (by omega)).trans h59
  have x60_1 := (q_1 60 (by omega)).trans h60
  have x61_1 := (q_1 61 (by omega)).trans h61
  have x62_1 := (q_1 62 (by omega)).trans h62
  have x63_1 := (q_1 63 (by omega)).trans h63
  have x64_1 := (q_1 64 (by omega)).trans h64
  have x65_1 := (q_1 65 (by omega)).trans h65
  have x66_1 := (q_1 66 (by omega)).trans h66
  have x67_1 := (q_1 67 (by omega)).trans h67
  have x68_1 := (q_1 68 (by omega)).trans h68
  have x69_1 := (q_1 69 (by omega)).trans h69
  have x70_1 := (q_1 70 (by omega)).trans h70
  have x71_1 := (q_1 71 (by omega)).trans h71
  have x72_1 := (q_1 72 (by omega)).trans h72
  have x73_1 := (q_1 73 (by omega)).trans h73
  have hM_1 := hM.put x54_1 q_1
  refine z_iload_n kd_M_told_5 1 rfl ?_
  refine z_tableIn (off := 44) (tgt := 50) kd_M_told_6 (by decide) (by decide) (by decide +kernel) (by decide) ?_
  refine z_aload_n kd_M_told_50 0 rfl ?_
  refine z_get kd_M_told_51 (kf_M_73 _) hM_1.h1 rfl ?_
  refine z_aload_n kd_M_told_54 0 rfl ?_
  refine z_get kd_M_told_55 (kf_M_80 _) hM_1.h1 rfl ?_
  refine z_aload_n kd_M_told_58 0 rfl ?_
  refine z_callV (a := 54) (As := []) kd_M_told_59 (kg_M_158 _) hM_1.h1 kc_M (c_M_takeTrees ht0 ht1 ht3 ht2 hM_1 x62_1 x66_1) rfl rfl (Nat.le_of_ble_eq_true rfl) ⟨Nat.le_of_ble_eq_true rfl, Nat.le_of_ble_eq_true rfl⟩ ⟨Nat.le_of_ble_eq_true rfl, Nat.le_of_ble_eq_true rfl⟩ ?_
  rintro _ _ σ_2 ⟨hv, rfl, ⟨g2_2, x62_2⟩, ⟨g6_2, x66_2, hX6_2⟩, q_2⟩
  cases hv
  refine z_eq (st' := [_, _, _]) rfl rfl rfl rfl ?_
  have hM_2 : MN _ _ _ _ _ _ _ _ _ _ _ _ _ _ := ⟨(q_2 54 (by omega) (by omega)).trans hM_1.h1, (q_2 55 (by omega) (by omega)).trans hM_1.h2, (q_2 56 (by omega) (by omega)).trans hM_1.h3, (q_2 57 (by omega) (by omega)).trans hM_1.h4, hM_1.hn, hM_1.ha, hM_1.hft⟩
  have x58_2 := (q_2 58 (by omega) (by omega)).trans x58_1
  have x59_2 := (q_2 59 (by omega) (by omega)).trans x59_1
  have x60_2 := (q_2 60 (by omega) (by omega)).trans x60_1
  have x61_2 := (q_2 61 (by omega) (by omega)).trans x61_1
  have x63_2 := (q_2 63 (by omega) (by omega)).trans x63_1
  have x64_2 := (q_2 64 (by omega) (by omega)).trans x64_1
  have x65_2 := (q_2 65 (by omega) (by omega)).trans x65_1
  have x67_2 := (q_2 67 (by omega) (by omega)).trans x67_1
  have x68_2 := (q_2 68 (by omega) (by omega)).trans x68_1
  have x69_2 := (q_2 69 (by omega) (by omega)).trans x69_1
  have x70_2 := (q_2 70 (by omega) (by omega)).trans x70_1
  have x71_2 := (q_2 71 (by omega) (by omega)).trans x71_1
  have x72_2 := (q_2 72 (by omega) (by omega)).trans x72_1
  have x73_2 := (q_2 73 (by omega) (by omega)).trans x73_1
  refine z_isub kd_M_told_62 ?_
  refine z_isub kd_M_told_63 ?_
  exact z_iret kd_M_told_64 rfl (Nat.le_of_ble_eq_true rfl) (Nat.le_of_ble_eq_true rfl) ⟨rfl, rfl, ⟨⟨_, _, _, _, hM_2⟩, x58_2, x59_2, ⟨_, x60_2⟩, ⟨_, x61_2⟩, ⟨_, x62_2⟩, ⟨_, x63_2⟩, ⟨_, x64_2⟩, ⟨_, x65_2⟩, ⟨_, x66_2⟩, ⟨_, x67_2⟩, ⟨_, x68_2⟩, ⟨_, x69_2⟩, ⟨_, x70_2⟩, ⟨_, x71_2⟩, ⟨_, x72_2⟩, ⟨_, x73_2⟩⟩, (Fr.tr (Fr.tr Fr.rf (q_1.wide (by omega) (by omega))) (fun k hk => q_2 k (by omega) (by omega)))⟩
set_option maxHeartbeats 4000000 in
set_option maxRecDepth 100000 in
theorem c_M_told3 {l : Launch} {D : va_G} {tys : List (ClassId × FieldType)} {b N : Nat} {σ : Nat → Option va_E} {cI cJ cA : ClassId} (ht0 : tys[0]? = some (cI, .int)) (ht1 : tys[1]? = some (cJ, .long)) (ht3 : tys[3]? = some (cA, .array .long)) {cZ : ClassId} (ht2 : tys[2]? = some (cZ, .boolean)) {n a : Nat} {gf gt gw : Nat → Int32} {F T : Nat → Nat} {C K : Nat → Int64} (hMS : MS b cI cJ cZ σ n a gf gt gw F T C K) : zM l D kCl tys kNw b ky_M_told (kh_M_told :: zT) 10 360 0 0 [.ref (b + 54), .int 3] N σ ((fun oc N' σ' => oc = .returned (some (.int (nI (ttV a F T).1))) ∧ N' = N ∧ MS b cI cJ cZ σ' n a gf gt gw F T C K ∧ Fr 54 73 σ σ')) := by
  refine zM.of (by decide +kernel) rfl (Nat.le_of_ble_eq_true rfl) ?_
  refine z_pick (lv' := [(0, .ref (b + 54)), (1, .int 3)]) [0, 1] rfl ?_
  obtain ⟨⟨th, fa, ls, rm, hM⟩, h58, h59, ⟨g60, h60⟩, ⟨g61, h61⟩, ⟨g62, h62⟩, ⟨g63, h63⟩, ⟨g64, h64⟩, ⟨g65, h65⟩, ⟨g66, h66⟩, ⟨g67, h67⟩, ⟨g68, h68⟩, ⟨g69, h69⟩, ⟨g70, h70⟩, ⟨g71, h71⟩, ⟨g72, h72⟩, ⟨g73, h73⟩⟩ := hMS
  have hn := hM.hn
  have ha := hM.ha
  refine z_aload_n kd_M_told_0 0 rfl ?_
  refine z_iconst (v := 0) kd_M_told_1 (by decide) ?_
  refine z_putE (fs' := [_, _, _, _, _, _, _, _, _, _, _, _, _, _, _, _, _, _, _, _, _, _, _, _, _]) kd_M_told_2 (kp_M_69 _) hM.h1 (Nat.le_of_ble_eq_true rfl) rfl rfl rfl ?_
  refine z_upd (fun σ_1 x54_1 q_1 => ?_)
  have x58_1 := (q_1 58 (by omega)).trans h58
  have x59_1 := (q_1 59 (by omega)).trans h59
  have x60_1 := (q_1 60 (by omega)).trans h60
  have x61_1 := (q_1 61 (by omega)).trans h61
  have x62_1 := (q_1 62 (by omega)).trans h62
  have x63_1 := (q_1 63 (by omega)).trans h63
  have x64_1 := (q_1 64 (by omega)).trans h64
  have x65_1 := (q_1 65 (by omega)).trans h65
  have x66_1 := (q_1 66 (by omega)).trans h66
  have x67_1 := (q_1 67 (by omega)).trans h67
  have x68_1 := (q_1 68 (by omega)).trans h68
  have x69_1 := (q_1 69 (by omega)).trans h69
  have x70_1 := (q_1 70 (by omega)).trans h70
  have x71_1 := (q_1 71 (by omega)).trans h71
  have x72_1 := (q_1 72 (by omega)).trans h72
  have x73_1 := (q_1 73 (by omega)).trans h73
  have hM_1 := hM.put x54_1 q_1
  refine z_iload_n kd_M_told_5 1 rfl ?_
  refine z_tableIn (off := 59) (tgt := 65) kd_M_told_6 (by decide) (by decide) (by decide +kernel) (by decide) ?_
  refine z_aload_n kd_M_told_65 0 rfl ?_
  refine z_callV (a := 54) (As := []) kd_M_told_66 (kg_M_158 _) hM_1.h1 kc_M (c_M_takeTrees ht0 ht1 ht3 ht2 hM_1 x62_1 x66_1) rfl rfl (Nat.le_of_ble_eq_true rfl) ⟨Nat.le_of_ble_eq_true rfl, Nat.le_of_ble_eq_true rfl⟩ ⟨Nat.le_of_ble_eq_true rfl, Nat.le_of_ble_eq_true rfl⟩ ?_
  rintro _ _ σ_2 ⟨hv, rfl, ⟨g2_2, x62_2⟩, ⟨g6_2, x66_2, hX6_2⟩, q_2⟩
  cases hv
  refine z_eq (st' := [_]) rfl rfl rfl rfl ?_
  have hM_2 : MN _ _ _ _ _ _ _ _ _ _ _ _ _ _ := ⟨(q_2 54 (by omega) (by omega)).trans hM_1.h1, (q_2 55 (by omega) (by omega)).trans hM_1.h2, (q_2 56 (by omega) (by omega)).trans hM_1.h3, (q_2 57 (by omega) (by omega)).trans hM_1.h4, hM_1.hn, hM_1.ha, hM_1.hft⟩
  have x58_2 := (q_2 58 (by omega) (by omega)).trans x58_1
  have x59_2 := (q_2 59 (by omega) (by omega)).trans x59_1
  have x60_2 := (q_2 60 (by omega) (by omega)).trans x60_1
  have x61_2 := (q_2 61 (by omega) (by omega)).trans x61_1
  have x63_2 := (q_2 63 (by omega) (by omega)).trans x63_1
  have x64_2 := (q_2 64 (by omega) (by omega)).trans x64_1
  have x65_2 := (q_2 65 (by omega) (by omega)).trans x65_1
  have x67_2 := (q_2 67 (by omega) (by omega)).trans x67_1
  have x68_2 := (q_2 68 (by omega) (by omega)).trans x68_1
  have x69_2 := (q_2 69 (by omega) (by omega)).trans x69_1
  have x70_2 := (q_2 70 (by omega) (by omega)).trans x70_1
  have x71_2 := (q_2 71 (by omega) (by omega)).trans x71_1
  have x72_2 := (q_2 72 (by omega) (by omega)).trans x72_1
  have x73_2 := (q_2 73 (by omega) (by omega)).trans x73_1
  exact z_iret kd_M_told_69 rfl (Nat.le_of_ble_eq_true rfl) (Nat.le_of_ble_eq_true rfl) ⟨rfl, rfl, ⟨⟨_, _, _, _, hM_2⟩, x58_2, x59_2, ⟨_, x60_2⟩, ⟨_, x61_2⟩, ⟨_, x62_2⟩, ⟨_, x63_2⟩, ⟨_, x64_2⟩, ⟨_, x65_2⟩, ⟨_, x66_2⟩, ⟨_, x67_2⟩, ⟨_, x68_2⟩, ⟨_, x69_2⟩, ⟨_, x70_2⟩, ⟨_, x71_2⟩, ⟨_, x72_2⟩, ⟨_, x73_2⟩⟩, (Fr.tr (Fr.tr Fr.rf (q_1.wide (by omega) (by omega))) (fun k hk => q_2 k (by omega) (by omega)))⟩
set_option maxHeartbeats 4000000 in
set_option maxRecDepth 100000 in
theorem c_M_told4 {l : Launch} {D : va_G} {tys : List (ClassId × FieldType)} {b N : Nat} {σ : Nat → Option va_E} {cI cJ cA : ClassId} (ht0 : tys[0]? = some (cI, .int)) (ht1 : tys[1]? = some (cJ, .long)) (ht3 : tys[3]? = some (cA, .array .long)) {cZ : ClassId} (ht2 : tys[2]? = some (cZ, .boolean)) {n a : Nat} {gf gt gw : Nat → Int32} {F T : Nat → Nat} {C K : Nat → Int64} (hMS : MS b cI cJ cZ σ n a gf gt gw F T C K) (h : (ttV a F T).1 = 0) : zM l D kCl tys kNw b ky_M_told (kh_M_told :: zT) 10 360 0 0 [.ref (b + 54), .int 4] N σ ((fun oc N' σ' => oc = .returned (some (.int (0))) ∧ N' = N ∧ MS b cI cJ cZ σ' n a gf gt gw F T C K ∧ Fr 54 73 σ σ')) := by
  refine zM.of (by decide +kernel) rfl (Nat.le_of_ble_eq_true rfl) ?_
  refine z_pick (lv' := [(0, .ref (b + 54)), (1, .int 4)]) [0, 1] rfl ?_
  obtain ⟨⟨th, fa, ls, rm, hM⟩, h58, h59, ⟨g60, h60⟩, ⟨g61, h61⟩, ⟨g62, h62⟩, ⟨g63, h63⟩, ⟨g64, h64⟩, ⟨g65, h65⟩, ⟨g66, h66⟩, ⟨g67, h67⟩, ⟨g68, h68⟩, ⟨g69, h69⟩, ⟨g70, h70⟩, ⟨g71, h71⟩, ⟨g72, h72⟩, ⟨g73, h73⟩⟩ := hMS
  have hn := hM.hn
  have ha := hM.ha
  refine z_aload_n kd_M_told_0 0 rfl ?_
  refine z_iconst (v := 0) kd_M_told_1 (by decide) ?_
  refine z_putE (fs' := [_, _, _, _, _, _, _, _, _, _, _, _, _, _, _, _, _, _, _, _, _, _, _, _, _]) kd_M_told_2 (kp_M_69 _) hM.h1 (Nat.le_of_ble_eq_true rfl) rfl rfl rfl ?_
  refine z_upd (fun σ_1 x54_1 q_1 => ?_)
  have x58_1 := (q_1 58 (by omega)).trans h58
  have x59_1 := (q_1 59 (by omega)).trans h59
  have x60_1 := (q_1 60 (by omega)).trans h60
  have x61_1 := (q_1 61 (by omega)).trans h61
  have x62_1 := (q_1 62 (by omega)).trans h62
  have x63_1 := (q_1 63 (by omega)).trans h63
  have x64_1 := (q_1 64 (by omega)).trans h64
  have x65_1 := (q_1 65 (by omega)).trans h65
  have x66_1 := (q_1 66 (by omega)).trans h66
  have x67_1 := (q_1 67 (by omega)).trans h67
  have x68_1 := (q_1 68 (by omega)).trans h68
  have x69_1 := (q_1 69 (by omega)).trans h69
  have x70_1 := (q_1 70 (by omega)).trans h70
  have x71_1 := (q_1 71 (by omega)).trans h71
  have x72_1 := (q_1 72 (by omega)).trans h72
  have x73_1 := (q_1 73 (by omega)).trans h73
  have hM_1 := hM.put x54_1 q_1
  refine z_iload_n kd_M_told_5 1 rfl ?_
  refine z_tableIn (off := 64) (tgt := 70) kd_M_told_6 (by decide) (by decide) (by decide +kernel) (by decide) ?_
  refine z_aload_n kd_M_told_70 0 rfl ?_
  refine z_callV (a := 54) (As := []) kd_M_told_71 (kg_M_158 _) hM_1.h1 kc_M (c_M_takeTrees ht0 ht1 ht3 ht2 hM_1 x62_1 x66_1) rfl rfl (Nat.le_of_ble_eq_true rfl) ⟨Nat.le_of_ble_eq_true rfl, Nat.le_of_ble_eq_true rfl⟩ ⟨Nat.le_of_ble_eq_true rfl, Nat.le_of_ble_eq_true rfl⟩ ?_
  rintro _ _ σ_2 ⟨hv, rfl, ⟨g2_2, x62_2⟩, ⟨g6_2, x66_2, hX6_2⟩, q_2⟩
  cases hv
  refine z_eq (st' := [_]) rfl rfl rfl rfl ?_
  have hM_2 : MN _ _ _ _ _ _ _ _ _ _ _ _ _ _ := ⟨(q_2 54 (by omega) (by omega)).trans hM_1.h1, (q_2 55 (by omega) (by omega)).trans hM_1.h2, (q_2 56 (by omega) (by omega)).trans hM_1.h3, (q_2 57 (by omega) (by omega)).trans hM_1.h4, hM_1.hn, hM_1.ha, hM_1.hft⟩
  have x58_2 := (q_2 58 (by omega) (by omega)).trans x58_1
  have x59_2 := (q_2 59 (by omega) (by omega)).trans x59_1
  have x60_2 := (q_2 60 (by omega) (by omega)).trans x60_1
  have x61_2 := (q_2 61 (by omega) (by omega)).trans x61_1
  have x63_2 := (q_2 63 (by omega) (by omega)).trans x63_1
  have x64_2 := (q_2 64 (by omega) (by omega)).trans x64_1
  have x65_2 := (q_2 65 (by omega) (by omega)).trans x65_1
  have x67_2 := (q_2 67 (by omega) (by omega)).trans x67_1
  have x68_2 := (q_2 68 (by omega) (by omega)).trans x68_1
  have x69_2 := (q_2 69 (by omega) (by omega)).trans x69_1
  have x70_2 := (q_2 70 (by omega) (by omega)).trans x70_1
  have x71_2 := (q_2 71 (by omega) (by omega)).trans x71_1
  have x72_2 := (q_2 72 (by omega) (by omega)).trans x72_1
  have x73_2 := (q_2 73 (by omega) (by omega)).trans x73_1
  refine z_if_ne (tgt := 79) kd_M_told_74 (by decide) (fun c74 => ?_) (fun c74 => ?_)
  · exact absurd (by rw [h]; rfl) c74
  · refine z_iconst (v := 0) kd_M_told_77 (by decide) ?_
    exact z_iret kd_M_told_78 rfl (Nat.le_of_ble_eq_true rfl) (Nat.le_of_ble_eq_true rfl) ⟨rfl, rfl, ⟨⟨_, _, _, _, hM_2⟩, x58_2, x59_2, ⟨_, x60_2⟩, ⟨_, x61_2⟩, ⟨_, x62_2⟩, ⟨_, x63_2⟩, ⟨_, x64_2⟩, ⟨_, x65_2⟩, ⟨_, x66_2⟩, ⟨_, x67_2⟩, ⟨_, x68_2⟩, ⟨_, x69_2⟩, ⟨_, x70_2⟩, ⟨_, x71_2⟩, ⟨_, x72_2⟩, ⟨_, x73_2⟩⟩, (Fr.tr (Fr.tr Fr.rf (q_1.wide (by omega) (by omega))) (fun k hk => q_2 k (by omega) (by omega)))⟩
set_option maxHeartbeats 4000000 in
set_option maxRecDepth 100000 in
theorem c_M_told4b {l : Launch} {D : va_G} {tys : List (ClassId × FieldType)} {b N : Nat} {σ : Nat → Option va_E} {cI cJ cA : ClassId} (ht0 : tys[0]? = some (cI, .int)) (ht1 : tys[1]? = some (cJ, .long)) (ht3 : tys[3]? = some (cA, .array .long)) {cZ : ClassId} (ht2 : tys[2]? = some (cZ, .boolean)) {n a : Nat} {gf gt gw : Nat → Int32} {F T : Nat → Nat} {C K : Nat → Int64} (hMS : MS b cI cJ cZ σ n a gf gt gw F T C K) (h : 0 < (ttV a F T).1) {e f : Nat} (hre : rgE (ttV a F T).2 a 0 0 = some e) {val : Nat × (Nat → Int32)} (hf : f ≤ 29) (hpb : pbL F T (bfO F T (ttV a F T).2 a (n + 1) 0 (fun v => decide (v = F e)) (fun _ => none) (fun _ => F e) 1) (F e) f (T e) 1 (upd (fun _ => 0) 0 (nI e)) = some val) : zM l D kCl tys kNw b ky_M_told (kh_M_told :: zT) 10 360 0 0 [.ref (b + 54), .int 4] N σ ((fun oc N' σ' => oc = .returned (some (.int (nI val.1))) ∧ N' = N ∧ MS b cI cJ cZ σ' n a gf gt gw F T C K ∧ Fr 54 73 σ σ')) := by
  refine zM.of (by decide +kernel) rfl (Nat.le_of_ble_eq_true rfl) ?_
  refine z_pick (lv' := [(0, .ref (b + 54)), (1, .int 4)]) [0, 1] rfl ?_
  obtain ⟨⟨th, fa, ls, rm, hM⟩, h58, h59, ⟨g60, h60⟩, ⟨g61, h61⟩, ⟨g62, h62⟩, ⟨g63, h63⟩, ⟨g64, h64⟩, ⟨g65, h65⟩, ⟨g66, h66⟩, ⟨g67, h67⟩, ⟨g68, h68⟩, ⟨g69, h69⟩, ⟨g70, h70⟩, ⟨g71, h71⟩, ⟨g72, h72⟩, ⟨g73, h73⟩⟩ := hMS
  have hn := hM.hn
  have ha := hM.ha
  refine z_aload_n kd_M_told_0 0 rfl ?_
  refine z_iconst (v := 0) kd_M_told_1 (by decide) ?_
  refine z_putE (fs' := [_, _, _, _, _, _, _, _, _, _, _, _, _, _, _, _, _, _, _, _, _, _, _, _, _]) kd_M_told_2 (kp_M_69 _) hM.h1 (Nat.le_of_ble_eq_true rfl) rfl rfl rfl ?_
  refine z_upd (fun σ_1 x54_1 q_1 => ?_)
  have x58_1 := (q_1 58 (by omega)).trans h58
  have x59_1 := (q_1 59 (by omega)).trans h59
  have x60_1 := (q_1 60 (by omega)).trans h60
  have x61_1 := (q_1 61 (by omega)).trans h61
  have x62_1 := (q_1 62 (by omega)).trans h62
  have x63_1 := (q_1 63 (by omega)).trans h63
  have x64_1 := (q_1 64 (by omega)).trans h64
  have x65_1 := (q_1 65 (by omega)).trans h65
  have x66_1 := (q_1 66 (by omega)).trans h66
  have x67_1 := (q_1 67 (by omega)).trans h67
  have x68_1 := (q_1 68 (by omega)).trans h68
  have x69_1 := (q_1 69 (by omega)).trans h69
  have x70_1 := (q_1 70 (by omega)).trans h70
  have x71_1 := (q_1 71 (by omega)).trans h71
  have x72_1 := (q_1 72 (by omega)).trans h72
  have x73_1 := (q_1 73 (by omega)).trans h73
  have hM_1 := hM.put x54_1 q_1
  refine z_iload_n kd_M_told_5 1 rfl ?_
  refine z_tableIn (off := 64) (tgt := 70) kd_M_told_6 (by decide) (by decide) (by decide +kernel) (by decide) ?_
  refine z_aload_n kd_M_told_70 0 rfl ?_
  refine z_callV (a := 54) (As := []) kd_M_told_71 (kg_M_158 _) hM_1.h1 kc_M (c_M_takeTrees ht0 ht1 ht3 ht2 hM_1 x62_1 x66_1) rfl rfl (Nat.le_of_ble_eq_true rfl) ⟨Nat.le_of_ble_eq_true rfl, Nat.le_of_ble_eq_true rfl⟩ ⟨Nat.le_of_ble_eq_true rfl, Nat.le_of_ble_eq_true rfl⟩ ?_
  rintro _ _ σ_2 ⟨hv, rfl, ⟨g2_2, x62_2⟩, ⟨g6_2, x66_2, hX6_2⟩, q_2⟩
  cases hv
  refine z_eq (st' := [_]) rfl rfl rfl rfl ?_
  have hM_2 : MN _ _ _ _ _ _ _ _ _ _ _ _ _ _ := ⟨(q_2 54 (by omega) (by omega)).trans hM_1.h1, (q_2 55 (by omega) (by omega)).trans hM_1.h2, (q_2 56 (by omega) (by omega)).trans hM_1.h3, (q_2 57 (by omega) (by omega)).trans hM_1.h4, hM_1.hn, hM_1.ha, hM_1.hft⟩
  have x58_2 := (q_2 58 (by omega) (by omega)).trans x58_1
  have x59_2 := (q_2 59 (by omega) (by omega)).trans x59_1
  have x60_2 := (q_2 60 (by omega) (by omega)).trans x60_1
  have x61_2 := (q_2 61 (by omega) (by omega)).trans x61_1
  have x63_2 := (q_2 63 (by omega) (by omega)).trans x63_1
  have x64_2 := (q_2 64 (by omega) (by omega)).trans x64_1
  have x65_2 := (q_2 65 (by omega) (by omega)).trans x65_1
  have x67_2 := (q_2 67 (by omega) (by omega)).trans x67_1
  have x68_2 := (q_2 68 (by omega) (by omega)).trans x68_1
  have x69_2 := (q_2 69 (by omega) (by omega)).trans x69_1
  have x70_2 := (q_2 70 (by omega) (by omega)).trans x70_1
  have x71_2 := (q_2 71 (by omega) (by omega)).trans x71_1
  have x72_2 := (q_2 72 (by omega) (by omega)).trans x72_1
  have x73_2 := (q_2 73 (by omega) (by omega)).trans x73_1
  refine z_if_ne (tgt := 79) kd_M_told_74 (by decide) (fun c74 => ?_) (fun c74 => ?_)
  · refine z_aload_n kd_M_told_79 0 rfl ?_
    refine z_iconst (v := nI 0) kd_M_told_80 (by decide) ?_
    refine z_callV (a := 54) (As := [_]) kd_M_told_81 (kg_M_162 _) hM_2.h1 kc_M (c_M_ringOf ht0 ht1 ht3 ht2 hM_2 x66_2 hX6_2 x67_2 x68_2 x69_2 x70_2 (r := 0) (by decide) hre hf hpb) rfl rfl (Nat.le_of_ble_eq_true rfl) ⟨Nat.le_of_ble_eq_true rfl, Nat.le_of_ble_eq_true rfl⟩ ⟨Nat.le_of_ble_eq_true rfl, Nat.le_of_ble_eq_true rfl⟩ ?_
    rintro _ _ σ_3 ⟨hv, rfl, hM_3, ⟨g7_3, x67_3, hL_3⟩, ⟨g8_3, x68_3⟩, ⟨g9_3, x69_3⟩, ⟨g0_3, x70_3⟩, q_3⟩
    cases hv
    refine z_eq (st' := []) rfl rfl rfl rfl ?_
    have x58_3 := (q_3 58 (by omega) (by omega)).trans x58_2
    have x59_3 := (q_3 59 (by omega) (by omega)).trans x59_2
    have x60_3 := (q_3 60 (by omega) (by omega)).trans x60_2
    have x61_3 := (q_3 61 (by omega) (by omega)).trans x61_2
    have x62_3 := (q_3 62 (by omega) (by omega)).trans x62_2
    have x63_3 := (q_3 63 (by omega) (by omega)).trans x63_2
    have x64_3 := (q_3 64 (by omega) (by omega)).trans x64_2
    have x65_3 := (q_3 65 (by omega) (by omega)).trans x65_2
    have x66_3 := (q_3 66 (by omega) (by omega)).trans x66_2
    have x71_3 := (q_3 71 (by omega) (by omega)).trans x71_2
    have x72_3 := (q_3 72 (by omega) (by omega)).trans x72_2
    have x73_3 := (q_3 73 (by omega) (by omega)).trans x73_2
    refine z_aload_n kd_M_told_84 0 rfl ?_
    refine z_get kd_M_told_85 (kf_M_155 _) hM_3.h1 rfl ?_
    exact z_iret kd_M_told_88 rfl (Nat.le_of_ble_eq_true rfl) (Nat.le_of_ble_eq_true rfl) ⟨rfl, rfl, ⟨⟨_, _, _, _, hM_3⟩, x58_3, x59_3, ⟨_, x60_3⟩, ⟨_, x61_3⟩, ⟨_, x62_3⟩, ⟨_, x63_3⟩, ⟨_, x64_3⟩, ⟨_, x65_3⟩, ⟨_, x66_3⟩, ⟨_, x67_3⟩, ⟨_, x68_3⟩, ⟨_, x69_3⟩, ⟨_, x70_3⟩, ⟨_, x71_3⟩, ⟨_, x72_3⟩, ⟨_, x73_3⟩⟩, (Fr.tr (Fr.tr (Fr.tr Fr.rf (q_1.wide (by omega) (by omega))) (fun k hk => q_2 k (by omega) (by omega))) (fun k hk => q_3 k (by omega) (by omega)))⟩
  · exact absurd c74 (nI_ne0 h (by have := ttV_le (a := a) (F := F) (T := T); omega))
