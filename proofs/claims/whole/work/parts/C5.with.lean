def gcO : Nat → Int64 → Int64 → Option Int64
  | 0, _, _ => none
  | m + 1, u, v => if v = 0 then some u else gcO m v (jrem u v)
set_option maxHeartbeats 4000000 in
set_option maxRecDepth 100000 in
theorem l_M_gcd {l : Launch} {D : va_G} {tys : List (ClassId × FieldType)} {b N : Nat} {σ : Nat → Option va_E} {R : Room} {g : Int64} : ∀ (m : Nat) (u v : Int64), gcO m u v = some g → Z l D kCl tys (kh_M_gcd :: zT) kNw ky_M_gcd.cls ky_M_gcd.name kb_M_gcd 10 (some FieldType.long) R b (zFi D kCl b 0 0 (zD (some (.long g)) N σ)) 0 0 N (σ) 6 [(6, .long v), (4, .long u)] [] := by
  intro m
  induction m with
  | zero => intro u v hv; cases hv
  | succ m ih =>
    intro u v hv
    unfold gcO at hv
    refine z_lload kd_M_gcd_6 0 rfl ?_
    refine z_lconst (v := 0) kd_M_gcd_8 (by decide +kernel) ?_
    refine z_lcmp kd_M_gcd_9 ?_
    refine z_if_eq (tgt := 31) kd_M_gcd_10 (by decide) (fun c10 => ?_) (fun c10 => ?_)
    · rw [if_pos ((lg_cmp_0 _ _).mp c10)] at hv
      cases hv
      refine z_lload kd_M_gcd_31 1 rfl ?_
      exact z_lret kd_M_gcd_33 rfl (Nat.le_of_ble_eq_true rfl) (Nat.le_of_ble_eq_true rfl) ⟨rfl, rfl, rfl⟩
    · have hne : ¬ v = 0 := fun z => c10 ((lg_cmp_0 _ _).mpr z)
      rw [if_neg hne] at hv
      refine z_lload kd_M_gcd_13 1 rfl ?_
      refine z_lload kd_M_gcd_15 0 rfl ?_
      refine z_lrem kd_M_gcd_17 hne ?_
      refine z_lstore (lv' := [(8, .long _), (6, .long _), (4, .long _)]) kd_M_gcd_18 (by decide) rfl ?_
      refine z_lload kd_M_gcd_20 1 rfl ?_
      refine z_lstore (lv' := [(4, .long _), (8, .long _), (6, .long _)]) kd_M_gcd_22 (by decide) rfl ?_
      refine z_lload kd_M_gcd_24 1 rfl ?_
      refine z_lstore (lv' := [(6, .long _), (4, .long _), (8, .long _)]) kd_M_gcd_26 (by decide) rfl ?_
      refine z_goto (tgt := 6) kd_M_gcd_28 (by decide) ?_
      refine z_pick (lv' := [(6, .long (jrem u v)), (4, .long v)]) [0, 1] rfl ?_
      exact ih _ _ hv
set_option maxHeartbeats 4000000 in
set_option maxRecDepth 100000 in
theorem c_M_gcd {l : Launch} {D : va_G} {tys : List (ClassId × FieldType)} {b N : Nat} {σ : Nat → Option va_E} {x y g : Int64} {m : Nat} (hg : gcO m x y = some g) : zM l D kCl tys kNw b ky_M_gcd (kh_M_gcd :: zT) 0 0 0 0 [.long x, .long y] N σ (zD (some (.long g)) N σ) := by
  refine zM.of (by decide +kernel) rfl (Nat.le_of_ble_eq_true rfl) ?_
  refine z_pick (lv' := [(0, .long x), (2, .long y)]) [0, 1] rfl ?_
  refine z_lload_n kd_M_gcd_0 0 rfl ?_
  refine z_lstore (lv' := [(4, .long _), (0, .long _), (2, .long _)]) kd_M_gcd_1 (by decide) rfl ?_
  refine z_lload_n kd_M_gcd_3 2 rfl ?_
  refine z_lstore (lv' := [(6, .long _), (4, .long _), (0, .long _), (2, .long _)]) kd_M_gcd_4 (by decide) rfl ?_
  refine z_pick (lv' := [(6, .long y), (4, .long x)]) [0, 1] rfl ?_
  exact l_M_gcd m _ _ hg
def apW (n a : Nat) (F T : Nat → Nat) (w : Nat → Int32) (x y : Nat) : Int64 := if x = y then 0 else apV n a F T w x y
theorem c_M_apartN {l : Launch} {D : va_G} {tys : List (ClassId × FieldType)} {b N : Nat} {σ : Nat → Option va_E} {cI cJ cA : ClassId} (ht0 : tys[0]? = some (cI, .int)) (ht1 : tys[1]? = some (cJ, .long)) (ht3 : tys[3]? = some (cA, .array .long)) {cZ : ClassId} (ht2 : tys[2]? = some (cZ, .boolean)) {n a : Nat} {gf gt gw : Nat → Int32} {F T : Nat → Nat} {C K : Nat → Int64} (hMS : MS b cI cJ cZ σ n a gf gt gw F T C K) {x y : Nat} (hx : x < n) (hy : y < n) (hz : zIn (nI x) (nI n) = true) (hz2 : zIn (nI y) (nI n) = true) : zM l D kCl tys kNw b ky_M_apart (kh_M_apart :: zT) 8 300 0 0 [.ref (b + 54), .int (nI x), .int (nI y)] N σ (fun oc N' σ' => oc = .returned (some (.long (apW n a F T gw x y))) ∧ N' = N ∧ MS b cI cJ cZ σ' n a gf gt gw F T C K ∧ Fr 54 73 σ σ') := by
  by_cases e : x = y
  · subst e
    have : apW n a F T gw x x = 0 := if_pos rfl
    rw [this]
    exact c_M_apart2 ht0 ht1 ht3 ht2 hMS hz
  · have : apW n a F T gw x y = apV n a F T gw x y := if_neg e
    rw [this]
    exact c_M_apart3 ht0 ht1 ht3 ht2 hMS hx hy e hz hz2
set_option maxHeartbeats 4000000 in
set_option maxRecDepth 100000 in
theorem c_M_resist0 {l : Launch} {D : va_G} {tys : List (ClassId × FieldType)} {b N : Nat} {σ : Nat → Option va_E} {cI cJ cA : ClassId} (ht0 : tys[0]? = some (cI, .int)) (ht1 : tys[1]? = some (cJ, .long)) (ht3 : tys[3]? = some (cA, .array .long)) {cZ : ClassId} (ht2 : tys[2]? = some (cZ, .boolean)) {n a : Nat} {gf gt gw : Nat → Int32} {F T : Nat → Nat} {C K : Nat → Int64} (hMS : MS b cI cJ cZ σ n a gf gt gw F T C K) {x y s : Int32} (hz : zIn x (nI n) = false) : zM l D kCl tys kNw b ky_M_resistance (kh_M_resistance :: zT) 10 360 0 0 [.ref (b + 54), .int x, .int y, .int s] N σ ((fun oc N' σ' => oc = .returned (some (.long (-1))) ∧ N' = N ∧ MS b cI cJ cZ σ' n a gf gt gw F T C K ∧ Fr 54 73 σ σ')) := by
  refine zM.of (by decide +kernel) rfl (Nat.le_of_ble_eq_true rfl) ?_
  refine z_pick (lv' := [(0, .ref (b + 54)), (1, .int x), (2, .int y), (3, .int s)]) [0, 1, 2, 3] rfl ?_
  obtain ⟨⟨th, fa, ls, rm, hM⟩, h58, h59, ⟨g60, h60⟩, ⟨g61, h61⟩, ⟨g62, h62⟩, ⟨g63, h63⟩, ⟨g64, h64⟩, ⟨g65, h65⟩, ⟨g66, h66⟩, ⟨g67, h67⟩, ⟨g68, h68⟩, ⟨g69, h69⟩, ⟨g70, h70⟩, ⟨g71, h71⟩, ⟨g72, h72⟩, ⟨g73, h73⟩⟩ := hMS
  have hn := hM.hn
  have ha := hM.ha
  refine z_aload_n kd_M_resistance_0 0 rfl ?_
  refine z_iconst (v := 0) kd_M_resistance_1 (by decide) ?_
  refine z_putE (fs' := [_, _, _, _, _, _, _, _, _, _, _, _, _, _, _, _, _, _, _, _, _, _, _, _, _]) kd_M_resistance_2 (kp_M_69 _) hM.h1 (Nat.le_of_ble_eq_true rfl) rfl rfl rfl ?_
  refine z_upd (fun σ_1 x54_1 q_1 => ?_)
  have x58_1 := (q_1 58 (by omega)).trans h58
  have x59_1 := (q_1 59 (by omega)).trans h59
  have x60_1 := (q_1 60 (by omega)).trans h60
  have x61_1 := (q_1 61 (by omega)).trans h61
  have x62_1 := (q_1 62 (by omega)).trans h62
  have x63_1 := (q_1 63 (by omega)).trans h63
  have x64_1 := (q_1 64 (by omega)).trans h64
  have x65_1 := (q_1 65 (by omega)).trans h65
  have x66_1 := (q_1 66 (by omega)).trans h66
  have x67_1 := (q_1 67 (by omega)).trans h67
  have x68_1 := (q_1 68 (by omega)).trans h68
  have x69_1 := (q_1 69 (by omega)).trans h69
  have x70_1 := (q_1 70 (by omega)).trans h70
  have x71_1 := (q_1 71 (by omega)).trans h71
  have x72_1 := (q_1 72 (by omega)).trans h72
  have x73_1 := (q_1 73 (by omega)).trans h73
  have hM_1 := hM.put x54_1 q_1
  refine z_aload_n kd_M_resistance_5 0 rfl ?_
  refine z_iload_n kd_M_resistance_6 1 rfl ?_
  refine z_V1 (a := 54) (As := [_]) kd_M_resistance_7 (kg_M_76 _) hM_1.h1 kc_M (c_M_isNode ht0 ht1 ht3 hM_1) rfl rfl (Nat.le_of_ble_eq_true rfl) ⟨Nat.le_of_ble_eq_true rfl, Nat.le_of_ble_eq_true rfl⟩ ⟨Nat.le_of_ble_eq_true rfl, Nat.le_of_ble_eq_true rfl⟩ ?_
  refine z_topi (show zB (zIn x (nI n)) = 0 by rw [hz]; rfl) ?_
  refine z_if_eq (tgt := 39) kd_M_resistance_10 (by decide) (fun c10 => ?_) (fun c10 => absurd c10 (by decide))
  refine z_ldc2 (v := -1) kd_M_resistance_39 (List.mem_cons_of_mem _ (zin 918 rfl rfl)) ?_
  exact z_lret kd_M_resistance_42 rfl (Nat.le_of_ble_eq_true rfl) (Nat.le_of_ble_eq_true rfl) ⟨rfl, rfl, ⟨⟨_, _, _, _, hM_1⟩, x58_1, x59_1, ⟨_, x60_1⟩, ⟨_, x61_1⟩, ⟨_, x62_1⟩, ⟨_, x63_1⟩, ⟨_, x64_1⟩, ⟨_, x65_1⟩, ⟨_, x66_1⟩, ⟨_, x67_1⟩, ⟨_, x68_1⟩, ⟨_, x69_1⟩, ⟨_, x70_1⟩, ⟨_, x71_1⟩, ⟨_, x72_1⟩, ⟨_, x73_1⟩⟩, (Fr.tr Fr.rf (q_1.wide (by omega) (by omega)))⟩
set_option maxHeartbeats 4000000 in
set_option maxRecDepth 100000 in
theorem c_M_resist1 {l : Launch} {D : va_G} {tys : List (ClassId × FieldType)} {b N : Nat} {σ : Nat → Option va_E} {cI cJ cA : ClassId} (ht0 : tys[0]? = some (cI, .int)) (ht1 : tys[1]? = some (cJ, .long)) (ht3 : tys[3]? = some (cA, .array .long)) {cZ : ClassId} (ht2 : tys[2]? = some (cZ, .boolean)) {n a : Nat} {gf gt gw : Nat → Int32} {F T : Nat → Nat} {C K : Nat → Int64} (hMS : MS b cI cJ cZ σ n a gf gt gw F T C K) {x y s : Int32} (hz : zIn x (nI n) = true) (hz2 : zIn y (nI n) = false) : zM l D kCl tys kNw b ky_M_resistance (kh_M_resistance :: zT) 10 360 0 0 [.ref (b + 54), .int x, .int y, .int s] N σ ((fun oc N' σ' => oc = .returned (some (.long (-1))) ∧ N' = N ∧ MS b cI cJ cZ σ' n a gf gt gw F T C K ∧ Fr 54 73 σ σ')) := by
  refine zM.of (by decide +kernel) rfl (Nat.le_of_ble_eq_true rfl) ?_
  refine z_pick (lv' := [(0, .ref (b + 54)), (1, .int x), (2, .int y), (3, .int s)]) [0, 1, 2, 3] rfl ?_
  obtain ⟨⟨th, fa, ls, rm, hM⟩, h58, h59, ⟨g60, h60⟩, ⟨g61, h61⟩, ⟨g62, h62⟩, ⟨g63, h63⟩, ⟨g64, h64⟩, ⟨g65, h65⟩, ⟨g66, h66⟩, ⟨g67, h67⟩, ⟨g68, h68⟩, ⟨g69, h69⟩, ⟨g70, h70⟩, ⟨g71, h71⟩, ⟨g72, h72⟩, ⟨g73, h73⟩⟩ := hMS
  have hn := hM.hn
  have ha := hM.ha
  refine z_aload_n kd_M_resistance_0 0 rfl ?_
  refine z_iconst (v := 0) kd_M_resistance_1 (by decide) ?_
  refine z_putE (fs' := [_, _, _, _, _, _, _, _, _, _, _, _, _, _, _, _, _, _, _, _, _, _, _, _, _]) kd_M_resistance_2 (kp_M_69 _) hM.h1 (Nat.le_of_ble_eq_true rfl) rfl rfl rfl ?_
  refine z_upd (fun σ_1 x54_1 q_1 => ?_)
  have x58_1 := (q_1 58 (by omega)).trans h58
  have x59_1 := (q_1 59 (by omega)).trans h59
  have x60_1 := (q_1 60 (by omega)).trans h60
  have x61_1 := (q_1 61 (by omega)).trans h61
  have x62_1 := (q_1 62 (by omega)).trans h62
  have x63_1 := (q_1 63 (by omega)).trans h63
  have x64_1 := (q_1 64 (by omega)).trans h64
  have x65_1 := (q_1 65 (by omega)).trans h65
  have x66_1 := (q_1 66 (by omega)).trans h66
  have x67_1 := (q_1 67 (by omega)).trans h67
  have x68_1 := (q_1 68 (by omega)).trans h68
  have x69_1 := (q_1 69 (by omega)).trans h69
  have x70_1 := (q_1 70 (by omega)).trans h70
  have x71_1 := (q_1 71 (by omega)).trans h71
  have x72_1 := (q_1 72 (by omega)).trans h72
  have x73_1 := (q_1 73 (by omega)).trans h73
  have hM_1 := hM.put x54_1 q_1
  refine z_aload_n kd_M_resistance_5 0 rfl ?_
  refine z_iload_n kd_M_resistance_6 1 rfl ?_
  refine z_V1 (a := 54) (As := [_]) kd_M_resistance_7 (kg_M_76 _) hM_1.h1 kc_M (c_M_isNode ht0 ht1 ht3 hM_1) rfl rfl (Nat.le_of_ble_eq_true rfl) ⟨Nat.le_of_ble_eq_true rfl, Nat.le_of_ble_eq_true rfl⟩ ⟨Nat.le_of_ble_eq_true rfl, Nat.le_of_ble_eq_true rfl⟩ ?_
  refine z_topi (show zB (zIn x (nI n)) = 1 by rw [hz]; rfl) ?_
  refine z_if_eq (tgt := 39) kd_M_resistance_10 (by decide) (fun c10 => absurd c10 (by decide)) (fun c10 => ?_)
  refine z_aload_n kd_M_resistance_13 0 rfl ?_
  refine z_iload_n kd_M_resistance_14 2 rfl ?_
  refine z_V1 (a := 54) (As := [_]) kd_M_resistance_15 (kg_M_76 _) hM_1.h1 kc_M (c_M_isNode ht0 ht1 ht3 hM_1) rfl rfl (Nat.le_of_ble_eq_true rfl) ⟨Nat.le_of_ble_eq_true rfl, Nat.le_of_ble_eq_true rfl⟩ ⟨Nat.le_of_ble_eq_true rfl, Nat.le_of_ble_eq_true rfl⟩ ?_
  refine z_topi (show zB (zIn y (nI n)) = 0 by rw [hz2]; rfl) ?_
  refine z_if_eq (tgt := 39) kd_M_resistance_18 (by decide) (fun c18 => ?_) (fun c18 => absurd c18 (by decide))
  refine z_ldc2 (v := -1) kd_M_resistance_39 (List.mem_cons_of_mem _ (zin 918 rfl rfl)) ?_
  exact z_lret kd_M_resistance_42 rfl (Nat.le_of_ble_eq_true rfl) (Nat.le_of_ble_eq_true rfl) ⟨rfl, rfl, ⟨⟨_, _, _, _, hM_1⟩, x58_1, x59_1, ⟨_, x60_1⟩, ⟨_, x61_1⟩, ⟨_, x62_1⟩, ⟨_, x63_1⟩, ⟨_, x64_1⟩, ⟨_, x65_1⟩, ⟨_, x66_1⟩, ⟨_, x67_1⟩, ⟨_, x68_1⟩, ⟨_, x69_1⟩, ⟨_, x70_1⟩, ⟨_, x71_1⟩, ⟨_, x72_1⟩, ⟨_, x73_1⟩⟩, (Fr.tr Fr.rf (q_1.wide (by omega) (by omega)))⟩
set_option maxHeartbeats 4000000 in
set_option maxRecDepth 100000 in
theorem c_M_resist2 {l : Launch} {D : va_G} {tys : List (ClassId × FieldType)} {b N : Nat} {σ : Nat → Option va_E} {cI cJ cA : ClassId} (ht0 : tys[0]? = some (cI, .int)) (ht1 : tys[1]? = some (cJ, .long)) (ht3 : tys[3]? = some (cA, .array .long)) {cZ : ClassId} (ht2 : tys[2]? = some (cZ, .boolean)) {n a : Nat} {gf gt gw : Nat → Int32} {F T : Nat → Nat} {C K : Nat → Int64} (hMS : MS b cI cJ cZ σ n a gf gt gw F T C K) {x y s : Int32} (hz : zIn x (nI n) = true) (hz2 : zIn y (nI n) = true) (hs : s < 0 ∨ 1 < s) : zM l D kCl tys kNw b ky_M_resistance (kh_M_resistance :: zT) 10 360 0 0 [.ref (b + 54), .int x, .int y, .int s] N σ ((fun oc N' σ' => oc = .returned (some (.long (-1))) ∧ N' = N ∧ MS b cI cJ cZ σ' n a gf gt gw F T C K ∧ Fr 54 73 σ σ')) := by
  refine zM.of (by decide +kernel) rfl (Nat.le_of_ble_eq_true rfl) ?_
  refine z_pick (lv' := [(0, .ref (b + 54)), (1, .int x), (2, .int y), (3, .int s)]) [0, 1, 2, 3] rfl ?_
  obtain ⟨⟨th, fa, ls, rm, hM⟩, h58, h59, ⟨g60, h60⟩, ⟨g61, h61⟩, ⟨g62, h62⟩, ⟨g63, h63⟩, ⟨g64, h64⟩, ⟨g65, h65⟩, ⟨g66, h66⟩, ⟨g67, h67⟩, ⟨g68, h68⟩, ⟨g69, h69⟩, ⟨g70, h70⟩, ⟨g71, h71⟩, ⟨g72, h72⟩, ⟨g73, h73⟩⟩ := hMS
  have hn := hM.hn
  have ha := hM.ha
  refine z_aload_n kd_M_resistance_0 0 rfl ?_
  refine z_iconst (v := 0) kd_M_resistance_1 (by decide) ?_
  refine z_putE (fs' := [_, _, _, _, _, _, _, _, _, _, _, _, _, _, _, _, _, _, _, _, _, _, _, _, _]) kd_M_resistance_2 (kp_M_69 _) hM.h1 (Nat.le_of_ble_eq_true rfl) rfl rfl rfl ?_
  refine z_upd (fun σ_1 x54_1 q_1 => ?_)
  have x58_1 := (q_1 58 (by omega)).trans h58
  have x59_1 := (q_1 59 (by omega)).trans h59
  have x60_1 := (q_1 60 (by omega)).trans h60
  have x61_1 := (q_1 61 (by omega)).trans h61
  have x62_1 := (q_1 62 (by omega)).trans h62
  have x63_1 := (q_1 63 (by omega)).trans h63
  have x64_1 := (q_1 64 (by omega)).trans h64
  have x65_1 := (q_1 65 (by omega)).trans h65
  have x66_1 := (q_1 66 (by omega)).trans h66
  have x67_1 := (q_1 67 (by omega)).trans h67
  have x68_1 := (q_1 68 (by omega)).trans h68
  have x69_1 := (q_1 69 (by omega)).trans h69
  have x70_1 := (q_1 70 (by omega)).trans h70
  have x71_1 := (q_1 71 (by omega)).trans h71
  have x72_1 := (q_1 72 (by omega)).trans h72
  have x73_1 := (q_1 73 (by omega)).trans h73
  have hM_1 := hM.put x54_1 q_1
  refine z_aload_n kd_M_resistance_5 0 rfl ?_
  refine z_iload_n kd_M_resistance_6 1 rfl ?_
  refine z_V1 (a := 54) (As := [_]) kd_M_resistance_7 (kg_M_76 _) hM_1.h1 kc_M (c_M_isNode ht0 ht1 ht3 hM_1) rfl rfl (Nat.le_of_ble_eq_true rfl) ⟨Nat.le_of_ble_eq_true rfl, Nat.le_of_ble_eq_true rfl⟩ ⟨Nat.le_of_ble_eq_true rfl, Nat.le_of_ble_eq_true rfl⟩ ?_
  refine z_topi (show zB (zIn x (nI n)) = 1 by rw [hz]; rfl) ?_
  refine z_if_eq (tgt := 39) kd_M_resistance_10 (by decide) (fun c10 => absurd c10 (by decide)) (fun c10 => ?_)
  refine z_aload_n kd_M_resistance_13 0 rfl ?_
  refine z_iload_n kd_M_resistance_14 2 rfl ?_
  refine z_V1 (a := 54) (As := [_]) kd_M_resistance_15 (kg_M_76 _) hM_1.h1 kc_M (c_M_isNode ht0 ht1 ht3 hM_1) rfl rfl (Nat.le_of_ble_eq_true rfl) ⟨Nat.le_of_ble_eq_true rfl, Nat.le_of_ble_eq_true rfl⟩ ⟨Nat.le_of_ble_eq_true rfl, Nat.le_of_ble_eq_true rfl⟩ ?_
  refine z_topi (show zB (zIn y (nI n)) = 1 by rw [hz2]; rfl) ?_
  refine z_if_eq (tgt := 39) kd_M_resistance_18 (by decide) (fun c18 => absurd c18 (by decide)) (fun c18 => ?_)
  refine z_iload_n kd_M_resistance_21 3 rfl ?_
  refine z_if_lt (tgt := 39) kd_M_resistance_22 (by decide) (fun c22 => ?_) (fun c22 => ?_)
  · refine z_ldc2 (v := -1) kd_M_resistance_39 (List.mem_cons_of_mem _ (zin 918 rfl rfl)) ?_
    exact z_lret kd_M_resistance_42 rfl (Nat.le_of_ble_eq_true rfl) (Nat.le_of_ble_eq_true rfl) ⟨rfl, rfl, ⟨⟨_, _, _, _, hM_1⟩, x58_1, x59_1, ⟨_, x60_1⟩, ⟨_, x61_1⟩, ⟨_, x62_1⟩, ⟨_, x63_1⟩, ⟨_, x64_1⟩, ⟨_, x65_1⟩, ⟨_, x66_1⟩, ⟨_, x67_1⟩, ⟨_, x68_1⟩, ⟨_, x69_1⟩, ⟨_, x70_1⟩, ⟨_, x71_1⟩, ⟨_, x72_1⟩, ⟨_, x73_1⟩⟩, (Fr.tr Fr.rf (q_1.wide (by omega) (by omega)))⟩
  · refine z_iload_n kd_M_resistance_25 3 rfl ?_
    refine z_iconst (v := 1) kd_M_resistance_26 (by decide) ?_
    refine z_icmp_gt (tgt := 39) kd_M_resistance_27 (by decide) (fun c27 => ?_) (fun c27 => ?_)
    · refine z_ldc2 (v := -1) kd_M_resistance_39 (List.mem_cons_of_mem _ (zin 918 rfl rfl)) ?_
      exact z_lret kd_M_resistance_42 rfl (Nat.le_of_ble_eq_true rfl) (Nat.le_of_ble_eq_true rfl) ⟨rfl, rfl, ⟨⟨_, _, _, _, hM_1⟩, x58_1, x59_1, ⟨_, x60_1⟩, ⟨_, x61_1⟩, ⟨_, x62_1⟩, ⟨_, x63_1⟩, ⟨_, x64_1⟩, ⟨_, x65_1⟩, ⟨_, x66_1⟩, ⟨_, x67_1⟩, ⟨_, x68_1⟩, ⟨_, x69_1⟩, ⟨_, x70_1⟩, ⟨_, x71_1⟩, ⟨_, x72_1⟩, ⟨_, x73_1⟩⟩, (Fr.tr Fr.rf (q_1.wide (by omega) (by omega)))⟩
    · exact absurd hs (fun z => by rcases z with z | z; exact absurd z c22; exact absurd z c27)
set_option maxHeartbeats 4000000 in
set_option maxRecDepth 100000 in
theorem c_M_resist3 {l : Launch} {D : va_G} {tys : List (ClassId × FieldType)} {b N : Nat} {σ : Nat → Option va_E} {cI cJ cA : ClassId} (ht0 : tys[0]? = some (cI, .int)) (ht1 : tys[1]? = some (cJ, .long)) (ht3 : tys[3]? = some (cA, .array .long)) {cZ : ClassId} (ht2 : tys[2]? = some (cZ, .boolean)) {n a : Nat} {gf gt gw : Nat → Int32} {F T : Nat → Nat} {C K : Nat → Int64} (hMS : MS b cI cJ cZ σ n a gf gt gw F T C K) {x y : Nat} {s : Int32} (hx : x < n) (hy : y < n) (hz : zIn (nI x) (nI n) = true) (hz2 : zIn (nI y) (nI n) = true) (hs : ¬ s < 0) (hs2 : ¬ 1 < s) (h0 : cnV n a F T gw x0 (fun v => v) = 0) : zM l D kCl tys kNw b ky_M_resistance (kh_M_resistance :: zT) 10 360 0 0 [.ref (b + 54), .int (nI x), .int (nI y), .int s] N σ ((fun oc N' σ' => oc = .returned (some (.long (-1))) ∧ N' = N ∧ MS b cI cJ cZ σ' n a gf gt gw F T C K ∧ Fr 54 73 σ σ')) := by
  refine zM.of (by decide +kernel) rfl (Nat.le_of_ble_eq_true rfl) ?_
  refine z_pick (lv' := [(0, .ref (b + 54)), (1, .int (nI x)), (2, .int (nI y)), (3, .int s)]) [0, 1, 2, 3] rfl ?_
  obtain ⟨⟨th, fa, ls, rm, hM⟩, h58, h59, ⟨g60, h60⟩, ⟨g61, h61⟩, ⟨g62, h62⟩, ⟨g63, h63⟩, ⟨g64, h64⟩, ⟨g65, h65⟩, ⟨g66, h66⟩, ⟨g67, h67⟩, ⟨g68, h68⟩, ⟨g69, h69⟩, ⟨g70, h70⟩, ⟨g71, h71⟩, ⟨g72, h72⟩, ⟨g73, h73⟩⟩ := hMS
  have hn := hM.hn
  have ha := hM.ha
  refine z_aload_n kd_M_resistance_0 0 rfl ?_
  refine z_iconst (v := 0) kd_M_resistance_1 (by decide) ?_
  refine z_putE (fs' := [_, _, _, _, _, _, _, _, _, _, _, _, _, _, _, _, _, _, _, _, _, _, _, _, _]) kd_M_resistance_2 (kp_M_69 _) hM.h1 (Nat.le_of_ble_eq_true rfl) rfl rfl rfl ?_
  refine z_upd (fun σ_1 x54_1 q_1 => ?_)
  have x58_1 := (q_1 58 (by omega)).trans h58
  have x59_1 := (q_1 59 (by omega)).trans h59
  have x60_1 := (q_1 60 (by omega)).trans h60
  have x61_1 := (q_1 61 (by omega)).trans h61
  have x62_1 := (q_1 62 (by omega)).trans h62
  have x63_1 := (q_1 63 (by omega)).trans h63
  have x64_1 := (q_1 64 (by omega)).trans h64
  have x65_1 := (q_1 65 (by omega)).trans h65
  have x66_1 := (q_1 66 (by omega)).trans h66
  have x67_1 := (q_1 67 (by omega)).trans h67
  have x68_1 := (q_1 68 (by omega)).trans h68
  have x69_1 := (q_1 69 (by omega)).trans h69
  have x70_1 := (q_1 70 (by omega)).trans h70
  have x71_1 := (q_1 71 (by omega)).trans h71
  have x72_1 := (q_1 72 (by omega)).trans h72
  have x73_1 := (q_1 73 (by omega)).trans h73
  have hM_1 := hM.put x54_1 q_1
  refine z_aload_n kd_M_resistance_5 0 rfl ?_
  refine z_iload_n kd_M_resistance_6 1 rfl ?_
  refine z_V1 (a := 54) (As := [_]) kd_M_resistance_7 (kg_M_76 _) hM_1.h1 kc_M (c_M_isNode ht0 ht1 ht3 hM_1) rfl rfl (Nat.le_of_ble_eq_true rfl) ⟨Nat.le_of_ble_eq_true rfl, Nat.le_of_ble_eq_true rfl⟩ ⟨Nat.le_of_ble_eq_true rfl, Nat.le_of_ble_eq_true rfl⟩ ?_
  refine z_topi (show zB (zIn (nI x) (nI n)) = 1 by rw [hz]; rfl) ?_
  refine z_if_eq (tgt := 39) kd_M_resistance_10 (by decide) (fun c10 => absurd c10 (by decide)) (fun c10 => ?_)
  refine z_aload_n kd_M_resistance_13 0 rfl ?_
  refine z_iload_n kd_M_resistance_14 2 rfl ?_
  refine z_V1 (a := 54) (As := [_]) kd_M_resistance_15 (kg_M_76 _) hM_1.h1 kc_M (c_M_isNode ht0 ht1 ht3 hM_1) rfl rfl (Nat.le_of_ble_eq_true rfl) ⟨Nat.le_of_ble_eq_true rfl, Nat.le_of_ble_eq_true rfl⟩ ⟨Nat.le_of_ble_eq_true rfl, Nat.le_of_ble_eq_true rfl⟩ ?_
  refine z_topi (show zB (zIn (nI y) (nI n)) = 1 by rw [hz2]; rfl) ?_
  refine z_if_eq (tgt := 39) kd_M_resistance_18 (by decide) (fun c18 => absurd c18 (by decide)) (fun c18 => ?_)
  refine z_iload_n kd_M_resistance_21 3 rfl ?_
  refine z_if_lt (tgt := 39) kd_M_resistance_22 (by decide) (fun c22 => ?_) (fun c22 => ?_)
  · exact absurd c22 hs
  · refine z_iload_n kd_M_resistance_25 3 rfl ?_
    refine z_iconst (v := 1) kd_M_resistance_26 (by decide) ?_
    refine z_icmp_gt (tgt := 39) kd_M_resistance_27 (by decide) (fun c27 => ?_) (fun c27 => ?_)
    · exact absurd c27 hs2
    · refine z_aload_n kd_M_resistance_30 0 rfl ?_
      refine z_callV (a := 54) (As := []) kd_M_resistance_31 (kg_M_133 _) hM_1.h1 kc_M (c_M_trees ht0 ht1 ht3 ht2 ⟨⟨_, _, _, _, hM_1⟩, x58_1, x59_1, ⟨_, x60_1⟩, ⟨_, x61_1⟩, ⟨_, x62_1⟩, ⟨_, x63_1⟩, ⟨_, x64_1⟩, ⟨_, x65_1⟩, ⟨_, x66_1⟩, ⟨_, x67_1⟩, ⟨_, x68_1⟩, ⟨_, x69_1⟩, ⟨_, x70_1⟩, ⟨_, x71_1⟩, ⟨_, x72_1⟩, ⟨_, x73_1⟩⟩) rfl rfl (Nat.le_of_ble_eq_true rfl) ⟨Nat.le_of_ble_eq_true rfl, Nat.le_of_ble_eq_true rfl⟩ ⟨Nat.le_of_ble_eq_true rfl, Nat.le_of_ble_eq_true rfl⟩ ?_
      rintro _ _ σ_2 ⟨hv, rfl, ⟨⟨th_2, fa_2, ls_2, rm_2, hM_2⟩, h58_2, h59_2, ⟨g60_2, h60_2⟩, ⟨g61_2, h61_2⟩, ⟨g62_2, h62_2⟩, ⟨g63_2, h63_2⟩, ⟨g64_2, h64_2⟩, ⟨g65_2, h65_2⟩, ⟨g66_2, h66_2⟩, ⟨g67_2, h67_2⟩, ⟨g68_2, h68_2⟩, ⟨g69_2, h69_2⟩, ⟨g70_2, h70_2⟩, ⟨g71_2, h71_2⟩, ⟨g72_2, h72_2⟩, ⟨g73_2, h73_2⟩⟩, ⟨g2_2, g3_2, x62_2, hp_2, x63_2, hX_2⟩, q_2⟩
      cases hv
      refine z_eq (st' := [_]) rfl rfl rfl rfl ?_
      refine z_lconst (v := 0) kd_M_resistance_34 (by decide +kernel) ?_
      refine z_lcmp kd_M_resistance_35 ?_
      refine z_if_ne (tgt := 43) kd_M_resistance_36 (by decide) (fun c36 => ?_) (fun c36 => ?_)
      · exact absurd ((lg_cmp_0 _ _).mpr h0) c36
      · refine z_ldc2 (v := -1) kd_M_resistance_39 (List.mem_cons_of_mem _ (zin 918 rfl rfl)) ?_
        exact z_lret kd_M_resistance_42 rfl (Nat.le_of_ble_eq_true rfl) (Nat.le_of_ble_eq_true rfl) ⟨rfl, rfl, ⟨⟨_, _, _, _, hM_2⟩, h58_2, h59_2, ⟨_, h60_2⟩, ⟨_, h61_2⟩, ⟨_, x62_2⟩, ⟨_, x63_2⟩, ⟨_, h64_2⟩, ⟨_, h65_2⟩, ⟨_, h66_2⟩, ⟨_, h67_2⟩, ⟨_, h68_2⟩, ⟨_, h69_2⟩, ⟨_, h70_2⟩, ⟨_, h71_2⟩, ⟨_, h72_2⟩, ⟨_, h73_2⟩⟩, (Fr.tr (Fr.tr Fr.rf (q_1.wide (by omega) (by omega))) (q_2.wide (by omega) (by omega)))⟩
set_option maxHeartbeats 4000000 in
set_option maxRecDepth 100000 in
theorem c_M_resist4 {l : Launch} {D : va_G} {tys : List (ClassId × FieldType)} {b N : Nat} {σ : Nat → Option va_E} {cI cJ cA : ClassId} (ht0 : tys[0]? = some (cI, .int)) (ht1 : tys[1]? = some (cJ, .long)) (ht3 : tys[3]? = some (cA, .array .long)) {cZ : ClassId} (ht2 : tys[2]? = some (cZ, .boolean)) {n a : Nat} {gf gt gw : Nat → Int32} {F T : Nat → Nat} {C K : Nat → Int64} (hMS : MS b cI cJ cZ σ n a gf gt gw F T C K) {x y : Nat} {s : Int32} (hx : x < n) (hy : y < n) (hz : zIn (nI x) (nI n) = true) (hz2 : zIn (nI y) (nI n) = true) (hs : ¬ s < 0) (hs2 : ¬ 1 < s) (h0 : ¬ cnV n a F T gw x0 (fun v => v) = 0) {m : Nat} {g : Int64} (hg : gcO m (apW n a F T gw x y) (cnV n a F T gw x0 (fun v => v)) = some g) (hg0 : ¬ g = 0) : zM l D kCl tys kNw b ky_M_resistance (kh_M_resistance :: zT) 10 360 0 0 [.ref (b + 54), .int (nI x), .int (nI y), .int s] N σ ((fun oc N' σ' => oc = .returned (some (.long ((if s = 0 then apW n a F T gw x y else cnV n a F T gw x0 (fun v => v)) / g))) ∧ N' = N ∧ MS b cI cJ cZ σ' n a gf gt gw F T C K ∧ Fr 54 73 σ σ')) := by
  refine zM.of (by decide +kernel) rfl (Nat.le_of_ble_eq_true rfl) ?_
  refine z_pick (lv' := [(0, .ref (b + 54)), (1, .int (nI x)), (2, .int (nI y)), (3, .int s)]) [0, 1, 2, 3] rfl ?_
  obtain ⟨⟨th, fa, ls, rm, hM⟩, h58, h59, ⟨g60, h60⟩, ⟨g61, h61⟩, ⟨g62, h62⟩, ⟨g63, h63⟩, ⟨g64, h64⟩, ⟨g65, h65⟩, ⟨g66, h66⟩, ⟨g67, h67⟩, ⟨g68, h68⟩, ⟨g69, h69⟩, ⟨g70, h70⟩, ⟨g71, h71⟩, ⟨g72, h72⟩, ⟨g73, h73⟩⟩ := hMS
  have hn := hM.hn
  have ha := hM.ha
  refine z_aload_n kd_M_resistance_0 0 rfl ?_
  refine z_iconst (v := 0) kd_M_resistance_1 (by decide) ?_
  refine z_putE (fs' := [_, _, _, _, _, _, _, _, _, _, _, _, _, _, _, _, _, _, _, _, _, _, _, _, _]) kd_M_resistance_2 (kp_M_69 _) hM.h1 (Nat.le_of_ble_eq_true rfl) rfl rfl rfl ?_
  refine z_upd (fun σ_1 x54_1 q_1 => ?_)
  have x58_1 := (q_1 58 (by omega)).trans h58
  have x59_1 := (q_1 59 (by omega)).trans h59
  have x60_1 := (q_1 60 (by omega)).trans h60
  have x61_1 := (q_1 61 (by omega)).trans h61
  have x62_1 := (q_1 62 (by omega)).trans h62
  have x63_1 := (q_1 63 (by omega)).trans h63
  have x64_1 := (q_1 64 (by omega)).trans h64
  have x65_1 := (q_1 65 (by omega)).trans h65
  have x66_1 := (q_1 66 (by omega)).trans h66
  have x67_1 := (q_1 67 (by omega)).trans h67
  have x68_1 := (q_1 68 (by omega)).trans h68
  have x69_1 := (q_1 69 (by omega)).trans h69
  have x70_1 := (q_1 70 (by omega)).trans h70
  have x71_1 := (q_1 71 (by omega)).trans h71
  have x72_1 := (q_1 72 (by omega)).trans h72
  have x73_1 := (q_1 73 (by omega)).trans h73
  have hM_1 := hM.put x54_1 q_1
  refine z_aload_n kd_M_resistance_5 0 rfl ?_
  refine z_iload_n kd_M_resistance_6 1 rfl ?_
  refine z_V1 (a := 54) (As := [_]) kd_M_resistance_7 (kg_M_76 _) hM_1.h1 kc_M (c_M_isNode ht0 ht1 ht3 hM_1) rfl rfl (Nat.le_of_ble_eq_true rfl) ⟨Nat.le_of_ble_eq_true rfl, Nat.le_of_ble_eq_true rfl⟩ ⟨Nat.le_of_ble_eq_true rfl, Nat.le_of_ble_eq_true rfl⟩ ?_
  refine z_topi (show zB (zIn (nI x) (nI n)) = 1 by rw [hz]; rfl) ?_
  refine z_if_eq (tgt := 39) kd_M_resistance_10 (by decide) (fun c10 => absurd c10 (by decide)) (fun c10 => ?_)
  refine z_aload_n kd_M_resistance_13 0 rfl ?_
  refine z_iload_n kd_M_resistance_14 2 rfl ?_
  refine z_V1 (a := 54) (As := [_]) kd_M_resistance_15 (kg_M_76 _) hM_1.h1 kc_M (c_M_isNode ht0 ht1 ht3 hM_1) rfl rfl (Nat.le_of_ble_eq_true rfl) ⟨Nat.le_of_ble_eq_true rfl, Nat.le_of_ble_eq_true rfl⟩ ⟨Nat.le_of_ble_eq_true rfl, Nat.le_of_ble_eq_true rfl⟩ ?_
  refine z_topi (show zB (zIn (nI y) (nI n)) = 1 by rw [hz2]; rfl) ?_
  refine z_if_eq (tgt := 39) kd_M_resistance_18 (by decide) (fun c18 => absurd c18 (by decide)) (fun c18 => ?_)
  refine z_iload_n kd_M_resistance_21 3 rfl ?_
  refine z_if_lt (tgt := 39) kd_M_resistance_22 (by decide) (fun c22 => ?_) (fun c22 => ?_)
  · exact absurd c22 hs
  · refine z_iload_n kd_M_resistance_25 3 rfl ?_
    refine z_iconst (v := 1) kd_M_resistance_26 (by decide) ?_
    refine z_icmp_gt (tgt := 39) kd_M_resistance_27 (by decide) (fun c27 => ?_) (fun c27 => ?_)
    · exact absurd c27 hs2
    · refine z_aload_n kd_M_resistance_30 0 rfl ?_
      refine z_callV (a := 54) (As := []) kd_M_resistance_31 (kg_M_133 _) hM_1.h1 kc_M (c_M_trees ht0 ht1 ht3 ht2 ⟨⟨_, _, _, _, hM_1⟩, x58_1, x59_1, ⟨_, x60_1⟩, ⟨_, x61_1⟩, ⟨_, x62_1⟩, ⟨_, x63_1⟩, ⟨_, x64_1⟩, ⟨_, x65_1⟩, ⟨_, x66_1⟩, ⟨_, x67_1⟩, ⟨_, x68_1⟩, ⟨_, x69_1⟩, ⟨_, x70_1⟩, ⟨_, x71_1⟩, ⟨_, x72_1⟩, ⟨_, x73_1⟩⟩) rfl rfl (Nat.le_of_ble_eq_true rfl) ⟨Nat.le_of_ble_eq_true rfl, Nat.le_of_ble_eq_true rfl⟩ ⟨Nat.le_of_ble_eq_true rfl, Nat.le_of_ble_eq_true rfl⟩ ?_
      rintro _ _ σ_2 ⟨hv, rfl, ⟨⟨th_2, fa_2, ls_2, rm_2, hM_2⟩, h58_2, h59_2, ⟨g60_2, h60_2⟩, ⟨g61_2, h61_2⟩, ⟨g62_2, h62_2⟩, ⟨g63_2, h63_2⟩, ⟨g64_2, h64_2⟩, ⟨g65_2, h65_2⟩, ⟨g66_2, h66_2⟩, ⟨g67_2, h67_2⟩, ⟨g68_2, h68_2⟩, ⟨g69_2, h69_2⟩, ⟨g70_2, h70_2⟩, ⟨g71_2, h71_2⟩, ⟨g72_2, h72_2⟩, ⟨g73_2, h73_2⟩⟩, ⟨g2_2, g3_2, x62_2, hp_2, x63_2, hX_2⟩, q_2⟩
      cases hv
      refine z_eq (st' := [_]) rfl rfl rfl rfl ?_
      refine z_lconst (v := 0) kd_M_resistance_34 (by decide +kernel) ?_
      refine z_lcmp kd_M_resistance_35 ?_
      refine z_if_ne (tgt := 43) kd_M_resistance_36 (by decide) (fun c36 => ?_) (fun c36 => ?_)
      · refine z_aload_n kd_M_resistance_43 0 rfl ?_
        refine z_iload_n kd_M_resistance_44 1 rfl ?_
        refine z_iload_n kd_M_resistance_45 2 rfl ?_
        refine z_callV (a := 54) (As := [_, _]) kd_M_resistance_46 (kg_M_136 _) hM_2.h1 kc_M (c_M_apartN ht0 ht1 ht3 ht2 ⟨⟨_, _, _, _, hM_2⟩, h58_2, h59_2, ⟨_, h60_2⟩, ⟨_, h61_2⟩, ⟨_, x62_2⟩, ⟨_, x63_2⟩, ⟨_, h64_2⟩, ⟨_, h65_2⟩, ⟨_, h66_2⟩, ⟨_, h67_2⟩, ⟨_, h68_2⟩, ⟨_, h69_2⟩, ⟨_, h70_2⟩, ⟨_, h71_2⟩, ⟨_, h72_2⟩, ⟨_, h73_2⟩⟩ hx hy hz hz2) rfl rfl (Nat.le_of_ble_eq_true rfl) ⟨Nat.le_of_ble_eq_true rfl, Nat.le_of_ble_eq_true rfl⟩ ⟨Nat.le_of_ble_eq_true rfl, Nat.le_of_ble_eq_true rfl⟩ ?_
        rintro _ _ σ_3 ⟨hv, rfl, ⟨⟨th_3, fa_3, ls_3, rm_3, hM_3⟩, h58_3, h59_3, ⟨g60_3, h60_3⟩, ⟨g61_3, h61_3⟩, ⟨g62_3, h62_3⟩, ⟨g63_3, h63_3⟩, ⟨g64_3, h64_3⟩, ⟨g65_3, h65_3⟩, ⟨g66_3, h66_3⟩, ⟨g67_3, h67_3⟩, ⟨g68_3, h68_3⟩, ⟨g69_3, h69_3⟩, ⟨g70_3, h70_3⟩, ⟨g71_3, h71_3⟩, ⟨g72_3, h72_3⟩, ⟨g73_3, h73_3⟩⟩, q_3⟩
        cases hv
        refine z_eq (st' := [_]) rfl rfl rfl rfl ?_
        refine z_lstore (lv' := [(4, .long _), (0, .ref (b + 54)), (1, .int _), (2, .int _), (3, .int _)]) kd_M_resistance_49 (by decide) rfl ?_
        refine z_aload_n kd_M_resistance_51 1 rfl ?_
        refine z_callV (a := 54) (As := []) kd_M_resistance_52 (kg_M_133 _) hM_3.h1 kc_M (c_M_trees ht0 ht1 ht3 ht2 ⟨⟨_, _, _, _, hM_3⟩, h58_3, h59_3, ⟨_, h60_3⟩, ⟨_, h61_3⟩, ⟨_, h62_3⟩, ⟨_, h63_3⟩, ⟨_, h64_3⟩, ⟨_, h65_3⟩, ⟨_, h66_3⟩, ⟨_, h67_3⟩, ⟨_, h68_3⟩, ⟨_, h69_3⟩, ⟨_, h70_3⟩, ⟨_, h71_3⟩, ⟨_, h72_3⟩, ⟨_, h73_3⟩⟩) rfl rfl (Nat.le_of_ble_eq_true rfl) ⟨Nat.le_of_ble_eq_true rfl, Nat.le_of_ble_eq_true rfl⟩ ⟨Nat.le_of_ble_eq_true rfl, Nat.le_of_ble_eq_true rfl⟩ ?_
        rintro _ _ σ_4 ⟨hv, rfl, ⟨⟨th_4, fa_4, ls_4, rm_4, hM_4⟩, h58_4, h59_4, ⟨g60_4, h60_4⟩, ⟨g61_4, h61_4⟩, ⟨g62_4, h62_4⟩, ⟨g63_4, h63_4⟩, ⟨g64_4, h64_4⟩, ⟨g65_4, h65_4⟩, ⟨g66_4, h66_4⟩, ⟨g67_4, h67_4⟩, ⟨g68_4, h68_4⟩, ⟨g69_4, h69_4⟩, ⟨g70_4, h70_4⟩, ⟨g71_4, h71_4⟩, ⟨g72_4, h72_4⟩, ⟨g73_4, h73_4⟩⟩, ⟨g2_4, g3_4, x62_4, hp_4, x63_4, hX_4⟩, q_4⟩
        cases hv
        refine z_eq (st' := [_]) rfl rfl rfl rfl ?_
        refine z_lstore (lv' := [(6, .long _), (4, .long _), (0, .ref (b + 54)), (1, .int _), (2, .int _), (3, .int _)]) kd_M_resistance_55 (by decide) rfl ?_
        refine z_lload kd_M_resistance_57 1 rfl ?_
        refine z_lload kd_M_resistance_59 0 rfl ?_
        refine z_S1 (As := [_, _]) kd_M_resistance_61 (kg_M_140 _) (c_M_gcd hg) rfl rfl (Nat.le_of_ble_eq_true rfl) ⟨Nat.le_of_ble_eq_true rfl, Nat.le_of_ble_eq_true rfl⟩ ⟨Nat.le_of_ble_eq_true rfl, Nat.le_of_ble_eq_true rfl⟩ ?_
        refine z_lstore (lv' := [(8, .long _), (6, .long _), (4, .long _), (0, .ref (b + 54)), (1, .int _), (2, .int _), (3, .int _)]) kd_M_resistance_64 (by decide) rfl ?_
        refine z_iload_n kd_M_resistance_66 6 rfl ?_
        refine z_if_ne (tgt := 78) kd_M_resistance_67 (by decide) (fun c67 => ?_) (fun c67 => ?_)
        · have hss : ¬ s = 0 := c67
          refine z_lload kd_M_resistance_78 1 rfl ?_
          refine z_lload kd_M_resistance_80 0 rfl ?_
          refine z_ldiv kd_M_resistance_82 hg0 ?_
          exact z_lret kd_M_resistance_83 rfl (Nat.le_of_ble_eq_true rfl) (Nat.le_of_ble_eq_true rfl) ⟨by simp [hss], rfl, ⟨⟨_, _, _, _, hM_4⟩, h58_4, h59_4, ⟨_, h60_4⟩, ⟨_, h61_4⟩, ⟨_, x62_4⟩, ⟨_, x63_4⟩, ⟨_, h64_4⟩, ⟨_, h65_4⟩, ⟨_, h66_4⟩, ⟨_, h67_4⟩, ⟨_, h68_4⟩, ⟨_, h69_4⟩, ⟨_, h70_4⟩, ⟨_, h71_4⟩, ⟨_, h72_4⟩, ⟨_, h73_4⟩⟩, (Fr.tr (Fr.tr (Fr.tr (Fr.tr Fr.rf (q_1.wide (by omega) (by omega))) (q_2.wide (by omega) (by omega))) (q_3.wide (by omega) (by omega))) (q_4.wide (by omega) (by omega)))⟩
        · have hss : s = 0 := c67
          refine z_lload kd_M_resistance_70 2 rfl ?_
          refine z_lload kd_M_resistance_72 0 rfl ?_
          refine z_ldiv kd_M_resistance_74 hg0 ?_
          refine z_goto (tgt := 83) kd_M_resistance_75 (by decide) ?_
          exact z_lret kd_M_resistance_83 rfl (Nat.le_of_ble_eq_true rfl) (Nat.le_of_ble_eq_true rfl) ⟨by simp [hss], rfl, ⟨⟨_, _, _, _, hM_4⟩, h58_4, h59_4, ⟨_, h60_4⟩, ⟨_, h61_4⟩, ⟨_, x62_4⟩, ⟨_, x63_4⟩, ⟨_, h64_4⟩, ⟨_, h65_4⟩, ⟨_, h66_4⟩, ⟨_, h67_4⟩, ⟨_, h68_4⟩, ⟨_, h69_4⟩, ⟨_, h70_4⟩, ⟨_, h71_4⟩, ⟨_, h72_4⟩, ⟨_, h73_4⟩⟩, (Fr.tr (Fr.tr (Fr.tr (Fr.tr Fr.rf (q_1.wide (by omega) (by omega))) (q_2.wide (by omega) (by omega))) (q_3.wide (by omega) (by omega))) (q_4.wide (by omega) (by omega)))⟩
      · exact absurd ((lg_cmp_0 _ _).mp c36) h0
theorem upd_P {i : Nat} {g : Nat → Int32} {P : Nat → Nat} {w : Int32} (h : ∀ v, v < i → g v = nI (P v)) (hw : w = nI (P i)) : ∀ v, v < i + 1 → upd g i w v = nI (P v) := by
  intro v hv
  by_cases e : v = i
  · subst e; simp [upd, hw]
  · have := h v (by omega)
    simp [upd, e, this]
set_option maxHeartbeats 4000000 in
set_option maxRecDepth 100000 in
theorem l_M_wk {l : Launch} {D : va_G} {tys : List (ClassId × FieldType)} {b N : Nat} {σ0 : Nat → Option va_E} {cI cJ cA : ClassId} (ht0 : tys[0]? = some (cI, .int)) (ht1 : tys[1]? = some (cJ, .long)) (ht3 : tys[3]? = some (cA, .array .long)) {th fa ls rm : Value} {n a : Nat} {gf gt gw : Nat → Int32} {F T : Nat → Nat} {P : Nat → Nat} {g2 : Nat → Int32} (hp : PH n n g2 P) {k : Nat} {Q : Outcome → Nat → (Nat → Option va_E) → Prop} (kk : ∀ (σ : Nat → Option va_E) (g : Nat → Int32), MN b cI σ th fa ls rm n a gf gt gw F T → σ 62 = some (.inl (cI, 10, .inl g2)) → σ 65 = some (.inl (cI, 10, .inl g)) → (∀ v, v < n → g v = nI (P v)) → Fr 65 65 σ0 σ → Z l D kCl tys (kh_M_with :: zT) kNw ky_M_with.cls ky_M_with.name kb_M_with 6 (some FieldType.long) { frames := 5, cells := 0, slots := 0, locals := 200 } b (zFi D kCl b 0 0 Q) 0 0 N (σ) 55 [(0, .ref (b + 54)), (1, .int (nI k))] []) : ∀ (m i : Nat) (σ : Nat → Option va_E) (g : Nat → Int32), i + m = n → MN b cI σ th fa ls rm n a gf gt gw F T → σ 62 = some (.inl (cI, 10, .inl g2)) → σ 65 = some (.inl (cI, 10, .inl g)) → (∀ v, v < i → g v = nI (P v)) → Fr 65 65 σ0 σ → Z l D kCl tys (kh_M_with :: zT) kNw ky_M_with.cls ky_M_with.name kb_M_with 6 (some FieldType.long) { frames := 5, cells := 0, slots := 0, locals := 200 } b (zFi D kCl b 0 0 Q) 0 0 N (σ) 29 [(2, .int (nI i)), (0, .ref (b + 54)), (1, .int (nI k))] [] := by
  intro m
  induction m with
  | zero =>
    intro i σ g hi hM h62 h65 hg hF
    obtain rfl : i = n := by omega
    have hn := hM.hn
    refine z_iload_n kd_M_with_29 0 rfl ?_
    refine z_aload_n kd_M_with_30 1 rfl ?_
    refine z_get kd_M_with_31 (kf_M_73 _) hM.h1 rfl ?_
    refine z_icmp_ge (tgt := 55) kd_M_with_34 (by decide) (fun c34 => ?_) (fun c34 => ?_)
    · refine z_pick (lv' := [(0, .ref (b + 54)), (1, .int (nI k))]) [1, 2] rfl ?_
      exact kk σ g hM h62 h65 hg hF
    · exact absurd (nI_le (Nat.le_refl i) (by omega)) c34
  | succ m ih =>
    intro i σ g hi hM h62 h65 hg hF
    have hlt : i < n := by omega
    have hn := hM.hn
    refine z_iload_n kd_M_with_29 0 rfl ?_
    refine z_aload_n kd_M_with_30 1 rfl ?_
    refine z_get kd_M_with_31 (kf_M_73 _) hM.h1 rfl ?_
    refine z_icmp_ge (tgt := 55) kd_M_with_34 (by decide) (fun c34 => ?_) (fun c34 => ?_)
    · exact absurd c34 (nI_ge hlt (by omega))
    · refine z_aload_n kd_M_with_37 1 rfl ?_
      refine z_get kd_M_with_38 (kf_M_42 _) hM.h1 rfl ?_
      refine z_iload_n kd_M_with_41 0 rfl ?_
      refine z_aload_n kd_M_with_42 1 rfl ?_
      refine z_get kd_M_with_43 (kf_M_32 _) hM.h1 rfl ?_
      refine z_iload_n kd_M_with_46 0 rfl ?_
      refine z_ialdN (t0 := 0) kd_M_with_47 (by assumption) h62 (by omega) (by decide) ?_
      refine z_topi (hp i hlt).1 ?_
      refine z_iastN (t0 := 0) kd_M_with_48 (by assumption) h65 (by omega) (by decide) ?_
      refine z_upd (fun σ_1 x65_1 q_1 => ?_)
      have x62_1 := (q_1 62 (by omega)).trans h62
      have hM_1 := hM.fr q_1 (by omega)
      refine z_iinc (v := (nI (i + 1))) (lv' := [(2, .int _), (0, .ref (b + 54)), (1, .int _)]) kd_M_with_49 0 rfl (nI_1 _) (by decide) rfl ?_
      refine z_goto (tgt := 29) kd_M_with_52 (by decide) ?_
      refine z_pick (lv' := [(2, .int (nI (i + 1))), (0, .ref (b + 54)), (1, .int (nI k))]) [0, 1, 2] rfl ?_
      exact ih (i + 1) _ _ (by omega) hM_1 x62_1 x65_1 (upd_P hg rfl) (Fr.tr hF (q_1.wide (by omega) (by omega)))
set_option maxHeartbeats 4000000 in
set_option maxRecDepth 100000 in
theorem l_M_wb {l : Launch} {D : va_G} {tys : List (ClassId × FieldType)} {b N : Nat} {σ0 : Nat → Option va_E} {cI cJ cA : ClassId} (ht0 : tys[0]? = some (cI, .int)) (ht1 : tys[1]? = some (cJ, .long)) (ht3 : tys[3]? = some (cA, .array .long)) {th fa ls rm : Value} {n a : Nat} {gf gt gw : Nat → Int32} {F T : Nat → Nat} {P : Nat → Nat} {g5 : Nat → Int32} (hp : ∀ v, v < n → g5 v = nI (P v)) {k : Nat} {v : Int64} {Q : Outcome → Nat → (Nat → Option va_E) → Prop} (kk : ∀ (σ : Nat → Option va_E) (g : Nat → Int32), MN b cI σ th fa ls rm n a gf gt gw F T → σ 65 = some (.inl (cI, 10, .inl g5)) → σ 62 = some (.inl (cI, 10, .inl g)) → (∀ v, v < n → g v = nI (P v)) → Fr 62 62 σ0 σ → Z l D kCl tys (kh_M_with :: zT) kNw ky_M_with.cls ky_M_with.name kb_M_with 6 (some FieldType.long) { frames := 5, cells := 0, slots := 0, locals := 200 } b (zFi D kCl b 0 0 Q) 0 0 N (σ) 124 [(3, .long v), (0, .ref (b + 54)), (1, .int (nI k))] []) : ∀ (m i : Nat) (σ : Nat → Option va_E) (g : Nat → Int32), i + m = n → MN b cI σ th fa ls rm n a gf gt gw F T → σ 65 = some (.inl (cI, 10, .inl g5)) → σ 62 = some (.inl (cI, 10, .inl g)) → (∀ v, v < i → g v = nI (P v)) → Fr 62 62 σ0 σ → Z l D kCl tys (kh_M_with :: zT) kNw ky_M_with.cls ky_M_with.name kb_M_with 6 (some FieldType.long) { frames := 5, cells := 0, slots := 0, locals := 200 } b (zFi D kCl b 0 0 Q) 0 0 N (σ) 95 [(5, .int (nI i)), (3, .long v), (0, .ref (b + 54)), (1, .int (nI k))] [] := by
  intro m
  induction m with
  | zero =>
    intro i σ g hi hM h65 h62 hg hF
    obtain rfl : i = n := by omega
    have hn := hM.hn
    refine z_iload kd_M_with_95 0 rfl ?_
    refine z_aload_n kd_M_with_97 2 rfl ?_
    refine z_get kd_M_with_98 (kf_M_73 _) hM.h1 rfl ?_
    refine z_icmp_ge (tgt := 124) kd_M_with_101 (by decide) (fun c101 => ?_) (fun c101 => ?_)
    · refine z_pick (lv' := [(3, .long v), (0, .ref (b + 54)), (1, .int (nI k))]) [1, 2, 3] rfl ?_
      exact kk σ g hM h65 h62 hg hF
    · exact absurd (nI_le (Nat.le_refl i) (by omega)) c101
  | succ m ih =>
    intro i σ g hi hM h65 h62 hg hF
    have hlt : i < n := by omega
    have hn := hM.hn
    refine z_iload kd_M_with_95 0 rfl ?_
    refine z_aload_n kd_M_with_97 2 rfl ?_
    refine z_get kd_M_with_98 (kf_M_73 _) hM.h1 rfl ?_
    refine z_icmp_ge (tgt := 124) kd_M_with_101 (by decide) (fun c101 => ?_) (fun c101 => ?_)
    · exact absurd c101 (nI_ge hlt (by omega))
    · refine z_aload_n kd_M_with_104 2 rfl ?_
      refine z_get kd_M_with_105 (kf_M_32 _) hM.h1 rfl ?_
      refine z_iload kd_M_with_108 0 rfl ?_
      refine z_aload_n kd_M_with_110 2 rfl ?_
      refine z_get kd_M_with_111 (kf_M_42 _) hM.h1 rfl ?_
      refine z_iload kd_M_with_114 0 rfl ?_
      refine z_ialdN (t0 := 0) kd_M_with_116 (by assumption) h65 (by omega) (by decide) ?_
      refine z_topi (hp i hlt) ?_
      refine z_iastN (t0 := 0) kd_M_with_117 (by assumption) h62 (by omega) (by decide) ?_
      refine z_upd (fun σ_1 x62_1 q_1 => ?_)
      have x65_1 := (q_1 65 (by omega)).trans h65
      have hM_1 := hM.fr q_1 (by omega)
      refine z_iinc (v := (nI (i + 1))) (lv' := [(5, .int _), (3, .long _), (0, .ref (b + 54)), (1, .int _)]) kd_M_with_118 0 rfl (nI_1 _) (by decide) rfl ?_
      refine z_goto (tgt := 95) kd_M_with_121 (by decide) ?_
      refine z_pick (lv' := [(5, .int (nI (i + 1))), (3, .long v), (0, .ref (b + 54)), (1, .int (nI k))]) [0, 1, 2, 3] rfl ?_
      exact ih (i + 1) _ _ (by omega) hM_1 x65_1 x62_1 (upd_P hg rfl) (Fr.tr hF (q_1.wide (by omega) (by omega)))
theorem bset_clr {X : Nat → Bool} {k : Nat} : bset (bclr (bset X k) k) k = bset X k := by
  funext j
  unfold bset bclr
  by_cases e : j = k
  · rw [if_pos e, if_pos e]
  · rw [if_neg e, if_neg e, if_neg e]; exact if_neg e
set_option maxHeartbeats 4000000 in
set_option maxRecDepth 100000 in
theorem c_M_with0 {l : Launch} {D : va_G} {tys : List (ClassId × FieldType)} {b N : Nat} {σ : Nat → Option va_E} {cI cJ cA : ClassId} (ht0 : tys[0]? = some (cI, .int)) (ht1 : tys[1]? = some (cJ, .long)) (ht3 : tys[3]? = some (cA, .array .long)) {cZ : ClassId} (ht2 : tys[2]? = some (cZ, .boolean)) {th fa ls rm : Value} {n a : Nat} {gf gt gw : Nat → Int32} {F T : Nat → Nat} (hM : MN b cI σ th fa ls rm n a gf gt gw F T) {P : Nat → Nat} {g2 g3 g4 : Nat → Int32} {g0 g1 : Nat → Int64} {X : Nat → Bool} (hp : PH n n g2 P) (hX : BX a g3 X) (h60 : σ 60 = some (.inl (cJ, 100, .inr (.inl g0)))) (h61 : σ 61 = some (.inl (cJ, 100, .inr (.inl g1)))) (h62 : σ 62 = some (.inl (cI, 10, .inl g2))) (h63 : σ 63 = some (.inl (cZ, 30, .inl g3))) (h64 : σ 64 = some (.inl (cI, 10, .inl g4))) {g5 : Nat → Int32} (h65 : σ 65 = some (.inl (cI, 10, .inl g5))) {k : Nat} (hk : k < a) (he : P (F k) = P (T k)) : zM l D kCl tys kNw b ky_M_with (kh_M_with :: zT) 5 200 0 0 [.ref (b + 54), .int (nI k)] N σ ((fun oc N' σ' => oc = .returned (some (.long (0))) ∧ N' = N ∧ (∃ g, σ' 60 = some (.inl (cJ, 100, .inr (.inl g)))) ∧ (∃ g, σ' 61 = some (.inl (cJ, 100, .inr (.inl g)))) ∧ (∃ g, PH n n g P ∧ σ' 62 = some (.inl (cI, 10, .inl g))) ∧ (∃ g X', σ' 63 = some (.inl (cZ, 30, .inl g)) ∧ BX a g X' ∧ bset X' k = bset X k) ∧ (∃ g, σ' 64 = some (.inl (cI, 10, .inl g))) ∧ (∃ g, σ' 65 = some (.inl (cI, 10, .inl g))) ∧ Fr 60 65 σ σ')) := by
  refine zM.of (by decide +kernel) rfl (Nat.le_of_ble_eq_true rfl) ?_
  refine z_pick (lv' := [(0, .ref (b + 54)), (1, .int (nI k))]) [0, 1] rfl ?_
  have hn := hM.hn
  have ha := hM.ha
  obtain ⟨kf, kfn, kt, ktn⟩ := hM.hft k hk
  have lF := (hp (F k) kfn).2
  have lT := (hp (T k) ktn).2
  refine z_aload_n kd_M_with_0 0 rfl ?_
  refine z_get kd_M_with_1 (kf_M_32 _) hM.h1 rfl ?_
  refine z_aload_n kd_M_with_4 0 rfl ?_
  refine z_get kd_M_with_5 (kf_M_7 _) hM.h1 rfl ?_
  refine z_iload_n kd_M_with_8 1 rfl ?_
  refine z_ialdN (t0 := 0) kd_M_with_9 (by assumption) hM.h2 (by omega) (by decide) ?_
  refine z_topi kf ?_
  refine z_ialdN (t0 := 0) kd_M_with_10 (by assumption) h62 (by omega) (by decide) ?_
  refine z_topi (hp (F k) kfn).1 ?_
  refine z_aload_n kd_M_with_11 0 rfl ?_
  refine z_get kd_M_with_12 (kf_M_32 _) hM.h1 rfl ?_
  refine z_aload_n kd_M_with_15 0 rfl ?_
  refine z_get kd_M_with_16 (kf_M_13 _) hM.h1 rfl ?_
  refine z_iload_n kd_M_with_19 1 rfl ?_
  refine z_ialdN (t0 := 0) kd_M_with_20 (by assumption) hM.h3 (by omega) (by decide) ?_
  refine z_topi kt ?_
  refine z_ialdN (t0 := 0) kd_M_with_21 (by assumption) h62 (by omega) (by decide) ?_
  refine z_topi (hp (T k) ktn).1 ?_
  refine z_icmp_ne (tgt := 27) kd_M_with_22 (by decide) (fun c22 => ?_) (fun c22 => ?_)
  · exact absurd (by rw [he]) c22
  · refine z_lconst (v := 0) kd_M_with_25 (by decide +kernel) ?_
    exact z_lret kd_M_with_26 rfl (Nat.le_of_ble_eq_true rfl) (Nat.le_of_ble_eq_true rfl) ⟨rfl, rfl, ⟨_, h60⟩, ⟨_, h61⟩, ⟨_, hp, h62⟩, ⟨_, X, h63, hX, rfl⟩, ⟨_, h64⟩, ⟨_, h65⟩, Fr.rf⟩
set_option maxHeartbeats 4000000 in
set_option maxRecDepth 100000 in
theorem c_M_with1 {l : Launch} {D : va_G} {tys : List (ClassId × FieldType)} {b N : Nat} {σ : Nat → Option va_E} {cI cJ cA : ClassId} (ht0 : tys[0]? = some (cI, .int)) (ht1 : tys[1]? = some (cJ, .long)) (ht3 : tys[3]? = some (cA, .array .long)) {cZ : ClassId} (ht2 : tys[2]? = some (cZ, .boolean)) {th fa ls rm : Value} {n a : Nat} {gf gt gw : Nat → Int32} {F T : Nat → Nat} (hM : MN b cI σ th fa ls rm n a gf gt gw F T) {P : Nat → Nat} {g2 g3 g4 : Nat → Int32} {g0 g1 : Nat → Int64} {X : Nat → Bool} (hp : PH n n g2 P) (hX : BX a g3 X) (h60 : σ 60 = some (.inl (cJ, 100, .inr (.inl g0)))) (h61 : σ 61 = some (.inl (cJ, 100, .inr (.inl g1)))) (h62 : σ 62 = some (.inl (cI, 10, .inl g2))) (h63 : σ 63 = some (.inl (cZ, 30, .inl g3))) (h64 : σ 64 = some (.inl (cI, 10, .inl g4))) {g5 : Nat → Int32} (h65 : σ 65 = some (.inl (cI, 10, .inl g5))) {k : Nat} (hk : k < a) (hne : ¬ P (F k) = P (T k)) : zM l D kCl tys kNw b ky_M_with (kh_M_with :: zT) 5 200 0 0 [.ref (b + 54), .int (nI k)] N σ ((fun oc N' σ' => oc = .returned (some (.long (wiV n a F T gw k X P))) ∧ N' = N ∧ (∃ g, σ' 60 = some (.inl (cJ, 100, .inr (.inl g)))) ∧ (∃ g, σ' 61 = some (.inl (cJ, 100, .inr (.inl g)))) ∧ (∃ g, PH n n g P ∧ σ' 62 = some (.inl (cI, 10, .inl g))) ∧ (∃ g X', σ' 63 = some (.inl (cZ, 30, .inl g)) ∧ BX a g X' ∧ bset X' k = bset X k) ∧ (∃ g, σ' 64 = some (.inl (cI, 10, .inl g))) ∧ (∃ g, σ' 65 = some (.inl (cI, 10, .inl g))) ∧ Fr 60 65 σ σ')) := by
  refine zM.of (by decide +kernel) rfl (Nat.le_of_ble_eq_true rfl) ?_
  refine z_pick (lv' := [(0, .ref (b + 54)), (1, .int (nI k))]) [0, 1] rfl ?_
  have hn := hM.hn
  have ha := hM.ha
  obtain ⟨kf, kfn, kt, ktn⟩ := hM.hft k hk
  have lF := (hp (F k) kfn).2
  have lT := (hp (T k) ktn).2
  refine z_aload_n kd_M_with_0 0 rfl ?_
  refine z_get kd_M_with_1 (kf_M_32 _) hM.h1 rfl ?_
  refine z_aload_n kd_M_with_4 0 rfl ?_
  refine z_get kd_M_with_5 (kf_M_7 _) hM.h1 rfl ?_
  refine z_iload_n kd_M_with_8 1 rfl ?_
  refine z_ialdN (t0 := 0) kd_M_with_9 (by assumption) hM.h2 (by omega) (by decide) ?_
  refine z_topi kf ?_
  refine z_ialdN (t0 := 0) kd_M_with_10 (by assumption) h62 (by omega) (by decide) ?_
  refine z_topi (hp (F k) kfn).1 ?_
  refine z_aload_n kd_M_with_11 0 rfl ?_
  refine z_get kd_M_with_12 (kf_M_32 _) hM.h1 rfl ?_
  refine z_aload_n kd_M_with_15 0 rfl ?_
  refine z_get kd_M_with_16 (kf_M_13 _) hM.h1 rfl ?_
  refine z_iload_n kd_M_with_19 1 rfl ?_
  refine z_ialdN (t0 := 0) kd_M_with_20 (by assumption) hM.h3 (by omega) (by decide) ?_
  refine z_topi kt ?_
  refine z_ialdN (t0 := 0) kd_M_with_21 (by assumption) h62 (by omega) (by decide) ?_
  refine z_topi (hp (T k) ktn).1 ?_
  refine z_icmp_ne (tgt := 27) kd_M_with_22 (by decide) (fun c22 => ?_) (fun c22 => ?_)
  · refine z_iconst (v := 0) kd_M_with_27 (by decide) ?_
    refine z_istore_n (lv' := [(2, .int _), (0, .ref (b + 54)), (1, .int _)]) kd_M_with_28 (by decide) rfl ?_
    refine z_pick (lv' := [(2, .int (nI 0)), (0, .ref (b + 54)), (1, .int (nI k))]) [0, 1, 2] rfl ?_
    refine l_M_wk ht0 ht1 ht3 hp (fun σ_1 g_1 hM_1 x62_1 x65_1 hk_1 q_1 => ?_) n 0 _ _ (by omega) hM h62 h65 (fun v hv => absurd hv (Nat.not_lt_zero v)) Fr.rf
    have x60_1 := (q_1 60 (by omega)).trans h60
    have x61_1 := (q_1 61 (by omega)).trans h61
    have x63_1 := (q_1 63 (by omega)).trans h63
    have x64_1 := (q_1 64 (by omega)).trans h64
    refine z_aload_n kd_M_with_55 0 rfl ?_
    refine z_aload_n kd_M_with_56 0 rfl ?_
    refine z_get kd_M_with_57 (kf_M_7 _) hM_1.h1 rfl ?_
    refine z_iload_n kd_M_with_60 1 rfl ?_
    refine z_ialdN (t0 := 0) kd_M_with_61 (by assumption) hM_1.h2 (by omega) (by decide) ?_
    refine z_topi kf ?_
    refine z_aload_n kd_M_with_62 0 rfl ?_
    refine z_get kd_M_with_63 (kf_M_13 _) hM_1.h1 rfl ?_
    refine z_iload_n kd_M_with_66 1 rfl ?_
    refine z_ialdN (t0 := 0) kd_M_with_67 (by assumption) hM_1.h3 (by omega) (by decide) ?_
    refine z_topi kt ?_
    refine z_callV (a := 54) (As := [_, _]) kd_M_with_68 (kg_M_144 _) hM_1.h1 kc_M (c_M_join ht0 ht1 ht3 hM_1 kfn ktn hp x62_1) rfl rfl (Nat.le_of_ble_eq_true rfl) ⟨Nat.le_of_ble_eq_true rfl, Nat.le_of_ble_eq_true rfl⟩ ⟨Nat.le_of_ble_eq_true rfl, Nat.le_of_ble_eq_true rfl⟩ ?_
    rintro _ _ σ_2 ⟨hv, rfl, ⟨g2_2, hp_2, x62_2⟩, q_2⟩
    cases hv
    refine z_eq (st' := [_]) rfl rfl rfl rfl ?_
    have x60_2 := (q_2 60 (by omega)).trans x60_1
    have x61_2 := (q_2 61 (by omega)).trans x61_1
    have x63_2 := (q_2 63 (by omega)).trans x63_1
    have x64_2 := (q_2 64 (by omega)).trans x64_1
    have x65_2 := (q_2 65 (by omega)).trans x65_1
    have hM_2 := hM_1.fr q_2 (by omega)
    refine z_istore_n (lv' := [(2, .int _), (0, .ref (b + 54)), (1, .int _)]) kd_M_with_71 (by decide) rfl ?_
    refine z_aload_n kd_M_with_72 1 rfl ?_
    refine z_get kd_M_with_73 (kf_M_35 _) hM_2.h1 rfl ?_
    refine z_iload_n kd_M_with_76 2 rfl ?_
    refine z_iconst (v := 1) kd_M_with_77 (by decide) ?_
    refine z_zastN (t0 := 2) kd_M_with_78 (by assumption) x63_2 (by omega) (by decide) rfl ?_
    refine z_upd (fun σ_3 x63_3 q_3 => ?_)
    have x60_3 := (q_3 60 (by omega)).trans x60_2
    have x61_3 := (q_3 61 (by omega)).trans x61_2
    have x62_3 := (q_3 62 (by omega)).trans x62_2
    have x64_3 := (q_3 64 (by omega)).trans x64_2
    have x65_3 := (q_3 65 (by omega)).trans x65_2
    have hM_3 := hM_2.fr q_3 (by omega)
    refine z_aload_n kd_M_with_79 1 rfl ?_
    refine z_callV (a := 54) (As := []) kd_M_with_80 (kg_M_127 _) hM_3.h1 kc_M (c_M_count ht0 ht1 ht3 ht2 hM_3 hp_2 (BX.set hX) x60_3 x61_3 x62_3 x63_3 x64_3) rfl rfl (Nat.le_of_ble_eq_true rfl) ⟨Nat.le_of_ble_eq_true rfl, Nat.le_of_ble_eq_true rfl⟩ ⟨Nat.le_of_ble_eq_true rfl, Nat.le_of_ble_eq_true rfl⟩ ?_
    rintro _ _ σ_4 ⟨hv, rfl, ⟨g0_4, x60_4⟩, ⟨g1_4, x61_4⟩, ⟨g4_4, x64_4⟩, e62_4, e63_4, q_4⟩
    cases hv
    refine z_eq (st' := [_]) rfl rfl rfl rfl ?_
    have x65_4 := (q_4 65 (by omega)).trans x65_3
    have hM_4 := hM_3.fr q_4 (by omega)
    refine z_aload_n kd_M_with_83 1 rfl ?_
    refine z_get kd_M_with_84 (kf_M_16 _) hM_4.h1 rfl ?_
    refine z_iload_n kd_M_with_87 2 rfl ?_
    refine z_ialdN (t0 := 0) kd_M_with_88 (by assumption) hM_4.h4 (by omega) (by decide) ?_
    refine z_i2l kd_M_with_89 ?_
    refine z_lmul kd_M_with_90 ?_
    refine z_lstore_n (lv' := [(3, .long _), (2, .int _), (0, .ref (b + 54)), (1, .int _)]) kd_M_with_91 (by decide) rfl ?_
    refine z_iconst (v := 0) kd_M_with_92 (by decide) ?_
    refine z_istore (lv' := [(5, .int _), (3, .long _), (2, .int _), (0, .ref (b + 54)), (1, .int _)]) kd_M_with_93 (by decide) rfl ?_
    refine z_pick (lv' := [(5, .int (nI 0)), (3, .long _), (0, .ref (b + 54)), (1, .int (nI k))]) [0, 1, 3, 4] rfl ?_
    refine l_M_wb ht0 ht1 ht3 hk_1 (fun σ_5 g_5 hM_5 x65_5 x62_5 hk_5 q_5 => ?_) n 0 _ _ (by omega) hM_4 x65_4 (e62_4.trans x62_3) (fun v hv => absurd hv (Nat.not_lt_zero v)) Fr.rf
    have x60_5 := (q_5 60 (by omega)).trans x60_4
    have x61_5 := (q_5 61 (by omega)).trans x61_4
    have x63_5 := (q_5 63 (by omega)).trans (e63_4.trans x63_3)
    have x64_5 := (q_5 64 (by omega)).trans x64_4
    refine z_aload_n kd_M_with_124 1 rfl ?_
    refine z_get kd_M_with_125 (kf_M_35 _) hM_5.h1 rfl ?_
    refine z_iload_n kd_M_with_128 2 rfl ?_
    refine z_iconst (v := 0) kd_M_with_129 (by decide) ?_
    refine z_zastN (t0 := 2) kd_M_with_130 (by assumption) x63_5 (by omega) (by decide) rfl ?_
    refine z_upd (fun σ_6 x63_6 q_6 => ?_)
    have x60_6 := (q_6 60 (by omega)).trans x60_5
    have x61_6 := (q_6 61 (by omega)).trans x61_5
    have x62_6 := (q_6 62 (by omega)).trans x62_5
    have x64_6 := (q_6 64 (by omega)).trans x64_5
    have x65_6 := (q_6 65 (by omega)).trans x65_5
    have hM_6 := hM_5.fr q_6 (by omega)
    refine z_lload_n kd_M_with_131 0 rfl ?_
    exact z_lret kd_M_with_132 rfl (Nat.le_of_ble_eq_true rfl) (Nat.le_of_ble_eq_true rfl) ⟨by unfold wiV; rw [if_neg hne], rfl, ⟨_, x60_6⟩, ⟨_, x61_6⟩, ⟨_, fun v hv => ⟨hk_5 v hv, (hp v hv).2⟩, x62_6⟩, ⟨_, _, x63_6, (BX.clr (BX.set hX)), bset_clr⟩, ⟨_, x64_6⟩, ⟨_, x65_6⟩, (Fr.tr (Fr.tr (Fr.tr (Fr.tr (Fr.tr (Fr.tr Fr.rf (q_1.wide (by omega) (by omega))) (q_2.wide (by omega) (by omega))) (q_3.wide (by omega) (by omega))) (q_4.wide (by omega) (by omega))) (q_5.wide (by omega) (by omega))) (q_6.wide (by omega) (by omega)))⟩
  · exact absurd ((nI_eq (by omega) (by omega)).mp c22) hne
theorem c_M_with {l : Launch} {D : va_G} {tys : List (ClassId × FieldType)} {b N : Nat} {σ : Nat → Option va_E} {cI cJ cA : ClassId} (ht0 : tys[0]? = some (cI, .int)) (ht1 : tys[1]? = some (cJ, .long)) (ht3 : tys[3]? = some (cA, .array .long)) {cZ : ClassId} (ht2 : tys[2]? = some (cZ, .boolean)) {th fa ls rm : Value} {n a : Nat} {gf gt gw : Nat → Int32} {F T : Nat → Nat} (hM : MN b cI σ th fa ls rm n a gf gt gw F T) {P : Nat → Nat} {g2 g3 g4 : Nat → Int32} {g0 g1 : Nat → Int64} {X : Nat → Bool} (hp : PH n n g2 P) (hX : BX a g3 X) (h60 : σ 60 = some (.inl (cJ, 100, .inr (.inl g0)))) (h61 : σ 61 = some (.inl (cJ, 100, .inr (.inl g1)))) (h62 : σ 62 = some (.inl (cI, 10, .inl g2))) (h63 : σ 63 = some (.inl (cZ, 30, .inl g3))) (h64 : σ 64 = some (.inl (cI, 10, .inl g4))) {g5 : Nat → Int32} (h65 : σ 65 = some (.inl (cI, 10, .inl g5))) {k : Nat} (hk : k < a) : zM l D kCl tys kNw b ky_M_with (kh_M_with :: zT) 5 200 0 0 [.ref (b + 54), .int (nI k)] N σ (fun oc N' σ' => oc = .returned (some (.long (wiV n a F T gw k X P))) ∧ N' = N ∧ (∃ g, σ' 60 = some (.inl (cJ, 100, .inr (.inl g)))) ∧ (∃ g, σ' 61 = some (.inl (cJ, 100, .inr (.inl g)))) ∧ (∃ g, PH n n g P ∧ σ' 62 = some (.inl (cI, 10, .inl g))) ∧ (∃ g X', σ' 63 = some (.inl (cZ, 30, .inl g)) ∧ BX a g X' ∧ bset X' k = bset X k) ∧ (∃ g, σ' 64 = some (.inl (cI, 10, .inl g))) ∧ (∃ g, σ' 65 = some (.inl (cI, 10, .inl g))) ∧ Fr 60 65 σ σ') := by
  by_cases e : P (F k) = P (T k)
  · have e2 : wiV n a F T gw k X P = 0 := by unfold wiV; rw [if_pos e]
    rw [e2]
    exact c_M_with0 ht0 ht1 ht3 ht2 hM hp hX h60 h61 h62 h63 h64 h65 hk e
  · exact c_M_with1 ht0 ht1 ht3 ht2 hM hp hX h60 h61 h62 h63 h64 h65 hk e
