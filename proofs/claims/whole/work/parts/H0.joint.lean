/-- both sides hold the same net and the same chips; q calls of the script are done -/
def LX (n a : Nat) (F T : Nat → Nat) (gw : Nat → Int32) (W : Nat → Nat) (C K C' K' : Nat → Int64) (q : Nat) : Prop := netOk n a F T gw ∧ (∀ k, k < a → gw k = nI (W k) ∧ 1 ≤ W k ∧ W k ≤ 9) ∧ ag n C C' ∧ ag n K K' ∧ (∀ j, n ≤ j → j < 10 → C j = 0 ∧ K j = 0) ∧ chO n (200 * (q : Int)) C
def LV (b : Nat) (cI cJ cA cP cZ : ClassId) (q : Nat) (σ : Nat → Option va_E) : Prop := ∃ (n a : Nat) (gf gt gw : Nat → Int32) (F T : Nat → Nat) (C K C' K' : Nat → Int64) (W : Nat → Nat), CS b cI cJ cA cP σ n a gf gt gw F T C K ∧ MS b cI cJ cZ σ n a gf gt gw F T C' K' ∧ LX n a F T gw W C K C' K' q
theorem LX.s {n a : Nat} {F T : Nat → Nat} {gw : Nat → Int32} {W : Nat → Nat} {C K C' K' : Nat → Int64} {q : Nat} (h : LX n a F T gw W C K C' K' q) : LX n a F T gw W C K C' K' (q + 1) := ⟨h.1, h.2.1, h.2.2.1, h.2.2.2.1, h.2.2.2.2.1, chO_up h.2.2.2.2.2 (by omega)⟩
theorem CS.fx {b lo hi : Nat} {cI cJ cA cP : ClassId} {σ σ' : Nat → Option va_E} {n a : Nat} {gf gt gw : Nat → Int32} {F T : Nat → Nat} {C K : Nat → Int64} (h : CS b cI cJ cA cP σ n a gf gt gw F T C K) (q : Fr lo hi σ σ') (hl : 53 < lo) : CS b cI cJ cA cP σ' n a gf gt gw F T C K := by
  obtain ⟨hN, h26, h27, c0, pa, ga, ts, rs, us, h25, tr, ss, pe⟩ := h
  exact ⟨hN.fr q (by omega), (q 26 (by omega)).trans h26, (q 27 (by omega)).trans h27, c0.fr q (by omega), pa.fr q (by omega), ga.fr q (by omega), ts.fr q (by omega), rs.fr q (by omega), us.fr q (by omega), (q 25 (by omega)).trans h25, tr.fr q (by omega), ss.fr q (by omega), pe.fr q (by omega)⟩
theorem MS.ft {b : Nat} {cI cJ cZ : ClassId} {σ σ' : Nat → Option va_E} {n a : Nat} {gf gt gw : Nat → Int32} {F T : Nat → Nat} {C K : Nat → Int64} (h : MS b cI cJ cZ σ n a gf gt gw F T C K) (q : ∀ k, 54 ≤ k → k ≤ 73 → σ' k = σ k) : MS b cI cJ cZ σ' n a gf gt gw F T C K := by
  obtain ⟨⟨th, fa, ls, rm, hm⟩, h58, h59, ⟨g0, r0⟩, ⟨g1, r1⟩, ⟨g2, r2⟩, ⟨g3, r3⟩, ⟨g4, r4⟩, ⟨g5, r5⟩, ⟨g6, r6⟩, ⟨g7, r7⟩, ⟨g8, r8⟩, ⟨g9, r9⟩, ⟨ga, ra⟩, ⟨gb, rb⟩, ⟨gc, rc⟩, ⟨gd, rd⟩⟩ := h
  exact ⟨⟨th, fa, ls, rm, (q 54 (by omega) (by omega)).trans hm.h1, (q 55 (by omega) (by omega)).trans hm.h2, (q 56 (by omega) (by omega)).trans hm.h3, (q 57 (by omega) (by omega)).trans hm.h4, hm.hn, hm.ha, hm.hft⟩, (q 58 (by omega) (by omega)).trans h58, (q 59 (by omega) (by omega)).trans h59, ⟨g0, (q 60 (by omega) (by omega)).trans r0⟩, ⟨g1, (q 61 (by omega) (by omega)).trans r1⟩, ⟨g2, (q 62 (by omega) (by omega)).trans r2⟩, ⟨g3, (q 63 (by omega) (by omega)).trans r3⟩, ⟨g4, (q 64 (by omega) (by omega)).trans r4⟩, ⟨g5, (q 65 (by omega) (by omega)).trans r5⟩, ⟨g6, (q 66 (by omega) (by omega)).trans r6⟩, ⟨g7, (q 67 (by omega) (by omega)).trans r7⟩, ⟨g8, (q 68 (by omega) (by omega)).trans r8⟩, ⟨g9, (q 69 (by omega) (by omega)).trans r9⟩, ⟨ga, (q 70 (by omega) (by omega)).trans ra⟩, ⟨gb, (q 71 (by omega) (by omega)).trans rb⟩, ⟨gc, (q 72 (by omega) (by omega)).trans rc⟩, ⟨gd, (q 73 (by omega) (by omega)).trans rd⟩⟩
theorem MS.fx {b lo hi : Nat} {cI cJ cZ : ClassId} {σ σ' : Nat → Option va_E} {n a : Nat} {gf gt gw : Nat → Int32} {F T : Nat → Nat} {C K : Nat → Int64} (h : MS b cI cJ cZ σ n a gf gt gw F T C K) (q : Fr lo hi σ σ') (hl : hi < 54) : MS b cI cJ cZ σ' n a gf gt gw F T C K := h.ft (fun k h1 _ => q k (by omega))
theorem MS.ob {b : Nat} {cI cJ cZ : ClassId} {σ : Nat → Option va_E} {n a : Nat} {gf gt gw : Nat → Int32} {F T : Nat → Nat} {C K : Nat → Int64} (h : MS b cI cJ cZ σ n a gf gt gw F T C K) : ∃ fs, σ 54 = some (.inr (9, fs)) := by
  obtain ⟨⟨th, fa, ls, rm, hm⟩, -⟩ := h
  exact ⟨_, hm.h1⟩
theorem LV.c0 {b : Nat} {cI cJ cA cP cZ : ClassId} {q : Nat} {σ : Nat → Option va_E} (h : LV b cI cJ cA cP cZ q σ) : ∃ fs, σ 0 = some (.inr (0, fs)) := by
  obtain ⟨n, a, gf, gt, gw, F, T, C, K, C', K', W, hC, -⟩ := h
  exact ⟨_, hC.2.2.2.1⟩
/-- a call of the one, the same call of the other: the same answer -/
def JN (l : Launch) (D : va_G) (tys : List (ClassId × FieldType)) (b : Nat) (cI cJ cA cP cZ : ClassId) (q N : Nat) (σ : Nat → Option va_E) (yC : MethodName) (wC : List Cond) (fr lo : Nat) (yM : MethodName) (wM : List Cond) (fr' lo' : Nat) (av : List Value) (v : Option Value) : Prop :=
  zM l D kCl tys kNw b yC wC fr lo 0 0 (.ref (b + 0) :: av) N σ (fun oc N' σ' => oc = .returned v ∧ N' = N ∧ (∃ fs, σ' 54 = some (.inr (9, fs))) ∧ zM l D kCl tys kNw b yM wM fr' lo' 0 0 (.ref (b + 54) :: av) N σ' (fun oc N'' σ'' => oc = .returned v ∧ N'' = N ∧ LV b cI cJ cA cP cZ (q + 1) σ'' ∧ σ'' 74 = σ 74))
theorem jn_gen {l : Launch} {D : va_G} {tys : List (ClassId × FieldType)} {b q N : Nat} {σ : Nat → Option va_E} {cI cJ cA cP cZ : ClassId} {yC yM : MethodName} {wC wM : List Cond} {fr lo fr' lo' : Nat} {av : List Value} {v : Option Value}
    {n a n2 a2 : Nat} {gf gt gw gf2 gt2 gw2 : Nat → Int32} {F T F2 T2 W2 : Nat → Nat} {C' K' C2 K2 C3 K3 : Nat → Int64} (hM : MS b cI cJ cZ σ n a gf gt gw F T C' K')
    (hc : zM l D kCl tys kNw b yC wC fr lo 0 0 (.ref (b + 0) :: av) N σ (fun oc N' σ' => oc = .returned v ∧ N' = N ∧ CS b cI cJ cA cP σ' n2 a2 gf2 gt2 gw2 F2 T2 C2 K2 ∧ Fr 0 53 σ σ'))
    (hm : ∀ σ', MS b cI cJ cZ σ' n a gf gt gw F T C' K' → zM l D kCl tys kNw b yM wM fr' lo' 0 0 (.ref (b + 54) :: av) N σ' (fun oc N' σ'' => oc = .returned v ∧ N' = N ∧ MS b cI cJ cZ σ'' n2 a2 gf2 gt2 gw2 F2 T2 C3 K3 ∧ Fr 54 73 σ' σ''))
    (hX : LX n2 a2 F2 T2 gw2 W2 C2 K2 C3 K3 (q + 1)) : JN l D tys b cI cJ cA cP cZ q N σ yC wC fr lo yM wM fr' lo' av v := by
  refine hc.weak ?_
  rintro oc N' σ' ⟨h1, h2, hC', q1⟩
  refine ⟨h1, h2, (hM.fx q1 (by omega)).ob, (hm σ' (hM.fx q1 (by omega))).weak ?_⟩
  rintro oc2 N2 σ2 ⟨h3, h4, hM', q2⟩
  exact ⟨h3, h4, ⟨n2, a2, gf2, gt2, gw2, F2, T2, C2, K2, C3, K3, W2, hC'.fx q2 (by omega), hM', hX⟩, (q2 74 (by omega)).trans (q1 74 (by omega))⟩
/-- whole numbers that are not negative; weights -/
theorem i32_nn {x : Int32} (h : ¬ x < 0) : x = nI x.toNatClampNeg ∧ x.toNatClampNeg < 2 ^ 31 := by
  have h3 : (0 : Int) ≤ x.toInt := Int32.le_iff_toInt_le.mp (Int32.not_lt.mp h)
  have hlt : x.toInt < 2 ^ 31 := Int32.toInt_lt x
  have h5 : x.toInt.toNat = x.toNatClampNeg := rfl
  have lt : x.toNatClampNeg < 2 ^ 31 := by rw [← h5]; omega
  refine ⟨?_, lt⟩
  apply Int32.toInt_inj.mp
  have h6 : (nI x.toNatClampNeg).toNatClampNeg = x.toNatClampNeg := nI_clamp lt
  have h7 : (nI x.toNatClampNeg).toInt.toNat = x.toNatClampNeg := h6
  have h8 : (0 : Int32) ≤ nI x.toNatClampNeg := nI_le (a := 0) (Nat.zero_le _) lt
  have h9 : (0 : Int) ≤ (nI x.toNatClampNeg).toInt := Int32.le_iff_toInt_le.mp h8
  generalize (nI x.toNatClampNeg).toInt = z at *
  omega
theorem zWt_t {x : Int32} (h : zWt x = true) : ¬ x < 1 ∧ ¬ 9 < x := by
  unfold zWt at h
  rw [Bool.and_eq_true] at h
  exact ⟨of_decide_eq_true h.1, of_decide_eq_true h.2⟩
theorem zWt_f {x : Int32} (h : zWt x = false) : x < 1 ∨ 9 < x := by
  by_cases c1 : x < 1
  · exact Or.inl c1
  by_cases c2 : 9 < x
  · exact Or.inr c2
  exfalso
  have : zWt x = true := by
    unfold zWt
    rw [decide_eq_true c1, decide_eq_true c2]; rfl
  rw [this] at h; cases h
theorem wt_ok {x : Int32} (h1 : ¬ x < 1) (h9 : ¬ 9 < x) : x = nI x.toNatClampNeg ∧ 1 ≤ x.toNatClampNeg ∧ x.toNatClampNeg ≤ 9 ∧ 1 ≤ x.toInt ∧ x.toInt ≤ 9 := by
  have a : (1 : Int) ≤ x.toInt := Int32.le_iff_toInt_le.mp (Int32.not_lt.mp h1)
  have c : x.toInt ≤ 9 := Int32.le_iff_toInt_le.mp (Int32.not_lt.mp h9)
  have h0 : ¬ x < 0 := fun q => by
    have : x.toInt < 0 := Int32.lt_iff_toInt_lt.mp q
    omega
  have h5 : x.toInt.toNat = x.toNatClampNeg := rfl
  exact ⟨(i32_nn h0).1, by rw [← h5]; omega, by rw [← h5]; omega, a, c⟩
theorem j_node {l : Launch} {D : va_G} {tys : List (ClassId × FieldType)} {b N q : Nat} {σ : Nat → Option va_E} {cI cJ cA cP cZ : ClassId} (ht0 : tys[0]? = some (cI, .int)) (ht1 : tys[1]? = some (cJ, .long)) (ht2 : tys[2]? = some (cZ, .boolean)) (ht3 : tys[3]? = some (cA, .array .long)) (hI : LV b cI cJ cA cP cZ q σ) : ∃ v : Int32, JN l D tys b cI cJ cA cP cZ q N σ ky_C_node (kh_C_node :: zT) 0 0 ky_M_node (kh_M_node :: zT) 10 360 [] (some (.int v)) := by
  obtain ⟨n, a, gf, gt, gw, F, T, C, K, C', K', W, hC, hM, hX⟩ := hI
  obtain ⟨hO, hW, hc, hk, hz, ho⟩ := id hX
  obtain ⟨hn, ha, hft, hwt⟩ := id hO
  rcases Nat.lt_or_ge n 10 with c | c
  · have h0 := hz n (Nat.le_refl _) c
    refine ⟨nI n, jn_gen (W2 := W) hM (c_C_nodeS ht0 ht1 ht3 hC c) (fun σ2 h => c_M_nodeS ht0 ht1 ht3 ht2 h c) ⟨⟨by omega, ha, fun k q => by have := hft k q; omega, hwt⟩, hW, fun j hj => ?_, fun j hj => ?_, fun j h1 h2 => hz j (by omega) h2, chO_s (chO_up ho (by omega)) h0.1⟩⟩
    · unfold vp_updL
      by_cases e : j = n
      · rw [if_pos e, e]; exact h0.1
      · rw [if_neg e]; exact hc j (by omega)
    · unfold vp_updL
      by_cases e : j = n
      · rw [if_pos e, e]; exact h0.2
      · rw [if_neg e]; exact hk j (by omega)
  · have e : n = 10 := by omega
    exact ⟨-1, jn_gen hM (c_C_nodeF ht0 ht1 ht3 hC e) (fun σ2 h => c_M_nodeF ht0 ht1 ht3 ht2 h e) hX.s⟩
theorem j_arc {l : Launch} {D : va_G} {tys : List (ClassId × FieldType)} {b N q : Nat} {σ : Nat → Option va_E} {cI cJ cA cP cZ : ClassId} (ht0 : tys[0]? = some (cI, .int)) (ht1 : tys[1]? = some (cJ, .long)) (ht2 : tys[2]? = some (cZ, .boolean)) (ht3 : tys[3]? = some (cA, .array .long)) (hI : LV b cI cJ cA cP cZ q σ) (x y wt : Int32) : ∃ v : Int32, JN l D tys b cI cJ cA cP cZ q N σ ky_C_arc (kh_C_arc :: zT) 20 700 ky_M_arc (kh_M_arc :: zT) 10 360 [.int x, .int y, .int wt] (some (.int v)) := by
  obtain ⟨n, a, gf, gt, gw, F, T, C, K, C', K', W, hC, hM, hX⟩ := hI
  obtain ⟨hO, hW, hc, hk, hz, ho⟩ := id hX
  obtain ⟨hn, ha, hft, hwt⟩ := id hO
  cases e1 : nd n x with
  | none => exact ⟨-1, jn_gen hM (c_C_arc0 ht0 ht1 ht3 hC (nd_none e1)) (fun σ2 h => c_M_arc0 ht0 ht1 ht3 ht2 h (nd_none e1)) hX.s⟩
  | some u =>
  obtain ⟨rfl, hu, z1⟩ := nd_some (by omega) e1
  cases e2 : nd n y with
  | none => exact ⟨-1, jn_gen hM (c_C_arc1 ht0 ht1 ht3 hC z1 (nd_none e2)) (fun σ2 h => c_M_arc1 ht0 ht1 ht3 ht2 h z1 (nd_none e2)) hX.s⟩
  | some v =>
  obtain ⟨rfl, hv, z2⟩ := nd_some (by omega) e2
  cases e3 : zWt wt with
  | false => exact ⟨-1, jn_gen hM (c_C_arc2 ht0 ht1 ht3 hC z1 z2 e3) (fun σ2 h => c_M_arc2 ht0 ht1 ht3 ht2 h z1 z2 (zWt_f e3)) hX.s⟩
  | true =>
  obtain ⟨w1, w9⟩ := zWt_t e3
  obtain ⟨o1, o2, o3, o4, o5⟩ := wt_ok w1 w9
  rcases Nat.lt_or_ge a 30 with c | c
  · refine ⟨nI a, jn_gen (W2 := updN W a wt.toNatClampNeg) hM (c_C_arc4 ht0 ht1 ht3 hC hu hv z1 z2 e3 c) (fun σ2 h => c_M_arc4 ht0 ht1 ht3 ht2 h hu hv z1 z2 w1 w9 c) ⟨⟨hn, by omega, fun k hk2 => ?_, fun k hk2 => ?_⟩, fun k hk2 => ?_, hc, hk, hz, chO_up ho (by omega)⟩⟩
    · unfold updN
      by_cases e : k = a
      · rw [if_pos e, if_pos e]; exact ⟨hu, hv⟩
      · rw [if_neg e, if_neg e]; exact hft k (by omega)
    · unfold upd
      by_cases e : k = a
      · rw [if_pos e]; exact ⟨o4, o5⟩
      · rw [if_neg e]; exact hwt k (by omega)
    · unfold upd updN
      by_cases e : k = a
      · rw [if_pos e, if_pos e]; exact ⟨o1, o2, o3⟩
      · rw [if_neg e, if_neg e]; exact hW k (by omega)
  · have e : a = 30 := by omega
    exact ⟨-1, jn_gen hM (c_C_arc3 ht0 ht1 ht3 hC z1 z2 e3 e) (fun σ2 h => c_M_arc3 ht0 ht1 ht3 ht2 h z1 z2 w1 w9 e) hX.s⟩
theorem j_weigh {l : Launch} {D : va_G} {tys : List (ClassId × FieldType)} {b N q : Nat} {σ : Nat → Option va_E} {cI cJ cA cP cZ : ClassId} (ht0 : tys[0]? = some (cI, .int)) (ht1 : tys[1]? = some (cJ, .long)) (ht2 : tys[2]? = some (cZ, .boolean)) (ht3 : tys[3]? = some (cA, .array .long)) (hI : LV b cI cJ cA cP cZ q σ) (x wt : Int32) : ∃ v : Int32, JN l D tys b cI cJ cA cP cZ q N σ ky_C_weigh (kh_C_weigh :: zT) 20 700 ky_M_weigh (kh_M_weigh :: zT) 10 360 [.int x, .int wt] (some (.int v)) := by
  obtain ⟨n, a, gf, gt, gw, F, T, C, K, C', K', W, hC, hM, hX⟩ := hI
  obtain ⟨hO, hW, hc, hk, hz, ho⟩ := id hX
  obtain ⟨hn, ha, hft, hwt⟩ := id hO
  cases e1 : nd a x with
  | none => exact ⟨-1, jn_gen hM (c_C_weigh0 ht0 ht1 ht3 hC (nd_none e1)) (fun σ2 h => c_M_weigh0 ht0 ht1 ht3 ht2 h (nd_none e1)) hX.s⟩
  | some k =>
  obtain ⟨rfl, hka, z1⟩ := nd_some (by omega) e1
  cases e3 : zWt wt with
  | false => exact ⟨-1, jn_gen hM (c_C_weigh1 ht0 ht1 ht3 hC z1 e3) (fun σ2 h => c_M_weigh1 ht0 ht1 ht3 ht2 h hka (zWt_f e3)) hX.s⟩
  | true =>
  obtain ⟨w1, w9⟩ := zWt_t e3
  obtain ⟨o1, o2, o3, o4, o5⟩ := wt_ok w1 w9
  refine ⟨gw k, jn_gen (W2 := updN W k wt.toNatClampNeg) hM (c_C_weigh2 ht0 ht1 ht3 hC hka z1 e3) (fun σ2 h => c_M_weigh2 ht0 ht1 ht3 ht2 h hka w1 w9) ⟨⟨hn, ha, hft, fun j hj => ?_⟩, fun j hj => ?_, hc, hk, hz, chO_up ho (by omega)⟩⟩
  · unfold upd
    by_cases e : j = k
    · rw [if_pos e]; exact ⟨o4, o5⟩
    · rw [if_neg e]; exact hwt j hj
  · unfold upd updN
    by_cases e : j = k
    · rw [if_pos e, if_pos e]; exact ⟨o1, o2, o3⟩
    · rw [if_neg e, if_neg e]; exact hW j hj
theorem j_drop {l : Launch} {D : va_G} {tys : List (ClassId × FieldType)} {b N q : Nat} {σ : Nat → Option va_E} {cI cJ cA cP cZ : ClassId} (ht0 : tys[0]? = some (cI, .int)) (ht1 : tys[1]? = some (cJ, .long)) (ht2 : tys[2]? = some (cZ, .boolean)) (ht3 : tys[3]? = some (cA, .array .long)) (hI : LV b cI cJ cA cP cZ q σ) : ∃ v : Int32, JN l D tys b cI cJ cA cP cZ q N σ ky_C_drop (kh_C_drop :: zT) 0 0 ky_M_drop (kh_M_drop :: zT) 10 360 [] (some (.int v)) := by
  obtain ⟨n, a, gf, gt, gw, F, T, C, K, C', K', W, hC, hM, hX⟩ := hI
  obtain ⟨hO, hW, hc, hk, hz, ho⟩ := id hX
  obtain ⟨hn, ha, hft, hwt⟩ := id hO
  rcases Nat.eq_zero_or_pos a with c | c
  · exact ⟨0, jn_gen hM (c_C_dropF ht0 ht1 ht3 hC c) (fun σ2 h => c_M_dropF ht0 ht1 ht3 ht2 h c) hX.s⟩
  · exact ⟨1, jn_gen (W2 := W) hM (c_C_dropS ht0 ht1 ht3 hC c) (fun σ2 h => c_M_dropS ht0 ht1 ht3 ht2 h c) ⟨⟨hn, by omega, fun k q => hft k (by omega), fun k q => hwt k (by omega)⟩, fun k q => hW k (by omega), hc, hk, hz, chO_up ho (by omega)⟩⟩
theorem j_trees {l : Launch} {D : va_G} {tys : List (ClassId × FieldType)} {b N q : Nat} {σ : Nat → Option va_E} {cI cJ cA cP cZ : ClassId} (ht0 : tys[0]? = some (cI, .int)) (ht1 : tys[1]? = some (cJ, .long)) (ht2 : tys[2]? = some (cZ, .boolean)) (ht3 : tys[3]? = some (cA, .array .long)) (hI : LV b cI cJ cA cP cZ q σ) : ∃ v : Int64, JN l D tys b cI cJ cA cP cZ q N σ ky_C_trees (kh_C_trees :: zT) 20 700 ky_M_trees (kh_M_trees :: zT) 4 180 [] (some (.long v)) := by
  obtain ⟨n, a, gf, gt, gw, F, T, C, K, C', K', W, hC, hM, hX⟩ := hI
  obtain ⟨hO, hW, hc, hk, hz, ho⟩ := id hX
  obtain ⟨hn, ha, hft, hwt⟩ := id hO
  have e := (cn_sop hO).1
  refine ⟨sopV n 0 a F T gw (fun v => v), jn_gen hM (c_C_trees ht0 ht1 ht3 hC) (fun σ2 h => (c_M_trees ht0 ht1 ht3 ht2 h).weak ?_) hX.s⟩
  rintro oc N' σ' ⟨h1, h2, h3, -, h5⟩
  exact ⟨by rw [h1, e], h2, h3, h5⟩
theorem j_through {l : Launch} {D : va_G} {tys : List (ClassId × FieldType)} {b N q : Nat} {σ : Nat → Option va_E} {cI cJ cA cP cZ : ClassId} (ht0 : tys[0]? = some (cI, .int)) (ht1 : tys[1]? = some (cJ, .long)) (ht2 : tys[2]? = some (cZ, .boolean)) (ht3 : tys[3]? = some (cA, .array .long)) (hI : LV b cI cJ cA cP cZ q σ) (x : Int32) : ∃ v : Int64, JN l D tys b cI cJ cA cP cZ q N σ ky_C_through (kh_C_through :: zT) 20 700 ky_M_through (kh_M_through :: zT) 8 300 [.int x] (some (.long v)) := by
  obtain ⟨n, a, gf, gt, gw, F, T, C, K, C', K', W, hC, hM, hX⟩ := hI
  obtain ⟨hO, hW, hc, hk, hz, ho⟩ := id hX
  obtain ⟨hn, ha, hft, hwt⟩ := id hO
  cases e1 : nd a x with
  | none => exact ⟨-1, jn_gen hM (c_C_through0 ht0 ht1 ht3 hC (nd_none e1)) (fun σ2 h => c_M_through0 ht0 ht1 ht3 ht2 h (nd_none e1)) hX.s⟩
  | some k =>
  obtain ⟨rfl, hka, z1⟩ := nd_some (by omega) e1
  refine ⟨swV n a F T gw k, jn_gen hM (c_C_through1 ht0 ht1 ht3 hC hka z1) (fun σ2 h => (c_M_through1 ht0 ht1 ht3 ht2 h hka).weak ?_) hX.s⟩
  rintro oc N' σ' ⟨h1, h2⟩
  exact ⟨by rw [h1, thV_ok hO hka], h2⟩
theorem j_rooted {l : Launch} {D : va_G} {tys : List (ClassId × FieldType)} {b N q : Nat} {σ : Nat → Option va_E} {cI cJ cA cP cZ : ClassId} (ht0 : tys[0]? = some (cI, .int)) (ht1 : tys[1]? = some (cJ, .long)) (ht2 : tys[2]? = some (cZ, .boolean)) (ht3 : tys[3]? = some (cA, .array .long)) (hI : LV b cI cJ cA cP cZ q σ) (x : Int32) : ∃ v : Int64, JN l D tys b cI cJ cA cP cZ q N σ ky_C_rooted (kh_C_rooted :: zT) 20 700 ky_M_rooted (kh_M_rooted :: zT) 8 300 [.int x] (some (.long v)) := by
  obtain ⟨n, a, gf, gt, gw, F, T, C, K, C', K', W, hC, hM, hX⟩ := hI
  obtain ⟨hO, hW, hc, hk, hz, ho⟩ := id hX
  obtain ⟨hn, ha, hft, hwt⟩ := id hO
  cases e1 : nd n x with
  | none => exact ⟨-1, jn_gen hM (c_C_rooted0 ht0 ht1 ht3 hC (nd_none e1)) (fun σ2 h => c_M_rooted0 ht0 ht1 ht3 ht2 h (nd_none e1)) hX.s⟩
  | some k =>
  obtain ⟨rfl, hka, z1⟩ := nd_some (by omega) e1
  refine ⟨dtN n (strM n k (foM F T gw Z0 a)), jn_gen hM (c_C_rooted1 ht0 ht1 ht3 hC hka z1) (fun σ2 h => (c_M_rooted1 ht0 ht1 ht3 ht2 h hka z1).weak ?_) hX.s⟩
  rintro oc N' σ' ⟨h1, h2⟩
  exact ⟨by rw [h1, roV_ok hO hka], h2⟩
theorem j_forests {l : Launch} {D : va_G} {tys : List (ClassId × FieldType)} {b N q : Nat} {σ : Nat → Option va_E} {cI cJ cA cP cZ : ClassId} (ht0 : tys[0]? = some (cI, .int)) (ht1 : tys[1]? = some (cJ, .long)) (ht2 : tys[2]? = some (cZ, .boolean)) (ht3 : tys[3]? = some (cA, .array .long)) (hI : LV b cI cJ cA cP cZ q σ) : ∃ v : Int64, JN l D tys b cI cJ cA cP cZ q N σ ky_C_forests (kh_C_forests :: zT) 20 700 ky_M_forests (kh_M_forests :: zT) 8 300 [] (some (.long v)) := by
  obtain ⟨n, a, gf, gt, gw, F, T, C, K, C', K', W, hC, hM, hX⟩ := hI
  obtain ⟨hO, hW, hc, hk, hz, ho⟩ := id hX
  obtain ⟨hn, ha, hft, hwt⟩ := id hO
  refine ⟨dtN n (mkM (fbM F T gw Z0 a) n), jn_gen hM (c_C_forests ht0 ht1 ht3 hC) (fun σ2 h => (c_M_forests ht0 ht1 ht3 ht2 h).weak ?_) hX.s⟩
  rintro oc N' σ' ⟨h1, h2⟩
  exact ⟨by rw [h1, foV_ok hO], h2⟩
theorem j_apart {l : Launch} {D : va_G} {tys : List (ClassId × FieldType)} {b N q : Nat} {σ : Nat → Option va_E} {cI cJ cA cP cZ : ClassId} (ht0 : tys[0]? = some (cI, .int)) (ht1 : tys[1]? = some (cJ, .long)) (ht2 : tys[2]? = some (cZ, .boolean)) (ht3 : tys[3]? = some (cA, .array .long)) (hI : LV b cI cJ cA cP cZ q σ) (x y : Int32) : ∃ v : Int64, JN l D tys b cI cJ cA cP cZ q N σ ky_C_apart (kh_C_apart :: zT) 20 700 ky_M_apart (kh_M_apart :: zT) 8 300 [.int x, .int y] (some (.long v)) := by
  obtain ⟨n, a, gf, gt, gw, F, T, C, K, C', K', W, hC, hM, hX⟩ := hI
  obtain ⟨hO, hW, hc, hk, hz, ho⟩ := id hX
  obtain ⟨hn, ha, hft, hwt⟩ := id hO
  cases e1 : nd n x with
  | none => exact ⟨0, jn_gen hM (c_C_apart0 ht0 ht1 ht3 hC (nd_none e1)) (fun σ2 h => c_M_apart0 ht0 ht1 ht3 ht2 h (nd_none e1)) hX.s⟩
  | some u =>
  obtain ⟨rfl, hu, z1⟩ := nd_some (by omega) e1
  cases e2 : nd n y with
  | none => exact ⟨0, jn_gen hM (c_C_apart1 ht0 ht1 ht3 hC z1 (nd_none e2)) (fun σ2 h => c_M_apart1 ht0 ht1 ht3 ht2 h z1 (nd_none e2)) hX.s⟩
  | some v =>
  obtain ⟨rfl, hv, z2⟩ := nd_some (by omega) e2
  refine ⟨apartV n a F T gw (nI u) (nI v), jn_gen hM (c_C_apart ht0 ht1 ht3 hC) (fun σ2 h => (c_M_apartN ht0 ht1 ht3 ht2 h hu hv z1 z2).weak ?_) hX.s⟩
  rintro oc N' σ' ⟨h1, h2⟩
  exact ⟨by rw [h1, apart_eq hO hu hv], h2⟩
theorem j_resistance {l : Launch} {D : va_G} {tys : List (ClassId × FieldType)} {b N q : Nat} {σ : Nat → Option va_E} {cI cJ cA cP cZ : ClassId} (ht0 : tys[0]? = some (cI, .int)) (ht1 : tys[1]? = some (cJ, .long)) (ht2 : tys[2]? = some (cZ, .boolean)) (ht3 : tys[3]? = some (cA, .array .long)) (hI : LV b cI cJ cA cP cZ q σ) (x y s : Int32) : ∃ v : Int64, JN l D tys b cI cJ cA cP cZ q N σ ky_C_resistance (kh_C_resistance :: zT) 22 750 ky_M_resistance (kh_M_resistance :: zT) 10 360 [.int x, .int y, .int s] (some (.long v)) := by
  obtain ⟨n, a, gf, gt, gw, F, T, C, K, C', K', W, hC, hM, hX⟩ := hI
  obtain ⟨hO, hW, hc, hk, hz, ho⟩ := id hX
  obtain ⟨hn, ha, hft, hwt⟩ := id hO
  cases e1 : nd n x with
  | none => exact ⟨-1, jn_gen hM (c_C_resistanceX ht0 ht1 ht3 hC (nd_none e1)) (fun σ2 h => c_M_resist0 ht0 ht1 ht3 ht2 h (nd_none e1)) hX.s⟩
  | some u =>
  obtain ⟨rfl, hu, z1⟩ := nd_some (by omega) e1
  cases e2 : nd n y with
  | none => exact ⟨-1, jn_gen hM (c_C_resistanceY ht0 ht1 ht3 hC z1 (nd_none e2)) (fun σ2 h => c_M_resist1 ht0 ht1 ht3 ht2 h z1 (nd_none e2)) hX.s⟩
  | some v =>
  obtain ⟨rfl, hv, z2⟩ := nd_some (by omega) e2
  by_cases cs : s < 0 ∨ 1 < s
  · exact ⟨-1, jn_gen hM (c_C_resistanceS ht0 ht1 ht3 hC z1 z2 (cs.imp id Int32.not_le.mpr)) (fun σ2 h => c_M_resist2 ht0 ht1 ht3 ht2 h z1 z2 cs) hX.s⟩
  have s0 : ¬ s < 0 := fun k => cs (Or.inl k)
  have s1 : ¬ 1 < s := fun k => cs (Or.inr k)
  have both : zM l D kCl tys kNw b ky_C_resistance (kh_C_resistance :: zT) 22 750 0 0 (.ref (b + 0) :: [.int (nI u), .int (nI v), .int s]) N σ (fun oc N' σ' => oc = .returned (some (.long (resV n a F T gw (nI u) (nI v) s))) ∧ N' = N ∧ CS b cI cJ cA cP σ' n a gf gt gw F T C K ∧ Fr 0 53 σ σ') := by
    have g0 : (0 : Int) ≤ s.toInt := Int32.le_iff_toInt_le.mp (Int32.not_lt.mp s0)
    have g1 : s.toInt ≤ 1 := Int32.le_iff_toInt_le.mp (Int32.not_lt.mp s1)
    have g2 : s = 0 ∨ s = 1 := by
      rcases (by omega : s.toInt = 0 ∨ s.toInt = 1) with g | g
      · exact Or.inl (Int32.toInt_inj.mp (g.trans (by decide)))
      · exact Or.inr (Int32.toInt_inj.mp (g.trans (by decide)))
    rcases g2 with rfl | rfl
    · exact c_C_resistance0 ht0 ht1 ht3 hC z1 z2
    · exact c_C_resistance1 ht0 ht1 ht3 hC z1 z2
  by_cases h0 : cnV n a F T gw x0 (fun v => v) = 0
  · refine ⟨-1, jn_gen hM (both.weak ?_) (fun σ2 h => c_M_resist3 ht0 ht1 ht3 ht2 h hu hv z1 z2 s0 s1 h0) hX.s⟩
    rintro oc N' σ' ⟨h1, h2⟩
    exact ⟨by rw [h1, res_0 hO h0], h2⟩
  · obtain ⟨r1, r2, r3⟩ := res_1 (s := s) hO hu hv h0
    refine ⟨resV n a F T gw (nI u) (nI v) s, jn_gen hM both (fun σ2 h => (c_M_resist4 ht0 ht1 ht3 ht2 h hu hv z1 z2 s0 s1 h0 r1 r2).weak ?_) hX.s⟩
    rintro oc N' σ' ⟨h1, h2⟩
    exact ⟨by rw [h1, r3], h2⟩
theorem j_tours {l : Launch} {D : va_G} {tys : List (ClassId × FieldType)} {b N q : Nat} {σ : Nat → Option va_E} {cI cJ cA cP cZ : ClassId} (ht0 : tys[0]? = some (cI, .int)) (ht1 : tys[1]? = some (cJ, .long)) (ht2 : tys[2]? = some (cZ, .boolean)) (ht3 : tys[3]? = some (cA, .array .long)) (hI : LV b cI cJ cA cP cZ q σ) : ∃ v : Int64, JN l D tys b cI cJ cA cP cZ q N σ ky_C_tours (kh_C_tours :: zT) 20 700 ky_M_tours (kh_M_tours :: zT) 10 360 [] (some (.long v)) := by
  obtain ⟨n, a, gf, gt, gw, F, T, C, K, C', K', W, hC, hM, hX⟩ := hI
  obtain ⟨hO, hW, hc, hk, hz, ho⟩ := id hX
  obtain ⟨hn, ha, hft, hwt⟩ := id hO
  refine ⟨trV F T W gw n a, jn_gen hM (c_C_tours ht0 ht1 ht3 hC (fun k q => ⟨(hW k q).1, (hW k q).2.2⟩)) (fun σ2 h => (c_M_tours ht0 ht1 ht3 ht2 h (fun k q => ⟨(hW k q).1, (hW k q).2.2⟩)).weak ?_) hX.s⟩
  rintro oc N' σ' ⟨h1, h2⟩
  exact ⟨by rw [h1, toV_ok hO (fun k q => (hW k q).2)], h2⟩
theorem j_drawn {l : Launch} {D : va_G} {tys : List (ClassId × FieldType)} {b N q : Nat} {σ : Nat → Option va_E} {cI cJ cA cP cZ : ClassId} (ht0 : tys[0]? = some (cI, .int)) (ht1 : tys[1]? = some (cJ, .long)) (ht2 : tys[2]? = some (cZ, .boolean)) (ht3 : tys[3]? = some (cA, .array .long)) (hI : LV b cI cJ cA cP cZ q σ) (p : Int64) : ∃ v : Int32, JN l D tys b cI cJ cA cP cZ q N σ ky_C_drawn (kh_C_drawn :: zT) 20 700 ky_M_drawn (kh_M_drawn :: zT) 10 360 [.long p] (some (.int v)) := by
  obtain ⟨n, a, gf, gt, gw, F, T, C, K, C', K', W, hC, hM, hX⟩ := hI
  obtain ⟨hO, hW, hc, hk, hz, ho⟩ := id hX
  obtain ⟨hn, ha, hft, hwt⟩ := id hO
  refine ⟨taV n a F T gw p, jn_gen hM (c_C_drawn ht0 ht1 ht3 hC) (fun σ2 h => (c_M_drawn ht0 ht1 ht3 ht2 h).weak ?_) hX.s⟩
  rintro oc N' σ' ⟨h1, h2⟩
  exact ⟨by rw [h1, drV_ok hO p], h2⟩
theorem j_place {l : Launch} {D : va_G} {tys : List (ClassId × FieldType)} {b N q : Nat} {σ : Nat → Option va_E} {cI cJ cA cP cZ : ClassId} (ht0 : tys[0]? = some (cI, .int)) (ht1 : tys[1]? = some (cJ, .long)) (ht2 : tys[2]? = some (cZ, .boolean)) (ht3 : tys[3]? = some (cA, .array .long)) (hI : LV b cI cJ cA cP cZ q σ) (t : Int32) : ∃ v : Int64, JN l D tys b cI cJ cA cP cZ q N σ ky_C_place (kh_C_place :: zT) 20 700 ky_M_place (kh_M_place :: zT) 10 360 [.int t] (some (.long v)) := by
  obtain ⟨n, a, gf, gt, gw, F, T, C, K, C', K', W, hC, hM, hX⟩ := hI
  obtain ⟨hO, hW, hc, hk, hz, ho⟩ := id hX
  obtain ⟨hn, ha, hft, hwt⟩ := id hO
  refine ⟨placeV n a F T gw t, jn_gen hM (c_C_place ht0 ht1 ht3 hC) (fun σ2 h => (c_M_place ht0 ht1 ht3 ht2 h).weak ?_) hX.s⟩
  rintro oc N' σ' ⟨h1, h2⟩
  exact ⟨by rw [h1, plV_ok hO t], h2⟩
theorem j_ring {l : Launch} {D : va_G} {tys : List (ClassId × FieldType)} {b N q : Nat} {σ : Nat → Option va_E} {cI cJ cA cP cZ : ClassId} (ht0 : tys[0]? = some (cI, .int)) (ht1 : tys[1]? = some (cJ, .long)) (ht2 : tys[2]? = some (cZ, .boolean)) (ht3 : tys[3]? = some (cA, .array .long)) (hI : LV b cI cJ cA cP cZ q σ) (x y : Int32) : ∃ v : Int32, JN l D tys b cI cJ cA cP cZ q N σ ky_C_ring (kh_C_ring :: zT) 20 700 ky_M_ring (kh_M_ring :: zT) 10 360 [.int x, .int y] (some (.int v)) := by
  obtain ⟨n, a, gf, gt, gw, F, T, C, K, C', K', W, hC, hM, hX⟩ := hI
  obtain ⟨hO, hW, hc, hk, hz, ho⟩ := id hX
  obtain ⟨hn, ha, hft, hwt⟩ := id hO
  by_cases c : x < 0 ∨ y < 0
  · have c' : ¬ (¬ x < 0 ∧ 0 ≤ y) := fun k => by
      rcases c with c | c
      · exact k.1 c
      · exact Int32.not_le.mpr c k.2
    exact ⟨-1, jn_gen hM (c_C_ring0 ht0 ht1 ht3 hC c') (fun σ2 h => c_M_ring0 ht0 ht1 ht3 ht2 h c) hX.s⟩
  have x0' : ¬ x < 0 := fun k => c (Or.inl k)
  have y0' : ¬ y < 0 := fun k => c (Or.inr k)
  obtain ⟨ex, lx⟩ := i32_nn x0'
  obtain ⟨ey, ly⟩ := i32_nn y0'
  generalize x.toNatClampNeg = r at ex lx
  generalize y.toNatClampNeg = k at ey ly
  subst ex ey
  rcases Nat.lt_or_ge r (ttV a F T).1 with hr | hr
  · obtain ⟨e, val, e1, e2, e3⟩ := ring_eq hft hn ha hr
    refine ⟨if k < val.1 then val.2 k else -1, jn_gen hM ((c_C_ring1 ht0 ht1 ht3 hC x0' ly).weak ?_) (fun σ2 h => c_M_ring2 ht0 ht1 ht3 ht2 h lx ly hr e1 (by decide) e2) hX.s⟩
    rintro oc N' σ' ⟨⟨R, h1⟩, h2⟩
    refine ⟨?_, h2⟩
    rw [h1]
    unfold ringV
    obtain ⟨r1, r2⟩ := e3 R
    rw [r1]
    by_cases kk : k < val.1
    · rw [if_pos kk, if_pos kk, r2 k kk]
    · rw [if_neg kk, if_neg kk]
  · refine ⟨-1, jn_gen hM ((c_C_ring1 ht0 ht1 ht3 hC x0' ly).weak ?_) (fun σ2 h => c_M_ring1 ht0 ht1 ht3 ht2 h lx ly hr) hX.s⟩
    rintro oc N' σ' ⟨⟨R, h1⟩, h2⟩
    refine ⟨?_, h2⟩
    rw [h1]
    unfold ringV
    rw [ring_no hft ha hr lx R, if_neg (by omega)]
theorem j_group {l : Launch} {D : va_G} {tys : List (ClassId × FieldType)} {b N q : Nat} {σ : Nat → Option va_E} {cI cJ cA cP cZ : ClassId} (ht0 : tys[0]? = some (cI, .int)) (ht1 : tys[1]? = some (cJ, .long)) (ht2 : tys[2]? = some (cZ, .boolean)) (ht3 : tys[3]? = some (cA, .array .long)) (hI : LV b cI cJ cA cP cZ q σ) (x : Int32) : ∃ v : Int64, JN l D tys b cI cJ cA cP cZ q N σ ky_C_group (kh_C_group :: zT) 20 700 ky_M_group (kh_M_group :: zT) 10 360 [.int x] (some (.long v)) := by
  obtain ⟨n, a, gf, gt, gw, F, T, C, K, C', K', W, hC, hM, hX⟩ := hI
  obtain ⟨hO, hW, hc, hk, hz, ho⟩ := id hX
  obtain ⟨hn, ha, hft, hwt⟩ := id hO
  by_cases h0 : cnV n a F T gw x0 (fun v => v) = 0
  · by_cases c : x < 0
    · refine ⟨-1, jn_gen hM ((c_C_group0 ht0 ht1 ht3 hC c).weak ?_) (fun σ2 h => c_M_group0 ht0 ht1 ht3 ht2 h h0) hX.s⟩
      rintro oc N' σ' ⟨⟨-, h1⟩, h2⟩
      exact ⟨h1, h2⟩
    · obtain ⟨ex, lx⟩ := i32_nn c
      generalize x.toNatClampNeg = k at ex lx
      subst ex
      refine ⟨-1, jn_gen hM ((c_C_group1 ht0 ht1 ht3 hC lx).weak ?_) (fun σ2 h => c_M_group0 ht0 ht1 ht3 ht2 h h0) hX.s⟩
      rintro oc N' σ' ⟨⟨G, h1⟩, h2⟩
      exact ⟨by rw [h1, (group_zero hO h0 k G).2], h2⟩
  · have hn0 : 0 < n := by
      rcases Nat.eq_zero_or_pos n with e | e
      · rw [e] at h0; exact absurd (if_pos rfl) h0
      · exact e
    obtain ⟨d0, d1, f, val, fv, vl, gv⟩ := group_eq hn0 hO h0
    by_cases c : x < 0
    · refine ⟨-1, jn_gen hM ((c_C_group0 ht0 ht1 ht3 hC c).weak ?_) (fun σ2 h => c_M_group1 ht0 ht1 ht3 ht2 h hn0 h0 d0 (by omega) fv (Or.inl c)) hX.s⟩
      rintro oc N' σ' ⟨⟨-, h1⟩, h2⟩
      exact ⟨h1, h2⟩
    · obtain ⟨ex, lx⟩ := i32_nn c
      generalize x.toNatClampNeg = k at ex lx
      subst ex
      rcases Nat.lt_or_ge k val.1 with kk | kk
      · refine ⟨val.2 k, jn_gen hM ((c_C_group1 ht0 ht1 ht3 hC lx).weak ?_) (fun σ2 h => c_M_group2 ht0 ht1 ht3 ht2 h hn0 h0 d0 (by omega) fv kk) hX.s⟩
        rintro oc N' σ' ⟨⟨G, h1⟩, h2⟩
        exact ⟨by rw [h1, (gv k G).2, if_pos kk], h2⟩
      · refine ⟨-1, jn_gen hM ((c_C_group1 ht0 ht1 ht3 hC lx).weak ?_) (fun σ2 h => c_M_group1 ht0 ht1 ht3 ht2 h hn0 h0 d0 (by omega) fv (Or.inr (nI_le kk lx))) hX.s⟩
        rintro oc N' σ' ⟨⟨G, h1⟩, h2⟩
        exact ⟨by rw [h1, (gv k G).2, if_neg (by omega)], h2⟩
theorem j_chips {l : Launch} {D : va_G} {tys : List (ClassId × FieldType)} {b N q : Nat} {σ : Nat → Option va_E} {cI cJ cA cP cZ : ClassId} (ht0 : tys[0]? = some (cI, .int)) (ht1 : tys[1]? = some (cJ, .long)) (ht2 : tys[2]? = some (cZ, .boolean)) (ht3 : tys[3]? = some (cA, .array .long)) (hI : LV b cI cJ cA cP cZ q σ) (x y : Int32) : ∃ v : Int64, JN l D tys b cI cJ cA cP cZ q N σ ky_C_chips (kh_C_chips :: zT) 20 700 ky_M_chips (kh_M_chips :: zT) 10 360 [.int x, .int y] (some (.long v)) := by
  obtain ⟨n, a, gf, gt, gw, F, T, C, K, C', K', W, hC, hM, hX⟩ := hI
  obtain ⟨hO, hW, hc, hk, hz, ho⟩ := id hX
  obtain ⟨hn, ha, hft, hwt⟩ := id hO
  cases e1 : nd n x with
  | none => exact ⟨-1, jn_gen hM (c_C_chips0 ht0 ht1 ht3 hC (nd_none e1)) (fun σ2 h => c_M_chips0 ht0 ht1 ht3 ht2 h (nd_none e1)) hX.s⟩
  | some u =>
  obtain ⟨rfl, hu, z1⟩ := nd_some (by omega) e1
  by_cases c : y < 0 ∨ 200 < y
  · have c' : ¬ (¬ y < 0 ∧ y ≤ 200) := fun k => by
      rcases c with c | c
      · exact k.1 c
      · exact Int32.not_le.mpr c k.2
    exact ⟨-1, jn_gen hM (c_C_chips1 ht0 ht1 ht3 hC z1 c') (fun σ2 h => c_M_chips1 ht0 ht1 ht3 ht2 h z1 c) hX.s⟩
  have y0 : ¬ y < 0 := fun k => c (Or.inl k)
  have y2 : ¬ 200 < y := fun k => c (Or.inr k)
  have g0 : (0 : Int) ≤ y.toInt := Int32.le_iff_toInt_le.mp (Int32.not_lt.mp y0)
  have g1 : y.toInt ≤ 200 := Int32.le_iff_toInt_le.mp (Int32.not_lt.mp y2)
  have g2 : y.toInt64.toInt = y.toInt := by rw [i32_64, i64_oft (by omega) (by omega)]
  refine ⟨C u, jn_gen hM (c_C_chips2 ht0 ht1 ht3 hC hu z1 ⟨y0, Int32.not_lt.mp y2⟩) (fun σ2 h => (c_M_chips2 ht0 ht1 ht3 ht2 h hu z1 y0 y2).weak ?_) (W2 := W) ⟨hO, hW, hc.up rfl, hk, fun j h1 h2 => ⟨?_, (hz j h1 h2).2⟩, ?_⟩⟩
  · rintro oc N' σ' ⟨h1, h2⟩
    exact ⟨by rw [h1, hc u hu], h2⟩
  · unfold vp_updL
    rw [if_neg (by omega)]; exact (hz j h1 h2).1
  · have := chO_set (y := y.toInt64) ho hu (by omega) (by omega)
    exact chO_up this (by omega)
theorem j_level {l : Launch} {D : va_G} {tys : List (ClassId × FieldType)} {b N q : Nat} {σ : Nat → Option va_E} {cI cJ cA cP cZ : ClassId} (ht0 : tys[0]? = some (cI, .int)) (ht1 : tys[1]? = some (cJ, .long)) (ht2 : tys[2]? = some (cZ, .boolean)) (ht3 : tys[3]? = some (cA, .array .long)) (hI : LV b cI cJ cA cP cZ q σ) (x : Int32) : ∃ v : Int64, JN l D tys b cI cJ cA cP cZ q N σ ky_C_level (kh_C_level :: zT) 20 700 ky_M_level (kh_M_level :: zT) 10 360 [.int x] (some (.long v)) := by
  obtain ⟨n, a, gf, gt, gw, F, T, C, K, C', K', W, hC, hM, hX⟩ := hI
  obtain ⟨hO, hW, hc, hk, hz, ho⟩ := id hX
  obtain ⟨hn, ha, hft, hwt⟩ := id hO
  cases e1 : nd n x with
  | none => exact ⟨-1, jn_gen hM (c_C_level0 ht0 ht1 ht3 hC (nd_none e1)) (fun σ2 h => c_M_level0 ht0 ht1 ht3 ht2 h (nd_none e1)) hX.s⟩
  | some u =>
  obtain ⟨rfl, hu, z1⟩ := nd_some (by omega) e1
  refine ⟨C u, jn_gen hM (c_C_level1 ht0 ht1 ht3 hC hu z1) (fun σ2 h => (c_M_level1 ht0 ht1 ht3 ht2 h hu z1).weak ?_) hX.s⟩
  rintro oc N' σ' ⟨h1, h2⟩
  exact ⟨by rw [h1, hc u hu], h2⟩
theorem j_fired {l : Launch} {D : va_G} {tys : List (ClassId × FieldType)} {b N q : Nat} {σ : Nat → Option va_E} {cI cJ cA cP cZ : ClassId} (ht0 : tys[0]? = some (cI, .int)) (ht1 : tys[1]? = some (cJ, .long)) (ht2 : tys[2]? = some (cZ, .boolean)) (ht3 : tys[3]? = some (cA, .array .long)) (hI : LV b cI cJ cA cP cZ q σ) (x : Int32) : ∃ v : Int64, JN l D tys b cI cJ cA cP cZ q N σ ky_C_fired (kh_C_fired :: zT) 20 700 ky_M_fired (kh_M_fired :: zT) 10 360 [.int x] (some (.long v)) := by
  obtain ⟨n, a, gf, gt, gw, F, T, C, K, C', K', W, hC, hM, hX⟩ := hI
  obtain ⟨hO, hW, hc, hk, hz, ho⟩ := id hX
  obtain ⟨hn, ha, hft, hwt⟩ := id hO
  cases e1 : nd n x with
  | none => exact ⟨0, jn_gen hM (c_C_fired0 ht0 ht1 ht3 hC (nd_none e1)) (fun σ2 h => c_M_fired0 ht0 ht1 ht3 ht2 h (nd_none e1)) hX.s⟩
  | some u =>
  obtain ⟨rfl, hu, z1⟩ := nd_some (by omega) e1
  refine ⟨K u, jn_gen hM (c_C_fired1 ht0 ht1 ht3 hC hu z1) (fun σ2 h => (c_M_fired1 ht0 ht1 ht3 ht2 h hu z1).weak ?_) hX.s⟩
  rintro oc N' σ' ⟨h1, h2⟩
  exact ⟨by rw [h1, hk u hu], h2⟩
theorem j_settle {l : Launch} {D : va_G} {tys : List (ClassId × FieldType)} {b N q : Nat} {σ : Nat → Option va_E} {cI cJ cA cP cZ : ClassId} (ht0 : tys[0]? = some (cI, .int)) (ht1 : tys[1]? = some (cJ, .long)) (ht2 : tys[2]? = some (cZ, .boolean)) (ht3 : tys[3]? = some (cA, .array .long)) (hI : LV b cI cJ cA cP cZ q σ) (hq : q ≤ 514) (x : Int32) : ∃ v : Int64, JN l D tys b cI cJ cA cP cZ q N σ ky_C_settle (kh_C_settle :: zT) 20 700 ky_M_settle (kh_M_settle :: zT) 10 360 [.int x] (some (.long v)) := by
  obtain ⟨n, a, gf, gt, gw, F, T, C, K, C', K', W, hC, hM, hX⟩ := hI
  obtain ⟨hO, hW, hc, hk, hz, ho⟩ := id hX
  obtain ⟨hn, ha, hft, hwt⟩ := id hO
  cases e1 : nd n x with
  | none => exact ⟨-1, jn_gen hM (c_C_settle0 ht0 ht1 ht3 hC (nd_none e1)) (fun σ2 h => c_M_settle0 ht0 ht1 ht3 ht2 h (nd_none e1)) hX.s⟩
  | some s =>
  obtain ⟨rfl, hs, z1⟩ := nd_some (by omega) e1
  have t1 := trees_one hO (show 0 < n by omega)
  by_cases h0 : cnV n a F T gw x0 (fun v => v) = 0
  · have p1 : ¬ (ftV n a F T).2.1 = 1 := fun k => t1.mpr k h0
    exact ⟨-1, jn_gen hM (c_C_settle1 ht0 ht1 ht3 hC hs z1 p1) (fun σ2 h => c_M_settle1 ht0 ht1 ht3 ht2 h hs z1 h0) hX.s⟩
  · have p1 := t1.mp h0
    obtain ⟨val, v1, v2, v3, v4, v5⟩ := settle_eq (K := K) hO hs p1 ho (by omega) hc
    have dg : ∀ v, v < n → v ≠ s → ¬ dgV F T gw a v = 0 := fun v h1 h2 k => by
      have := deg_64 hO hs p1 v h1 h2
      rw [k] at this; exact absurd this (by decide)
    have hi := fun j h1 h2 => rnV_hi (M := fbM F T gw Z0 a) (n := n) (s := s) (q := j) (C := C) (K := K) h1 h2
    have cc := c_C_settle2 (l := l) (D := D) (N := N) ht0 ht1 ht3 hC hs z1 p1
    generalize rnV (fbM F T gw Z0 a) n s C K = Y at v2 v3 v4 hi cc
    refine ⟨smL Y.2 n 0 0, jn_gen (C3 := bpL n val.1 C') (K3 := bpL n val.2.1 K') hM cc (fun σ2 h => (c_M_settle2 ht0 ht1 ht3 ht2 h hs z1 h0 dg v1).weak ?_) (W2 := W) ⟨hO, hW, fun j hj => ?_, fun j hj => ?_, fun j h1 h2 => ?_, ?_⟩⟩
    · rintro oc N' σ' ⟨h1, h2⟩
      exact ⟨by rw [h1, v4], h2⟩
    · rw [← v2 j hj]; exact (if_pos hj).symm
    · rw [← v3 j hj]; exact (if_pos hj).symm
    · exact ⟨(hi j h1 h2).1.trans (hz j h1 h2).1, (hi j h1 h2).2⟩
    · exact chO_up (v5.ag v2) (by omega)
theorem j_recurrent {l : Launch} {D : va_G} {tys : List (ClassId × FieldType)} {b N q : Nat} {σ : Nat → Option va_E} {cI cJ cA cP cZ : ClassId} (ht0 : tys[0]? = some (cI, .int)) (ht1 : tys[1]? = some (cJ, .long)) (ht2 : tys[2]? = some (cZ, .boolean)) (ht3 : tys[3]? = some (cA, .array .long)) (hI : LV b cI cJ cA cP cZ q σ) (hq : q ≤ 514) (x : Int32) : ∃ v : Int32, JN l D tys b cI cJ cA cP cZ q N σ ky_C_recurrent (kh_C_recurrent :: zT) 20 700 ky_M_recurrent (kh_M_recurrent :: zT) 10 360 [.int x] (some (.int v)) := by
  obtain ⟨n, a, gf, gt, gw, F, T, C, K, C', K', W, hC, hM, hX⟩ := hI
  obtain ⟨hO, hW, hc, hk, hz, ho⟩ := id hX
  obtain ⟨hn, ha, hft, hwt⟩ := id hO
  cases e1 : nd n x with
  | none => exact ⟨-1, jn_gen hM (c_C_recurrent0 ht0 ht1 ht3 hC (nd_none e1)) (fun σ2 h => c_M_recurrent0 ht0 ht1 ht3 ht2 h (nd_none e1)) hX.s⟩
  | some s =>
  obtain ⟨rfl, hs, z1⟩ := nd_some (by omega) e1
  have t1 := trees_one hO (show 0 < n by omega)
  by_cases h0 : cnV n a F T gw x0 (fun v => v) = 0
  · have p1 : ¬ (ftV n a F T).2.1 = 1 := fun k => t1.mpr k h0
    exact ⟨-1, jn_gen hM (c_C_recurrent1 ht0 ht1 ht3 hC hs z1 p1) (fun σ2 h => c_M_recurrent1 ht0 ht1 ht3 ht2 h hs z1 h0) hX.s⟩
  have p1 := t1.mp h0
  have dg : ∀ v, v < n → v ≠ s → ¬ dgV F T gw a v = 0 := fun v h1 h2 k => by
    have := deg_64 hO hs p1 v h1 h2
    rw [k] at this; exact absurd this (by decide)
  by_cases hb : ∀ v, v < n → v = s ∨ bpL n C' zz v < dgV F T gw a v
  · have ry := fun Kt Th => recur_yes (Kt := Kt) (Th := Th) hO hs p1 ho (by omega) hc hb
    obtain ⟨val, v1, -⟩ := ry K C
    refine ⟨zB (decide (∀ v, v < n → v = s ∨ val.2.1 v = 1)), jn_gen hM ((c_C_recurrent2 ht0 ht1 ht3 hC hs z1 p1).weak ?_) (fun σ2 h => c_M_recurrent3 ht0 ht1 ht3 ht2 h hs z1 h0 hb dg v1) hX.s⟩
    rintro oc N' σ' ⟨⟨Th, Kt, h1⟩, h2⟩
    refine ⟨?_, h2⟩
    obtain ⟨val2, u1, u2⟩ := ry Kt Th
    obtain rfl : val = val2 := Option.some.inj (v1.symm.trans u1)
    rw [h1, u2]
    by_cases hp : ∀ v, v < n → v = s ∨ val.2.1 v = 1
    · rw [if_pos hp, zBt hp]; rfl
    · rw [if_neg hp, zBf hp]; rfl
  · refine ⟨0, jn_gen hM ((c_C_recurrent2 ht0 ht1 ht3 hC hs z1 p1).weak ?_) (fun σ2 h => c_M_recurrent2 ht0 ht1 ht3 ht2 h hs z1 h0 hb) hX.s⟩
    rintro oc N' σ' ⟨⟨Th, Kt, h1⟩, h2⟩
    exact ⟨by rw [h1, recur_no hc hb]; rfl, h2⟩
theorem j_told {l : Launch} {D : va_G} {tys : List (ClassId × FieldType)} {b N q : Nat} {σ : Nat → Option va_E} {cI cJ cA cP cZ : ClassId} (ht0 : tys[0]? = some (cI, .int)) (ht1 : tys[1]? = some (cJ, .long)) (ht2 : tys[2]? = some (cZ, .boolean)) (ht3 : tys[3]? = some (cA, .array .long)) (hI : LV b cI cJ cA cP cZ q σ) (x : Int32) : ∃ v : Int32, JN l D tys b cI cJ cA cP cZ q N σ ky_C_told (kh_C_told :: zT) 20 700 ky_M_told (kh_M_told :: zT) 10 360 [.int x] (some (.int v)) := by
  obtain ⟨n, a, gf, gt, gw, F, T, C, K, C', K', W, hC, hM, hX⟩ := hI
  obtain ⟨hO, hW, hc, hk, hz, ho⟩ := id hX
  obtain ⟨hn, ha, hft, hwt⟩ := id hO
  by_cases e0 : x = 0
  · subst e0
    exact ⟨nI n, jn_gen hM (c_C_told0 ht0 ht1 ht3 hC) (fun σ2 h => c_M_told0 ht0 ht1 ht3 ht2 h) hX.s⟩
  by_cases e1 : x = 1
  · subst e1
    exact ⟨nI a, jn_gen hM (c_C_told1 ht0 ht1 ht3 hC) (fun σ2 h => c_M_told1 ht0 ht1 ht3 ht2 h) hX.s⟩
  by_cases e2 : x = 2
  · subst e2
    refine ⟨nI (ftV n a F T).2.1, jn_gen hM (c_C_told2 ht0 ht1 ht3 hC) (fun σ2 h => (c_M_told2 ht0 ht1 ht3 ht2 h).weak ?_) hX.s⟩
    rintro oc N' σ' ⟨h1, h2⟩
    exact ⟨by rw [h1, told2_eq hft hn ha], h2⟩
  by_cases e3 : x = 3
  · subst e3
    refine ⟨nI (ttV a F T).1, jn_gen hM ((c_C_told3 ht0 ht1 ht3 hC).weak ?_) (fun σ2 h => c_M_told3 ht0 ht1 ht3 ht2 h) hX.s⟩
    rintro oc N' σ' ⟨h1, h2⟩
    exact ⟨by rw [h1, told3 hft ha], h2⟩
  by_cases e4 : x = 4
  · subst e4
    rcases Nat.eq_zero_or_pos (ttV a F T).1 with r | r
    · refine ⟨0, jn_gen hM ((c_C_told4 ht0 ht1 ht3 hC).weak ?_) (fun σ2 h => c_M_told4 ht0 ht1 ht3 ht2 h r) hX.s⟩
      rintro oc N' σ' ⟨⟨R, h1⟩, h2⟩
      have := ring_no (n := n) (r := 0) hft ha (by omega) (by decide) R
      exact ⟨by rw [h1]; exact congrArg (fun z => Outcome.returned (some (Value.int (nI z)))) this, h2⟩
    · obtain ⟨e, val, f1, f2, f3⟩ := ring_eq hft hn ha r
      refine ⟨nI val.1, jn_gen hM ((c_C_told4 ht0 ht1 ht3 hC).weak ?_) (fun σ2 h => c_M_told4b ht0 ht1 ht3 ht2 h r f1 (by decide) f2) hX.s⟩
      rintro oc N' σ' ⟨⟨R, h1⟩, h2⟩
      exact ⟨by rw [h1]; exact congrArg (fun z => Outcome.returned (some (Value.int (nI z)))) (f3 R).1, h2⟩
  by_cases e5 : x = 5
  · subst e5
    by_cases h0 : cnV n a F T gw x0 (fun v => v) = 0
    · refine ⟨0, jn_gen hM ((c_C_told5 ht0 ht1 ht3 hC).weak ?_) (fun σ2 h => c_M_told5a ht0 ht1 ht3 ht2 h h0) hX.s⟩
      rintro oc N' σ' ⟨⟨G, h1⟩, h2⟩
      exact ⟨by rw [h1, (group_zero hO h0 0 G).1]; rfl, h2⟩
    · have hn0 : 0 < n := by
        rcases Nat.eq_zero_or_pos n with e | e
        · rw [e] at h0; exact absurd (if_pos rfl) h0
        · exact e
      obtain ⟨d0, d1, f, val, fv, vl, gv⟩ := group_eq hn0 hO h0
      refine ⟨nI val.1, jn_gen hM ((c_C_told5 ht0 ht1 ht3 hC).weak ?_) (fun σ2 h => c_M_told5b ht0 ht1 ht3 ht2 h hn0 h0 d0 (by omega) fv) hX.s⟩
      rintro oc N' σ' ⟨⟨G, h1⟩, h2⟩
      exact ⟨by rw [h1, (gv 0 G).1], h2⟩
  have hx : x.toInt < 0 ∨ 5 < x.toInt := by
    rcases Int.lt_or_le x.toInt 0 with h | h
    · exact Or.inl h
    rcases Int.lt_or_le 5 x.toInt with h2 | h2
    · exact Or.inr h2
    exfalso
    have f0 : ¬ x.toInt = 0 := fun q => e0 (Int32.toInt_inj.mp (q.trans (by decide)))
    have f1 : ¬ x.toInt = 1 := fun q => e1 (Int32.toInt_inj.mp (q.trans (by decide)))
    have f2 : ¬ x.toInt = 2 := fun q => e2 (Int32.toInt_inj.mp (q.trans (by decide)))
    have f3 : ¬ x.toInt = 3 := fun q => e3 (Int32.toInt_inj.mp (q.trans (by decide)))
    have f4 : ¬ x.toInt = 4 := fun q => e4 (Int32.toInt_inj.mp (q.trans (by decide)))
    have f5 : ¬ x.toInt = 5 := fun q => e5 (Int32.toInt_inj.mp (q.trans (by decide)))
    omega
  exact ⟨-1, jn_gen hM (c_C_toldN ht0 ht1 ht3 hC hx) (fun σ2 h => c_M_toldN ht0 ht1 ht3 ht2 h hx) hX.s⟩
theorem j_clear {l : Launch} {D : va_G} {tys : List (ClassId × FieldType)} {b N q : Nat} {σ : Nat → Option va_E} {cI cJ cA cP cZ : ClassId} (ht0 : tys[0]? = some (cI, .int)) (ht1 : tys[1]? = some (cJ, .long)) (ht2 : tys[2]? = some (cZ, .boolean)) (ht3 : tys[3]? = some (cA, .array .long)) (hI : LV b cI cJ cA cP cZ q σ) : JN l D tys b cI cJ cA cP cZ q N σ ky_C_clear (kh_C_clear :: zT) 20 700 ky_M_clear (kh_M_clear :: zT) 10 360 [] none := by
  obtain ⟨n, a, gf, gt, gw, F, T, C, K, C', K', W, hC, hM, hX⟩ := hI
  obtain ⟨hO, hW, hc, hk, hz, ho⟩ := id hX
  obtain ⟨hn, ha, hft, hwt⟩ := id hO
  refine (c_C_clear ht0 ht1 ht3 hC).weak ?_
  rintro oc N' σ' ⟨h1, h2, f, g, fg, hC', q1⟩
  refine ⟨h1, h2, (hM.fx q1 (by omega)).ob, (c_M_clear ht0 ht1 ht3 ht2 (hM.fx q1 (by omega))).weak ?_⟩
  rintro oc2 N2 σ2 ⟨h3, h4, hM', q2⟩
  refine ⟨h3, h4, ⟨0, 0, gf, gt, gw, F, T, f, g, C', K', W, hC'.fx q2 (by omega), hM', ⟨by omega, by omega, fun k q => absurd q (by omega), fun k q => absurd q (by omega)⟩, fun k q => absurd q (by omega), fun j q => absurd q (by omega), fun j q => absurd q (by omega), fun j _ h => fg j h, fun j q => absurd q (by omega), ?_⟩, (q2 74 (by omega)).trans (q1 74 (by omega))⟩
  show (0 : Int) ≤ 200 * ((q + 1 : Nat) : Int)
  omega
