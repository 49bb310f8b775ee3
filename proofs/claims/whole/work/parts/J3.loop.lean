theorem LV.s {b : Nat} {cI cJ cA cP cZ : ClassId} {q : Nat} {σ : Nat → Option va_E} (h : LV b cI cJ cA cP cZ q σ) : LV b cI cJ cA cP cZ (q + 1) σ := by
  obtain ⟨n, a, gf, gt, gw, F, T, C, K, C', K', W, hC, hM, hX⟩ := h
  exact ⟨n, a, gf, gt, gw, F, T, C, K, C', K', W, hC, hM, hX.s⟩
set_option maxHeartbeats 4000000 in
set_option maxRecDepth 100000 in
theorem law_loop {l : Launch} {D : va_G} {tys : List (ClassId × FieldType)} {nm : String} {b b0 L : Nat} {xs : Nat → Int32} {cI cJ cZ cA cP : ClassId} (ht0 : tys[0]? = some (cI, .int)) (ht1 : tys[1]? = some (cJ, .long)) (ht2 : tys[2]? = some (cZ, .boolean)) (ht3 : tys[3]? = some (cA, .array .long)) (ht4 : tys[4]? = some (cP, .object "TreeCounts$Parts")) (hfl : l.flags = flags0) (hL : L ≤ 2560) : ∀ (m q k n N : Nat) (σ : Nat → Option va_E), L < 5 * q + 5 * m → 5 * q ≤ L + 5 → k ≤ 1000 + q → n ≤ 100000 + 6 * q → LV b cI cJ cA cP cZ q σ → (∃ g, σ 74 = some (.inl (cJ, 1, .inr (.inl g)))) → Z l D kCl tys (kh_C_init :: zT) kNw "TreeCountsLaw" nm code 8 ret room_1 b (zLFi b0 L b xs) k n N (σ) 23 [(4, .int (nI (5 * q))), (3, .ref (b + 74)), (2, .ref (b + 54)), (1, .ref (b + 0)), (0, .ref b0)] [] := by
  intro m
  induction m with
  | zero =>
    intro q k n N σ hm hq hk hn hI ⟨g74, h74⟩
    refine z_iload kd_W_law_23 0 rfl ?_
    refine z_aload_n kd_W_law_25 4 rfl ?_
    refine z_slen kd_W_law_26 ?_
    refine z_iconst (v := 5) kd_W_law_27 (by decide) ?_
    refine z_isub kd_W_law_28 ?_
    refine z_icmp_gt (tgt := 898) kd_W_law_29 (by decide) (fun c29 => ?_) (fun c29 => ?_)
    · refine z_iconst (v := 1) kd_W_law_898 (by decide) ?_
      exact z_law1 kd_W_law_899 (by omega) (by omega)
    · exact absurd ((lw_cmp hL (by omega)).mpr (by omega)) c29
  | succ m ih =>
    intro q k n N σ hm hq hk hn hI ⟨g74, h74⟩
    have go : ∀ (k' n' N' : Nat) (σ' : Nat → Option va_E), k' ≤ k + 1 → n' ≤ n + 6 → LV b cI cJ cA cP cZ (q + 1) σ' → (∃ g, σ' 74 = some (.inl (cJ, 1, .inr (.inl g)))) → 5 * q + 5 ≤ L → Z l D kCl tys (kh_C_init :: zT) kNw "TreeCountsLaw" nm code 8 ret room_1 b (zLFi b0 L b xs) k' n' N' (σ') 23 [(4, .int (nI (5 * (q + 1)))), (3, .ref (b + 74)), (2, .ref (b + 54)), (1, .ref (b + 0)), (0, .ref b0)] [] := fun k' n' N' σ' h1 h2 h3 h4 h5 => ih (q + 1) k' n' N' σ' (by omega) (by omega) (by omega) (by omega) h3 h4
    refine z_iload kd_W_law_23 0 rfl ?_
    refine z_aload_n kd_W_law_25 4 rfl ?_
    refine z_slen kd_W_law_26 ?_
    refine z_iconst (v := 5) kd_W_law_27 (by decide) ?_
    refine z_isub kd_W_law_28 ?_
    refine z_icmp_gt (tgt := 898) kd_W_law_29 (by decide) (fun c29 => ?_) (fun c29 => ?_)
    · refine z_iconst (v := 1) kd_W_law_898 (by decide) ?_
      exact z_law1 kd_W_law_899 (by omega) (by omega)
    · refine z_aload_n kd_W_law_32 4 rfl ?_
      refine z_iload kd_W_law_33 0 rfl ?_
      refine z_sld kd_W_law_35 (show vp_in (nI (5 * q)) L from vp_in_nI (by have := mt (lw_cmp (L := L) (i := 5 * q) hL (by omega)).mpr c29; omega) (by omega)) ?_
      refine z_bipush (v := 31) kd_W_law_36 (by decide +kernel) ?_
      refine z_iand kd_W_law_38 ?_
      have q5 : 5 * q + 5 ≤ L := by
        have := mt (lw_cmp (L := L) (i := 5 * q) hL (by omega)).mpr c29
        omega
      obtain ⟨j, hj0, ej⟩ := pk_andE (xs (Int32.toNatClampNeg (nI (5 * q)))) (m := 31) 5 (by decide)
      refine z_topi ej ?_
      have ih' := fun k' n' N' σ' h1 h2 h3 h4 => go k' n' N' σ' h1 h2 h3 h4 q5
      have hk1 : k + 1 ≤ 601024 := by omega
      have hn1 : n + 6 ≤ 7293034 := by omega
      match j, hj0 with
      | 0, _ => exact z_tableIn (off := 105) (tgt := 144) kd_W_law_39 (by decide) (by decide) (by decide +kernel) (by decide) (lc_0 ht0 ht1 ht2 ht3 ht4 hL q5 hk1 hn1 hI h74 ih')
      | 1, _ => exact z_tableIn (off := 118) (tgt := 157) kd_W_law_39 (by decide) (by decide) (by decide +kernel) (by decide) (lc_1 ht0 ht1 ht2 ht3 ht4 hL q5 hk1 hn1 hI h74 ih')
      | 2, _ => exact z_tableIn (off := 167) (tgt := 206) kd_W_law_39 (by decide) (by decide) (by decide +kernel) (by decide) (lc_2 ht0 ht1 ht2 ht3 ht4 hL q5 hk1 hn1 hI h74 ih')
      | 3, _ => exact z_tableIn (off := 204) (tgt := 243) kd_W_law_39 (by decide) (by decide) (by decide +kernel) (by decide) (lc_3 ht0 ht1 ht2 ht3 ht4 hL q5 hk1 hn1 hI h74 ih')
      | 4, _ => exact z_tableIn (off := 217) (tgt := 256) kd_W_law_39 (by decide) (by decide) (by decide +kernel) (by decide) (lc_4 ht0 ht1 ht2 ht3 ht4 hL q5 hk1 hn1 hI h74 ih')
      | 5, _ => exact z_tableIn (off := 231) (tgt := 270) kd_W_law_39 (by decide) (by decide) (by decide +kernel) (by decide) (lc_5 ht0 ht1 ht2 ht3 ht4 hL q5 hk1 hn1 hI h74 ih')
      | 6, _ => exact z_tableIn (off := 257) (tgt := 296) kd_W_law_39 (by decide) (by decide) (by decide +kernel) (by decide) (lc_6 ht0 ht1 ht2 ht3 ht4 hL q5 hk1 hn1 hI h74 ih')
      | 7, _ => exact z_tableIn (off := 283) (tgt := 322) kd_W_law_39 (by decide) (by decide) (by decide +kernel) (by decide) (lc_7 ht0 ht1 ht2 ht3 ht4 hL q5 hk1 hn1 hI h74 ih')
      | 8, _ => exact z_tableIn (off := 297) (tgt := 336) kd_W_law_39 (by decide) (by decide) (by decide +kernel) (by decide) (lc_8 ht0 ht1 ht2 ht3 ht4 hL q5 hk1 hn1 hI h74 ih')
      | 9, _ => exact z_tableIn (off := 335) (tgt := 374) kd_W_law_39 (by decide) (by decide) (by decide +kernel) (by decide) (lc_9 ht0 ht1 ht2 ht3 ht4 hL q5 hk1 hn1 hI h74 ih')
      | 10, _ => exact z_tableIn (off := 385) (tgt := 424) kd_W_law_39 (by decide) (by decide) (by decide +kernel) (by decide) (lc_10 ht0 ht1 ht2 ht3 ht4 hL q5 hk1 hn1 hI h74 ih')
      | 11, _ => exact z_tableIn (off := 399) (tgt := 438) kd_W_law_39 (by decide) (by decide) (by decide +kernel) (by decide) (lc_11 ht0 ht1 ht2 ht3 ht4 hL q5 hk1 hn1 hI h74 ih')
      | 12, _ => exact z_tableIn (off := 456) (tgt := 495) kd_W_law_39 (by decide) (by decide) (by decide +kernel) (by decide) (lc_12 ht0 ht1 ht2 ht3 ht4 hL q5 hk1 hn1 hI h74 ih')
      | 13, _ => exact z_tableIn (off := 482) (tgt := 521) kd_W_law_39 (by decide) (by decide) (by decide +kernel) (by decide) (lc_13 ht0 ht1 ht2 ht3 ht4 hL q5 hk1 hn1 hI h74 ih')
      | 14, _ => exact z_tableIn (off := 519) (tgt := 558) kd_W_law_39 (by decide) (by decide) (by decide +kernel) (by decide) (lc_14 ht0 ht1 ht2 ht3 ht4 hL q5 hk1 hn1 hI h74 ih')
      | 15, _ => exact z_tableIn (off := 545) (tgt := 584) kd_W_law_39 (by decide) (by decide) (by decide +kernel) (by decide) (lc_15 ht0 ht1 ht2 ht3 ht4 hL q5 hk1 hn1 hI h74 ih')
      | 16, _ => exact z_tableIn (off := 583) (tgt := 622) kd_W_law_39 (by decide) (by decide) (by decide +kernel) (by decide) (lc_16 ht0 ht1 ht2 ht3 ht4 hL q5 hk1 hn1 hI h74 ih')
      | 17, _ => exact z_tableIn (off := 609) (tgt := 648) kd_W_law_39 (by decide) (by decide) (by decide +kernel) (by decide) (lc_17 ht0 ht1 ht2 ht3 ht4 hL q5 hk1 hn1 hI h74 ih')
      | 18, _ => exact z_tableIn (off := 635) (tgt := 674) kd_W_law_39 (by decide) (by decide) (by decide +kernel) (by decide) (lc_18 ht0 ht1 ht2 ht3 ht4 hL q5 hk1 hn1 hI h74 ih')
      | 19, _ => exact z_tableIn (off := 661) (tgt := 700) kd_W_law_39 (by decide) (by decide) (by decide +kernel) (by decide) (lc_19 ht0 ht1 ht2 ht3 ht4 hL q5 hk1 hn1 hI h74 ih')
      | 20, _ => exact z_tableIn (off := 686) (tgt := 725) kd_W_law_39 (by decide) (by decide) (by decide +kernel) (by decide) (lc_20 ht0 ht1 ht2 ht3 ht4 hfl hL q5 hk1 hn1 hI h74 ih')
      | 21, _ => exact z_tableIn (off := 817) (tgt := 856) kd_W_law_39 (by decide) (by decide) (by decide +kernel) (by decide) (lc_21 ht0 ht1 ht2 ht3 ht4 hL q5 hk1 hn1 hI h74 ih')
      | 22, _ => exact z_tableIn (off := 842) (tgt := 881) kd_W_law_39 (by decide) (by decide) (by decide +kernel) (by decide) (lc_22 ht0 ht1 ht2 ht3 ht4 hL q5 hk1 hn1 hI h74 ih')
      | 23, _ => exact z_tableOut (tgt := 892) kd_W_law_39 (Or.inr (by decide)) (by decide) (lw_next (ih' k n N σ (Nat.le_succ k) (Nat.le_add_right n 6) hI.s ⟨_, h74⟩))
      | 24, _ => exact z_tableOut (tgt := 892) kd_W_law_39 (Or.inr (by decide)) (by decide) (lw_next (ih' k n N σ (Nat.le_succ k) (Nat.le_add_right n 6) hI.s ⟨_, h74⟩))
      | 25, _ => exact z_tableOut (tgt := 892) kd_W_law_39 (Or.inr (by decide)) (by decide) (lw_next (ih' k n N σ (Nat.le_succ k) (Nat.le_add_right n 6) hI.s ⟨_, h74⟩))
      | 26, _ => exact z_tableOut (tgt := 892) kd_W_law_39 (Or.inr (by decide)) (by decide) (lw_next (ih' k n N σ (Nat.le_succ k) (Nat.le_add_right n 6) hI.s ⟨_, h74⟩))
      | 27, _ => exact z_tableOut (tgt := 892) kd_W_law_39 (Or.inr (by decide)) (by decide) (lw_next (ih' k n N σ (Nat.le_succ k) (Nat.le_add_right n 6) hI.s ⟨_, h74⟩))
      | 28, _ => exact z_tableOut (tgt := 892) kd_W_law_39 (Or.inr (by decide)) (by decide) (lw_next (ih' k n N σ (Nat.le_succ k) (Nat.le_add_right n 6) hI.s ⟨_, h74⟩))
      | 29, _ => exact z_tableOut (tgt := 892) kd_W_law_39 (Or.inr (by decide)) (by decide) (lw_next (ih' k n N σ (Nat.le_succ k) (Nat.le_add_right n 6) hI.s ⟨_, h74⟩))
      | 30, _ => exact z_tableOut (tgt := 892) kd_W_law_39 (Or.inr (by decide)) (by decide) (lw_next (ih' k n N σ (Nat.le_succ k) (Nat.le_add_right n 6) hI.s ⟨_, h74⟩))
      | 31, _ => exact z_tableOut (tgt := 892) kd_W_law_39 (Or.inr (by decide)) (by decide) (lw_next (ih' k n N σ (Nat.le_succ k) (Nat.le_add_right n 6) hI.s ⟨_, h74⟩))
      | j + 32, h => exact absurd h (by omega)
