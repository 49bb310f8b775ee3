theorem ctL_le (G : Nat → Int64) : ∀ m x c, ctL G m x c ≤ c + m := by
  intro m
  induction m with
  | zero => intro x c; exact Nat.le_refl _
  | succ m ih =>
    intro x c
    have h := ih (x + 1) (c + (if G x ≤ 1 then 0 else 1))
    unfold ctL
    by_cases q : G x ≤ 1
    · rw [if_pos q] at h ⊢; omega
    · rw [if_neg q] at h ⊢; omega
theorem gpV_le (n a : Nat) (F T : Nat → Nat) (w : Nat → Int32) (G : Nat → Int64) : (gpV n a F T w G).1 ≤ n := by
  unfold gpV gpO
  by_cases q : sopV n 0 a F T w (fun v => v) < 2
  · rw [if_pos q]; exact Nat.zero_le _
  · rw [if_neg q]; have := ctL_le (mcV n (fgL (sopV n 0 a F T w (fun v => v)) n n 0 (gpM n a F T w (sopV n 0 a F T w (fun v => v))) G)) n 0 0; show _ ≤ n; omega
set_option maxHeartbeats 4000000 in
set_option maxRecDepth 100000 in
theorem c_U_round {l : Launch} {D : va_G} {tys : List (ClassId × FieldType)} {b N : Nat} {σ : Nat → Option va_E} {cI cJ cA : ClassId} (ht0 : tys[0]? = some (cI, .int)) (ht1 : tys[1]? = some (cJ, .long)) (ht3 : tys[3]? = some (cA, .array .long)) {n a : Nat} {gf gt gw : Nat → Int32} {F T : Nat → Nat} (hN : NS b cI σ n a gf gt gw F T) {c k : Nat} {cm tp to vod : Value} {G : Nat → Int64} (hcn : c ≤ n) (hkc : k < c) (h23 : σ 23 = some (.inr (6, [.int (nI c), .ref (b + 24), .ref (b + 1), .ref (b + 19), .ref (b + 7), vod, cm, tp, to]))) (h24 : σ 24 = some (.inl (cJ, 10, .inr (.inl G)))) : zM l D kCl tys kNw b ky_U_round (kh_U_round :: zT) 0 0 0 0 [.ref (b + 23), .int (nI k)] N σ (zD (some (.long (G (n - c + k)))) N σ) := by
  refine zM.of (by decide +kernel) rfl (Nat.le_of_ble_eq_true rfl) ?_
  refine z_pick (lv' := [(0, .ref (b + 23)), (1, .int (nI k))]) [0, 1] rfl ?_
  have hn := hN.hn
  have ha := hN.ha
  refine z_aload_n kd_U_round_0 0 rfl ?_
  refine z_get kd_U_round_1 (kf_U_9 _) h23 rfl ?_
  refine z_aload_n kd_U_round_4 0 rfl ?_
  refine z_get kd_U_round_5 (kf_U_15 _) h23 rfl ?_
  refine z_get kd_U_round_8 (kf_U_27 _) hN.h1 rfl ?_
  refine z_aload_n kd_U_round_11 0 rfl ?_
  refine z_get kd_U_round_12 (kf_U_33 _) h23 rfl ?_
  refine z_isub kd_U_round_15 ?_
  refine z_topi (pk_sub (a := n) (b := c) (by omega)) ?_
  refine z_iload_n kd_U_round_16 1 rfl ?_
  refine z_iadd kd_U_round_17 ?_
  refine z_topi (nI_add ((n - c)) k) ?_
  refine z_laldN (t0 := 1) kd_U_round_18 (by assumption) h24 (by omega) (by decide) ?_
  exact z_lret kd_U_round_19 rfl (Nat.le_of_ble_eq_true rfl) (Nat.le_of_ble_eq_true rfl) ⟨rfl, rfl, rfl⟩
def frL (M : Nat → Nat → Int64) (v : Nat) (t : Int64) : Nat → Nat → (Nat → Int64) → Nat → Int64
  | 0, _, C => C
  | m + 1, j, C => frL M v t m (j + 1) (vp_updL C j (C j - t * M v j))
def frV (M : Nat → Nat → Int64) (n v : Nat) (t : Int64) (C : Nat → Int64) : Nat → Int64 := frL M v t n 0 C
def zrA (i : Nat) (C : Nat → Int64) : Nat → Int64 := fun j => if j < i then 0 else C j
theorem zrA_0 (C : Nat → Int64) : zrA 0 C = C := by funext j; simp [zrA]
theorem zrA_s (i : Nat) (C : Nat → Int64) : vp_updL (zrA i C) i 0 = zrA (i + 1) C := by
  funext j
  by_cases e : j = i
  · subst e; simp [vp_updL, zrA]
  · by_cases e2 : j < i
    · simp [vp_updL, zrA, e, e2, Nat.lt_succ_of_lt e2]
    · simp [vp_updL, zrA, e, e2, show ¬ j < i + 1 by omega]
/-- one sweep: chips, counts, whether something moved -/
def rnI (M : Nat → Nat → Int64) (n s : Nat) : Nat → Nat → (Nat → Int64) → (Nat → Int64) → Int32 → (Nat → Int64) × (Nat → Int64) × Int32
  | 0, _, C, K, mv => (C, K, mv)
  | m + 1, v, C, K, mv => if v = s ∨ M v v ≤ 0 ∨ C v < M v v then rnI M n s m (v + 1) C K mv else rnI M n s m (v + 1) (frV M n v (C v / M v v) C) (vp_updL K v (K v + C v / M v v)) 1
def rnO (M : Nat → Nat → Int64) (n s : Nat) : Nat → (Nat → Int64) × (Nat → Int64) × Int32 → (Nat → Int64) × (Nat → Int64)
  | 0, S => (S.1, S.2.1)
  | m + 1, S => if S.2.2 = 0 then (S.1, S.2.1) else rnO M n s m (rnI M n s n 0 S.1 S.2.1 0)
def rnV (M : Nat → Nat → Int64) (n s : Nat) (C K : Nat → Int64) : (Nat → Int64) × (Nat → Int64) := rnO M n s 1000000 (C, zrA 10 K, 1)
set_option maxHeartbeats 4000000 in
set_option maxRecDepth 100000 in
theorem l_L_fire26 {l : Launch} {D : va_G} {tys : List (ClassId × FieldType)} {b N : Nat} {σ0 : Nat → Option va_E} {cI cJ cA : ClassId} (ht0 : tys[0]? = some (cI, .int)) (ht1 : tys[1]? = some (cJ, .long)) (ht3 : tys[3]? = some (cA, .array .long)) {n a : Nat} {gf gt gw : Nat → Int32} {F T : Nat → Nat} {M : Nat → Nat → Int64} {v : Nat} (hv0 : v < n) {t : Int64} {R : Room} {Cf : Nat → Int64} : ∀ (m j : Nat) (σ : Nat → Option va_E) (C : Nat → Int64), j + m = n → NS b cI σ n a gf gt gw F T → GS b cA cJ σ (nI n) (M) → σ 25 = some (.inr (7, [.ref (b + 26), .ref (b + 27), .ref (b + 28), .ref (b + 29), .ref (b + 1), .ref (b + 7)])) → σ 26 = some (.inl (cJ, 10, .inr (.inl C))) → Fr 26 26 σ0 σ → frL M v t m j C = Cf → Z l D kCl tys (kh_L_fire :: zT) kNw ky_L_fire.cls ky_L_fire.name kb_L_fire 6 none R b (zFi D kCl b 0 0 (fun oc N' σ' => oc = .returned none ∧ N' = N ∧ σ' 26 = some (.inl (cJ, 10, .inr (.inl Cf))) ∧ Fr 26 26 σ0 σ')) 0 0 N (σ) 3 [(5, .int (nI j)), (0, .ref (b + 25)), (1, .ref (b + 26)), (2, .int (nI v)), (3, .long t)] [] := by
  intro m
  induction m with
  | zero =>
    intro j σ C hcm hN hS h25 hh hF hv
    obtain rfl : j = n := by omega
    have hn := hN.hn
    have hv : C = Cf := hv
    subst hv
    refine z_iload kd_L_fire_3 0 rfl ?_
    refine z_aload_n kd_L_fire_5 1 rfl ?_
    refine z_get kd_L_fire_6 (kf_L_24 _) h25 rfl ?_
    refine z_get kd_L_fire_9 (kf_L_42 _) hN.h1 rfl ?_
    refine z_icmp_ge (tgt := 42) kd_L_fire_12 (by decide) (fun c12 => ?_) (fun c12 => ?_)
    · exact z_vret kd_L_fire_42 rfl (Nat.le_of_ble_eq_true rfl) (Nat.le_of_ble_eq_true rfl) ⟨rfl, rfl, hh, hF⟩
    · exact absurd (nI_le (Nat.le_refl j) (by omega)) c12
  | succ m ih =>
    intro j σ C hcm hN hS h25 hh hF hv
    have hlt : j < n := by omega
    have hn := hN.hn
    obtain ⟨h7, f, r, hG⟩ := id hS
    refine z_iload kd_L_fire_3 0 rfl ?_
    refine z_aload_n kd_L_fire_5 1 rfl ?_
    refine z_get kd_L_fire_6 (kf_L_24 _) h25 rfl ?_
    refine z_get kd_L_fire_9 (kf_L_42 _) hN.h1 rfl ?_
    refine z_icmp_ge (tgt := 42) kd_L_fire_12 (by decide) (fun c12 => ?_) (fun c12 => ?_)
    · exact absurd c12 (nI_ge hlt (by omega))
    · refine z_aload_n kd_L_fire_15 2 rfl ?_
      refine z_iload kd_L_fire_16 0 rfl ?_
      refine z_dup2_11 kd_L_fire_18 rfl rfl ?_
      refine z_laldN (t0 := 1) kd_L_fire_19 (by assumption) hh (by omega) (by decide) ?_
      refine z_lload_n kd_L_fire_20 4 rfl ?_
      refine z_aload_n kd_L_fire_21 1 rfl ?_
      refine z_get kd_L_fire_22 (kf_L_28 _) h25 rfl ?_
      refine z_get kd_L_fire_25 (kf_L_48 _) hS.1 rfl ?_
      refine z_iload_n kd_L_fire_28 3 rfl ?_
      refine z_gal kd_L_fire_29 ht3 hG (by omega) ?_
      refine z_iload kd_L_fire_30 0 rfl ?_
      refine z_gld kd_L_fire_32 ht1 hG (by omega) (by omega) ?_
      refine z_lmul kd_L_fire_33 ?_
      refine z_lsub kd_L_fire_34 ?_
      refine z_lastN (t0 := 1) kd_L_fire_35 (by assumption) hh (by omega) (by decide) ?_
      refine z_upd (fun σ_1 x26_1 q_1 => ?_)
      have hN_1 := hN.fr q_1 (by omega)
      have hS_1 := hS.fr q_1 (by omega)
      have x25_1 := (q_1 25 (by omega)).trans h25
      refine z_iinc (v := (nI (j + 1))) (lv' := [(5, .int _), (0, .ref (b + 25)), (1, .ref (b + 26)), (2, .int _), (3, .long _)]) kd_L_fire_36 0 rfl (nI_1 _) (by decide) rfl ?_
      refine z_goto (tgt := 3) kd_L_fire_39 (by decide) ?_
      refine z_pick (lv' := [(5, .int (nI (j + 1))), (0, .ref (b + 25)), (1, .ref (b + 26)), (2, .int (nI v)), (3, .long t)]) [0, 1, 2, 3, 4] rfl ?_
      exact ih (j + 1) _ _ (by omega) hN_1 hS_1 x25_1 x26_1 (Fr.tr hF (q_1.wide (by omega) (by omega))) hv
set_option maxHeartbeats 4000000 in
set_option maxRecDepth 100000 in
theorem c_L_fire26 {l : Launch} {D : va_G} {tys : List (ClassId × FieldType)} {b N : Nat} {σ : Nat → Option va_E} {cI cJ cA : ClassId} (ht0 : tys[0]? = some (cI, .int)) (ht1 : tys[1]? = some (cJ, .long)) (ht3 : tys[3]? = some (cA, .array .long)) {n a : Nat} {gf gt gw : Nat → Int32} {F T : Nat → Nat} (hN : NS b cI σ n a gf gt gw F T) {M : Nat → Nat → Int64} (hS : GS b cA cJ σ (nI n) (M)) {v : Nat} (hv0 : v < n) {t : Int64} {C : Nat → Int64} (h25 : σ 25 = some (.inr (7, [.ref (b + 26), .ref (b + 27), .ref (b + 28), .ref (b + 29), .ref (b + 1), .ref (b + 7)]))) (hh : σ 26 = some (.inl (cJ, 10, .inr (.inl C)))) : zM l D kCl tys kNw b ky_L_fire (kh_L_fire :: zT) 0 0 0 0 [.ref (b + 25), .ref (b + 26), .int (nI v), .long t] N σ ((fun oc N' σ' => oc = .returned none ∧ N' = N ∧ σ' 26 = some (.inl (cJ, 10, .inr (.inl (frV M n v t C)))) ∧ Fr 26 26 σ σ')) := by
  refine zM.of (by decide +kernel) rfl (Nat.le_of_ble_eq_true rfl) ?_
  refine z_pick (lv' := [(0, .ref (b + 25)), (1, .ref (b + 26)), (2, .int (nI v)), (3, .long t)]) [0, 1, 2, 3] rfl ?_
  refine z_iconst (v := 0) kd_L_fire_0 (by decide) ?_
  refine z_istore (lv' := [(5, .int _), (0, .ref (b + 25)), (1, .ref (b + 26)), (2, .int _), (3, .long _)]) kd_L_fire_1 (by decide) rfl ?_
  refine z_pick (lv' := [(5, .int (nI 0)), (0, .ref (b + 25)), (1, .ref (b + 26)), (2, .int (nI v)), (3, .long t)]) [0, 1, 2, 3, 4] rfl ?_
  exact l_L_fire26 ht0 ht1 ht3 hv0 n 0 σ C (by omega) hN hS h25 hh Fr.rf rfl
set_option maxHeartbeats 4000000 in
set_option maxRecDepth 100000 in
theorem l_L_fire28 {l : Launch} {D : va_G} {tys : List (ClassId × FieldType)} {b N : Nat} {σ0 : Nat → Option va_E} {cI cJ cA : ClassId} (ht0 : tys[0]? = some (cI, .int)) (ht1 : tys[1]? = some (cJ, .long)) (ht3 : tys[3]? = some (cA, .array .long)) {n a : Nat} {gf gt gw : Nat → Int32} {F T : Nat → Nat} {M : Nat → Nat → Int64} {v : Nat} (hv0 : v < n) {t : Int64} {R : Room} {Cf : Nat → Int64} : ∀ (m j : Nat) (σ : Nat → Option va_E) (C : Nat → Int64), j + m = n → NS b cI σ n a gf gt gw F T → GS b cA cJ σ (nI n) (M) → σ 25 = some (.inr (7, [.ref (b + 26), .ref (b + 27), .ref (b + 28), .ref (b + 29), .ref (b + 1), .ref (b + 7)])) → σ 28 = some (.inl (cJ, 10, .inr (.inl C))) → Fr 28 28 σ0 σ → frL M v t m j C = Cf → Z l D kCl tys (kh_L_fire :: zT) kNw ky_L_fire.cls ky_L_fire.name kb_L_fire 6 none R b (zFi D kCl b 0 0 (fun oc N' σ' => oc = .returned none ∧ N' = N ∧ σ' 28 = some (.inl (cJ, 10, .inr (.inl Cf))) ∧ Fr 28 28 σ0 σ')) 0 0 N (σ) 3 [(5, .int (nI j)), (0, .ref (b + 25)), (1, .ref (b + 28)), (2, .int (nI v)), (3, .long t)] [] := by
  intro m
  induction m with
  | zero =>
    intro j σ C hcm hN hS h25 hh hF hv
    obtain rfl : j = n := by omega
    have hn := hN.hn
    have hv : C = Cf := hv
    subst hv
    refine z_iload kd_L_fire_3 0 rfl ?_
    refine z_aload_n kd_L_fire_5 1 rfl ?_
    refine z_get kd_L_fire_6 (kf_L_24 _) h25 rfl ?_
    refine z_get kd_L_fire_9 (kf_L_42 _) hN.h1 rfl ?_
    refine z_icmp_ge (tgt := 42) kd_L_fire_12 (by decide) (fun c12 => ?_) (fun c12 => ?_)
    · exact z_vret kd_L_fire_42 rfl (Nat.le_of_ble_eq_true rfl) (Nat.le_of_ble_eq_true rfl) ⟨rfl, rfl, hh, hF⟩
    · exact absurd (nI_le (Nat.le_refl j) (by omega)) c12
  | succ m ih =>
    intro j σ C hcm hN hS h25 hh hF hv
    have hlt : j < n := by omega
    have hn := hN.hn
    obtain ⟨h7, f, r, hG⟩ := id hS
    refine z_iload kd_L_fire_3 0 rfl ?_
    refine z_aload_n kd_L_fire_5 1 rfl ?_
    refine z_get kd_L_fire_6 (kf_L_24 _) h25 rfl ?_
    refine z_get kd_L_fire_9 (kf_L_42 _) hN.h1 rfl ?_
    refine z_icmp_ge (tgt := 42) kd_L_fire_12 (by decide) (fun c12 => ?_) (fun c12 => ?_)
    · exact absurd c12 (nI_ge hlt (by omega))
    · refine z_aload_n kd_L_fire_15 2 rfl ?_
      refine z_iload kd_L_fire_16 0 rfl ?_
      refine z_dup2_11 kd_L_fire_18 rfl rfl ?_
      refine z_laldN (t0 := 1) kd_L_fire_19 (by assumption) hh (by omega) (by decide) ?_
      refine z_lload_n kd_L_fire_20 4 rfl ?_
      refine z_aload_n kd_L_fire_21 1 rfl ?_
      refine z_get kd_L_fire_22 (kf_L_28 _) h25 rfl ?_
      refine z_get kd_L_fire_25 (kf_L_48 _) hS.1 rfl ?_
      refine z_iload_n kd_L_fire_28 3 rfl ?_
      refine z_gal kd_L_fire_29 ht3 hG (by omega) ?_
      refine z_iload kd_L_fire_30 0 rfl ?_
      refine z_gld kd_L_fire_32 ht1 hG (by omega) (by omega) ?_
      refine z_lmul kd_L_fire_33 ?_
      refine z_lsub kd_L_fire_34 ?_
      refine z_lastN (t0 := 1) kd_L_fire_35 (by assumption) hh (by omega) (by decide) ?_
      refine z_upd (fun σ_1 x28_1 q_1 => ?_)
      have hN_1 := hN.fr q_1 (by omega)
      have hS_1 := hS.fr q_1 (by omega)
      have x25_1 := (q_1 25 (by omega)).trans h25
      refine z_iinc (v := (nI (j + 1))) (lv' := [(5, .int _), (0, .ref (b + 25)), (1, .ref (b + 28)), (2, .int _), (3, .long _)]) kd_L_fire_36 0 rfl (nI_1 _) (by decide) rfl ?_
      refine z_goto (tgt := 3) kd_L_fire_39 (by decide) ?_
      refine z_pick (lv' := [(5, .int (nI (j + 1))), (0, .ref (b + 25)), (1, .ref (b + 28)), (2, .int (nI v)), (3, .long t)]) [0, 1, 2, 3, 4] rfl ?_
      exact ih (j + 1) _ _ (by omega) hN_1 hS_1 x25_1 x28_1 (Fr.tr hF (q_1.wide (by omega) (by omega))) hv
set_option maxHeartbeats 4000000 in
set_option maxRecDepth 100000 in
theorem c_L_fire28 {l : Launch} {D : va_G} {tys : List (ClassId × FieldType)} {b N : Nat} {σ : Nat → Option va_E} {cI cJ cA : ClassId} (ht0 : tys[0]? = some (cI, .int)) (ht1 : tys[1]? = some (cJ, .long)) (ht3 : tys[3]? = some (cA, .array .long)) {n a : Nat} {gf gt gw : Nat → Int32} {F T : Nat → Nat} (hN : NS b cI σ n a gf gt gw F T) {M : Nat → Nat → Int64} (hS : GS b cA cJ σ (nI n) (M)) {v : Nat} (hv0 : v < n) {t : Int64} {C : Nat → Int64} (h25 : σ 25 = some (.inr (7, [.ref (b + 26), .ref (b + 27), .ref (b + 28), .ref (b + 29), .ref (b + 1), .ref (b + 7)]))) (hh : σ 28 = some (.inl (cJ, 10, .inr (.inl C)))) : zM l D kCl tys kNw b ky_L_fire (kh_L_fire :: zT) 0 0 0 0 [.ref (b + 25), .ref (b + 28), .int (nI v), .long t] N σ ((fun oc N' σ' => oc = .returned none ∧ N' = N ∧ σ' 28 = some (.inl (cJ, 10, .inr (.inl (frV M n v t C)))) ∧ Fr 28 28 σ σ')) := by
  refine zM.of (by decide +kernel) rfl (Nat.le_of_ble_eq_true rfl) ?_
  refine z_pick (lv' := [(0, .ref (b + 25)), (1, .ref (b + 28)), (2, .int (nI v)), (3, .long t)]) [0, 1, 2, 3] rfl ?_
  refine z_iconst (v := 0) kd_L_fire_0 (by decide) ?_
  refine z_istore (lv' := [(5, .int _), (0, .ref (b + 25)), (1, .ref (b + 28)), (2, .int _), (3, .long _)]) kd_L_fire_1 (by decide) rfl ?_
  refine z_pick (lv' := [(5, .int (nI 0)), (0, .ref (b + 25)), (1, .ref (b + 28)), (2, .int (nI v)), (3, .long t)]) [0, 1, 2, 3, 4] rfl ?_
  exact l_L_fire28 ht0 ht1 ht3 hv0 n 0 σ C (by omega) hN hS h25 hh Fr.rf rfl
