def poL (b : Int64) : Nat → Int64 → Int64
  | 0, r => r
  | m + 1, r => poL b m (r * b)
def poV (b : Int64) (e : Int32) : Int64 := poL b e.toNatClampNeg 1
def rkL (F T : Nat → Nat) (bits : Int32) : Nat → Nat → (Nat → Nat) → Nat → Nat
  | 0, _, _, s => s
  | m + 1, k, P, s => if tb bits k = true then (if P (F k) = P (T k) then rkL F T bits m (k + 1) (jmP (F k) (T k) P) s else rkL F T bits m (k + 1) (jmP (F k) (T k) P) (s + 1)) else rkL F T bits m (k + 1) P s
def rkV (a : Nat) (F T : Nat → Nat) (bits : Int32) : Nat := rkL F T bits a 0 (fun v => v) 0
def pcL (bits : Int32) : Nat → Nat → Nat → Nat
  | 0, _, c => c
  | m + 1, k, c => pcL bits m (k + 1) (if tb bits k = true then c + 1 else c)
def ppS (a : Nat) (F T : Nat → Nat) (x y : Int64) (r t : Nat) : Int64 := poV (x - 1) (nI r - nI (rkV a F T (nI t))) * poV (y - 1) (nI (pcL (nI t) a 0 0) - nI (rkV a F T (nI t)))
def ppL (a : Nat) (F T : Nat → Nat) (x y : Int64) (r : Nat) : Nat → Nat → Int64 → Int64
  | 0, _, s => s
  | m + 1, t, s => ppL a F T x y r m (t + 1) (s + ppS a F T x y r t)
def ppV (a : Nat) (F T : Nat → Nat) (x y : Int64) : Int64 := ppL a F T x y (rkV a F T (nI (2 ^ a - 1))) (2 ^ a) 0 0
theorem and1_01 (x : Int32) : x &&& 1 = 0 ∨ x &&& 1 = 1 := by
  have h : (x &&& 1).toBitVec.toNat = x.toBitVec.toNat % 2 := by
    rw [Int32.toBitVec_and, BitVec.toNat_and]
    exact Nat.and_one_is_mod _
  rcases (by omega : x.toBitVec.toNat % 2 = 0 ∨ x.toBitVec.toNat % 2 = 1) with q | q
  · left
    apply Int32.toBitVec_inj.mp
    apply BitVec.eq_of_toNat_eq
    rw [h, q]; rfl
  · right
    apply Int32.toBitVec_inj.mp
    apply BitVec.eq_of_toNat_eq
    rw [h, q]; rfl
theorem pc_s {bits : Int32} {k c : Nat} : nI c + ((bits >>> (nI k &&& 31)) &&& 1) = nI (if tb bits k = true then c + 1 else c) := by
  unfold tb
  rcases and1_01 (bits >>> (nI k &&& 31)) with q | q
  · rw [q, if_neg (by decide)]; exact Int32.add_zero _
  · rw [q, if_pos (by decide)]; exact nI_1 c
theorem sh_a {a : Nat} (h : a ≤ 30) : (1 : Int32) <<< (nI a &&& 31) = nI (2 ^ a) := by
  have : ∀ a, a < 31 → (1 : Int32) <<< (nI a &&& 31) = nI (2 ^ a) := by decide +kernel
  exact this a (by omega)
set_option maxHeartbeats 4000000 in
set_option maxRecDepth 100000 in
theorem l_M_powerOf {l : Launch} {D : va_G} {tys : List (ClassId × FieldType)} {b N : Nat} {σ : Nat → Option va_E} {b0 : Int64} {e : Nat} (he : e < 2 ^ 31) {R : Room} {val : Int64} : ∀ (m k : Nat) (r : Int64), k + m = e → poL b0 m r = val → Z l D kCl tys (kh_M_powerOf :: zT) kNw ky_M_powerOf.cls ky_M_powerOf.name kb_M_powerOf 6 (some FieldType.long) R b (zFi D kCl b 0 0 (zD (some (.long val)) N σ)) 0 0 N (σ) 5 [(5, .int (nI k)), (3, .long r), (0, .long b0), (2, .int (nI e))] [] := by
  intro m
  induction m with
  | zero =>
    intro k r hk hv
    obtain rfl : k = e := by omega
    have hv : r = val := hv
    subst hv
    refine z_iload kd_M_powerOf_5 0 rfl ?_
    refine z_iload_n kd_M_powerOf_7 3 rfl ?_
    refine z_icmp_ge (tgt := 21) kd_M_powerOf_8 (by decide) (fun c8 => ?_) (fun c8 => ?_)
    · refine z_lload_n kd_M_powerOf_21 1 rfl ?_
      exact z_lret kd_M_powerOf_22 rfl (Nat.le_of_ble_eq_true rfl) (Nat.le_of_ble_eq_true rfl) ⟨rfl, rfl, rfl⟩
    · exact absurd (nI_le (Nat.le_refl k) (by omega)) c8
  | succ m ih =>
    intro k r hk hv
    have hlt : k < e := by omega
    refine z_iload kd_M_powerOf_5 0 rfl ?_
    refine z_iload_n kd_M_powerOf_7 3 rfl ?_
    refine z_icmp_ge (tgt := 21) kd_M_powerOf_8 (by decide) (fun c8 => ?_) (fun c8 => ?_)
    · exact absurd c8 (nI_ge hlt (by omega))
    · refine z_lload_n kd_M_powerOf_11 1 rfl ?_
      refine z_lload_n kd_M_powerOf_12 2 rfl ?_
      refine z_lmul kd_M_powerOf_13 ?_
      refine z_lstore_n (lv' := [(3, .long _), (5, .int _), (0, .long _), (2, .int _)]) kd_M_powerOf_14 (by decide) rfl ?_
      refine z_iinc (v := (nI (k + 1))) (lv' := [(5, .int _), (3, .long _), (0, .long _), (2, .int _)]) kd_M_powerOf_15 1 rfl (nI_1 _) (by decide) rfl ?_
      refine z_goto (tgt := 5) kd_M_powerOf_18 (by decide) ?_
      refine z_pick (lv' := [(5, .int (nI (k + 1))), (3, .long _), (0, .long b0), (2, .int (nI e))]) [0, 1, 2, 3] rfl ?_
      exact ih (k + 1) _ (by omega) hv
set_option maxHeartbeats 4000000 in
set_option maxRecDepth 100000 in
theorem c_M_powerOf0 {l : Launch} {D : va_G} {tys : List (ClassId × FieldType)} {b N : Nat} {σ : Nat → Option va_E} {b0 : Int64} {e : Int32} (he : e < 0) : zM l D kCl tys kNw b ky_M_powerOf (kh_M_powerOf :: zT) 0 0 0 0 [.long b0, .int e] N σ (zD (some (.long 1)) N σ) := by
  refine zM.of (by decide +kernel) rfl (Nat.le_of_ble_eq_true rfl) ?_
  refine z_pick (lv' := [(0, .long b0), (2, .int e)]) [0, 1] rfl ?_
  refine z_lconst (v := 1) kd_M_powerOf_0 (by decide +kernel) ?_
  refine z_lstore_n (lv' := [(3, .long _), (0, .long _), (2, .int _)]) kd_M_powerOf_1 (by decide) rfl ?_
  refine z_iconst (v := 0) kd_M_powerOf_2 (by decide) ?_
  refine z_istore (lv' := [(5, .int _), (3, .long _), (0, .long _), (2, .int _)]) kd_M_powerOf_3 (by decide) rfl ?_
  refine z_iload kd_M_powerOf_5 0 rfl ?_
  refine z_iload_n kd_M_powerOf_7 3 rfl ?_
  refine z_icmp_ge (tgt := 21) kd_M_powerOf_8 (by decide) (fun c8 => ?_) (fun c8 => ?_)
  · refine z_lload_n kd_M_powerOf_21 1 rfl ?_
    exact z_lret kd_M_powerOf_22 rfl (Nat.le_of_ble_eq_true rfl) (Nat.le_of_ble_eq_true rfl) ⟨rfl, rfl, rfl⟩
  · exact absurd (Int32.le_of_lt he) c8
set_option maxHeartbeats 4000000 in
set_option maxRecDepth 100000 in
theorem c_M_powerOf1 {l : Launch} {D : va_G} {tys : List (ClassId × FieldType)} {b N : Nat} {σ : Nat → Option va_E} {b0 : Int64} {e : Nat} (he : e < 2 ^ 31) : zM l D kCl tys kNw b ky_M_powerOf (kh_M_powerOf :: zT) 0 0 0 0 [.long b0, .int (nI e)] N σ (zD (some (.long (poL b0 e 1))) N σ) := by
  refine zM.of (by decide +kernel) rfl (Nat.le_of_ble_eq_true rfl) ?_
  refine z_pick (lv' := [(0, .long b0), (2, .int (nI e))]) [0, 1] rfl ?_
  refine z_lconst (v := 1) kd_M_powerOf_0 (by decide +kernel) ?_
  refine z_lstore_n (lv' := [(3, .long _), (0, .long _), (2, .int _)]) kd_M_powerOf_1 (by decide) rfl ?_
  refine z_iconst (v := 0) kd_M_powerOf_2 (by decide) ?_
  refine z_istore (lv' := [(5, .int _), (3, .long _), (0, .long _), (2, .int _)]) kd_M_powerOf_3 (by decide) rfl ?_
  refine z_pick (lv' := [(5, .int (nI 0)), (3, .long 1), (0, .long b0), (2, .int (nI e))]) [0, 1, 2, 3] rfl ?_
  exact l_M_powerOf he e 0 _ (by omega) rfl
theorem c_M_powerOf {l : Launch} {D : va_G} {tys : List (ClassId × FieldType)} {b N : Nat} {σ : Nat → Option va_E} {b0 : Int64} {e : Int32} : zM l D kCl tys kNw b ky_M_powerOf (kh_M_powerOf :: zT) 0 0 0 0 [.long b0, .int e] N σ (zD (some (.long (poV b0 e))) N σ) := by
  by_cases h : e < 0
  · have e1 : poV b0 e = 1 := by
      unfold poV
      have : e.toNatClampNeg = 0 := by
        have h2 := Int32.lt_iff_toInt_lt.mp h
        have z : (0 : Int32).toInt = 0 := rfl
        show e.toInt.toNat = 0
        omega
      rw [this]; rfl
    rw [e1]
    exact c_M_powerOf0 h
  · obtain ⟨j, hj, rfl⟩ := nI_of h
    have e1 : poV b0 (nI j) = poL b0 j 1 := by unfold poV; rw [nI_clamp hj]
    rw [e1]
    exact c_M_powerOf1 hj
set_option maxHeartbeats 4000000 in
set_option maxRecDepth 100000 in
theorem l_M_rank {l : Launch} {D : va_G} {tys : List (ClassId × FieldType)} {b N : Nat} {σ0 : Nat → Option va_E} {cI cJ cA : ClassId} (ht0 : tys[0]? = some (cI, .int)) (ht1 : tys[1]? = some (cJ, .long)) (ht3 : tys[3]? = some (cA, .array .long)) {th fa ls rm : Value} {n a : Nat} {gf gt gw : Nat → Int32} {F T : Nat → Nat} {bits : Int32} {val : Nat} : ∀ (m k : Nat) (σ : Nat → Option va_E) (g2 : Nat → Int32) (P : Nat → Nat) (s : Nat), k + m = a → MN b cI σ th fa ls rm n a gf gt gw F T → σ 62 = some (.inl (cI, 10, .inl g2)) → PH n n g2 P → Fr 62 62 σ0 σ → rkL F T bits m k P s = val → Z l D kCl tys (kh_M_rank :: zT) kNw ky_M_rank.cls ky_M_rank.name kb_M_rank 4 (some FieldType.int) { frames := 1, cells := 0, slots := 0, locals := 40 } b (zFi D kCl b 0 0 (fun oc N' σ' => oc = .returned (some (.int (nI (val)))) ∧ N' = N ∧ (∃ g, σ' 62 = some (.inl (cI, 10, .inl g))) ∧ Fr 62 62 σ0 σ')) 0 0 N (σ) 8 [(3, .int (nI k)), (2, .int (nI s)), (0, .ref (b + 54)), (1, .int bits)] [] := by
  intro m
  induction m with
  | zero =>
    intro k σ g2 P s hk hM h62 hp hF hv
    obtain rfl : k = a := by omega
    have ha := hM.ha
    have hv : s = val := hv
    subst hv
    refine z_iload_n kd_M_rank_8 0 rfl ?_
    refine z_aload_n kd_M_rank_9 2 rfl ?_
    refine z_get kd_M_rank_10 (kf_M_80 _) hM.h1 rfl ?_
    refine z_icmp_ge (tgt := 53) kd_M_rank_13 (by decide) (fun c13 => ?_) (fun c13 => ?_)
    · refine z_iload_n kd_M_rank_53 1 rfl ?_
      exact z_iret kd_M_rank_54 rfl (Nat.le_of_ble_eq_true rfl) (Nat.le_of_ble_eq_true rfl) ⟨rfl, rfl, ⟨_, h62⟩, hF⟩
    · exact absurd (nI_le (Nat.le_refl k) (by omega)) c13
  | succ m ih =>
    intro k σ g2 P s hk hM h62 hp hF hv
    have hlt : k < a := by omega
    have hn := hM.hn
    have ha := hM.ha
    obtain ⟨kf, kfn, kt, ktn⟩ := hM.hft k hlt
    unfold rkL at hv
    refine z_iload_n kd_M_rank_8 0 rfl ?_
    refine z_aload_n kd_M_rank_9 2 rfl ?_
    refine z_get kd_M_rank_10 (kf_M_80 _) hM.h1 rfl ?_
    refine z_icmp_ge (tgt := 53) kd_M_rank_13 (by decide) (fun c13 => ?_) (fun c13 => ?_)
    · exact absurd c13 (nI_ge hlt (by omega))
    · refine z_iload_n kd_M_rank_16 3 rfl ?_
      refine z_iload_n kd_M_rank_17 0 rfl ?_
      refine z_ishr kd_M_rank_18 ?_
      refine z_iconst (v := 1) kd_M_rank_19 (by decide) ?_
      refine z_iand kd_M_rank_20 ?_
      refine z_iconst (v := 1) kd_M_rank_21 (by decide) ?_
      refine z_icmp_ne (tgt := 47) kd_M_rank_22 (by decide) (fun c22 => ?_) (fun c22 => ?_)
      · have hb : ¬ tb bits k = true := by unfold tb; simp; exact c22
        rw [if_neg hb] at hv
        refine z_iinc (v := (nI (k + 1))) (lv' := [(3, .int _), (2, .int _), (0, .ref (b + 54)), (1, .int _)]) kd_M_rank_47 0 rfl (nI_1 _) (by decide) rfl ?_
        refine z_goto (tgt := 8) kd_M_rank_50 (by decide) ?_
        refine z_pick (lv' := [(3, .int (nI (k + 1))), (2, .int (nI s)), (0, .ref (b + 54)), (1, .int bits)]) [0, 1, 2, 3] rfl ?_
        exact ih (k + 1) _ _ _ _ (by omega) hM h62 hp hF hv
      · have hb : tb bits k = true := by unfold tb; simp; exact c22
        rw [if_pos hb] at hv
        refine z_aload_n kd_M_rank_25 2 rfl ?_
        refine z_aload_n kd_M_rank_26 2 rfl ?_
        refine z_get kd_M_rank_27 (kf_M_7 _) hM.h1 rfl ?_
        refine z_iload_n kd_M_rank_30 0 rfl ?_
        refine z_ialdN (t0 := 0) kd_M_rank_31 (by assumption) hM.h2 (by omega) (by decide) ?_
        refine z_topi kf ?_
        refine z_aload_n kd_M_rank_32 2 rfl ?_
        refine z_get kd_M_rank_33 (kf_M_13 _) hM.h1 rfl ?_
        refine z_iload_n kd_M_rank_36 0 rfl ?_
        refine z_ialdN (t0 := 0) kd_M_rank_37 (by assumption) hM.h3 (by omega) (by decide) ?_
        refine z_topi kt ?_
        refine z_callV (a := 54) (As := [_, _]) kd_M_rank_38 (kg_M_144 _) hM.h1 kc_M (c_M_join ht0 ht1 ht3 hM kfn ktn hp h62) rfl rfl (Nat.le_of_ble_eq_true rfl) ⟨Nat.le_of_ble_eq_true rfl, Nat.le_of_ble_eq_true rfl⟩ ⟨Nat.le_of_ble_eq_true rfl, Nat.le_of_ble_eq_true rfl⟩ ?_
        rintro _ _ σ_1 ⟨hv, rfl, ⟨g2_1, hp_1, x62_1⟩, q_1⟩
        cases hv
        refine z_eq (st' := [_]) rfl rfl rfl rfl ?_
        have hM_1 := hM.fr q_1 (by omega)
        refine z_if_eq (tgt := 47) kd_M_rank_41 (by decide) (fun c41 => ?_) (fun c41 => ?_)
        · rw [if_pos (Classical.not_not.mp (zBz c41))] at hv
          refine z_iinc (v := (nI (k + 1))) (lv' := [(3, .int _), (2, .int _), (0, .ref (b + 54)), (1, .int _)]) kd_M_rank_47 0 rfl (nI_1 _) (by decide) rfl ?_
          refine z_goto (tgt := 8) kd_M_rank_50 (by decide) ?_
          refine z_pick (lv' := [(3, .int (nI (k + 1))), (2, .int (nI s)), (0, .ref (b + 54)), (1, .int bits)]) [0, 1, 2, 3] rfl ?_
          exact ih (k + 1) _ _ _ _ (by omega) hM_1 x62_1 hp_1 (Fr.tr hF (q_1.wide (by omega) (by omega))) hv
        · rw [if_neg (zBn c41)] at hv
          refine z_iinc (v := (nI (s + 1))) (lv' := [(2, .int _), (3, .int _), (0, .ref (b + 54)), (1, .int _)]) kd_M_rank_44 1 rfl (nI_1 _) (by decide) rfl ?_
          refine z_iinc (v := (nI (k + 1))) (lv' := [(3, .int _), (2, .int _), (0, .ref (b + 54)), (1, .int _)]) kd_M_rank_47 1 rfl (nI_1 _) (by decide) rfl ?_
          refine z_goto (tgt := 8) kd_M_rank_50 (by decide) ?_
          refine z_pick (lv' := [(3, .int (nI (k + 1))), (2, .int (nI (s + 1))), (0, .ref (b + 54)), (1, .int bits)]) [0, 1, 2, 3] rfl ?_
          exact ih (k + 1) _ _ _ _ (by omega) hM_1 x62_1 hp_1 (Fr.tr hF (q_1.wide (by omega) (by omega))) hv
set_option maxHeartbeats 4000000 in
set_option maxRecDepth 100000 in
theorem c_M_rank {l : Launch} {D : va_G} {tys : List (ClassId × FieldType)} {b N : Nat} {σ : Nat → Option va_E} {cI cJ cA : ClassId} (ht0 : tys[0]? = some (cI, .int)) (ht1 : tys[1]? = some (cJ, .long)) (ht3 : tys[3]? = some (cA, .array .long)) {th fa ls rm : Value} {n a : Nat} {gf gt gw : Nat → Int32} {F T : Nat → Nat} (hM : MN b cI σ th fa ls rm n a gf gt gw F T) {g2 : Nat → Int32} (h62 : σ 62 = some (.inl (cI, 10, .inl g2))) {bits : Int32} : zM l D kCl tys kNw b ky_M_rank (kh_M_rank :: zT) 1 40 0 0 [.ref (b + 54), .int bits] N σ ((fun oc N' σ' => oc = .returned (some (.int (nI (rkV a F T bits)))) ∧ N' = N ∧ (∃ g, σ' 62 = some (.inl (cI, 10, .inl g))) ∧ Fr 62 62 σ σ')) := by
  refine zM.of (by decide +kernel) rfl (Nat.le_of_ble_eq_true rfl) ?_
  refine z_pick (lv' := [(0, .ref (b + 54)), (1, .int bits)]) [0, 1] rfl ?_
  refine z_aload_n kd_M_rank_0 0 rfl ?_
  refine z_callV (a := 54) (As := []) kd_M_rank_1 (kg_M_121 _) hM.h1 kc_M (c_M_apartAll ht0 ht1 ht3 hM h62) rfl rfl (Nat.le_of_ble_eq_true rfl) ⟨Nat.le_of_ble_eq_true rfl, Nat.le_of_ble_eq_true rfl⟩ ⟨Nat.le_of_ble_eq_true rfl, Nat.le_of_ble_eq_true rfl⟩ ?_
  rintro _ _ σ_1 ⟨hv, rfl, ⟨g2_1, hp_1, x62_1⟩, q_1⟩
  cases hv
  refine z_eq (st' := []) rfl rfl rfl rfl ?_
  have hM_1 := hM.fr q_1 (by omega)
  refine z_iconst (v := 0) kd_M_rank_4 (by decide) ?_
  refine z_istore_n (lv' := [(2, .int _), (0, .ref (b + 54)), (1, .int _)]) kd_M_rank_5 (by decide) rfl ?_
  refine z_iconst (v := 0) kd_M_rank_6 (by decide) ?_
  refine z_istore_n (lv' := [(3, .int _), (2, .int _), (0, .ref (b + 54)), (1, .int _)]) kd_M_rank_7 (by decide) rfl ?_
  refine z_pick (lv' := [(3, .int (nI 0)), (2, .int (nI 0)), (0, .ref (b + 54)), (1, .int bits)]) [0, 1, 2, 3] rfl ?_
  exact l_M_rank ht0 ht1 ht3 a 0 _ _ _ _ (by omega) hM_1 x62_1 hp_1 (Fr.tr Fr.rf (q_1.wide (by omega) (by omega))) rfl
set_option maxHeartbeats 4000000 in
set_option maxRecDepth 100000 in
theorem l_M_pc {l : Launch} {D : va_G} {tys : List (ClassId × FieldType)} {b N : Nat} {σ : Nat → Option va_E} {cI cJ cA : ClassId} (ht0 : tys[0]? = some (cI, .int)) (ht1 : tys[1]? = some (cJ, .long)) (ht3 : tys[3]? = some (cA, .array .long)) {th fa ls rm : Value} {n a : Nat} {gf gt gw : Nat → Int32} {F T : Nat → Nat} (hM : MN b cI σ th fa ls rm n a gf gt gw F T) {x y s : Int64} {r t : Nat} {Q : Outcome → Nat → (Nat → Option va_E) → Prop} {val : Nat} (kk : Z l D kCl tys (kh_M_point :: zT) kNw ky_M_point.cls ky_M_point.name kb_M_point 11 (some FieldType.long) { frames := 10, cells := 0, slots := 0, locals := 360 } b (zFi D kCl b 0 0 Q) 0 0 N (σ) 91 [(9, .int (nI val)), (8, .int (nI t)), (6, .long s), (5, .int (nI r)), (0, .ref (b + 54)), (1, .long x), (3, .long y)] []) : ∀ (m k c : Nat), k + m = a → pcL (nI t) m k c = val → Z l D kCl tys (kh_M_point :: zT) kNw ky_M_point.cls ky_M_point.name kb_M_point 11 (some FieldType.long) { frames := 10, cells := 0, slots := 0, locals := 360 } b (zFi D kCl b 0 0 Q) 0 0 N (σ) 64 [(10, .int (nI k)), (9, .int (nI c)), (8, .int (nI t)), (6, .long s), (5, .int (nI r)), (0, .ref (b + 54)), (1, .long x), (3, .long y)] [] := by
  have ha := hM.ha
  intro m
  induction m with
  | zero =>
    intro k c hk hv
    obtain rfl : k = a := by omega
    have hv : c = val := hv
    subst hv
    refine z_iload kd_M_point_64 0 rfl ?_
    refine z_aload_n kd_M_point_66 5 rfl ?_
    refine z_get kd_M_point_67 (kf_M_80 _) hM.h1 rfl ?_
    refine z_icmp_ge (tgt := 91) kd_M_point_70 (by decide) (fun c70 => ?_) (fun c70 => ?_)
    · refine z_pick (lv' := [(9, .int (nI c)), (8, .int (nI t)), (6, .long s), (5, .int (nI r)), (0, .ref (b + 54)), (1, .long x), (3, .long y)]) [1, 2, 3, 4, 5, 6, 7] rfl ?_
      exact kk
    · exact absurd (nI_le (Nat.le_refl k) (by omega)) c70
  | succ m ih =>
    intro k c hk hv
    have hlt : k < a := by omega
    unfold pcL at hv
    refine z_iload kd_M_point_64 0 rfl ?_
    refine z_aload_n kd_M_point_66 5 rfl ?_
    refine z_get kd_M_point_67 (kf_M_80 _) hM.h1 rfl ?_
    refine z_icmp_ge (tgt := 91) kd_M_point_70 (by decide) (fun c70 => ?_) (fun c70 => ?_)
    · exact absurd c70 (nI_ge hlt (by omega))
    · refine z_iload kd_M_point_73 1 rfl ?_
      refine z_iload kd_M_point_75 2 rfl ?_
      refine z_iload kd_M_point_77 0 rfl ?_
      refine z_ishr kd_M_point_79 ?_
      refine z_iconst (v := 1) kd_M_point_80 (by decide) ?_
      refine z_iand kd_M_point_81 ?_
      refine z_iadd kd_M_point_82 ?_
      refine z_topi pc_s ?_
      refine z_istore (lv' := [(9, .int _), (10, .int _), (8, .int _), (6, .long _), (5, .int _), (0, .ref (b + 54)), (1, .long _), (3, .long _)]) kd_M_point_83 (by decide) rfl ?_
      refine z_iinc (v := (nI (k + 1))) (lv' := [(10, .int _), (9, .int _), (8, .int _), (6, .long _), (5, .int _), (0, .ref (b + 54)), (1, .long _), (3, .long _)]) kd_M_point_85 1 rfl (nI_1 _) (by decide) rfl ?_
      refine z_goto (tgt := 64) kd_M_point_88 (by decide) ?_
      refine z_pick (lv' := [(10, .int (nI (k + 1))), (9, .int (nI (if tb (nI t) k = true then c + 1 else c))), (8, .int (nI t)), (6, .long s), (5, .int (nI r)), (0, .ref (b + 54)), (1, .long x), (3, .long y)]) [0, 1, 2, 3, 4, 5, 6, 7] rfl ?_
      exact ih (k + 1) _ (by omega) hv
set_option maxHeartbeats 4000000 in
set_option maxRecDepth 100000 in
theorem l_M_point {l : Launch} {D : va_G} {tys : List (ClassId × FieldType)} {b N : Nat} {σ0 : Nat → Option va_E} {cI cJ cA : ClassId} (ht0 : tys[0]? = some (cI, .int)) (ht1 : tys[1]? = some (cJ, .long)) (ht3 : tys[3]? = some (cA, .array .long)) {th fa ls rm : Value} {n a : Nat} {gf gt gw : Nat → Int32} {F T : Nat → Nat} {x y : Int64} {r : Nat} {Q : Outcome → Nat → (Nat → Option va_E) → Prop} {val : Int64} (hQ : ∀ (σ' : Nat → Option va_E), MN b cI σ' th fa ls rm n a gf gt gw F T → (∃ g, σ' 62 = some (.inl (cI, 10, .inl g))) → Fr 62 62 σ0 σ' → Q (.returned (some (.long val))) N σ') : ∀ (m t : Nat) (σ : Nat → Option va_E) (s : Int64), t + m = 2 ^ a → MN b cI σ th fa ls rm n a gf gt gw F T → (∃ g, σ 62 = some (.inl (cI, 10, .inl g))) → Fr 62 62 σ0 σ → ppL a F T x y r m t s = val → Z l D kCl tys (kh_M_point :: zT) kNw ky_M_point.cls ky_M_point.name kb_M_point 11 (some FieldType.long) { frames := 10, cells := 0, slots := 0, locals := 360 } b (zFi D kCl b 0 0 Q) 0 0 N (σ) 47 [(8, .int (nI t)), (6, .long s), (5, .int (nI r)), (0, .ref (b + 54)), (1, .long x), (3, .long y)] [] := by
  intro m
  induction m with
  | zero =>
    intro t σ s ht hM h62 hF hv
    have ha := hM.ha
    have ha2 : 2 ^ a ≤ 2 ^ 30 := Nat.pow_le_pow_right (by decide) ha
    have hv : s = val := hv
    subst hv
    refine z_iload kd_M_point_47 0 rfl ?_
    refine z_iconst (v := 1) kd_M_point_49 (by decide) ?_
    refine z_aload_n kd_M_point_50 3 rfl ?_
    refine z_get kd_M_point_51 (kf_M_80 _) hM.h1 rfl ?_
    refine z_ishl kd_M_point_54 ?_
    refine z_topi (sh_a (by omega)) ?_
    refine z_icmp_ge (tgt := 133) kd_M_point_55 (by decide) (fun c55 => ?_) (fun c55 => ?_)
    · refine z_lload kd_M_point_133 1 rfl ?_
      exact z_lret kd_M_point_135 rfl (Nat.le_of_ble_eq_true rfl) (Nat.le_of_ble_eq_true rfl) (hQ _ hM h62 hF)
    · exact absurd (nI_le (by omega) (by omega)) c55
  | succ m ih =>
    intro t σ s ht hM h62 hF hv
    have hlt : t < 2 ^ a := by omega
    have ha := hM.ha
    have ha2 : 2 ^ a ≤ 2 ^ 30 := Nat.pow_le_pow_right (by decide) ha
    obtain ⟨g62, h62⟩ := h62
    unfold ppL at hv
    refine z_iload kd_M_point_47 0 rfl ?_
    refine z_iconst (v := 1) kd_M_point_49 (by decide) ?_
    refine z_aload_n kd_M_point_50 3 rfl ?_
    refine z_get kd_M_point_51 (kf_M_80 _) hM.h1 rfl ?_
    refine z_ishl kd_M_point_54 ?_
    refine z_topi (sh_a (by omega)) ?_
    refine z_icmp_ge (tgt := 133) kd_M_point_55 (by decide) (fun c55 => ?_) (fun c55 => ?_)
    · exact absurd c55 (nI_ge hlt (by omega))
    · refine z_iconst (v := 0) kd_M_point_58 (by decide) ?_
      refine z_istore (lv' := [(9, .int _), (8, .int _), (6, .long _), (5, .int _), (0, .ref (b + 54)), (1, .long _), (3, .long _)]) kd_M_point_59 (by decide) rfl ?_
      refine z_iconst (v := 0) kd_M_point_61 (by decide) ?_
      refine z_istore (lv' := [(10, .int _), (9, .int _), (8, .int _), (6, .long _), (5, .int _), (0, .ref (b + 54)), (1, .long _), (3, .long _)]) kd_M_point_62 (by decide) rfl ?_
      refine z_pick (lv' := [(10, .int (nI 0)), (9, .int (nI 0)), (8, .int (nI t)), (6, .long s), (5, .int (nI r)), (0, .ref (b + 54)), (1, .long x), (3, .long y)]) [0, 1, 2, 3, 4, 5, 6, 7] rfl ?_
      refine l_M_pc ht0 ht1 ht3 hM (val := pcL (nI t) a 0 0) ?_ a 0 0 (by omega) rfl
      refine z_aload_n kd_M_point_91 4 rfl ?_
      refine z_iload kd_M_point_92 1 rfl ?_
      refine z_callV (a := 54) (As := [_]) kd_M_point_94 (kg_M_214 _) hM.h1 kc_M (c_M_rank ht0 ht1 ht3 hM h62) rfl rfl (Nat.le_of_ble_eq_true rfl) ⟨Nat.le_of_ble_eq_true rfl, Nat.le_of_ble_eq_true rfl⟩ ⟨Nat.le_of_ble_eq_true rfl, Nat.le_of_ble_eq_true rfl⟩ ?_
      rintro _ _ σ_1 ⟨hv, rfl, ⟨g2_1, x62_1⟩, q_1⟩
      cases hv
      refine z_eq (st' := [_]) rfl rfl rfl rfl ?_
      have hM_1 := hM.fr q_1 (by omega)
      refine z_istore (lv' := [(10, .int _), (9, .int _), (8, .int _), (6, .long _), (5, .int _), (0, .ref (b + 54)), (1, .long _), (3, .long _)]) kd_M_point_97 (by decide) rfl ?_
      refine z_lload kd_M_point_99 3 rfl ?_
      refine z_lload_n kd_M_point_101 6 rfl ?_
      refine z_lconst (v := 1) kd_M_point_102 (by decide +kernel) ?_
      refine z_lsub kd_M_point_103 ?_
      refine z_iload kd_M_point_104 4 rfl ?_
      refine z_iload kd_M_point_106 0 rfl ?_
      refine z_isub kd_M_point_108 ?_
      refine z_S1 (As := [_, _]) kd_M_point_109 (kg_M_218 _) (c_M_powerOf) rfl rfl (Nat.le_of_ble_eq_true rfl) ⟨Nat.le_of_ble_eq_true rfl, Nat.le_of_ble_eq_true rfl⟩ ⟨Nat.le_of_ble_eq_true rfl, Nat.le_of_ble_eq_true rfl⟩ ?_
      refine z_lload_n kd_M_point_112 7 rfl ?_
      refine z_lconst (v := 1) kd_M_point_113 (by decide +kernel) ?_
      refine z_lsub kd_M_point_114 ?_
      refine z_iload kd_M_point_115 1 rfl ?_
      refine z_iload kd_M_point_117 0 rfl ?_
      refine z_isub kd_M_point_119 ?_
      refine z_S1 (As := [_, _]) kd_M_point_120 (kg_M_218 _) (c_M_powerOf) rfl rfl (Nat.le_of_ble_eq_true rfl) ⟨Nat.le_of_ble_eq_true rfl, Nat.le_of_ble_eq_true rfl⟩ ⟨Nat.le_of_ble_eq_true rfl, Nat.le_of_ble_eq_true rfl⟩ ?_
      refine z_lmul kd_M_point_123 ?_
      refine z_ladd kd_M_point_124 ?_
      refine z_lstore (lv' := [(6, .long _), (10, .int _), (9, .int _), (8, .int _), (5, .int _), (0, .ref (b + 54)), (1, .long _), (3, .long _)]) kd_M_point_125 (by decide) rfl ?_
      refine z_iinc (v := (nI (t + 1))) (lv' := [(8, .int _), (6, .long _), (10, .int _), (9, .int _), (5, .int _), (0, .ref (b + 54)), (1, .long _), (3, .long _)]) kd_M_point_127 3 rfl (nI_1 _) (by decide) rfl ?_
      refine z_goto (tgt := 47) kd_M_point_130 (by decide) ?_
      refine z_pick (lv' := [(8, .int (nI (t + 1))), (6, .long _), (5, .int (nI r)), (0, .ref (b + 54)), (1, .long x), (3, .long y)]) [0, 1, 4, 5, 6, 7] rfl ?_
      exact ih (t + 1) _ _ (by omega) hM_1 ⟨_, x62_1⟩ (Fr.tr hF (q_1.wide (by omega) (by omega))) hv
set_option maxHeartbeats 4000000 in
set_option maxRecDepth 100000 in
theorem c_M_point0 {l : Launch} {D : va_G} {tys : List (ClassId × FieldType)} {b N : Nat} {σ : Nat → Option va_E} {cI cJ cA : ClassId} (ht0 : tys[0]? = some (cI, .int)) (ht1 : tys[1]? = some (cJ, .long)) (ht3 : tys[3]? = some (cA, .array .long)) {cZ : ClassId} (ht2 : tys[2]? = some (cZ, .boolean)) {n a : Nat} {gf gt gw : Nat → Int32} {F T : Nat → Nat} {C K : Nat → Int64} (hMS : MS b cI cJ cZ σ n a gf gt gw F T C K) {x y : Int64} (h14 : 14 < a) : zM l D kCl tys kNw b ky_M_point (kh_M_point :: zT) 10 360 0 0 [.ref (b + 54), .long x, .long y] N σ ((fun oc N' σ' => oc = .returned (some (.long (0))) ∧ N' = N ∧ MS b cI cJ cZ σ' n a gf gt gw F T C K ∧ (∃ fa ls rm, MN b cI σ' (.int 1) fa ls rm n a gf gt gw F T) ∧ Fr 54 73 σ σ')) := by
  refine zM.of (by decide +kernel) rfl (Nat.le_of_ble_eq_true rfl) ?_
  refine z_pick (lv' := [(0, .ref (b + 54)), (1, .long x), (3, .long y)]) [0, 1, 2] rfl ?_
  obtain ⟨⟨th, fa, ls, rm, hM⟩, h58, h59, ⟨g60, h60⟩, ⟨g61, h61⟩, ⟨g62, h62⟩, ⟨g63, h63⟩, ⟨g64, h64⟩, ⟨g65, h65⟩, ⟨g66, h66⟩, ⟨g67, h67⟩, ⟨g68, h68⟩, ⟨g69, h69⟩, ⟨g70, h70⟩, ⟨g71, h71⟩, ⟨g72, h72⟩, ⟨g73, h73⟩⟩ := hMS
  have hn := hM.hn
  have ha := hM.ha
  refine z_aload_n kd_M_point_0 0 rfl ?_
  refine z_aload_n kd_M_point_1 0 rfl ?_
  refine z_get kd_M_point_2 (kf_M_80 _) hM.h1 rfl ?_
  refine z_bipush (v := 14) kd_M_point_5 (by decide +kernel) ?_
  refine z_icmp_le (tgt := 14) kd_M_point_7 (by decide) (fun c7 => ?_) (fun c7 => ?_)
  · exact absurd c7 (fun z => absurd (show a ≤ 14 from (nI_leI (b := 14) (by omega) (by decide)).mp z) (by omega))
  · refine z_iconst (v := 1) kd_M_point_10 (by decide) ?_
    refine z_goto (tgt := 15) kd_M_point_11 (by decide) ?_
    refine z_putE (fs' := [_, _, _, _, _, _, _, _, _, _, _, _, _, _, _, _, _, _, _, _, _, _, _, _, _]) kd_M_point_15 (kp_M_69 _) hM.h1 (Nat.le_of_ble_eq_true rfl) rfl rfl rfl ?_
    refine z_upd (fun σ_1 x54_1 q_1 => ?_)
    have x58_1 := (q_1 58 (by omega)).trans h58
    have x59_1 := (q_1 59 (by omega)).trans h59
    have x60_1 := (q_1 60 (by omega)).trans h60
    have x61_1 := (q_1 61 (by omega)).trans h61
    have x62_1 := (q_1 62 (by omega)).trans h62
    have x63_1 := (q_1 63 (by omega)).trans h63
    have x64_1 := (q_1 64 (by omega)).trans h64
    have x65_1 := (q_1 65 (by omega)).trans h65
    have x66_1 := (q_1 66 (by omega)).trans h66
    have x67_1 := (q_1 67 (by omega)).trans h67
    have x68_1 := (q_1 68 (by omega)).trans h68
    have x69_1 := (q_1 69 (by omega)).trans h69
    have x70_1 := (q_1 70 (by omega)).trans h70
    have x71_1 := (q_1 71 (by omega)).trans h71
    have x72_1 := (q_1 72 (by omega)).trans h72
    have x73_1 := (q_1 73 (by omega)).trans h73
    have hM_1 := hM.put x54_1 q_1
    refine z_aload_n kd_M_point_18 0 rfl ?_
    refine z_get kd_M_point_19 (kf_M_69 _) hM_1.h1 rfl ?_
    refine z_if_le (tgt := 27) kd_M_point_22 (by decide) (fun c22 => absurd c22 (by decide)) (fun c22 => ?_)
    refine z_lconst (v := 0) kd_M_point_25 (by decide +kernel) ?_
    exact z_lret kd_M_point_26 rfl (Nat.le_of_ble_eq_true rfl) (Nat.le_of_ble_eq_true rfl) ⟨rfl, rfl, ⟨⟨_, _, _, _, hM_1⟩, x58_1, x59_1, ⟨_, x60_1⟩, ⟨_, x61_1⟩, ⟨_, x62_1⟩, ⟨_, x63_1⟩, ⟨_, x64_1⟩, ⟨_, x65_1⟩, ⟨_, x66_1⟩, ⟨_, x67_1⟩, ⟨_, x68_1⟩, ⟨_, x69_1⟩, ⟨_, x70_1⟩, ⟨_, x71_1⟩, ⟨_, x72_1⟩, ⟨_, x73_1⟩⟩, ⟨_, _, _, hM_1⟩, (Fr.tr Fr.rf (q_1.wide (by omega) (by omega)))⟩
set_option maxHeartbeats 4000000 in
set_option maxRecDepth 100000 in
theorem c_M_point1 {l : Launch} {D : va_G} {tys : List (ClassId × FieldType)} {b N : Nat} {σ : Nat → Option va_E} {cI cJ cA : ClassId} (ht0 : tys[0]? = some (cI, .int)) (ht1 : tys[1]? = some (cJ, .long)) (ht3 : tys[3]? = some (cA, .array .long)) {cZ : ClassId} (ht2 : tys[2]? = some (cZ, .boolean)) {n a : Nat} {gf gt gw : Nat → Int32} {F T : Nat → Nat} {C K : Nat → Int64} (hMS : MS b cI cJ cZ σ n a gf gt gw F T C K) {x y : Int64} (h14 : a ≤ 14) : zM l D kCl tys kNw b ky_M_point (kh_M_point :: zT) 10 360 0 0 [.ref (b + 54), .long x, .long y] N σ ((fun oc N' σ' => oc = .returned (some (.long (ppV a F T x y))) ∧ N' = N ∧ MS b cI cJ cZ σ' n a gf gt gw F T C K ∧ (∃ fa ls rm, MN b cI σ' (.int 0) fa ls rm n a gf gt gw F T) ∧ Fr 54 73 σ σ')) := by
  refine zM.of (by decide +kernel) rfl (Nat.le_of_ble_eq_true rfl) ?_
  refine z_pick (lv' := [(0, .ref (b + 54)), (1, .long x), (3, .long y)]) [0, 1, 2] rfl ?_
  obtain ⟨⟨th, fa, ls, rm, hM⟩, h58, h59, ⟨g60, h60⟩, ⟨g61, h61⟩, ⟨g62, h62⟩, ⟨g63, h63⟩, ⟨g64, h64⟩, ⟨g65, h65⟩, ⟨g66, h66⟩, ⟨g67, h67⟩, ⟨g68, h68⟩, ⟨g69, h69⟩, ⟨g70, h70⟩, ⟨g71, h71⟩, ⟨g72, h72⟩, ⟨g73, h73⟩⟩ := hMS
  have hn := hM.hn
  have ha := hM.ha
  have h2a : 1 ≤ 2 ^ a := Nat.one_le_two_pow
  refine z_aload_n kd_M_point_0 0 rfl ?_
  refine z_aload_n kd_M_point_1 0 rfl ?_
  refine z_get kd_M_point_2 (kf_M_80 _) hM.h1 rfl ?_
  refine z_bipush (v := 14) kd_M_point_5 (by decide +kernel) ?_
  refine z_icmp_le (tgt := 14) kd_M_point_7 (by decide) (fun c7 => ?_) (fun c7 => ?_)
  · refine z_iconst (v := 0) kd_M_point_14 (by decide) ?_
    refine z_putE (fs' := [_, _, _, _, _, _, _, _, _, _, _, _, _, _, _, _, _, _, _, _, _, _, _, _, _]) kd_M_point_15 (kp_M_69 _) hM.h1 (Nat.le_of_ble_eq_true rfl) rfl rfl rfl ?_
    refine z_upd (fun σ_1 x54_1 q_1 => ?_)
    have x58_1 := (q_1 58 (by omega)).trans h58
    have x59_1 := (q_1 59 (by omega)).trans h59
    have x60_1 := (q_1 60 (by omega)).trans h60
    have x61_1 := (q_1 61 (by omega)).trans h61
    have x62_1 := (q_1 62 (by omega)).trans h62
    have x63_1 := (q_1 63 (by omega)).trans h63
    have x64_1 := (q_1 64 (by omega)).trans h64
    have x65_1 := (q_1 65 (by omega)).trans h65
    have x66_1 := (q_1 66 (by omega)).trans h66
    have x67_1 := (q_1 67 (by omega)).trans h67
    have x68_1 := (q_1 68 (by omega)).trans h68
    have x69_1 := (q_1 69 (by omega)).trans h69
    have x70_1 := (q_1 70 (by omega)).trans h70
    have x71_1 := (q_1 71 (by omega)).trans h71
    have x72_1 := (q_1 72 (by omega)).trans h72
    have x73_1 := (q_1 73 (by omega)).trans h73
    have hM_1 := hM.put x54_1 q_1
    refine z_aload_n kd_M_point_18 0 rfl ?_
    refine z_get kd_M_point_19 (kf_M_69 _) hM_1.h1 rfl ?_
    refine z_if_le (tgt := 27) kd_M_point_22 (by decide) (fun c22 => ?_) (fun c22 => absurd c22 (by decide))
    refine z_aload_n kd_M_point_27 0 rfl ?_
    refine z_iconst (v := 1) kd_M_point_28 (by decide) ?_
    refine z_aload_n kd_M_point_29 0 rfl ?_
    refine z_get kd_M_point_30 (kf_M_80 _) hM_1.h1 rfl ?_
    refine z_ishl kd_M_point_33 ?_
    refine z_topi (sh_a (by omega)) ?_
    refine z_iconst (v := 1) kd_M_point_34 (by decide) ?_
    refine z_isub kd_M_point_35 ?_
    refine z_topi (pk_sub (a := 2 ^ a) (b := 1) h2a) ?_
    refine z_callV (a := 54) (As := [_]) kd_M_point_36 (kg_M_214 _) hM_1.h1 kc_M (c_M_rank ht0 ht1 ht3 hM_1 x62_1) rfl rfl (Nat.le_of_ble_eq_true rfl) ⟨Nat.le_of_ble_eq_true rfl, Nat.le_of_ble_eq_true rfl⟩ ⟨Nat.le_of_ble_eq_true rfl, Nat.le_of_ble_eq_true rfl⟩ ?_
    rintro _ _ σ_2 ⟨hv, rfl, ⟨g2_2, x62_2⟩, q_2⟩
    cases hv
    refine z_eq (st' := [_]) rfl rfl rfl rfl ?_
    have x58_2 := (q_2 58 (by omega)).trans x58_1
    have x59_2 := (q_2 59 (by omega)).trans x59_1
    have x60_2 := (q_2 60 (by omega)).trans x60_1
    have x61_2 := (q_2 61 (by omega)).trans x61_1
    have x63_2 := (q_2 63 (by omega)).trans x63_1
    have x64_2 := (q_2 64 (by omega)).trans x64_1
    have x65_2 := (q_2 65 (by omega)).trans x65_1
    have x66_2 := (q_2 66 (by omega)).trans x66_1
    have x67_2 := (q_2 67 (by omega)).trans x67_1
    have x68_2 := (q_2 68 (by omega)).trans x68_1
    have x69_2 := (q_2 69 (by omega)).trans x69_1
    have x70_2 := (q_2 70 (by omega)).trans x70_1
    have x71_2 := (q_2 71 (by omega)).trans x71_1
    have x72_2 := (q_2 72 (by omega)).trans x72_1
    have x73_2 := (q_2 73 (by omega)).trans x73_1
    have hM_2 := hM_1.fr q_2 (by omega)
    refine z_istore (lv' := [(5, .int _), (0, .ref (b + 54)), (1, .long _), (3, .long _)]) kd_M_point_39 (by decide) rfl ?_
    refine z_lconst (v := 0) kd_M_point_41 (by decide +kernel) ?_
    refine z_lstore (lv' := [(6, .long _), (5, .int _), (0, .ref (b + 54)), (1, .long _), (3, .long _)]) kd_M_point_42 (by decide) rfl ?_
    refine z_iconst (v := 0) kd_M_point_44 (by decide) ?_
    refine z_istore (lv' := [(8, .int _), (6, .long _), (5, .int _), (0, .ref (b + 54)), (1, .long _), (3, .long _)]) kd_M_point_45 (by decide) rfl ?_
    refine z_pick (lv' := [(8, .int (nI 0)), (6, .long 0), (5, .int (nI (rkV a F T (nI (2 ^ a - 1))))), (0, .ref (b + 54)), (1, .long x), (3, .long y)]) [0, 1, 2, 3, 4, 5] rfl ?_
    exact l_M_point ht0 ht1 ht3 (val := ppV a F T x y) (fun σ9 hM9 z62 q9 => ⟨rfl, rfl, ⟨⟨_, _, _, _, hM9⟩, (q9 58 (by omega)).trans x58_2, (q9 59 (by omega)).trans x59_2, ⟨_, (q9 60 (by omega)).trans x60_2⟩, ⟨_, (q9 61 (by omega)).trans x61_2⟩, z62, ⟨_, (q9 63 (by omega)).trans x63_2⟩, ⟨_, (q9 64 (by omega)).trans x64_2⟩, ⟨_, (q9 65 (by omega)).trans x65_2⟩, ⟨_, (q9 66 (by omega)).trans x66_2⟩, ⟨_, (q9 67 (by omega)).trans x67_2⟩, ⟨_, (q9 68 (by omega)).trans x68_2⟩, ⟨_, (q9 69 (by omega)).trans x69_2⟩, ⟨_, (q9 70 (by omega)).trans x70_2⟩, ⟨_, (q9 71 (by omega)).trans x71_2⟩, ⟨_, (q9 72 (by omega)).trans x72_2⟩, ⟨_, (q9 73 (by omega)).trans x73_2⟩⟩, ⟨_, _, _, hM9⟩, Fr.tr (Fr.tr (Fr.tr Fr.rf (q_1.wide (by omega) (by omega))) (q_2.wide (by omega) (by omega))) (q9.wide (by omega) (by omega))⟩) (2 ^ a) 0 _ _ (by omega) hM_2 ⟨_, x62_2⟩ Fr.rf rfl
  · exact absurd (show nI a ≤ 14 from (nI_leI (b := 14) (by omega) (by decide)).mpr h14) c7
set_option maxHeartbeats 4000000 in
set_option maxRecDepth 100000 in
theorem c_M_thrown {l : Launch} {D : va_G} {tys : List (ClassId × FieldType)} {b N : Nat} {σ : Nat → Option va_E} {cI cJ cA : ClassId} (ht0 : tys[0]? = some (cI, .int)) (ht1 : tys[1]? = some (cJ, .long)) (ht3 : tys[3]? = some (cA, .array .long)) {k : Int32} {fa ls rm : Value} {n a : Nat} {gf gt gw : Nat → Int32} {F T : Nat → Nat} (hM : MN b cI σ (.int k) fa ls rm n a gf gt gw F T) : zM l D kCl tys kNw b ky_M_thrown (kh_M_thrown :: zT) 0 0 0 0 [.ref (b + 54)] N σ (zD (some (.int k)) N σ) := by
  refine zM.of (by decide +kernel) rfl (Nat.le_of_ble_eq_true rfl) ?_
  refine z_pick (lv' := [(0, .ref (b + 54))]) [0] rfl ?_
  refine z_aload_n kd_M_thrown_0 0 rfl ?_
  refine z_get kd_M_thrown_1 (kf_M_69 _) hM.h1 rfl ?_
  exact z_iret kd_M_thrown_4 rfl (Nat.le_of_ble_eq_true rfl) (Nat.le_of_ble_eq_true rfl) ⟨rfl, rfl, rfl⟩
