/-- an arc at a node, not a loop -/
def atN (F T : Nat → Nat) (v k : Nat) : Bool := decide (F k ≠ T k ∧ (F k = v ∨ T k = v))
theorem atN_t {F T : Nat → Nat} {v k : Nat} (h : F k ≠ T k ∧ (F k = v ∨ T k = v)) : atN F T v k = true := decide_eq_true h
theorem atN_o {F T : Nat → Nat} {v k : Nat} (h : atN F T v k = true) : F k ≠ T k ∧ (F k = v ∨ T k = v) := of_decide_eq_true h
def dgL (F T : Nat → Nat) (w : Nat → Int32) (v : Nat) : Nat → Nat → Int64 → Int64
  | 0, _, d => d
  | m + 1, k, d => dgL F T w v m (k + 1) (d + (if atN F T v k = true then (w k).toInt64 else 0))
def dgV (F T : Nat → Nat) (w : Nat → Int32) (a v : Nat) : Int64 := dgL F T w v a 0 0
def otN (F T : Nat → Nat) (v k : Nat) : Nat := if F k = v then T k else F k
def fnS (F T : Nat → Nat) (w : Nat → Int32) (v : Nat) (q : Int64) (k : Nat) (L : Nat → Int64) : Nat → Int64 := vp_updL (vp_updL L v (L v - q * (w k).toInt64)) (otN F T v k) (vp_updL L v (L v - q * (w k).toInt64) (otN F T v k) + q * (w k).toInt64)
def fnL (F T : Nat → Nat) (w : Nat → Int32) (v : Nat) (q : Int64) : Nat → Nat → (Nat → Int64) → Nat → Int64
  | 0, _, L => L
  | m + 1, k, L => fnL F T w v q m (k + 1) (if atN F T v k = true then fnS F T w v q k L else L)
def fnV (F T : Nat → Nat) (w : Nat → Int32) (a v : Nat) (q : Int64) (L : Nat → Int64) : Nat → Int64 := fnL F T w v q a 0 L
def spI (F T : Nat → Nat) (w : Nat → Int32) (a s : Nat) : Nat → Nat → (Nat → Int64) → (Nat → Int64) → Int64 → Bool → (Nat → Int64) × (Nat → Int64) × Int64 × Bool
  | 0, _, L, G, al, go => (L, G, al, go)
  | m + 1, v, L, G, al, go => if v ≠ s ∧ ¬ L v < dgV F T w a v then spI F T w a s m (v + 1) (fnV F T w a v (L v / dgV F T w a v) L) (vp_updL G v (G v + L v / dgV F T w a v)) (al + L v / dgV F T w a v) true else spI F T w a s m (v + 1) L G al go
def spO (F T : Nat → Nat) (w : Nat → Int32) (n a s : Nat) : Nat → (Nat → Int64) → (Nat → Int64) → Int64 → Option ((Nat → Int64) × (Nat → Int64) × Int64)
  | 0, _, _, _ => none
  | f + 1, L, G, al => if (spI F T w a s n 0 L G al false).2.2.2 = true then spO F T w n a s f (spI F T w a s n 0 L G al false).1 (spI F T w a s n 0 L G al false).2.1 (spI F T w a s n 0 L G al false).2.2.1 else some ((spI F T w a s n 0 L G al false).1, (spI F T w a s n 0 L G al false).2.1, (spI F T w a s n 0 L G al false).2.2.1)
def bpL (i : Nat) (C L : Nat → Int64) : Nat → Int64 := fun j => if j < i then C j else L j
theorem bpL_0 {C L : Nat → Int64} : bpL 0 C L = L := by
  funext j
  unfold bpL
  rw [if_neg (by omega)]
theorem bpL_s {C L : Nat → Int64} {i : Nat} : vp_updL (bpL i C L) i (C i) = bpL (i + 1) C L := by
  funext j
  unfold vp_updL bpL
  by_cases e : j = i
  · subst e; rw [if_pos rfl, if_pos (by omega)]
  · rw [if_neg e]
    by_cases c : j < i
    · rw [if_pos c, if_pos (by omega)]
    · rw [if_neg c, if_neg (by omega)]
set_option maxHeartbeats 4000000 in
set_option maxRecDepth 100000 in
theorem l_M_degree {l : Launch} {D : va_G} {tys : List (ClassId × FieldType)} {b N : Nat} {σ : Nat → Option va_E} {cI cJ cA : ClassId} (ht0 : tys[0]? = some (cI, .int)) (ht1 : tys[1]? = some (cJ, .long)) (ht3 : tys[3]? = some (cA, .array .long)) {th fa ls rm : Value} {n a : Nat} {gf gt gw : Nat → Int32} {F T : Nat → Nat} (hM : MN b cI σ th fa ls rm n a gf gt gw F T) {v : Nat} (hv0 : v < n) {R : Room} {val : Int64} : ∀ (m k : Nat) (d : Int64), k + m = a → dgL F T gw v m k d = val → Z l D kCl tys (kh_M_degree :: zT) kNw ky_M_degree.cls ky_M_degree.name kb_M_degree 5 (some FieldType.long) R b (zFi D kCl b 0 0 (zD (some (.long val)) N σ)) 0 0 N (σ) 5 [(4, .int (nI k)), (2, .long d), (0, .ref (b + 54)), (1, .int (nI v))] [] := by
  intro m
  induction m with
  | zero =>
    intro k d hk hv
    obtain rfl : k = a := by omega
    have ha := hM.ha
    have hv : d = val := hv
    subst hv
    refine z_iload kd_M_degree_5 0 rfl ?_
    refine z_aload_n kd_M_degree_7 2 rfl ?_
    refine z_get kd_M_degree_8 (kf_M_80 _) hM.h1 rfl ?_
    refine z_icmp_ge (tgt := 74) kd_M_degree_11 (by decide) (fun c11 => ?_) (fun c11 => ?_)
    · refine z_lload_n kd_M_degree_74 1 rfl ?_
      exact z_lret kd_M_degree_75 rfl (Nat.le_of_ble_eq_true rfl) (Nat.le_of_ble_eq_true rfl) ⟨rfl, rfl, rfl⟩
    · exact absurd (nI_le (Nat.le_refl k) (by omega)) c11
  | succ m ih =>
    intro k d hk hv
    have hlt : k < a := by omega
    have hn := hM.hn
    have ha := hM.ha
    obtain ⟨kf, kfn, kt, ktn⟩ := hM.hft k hlt
    unfold dgL at hv
    refine z_iload kd_M_degree_5 0 rfl ?_
    refine z_aload_n kd_M_degree_7 2 rfl ?_
    refine z_get kd_M_degree_8 (kf_M_80 _) hM.h1 rfl ?_
    refine z_icmp_ge (tgt := 74) kd_M_degree_11 (by decide) (fun c11 => ?_) (fun c11 => ?_)
    · exact absurd c11 (nI_ge hlt (by omega))
    · refine z_lload_n kd_M_degree_14 1 rfl ?_
      refine z_aload_n kd_M_degree_15 2 rfl ?_
      refine z_get kd_M_degree_16 (kf_M_7 _) hM.h1 rfl ?_
      refine z_iload kd_M_degree_19 0 rfl ?_
      refine z_ialdN (t0 := 0) kd_M_degree_21 (by assumption) hM.h2 (by omega) (by decide) ?_
      refine z_topi kf ?_
      refine z_aload_n kd_M_degree_22 2 rfl ?_
      refine z_get kd_M_degree_23 (kf_M_13 _) hM.h1 rfl ?_
      refine z_iload kd_M_degree_26 0 rfl ?_
      refine z_ialdN (t0 := 0) kd_M_degree_28 (by assumption) hM.h3 (by omega) (by decide) ?_
      refine z_topi kt ?_
      refine z_icmp_eq (tgt := 65) kd_M_degree_29 (by decide) (fun c29 => ?_) (fun c29 => ?_)
      · rw [if_neg (fun z => (atN_o z).1 ((nI_eq (by omega) (by omega)).mp c29))] at hv
        refine z_lconst (v := 0) kd_M_degree_65 (by decide +kernel) ?_
        refine z_ladd kd_M_degree_66 ?_
        refine z_lstore_n (lv' := [(2, .long _), (4, .int _), (0, .ref (b + 54)), (1, .int _)]) kd_M_degree_67 (by decide) rfl ?_
        refine z_iinc (v := (nI (k + 1))) (lv' := [(4, .int _), (2, .long _), (0, .ref (b + 54)), (1, .int _)]) kd_M_degree_68 1 rfl (nI_1 _) (by decide) rfl ?_
        refine z_goto (tgt := 5) kd_M_degree_71 (by decide) ?_
        refine z_pick (lv' := [(4, .int (nI (k + 1))), (2, .long _), (0, .ref (b + 54)), (1, .int (nI v))]) [0, 1, 2, 3] rfl ?_
        exact ih (k + 1) _ (by omega) hv
      · have q1 : F k ≠ T k := fun z => c29 (by rw [z])
        refine z_aload_n kd_M_degree_32 2 rfl ?_
        refine z_get kd_M_degree_33 (kf_M_7 _) hM.h1 rfl ?_
        refine z_iload kd_M_degree_36 0 rfl ?_
        refine z_ialdN (t0 := 0) kd_M_degree_38 (by assumption) hM.h2 (by omega) (by decide) ?_
        refine z_topi kf ?_
        refine z_iload_n kd_M_degree_39 3 rfl ?_
        refine z_icmp_eq (tgt := 54) kd_M_degree_40 (by decide) (fun c40 => ?_) (fun c40 => ?_)
        · have q2 : F k = v := (nI_eq (by omega) (by omega)).mp c40
          rw [if_pos (atN_t ⟨q1, Or.inl q2⟩)] at hv
          refine z_aload_n kd_M_degree_54 2 rfl ?_
          refine z_get kd_M_degree_55 (kf_M_16 _) hM.h1 rfl ?_
          refine z_iload kd_M_degree_58 0 rfl ?_
          refine z_ialdN (t0 := 0) kd_M_degree_60 (by assumption) hM.h4 (by omega) (by decide) ?_
          refine z_i2l kd_M_degree_61 ?_
          refine z_goto (tgt := 66) kd_M_degree_62 (by decide) ?_
          refine z_ladd kd_M_degree_66 ?_
          refine z_lstore_n (lv' := [(2, .long _), (4, .int _), (0, .ref (b + 54)), (1, .int _)]) kd_M_degree_67 (by decide) rfl ?_
          refine z_iinc (v := (nI (k + 1))) (lv' := [(4, .int _), (2, .long _), (0, .ref (b + 54)), (1, .int _)]) kd_M_degree_68 1 rfl (nI_1 _) (by decide) rfl ?_
          refine z_goto (tgt := 5) kd_M_degree_71 (by decide) ?_
          refine z_pick (lv' := [(4, .int (nI (k + 1))), (2, .long _), (0, .ref (b + 54)), (1, .int (nI v))]) [0, 1, 2, 3] rfl ?_
          exact ih (k + 1) _ (by omega) hv
        · have q2 : ¬ F k = v := fun z => c40 (by rw [z])
          refine z_aload_n kd_M_degree_43 2 rfl ?_
          refine z_get kd_M_degree_44 (kf_M_13 _) hM.h1 rfl ?_
          refine z_iload kd_M_degree_47 0 rfl ?_
          refine z_ialdN (t0 := 0) kd_M_degree_49 (by assumption) hM.h3 (by omega) (by decide) ?_
          refine z_topi kt ?_
          refine z_iload_n kd_M_degree_50 3 rfl ?_
          refine z_icmp_ne (tgt := 65) kd_M_degree_51 (by decide) (fun c51 => ?_) (fun c51 => ?_)
          · have q3 : ¬ T k = v := fun z => c51 (by rw [z])
            rw [if_neg (fun z => by rcases (atN_o z).2 with y | y; exact q2 y; exact q3 y)] at hv
            refine z_lconst (v := 0) kd_M_degree_65 (by decide +kernel) ?_
            refine z_ladd kd_M_degree_66 ?_
            refine z_lstore_n (lv' := [(2, .long _), (4, .int _), (0, .ref (b + 54)), (1, .int _)]) kd_M_degree_67 (by decide) rfl ?_
            refine z_iinc (v := (nI (k + 1))) (lv' := [(4, .int _), (2, .long _), (0, .ref (b + 54)), (1, .int _)]) kd_M_degree_68 1 rfl (nI_1 _) (by decide) rfl ?_
            refine z_goto (tgt := 5) kd_M_degree_71 (by decide) ?_
            refine z_pick (lv' := [(4, .int (nI (k + 1))), (2, .long _), (0, .ref (b + 54)), (1, .int (nI v))]) [0, 1, 2, 3] rfl ?_
            exact ih (k + 1) _ (by omega) hv
          · have q3 : T k = v := (nI_eq (by omega) (by omega)).mp c51
            rw [if_pos (atN_t ⟨q1, Or.inr q3⟩)] at hv
            refine z_aload_n kd_M_degree_54 2 rfl ?_
            refine z_get kd_M_degree_55 (kf_M_16 _) hM.h1 rfl ?_
            refine z_iload kd_M_degree_58 0 rfl ?_
            refine z_ialdN (t0 := 0) kd_M_degree_60 (by assumption) hM.h4 (by omega) (by decide) ?_
            refine z_i2l kd_M_degree_61 ?_
            refine z_goto (tgt := 66) kd_M_degree_62 (by decide) ?_
            refine z_ladd kd_M_degree_66 ?_
            refine z_lstore_n (lv' := [(2, .long _), (4, .int _), (0, .ref (b + 54)), (1, .int _)]) kd_M_degree_67 (by decide) rfl ?_
            refine z_iinc (v := (nI (k + 1))) (lv' := [(4, .int _), (2, .long _), (0, .ref (b + 54)), (1, .int _)]) kd_M_degree_68 1 rfl (nI_1 _) (by decide) rfl ?_
            refine z_goto (tgt := 5) kd_M_degree_71 (by decide) ?_
            refine z_pick (lv' := [(4, .int (nI (k + 1))), (2, .long _), (0, .ref (b + 54)), (1, .int (nI v))]) [0, 1, 2, 3] rfl ?_
            exact ih (k + 1) _ (by omega) hv
set_option maxHeartbeats 4000000 in
set_option maxRecDepth 100000 in
theorem c_M_degree {l : Launch} {D : va_G} {tys : List (ClassId × FieldType)} {b N : Nat} {σ : Nat → Option va_E} {cI cJ cA : ClassId} (ht0 : tys[0]? = some (cI, .int)) (ht1 : tys[1]? = some (cJ, .long)) (ht3 : tys[3]? = some (cA, .array .long)) {th fa ls rm : Value} {n a : Nat} {gf gt gw : Nat → Int32} {F T : Nat → Nat} (hM : MN b cI σ th fa ls rm n a gf gt gw F T) {v : Nat} (hv0 : v < n) : zM l D kCl tys kNw b ky_M_degree (kh_M_degree :: zT) 0 0 0 0 [.ref (b + 54), .int (nI v)] N σ (zD (some (.long (dgV F T gw a v))) N σ) := by
  refine zM.of (by decide +kernel) rfl (Nat.le_of_ble_eq_true rfl) ?_
  refine z_pick (lv' := [(0, .ref (b + 54)), (1, .int (nI v))]) [0, 1] rfl ?_
  refine z_lconst (v := 0) kd_M_degree_0 (by decide +kernel) ?_
  refine z_lstore_n (lv' := [(2, .long _), (0, .ref (b + 54)), (1, .int _)]) kd_M_degree_1 (by decide) rfl ?_
  refine z_iconst (v := 0) kd_M_degree_2 (by decide) ?_
  refine z_istore (lv' := [(4, .int _), (2, .long _), (0, .ref (b + 54)), (1, .int _)]) kd_M_degree_3 (by decide) rfl ?_
  refine z_pick (lv' := [(4, .int (nI 0)), (2, .long 0), (0, .ref (b + 54)), (1, .int (nI v))]) [0, 1, 2, 3] rfl ?_
  exact l_M_degree ht0 ht1 ht3 hM hv0 a 0 _ (by omega) rfl
set_option maxHeartbeats 4000000 in
set_option maxRecDepth 100000 in
theorem l_M_fire {l : Launch} {D : va_G} {tys : List (ClassId × FieldType)} {b N : Nat} {σ0 : Nat → Option va_E} {cI cJ cA : ClassId} (ht0 : tys[0]? = some (cI, .int)) (ht1 : tys[1]? = some (cJ, .long)) (ht3 : tys[3]? = some (cA, .array .long)) {th fa ls rm : Value} {n a : Nat} {gf gt gw : Nat → Int32} {F T : Nat → Nat} {v : Nat} (hv0 : v < n) {q : Int64} {G Lf : Nat → Int64} {R : Room} : ∀ (m k : Nat) (σ : Nat → Option va_E) (L : Nat → Int64), k + m = a → MN b cI σ th fa ls rm n a gf gt gw F T → σ 72 = some (.inl (cJ, 10, .inr (.inl L))) → σ 73 = some (.inl (cJ, 10, .inr (.inl G))) → Fr 72 73 σ0 σ → fnL F T gw v q m k L = Lf → Z l D kCl tys (kh_M_fireNode :: zT) kNw ky_M_fireNode.cls ky_M_fireNode.name kb_M_fireNode 6 none R b (zFi D kCl b 0 0 (fun oc N' σ' => oc = .returned none ∧ N' = N ∧ σ' 72 = some (.inl (cJ, 10, .inr (.inl Lf))) ∧ σ' 73 = some (.inl (cJ, 10, .inr (.inl (vp_updL G v (G v + q))))) ∧ Fr 72 73 σ0 σ')) 0 0 N (σ) 3 [(4, .int (nI k)), (0, .ref (b + 54)), (1, .int (nI v)), (2, .long q)] [] := by
  intro m
  induction m with
  | zero =>
    intro k σ L hk hM h72 h73 hF hv
    obtain rfl : k = a := by omega
    have hn := hM.hn
    have ha := hM.ha
    have hv : L = Lf := hv
    subst hv
    refine z_iload kd_M_fireNode_3 0 rfl ?_
    refine z_aload_n kd_M_fireNode_5 1 rfl ?_
    refine z_get kd_M_fireNode_6 (kf_M_80 _) hM.h1 rfl ?_
    refine z_icmp_ge (tgt := 126) kd_M_fireNode_9 (by decide) (fun c9 => ?_) (fun c9 => ?_)
    · refine z_aload_n kd_M_fireNode_126 1 rfl ?_
      refine z_get kd_M_fireNode_127 (kf_M_66 _) hM.h1 rfl ?_
      refine z_iload_n kd_M_fireNode_130 2 rfl ?_
      refine z_dup2_11 kd_M_fireNode_131 rfl rfl ?_
      refine z_laldN (t0 := 1) kd_M_fireNode_132 (by assumption) h73 (by omega) (by decide) ?_
      refine z_lload_n kd_M_fireNode_133 3 rfl ?_
      refine z_ladd kd_M_fireNode_134 ?_
      refine z_lastN (t0 := 1) kd_M_fireNode_135 (by assumption) h73 (by omega) (by decide) ?_
      refine z_upd (fun σ_1 x73_1 q_1 => ?_)
      have x72_1 := (q_1 72 (by omega)).trans h72
      have hM_1 := hM.fr q_1 (by omega)
      exact z_vret kd_M_fireNode_136 rfl (Nat.le_of_ble_eq_true rfl) (Nat.le_of_ble_eq_true rfl) ⟨rfl, rfl, x72_1, x73_1, (Fr.tr hF (q_1.wide (by omega) (by omega)))⟩
    · exact absurd (nI_le (Nat.le_refl k) (by omega)) c9
  | succ m ih =>
    intro k σ L hk hM h72 h73 hF hv
    have hlt : k < a := by omega
    have hn := hM.hn
    have ha := hM.ha
    obtain ⟨kf, kfn, kt, ktn⟩ := hM.hft k hlt
    unfold fnL at hv
    refine z_iload kd_M_fireNode_3 0 rfl ?_
    refine z_aload_n kd_M_fireNode_5 1 rfl ?_
    refine z_get kd_M_fireNode_6 (kf_M_80 _) hM.h1 rfl ?_
    refine z_icmp_ge (tgt := 126) kd_M_fireNode_9 (by decide) (fun c9 => ?_) (fun c9 => ?_)
    · exact absurd c9 (nI_ge hlt (by omega))
    · refine z_aload_n kd_M_fireNode_12 1 rfl ?_
      refine z_get kd_M_fireNode_13 (kf_M_7 _) hM.h1 rfl ?_
      refine z_iload kd_M_fireNode_16 0 rfl ?_
      refine z_ialdN (t0 := 0) kd_M_fireNode_18 (by assumption) hM.h2 (by omega) (by decide) ?_
      refine z_topi kf ?_
      refine z_aload_n kd_M_fireNode_19 1 rfl ?_
      refine z_get kd_M_fireNode_20 (kf_M_13 _) hM.h1 rfl ?_
      refine z_iload kd_M_fireNode_23 0 rfl ?_
      refine z_ialdN (t0 := 0) kd_M_fireNode_25 (by assumption) hM.h3 (by omega) (by decide) ?_
      refine z_topi kt ?_
      refine z_icmp_eq (tgt := 120) kd_M_fireNode_26 (by decide) (fun c26 => ?_) (fun c26 => ?_)
      · rw [if_neg (fun z => (atN_o z).1 ((nI_eq (by omega) (by omega)).mp c26))] at hv
        refine z_iinc (v := (nI (k + 1))) (lv' := [(4, .int _), (0, .ref (b + 54)), (1, .int _), (2, .long _)]) kd_M_fireNode_120 0 rfl (nI_1 _) (by decide) rfl ?_
        refine z_goto (tgt := 3) kd_M_fireNode_123 (by decide) ?_
        refine z_pick (lv' := [(4, .int (nI (k + 1))), (0, .ref (b + 54)), (1, .int (nI v)), (2, .long q)]) [0, 1, 2, 3] rfl ?_
        exact ih (k + 1) _ _ (by omega) hM h72 h73 hF hv
      · have q1 : F k ≠ T k := fun z => c26 (by rw [z])
        refine z_aload_n kd_M_fireNode_29 1 rfl ?_
        refine z_get kd_M_fireNode_30 (kf_M_7 _) hM.h1 rfl ?_
        refine z_iload kd_M_fireNode_33 0 rfl ?_
        refine z_ialdN (t0 := 0) kd_M_fireNode_35 (by assumption) hM.h2 (by omega) (by decide) ?_
        refine z_topi kf ?_
        refine z_iload_n kd_M_fireNode_36 2 rfl ?_
        refine z_icmp_eq (tgt := 51) kd_M_fireNode_37 (by decide) (fun c37 => ?_) (fun c37 => ?_)
        · have q2 : F k = v := (nI_eq (by omega) (by omega)).mp c37
          rw [if_pos (atN_t ⟨q1, Or.inl q2⟩)] at hv
          refine z_aload_n kd_M_fireNode_51 1 rfl ?_
          refine z_get kd_M_fireNode_52 (kf_M_7 _) hM.h1 rfl ?_
          refine z_iload kd_M_fireNode_55 0 rfl ?_
          refine z_ialdN (t0 := 0) kd_M_fireNode_57 (by assumption) hM.h2 (by omega) (by decide) ?_
          refine z_topi kf ?_
          refine z_iload_n kd_M_fireNode_58 2 rfl ?_
          refine z_icmp_ne (tgt := 72) kd_M_fireNode_59 (by decide) (fun c59 => ?_) (fun c59 => ?_)
          · have q4 : ¬ F k = v := fun z => c59 (by rw [z])
            have eo : F k = otN F T v k := by unfold otN; rw [if_neg q4]
            have lo : otN F T v k < n := by rw [← eo]; exact kfn
            refine z_aload_n kd_M_fireNode_72 1 rfl ?_
            refine z_get kd_M_fireNode_73 (kf_M_7 _) hM.h1 rfl ?_
            refine z_iload kd_M_fireNode_76 0 rfl ?_
            refine z_ialdN (t0 := 0) kd_M_fireNode_78 (by assumption) hM.h2 (by omega) (by decide) ?_
            refine z_topi (kf.trans (by rw [eo])) ?_
            refine z_istore (lv' := [(5, .int _), (4, .int _), (0, .ref (b + 54)), (1, .int _), (2, .long _)]) kd_M_fireNode_79 (by decide) rfl ?_
            refine z_aload_n kd_M_fireNode_81 2 rfl ?_
            refine z_get kd_M_fireNode_82 (kf_M_63 _) hM.h1 rfl ?_
            refine z_iload_n kd_M_fireNode_85 3 rfl ?_
            refine z_dup2_11 kd_M_fireNode_86 rfl rfl ?_
            refine z_laldN (t0 := 1) kd_M_fireNode_87 (by assumption) h72 (by omega) (by decide) ?_
            refine z_lload_n kd_M_fireNode_88 4 rfl ?_
            refine z_aload_n kd_M_fireNode_89 2 rfl ?_
            refine z_get kd_M_fireNode_90 (kf_M_16 _) hM.h1 rfl ?_
            refine z_iload kd_M_fireNode_93 1 rfl ?_
            refine z_ialdN (t0 := 0) kd_M_fireNode_95 (by assumption) hM.h4 (by omega) (by decide) ?_
            refine z_i2l kd_M_fireNode_96 ?_
            refine z_lmul kd_M_fireNode_97 ?_
            refine z_lsub kd_M_fireNode_98 ?_
            refine z_lastN (t0 := 1) kd_M_fireNode_99 (by assumption) h72 (by omega) (by decide) ?_
            refine z_upd (fun σ_1 x72_1 q_1 => ?_)
            have x73_1 := (q_1 73 (by omega)).trans h73
            have hM_1 := hM.fr q_1 (by omega)
            refine z_aload_n kd_M_fireNode_100 2 rfl ?_
            refine z_get kd_M_fireNode_101 (kf_M_63 _) hM_1.h1 rfl ?_
            refine z_iload kd_M_fireNode_104 0 rfl ?_
            refine z_dup2_11 kd_M_fireNode_106 rfl rfl ?_
            refine z_laldN (t0 := 1) kd_M_fireNode_107 (by assumption) x72_1 (by omega) (by decide) ?_
            refine z_lload_n kd_M_fireNode_108 4 rfl ?_
            refine z_aload_n kd_M_fireNode_109 2 rfl ?_
            refine z_get kd_M_fireNode_110 (kf_M_16 _) hM_1.h1 rfl ?_
            refine z_iload kd_M_fireNode_113 1 rfl ?_
            refine z_ialdN (t0 := 0) kd_M_fireNode_115 (by assumption) hM_1.h4 (by omega) (by decide) ?_
            refine z_i2l kd_M_fireNode_116 ?_
            refine z_lmul kd_M_fireNode_117 ?_
            refine z_ladd kd_M_fireNode_118 ?_
            refine z_lastN (t0 := 1) kd_M_fireNode_119 (by assumption) x72_1 (by omega) (by decide) ?_
            refine z_upd (fun σ_2 x72_2 q_2 => ?_)
            have x73_2 := (q_2 73 (by omega)).trans x73_1
            have hM_2 := hM_1.fr q_2 (by omega)
            refine z_iinc (v := (nI (k + 1))) (lv' := [(4, .int _), (5, .int _), (0, .ref (b + 54)), (1, .int _), (2, .long _)]) kd_M_fireNode_120 1 rfl (nI_1 _) (by decide) rfl ?_
            refine z_goto (tgt := 3) kd_M_fireNode_123 (by decide) ?_
            refine z_pick (lv' := [(4, .int (nI (k + 1))), (0, .ref (b + 54)), (1, .int (nI v)), (2, .long q)]) [0, 2, 3, 4] rfl ?_
            exact ih (k + 1) _ _ (by omega) hM_2 x72_2 x73_2 (Fr.tr (Fr.tr hF (q_1.wide (by omega) (by omega))) (q_2.wide (by omega) (by omega))) hv
          · have q4 : F k = v := (nI_eq (by omega) (by omega)).mp c59
            have eo : T k = otN F T v k := by unfold otN; rw [if_pos q4]
            have lo : otN F T v k < n := by rw [← eo]; exact ktn
            refine z_aload_n kd_M_fireNode_62 1 rfl ?_
            refine z_get kd_M_fireNode_63 (kf_M_13 _) hM.h1 rfl ?_
            refine z_iload kd_M_fireNode_66 0 rfl ?_
            refine z_ialdN (t0 := 0) kd_M_fireNode_68 (by assumption) hM.h3 (by omega) (by decide) ?_
            refine z_topi (kt.trans (by rw [eo])) ?_
            refine z_goto (tgt := 79) kd_M_fireNode_69 (by decide) ?_
            refine z_istore (lv' := [(5, .int _), (4, .int _), (0, .ref (b + 54)), (1, .int _), (2, .long _)]) kd_M_fireNode_79 (by decide) rfl ?_
            refine z_aload_n kd_M_fireNode_81 2 rfl ?_
            refine z_get kd_M_fireNode_82 (kf_M_63 _) hM.h1 rfl ?_
            refine z_iload_n kd_M_fireNode_85 3 rfl ?_
            refine z_dup2_11 kd_M_fireNode_86 rfl rfl ?_
            refine z_laldN (t0 := 1) kd_M_fireNode_87 (by assumption) h72 (by omega) (by decide) ?_
            refine z_lload_n kd_M_fireNode_88 4 rfl ?_
            refine z_aload_n kd_M_fireNode_89 2 rfl ?_
            refine z_get kd_M_fireNode_90 (kf_M_16 _) hM.h1 rfl ?_
            refine z_iload kd_M_fireNode_93 1 rfl ?_
            refine z_ialdN (t0 := 0) kd_M_fireNode_95 (by assumption) hM.h4 (by omega) (by decide) ?_
            refine z_i2l kd_M_fireNode_96 ?_
            refine z_lmul kd_M_fireNode_97 ?_
            refine z_lsub kd_M_fireNode_98 ?_
            refine z_lastN (t0 := 1) kd_M_fireNode_99 (by assumption) h72 (by omega) (by decide) ?_
            refine z_upd (fun σ_3 x72_3 q_3 => ?_)
            have x73_3 := (q_3 73 (by omega)).trans h73
            have hM_3 := hM.fr q_3 (by omega)
            refine z_aload_n kd_M_fireNode_100 2 rfl ?_
            refine z_get kd_M_fireNode_101 (kf_M_63 _) hM_3.h1 rfl ?_
            refine z_iload kd_M_fireNode_104 0 rfl ?_
            refine z_dup2_11 kd_M_fireNode_106 rfl rfl ?_
            refine z_laldN (t0 := 1) kd_M_fireNode_107 (by assumption) x72_3 (by omega) (by decide) ?_
            refine z_lload_n kd_M_fireNode_108 4 rfl ?_
            refine z_aload_n kd_M_fireNode_109 2 rfl ?_
            refine z_get kd_M_fireNode_110 (kf_M_16 _) hM_3.h1 rfl ?_
            refine z_iload kd_M_fireNode_113 1 rfl ?_
            refine z_ialdN (t0 := 0) kd_M_fireNode_115 (by assumption) hM_3.h4 (by omega) (by decide) ?_
            refine z_i2l kd_M_fireNode_116 ?_
            refine z_lmul kd_M_fireNode_117 ?_
            refine z_ladd kd_M_fireNode_118 ?_
            refine z_lastN (t0 := 1) kd_M_fireNode_119 (by assumption) x72_3 (by omega) (by decide) ?_
            refine z_upd (fun σ_4 x72_4 q_4 => ?_)
            have x73_4 := (q_4 73 (by omega)).trans x73_3
            have hM_4 := hM_3.fr q_4 (by omega)
            refine z_iinc (v := (nI (k + 1))) (lv' := [(4, .int _), (5, .int _), (0, .ref (b + 54)), (1, .int _), (2, .long _)]) kd_M_fireNode_120 1 rfl (nI_1 _) (by decide) rfl ?_
            refine z_goto (tgt := 3) kd_M_fireNode_123 (by decide) ?_
            refine z_pick (lv' := [(4, .int (nI (k + 1))), (0, .ref (b + 54)), (1, .int (nI v)), (2, .long q)]) [0, 2, 3, 4] rfl ?_
            exact ih (k + 1) _ _ (by omega) hM_4 x72_4 x73_4 (Fr.tr (Fr.tr hF (q_3.wide (by omega) (by omega))) (q_4.wide (by omega) (by omega))) hv
        · have q2 : ¬ F k = v := fun z => c37 (by rw [z])
          refine z_aload_n kd_M_fireNode_40 1 rfl ?_
          refine z_get kd_M_fireNode_41 (kf_M_13 _) hM.h1 rfl ?_
          refine z_iload kd_M_fireNode_44 0 rfl ?_
          refine z_ialdN (t0 := 0) kd_M_fireNode_46 (by assumption) hM.h3 (by omega) (by decide) ?_
          refine z_topi kt ?_
          refine z_iload_n kd_M_fireNode_47 2 rfl ?_
          refine z_icmp_ne (tgt := 120) kd_M_fireNode_48 (by decide) (fun c48 => ?_) (fun c48 => ?_)
          · have q3 : ¬ T k = v := fun z => c48 (by rw [z])
            rw [if_neg (fun z => by rcases (atN_o z).2 with y | y; exact q2 y; exact q3 y)] at hv
            refine z_iinc (v := (nI (k + 1))) (lv' := [(4, .int _), (0, .ref (b + 54)), (1, .int _), (2, .long _)]) kd_M_fireNode_120 0 rfl (nI_1 _) (by decide) rfl ?_
            refine z_goto (tgt := 3) kd_M_fireNode_123 (by decide) ?_
            refine z_pick (lv' := [(4, .int (nI (k + 1))), (0, .ref (b + 54)), (1, .int (nI v)), (2, .long q)]) [0, 1, 2, 3] rfl ?_
            exact ih (k + 1) _ _ (by omega) hM h72 h73 hF hv
          · have q3 : T k = v := (nI_eq (by omega) (by omega)).mp c48
            rw [if_pos (atN_t ⟨q1, Or.inr q3⟩)] at hv
            refine z_aload_n kd_M_fireNode_51 1 rfl ?_
            refine z_get kd_M_fireNode_52 (kf_M_7 _) hM.h1 rfl ?_
            refine z_iload kd_M_fireNode_55 0 rfl ?_
            refine z_ialdN (t0 := 0) kd_M_fireNode_57 (by assumption) hM.h2 (by omega) (by decide) ?_
            refine z_topi kf ?_
            refine z_iload_n kd_M_fireNode_58 2 rfl ?_
            refine z_icmp_ne (tgt := 72) kd_M_fireNode_59 (by decide) (fun c59 => ?_) (fun c59 => ?_)
            · have q4 : ¬ F k = v := fun z => c59 (by rw [z])
              have eo : F k = otN F T v k := by unfold otN; rw [if_neg q4]
              have lo : otN F T v k < n := by rw [← eo]; exact kfn
              refine z_aload_n kd_M_fireNode_72 1 rfl ?_
              refine z_get kd_M_fireNode_73 (kf_M_7 _) hM.h1 rfl ?_
              refine z_iload kd_M_fireNode_76 0 rfl ?_
              refine z_ialdN (t0 := 0) kd_M_fireNode_78 (by assumption) hM.h2 (by omega) (by decide) ?_
              refine z_topi (kf.trans (by rw [eo])) ?_
              refine z_istore (lv' := [(5, .int _), (4, .int _), (0, .ref (b + 54)), (1, .int _), (2, .long _)]) kd_M_fireNode_79 (by decide) rfl ?_
              refine z_aload_n kd_M_fireNode_81 2 rfl ?_
              refine z_get kd_M_fireNode_82 (kf_M_63 _) hM.h1 rfl ?_
              refine z_iload_n kd_M_fireNode_85 3 rfl ?_
              refine z_dup2_11 kd_M_fireNode_86 rfl rfl ?_
              refine z_laldN (t0 := 1) kd_M_fireNode_87 (by assumption) h72 (by omega) (by decide) ?_
              refine z_lload_n kd_M_fireNode_88 4 rfl ?_
              refine z_aload_n kd_M_fireNode_89 2 rfl ?_
              refine z_get kd_M_fireNode_90 (kf_M_16 _) hM.h1 rfl ?_
              refine z_iload kd_M_fireNode_93 1 rfl ?_
              refine z_ialdN (t0 := 0) kd_M_fireNode_95 (by assumption) hM.h4 (by omega) (by decide) ?_
              refine z_i2l kd_M_fireNode_96 ?_
              refine z_lmul kd_M_fireNode_97 ?_
              refine z_lsub kd_M_fireNode_98 ?_
              refine z_lastN (t0 := 1) kd_M_fireNode_99 (by assumption) h72 (by omega) (by decide) ?_
              refine z_upd (fun σ_5 x72_5 q_5 => ?_)
              have x73_5 := (q_5 73 (by omega)).trans h73
              have hM_5 := hM.fr q_5 (by omega)
              refine z_aload_n kd_M_fireNode_100 2 rfl ?_
              refine z_get kd_M_fireNode_101 (kf_M_63 _) hM_5.h1 rfl ?_
              refine z_iload kd_M_fireNode_104 0 rfl ?_
              refine z_dup2_11 kd_M_fireNode_106 rfl rfl ?_
              refine z_laldN (t0 := 1) kd_M_fireNode_107 (by assumption) x72_5 (by omega) (by decide) ?_
              refine z_lload_n kd_M_fireNode_108 4 rfl ?_
              refine z_aload_n kd_M_fireNode_109 2 rfl ?_
              refine z_get kd_M_fireNode_110 (kf_M_16 _) hM_5.h1 rfl ?_
              refine z_iload kd_M_fireNode_113 1 rfl ?_
              refine z_ialdN (t0 := 0) kd_M_fireNode_115 (by assumption) hM_5.h4 (by omega) (by decide) ?_
              refine z_i2l kd_M_fireNode_116 ?_
              refine z_lmul kd_M_fireNode_117 ?_
              refine z_ladd kd_M_fireNode_118 ?_
              refine z_lastN (t0 := 1) kd_M_fireNode_119 (by assumption) x72_5 (by omega) (by decide) ?_
              refine z_upd (fun σ_6 x72_6 q_6 => ?_)
              have x73_6 := (q_6 73 (by omega)).trans x73_5
              have hM_6 := hM_5.fr q_6 (by omega)
              refine z_iinc (v := (nI (k + 1))) (lv' := [(4, .int _), (5, .int _), (0, .ref (b + 54)), (1, .int _), (2, .long _)]) kd_M_fireNode_120 1 rfl (nI_1 _) (by decide) rfl ?_
              refine z_goto (tgt := 3) kd_M_fireNode_123 (by decide) ?_
              refine z_pick (lv' := [(4, .int (nI (k + 1))), (0, .ref (b + 54)), (1, .int (nI v)), (2, .long q)]) [0, 2, 3, 4] rfl ?_
              exact ih (k + 1) _ _ (by omega) hM_6 x72_6 x73_6 (Fr.tr (Fr.tr hF (q_5.wide (by omega) (by omega))) (q_6.wide (by omega) (by omega))) hv
            · have q4 : F k = v := (nI_eq (by omega) (by omega)).mp c59
              have eo : T k = otN F T v k := by unfold otN; rw [if_pos q4]
              have lo : otN F T v k < n := by rw [← eo]; exact ktn
              refine z_aload_n kd_M_fireNode_62 1 rfl ?_
              refine z_get kd_M_fireNode_63 (kf_M_13 _) hM.h1 rfl ?_
              refine z_iload kd_M_fireNode_66 0 rfl ?_
              refine z_ialdN (t0 := 0) kd_M_fireNode_68 (by assumption) hM.h3 (by omega) (by decide) ?_
              refine z_topi (kt.trans (by rw [eo])) ?_
              refine z_goto (tgt := 79) kd_M_fireNode_69 (by decide) ?_
              refine z_istore (lv' := [(5, .int _), (4, .int _), (0, .ref (b + 54)), (1, .int _), (2, .long _)]) kd_M_fireNode_79 (by decide) rfl ?_
              refine z_aload_n kd_M_fireNode_81 2 rfl ?_
              refine z_get kd_M_fireNode_82 (kf_M_63 _) hM.h1 rfl ?_
              refine z_iload_n kd_M_fireNode_85 3 rfl ?_
              refine z_dup2_11 kd_M_fireNode_86 rfl rfl ?_
              refine z_laldN (t0 := 1) kd_M_fireNode_87 (by assumption) h72 (by omega) (by decide) ?_
              refine z_lload_n kd_M_fireNode_88 4 rfl ?_
              refine z_aload_n kd_M_fireNode_89 2 rfl ?_
              refine z_get kd_M_fireNode_90 (kf_M_16 _) hM.h1 rfl ?_
              refine z_iload kd_M_fireNode_93 1 rfl ?_
              refine z_ialdN (t0 := 0) kd_M_fireNode_95 (by assumption) hM.h4 (by omega) (by decide) ?_
              refine z_i2l kd_M_fireNode_96 ?_
              refine z_lmul kd_M_fireNode_97 ?_
              refine z_lsub kd_M_fireNode_98 ?_
              refine z_lastN (t0 := 1) kd_M_fireNode_99 (by assumption) h72 (by omega) (by decide) ?_
              refine z_upd (fun σ_7 x72_7 q_7 => ?_)
              have x73_7 := (q_7 73 (by omega)).trans h73
              have hM_7 := hM.fr q_7 (by omega)
              refine z_aload_n kd_M_fireNode_100 2 rfl ?_
              refine z_get kd_M_fireNode_101 (kf_M_63 _) hM_7.h1 rfl ?_
              refine z_iload kd_M_fireNode_104 0 rfl ?_
              refine z_dup2_11 kd_M_fireNode_106 rfl rfl ?_
              refine z_laldN (t0 := 1) kd_M_fireNode_107 (by assumption) x72_7 (by omega) (by decide) ?_
              refine z_lload_n kd_M_fireNode_108 4 rfl ?_
              refine z_aload_n kd_M_fireNode_109 2 rfl ?_
              refine z_get kd_M_fireNode_110 (kf_M_16 _) hM_7.h1 rfl ?_
              refine z_iload kd_M_fireNode_113 1 rfl ?_
              refine z_ialdN (t0 := 0) kd_M_fireNode_115 (by assumption) hM_7.h4 (by omega) (by decide) ?_
              refine z_i2l kd_M_fireNode_116 ?_
              refine z_lmul kd_M_fireNode_117 ?_
              refine z_ladd kd_M_fireNode_118 ?_
              refine z_lastN (t0 := 1) kd_M_fireNode_119 (by assumption) x72_7 (by omega) (by decide) ?_
              refine z_upd (fun σ_8 x72_8 q_8 => ?_)
              have x73_8 := (q_8 73 (by omega)).trans x73_7
              have hM_8 := hM_7.fr q_8 (by omega)
              refine z_iinc (v := (nI (k + 1))) (lv' := [(4, .int _), (5, .int _), (0, .ref (b + 54)), (1, .int _), (2, .long _)]) kd_M_fireNode_120 1 rfl (nI_1 _) (by decide) rfl ?_
              refine z_goto (tgt := 3) kd_M_fireNode_123 (by decide) ?_
              refine z_pick (lv' := [(4, .int (nI (k + 1))), (0, .ref (b + 54)), (1, .int (nI v)), (2, .long q)]) [0, 2, 3, 4] rfl ?_
              exact ih (k + 1) _ _ (by omega) hM_8 x72_8 x73_8 (Fr.tr (Fr.tr hF (q_7.wide (by omega) (by omega))) (q_8.wide (by omega) (by omega))) hv
set_option maxHeartbeats 4000000 in
set_option maxRecDepth 100000 in
theorem c_M_fireNode {l : Launch} {D : va_G} {tys : List (ClassId × FieldType)} {b N : Nat} {σ : Nat → Option va_E} {cI cJ cA : ClassId} (ht0 : tys[0]? = some (cI, .int)) (ht1 : tys[1]? = some (cJ, .long)) (ht3 : tys[3]? = some (cA, .array .long)) {th fa ls rm : Value} {n a : Nat} {gf gt gw : Nat → Int32} {F T : Nat → Nat} (hM : MN b cI σ th fa ls rm n a gf gt gw F T) {L G : Nat → Int64} (h72 : σ 72 = some (.inl (cJ, 10, .inr (.inl L)))) (h73 : σ 73 = some (.inl (cJ, 10, .inr (.inl G)))) {v : Nat} (hv0 : v < n) {q : Int64} : zM l D kCl tys kNw b ky_M_fireNode (kh_M_fireNode :: zT) 0 0 0 0 [.ref (b + 54), .int (nI v), .long q] N σ ((fun oc N' σ' => oc = .returned none ∧ N' = N ∧ σ' 72 = some (.inl (cJ, 10, .inr (.inl (fnV F T gw a v q L)))) ∧ σ' 73 = some (.inl (cJ, 10, .inr (.inl (vp_updL G v (G v + q))))) ∧ Fr 72 73 σ σ')) := by
  refine zM.of (by decide +kernel) rfl (Nat.le_of_ble_eq_true rfl) ?_
  refine z_pick (lv' := [(0, .ref (b + 54)), (1, .int (nI v)), (2, .long q)]) [0, 1, 2] rfl ?_
  refine z_iconst (v := 0) kd_M_fireNode_0 (by decide) ?_
  refine z_istore (lv' := [(4, .int _), (0, .ref (b + 54)), (1, .int _), (2, .long _)]) kd_M_fireNode_1 (by decide) rfl ?_
  refine z_pick (lv' := [(4, .int (nI 0)), (0, .ref (b + 54)), (1, .int (nI v)), (2, .long q)]) [0, 1, 2, 3] rfl ?_
  exact l_M_fire ht0 ht1 ht3 hv0 a 0 σ L (by omega) hM h72 h73 Fr.rf rfl
set_option maxHeartbeats 4000000 in
set_option maxRecDepth 100000 in
theorem l_M_sweep {l : Launch} {D : va_G} {tys : List (ClassId × FieldType)} {b N : Nat} {σ0 : Nat → Option va_E} {cI cJ cA : ClassId} (ht0 : tys[0]? = some (cI, .int)) (ht1 : tys[1]? = some (cJ, .long)) (ht3 : tys[3]? = some (cA, .array .long)) {th fa ls rm : Value} {n a : Nat} {gf gt gw : Nat → Int32} {F T : Nat → Nat} {s : Nat} (hs0 : s < n) (hdg : ∀ v, v < n → v ≠ s → ¬ dgV F T gw a v = 0) {Q : Outcome → Nat → (Nat → Option va_E) → Prop} {val : (Nat → Int64) × (Nat → Int64) × Int64 × Bool} (kk : ∀ (σ : Nat → Option va_E), MN b cI σ th fa ls rm n a gf gt gw F T → σ 72 = some (.inl (cJ, 10, .inr (.inl val.1))) → σ 73 = some (.inl (cJ, 10, .inr (.inl val.2.1))) → Fr 72 73 σ0 σ → Z l D kCl tys (kh_M_settlePile :: zT) kNw ky_M_settlePile.cls ky_M_settlePile.name kb_M_settlePile 8 (some FieldType.long) { frames := 1, cells := 0, slots := 0, locals := 40 } b (zFi D kCl b 0 0 Q) 0 0 N (σ) 5 [(4, .int (zB val.2.2.2)), (2, .long val.2.2.1), (0, .ref (b + 54)), (1, .int (nI s))] []) : ∀ (m v : Nat) (σ : Nat → Option va_E) (L G : Nat → Int64) (al : Int64) (go : Bool), v + m = n → MN b cI σ th fa ls rm n a gf gt gw F T → σ 72 = some (.inl (cJ, 10, .inr (.inl L))) → σ 73 = some (.inl (cJ, 10, .inr (.inl G))) → Fr 72 73 σ0 σ → spI F T gw a s m v L G al go = val → Z l D kCl tys (kh_M_settlePile :: zT) kNw ky_M_settlePile.cls ky_M_settlePile.name kb_M_settlePile 8 (some FieldType.long) { frames := 1, cells := 0, slots := 0, locals := 40 } b (zFi D kCl b 0 0 Q) 0 0 N (σ) 16 [(5, .int (nI v)), (4, .int (zB go)), (2, .long al), (0, .ref (b + 54)), (1, .int (nI s))] [] := by
  intro m
  induction m with
  | zero =>
    intro v σ L G al go hv0 hM h72 h73 hF hv
    obtain rfl : v = n := by omega
    have hn := hM.hn
    have hv : (L, G, al, go) = val := hv
    subst hv
    refine z_iload kd_M_settlePile_16 0 rfl ?_
    refine z_aload_n kd_M_settlePile_18 3 rfl ?_
    refine z_get kd_M_settlePile_19 (kf_M_73 _) hM.h1 rfl ?_
    refine z_icmp_ge (tgt := 86) kd_M_settlePile_22 (by decide) (fun c22 => ?_) (fun c22 => ?_)
    · refine z_goto (tgt := 5) kd_M_settlePile_86 (by decide) ?_
      refine z_pick (lv' := [(4, .int (zB go)), (2, .long al), (0, .ref (b + 54)), (1, .int (nI s))]) [1, 2, 3, 4] rfl ?_
      exact kk σ hM h72 h73 hF
    · exact absurd (nI_le (Nat.le_refl v) (by omega)) c22
  | succ m ih =>
    intro v σ L G al go hv0 hM h72 h73 hF hv
    have hlt : v < n := by omega
    have hn := hM.hn
    unfold spI at hv
    refine z_iload kd_M_settlePile_16 0 rfl ?_
    refine z_aload_n kd_M_settlePile_18 3 rfl ?_
    refine z_get kd_M_settlePile_19 (kf_M_73 _) hM.h1 rfl ?_
    refine z_icmp_ge (tgt := 86) kd_M_settlePile_22 (by decide) (fun c22 => ?_) (fun c22 => ?_)
    · exact absurd c22 (nI_ge hlt (by omega))
    · refine z_iload kd_M_settlePile_25 0 rfl ?_
      refine z_iload_n kd_M_settlePile_27 4 rfl ?_
      refine z_icmp_eq (tgt := 80) kd_M_settlePile_28 (by decide) (fun c28 => ?_) (fun c28 => ?_)
      · rw [if_neg (fun z => z.1 ((nI_eq (by omega) (by omega)).mp c28))] at hv
        refine z_iinc (v := (nI (v + 1))) (lv' := [(5, .int _), (4, .int _), (2, .long _), (0, .ref (b + 54)), (1, .int _)]) kd_M_settlePile_80 0 rfl (nI_1 _) (by decide) rfl ?_
        refine z_goto (tgt := 16) kd_M_settlePile_83 (by decide) ?_
        refine z_pick (lv' := [(5, .int (nI (v + 1))), (4, .int (zB go)), (2, .long _), (0, .ref (b + 54)), (1, .int (nI s))]) [0, 1, 2, 3, 4] rfl ?_
        exact ih (v + 1) _ _ _ _ _ (by omega) hM h72 h73 hF hv
      · have q1 : v ≠ s := fun z => c28 (by rw [z])
        refine z_aload_n kd_M_settlePile_31 3 rfl ?_
        refine z_get kd_M_settlePile_32 (kf_M_63 _) hM.h1 rfl ?_
        refine z_iload kd_M_settlePile_35 0 rfl ?_
        refine z_laldN (t0 := 1) kd_M_settlePile_37 (by assumption) h72 (by omega) (by decide) ?_
        refine z_aload_n kd_M_settlePile_38 3 rfl ?_
        refine z_iload kd_M_settlePile_39 0 rfl ?_
        refine z_V1 (a := 54) (As := [_]) kd_M_settlePile_41 (kg_M_201 _) hM.h1 kc_M (c_M_degree ht0 ht1 ht3 hM hlt) rfl rfl (Nat.le_of_ble_eq_true rfl) ⟨Nat.le_of_ble_eq_true rfl, Nat.le_of_ble_eq_true rfl⟩ ⟨Nat.le_of_ble_eq_true rfl, Nat.le_of_ble_eq_true rfl⟩ ?_
        refine z_lcmp kd_M_settlePile_44 ?_
        refine z_if_lt (tgt := 80) kd_M_settlePile_45 (by decide) (fun c45 => ?_) (fun c45 => ?_)
        · rw [if_neg (fun z => z.2 ((lg_cmp_lt _ _).mp c45))] at hv
          refine z_iinc (v := (nI (v + 1))) (lv' := [(5, .int _), (4, .int _), (2, .long _), (0, .ref (b + 54)), (1, .int _)]) kd_M_settlePile_80 0 rfl (nI_1 _) (by decide) rfl ?_
          refine z_goto (tgt := 16) kd_M_settlePile_83 (by decide) ?_
          refine z_pick (lv' := [(5, .int (nI (v + 1))), (4, .int (zB go)), (2, .long _), (0, .ref (b + 54)), (1, .int (nI s))]) [0, 1, 2, 3, 4] rfl ?_
          exact ih (v + 1) _ _ _ _ _ (by omega) hM h72 h73 hF hv
        · rw [if_pos ⟨q1, fun z => c45 ((lg_cmp_lt _ _).mpr z)⟩] at hv
          refine z_aload_n kd_M_settlePile_48 3 rfl ?_
          refine z_get kd_M_settlePile_49 (kf_M_63 _) hM.h1 rfl ?_
          refine z_iload kd_M_settlePile_52 0 rfl ?_
          refine z_laldN (t0 := 1) kd_M_settlePile_54 (by assumption) h72 (by omega) (by decide) ?_
          refine z_aload_n kd_M_settlePile_55 3 rfl ?_
          refine z_iload kd_M_settlePile_56 0 rfl ?_
          refine z_V1 (a := 54) (As := [_]) kd_M_settlePile_58 (kg_M_201 _) hM.h1 kc_M (c_M_degree ht0 ht1 ht3 hM hlt) rfl rfl (Nat.le_of_ble_eq_true rfl) ⟨Nat.le_of_ble_eq_true rfl, Nat.le_of_ble_eq_true rfl⟩ ⟨Nat.le_of_ble_eq_true rfl, Nat.le_of_ble_eq_true rfl⟩ ?_
          refine z_ldiv kd_M_settlePile_61 (hdg v hlt q1) ?_
          refine z_lstore (lv' := [(6, .long _), (5, .int _), (4, .int _), (2, .long _), (0, .ref (b + 54)), (1, .int _)]) kd_M_settlePile_62 (by decide) rfl ?_
          refine z_aload_n kd_M_settlePile_64 4 rfl ?_
          refine z_iload kd_M_settlePile_65 1 rfl ?_
          refine z_lload kd_M_settlePile_67 0 rfl ?_
          refine z_callV (a := 54) (As := [_, _]) kd_M_settlePile_69 (kg_M_204 _) hM.h1 kc_M (c_M_fireNode ht0 ht1 ht3 hM h72 h73 hlt) rfl rfl (Nat.le_of_ble_eq_true rfl) ⟨Nat.le_of_ble_eq_true rfl, Nat.le_of_ble_eq_true rfl⟩ ⟨Nat.le_of_ble_eq_true rfl, Nat.le_of_ble_eq_true rfl⟩ ?_
          rintro _ _ σ_1 ⟨hv, rfl, x72_1, x73_1, q_1⟩
          cases hv
          refine z_eq (st' := []) rfl rfl rfl rfl ?_
          have hM_1 := hM.fr q_1 (by omega)
          refine z_lload_n kd_M_settlePile_72 3 rfl ?_
          refine z_lload kd_M_settlePile_73 0 rfl ?_
          refine z_ladd kd_M_settlePile_75 ?_
          refine z_lstore_n (lv' := [(2, .long _), (6, .long _), (5, .int _), (4, .int _), (0, .ref (b + 54)), (1, .int _)]) kd_M_settlePile_76 (by decide) rfl ?_
          refine z_iconst (v := 1) kd_M_settlePile_77 (by decide) ?_
          refine z_istore (lv' := [(4, .int _), (2, .long _), (6, .long _), (5, .int _), (0, .ref (b + 54)), (1, .int _)]) kd_M_settlePile_78 (by decide) rfl ?_
          refine z_iinc (v := (nI (v + 1))) (lv' := [(5, .int _), (4, .int _), (2, .long _), (6, .long _), (0, .ref (b + 54)), (1, .int _)]) kd_M_settlePile_80 3 rfl (nI_1 _) (by decide) rfl ?_
          refine z_goto (tgt := 16) kd_M_settlePile_83 (by decide) ?_
          refine z_pick (lv' := [(5, .int (nI (v + 1))), (4, .int (zB true)), (2, .long _), (0, .ref (b + 54)), (1, .int (nI s))]) [0, 1, 2, 4, 5] rfl ?_
          exact ih (v + 1) _ _ _ _ _ (by omega) hM_1 x72_1 x73_1 (Fr.tr hF (q_1.wide (by omega) (by omega))) hv
set_option maxHeartbeats 4000000 in
set_option maxRecDepth 100000 in
theorem l_M_settle {l : Launch} {D : va_G} {tys : List (ClassId × FieldType)} {b N : Nat} {σ0 : Nat → Option va_E} {cI cJ cA : ClassId} (ht0 : tys[0]? = some (cI, .int)) (ht1 : tys[1]? = some (cJ, .long)) (ht3 : tys[3]? = some (cA, .array .long)) {th fa ls rm : Value} {n a : Nat} {gf gt gw : Nat → Int32} {F T : Nat → Nat} {s : Nat} (hs0 : s < n) (hdg : ∀ v, v < n → v ≠ s → ¬ dgV F T gw a v = 0) {val : (Nat → Int64) × (Nat → Int64) × Int64} : ∀ (f : Nat) (σ : Nat → Option va_E) (L G : Nat → Int64) (al : Int64), MN b cI σ th fa ls rm n a gf gt gw F T → σ 72 = some (.inl (cJ, 10, .inr (.inl L))) → σ 73 = some (.inl (cJ, 10, .inr (.inl G))) → Fr 72 73 σ0 σ → spO F T gw n a s f L G al = some val → Z l D kCl tys (kh_M_settlePile :: zT) kNw ky_M_settlePile.cls ky_M_settlePile.name kb_M_settlePile 8 (some FieldType.long) { frames := 1, cells := 0, slots := 0, locals := 40 } b (zFi D kCl b 0 0 (fun oc N' σ' => oc = .returned (some (.long (val).2.2)) ∧ N' = N ∧ σ' 72 = some (.inl (cJ, 10, .inr (.inl (val).1))) ∧ σ' 73 = some (.inl (cJ, 10, .inr (.inl (val).2.1))) ∧ Fr 72 73 σ0 σ')) 0 0 N (σ) 5 [(4, .int (zB true)), (2, .long al), (0, .ref (b + 54)), (1, .int (nI s))] [] := by
  intro f
  induction f with
  | zero => intro σ L G al _ _ _ _ hv; cases hv
  | succ f ih =>
    intro σ L G al hM h72 h73 hF hv
    have hn := hM.hn
    unfold spO at hv
    refine z_iload kd_M_settlePile_5 0 rfl ?_
    refine z_if_eq (tgt := 89) kd_M_settlePile_7 (by decide) (fun c7 => ?_) (fun c7 => ?_)
    · exact absurd c7 (by decide)
    · refine z_iconst (v := 0) kd_M_settlePile_10 (by decide) ?_
      refine z_istore (lv' := [(4, .int _), (2, .long _), (0, .ref (b + 54)), (1, .int _)]) kd_M_settlePile_11 (by decide) rfl ?_
      refine z_iconst (v := 0) kd_M_settlePile_13 (by decide) ?_
      refine z_istore (lv' := [(5, .int _), (4, .int _), (2, .long _), (0, .ref (b + 54)), (1, .int _)]) kd_M_settlePile_14 (by decide) rfl ?_
      refine z_pick (lv' := [(5, .int (nI 0)), (4, .int (zB false)), (2, .long al), (0, .ref (b + 54)), (1, .int (nI s))]) [0, 1, 2, 3, 4] rfl ?_
      refine l_M_sweep ht0 ht1 ht3 hs0 hdg (val := (spI F T gw a s n 0 L G al false)) (fun σ hM h72 h73 hF => ?_) n 0 _ _ _ _ _ (by omega) hM h72 h73 hF rfl
      by_cases hgo : (spI F T gw a s n 0 L G al false).2.2.2 = true
      · rw [if_pos hgo] at hv
        rw [hgo]
        exact ih _ _ _ _ hM h72 h73 hF hv
      · rw [if_neg hgo] at hv
        cases hv
        rw [Bool.not_eq_true] at hgo
        refine z_iload kd_M_settlePile_5 0 rfl ?_
        refine z_if_eq (tgt := 89) kd_M_settlePile_7 (by decide) (fun c7 => ?_) (fun c7 => ?_)
        · refine z_lload_n kd_M_settlePile_89 1 rfl ?_
          exact z_lret kd_M_settlePile_90 rfl (Nat.le_of_ble_eq_true rfl) (Nat.le_of_ble_eq_true rfl) ⟨rfl, rfl, h72, h73, hF⟩
        · exact absurd c7 (by rw [hgo]; decide)
set_option maxHeartbeats 4000000 in
set_option maxRecDepth 100000 in
theorem c_M_settlePile {l : Launch} {D : va_G} {tys : List (ClassId × FieldType)} {b N : Nat} {σ : Nat → Option va_E} {cI cJ cA : ClassId} (ht0 : tys[0]? = some (cI, .int)) (ht1 : tys[1]? = some (cJ, .long)) (ht3 : tys[3]? = some (cA, .array .long)) {th fa ls rm : Value} {n a : Nat} {gf gt gw : Nat → Int32} {F T : Nat → Nat} (hM : MN b cI σ th fa ls rm n a gf gt gw F T) {L G : Nat → Int64} (h72 : σ 72 = some (.inl (cJ, 10, .inr (.inl L)))) (h73 : σ 73 = some (.inl (cJ, 10, .inr (.inl G)))) {s : Nat} (hs0 : s < n) (hdg : ∀ v, v < n → v ≠ s → ¬ dgV F T gw a v = 0) {f : Nat} {val : (Nat → Int64) × (Nat → Int64) × Int64} (hv : spO F T gw n a s f L G 0 = some val) : zM l D kCl tys kNw b ky_M_settlePile (kh_M_settlePile :: zT) 1 40 0 0 [.ref (b + 54), .int (nI s)] N σ ((fun oc N' σ' => oc = .returned (some (.long (val).2.2)) ∧ N' = N ∧ σ' 72 = some (.inl (cJ, 10, .inr (.inl (val).1))) ∧ σ' 73 = some (.inl (cJ, 10, .inr (.inl (val).2.1))) ∧ Fr 72 73 σ σ')) := by
  refine zM.of (by decide +kernel) rfl (Nat.le_of_ble_eq_true rfl) ?_
  refine z_pick (lv' := [(0, .ref (b + 54)), (1, .int (nI s))]) [0, 1] rfl ?_
  refine z_lconst (v := 0) kd_M_settlePile_0 (by decide +kernel) ?_
  refine z_lstore_n (lv' := [(2, .long _), (0, .ref (b + 54)), (1, .int _)]) kd_M_settlePile_1 (by decide) rfl ?_
  refine z_iconst (v := 1) kd_M_settlePile_2 (by decide) ?_
  refine z_istore (lv' := [(4, .int _), (2, .long _), (0, .ref (b + 54)), (1, .int _)]) kd_M_settlePile_3 (by decide) rfl ?_
  refine z_pick (lv' := [(4, .int (zB true)), (2, .long 0), (0, .ref (b + 54)), (1, .int (nI s))]) [0, 1, 2, 3] rfl ?_
  exact l_M_settle ht0 ht1 ht3 hs0 hdg f σ L G 0 hM h72 h73 Fr.rf hv
set_option maxHeartbeats 4000000 in
set_option maxRecDepth 100000 in
theorem l_M_begin {l : Launch} {D : va_G} {tys : List (ClassId × FieldType)} {b N : Nat} {σ0 : Nat → Option va_E} {cI cJ cA : ClassId} (ht0 : tys[0]? = some (cI, .int)) (ht1 : tys[1]? = some (cJ, .long)) (ht3 : tys[3]? = some (cA, .array .long)) {th fa ls rm : Value} {n a : Nat} {gf gt gw : Nat → Int32} {F T : Nat → Nat} {C L0 G0 : Nat → Int64} {R : Room} : ∀ (m i : Nat) (σ : Nat → Option va_E), i + m = n → MN b cI σ th fa ls rm n a gf gt gw F T → σ 58 = some (.inl (cJ, 10, .inr (.inl C))) → σ 72 = some (.inl (cJ, 10, .inr (.inl (bpL i C L0)))) → σ 73 = some (.inl (cJ, 10, .inr (.inl (bpL i (fun _ => 0) G0)))) → Fr 72 73 σ0 σ → Z l D kCl tys (kh_M_beginPile :: zT) kNw ky_M_beginPile.cls ky_M_beginPile.name kb_M_beginPile 2 none R b (zFi D kCl b 0 0 (fun oc N' σ' => oc = .returned none ∧ N' = N ∧ σ' 72 = some (.inl (cJ, 10, .inr (.inl (bpL n C L0)))) ∧ σ' 73 = some (.inl (cJ, 10, .inr (.inl (bpL n (fun _ => 0) G0)))) ∧ Fr 72 73 σ0 σ')) 0 0 N (σ) 2 [(1, .int (nI i)), (0, .ref (b + 54))] [] := by
  intro m
  induction m with
  | zero =>
    intro i σ hi hM h58 h72 h73 hF
    obtain rfl : i = n := by omega
    have hn := hM.hn
    refine z_iload_n kd_M_beginPile_2 0 rfl ?_
    refine z_aload_n kd_M_beginPile_3 1 rfl ?_
    refine z_get kd_M_beginPile_4 (kf_M_73 _) hM.h1 rfl ?_
    refine z_icmp_ge (tgt := 35) kd_M_beginPile_7 (by decide) (fun c7 => ?_) (fun c7 => ?_)
    · exact z_vret kd_M_beginPile_35 rfl (Nat.le_of_ble_eq_true rfl) (Nat.le_of_ble_eq_true rfl) ⟨rfl, rfl, h72, h73, hF⟩
    · exact absurd (nI_le (Nat.le_refl i) (by omega)) c7
  | succ m ih =>
    intro i σ hi hM h58 h72 h73 hF
    have hlt : i < n := by omega
    have hn := hM.hn
    refine z_iload_n kd_M_beginPile_2 0 rfl ?_
    refine z_aload_n kd_M_beginPile_3 1 rfl ?_
    refine z_get kd_M_beginPile_4 (kf_M_73 _) hM.h1 rfl ?_
    refine z_icmp_ge (tgt := 35) kd_M_beginPile_7 (by decide) (fun c7 => ?_) (fun c7 => ?_)
    · exact absurd c7 (nI_ge hlt (by omega))
    · refine z_aload_n kd_M_beginPile_10 1 rfl ?_
      refine z_get kd_M_beginPile_11 (kf_M_63 _) hM.h1 rfl ?_
      refine z_iload_n kd_M_beginPile_14 0 rfl ?_
      refine z_aload_n kd_M_beginPile_15 1 rfl ?_
      refine z_get kd_M_beginPile_16 (kf_M_19 _) hM.h1 rfl ?_
      refine z_iload_n kd_M_beginPile_19 0 rfl ?_
      refine z_laldN (t0 := 1) kd_M_beginPile_20 (by assumption) h58 (by omega) (by decide) ?_
      refine z_lastN (t0 := 1) kd_M_beginPile_21 (by assumption) h72 (by omega) (by decide) ?_
      refine z_upd (fun σ_1 x72_1 q_1 => ?_)
      have x58_1 := (q_1 58 (by omega)).trans h58
      have x73_1 := (q_1 73 (by omega)).trans h73
      have hM_1 := hM.fr q_1 (by omega)
      refine z_aload_n kd_M_beginPile_22 1 rfl ?_
      refine z_get kd_M_beginPile_23 (kf_M_66 _) hM_1.h1 rfl ?_
      refine z_iload_n kd_M_beginPile_26 0 rfl ?_
      refine z_lconst (v := 0) kd_M_beginPile_27 (by decide +kernel) ?_
      refine z_lastN (t0 := 1) kd_M_beginPile_28 (by assumption) x73_1 (by omega) (by decide) ?_
      refine z_upd (fun σ_2 x73_2 q_2 => ?_)
      have x58_2 := (q_2 58 (by omega)).trans x58_1
      have x72_2 := (q_2 72 (by omega)).trans x72_1
      have hM_2 := hM_1.fr q_2 (by omega)
      refine z_iinc (v := (nI (i + 1))) (lv' := [(1, .int _), (0, .ref (b + 54))]) kd_M_beginPile_29 0 rfl (nI_1 _) (by decide) rfl ?_
      refine z_goto (tgt := 2) kd_M_beginPile_32 (by decide) ?_
      refine z_pick (lv' := [(1, .int (nI (i + 1))), (0, .ref (b + 54))]) [0, 1] rfl ?_
      exact ih (i + 1) _ (by omega) hM_2 x58_2 (by rw [← bpL_s]; exact x72_2) (by rw [← bpL_s]; exact x73_2) (Fr.tr (Fr.tr hF (q_1.wide (by omega) (by omega))) (q_2.wide (by omega) (by omega)))
set_option maxHeartbeats 4000000 in
set_option maxRecDepth 100000 in
theorem c_M_beginPile {l : Launch} {D : va_G} {tys : List (ClassId × FieldType)} {b N : Nat} {σ : Nat → Option va_E} {cI cJ cA : ClassId} (ht0 : tys[0]? = some (cI, .int)) (ht1 : tys[1]? = some (cJ, .long)) (ht3 : tys[3]? = some (cA, .array .long)) {th fa ls rm : Value} {n a : Nat} {gf gt gw : Nat → Int32} {F T : Nat → Nat} (hM : MN b cI σ th fa ls rm n a gf gt gw F T) {C L0 G0 : Nat → Int64} (h58 : σ 58 = some (.inl (cJ, 10, .inr (.inl C)))) (h72 : σ 72 = some (.inl (cJ, 10, .inr (.inl L0)))) (h73 : σ 73 = some (.inl (cJ, 10, .inr (.inl G0)))) : zM l D kCl tys kNw b ky_M_beginPile (kh_M_beginPile :: zT) 0 0 0 0 [.ref (b + 54)] N σ ((fun oc N' σ' => oc = .returned none ∧ N' = N ∧ σ' 72 = some (.inl (cJ, 10, .inr (.inl (bpL n C L0)))) ∧ σ' 73 = some (.inl (cJ, 10, .inr (.inl (bpL n (fun _ => 0) G0)))) ∧ Fr 72 73 σ σ')) := by
  refine zM.of (by decide +kernel) rfl (Nat.le_of_ble_eq_true rfl) ?_
  refine z_pick (lv' := [(0, .ref (b + 54))]) [0] rfl ?_
  refine z_iconst (v := 0) kd_M_beginPile_0 (by decide) ?_
  refine z_istore_n (lv' := [(1, .int _), (0, .ref (b + 54))]) kd_M_beginPile_1 (by decide) rfl ?_
  refine z_pick (lv' := [(1, .int (nI 0)), (0, .ref (b + 54))]) [0, 1] rfl ?_
  exact l_M_begin ht0 ht1 ht3 n 0 σ (by omega) hM h58 (by rw [bpL_0]; exact h72) (by rw [bpL_0]; exact h73) Fr.rf
