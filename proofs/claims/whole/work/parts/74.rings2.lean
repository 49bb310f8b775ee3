def oI : Option Nat → Int32
  | none => -1
  | some k => nI k
def utL (tk ring : Int32) : Nat → Nat → Int32 → Option Nat
  | 0, _, _ => none
  | m + 1, k, p => if (tk >>> (nI k &&& 31)) &&& 1 = 0 then (if p = ring then some k else utL tk ring m (k + 1) (p + 1)) else utL tk ring m (k + 1) p
theorem utL_lt {tk ring : Int32} {a : Nat} : ∀ m k p j, k + m = a → utL tk ring m k p = some j → j < a := by
  intro m
  induction m with
  | zero => intro k p j _ h; cases h
  | succ m ih =>
    intro k p j hk h
    unfold utL at h
    by_cases c : (tk >>> (nI k &&& 31)) &&& 1 = 0
    · rw [if_pos c] at h
      by_cases c2 : p = ring
      · rw [if_pos c2] at h; cases h; omega
      · rw [if_neg c2] at h; exact ih _ _ _ (by omega) h
    · rw [if_neg c] at h; exact ih _ _ _ (by omega) h
/-- the row of ways back: what it says of the nodes below n -/
def BH (n a : Nat) (g : Nat → Int32) (B : Nat → Option Nat) : Prop := ∀ v, v < n → g v = oI (B v) ∧ ∀ k, B v = some k → k < a
def updO (B : Nat → Option Nat) (v : Nat) (k : Nat) : Nat → Option Nat := fun u => if u = v then some k else B u
theorem BH.set {n a v k : Nat} {g : Nat → Int32} {B : Nat → Option Nat} (h : BH n a g B) (hk : k < a) : BH n a (upd g v (nI k)) (updO B v k) := by
  intro u hu
  by_cases e : u = v
  · subst e
    exact ⟨by simp [upd, updO, oI], fun j hj => by simp [updO] at hj; omega⟩
  · have h2 := h u hu
    exact ⟨by simp [upd, updO, e, h2.1], fun j hj => h2.2 j (by simpa [updO, e] using hj)⟩
def rbit (r : Int32) (v : Nat) : Bool := decide ((r >>> (nI v &&& 31)) &&& 1 = 1)
def rcR (F T : Nat → Nat) (k : Nat) (r : Int32) : Int32 := if rbit r (F k) = rbit r (T k) then r else r ||| (1 <<< (nI (if rbit r (F k) then T k else F k) &&& 31))
def rcB (F T : Nat → Nat) (k : Nat) (r : Int32) (B : Nat → Option Nat) : Nat → Option Nat := if rbit r (F k) = rbit r (T k) then B else updO B (if rbit r (F k) then T k else F k) k
def fwI (F T : Nat → Nat) (tk : Int32) : Nat → Nat → Int32 × (Nat → Option Nat) → Int32 × (Nat → Option Nat)
  | 0, _, S => S
  | m + 1, k, S => fwI F T tk m (k + 1) (if (tk >>> (nI k &&& 31)) &&& 1 = 1 then (rcR F T k S.1, rcB F T k S.1 S.2) else S)
def fwO (F T : Nat → Nat) (tk : Int32) (a : Nat) : Nat → Int32 × (Nat → Option Nat) → Int32 × (Nat → Option Nat)
  | 0, S => S
  | m + 1, S => fwO F T tk a m (fwI F T tk a 0 S)
def fwV (F T : Nat → Nat) (tk : Int32) (n a g : Nat) : Nat → Option Nat := (fwO F T tk a (n - 1) (1 <<< (nI g &&& 31), fun _ => none)).2
set_option maxHeartbeats 4000000 in
set_option maxRecDepth 100000 in
theorem l_R_untaken {l : Launch} {D : va_G} {tys : List (ClassId × FieldType)} {b N : Nat} {σ : Nat → Option va_E} {cI cJ cA : ClassId} (ht0 : tys[0]? = some (cI, .int)) (ht1 : tys[1]? = some (cJ, .long)) (ht3 : tys[3]? = some (cA, .array .long)) {n a : Nat} {gf gt gw : Nat → Int32} {F T : Nat → Nat} (hN : NS b cI σ n a gf gt gw F T) {v20 : Value} (h20 : σ 20 = some (.inr (5, [v20, .ref (b + 21), .ref (b + 22), .ref (b + 1), .ref (b + 5)]))) {R : Room} {tk ring val : Int32} : ∀ (m k : Nat) (p : Int32), k + m = a → oI (utL tk ring m k p) = val → Z l D kCl tys (kh_R_untaken :: zT) kNw ky_R_untaken.cls ky_R_untaken.name kb_R_untaken 5 (some FieldType.int) R b (zFi D kCl b 0 0 (zD (some (.int val)) N σ)) 0 0 N (σ) 5 [(4, .int (nI k)), (3, .int p), (0, .ref (b + 20)), (1, .int tk), (2, .int ring)] [] := by
  have hn := hN.hn
  have ha := hN.ha
  intro m
  induction m with
  | zero =>
    intro k p hkm hv
    obtain rfl : k = a := by omega
    have hv : (-1 : Int32) = val := hv
    subst hv
    refine z_iload kd_R_untaken_5 0 rfl ?_
    refine z_aload_n kd_R_untaken_7 2 rfl ?_
    refine z_get kd_R_untaken_8 (kf_R_18 _) h20 rfl ?_
    refine z_get kd_R_untaken_11 (kf_R_38 _) hN.h1 rfl ?_
    refine z_icmp_ge (tgt := 43) kd_R_untaken_14 (by decide) (fun c14 => ?_) (fun c14 => ?_)
    · refine z_iconst (v := -1) kd_R_untaken_43 (by decide) ?_
      exact z_iret kd_R_untaken_44 rfl (Nat.le_of_ble_eq_true rfl) (Nat.le_of_ble_eq_true rfl) ⟨rfl, rfl, rfl⟩
    · exact absurd (nI_le (Nat.le_refl k) (by omega)) c14
  | succ m ih =>
    intro k p hkm hv
    have hk : k < a := by omega
    unfold utL at hv
    refine z_iload kd_R_untaken_5 0 rfl ?_
    refine z_aload_n kd_R_untaken_7 2 rfl ?_
    refine z_get kd_R_untaken_8 (kf_R_18 _) h20 rfl ?_
    refine z_get kd_R_untaken_11 (kf_R_38 _) hN.h1 rfl ?_
    refine z_icmp_ge (tgt := 43) kd_R_untaken_14 (by decide) (fun c14 => ?_) (fun c14 => ?_)
    · exact absurd c14 (nI_ge hk (by omega))
    · refine z_iload_n kd_R_untaken_17 3 rfl ?_
      refine z_iload kd_R_untaken_18 0 rfl ?_
      refine z_ishr kd_R_untaken_20 ?_
      refine z_iconst (v := 1) kd_R_untaken_21 (by decide) ?_
      refine z_iand kd_R_untaken_22 ?_
      refine z_if_ne (tgt := 37) kd_R_untaken_23 (by decide) (fun c23 => ?_) (fun c23 => ?_)
      · rw [if_neg c23] at hv
        refine z_iinc (v := (nI (k + 1))) (lv' := [(4, .int _), (3, .int _), (0, .ref (b + 20)), (1, .int _), (2, .int _)]) kd_R_untaken_37 0 rfl (nI_1 _) (by decide) rfl ?_
        refine z_goto (tgt := 5) kd_R_untaken_40 (by decide) ?_
        refine z_pick (lv' := [(4, .int (nI (k + 1))), (3, .int _), (0, .ref (b + 20)), (1, .int _), (2, .int _)]) [0, 1, 2, 3, 4] rfl ?_
        exact ih (k + 1) _ (by omega) hv
      · rw [if_pos c23] at hv
        refine z_iload_n kd_R_untaken_26 1 rfl ?_
        refine z_iload_n kd_R_untaken_27 4 rfl ?_
        refine z_icmp_ne (tgt := 34) kd_R_untaken_28 (by decide) (fun c28 => ?_) (fun c28 => ?_)
        · rw [if_neg c28] at hv
          refine z_iinc (lv' := [(3, .int _), (4, .int _), (0, .ref (b + 20)), (1, .int _), (2, .int _)]) kd_R_untaken_34 1 rfl rfl (by decide) rfl ?_
          refine z_iinc (v := (nI (k + 1))) (lv' := [(4, .int _), (3, .int _), (0, .ref (b + 20)), (1, .int _), (2, .int _)]) kd_R_untaken_37 1 rfl (nI_1 _) (by decide) rfl ?_
          refine z_goto (tgt := 5) kd_R_untaken_40 (by decide) ?_
          refine z_pick (lv' := [(4, .int (nI (k + 1))), (3, .int _), (0, .ref (b + 20)), (1, .int _), (2, .int _)]) [0, 1, 2, 3, 4] rfl ?_
          exact ih (k + 1) _ (by omega) hv
        · rw [if_pos c28] at hv
          subst hv
          refine z_iload kd_R_untaken_31 0 rfl ?_
          exact z_iret kd_R_untaken_33 rfl (Nat.le_of_ble_eq_true rfl) (Nat.le_of_ble_eq_true rfl) ⟨rfl, rfl, rfl⟩
set_option maxHeartbeats 4000000 in
set_option maxRecDepth 100000 in
theorem c_R_untaken {l : Launch} {D : va_G} {tys : List (ClassId × FieldType)} {b N : Nat} {σ : Nat → Option va_E} {cI cJ cA : ClassId} (ht0 : tys[0]? = some (cI, .int)) (ht1 : tys[1]? = some (cJ, .long)) (ht3 : tys[3]? = some (cA, .array .long)) {n a : Nat} {gf gt gw : Nat → Int32} {F T : Nat → Nat} (hN : NS b cI σ n a gf gt gw F T) {v20 : Value} (h20 : σ 20 = some (.inr (5, [v20, .ref (b + 21), .ref (b + 22), .ref (b + 1), .ref (b + 5)]))) {tk ring : Int32} : zM l D kCl tys kNw b ky_R_untaken (kh_R_untaken :: zT) 0 0 0 0 [.ref (b + 20), .int tk, .int ring] N σ (zD (some (.int (oI (utL tk ring a 0 0)))) N σ) := by
  refine zM.of (by decide +kernel) rfl (Nat.le_of_ble_eq_true rfl) ?_
  refine z_pick (lv' := [(0, .ref (b + 20)), (1, .int tk), (2, .int ring)]) [0, 1, 2] rfl ?_
  refine z_iconst (v := 0) kd_R_untaken_0 (by decide) ?_
  refine z_istore_n (lv' := [(3, .int _), (0, .ref (b + 20)), (1, .int _), (2, .int _)]) kd_R_untaken_1 (by decide) rfl ?_
  refine z_iconst (v := 0) kd_R_untaken_2 (by decide) ?_
  refine z_istore (lv' := [(4, .int _), (3, .int _), (0, .ref (b + 20)), (1, .int _), (2, .int _)]) kd_R_untaken_3 (by decide) rfl ?_
  refine z_pick (lv' := [(4, .int (nI 0)), (3, .int 0), (0, .ref (b + 20)), (1, .int tk), (2, .int ring)]) [0, 1, 2, 3, 4] rfl ?_
  exact l_R_untaken ht0 ht1 ht3 hN h20 a 0 0 (by omega) rfl
set_option maxHeartbeats 4000000 in
set_option maxRecDepth 100000 in
theorem c_R_reach {l : Launch} {D : va_G} {tys : List (ClassId × FieldType)} {b N : Nat} {σ : Nat → Option va_E} {cI cJ cA : ClassId} (ht0 : tys[0]? = some (cI, .int)) (ht1 : tys[1]? = some (cJ, .long)) (ht3 : tys[3]? = some (cA, .array .long)) {n a : Nat} {gf gt gw : Nat → Int32} {F T : Nat → Nat} (hN : NS b cI σ n a gf gt gw F T) {v20 : Value} (h20 : σ 20 = some (.inr (5, [v20, .ref (b + 21), .ref (b + 22), .ref (b + 1), .ref (b + 5)]))) {g22 : Nat → Int32} (h22 : σ 22 = some (.inl (cI, 10, .inl g22))) {B : Nat → Option Nat} (hB : BH n a g22 B) {k : Nat} (hk : k < a) {r : Int32} : zM l D kCl tys kNw b ky_R_reach (kh_R_reach :: zT) 0 0 0 0 [.ref (b + 20), .int (nI k), .int r] N σ ((fun oc N' σ' => oc = .returned (some (.int (rcR F T k r))) ∧ N' = N ∧ (∃ g, BH n a g (rcB F T k r B) ∧ σ' 22 = some (.inl (cI, 10, .inl g))) ∧ Fr 22 22 σ σ')) := by
  refine zM.of (by decide +kernel) rfl (Nat.le_of_ble_eq_true rfl) ?_
  refine z_pick (lv' := [(0, .ref (b + 20)), (1, .int (nI k)), (2, .int r)]) [0, 1, 2] rfl ?_
  have hn := hN.hn
  have ha := hN.ha
  obtain ⟨l1, l2⟩ := hN.ft k hk
  refine z_iload_n kd_R_reach_0 2 rfl ?_
  refine z_aload_n kd_R_reach_1 0 rfl ?_
  refine z_get kd_R_reach_2 (kf_R_18 _) h20 rfl ?_
  refine z_get kd_R_reach_5 (kf_R_54 _) hN.h1 rfl ?_
  refine z_iload_n kd_R_reach_8 1 rfl ?_
  refine z_ialdN (t0 := 0) kd_R_reach_9 (by assumption) hN.h2 (by omega) (by decide) ?_
  refine z_topi (hN.hft k hk).1 ?_
  refine z_ishr kd_R_reach_10 ?_
  refine z_iconst (v := 1) kd_R_reach_11 (by decide) ?_
  refine z_iand kd_R_reach_12 ?_
  refine z_iconst (v := 1) kd_R_reach_13 (by decide) ?_
  refine z_icmp_ne (tgt := 21) kd_R_reach_14 (by decide) (fun c14 => ?_) (fun c14 => ?_)
  · have b1 : rbit r (F k) = false := decide_eq_false c14
    refine z_iconst (v := 0) kd_R_reach_21 (by decide) ?_
    refine z_istore_n (lv' := [(3, .int _), (0, .ref (b + 20)), (1, .int _), (2, .int _)]) kd_R_reach_22 (by decide) rfl ?_
    refine z_iload_n kd_R_reach_23 3 rfl ?_
    refine z_aload_n kd_R_reach_24 1 rfl ?_
    refine z_get kd_R_reach_25 (kf_R_18 _) h20 rfl ?_
    refine z_get kd_R_reach_28 (kf_R_61 _) hN.h1 rfl ?_
    refine z_iload_n kd_R_reach_31 2 rfl ?_
    refine z_ialdN (t0 := 0) kd_R_reach_32 (by assumption) hN.h3 (by omega) (by decide) ?_
    refine z_topi (hN.hft k hk).2.2.1 ?_
    refine z_ishr kd_R_reach_33 ?_
    refine z_iconst (v := 1) kd_R_reach_34 (by decide) ?_
    refine z_iand kd_R_reach_35 ?_
    refine z_iconst (v := 1) kd_R_reach_36 (by decide) ?_
    refine z_icmp_ne (tgt := 44) kd_R_reach_37 (by decide) (fun c37 => ?_) (fun c37 => ?_)
    · have b2 : rbit r (T k) = false := decide_eq_false c37
      refine z_iconst (v := 0) kd_R_reach_44 (by decide) ?_
      refine z_istore (lv' := [(4, .int _), (3, .int _), (0, .ref (b + 20)), (1, .int _), (2, .int _)]) kd_R_reach_45 (by decide) rfl ?_
      refine z_iload_n kd_R_reach_47 1 rfl ?_
      refine z_iload kd_R_reach_48 0 rfl ?_
      refine z_icmp_ne (tgt := 55) kd_R_reach_50 (by decide) (fun c50 => absurd c50 (by decide)) (fun c50 => ?_)
      refine z_iload_n kd_R_reach_53 4 rfl ?_
      exact z_iret kd_R_reach_54 rfl (Nat.le_of_ble_eq_true rfl) (Nat.le_of_ble_eq_true rfl) ⟨by simp [rcR, b1, b2], rfl, ⟨_, by rw [rcB, b1, b2, if_pos rfl]; exact hB, h22⟩, Fr.rf⟩
    · have b2 : rbit r (T k) = true := decide_eq_true c37
      refine z_iconst (v := 1) kd_R_reach_40 (by decide) ?_
      refine z_goto (tgt := 45) kd_R_reach_41 (by decide) ?_
      refine z_istore (lv' := [(4, .int _), (3, .int _), (0, .ref (b + 20)), (1, .int _), (2, .int _)]) kd_R_reach_45 (by decide) rfl ?_
      refine z_iload_n kd_R_reach_47 1 rfl ?_
      refine z_iload kd_R_reach_48 0 rfl ?_
      refine z_icmp_ne (tgt := 55) kd_R_reach_50 (by decide) (fun c50 => ?_) (fun c50 => absurd c50 (by decide))
      refine z_iload_n kd_R_reach_55 1 rfl ?_
      refine z_if_eq (tgt := 71) kd_R_reach_56 (by decide) (fun c56 => ?_) (fun c56 => absurd c56 (by decide))
      refine z_aload_n kd_R_reach_71 2 rfl ?_
      refine z_get kd_R_reach_72 (kf_R_18 _) h20 rfl ?_
      refine z_get kd_R_reach_75 (kf_R_54 _) hN.h1 rfl ?_
      refine z_iload_n kd_R_reach_78 3 rfl ?_
      refine z_ialdN (t0 := 0) kd_R_reach_79 (by assumption) hN.h2 (by omega) (by decide) ?_
      refine z_topi (hN.hft k hk).1 ?_
      refine z_istore (lv' := [(5, .int _), (4, .int _), (3, .int _), (0, .ref (b + 20)), (1, .int _), (2, .int _)]) kd_R_reach_80 (by decide) rfl ?_
      refine z_aload_n kd_R_reach_82 3 rfl ?_
      refine z_get kd_R_reach_83 (kf_R_15 _) h20 rfl ?_
      refine z_iload kd_R_reach_86 0 rfl ?_
      refine z_iload_n kd_R_reach_88 4 rfl ?_
      refine z_iastN (t0 := 0) kd_R_reach_89 (by assumption) h22 (by omega) (by decide) ?_
      refine z_upd (fun σ_1 x22_1 q_1 => ?_)
      have hN_1 := hN.fr q_1 (by omega)
      have x20_1 := (q_1 20 (by omega)).trans h20
      refine z_iload_n kd_R_reach_90 5 rfl ?_
      refine z_iconst (v := 1) kd_R_reach_91 (by decide) ?_
      refine z_iload kd_R_reach_92 0 rfl ?_
      refine z_ishl kd_R_reach_94 ?_
      refine z_ior kd_R_reach_95 ?_
      exact z_iret kd_R_reach_96 rfl (Nat.le_of_ble_eq_true rfl) (Nat.le_of_ble_eq_true rfl) ⟨by simp [rcR, b1, b2], rfl, ⟨_, by rw [rcB, b1, b2, if_neg (by decide)]; exact hB.set hk, x22_1⟩, (Fr.tr Fr.rf (q_1.wide (by omega) (by omega)))⟩
  · have b1 : rbit r (F k) = true := decide_eq_true c14
    refine z_iconst (v := 1) kd_R_reach_17 (by decide) ?_
    refine z_goto (tgt := 22) kd_R_reach_18 (by decide) ?_
    refine z_istore_n (lv' := [(3, .int _), (0, .ref (b + 20)), (1, .int _), (2, .int _)]) kd_R_reach_22 (by decide) rfl ?_
    refine z_iload_n kd_R_reach_23 3 rfl ?_
    refine z_aload_n kd_R_reach_24 1 rfl ?_
    refine z_get kd_R_reach_25 (kf_R_18 _) h20 rfl ?_
    refine z_get kd_R_reach_28 (kf_R_61 _) hN.h1 rfl ?_
    refine z_iload_n kd_R_reach_31 2 rfl ?_
    refine z_ialdN (t0 := 0) kd_R_reach_32 (by assumption) hN.h3 (by omega) (by decide) ?_
    refine z_topi (hN.hft k hk).2.2.1 ?_
    refine z_ishr kd_R_reach_33 ?_
    refine z_iconst (v := 1) kd_R_reach_34 (by decide) ?_
    refine z_iand kd_R_reach_35 ?_
    refine z_iconst (v := 1) kd_R_reach_36 (by decide) ?_
    refine z_icmp_ne (tgt := 44) kd_R_reach_37 (by decide) (fun c37 => ?_) (fun c37 => ?_)
    · have b2 : rbit r (T k) = false := decide_eq_false c37
      refine z_iconst (v := 0) kd_R_reach_44 (by decide) ?_
      refine z_istore (lv' := [(4, .int _), (3, .int _), (0, .ref (b + 20)), (1, .int _), (2, .int _)]) kd_R_reach_45 (by decide) rfl ?_
      refine z_iload_n kd_R_reach_47 1 rfl ?_
      refine z_iload kd_R_reach_48 0 rfl ?_
      refine z_icmp_ne (tgt := 55) kd_R_reach_50 (by decide) (fun c50 => ?_) (fun c50 => absurd c50 (by decide))
      refine z_iload_n kd_R_reach_55 1 rfl ?_
      refine z_if_eq (tgt := 71) kd_R_reach_56 (by decide) (fun c56 => absurd c56 (by decide)) (fun c56 => ?_)
      refine z_aload_n kd_R_reach_59 2 rfl ?_
      refine z_get kd_R_reach_60 (kf_R_18 _) h20 rfl ?_
      refine z_get kd_R_reach_63 (kf_R_61 _) hN.h1 rfl ?_
      refine z_iload_n kd_R_reach_66 3 rfl ?_
      refine z_ialdN (t0 := 0) kd_R_reach_67 (by assumption) hN.h3 (by omega) (by decide) ?_
      refine z_topi (hN.hft k hk).2.2.1 ?_
      refine z_goto (tgt := 80) kd_R_reach_68 (by decide) ?_
      refine z_istore (lv' := [(5, .int _), (4, .int _), (3, .int _), (0, .ref (b + 20)), (1, .int _), (2, .int _)]) kd_R_reach_80 (by decide) rfl ?_
      refine z_aload_n kd_R_reach_82 3 rfl ?_
      refine z_get kd_R_reach_83 (kf_R_15 _) h20 rfl ?_
      refine z_iload kd_R_reach_86 0 rfl ?_
      refine z_iload_n kd_R_reach_88 4 rfl ?_
      refine z_iastN (t0 := 0) kd_R_reach_89 (by assumption) h22 (by omega) (by decide) ?_
      refine z_upd (fun σ_2 x22_2 q_2 => ?_)
      have hN_2 := hN.fr q_2 (by omega)
      have x20_2 := (q_2 20 (by omega)).trans h20
      refine z_iload_n kd_R_reach_90 5 rfl ?_
      refine z_iconst (v := 1) kd_R_reach_91 (by decide) ?_
      refine z_iload kd_R_reach_92 0 rfl ?_
      refine z_ishl kd_R_reach_94 ?_
      refine z_ior kd_R_reach_95 ?_
      exact z_iret kd_R_reach_96 rfl (Nat.le_of_ble_eq_true rfl) (Nat.le_of_ble_eq_true rfl) ⟨by simp [rcR, b1, b2], rfl, ⟨_, by rw [rcB, b1, b2, if_neg (by decide)]; exact hB.set hk, x22_2⟩, (Fr.tr Fr.rf (q_2.wide (by omega) (by omega)))⟩
    · have b2 : rbit r (T k) = true := decide_eq_true c37
      refine z_iconst (v := 1) kd_R_reach_40 (by decide) ?_
      refine z_goto (tgt := 45) kd_R_reach_41 (by decide) ?_
      refine z_istore (lv' := [(4, .int _), (3, .int _), (0, .ref (b + 20)), (1, .int _), (2, .int _)]) kd_R_reach_45 (by decide) rfl ?_
      refine z_iload_n kd_R_reach_47 1 rfl ?_
      refine z_iload kd_R_reach_48 0 rfl ?_
      refine z_icmp_ne (tgt := 55) kd_R_reach_50 (by decide) (fun c50 => absurd c50 (by decide)) (fun c50 => ?_)
      refine z_iload_n kd_R_reach_53 4 rfl ?_
      exact z_iret kd_R_reach_54 rfl (Nat.le_of_ble_eq_true rfl) (Nat.le_of_ble_eq_true rfl) ⟨by simp [rcR, b1, b2], rfl, ⟨_, by rw [rcB, b1, b2, if_pos rfl]; exact hB, h22⟩, Fr.rf⟩
