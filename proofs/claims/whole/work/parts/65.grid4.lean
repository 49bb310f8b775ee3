def rlb (M : Nat → Nat → Int64) (x : Nat) : Nat → Nat → Nat → Nat → Nat
  | 0, _, best, _ => best
  | m + 1, row, best, few => if few = 0 then best else if twN (M row x) < few then rlb M x m (row + 1) row (twN (M row x)) else rlb M x m (row + 1) best few
theorem rlb_lt (M : Nat → Nat → Int64) (x n : Nat) : ∀ m row best few, row + m = n → best < n → rlb M x m row best few < n := by
  intro m
  induction m with
  | zero => intro row best few h hb; exact hb
  | succ m ih =>
    intro row best few h hb
    unfold rlb
    by_cases e : few = 0
    · rw [if_pos e]; exact hb
    · rw [if_neg e]
      by_cases e2 : twN (M row x) < few
      · rw [if_pos e2]; exact ih _ _ _ (by omega) (by omega)
      · rw [if_neg e2]; exact ih _ _ _ (by omega) hb
def rlN (M : Nat → Nat → Int64) (n x : Nat) : Nat := rlb M x (n - (x + 1)) (x + 1) x (twN (M x x))
theorem rlN_lt {M : Nat → Nat → Int64} {n x : Nat} (h : x < n) : rlN M n x < n := rlb_lt M x n _ _ _ _ (by omega) h
set_option maxHeartbeats 4000000 in
set_option maxRecDepth 100000 in
theorem l_G_rlb {l : Launch} {D : va_G} {tys : List (ClassId × FieldType)} {b N : Nat} {σ : Nat → Option va_E} {cI cJ cA : ClassId} (ht0 : tys[0]? = some (cI, .int)) (ht1 : tys[1]? = some (cJ, .long)) (ht3 : tys[3]? = some (cA, .array .long)) {n x : Nat} (hn : n ≤ 10) (hx : x < n) {f : Nat → Option Nat} {r : Nat → Nat} {M : Nat → Nat → Int64} (h7 : σ 7 = some (.inr (3, [.int (nI n), .ref (b + 8)]))) (hG : GR b cA cJ σ f r M) {v : Nat} : ∀ (m row best few : Nat), row + m = n → few ≤ 64 → rlb M x m row best few = v → Z l D kCl tys (kh_G_rowWithLowestBit :: zT) kNw ky_G_rowWithLowestBit.cls ky_G_rowWithLowestBit.name kb_G_rowWithLowestBit 6 (some FieldType.int) { frames := 1, cells := 0, slots := 0, locals := 30 } b (zFi D kCl b 0 0 (zD (some (.int (nI v))) N σ)) 0 0 N (σ) 19 [(4, .int (nI row)), (3, .int (nI few)), (2, .int (nI best)), (0, .ref (b + 7)), (1, .int (nI x))] [] := by
  intro m
  induction m with
  | zero =>
    intro row best few hr hf hv
    obtain rfl : row = n := by omega
    have hv : best = v := hv
    subst hv
    refine z_iload kd_G_rowWithLowestBit_19 0 rfl ?_
    refine z_aload_n kd_G_rowWithLowestBit_21 3 rfl ?_
    refine z_get kd_G_rowWithLowestBit_22 (kf_G_16 _) h7 rfl ?_
    refine z_icmp_ge (tgt := 64) kd_G_rowWithLowestBit_25 (by decide) (fun c25 => ?_) (fun c25 => ?_)
    · refine z_iload_n kd_G_rowWithLowestBit_64 2 rfl ?_
      exact z_iret kd_G_rowWithLowestBit_65 rfl (Nat.le_of_ble_eq_true rfl) (Nat.le_of_ble_eq_true rfl) ⟨rfl, rfl, rfl⟩
    · exact absurd (nI_le (Nat.le_refl row) (by omega)) c25
  | succ m ih =>
    intro row best few hr hf hv
    have hlt : row < n := by omega
    have ht2 := twN_le (M row x)
    unfold rlb at hv
    refine z_iload kd_G_rowWithLowestBit_19 0 rfl ?_
    refine z_aload_n kd_G_rowWithLowestBit_21 3 rfl ?_
    refine z_get kd_G_rowWithLowestBit_22 (kf_G_16 _) h7 rfl ?_
    refine z_icmp_ge (tgt := 64) kd_G_rowWithLowestBit_25 (by decide) (fun c25 => ?_) (fun c25 => ?_)
    · exact absurd c25 (nI_ge hlt (by omega))
    · refine z_iload_n kd_G_rowWithLowestBit_28 1 rfl ?_
      refine z_if_le (tgt := 64) kd_G_rowWithLowestBit_29 (by decide) (fun c29 => ?_) (fun c29 => ?_)
      · have h0 : few = 0 := by rcases Nat.eq_zero_or_pos few with q | q; exact q; exact absurd c29 (nI_nle q (by omega))
        rw [if_pos h0] at hv
        subst hv
        refine z_iload_n kd_G_rowWithLowestBit_64 2 rfl ?_
        exact z_iret kd_G_rowWithLowestBit_65 rfl (Nat.le_of_ble_eq_true rfl) (Nat.le_of_ble_eq_true rfl) ⟨rfl, rfl, rfl⟩
      · have h0 : ¬ few = 0 := fun q => c29 (by rw [q]; exact nI_le (a := 0) (b := 0) (Nat.le_refl 0) (by decide))
        rw [if_neg h0] at hv
        refine z_aload_n kd_G_rowWithLowestBit_32 3 rfl ?_
        refine z_get kd_G_rowWithLowestBit_33 (kf_G_11 _) h7 rfl ?_
        refine z_iload kd_G_rowWithLowestBit_36 0 rfl ?_
        refine z_gal kd_G_rowWithLowestBit_38 ht3 hG (by omega) ?_
        refine z_iload_n kd_G_rowWithLowestBit_39 4 rfl ?_
        refine z_gld kd_G_rowWithLowestBit_40 ht1 hG (by omega) (by omega) ?_
        refine z_S1 (As := [_]) kd_G_rowWithLowestBit_41 (kg_G_60 _) c_G_twos rfl rfl (Nat.le_of_ble_eq_true rfl) ⟨Nat.le_of_ble_eq_true rfl, Nat.le_of_ble_eq_true rfl⟩ ⟨Nat.le_of_ble_eq_true rfl, Nat.le_of_ble_eq_true rfl⟩ ?_
        refine z_istore (lv' := [(5, .int _), (4, .int _), (3, .int _), (2, .int _), (0, .ref (b + 7)), (1, .int _)]) kd_G_rowWithLowestBit_44 (by decide) rfl ?_
        refine z_iload kd_G_rowWithLowestBit_46 0 rfl ?_
        refine z_iload_n kd_G_rowWithLowestBit_48 2 rfl ?_
        refine z_icmp_ge (tgt := 58) kd_G_rowWithLowestBit_49 (by decide) (fun c49 => ?_) (fun c49 => ?_)
        · have h1 : ¬ twN (M row x) < few := fun q => nI_ge q (by omega) c49
          rw [if_neg h1] at hv
          refine z_iinc (v := (nI (row + 1))) (lv' := [(4, .int _), (5, .int _), (3, .int _), (2, .int _), (0, .ref (b + 7)), (1, .int _)]) kd_G_rowWithLowestBit_58 1 rfl (nI_1 _) (by decide) rfl ?_
          refine z_goto (tgt := 19) kd_G_rowWithLowestBit_61 (by decide) ?_
          refine z_pick [0, 2, 3, 4, 5] rfl ?_
          exact ih _ _ _ (by omega) (by omega) hv
        · have h1 : twN (M row x) < few := by rcases Nat.lt_or_ge (twN (M row x)) few with q | q; exact q; exact absurd (nI_le q (by omega)) c49
          rw [if_pos h1] at hv
          refine z_iload kd_G_rowWithLowestBit_52 1 rfl ?_
          refine z_istore_n (lv' := [(2, .int _), (5, .int _), (4, .int _), (3, .int _), (0, .ref (b + 7)), (1, .int _)]) kd_G_rowWithLowestBit_54 (by decide) rfl ?_
          refine z_iload kd_G_rowWithLowestBit_55 1 rfl ?_
          refine z_istore_n (lv' := [(3, .int _), (2, .int _), (5, .int _), (4, .int _), (0, .ref (b + 7)), (1, .int _)]) kd_G_rowWithLowestBit_57 (by decide) rfl ?_
          refine z_iinc (v := (nI (row + 1))) (lv' := [(4, .int _), (3, .int _), (2, .int _), (5, .int _), (0, .ref (b + 7)), (1, .int _)]) kd_G_rowWithLowestBit_58 3 rfl (nI_1 _) (by decide) rfl ?_
          refine z_goto (tgt := 19) kd_G_rowWithLowestBit_61 (by decide) ?_
          refine z_pick [0, 1, 2, 4, 5] rfl ?_
          exact ih _ _ _ (by omega) (by omega) hv
set_option maxHeartbeats 4000000 in
set_option maxRecDepth 100000 in
theorem c_G_rowWithLowestBit {l : Launch} {D : va_G} {tys : List (ClassId × FieldType)} {b N : Nat} {σ : Nat → Option va_E} {cI cJ cA : ClassId} (ht0 : tys[0]? = some (cI, .int)) (ht1 : tys[1]? = some (cJ, .long)) (ht3 : tys[3]? = some (cA, .array .long)) {n x : Nat} (hn : n ≤ 10) (hx : x < n) {M : Nat → Nat → Int64} (hS : GS b cA cJ σ (nI n) M) : zM l D kCl tys kNw b ky_G_rowWithLowestBit (kh_G_rowWithLowestBit :: zT) 1 30 0 0 [.ref (b + 7), .int (nI x)] N σ (zD (some (.int (nI (rlN M n x)))) N σ) := by
  refine zM.of (by decide +kernel) rfl (Nat.le_of_ble_eq_true rfl) ?_
  refine z_pick (lv' := [(0, .ref (b + 7)), (1, .int (nI x))]) [0, 1] rfl ?_
  obtain ⟨h7, f, r, hG⟩ := hS
  refine z_iload_n kd_G_rowWithLowestBit_0 1 rfl ?_
  refine z_istore_n (lv' := [(2, .int _), (0, .ref (b + 7)), (1, .int _)]) kd_G_rowWithLowestBit_1 (by decide) rfl ?_
  refine z_aload_n kd_G_rowWithLowestBit_2 1 rfl ?_
  refine z_get kd_G_rowWithLowestBit_3 (kf_G_11 _) h7 rfl ?_
  refine z_iload_n kd_G_rowWithLowestBit_6 2 rfl ?_
  refine z_gal kd_G_rowWithLowestBit_7 ht3 hG (by omega) ?_
  refine z_iload_n kd_G_rowWithLowestBit_8 2 rfl ?_
  refine z_gld kd_G_rowWithLowestBit_9 ht1 hG (by omega) (by omega) ?_
  refine z_S1 (As := [_]) kd_G_rowWithLowestBit_10 (kg_G_60 _) c_G_twos rfl rfl (Nat.le_of_ble_eq_true rfl) ⟨Nat.le_of_ble_eq_true rfl, Nat.le_of_ble_eq_true rfl⟩ ⟨Nat.le_of_ble_eq_true rfl, Nat.le_of_ble_eq_true rfl⟩ ?_
  refine z_istore_n (lv' := [(3, .int _), (2, .int _), (0, .ref (b + 7)), (1, .int _)]) kd_G_rowWithLowestBit_13 (by decide) rfl ?_
  refine z_iload_n kd_G_rowWithLowestBit_14 3 rfl ?_
  refine z_iconst (v := 1) kd_G_rowWithLowestBit_15 (by decide) ?_
  refine z_iadd kd_G_rowWithLowestBit_16 ?_
  refine z_topi (nI_add x 1) ?_
  refine z_istore (lv' := [(4, .int _), (3, .int _), (2, .int _), (0, .ref (b + 7)), (1, .int _)]) kd_G_rowWithLowestBit_17 (by decide) rfl ?_
  exact l_G_rlb ht0 ht1 ht3 hn hx h7 hG (n - (x + 1)) (x + 1) x _ (by omega) (twN_le _) rfl
def shL (v : Int64) (t : Nat) : Int64 := v >>> ((nI t).toInt64 &&& 63)
def cbC (x row : Nat) (t : Int64) : Nat → Nat → (Nat → Nat → Int64) → Nat → Nat → Int64
  | 0, _, M => M
  | m + 1, c, M => cbC x row t m (c + 1) (mset M row c (M row c - t * M x c))
def cbR (n x tw : Nat) (iv : Int64) : Nat → Nat → (Nat → Nat → Int64) → Nat → Nat → Int64
  | 0, _, M => M
  | m + 1, row, M => cbR n x tw iv m (row + 1) (if M row x = 0 then M else cbC x row (shL (M row x) tw * iv) (n - x) x M)
def cbN (n x : Nat) (M : Nat → Nat → Int64) : Nat → Nat → Int64 := cbR n x (twN (M x x)) (ivN (shL (M x x) (twN (M x x)))) (n - (x + 1)) (x + 1) M
set_option maxHeartbeats 4000000 in
set_option maxRecDepth 100000 in
theorem l_G_cbC {l : Launch} {D : va_G} {tys : List (ClassId × FieldType)} {b N : Nat} {σ0 : Nat → Option va_E} {cI cJ cA : ClassId} (ht0 : tys[0]? = some (cI, .int)) (ht1 : tys[1]? = some (cJ, .long)) (ht3 : tys[3]? = some (cA, .array .long)) {n x row tw : Nat} {iv t : Int64} (hn : n ≤ 10) (hx : x < n) (hrow : row < n) {f : Nat → Option Nat} {r : Nat → Nat} {Mf : Nat → Nat → Int64} {Q : Outcome → Nat → (Nat → Option va_E) → Prop} (hc : ∀ σ, σ 7 = some (.inr (3, [.int (nI n), .ref (b + 8)])) → GR b cA cJ σ f r Mf → Fr 7 18 σ0 σ → Z l D kCl tys (kh_G_clearBelow :: zT) kNw ky_G_clearBelow.cls ky_G_clearBelow.name kb_G_clearBelow 9 none { frames := 1, cells := 0, slots := 0, locals := 40 } b (zFi D kCl b 0 0 Q) 0 0 N (σ) 112 [(8, .int (nI n)), (6, .long t), (5, .int (nI row)), (3, .long iv), (2, .int (nI tw)), (0, .ref (b + 7)), (1, .int (nI x))] []) : ∀ (m c : Nat) (σ : Nat → Option va_E) (M : Nat → Nat → Int64), c + m = n → σ 7 = some (.inr (3, [.int (nI n), .ref (b + 8)])) → GR b cA cJ σ f r M → Fr 7 18 σ0 σ → cbC x row t m c M = Mf → Z l D kCl tys (kh_G_clearBelow :: zT) kNw ky_G_clearBelow.cls ky_G_clearBelow.name kb_G_clearBelow 9 none { frames := 1, cells := 0, slots := 0, locals := 40 } b (zFi D kCl b 0 0 Q) 0 0 N (σ) 72 [(8, .int (nI c)), (6, .long t), (5, .int (nI row)), (3, .long iv), (2, .int (nI tw)), (0, .ref (b + 7)), (1, .int (nI x))] [] := by
  intro m
  induction m with
  | zero =>
    intro c σ M hcm h7 hG hF he
    obtain rfl : c = n := by omega
    have he : M = Mf := he
    subst he
    refine z_iload kd_G_clearBelow_72 0 rfl ?_
    refine z_aload_n kd_G_clearBelow_74 5 rfl ?_
    refine z_get kd_G_clearBelow_75 (kf_G_16 _) h7 rfl ?_
    refine z_icmp_ge (tgt := 112) kd_G_clearBelow_78 (by decide) (fun c78 => ?_) (fun c78 => ?_)
    · exact hc σ h7 hG hF
    · exact absurd (nI_le (Nat.le_refl c) (by omega)) c78
  | succ m ih =>
    intro c σ M hcm h7 hG hF he
    have hlt : c < n := by omega
    refine z_iload kd_G_clearBelow_72 0 rfl ?_
    refine z_aload_n kd_G_clearBelow_74 5 rfl ?_
    refine z_get kd_G_clearBelow_75 (kf_G_16 _) h7 rfl ?_
    refine z_icmp_ge (tgt := 112) kd_G_clearBelow_78 (by decide) (fun c78 => ?_) (fun c78 => ?_)
    · exact absurd c78 (nI_ge hlt (by omega))
    · refine z_aload_n kd_G_clearBelow_81 5 rfl ?_
      refine z_get kd_G_clearBelow_82 (kf_G_11 _) h7 rfl ?_
      refine z_iload kd_G_clearBelow_85 2 rfl ?_
      refine z_gal kd_G_clearBelow_87 ht3 hG (by omega) ?_
      refine z_iload kd_G_clearBelow_88 0 rfl ?_
      refine z_dup2_11 kd_G_clearBelow_90 rfl rfl ?_
      refine z_gld kd_G_clearBelow_91 ht1 hG (by omega) (by omega) ?_
      refine z_lload kd_G_clearBelow_92 1 rfl ?_
      refine z_aload_n kd_G_clearBelow_94 5 rfl ?_
      refine z_get kd_G_clearBelow_95 (kf_G_11 _) h7 rfl ?_
      refine z_iload_n kd_G_clearBelow_98 6 rfl ?_
      refine z_gal kd_G_clearBelow_99 ht3 hG (by omega) ?_
      refine z_iload kd_G_clearBelow_100 0 rfl ?_
      refine z_gld kd_G_clearBelow_102 ht1 hG (by omega) (by omega) ?_
      refine z_lmul kd_G_clearBelow_103 ?_
      refine z_lsub kd_G_clearBelow_104 ?_
      refine z_gst kd_G_clearBelow_105 ht1 hG (by omega) (by omega) (fun σ1 g1 q1 => ?_)
      refine z_iinc (v := (nI (c + 1))) (lv' := [(8, .int _), (6, .long _), (5, .int _), (3, .long _), (2, .int _), (0, .ref (b + 7)), (1, .int _)]) kd_G_clearBelow_106 0 rfl (nI_1 _) (by decide) rfl ?_
      refine z_goto (tgt := 72) kd_G_clearBelow_109 (by decide) ?_
      exact ih (c + 1) _ _ (by omega) ((q1 7 (by omega)).trans h7) g1 (Fr.tr hF (q1.wide (by omega) (by omega))) he
set_option maxHeartbeats 4000000 in
set_option maxRecDepth 100000 in
theorem l_G_cbR {l : Launch} {D : va_G} {tys : List (ClassId × FieldType)} {b N : Nat} {σ0 : Nat → Option va_E} {cI cJ cA : ClassId} (ht0 : tys[0]? = some (cI, .int)) (ht1 : tys[1]? = some (cJ, .long)) (ht3 : tys[3]? = some (cA, .array .long)) {n x tw : Nat} {iv : Int64} (hn : n ≤ 10) (hx : x < n) {f : Nat → Option Nat} {r : Nat → Nat} {Mf : Nat → Nat → Int64} {Q : Outcome → Nat → (Nat → Option va_E) → Prop} (hQ : ∀ σ, σ 7 = some (.inr (3, [.int (nI n), .ref (b + 8)])) → GR b cA cJ σ f r Mf → Fr 7 18 σ0 σ → Q (.returned none) N σ) : ∀ (m row : Nat) (σ : Nat → Option va_E) (M : Nat → Nat → Int64), row + m = n → σ 7 = some (.inr (3, [.int (nI n), .ref (b + 8)])) → GR b cA cJ σ f r M → Fr 7 18 σ0 σ → cbR n x tw iv m row M = Mf → Z l D kCl tys (kh_G_clearBelow :: zT) kNw ky_G_clearBelow.cls ky_G_clearBelow.name kb_G_clearBelow 9 none { frames := 1, cells := 0, slots := 0, locals := 40 } b (zFi D kCl b 0 0 Q) 0 0 N (σ) 31 [(5, .int (nI row)), (3, .long iv), (2, .int (nI tw)), (0, .ref (b + 7)), (1, .int (nI x))] [] := by
  intro m
  induction m with
  | zero =>
    intro row σ M hr h7 hG hF he
    obtain rfl : row = n := by omega
    have he : M = Mf := he
    subst he
    refine z_iload kd_G_clearBelow_31 0 rfl ?_
    refine z_aload_n kd_G_clearBelow_33 3 rfl ?_
    refine z_get kd_G_clearBelow_34 (kf_G_16 _) h7 rfl ?_
    refine z_icmp_ge (tgt := 118) kd_G_clearBelow_37 (by decide) (fun c37 => ?_) (fun c37 => ?_)
    · exact z_vret kd_G_clearBelow_118 rfl (Nat.le_of_ble_eq_true rfl) (Nat.le_of_ble_eq_true rfl) (hQ σ h7 hG hF)
    · exact absurd (nI_le (Nat.le_refl row) (by omega)) c37
  | succ m ih =>
    intro row σ M hr h7 hG hF he
    have hlt : row < n := by omega
    unfold cbR at he
    refine z_iload kd_G_clearBelow_31 0 rfl ?_
    refine z_aload_n kd_G_clearBelow_33 3 rfl ?_
    refine z_get kd_G_clearBelow_34 (kf_G_16 _) h7 rfl ?_
    refine z_icmp_ge (tgt := 118) kd_G_clearBelow_37 (by decide) (fun c37 => ?_) (fun c37 => ?_)
    · exact absurd c37 (nI_ge hlt (by omega))
    · refine z_aload_n kd_G_clearBelow_40 3 rfl ?_
      refine z_get kd_G_clearBelow_41 (kf_G_11 _) h7 rfl ?_
      refine z_iload kd_G_clearBelow_44 0 rfl ?_
      refine z_gal kd_G_clearBelow_46 ht3 hG (by omega) ?_
      refine z_iload_n kd_G_clearBelow_47 4 rfl ?_
      refine z_gld kd_G_clearBelow_48 ht1 hG (by omega) (by omega) ?_
      refine z_lconst (v := 0) kd_G_clearBelow_49 (by decide +kernel) ?_
      refine z_lcmp kd_G_clearBelow_50 ?_
      refine z_if_eq (tgt := 112) kd_G_clearBelow_51 (by decide) (fun c51 => ?_) (fun c51 => ?_)
      · have h0 : M row x = 0 := (lg_cmp_0 _ _).mp c51
        rw [if_pos h0] at he
        refine z_iinc (v := (nI (row + 1))) (lv' := [(5, .int _), (3, .long _), (2, .int _), (0, .ref (b + 7)), (1, .int _)]) kd_G_clearBelow_112 0 rfl (nI_1 _) (by decide) rfl ?_
        refine z_goto (tgt := 31) kd_G_clearBelow_115 (by decide) ?_
        refine z_pick [0, 1, 2, 3, 4] rfl ?_
        exact ih (row + 1) _ _ (by omega) h7 hG hF he
      · have h0 : ¬ M row x = 0 := fun q => c51 ((lg_cmp_0 _ _).mpr q)
        rw [if_neg h0] at he
        refine z_aload_n kd_G_clearBelow_54 3 rfl ?_
        refine z_get kd_G_clearBelow_55 (kf_G_11 _) h7 rfl ?_
        refine z_iload kd_G_clearBelow_58 0 rfl ?_
        refine z_gal kd_G_clearBelow_60 ht3 hG (by omega) ?_
        refine z_iload_n kd_G_clearBelow_61 4 rfl ?_
        refine z_gld kd_G_clearBelow_62 ht1 hG (by omega) (by omega) ?_
        refine z_iload_n kd_G_clearBelow_63 2 rfl ?_
        refine z_lshr kd_G_clearBelow_64 ?_
        refine z_lload_n kd_G_clearBelow_65 1 rfl ?_
        refine z_lmul kd_G_clearBelow_66 ?_
        refine z_lstore (lv' := [(6, .long _), (5, .int _), (3, .long _), (2, .int _), (0, .ref (b + 7)), (1, .int _)]) kd_G_clearBelow_67 (by decide) rfl ?_
        refine z_iload_n kd_G_clearBelow_69 5 rfl ?_
        refine z_istore (lv' := [(8, .int _), (6, .long _), (5, .int _), (3, .long _), (2, .int _), (0, .ref (b + 7)), (1, .int _)]) kd_G_clearBelow_70 (by decide) rfl ?_
        refine l_G_cbC ht0 ht1 ht3 hn hx hlt (fun σ h7 hG hF => ?_) (n - x) x σ M (by omega) h7 hG hF rfl
        refine z_iinc (v := (nI (row + 1))) (lv' := [(5, .int _), (8, .int _), (6, .long _), (3, .long _), (2, .int _), (0, .ref (b + 7)), (1, .int _)]) kd_G_clearBelow_112 2 rfl (nI_1 _) (by decide) rfl ?_
        refine z_goto (tgt := 31) kd_G_clearBelow_115 (by decide) ?_
        refine z_pick [0, 3, 4, 5, 6] rfl ?_
        exact ih (row + 1) _ _ (by omega) h7 hG hF he
set_option maxHeartbeats 4000000 in
set_option maxRecDepth 100000 in
theorem c_G_clearBelow {l : Launch} {D : va_G} {tys : List (ClassId × FieldType)} {b N : Nat} {σ : Nat → Option va_E} {cI cJ cA : ClassId} (ht0 : tys[0]? = some (cI, .int)) (ht1 : tys[1]? = some (cJ, .long)) (ht3 : tys[3]? = some (cA, .array .long)) {n x : Nat} (hn : n ≤ 10) (hx : x < n) {M : Nat → Nat → Int64} (hS : GS b cA cJ σ (nI n) M) : zM l D kCl tys kNw b ky_G_clearBelow (kh_G_clearBelow :: zT) 1 40 0 0 [.ref (b + 7), .int (nI x)] N σ (fun oc N' σ' => oc = .returned none ∧ N' = N ∧ GS b cA cJ σ' (nI n) (cbN n x M) ∧ Fr 7 18 σ σ') := by
  refine zM.of (by decide +kernel) rfl (Nat.le_of_ble_eq_true rfl) ?_
  refine z_pick (lv' := [(0, .ref (b + 7)), (1, .int (nI x))]) [0, 1] rfl ?_
  obtain ⟨h7, f, r, hG⟩ := hS
  refine z_aload_n kd_G_clearBelow_0 0 rfl ?_
  refine z_get kd_G_clearBelow_1 (kf_G_11 _) h7 rfl ?_
  refine z_iload_n kd_G_clearBelow_4 1 rfl ?_
  refine z_gal kd_G_clearBelow_5 ht3 hG (by omega) ?_
  refine z_iload_n kd_G_clearBelow_6 1 rfl ?_
  refine z_gld kd_G_clearBelow_7 ht1 hG (by omega) (by omega) ?_
  refine z_S1 (As := [_]) kd_G_clearBelow_8 (kg_G_60 _) c_G_twos rfl rfl (Nat.le_of_ble_eq_true rfl) ⟨Nat.le_of_ble_eq_true rfl, Nat.le_of_ble_eq_true rfl⟩ ⟨Nat.le_of_ble_eq_true rfl, Nat.le_of_ble_eq_true rfl⟩ ?_
  refine z_istore_n (lv' := [(2, .int _), (0, .ref (b + 7)), (1, .int _)]) kd_G_clearBelow_11 (by decide) rfl ?_
  refine z_aload_n kd_G_clearBelow_12 1 rfl ?_
  refine z_get kd_G_clearBelow_13 (kf_G_11 _) h7 rfl ?_
  refine z_iload_n kd_G_clearBelow_16 2 rfl ?_
  refine z_gal kd_G_clearBelow_17 ht3 hG (by omega) ?_
  refine z_iload_n kd_G_clearBelow_18 2 rfl ?_
  refine z_gld kd_G_clearBelow_19 ht1 hG (by omega) (by omega) ?_
  refine z_iload_n kd_G_clearBelow_20 0 rfl ?_
  refine z_lshr kd_G_clearBelow_21 ?_
  refine z_S1 (As := [_]) kd_G_clearBelow_22 (kg_G_64 _) c_G_inverseOfOdd rfl rfl (Nat.le_of_ble_eq_true rfl) ⟨Nat.le_of_ble_eq_true rfl, Nat.le_of_ble_eq_true rfl⟩ ⟨Nat.le_of_ble_eq_true rfl, Nat.le_of_ble_eq_true rfl⟩ ?_
  refine z_lstore_n (lv' := [(3, .long _), (2, .int _), (0, .ref (b + 7)), (1, .int _)]) kd_G_clearBelow_25 (by decide) rfl ?_
  refine z_iload_n kd_G_clearBelow_26 3 rfl ?_
  refine z_iconst (v := 1) kd_G_clearBelow_27 (by decide) ?_
  refine z_iadd kd_G_clearBelow_28 ?_
  refine z_topi (nI_add x 1) ?_
  refine z_istore (lv' := [(5, .int _), (3, .long _), (2, .int _), (0, .ref (b + 7)), (1, .int _)]) kd_G_clearBelow_29 (by decide) rfl ?_
  exact l_G_cbR ht0 ht1 ht3 hn hx (fun σ' h7 hG hF => ⟨rfl, rfl, ⟨h7, f, r, hG⟩, hF⟩) (n - (x + 1)) (x + 1) _ M (by omega) h7 hG Fr.rf rfl
def dtS (n x : Nat) (M : Nat → Nat → Int64) : Nat → Nat → Int64 := if rlN M n x = x then M else swN (rlN M n x) x M
def dtL (n : Nat) : Nat → Nat → (Nat → Nat → Int64) → Int64 → Int64
  | 0, _, _, p => p
  | m + 1, x, M, p => if M (rlN M n x) x = 0 then 0 else dtL n m (x + 1) (cbN n x (dtS n x M)) ((if rlN M n x = x then p else -p) * dtS n x M x x)
def dtN (n : Nat) (M : Nat → Nat → Int64) : Int64 := dtL n n 0 M 1
set_option maxHeartbeats 4000000 in
set_option maxRecDepth 100000 in
theorem l_G_det {l : Launch} {D : va_G} {tys : List (ClassId × FieldType)} {b N : Nat} {σ0 : Nat → Option va_E} {cI cJ cA : ClassId} (ht0 : tys[0]? = some (cI, .int)) (ht1 : tys[1]? = some (cJ, .long)) (ht3 : tys[3]? = some (cA, .array .long)) {n : Nat} (hn : n ≤ 10) {v : Int64} : ∀ (m x : Nat) (σ : Nat → Option va_E) (M : Nat → Nat → Int64) (p : Int64), x + m = n → GS b cA cJ σ (nI n) M → Fr 7 18 σ0 σ → dtL n m x M p = v → Z l D kCl tys (kh_G_determinant :: zT) kNw ky_G_determinant.cls ky_G_determinant.name kb_G_determinant 5 (some FieldType.long) { frames := 2, cells := 0, slots := 0, locals := 90 } b (zFi D kCl b 0 0 (fun oc N' σ' => oc = .returned (some (.long v)) ∧ N' = N ∧ (∃ M', GS b cA cJ σ' (nI n) M') ∧ Fr 7 18 σ0 σ')) 0 0 N (σ) 4 [(3, .int (nI x)), (1, .long p), (0, .ref (b + 7))] [] := by
  intro m
  induction m with
  | zero =>
    intro x σ M p hxm hS hF he
    obtain rfl : x = n := by omega
    have he : p = v := he
    subst he
    refine z_iload_n kd_G_determinant_4 0 rfl ?_
    refine z_aload_n kd_G_determinant_5 2 rfl ?_
    refine z_get kd_G_determinant_6 (kf_G_16 _) hS.1 rfl ?_
    refine z_icmp_ge (tgt := 73) kd_G_determinant_9 (by decide) (fun c9 => ?_) (fun c9 => ?_)
    · refine z_lload_n kd_G_determinant_73 1 rfl ?_
      exact z_lret kd_G_determinant_74 rfl (Nat.le_of_ble_eq_true rfl) (Nat.le_of_ble_eq_true rfl) ⟨rfl, rfl, ⟨M, hS⟩, hF⟩
    · exact absurd (nI_le (Nat.le_refl x) (by omega)) c9
  | succ m ih =>
    intro x σ M p hxm hS hF he
    have hlt : x < n := by omega
    have hrl := rlN_lt (M := M) hlt
    unfold dtL at he
    obtain ⟨h7, f, r, hG⟩ := id hS
    refine z_iload_n kd_G_determinant_4 0 rfl ?_
    refine z_aload_n kd_G_determinant_5 2 rfl ?_
    refine z_get kd_G_determinant_6 (kf_G_16 _) h7 rfl ?_
    refine z_icmp_ge (tgt := 73) kd_G_determinant_9 (by decide) (fun c9 => ?_) (fun c9 => ?_)
    · exact absurd c9 (nI_ge hlt (by omega))
    · refine z_aload_n kd_G_determinant_12 2 rfl ?_
      refine z_iload_n kd_G_determinant_13 0 rfl ?_
      refine z_V1 (a := 7) (As := [_]) kd_G_determinant_14 (kg_G_49 _) h7 kc_G (c_G_rowWithLowestBit ht0 ht1 ht3 hn hlt hS) rfl rfl (Nat.le_of_ble_eq_true rfl) ⟨Nat.le_of_ble_eq_true rfl, Nat.le_of_ble_eq_true rfl⟩ ⟨Nat.le_of_ble_eq_true rfl, Nat.le_of_ble_eq_true rfl⟩ ?_
      refine z_istore (lv' := [(4, .int _), (3, .int _), (1, .long _), (0, .ref (b + 7))]) kd_G_determinant_17 (by decide) rfl ?_
      refine z_aload_n kd_G_determinant_19 3 rfl ?_
      refine z_get kd_G_determinant_20 (kf_G_11 _) h7 rfl ?_
      refine z_iload kd_G_determinant_23 0 rfl ?_
      refine z_gal kd_G_determinant_25 ht3 hG (by omega) ?_
      refine z_iload_n kd_G_determinant_26 1 rfl ?_
      refine z_gld kd_G_determinant_27 ht1 hG (by omega) (by omega) ?_
      refine z_lconst (v := 0) kd_G_determinant_28 (by decide +kernel) ?_
      refine z_lcmp kd_G_determinant_29 ?_
      refine z_if_ne (tgt := 35) kd_G_determinant_30 (by decide) (fun c30 => ?_) (fun c30 => ?_)
      · have h0 : ¬ M (rlN M n x) x = 0 := fun q => c30 ((lg_cmp_0 _ _).mpr q)
        rw [if_neg h0] at he
        refine z_iload kd_G_determinant_35 0 rfl ?_
        refine z_iload_n kd_G_determinant_37 1 rfl ?_
        refine z_icmp_eq (tgt := 51) kd_G_determinant_38 (by decide) (fun c38 => ?_) (fun c38 => ?_)
        · have h1 : rlN M n x = x := (nI_eq (by omega) (by omega)).mp c38
          simp only [dtS, if_pos h1] at he
          refine z_lload_n kd_G_determinant_51 2 rfl ?_
          refine z_aload_n kd_G_determinant_52 3 rfl ?_
          refine z_get kd_G_determinant_53 (kf_G_11 _) h7 rfl ?_
          refine z_iload_n kd_G_determinant_56 1 rfl ?_
          refine z_gal kd_G_determinant_57 ht3 hG (by omega) ?_
          refine z_iload_n kd_G_determinant_58 1 rfl ?_
          refine z_gld kd_G_determinant_59 ht1 hG (by omega) (by omega) ?_
          refine z_lmul kd_G_determinant_60 ?_
          refine z_lstore_n (lv' := [(1, .long _), (4, .int _), (3, .int _), (0, .ref (b + 7))]) kd_G_determinant_61 (by decide) rfl ?_
          refine z_aload_n kd_G_determinant_62 3 rfl ?_
          refine z_iload_n kd_G_determinant_63 2 rfl ?_
          refine z_callV (a := 7) (As := [_]) kd_G_determinant_64 (kg_G_57 _) h7 kc_G (c_G_clearBelow ht0 ht1 ht3 hn hlt hS) rfl rfl (Nat.le_of_ble_eq_true rfl) ⟨Nat.le_of_ble_eq_true rfl, Nat.le_of_ble_eq_true rfl⟩ ⟨Nat.le_of_ble_eq_true rfl, Nat.le_of_ble_eq_true rfl⟩ ?_
          rintro _ _ σ8 ⟨hv, rfl, hS8, q8⟩
          cases hv
          refine z_eq (st' := []) rfl rfl rfl rfl ?_
          refine z_iinc (v := (nI (x + 1))) (lv' := [(3, .int _), (1, .long _), (4, .int _), (0, .ref (b + 7))]) kd_G_determinant_67 2 rfl (nI_1 _) (by decide) rfl ?_
          refine z_goto (tgt := 4) kd_G_determinant_70 (by decide) ?_
          refine z_pick [0, 1, 3] rfl ?_
          exact ih (x + 1) _ _ _ (by omega) hS8 (Fr.tr hF q8) he
        · have h1 : ¬ rlN M n x = x := fun q => c38 ((nI_eq (by omega) (by omega)).mpr q)
          simp only [dtS, if_neg h1] at he
          refine z_aload_n kd_G_determinant_41 3 rfl ?_
          refine z_iload kd_G_determinant_42 0 rfl ?_
          refine z_iload_n kd_G_determinant_44 1 rfl ?_
          refine z_callV (a := 7) (As := [_, _]) kd_G_determinant_45 (kg_G_53 _) h7 kc_G (c_G_swapRows ht0 ht1 ht3 (by omega) (by omega) hS) rfl rfl (Nat.le_of_ble_eq_true rfl) ⟨Nat.le_of_ble_eq_true rfl, Nat.le_of_ble_eq_true rfl⟩ ⟨Nat.le_of_ble_eq_true rfl, Nat.le_of_ble_eq_true rfl⟩ ?_
          rintro _ _ σ9 ⟨hv, rfl, hS9, q9⟩
          cases hv
          refine z_eq (st' := []) rfl rfl rfl rfl ?_
          obtain ⟨h7b, f9, r9, g9⟩ := id hS9
          refine z_lload_n kd_G_determinant_48 2 rfl ?_
          refine z_lneg kd_G_determinant_49 ?_
          refine z_lstore_n (lv' := [(1, .long _), (4, .int _), (3, .int _), (0, .ref (b + 7))]) kd_G_determinant_50 (by decide) rfl ?_
          refine z_lload_n kd_G_determinant_51 0 rfl ?_
          refine z_aload_n kd_G_determinant_52 3 rfl ?_
          refine z_get kd_G_determinant_53 (kf_G_11 _) h7b rfl ?_
          refine z_iload_n kd_G_determinant_56 2 rfl ?_
          refine z_gal kd_G_determinant_57 ht3 g9 (by omega) ?_
          refine z_iload_n kd_G_determinant_58 2 rfl ?_
          refine z_gld kd_G_determinant_59 ht1 g9 (by omega) (by omega) ?_
          refine z_lmul kd_G_determinant_60 ?_
          refine z_lstore_n (lv' := [(1, .long _), (4, .int _), (3, .int _), (0, .ref (b + 7))]) kd_G_determinant_61 (by decide) rfl ?_
          refine z_aload_n kd_G_determinant_62 3 rfl ?_
          refine z_iload_n kd_G_determinant_63 2 rfl ?_
          refine z_callV (a := 7) (As := [_]) kd_G_determinant_64 (kg_G_57 _) h7b kc_G (c_G_clearBelow ht0 ht1 ht3 hn hlt hS9) rfl rfl (Nat.le_of_ble_eq_true rfl) ⟨Nat.le_of_ble_eq_true rfl, Nat.le_of_ble_eq_true rfl⟩ ⟨Nat.le_of_ble_eq_true rfl, Nat.le_of_ble_eq_true rfl⟩ ?_
          rintro _ _ σ8 ⟨hv, rfl, hS8, q8⟩
          cases hv
          refine z_eq (st' := []) rfl rfl rfl rfl ?_
          refine z_iinc (v := (nI (x + 1))) (lv' := [(3, .int _), (1, .long _), (4, .int _), (0, .ref (b + 7))]) kd_G_determinant_67 2 rfl (nI_1 _) (by decide) rfl ?_
          refine z_goto (tgt := 4) kd_G_determinant_70 (by decide) ?_
          refine z_pick [0, 1, 3] rfl ?_
          exact ih (x + 1) _ _ _ (by omega) hS8 (Fr.tr (Fr.tr hF q9) q8) he
      · have h0 : M (rlN M n x) x = 0 := (lg_cmp_0 _ _).mp c30
        rw [if_pos h0] at he
        refine z_lconst (v := 0) kd_G_determinant_33 (by decide +kernel) ?_
        exact z_lret kd_G_determinant_34 rfl (Nat.le_of_ble_eq_true rfl) (Nat.le_of_ble_eq_true rfl) ⟨by rw [he], rfl, ⟨M, hS⟩, hF⟩
set_option maxHeartbeats 4000000 in
set_option maxRecDepth 100000 in
theorem c_G_determinant {l : Launch} {D : va_G} {tys : List (ClassId × FieldType)} {b N : Nat} {σ : Nat → Option va_E} {cI cJ cA : ClassId} (ht0 : tys[0]? = some (cI, .int)) (ht1 : tys[1]? = some (cJ, .long)) (ht3 : tys[3]? = some (cA, .array .long)) {n : Nat} (hn : n ≤ 10) {M : Nat → Nat → Int64} (hS : GS b cA cJ σ (nI n) M) : zM l D kCl tys kNw b ky_G_determinant (kh_G_determinant :: zT) 2 90 0 0 [.ref (b + 7)] N σ (fun oc N' σ' => oc = .returned (some (.long (dtN n M))) ∧ N' = N ∧ (∃ M', GS b cA cJ σ' (nI n) M') ∧ Fr 7 18 σ σ') := by
  refine zM.of (by decide +kernel) rfl (Nat.le_of_ble_eq_true rfl) ?_
  refine z_pick (lv' := [(0, .ref (b + 7))]) [0] rfl ?_
  refine z_lconst (v := 1) kd_G_determinant_0 (by decide +kernel) ?_
  refine z_lstore_n (lv' := [(1, .long _), (0, .ref (b + 7))]) kd_G_determinant_1 (by decide) rfl ?_
  refine z_iconst (v := 0) kd_G_determinant_2 (by decide) ?_
  refine z_istore_n (lv' := [(3, .int _), (1, .long _), (0, .ref (b + 7))]) kd_G_determinant_3 (by decide) rfl ?_
  exact l_G_det ht0 ht1 ht3 hn n 0 σ M 1 (by omega) hS Fr.rf rfl
