def LR (s : Nat) (g R : Nat → Int32) : Prop := ∀ j, j < s → g j = R j
theorem LR.set {s : Nat} {g R : Nat → Int32} {x : Int32} (h : LR s g R) : LR (s + 1) (upd g s x) (upd R s x) := by
  intro j hj
  by_cases e : j = s
  · subst e; simp [upd]
  · have := h j (by omega)
    simp [upd, e, this]
theorem PH.q {c n y : Nat} {g : Nat → Int32} {Q : Nat → Nat} (h : PH c n g Q) (hy : y < n) : PH (c + 1) n (upd g c (nI y)) (updN Q c y) := by
  intro j hj
  by_cases e : j = c
  · subst e; simp [upd, updN, hy]
  · have := h j (by omega)
    simp [upd, updN, e, this]
theorem BX.s1 {n y : Nat} {g : Nat → Int32} {S : Nat → Bool} (h : BX n g S) : BX n (upd g y 1) (bset S y) := h.set
set_option maxHeartbeats 4000000 in
set_option maxRecDepth 100000 in
theorem l_M_rgE {l : Launch} {D : va_G} {tys : List (ClassId × FieldType)} {b N : Nat} {σ : Nat → Option va_E} {cI cJ cA : ClassId} (ht0 : tys[0]? = some (cI, .int)) (ht1 : tys[1]? = some (cJ, .long)) (ht3 : tys[3]? = some (cA, .array .long)) {cZ : ClassId} (ht2 : tys[2]? = some (cZ, .boolean)) {th fa ls rm : Value} {n a : Nat} {gf gt gw : Nat → Int32} {F T : Nat → Nat} (hM : MN b cI σ th fa ls rm n a gf gt gw F T) {g6 : Nat → Int32} {X : Nat → Bool} (h66 : σ 66 = some (.inl (cZ, 30, .inl g6))) (hX : BX a g6 X) {x : Int32} {Q : Outcome → Nat → (Nat → Option va_E) → Prop} {e0 : Nat} (kk : Z l D kCl tys (kh_M_ringOf :: zT) kNw ky_M_ringOf.cls ky_M_ringOf.name kb_M_ringOf 8 none { frames := 1, cells := 0, slots := 0, locals := 40 } b (zFi D kCl b 0 0 Q) 0 0 N (σ) 40 [(3, .int (nI e0)), (0, .ref (b + 54)), (1, .int x)] []) : ∀ (m e l0 : Nat), e + m = a → l0 < 2 ^ 31 → rgE X m e l0 = some e0 → Z l D kCl tys (kh_M_ringOf :: zT) kNw ky_M_ringOf.cls ky_M_ringOf.name kb_M_ringOf 8 none { frames := 1, cells := 0, slots := 0, locals := 40 } b (zFi D kCl b 0 0 Q) 0 0 N (σ) 4 [(3, .int (nI e)), (2, .int (nI l0)), (0, .ref (b + 54)), (1, .int x)] [] := by
  have ha := hM.ha
  intro m
  induction m with
  | zero => intro e l0 _ _ hv; cases hv
  | succ m ih =>
    intro e l0 he hl hv
    have hlt : e < a := by omega
    unfold rgE at hv
    refine z_aload_n kd_M_ringOf_4 2 rfl ?_
    refine z_get kd_M_ringOf_5 (kf_M_45 _) hM.h1 rfl ?_
    refine z_iload_n kd_M_ringOf_8 0 rfl ?_
    refine z_zaldN (t0 := 2) kd_M_ringOf_9 (by assumption) h66 (by omega) (by decide) ?_
    refine z_topi (hX e hlt) ?_
    refine z_if_ne (tgt := 17) kd_M_ringOf_10 (by decide) (fun c10 => ?_) (fun c10 => ?_)
    · have hxe : X e = true := zB_t c10
      rw [if_pos (Or.inl hxe), if_pos hxe] at hv
      refine z_iload_n kd_M_ringOf_17 1 rfl ?_
      refine z_aload_n kd_M_ringOf_18 2 rfl ?_
      refine z_get kd_M_ringOf_19 (kf_M_45 _) hM.h1 rfl ?_
      refine z_iload_n kd_M_ringOf_22 0 rfl ?_
      refine z_zaldN (t0 := 2) kd_M_ringOf_23 (by assumption) h66 (by omega) (by decide) ?_
      refine z_topi (hX e hlt) ?_
      refine z_if_eq (tgt := 31) kd_M_ringOf_24 (by decide) (fun c24 => ?_) (fun c24 => ?_)
      · exact absurd hxe (by rw [zB_f c24]; decide)
      · refine z_iconst (v := 0) kd_M_ringOf_27 (by decide) ?_
        refine z_goto (tgt := 32) kd_M_ringOf_28 (by decide) ?_
        refine z_isub kd_M_ringOf_32 ?_
        refine z_topi (pk_sub (a := l0) (b := 0) (by omega)) ?_
        refine z_istore_n (lv' := [(2, .int _), (3, .int _), (0, .ref (b + 54)), (1, .int _)]) kd_M_ringOf_33 (by decide) rfl ?_
        refine z_iinc (v := (nI (e + 1))) (lv' := [(3, .int _), (2, .int _), (0, .ref (b + 54)), (1, .int _)]) kd_M_ringOf_34 1 rfl (nI_1 _) (by decide) rfl ?_
        refine z_goto (tgt := 4) kd_M_ringOf_37 (by decide) ?_
        refine z_pick (lv' := [(3, .int (nI (e + 1))), (2, .int (nI (l0 - 0))), (0, .ref (b + 54)), (1, .int x)]) [0, 1, 2, 3] rfl ?_
        exact ih (e + 1) _ (by omega) (by omega) hv
    · have hxe : X e = false := zB_f c10
      refine z_iload_n kd_M_ringOf_13 1 rfl ?_
      refine z_if_le (tgt := 40) kd_M_ringOf_14 (by decide) (fun c14 => ?_) (fun c14 => ?_)
      · have hl0 : l0 = 0 := by
          rcases Nat.eq_zero_or_pos l0 with z | z
          · exact z
          · exact absurd c14 (nI_nle z hl)
        rw [if_neg (fun z => by rcases z with z | z; rw [hxe] at z; cases z; omega)] at hv
        cases hv
        refine z_pick (lv' := [(3, .int (nI e0)), (0, .ref (b + 54)), (1, .int x)]) [0, 2, 3] rfl ?_
        exact kk
      · have hl0 : 0 < l0 := by
          rcases Nat.eq_zero_or_pos l0 with z | z
          · exact absurd (by rw [z]; decide) c14
          · exact z
        rw [if_pos (Or.inr hl0), if_neg (by rw [hxe]; decide)] at hv
        refine z_iload_n kd_M_ringOf_17 1 rfl ?_
        refine z_aload_n kd_M_ringOf_18 2 rfl ?_
        refine z_get kd_M_ringOf_19 (kf_M_45 _) hM.h1 rfl ?_
        refine z_iload_n kd_M_ringOf_22 0 rfl ?_
        refine z_zaldN (t0 := 2) kd_M_ringOf_23 (by assumption) h66 (by omega) (by decide) ?_
        refine z_topi (hX e hlt) ?_
        refine z_if_eq (tgt := 31) kd_M_ringOf_24 (by decide) (fun c24 => ?_) (fun c24 => ?_)
        · refine z_iconst (v := 1) kd_M_ringOf_31 (by decide) ?_
          refine z_isub kd_M_ringOf_32 ?_
          refine z_topi (pk_sub (a := l0) (b := 1) (by omega)) ?_
          refine z_istore_n (lv' := [(2, .int _), (3, .int _), (0, .ref (b + 54)), (1, .int _)]) kd_M_ringOf_33 (by decide) rfl ?_
          refine z_iinc (v := (nI (e + 1))) (lv' := [(3, .int _), (2, .int _), (0, .ref (b + 54)), (1, .int _)]) kd_M_ringOf_34 1 rfl (nI_1 _) (by decide) rfl ?_
          refine z_goto (tgt := 4) kd_M_ringOf_37 (by decide) ?_
          refine z_pick (lv' := [(3, .int (nI (e + 1))), (2, .int (nI (l0 - 1))), (0, .ref (b + 54)), (1, .int x)]) [0, 1, 2, 3] rfl ?_
          exact ih (e + 1) _ (by omega) (by omega) hv
        · exact absurd hxe (by rw [zB_t c24]; decide)
theorem BX.sn {i g0 : Nat} {g : Nat → Int32} {x : Int32} (h : BX i g (fun v => decide (v = g0))) (hx : x = zB (decide (i = g0))) : BX (i + 1) (upd g i x) (fun v => decide (v = g0)) := by
  intro j hj
  by_cases e : j = i
  · subst e; simp [upd, hx]
  · have := h j (by omega)
    simp [upd, e, this]
set_option maxHeartbeats 4000000 in
set_option maxRecDepth 100000 in
theorem l_M_seen {l : Launch} {D : va_G} {tys : List (ClassId × FieldType)} {b N : Nat} {σ0 : Nat → Option va_E} {cI cJ cA : ClassId} (ht0 : tys[0]? = some (cI, .int)) (ht1 : tys[1]? = some (cJ, .long)) (ht3 : tys[3]? = some (cA, .array .long)) {cZ : ClassId} (ht2 : tys[2]? = some (cZ, .boolean)) {th fa ls rm : Value} {n a : Nat} {gf gt gw : Nat → Int32} {F T : Nat → Nat} {e : Nat} (he : e < a) {x : Int32} {Q : Outcome → Nat → (Nat → Option va_E) → Prop} (kk : ∀ (σ : Nat → Option va_E) (g : Nat → Int32), MN b cI σ th fa ls rm n a gf gt gw F T → σ 69 = some (.inl (cZ, 10, .inl g)) → BX n g (fun v => decide (v = F e)) → Fr 69 69 σ0 σ → Z l D kCl tys (kh_M_ringOf :: zT) kNw ky_M_ringOf.cls ky_M_ringOf.name kb_M_ringOf 8 none { frames := 1, cells := 0, slots := 0, locals := 40 } b (zFi D kCl b 0 0 Q) 0 0 N (σ) 93 [(3, .int (nI e)), (0, .ref (b + 54)), (1, .int x)] []) : ∀ (m i : Nat) (σ : Nat → Option va_E) (g : Nat → Int32), i + m = n → MN b cI σ th fa ls rm n a gf gt gw F T → σ 69 = some (.inl (cZ, 10, .inl g)) → BX i g (fun v => decide (v = F e)) → Fr 69 69 σ0 σ → Z l D kCl tys (kh_M_ringOf :: zT) kNw ky_M_ringOf.cls ky_M_ringOf.name kb_M_ringOf 8 none { frames := 1, cells := 0, slots := 0, locals := 40 } b (zFi D kCl b 0 0 Q) 0 0 N (σ) 55 [(4, .int (nI i)), (3, .int (nI e)), (0, .ref (b + 54)), (1, .int x)] [] := by
  intro m
  induction m with
  | zero =>
    intro i σ g hi hM h69 hS hF
    obtain rfl : i = n := by omega
    have hn := hM.hn
    refine z_iload kd_M_ringOf_55 0 rfl ?_
    refine z_aload_n kd_M_ringOf_57 2 rfl ?_
    refine z_get kd_M_ringOf_58 (kf_M_73 _) hM.h1 rfl ?_
    refine z_icmp_ge (tgt := 93) kd_M_ringOf_61 (by decide) (fun c61 => ?_) (fun c61 => ?_)
    · refine z_pick (lv' := [(3, .int (nI e)), (0, .ref (b + 54)), (1, .int x)]) [1, 2, 3] rfl ?_
      exact kk σ g hM h69 hS hF
    · exact absurd (nI_le (Nat.le_refl i) (by omega)) c61
  | succ m ih =>
    intro i σ g hi hM h69 hS hF
    have hlt : i < n := by omega
    have hn := hM.hn
    have ha := hM.ha
    obtain ⟨kf, kfn, kt, ktn⟩ := hM.hft e he
    refine z_iload kd_M_ringOf_55 0 rfl ?_
    refine z_aload_n kd_M_ringOf_57 2 rfl ?_
    refine z_get kd_M_ringOf_58 (kf_M_73 _) hM.h1 rfl ?_
    refine z_icmp_ge (tgt := 93) kd_M_ringOf_61 (by decide) (fun c61 => ?_) (fun c61 => ?_)
    · exact absurd c61 (nI_ge hlt (by omega))
    · refine z_aload_n kd_M_ringOf_64 2 rfl ?_
      refine z_get kd_M_ringOf_65 (kf_M_54 _) hM.h1 rfl ?_
      refine z_iload kd_M_ringOf_68 0 rfl ?_
      refine z_iload kd_M_ringOf_70 0 rfl ?_
      refine z_aload_n kd_M_ringOf_72 2 rfl ?_
      refine z_get kd_M_ringOf_73 (kf_M_7 _) hM.h1 rfl ?_
      refine z_iload_n kd_M_ringOf_76 1 rfl ?_
      refine z_ialdN (t0 := 0) kd_M_ringOf_77 (by assumption) hM.h2 (by omega) (by decide) ?_
      refine z_topi kf ?_
      refine z_icmp_ne (tgt := 85) kd_M_ringOf_78 (by decide) (fun c78 => ?_) (fun c78 => ?_)
      · have hx0 : (0 : Int32) = zB (decide (i = F e)) := (zBf (fun z => c78 (by rw [z]))).symm
        refine z_iconst (v := 0) kd_M_ringOf_85 (by decide) ?_
        refine z_zastN (t0 := 2) kd_M_ringOf_86 (by assumption) h69 (by omega) (by decide) rfl ?_
        refine z_upd (fun σ_1 x69_1 q_1 => ?_)
        have hM_1 := hM.fr q_1 (by omega)
        refine z_iinc (v := (nI (i + 1))) (lv' := [(4, .int _), (3, .int _), (0, .ref (b + 54)), (1, .int _)]) kd_M_ringOf_87 0 rfl (nI_1 _) (by decide) rfl ?_
        refine z_goto (tgt := 55) kd_M_ringOf_90 (by decide) ?_
        refine z_pick (lv' := [(4, .int (nI (i + 1))), (3, .int (nI e)), (0, .ref (b + 54)), (1, .int x)]) [0, 1, 2, 3] rfl ?_
        exact ih (i + 1) _ _ (by omega) hM_1 x69_1 (BX.sn hS hx0) (Fr.tr hF (q_1.wide (by omega) (by omega)))
      · have hx0 : (1 : Int32) = zB (decide (i = F e)) := (zBt ((nI_eq (by omega) (by omega)).mp c78)).symm
        refine z_iconst (v := 1) kd_M_ringOf_81 (by decide) ?_
        refine z_goto (tgt := 86) kd_M_ringOf_82 (by decide) ?_
        refine z_zastN (t0 := 2) kd_M_ringOf_86 (by assumption) h69 (by omega) (by decide) rfl ?_
        refine z_upd (fun σ_2 x69_2 q_2 => ?_)
        have hM_2 := hM.fr q_2 (by omega)
        refine z_iinc (v := (nI (i + 1))) (lv' := [(4, .int _), (3, .int _), (0, .ref (b + 54)), (1, .int _)]) kd_M_ringOf_87 0 rfl (nI_1 _) (by decide) rfl ?_
        refine z_goto (tgt := 55) kd_M_ringOf_90 (by decide) ?_
        refine z_pick (lv' := [(4, .int (nI (i + 1))), (3, .int (nI e)), (0, .ref (b + 54)), (1, .int x)]) [0, 1, 2, 3] rfl ?_
        exact ih (i + 1) _ _ (by omega) hM_2 x69_2 (BX.sn hS hx0) (Fr.tr hF (q_2.wide (by omega) (by omega)))
set_option maxHeartbeats 4000000 in
set_option maxRecDepth 100000 in
theorem l_M_bfi {l : Launch} {D : va_G} {tys : List (ClassId × FieldType)} {b N : Nat} {σ0 : Nat → Option va_E} {cI cJ cA : ClassId} (ht0 : tys[0]? = some (cI, .int)) (ht1 : tys[1]? = some (cJ, .long)) (ht3 : tys[3]? = some (cA, .array .long)) {cZ : ClassId} (ht2 : tys[2]? = some (cZ, .boolean)) {th fa ls rm : Value} {n a : Nat} {gf gt gw : Nat → Int32} {F T : Nat → Nat} {g6 : Nat → Int32} {X : Nat → Bool} (hX : BX a g6 X) {e : Nat} {x : Int32} {i q : Nat} (hqn : q < n) {Q : Outcome → Nat → (Nat → Option va_E) → Prop} {val : (Nat → Bool) × (Nat → Option Nat) × (Nat → Nat) × Nat} (kk : ∀ (σ : Nat → Option va_E) (g8 g9 g0 : Nat → Int32), MN b cI σ th fa ls rm n a gf gt gw F T → σ 66 = some (.inl (cZ, 30, .inl g6)) → σ 68 = some (.inl (cI, 10, .inl g8)) → WB a g8 (val.2.1) → σ 69 = some (.inl (cZ, 10, .inl g9)) → BX n g9 (val.1) → σ 70 = some (.inl (cI, 10, .inl g0)) → PH (val.2.2.2) n g0 (val.2.2.1) → val.2.2.2 = rkN (val.1) n → Fr 68 70 σ0 σ → Z l D kCl tys (kh_M_ringOf :: zT) kNw ky_M_ringOf.cls ky_M_ringOf.name kb_M_ringOf 8 none { frames := 1, cells := 0, slots := 0, locals := 40 } b (zFi D kCl b 0 0 Q) 0 0 N (σ) 111 [(5, .int (nI (i + 1))), (4, .int (nI val.2.2.2)), (3, .int (nI e)), (0, .ref (b + 54)), (1, .int x)] []) : ∀ (m k : Nat) (σ : Nat → Option va_E) (g8 g9 g0 : Nat → Int32) (S : Nat → Bool) (B : Nat → Option Nat) (Qu : Nat → Nat) (c : Nat), k + m = a → i < c → Qu i = q → MN b cI σ th fa ls rm n a gf gt gw F T → σ 66 = some (.inl (cZ, 30, .inl g6)) → σ 68 = some (.inl (cI, 10, .inl g8)) → WB a g8 (B) → σ 69 = some (.inl (cZ, 10, .inl g9)) → BX n g9 (S) → σ 70 = some (.inl (cI, 10, .inl g0)) → PH (c) n g0 (Qu) → c = rkN (S) n → Fr 68 70 σ0 σ → bfI F T X q m k S B Qu c = val → Z l D kCl tys (kh_M_ringOf :: zT) kNw ky_M_ringOf.cls ky_M_ringOf.name kb_M_ringOf 8 none { frames := 1, cells := 0, slots := 0, locals := 40 } b (zFi D kCl b 0 0 Q) 0 0 N (σ) 121 [(6, .int (nI k)), (5, .int (nI i)), (4, .int (nI c)), (3, .int (nI e)), (0, .ref (b + 54)), (1, .int x)] [] := by
  intro m
  induction m with
  | zero =>
    intro k σ g8 g9 g0 S B Qu c hk hic hqi hM h66 h68 hB h69 hS h70 hQu hc hF hv
    obtain rfl : k = a := by omega
    have ha := hM.ha
    have hv : (S, B, Qu, c) = val := hv
    subst hv
    refine z_iload kd_M_ringOf_121 0 rfl ?_
    refine z_aload_n kd_M_ringOf_123 4 rfl ?_
    refine z_get kd_M_ringOf_124 (kf_M_80 _) hM.h1 rfl ?_
    refine z_icmp_ge (tgt := 255) kd_M_ringOf_127 (by decide) (fun c127 => ?_) (fun c127 => ?_)
    · refine z_iinc (v := (nI (i + 1))) (lv' := [(5, .int _), (6, .int _), (4, .int _), (3, .int _), (0, .ref (b + 54)), (1, .int _)]) kd_M_ringOf_255 1 rfl (nI_1 _) (by decide) rfl ?_
      refine z_goto (tgt := 111) kd_M_ringOf_258 (by decide) ?_
      refine z_pick (lv' := [(5, .int (nI (i + 1))), (4, .int (nI c)), (3, .int (nI e)), (0, .ref (b + 54)), (1, .int x)]) [0, 2, 3, 4, 5] rfl ?_
      exact kk _ _ _ _ hM h66 h68 hB h69 hS h70 hQu hc hF
    · exact absurd (nI_le (Nat.le_refl k) (by omega)) c127
  | succ m ih =>
    intro k σ g8 g9 g0 S B Qu c hk hic hqi hM h66 h68 hB h69 hS h70 hQu hc hF hv
    have hlt : k < a := by omega
    have hn := hM.hn
    have ha := hM.ha
    obtain ⟨kf, kfn, kt, ktn⟩ := hM.hft k hlt
    have hcn : c ≤ n := by rw [hc]; exact rkN_le _ _
    have hqr : g0 i = nI q := by rw [(hQu i hic).1, hqi]
    unfold bfI at hv
    refine z_iload kd_M_ringOf_121 0 rfl ?_
    refine z_aload_n kd_M_ringOf_123 4 rfl ?_
    refine z_get kd_M_ringOf_124 (kf_M_80 _) hM.h1 rfl ?_
    refine z_icmp_ge (tgt := 255) kd_M_ringOf_127 (by decide) (fun c127 => ?_) (fun c127 => ?_)
    · exact absurd c127 (nI_ge hlt (by omega))
    · refine z_aload_n kd_M_ringOf_130 4 rfl ?_
      refine z_get kd_M_ringOf_131 (kf_M_45 _) hM.h1 rfl ?_
      refine z_iload kd_M_ringOf_134 0 rfl ?_
      refine z_zaldN (t0 := 2) kd_M_ringOf_136 (by assumption) h66 (by omega) (by decide) ?_
      refine z_topi (hX k hlt) ?_
      refine z_if_eq (tgt := 249) kd_M_ringOf_137 (by decide) (fun c137 => ?_) (fun c137 => ?_)
      · rw [if_neg (fun z => by rw [zB_f c137] at z; exact absurd z.1 (by decide))] at hv
        refine z_iinc (v := (nI (k + 1))) (lv' := [(6, .int _), (5, .int _), (4, .int _), (3, .int _), (0, .ref (b + 54)), (1, .int _)]) kd_M_ringOf_249 0 rfl (nI_1 _) (by decide) rfl ?_
        refine z_goto (tgt := 121) kd_M_ringOf_252 (by decide) ?_
        refine z_pick (lv' := [(6, .int (nI (k + 1))), (5, .int (nI i)), (4, .int (nI c)), (3, .int (nI e)), (0, .ref (b + 54)), (1, .int x)]) [0, 1, 2, 3, 4, 5] rfl ?_
        exact ih (k + 1) _ _ _ _ _ _ _ _ (by omega) hic hqi hM h66 h68 hB h69 hS h70 hQu hc hF hv
      · have hxk : X k = true := zB_t c137
        refine z_aload_n kd_M_ringOf_140 4 rfl ?_
        refine z_get kd_M_ringOf_141 (kf_M_7 _) hM.h1 rfl ?_
        refine z_iload kd_M_ringOf_144 0 rfl ?_
        refine z_ialdN (t0 := 0) kd_M_ringOf_146 (by assumption) hM.h2 (by omega) (by decide) ?_
        refine z_topi kf ?_
        refine z_aload_n kd_M_ringOf_147 4 rfl ?_
        refine z_get kd_M_ringOf_148 (kf_M_57 _) hM.h1 rfl ?_
        refine z_iload kd_M_ringOf_151 1 rfl ?_
        refine z_ialdN (t0 := 0) kd_M_ringOf_153 (by assumption) h70 (by omega) (by decide) ?_
        refine z_topi hqr ?_
        refine z_icmp_eq (tgt := 174) kd_M_ringOf_154 (by decide) (fun c154 => ?_) (fun c154 => ?_)
        · have q1 : F k = q := (nI_eq (by omega) (by omega)).mp c154
          have qq : F k = q ∨ T k = q := Or.inl q1
          refine z_aload_n kd_M_ringOf_174 4 rfl ?_
          refine z_get kd_M_ringOf_175 (kf_M_7 _) hM.h1 rfl ?_
          refine z_iload kd_M_ringOf_178 0 rfl ?_
          refine z_ialdN (t0 := 0) kd_M_ringOf_180 (by assumption) hM.h2 (by omega) (by decide) ?_
          refine z_topi kf ?_
          refine z_aload_n kd_M_ringOf_181 4 rfl ?_
          refine z_get kd_M_ringOf_182 (kf_M_57 _) hM.h1 rfl ?_
          refine z_iload kd_M_ringOf_185 1 rfl ?_
          refine z_ialdN (t0 := 0) kd_M_ringOf_187 (by assumption) h70 (by omega) (by decide) ?_
          refine z_topi hqr ?_
          refine z_icmp_ne (tgt := 201) kd_M_ringOf_188 (by decide) (fun c188 => ?_) (fun c188 => ?_)
          · have q4 : ¬ F k = q := fun z => c188 (by rw [z])
            rw [if_neg q4] at hv
            refine z_aload_n kd_M_ringOf_201 4 rfl ?_
            refine z_get kd_M_ringOf_202 (kf_M_7 _) hM.h1 rfl ?_
            refine z_iload kd_M_ringOf_205 0 rfl ?_
            refine z_ialdN (t0 := 0) kd_M_ringOf_207 (by assumption) hM.h2 (by omega) (by decide) ?_
            refine z_topi kf ?_
            refine z_istore (lv' := [(7, .int _), (6, .int _), (5, .int _), (4, .int _), (3, .int _), (0, .ref (b + 54)), (1, .int _)]) kd_M_ringOf_208 (by decide) rfl ?_
            refine z_aload_n kd_M_ringOf_210 5 rfl ?_
            refine z_get kd_M_ringOf_211 (kf_M_54 _) hM.h1 rfl ?_
            refine z_iload kd_M_ringOf_214 0 rfl ?_
            refine z_zaldN (t0 := 2) kd_M_ringOf_216 (by assumption) h69 (by omega) (by decide) ?_
            refine z_topi (hS (F k) kfn) ?_
            refine z_if_ne (tgt := 249) kd_M_ringOf_217 (by decide) (fun c217 => ?_) (fun c217 => ?_)
            · rw [if_neg (fun z => by rw [zB_t c217] at z; exact absurd z.2.2 (by decide))] at hv
              refine z_iinc (v := (nI (k + 1))) (lv' := [(6, .int _), (7, .int _), (5, .int _), (4, .int _), (3, .int _), (0, .ref (b + 54)), (1, .int _)]) kd_M_ringOf_249 1 rfl (nI_1 _) (by decide) rfl ?_
              refine z_goto (tgt := 121) kd_M_ringOf_252 (by decide) ?_
              refine z_pick (lv' := [(6, .int (nI (k + 1))), (5, .int (nI i)), (4, .int (nI c)), (3, .int (nI e)), (0, .ref (b + 54)), (1, .int x)]) [0, 2, 3, 4, 5, 6] rfl ?_
              exact ih (k + 1) _ _ _ _ _ _ _ _ (by omega) hic hqi hM h66 h68 hB h69 hS h70 hQu hc hF hv
            · have hsy := zB_f c217
              rw [if_pos ⟨hxk, qq, hsy⟩] at hv
              obtain ⟨n1, n2⟩ := rkN_nt hsy n kfn
              refine z_aload_n kd_M_ringOf_220 5 rfl ?_
              refine z_get kd_M_ringOf_221 (kf_M_54 _) hM.h1 rfl ?_
              refine z_iload kd_M_ringOf_224 0 rfl ?_
              refine z_iconst (v := 1) kd_M_ringOf_226 (by decide) ?_
              refine z_zastN (t0 := 2) kd_M_ringOf_227 (by assumption) h69 (by omega) (by decide) rfl ?_
              refine z_upd (fun σ_1 x69_1 q_1 => ?_)
              have x66_1 := (q_1 66 (by omega)).trans h66
              have x68_1 := (q_1 68 (by omega)).trans h68
              have x70_1 := (q_1 70 (by omega)).trans h70
              have hM_1 := hM.fr q_1 (by omega)
              refine z_aload_n kd_M_ringOf_228 5 rfl ?_
              refine z_get kd_M_ringOf_229 (kf_M_51 _) hM_1.h1 rfl ?_
              refine z_iload kd_M_ringOf_232 0 rfl ?_
              refine z_iload kd_M_ringOf_234 1 rfl ?_
              refine z_iastN (t0 := 0) kd_M_ringOf_236 (by assumption) x68_1 (by omega) (by decide) ?_
              refine z_upd (fun σ_2 x68_2 q_2 => ?_)
              have x66_2 := (q_2 66 (by omega)).trans x66_1
              have x69_2 := (q_2 69 (by omega)).trans x69_1
              have x70_2 := (q_2 70 (by omega)).trans x70_1
              have hM_2 := hM_1.fr q_2 (by omega)
              refine z_aload_n kd_M_ringOf_237 5 rfl ?_
              refine z_get kd_M_ringOf_238 (kf_M_57 _) hM_2.h1 rfl ?_
              refine z_iload kd_M_ringOf_241 3 rfl ?_
              refine z_iload kd_M_ringOf_243 0 rfl ?_
              refine z_iastN (t0 := 0) kd_M_ringOf_245 (by assumption) x70_2 (by omega) (by decide) ?_
              refine z_upd (fun σ_3 x70_3 q_3 => ?_)
              have x66_3 := (q_3 66 (by omega)).trans x66_2
              have x68_3 := (q_3 68 (by omega)).trans x68_2
              have x69_3 := (q_3 69 (by omega)).trans x69_2
              have hM_3 := hM_2.fr q_3 (by omega)
              refine z_iinc (v := (nI (c + 1))) (lv' := [(4, .int _), (7, .int _), (6, .int _), (5, .int _), (3, .int _), (0, .ref (b + 54)), (1, .int _)]) kd_M_ringOf_246 3 rfl (nI_1 _) (by decide) rfl ?_
              refine z_iinc (v := (nI (k + 1))) (lv' := [(6, .int _), (4, .int _), (7, .int _), (5, .int _), (3, .int _), (0, .ref (b + 54)), (1, .int _)]) kd_M_ringOf_249 2 rfl (nI_1 _) (by decide) rfl ?_
              refine z_goto (tgt := 121) kd_M_ringOf_252 (by decide) ?_
              refine z_pick (lv' := [(6, .int (nI (k + 1))), (5, .int (nI i)), (4, .int (nI (c + 1))), (3, .int (nI e)), (0, .ref (b + 54)), (1, .int x)]) [0, 3, 1, 4, 5, 6] rfl ?_
              exact ih (k + 1) _ _ _ _ _ _ _ _ (by omega) (by omega) (by unfold updN; rw [if_neg (by omega)]; exact hqi) hM_3 x66_3 x68_3 (hB.set hlt) x69_3 hS.s1 x70_3 (hQu.q kfn) (by rw [n2, hc]) (Fr.tr (Fr.tr (Fr.tr hF (q_1.wide (by omega) (by omega))) (q_2.wide (by omega) (by omega))) (q_3.wide (by omega) (by omega))) hv
          · have q4 : F k = q := (nI_eq (by omega) (by omega)).mp c188
            rw [if_pos q4] at hv
            refine z_aload_n kd_M_ringOf_191 4 rfl ?_
            refine z_get kd_M_ringOf_192 (kf_M_13 _) hM.h1 rfl ?_
            refine z_iload kd_M_ringOf_195 0 rfl ?_
            refine z_ialdN (t0 := 0) kd_M_ringOf_197 (by assumption) hM.h3 (by omega) (by decide) ?_
            refine z_topi kt ?_
            refine z_goto (tgt := 208) kd_M_ringOf_198 (by decide) ?_
            refine z_istore (lv' := [(7, .int _), (6, .int _), (5, .int _), (4, .int _), (3, .int _), (0, .ref (b + 54)), (1, .int _)]) kd_M_ringOf_208 (by decide) rfl ?_
            refine z_aload_n kd_M_ringOf_210 5 rfl ?_
            refine z_get kd_M_ringOf_211 (kf_M_54 _) hM.h1 rfl ?_
            refine z_iload kd_M_ringOf_214 0 rfl ?_
            refine z_zaldN (t0 := 2) kd_M_ringOf_216 (by assumption) h69 (by omega) (by decide) ?_
            refine z_topi (hS (T k) ktn) ?_
            refine z_if_ne (tgt := 249) kd_M_ringOf_217 (by decide) (fun c217 => ?_) (fun c217 => ?_)
            · rw [if_neg (fun z => by rw [zB_t c217] at z; exact absurd z.2.2 (by decide))] at hv
              refine z_iinc (v := (nI (k + 1))) (lv' := [(6, .int _), (7, .int _), (5, .int _), (4, .int _), (3, .int _), (0, .ref (b + 54)), (1, .int _)]) kd_M_ringOf_249 1 rfl (nI_1 _) (by decide) rfl ?_
              refine z_goto (tgt := 121) kd_M_ringOf_252 (by decide) ?_
              refine z_pick (lv' := [(6, .int (nI (k + 1))), (5, .int (nI i)), (4, .int (nI c)), (3, .int (nI e)), (0, .ref (b + 54)), (1, .int x)]) [0, 2, 3, 4, 5, 6] rfl ?_
              exact ih (k + 1) _ _ _ _ _ _ _ _ (by omega) hic hqi hM h66 h68 hB h69 hS h70 hQu hc hF hv
            · have hsy := zB_f c217
              rw [if_pos ⟨hxk, qq, hsy⟩] at hv
              obtain ⟨n1, n2⟩ := rkN_nt hsy n ktn
              refine z_aload_n kd_M_ringOf_220 5 rfl ?_
              refine z_get kd_M_ringOf_221 (kf_M_54 _) hM.h1 rfl ?_
              refine z_iload kd_M_ringOf_224 0 rfl ?_
              refine z_iconst (v := 1) kd_M_ringOf_226 (by decide) ?_
              refine z_zastN (t0 := 2) kd_M_ringOf_227 (by assumption) h69 (by omega) (by decide) rfl ?_
              refine z_upd (fun σ_4 x69_4 q_4 => ?_)
              have x66_4 := (q_4 66 (by omega)).trans h66
              have x68_4 := (q_4 68 (by omega)).trans h68
              have x70_4 := (q_4 70 (by omega)).trans h70
              have hM_4 := hM.fr q_4 (by omega)
              refine z_aload_n kd_M_ringOf_228 5 rfl ?_
              refine z_get kd_M_ringOf_229 (kf_M_51 _) hM_4.h1 rfl ?_
              refine z_iload kd_M_ringOf_232 0 rfl ?_
              refine z_iload kd_M_ringOf_234 1 rfl ?_
              refine z_iastN (t0 := 0) kd_M_ringOf_236 (by assumption) x68_4 (by omega) (by decide) ?_
              refine z_upd (fun σ_5 x68_5 q_5 => ?_)
              have x66_5 := (q_5 66 (by omega)).trans x66_4
              have x69_5 := (q_5 69 (by omega)).trans x69_4
              have x70_5 := (q_5 70 (by omega)).trans x70_4
              have hM_5 := hM_4.fr q_5 (by omega)
              refine z_aload_n kd_M_ringOf_237 5 rfl ?_
              refine z_get kd_M_ringOf_238 (kf_M_57 _) hM_5.h1 rfl ?_
              refine z_iload kd_M_ringOf_241 3 rfl ?_
              refine z_iload kd_M_ringOf_243 0 rfl ?_
              refine z_iastN (t0 := 0) kd_M_ringOf_245 (by assumption) x70_5 (by omega) (by decide) ?_
              refine z_upd (fun σ_6 x70_6 q_6 => ?_)
              have x66_6 := (q_6 66 (by omega)).trans x66_5
              have x68_6 := (q_6 68 (by omega)).trans x68_5
              have x69_6 := (q_6 69 (by omega)).trans x69_5
              have hM_6 := hM_5.fr q_6 (by omega)
              refine z_iinc (v := (nI (c + 1))) (lv' := [(4, .int _), (7, .int _), (6, .int _), (5, .int _), (3, .int _), (0, .ref (b + 54)), (1, .int _)]) kd_M_ringOf_246 3 rfl (nI_1 _) (by decide) rfl ?_
              refine z_iinc (v := (nI (k + 1))) (lv' := [(6, .int _), (4, .int _), (7, .int _), (5, .int _), (3, .int _), (0, .ref (b + 54)), (1, .int _)]) kd_M_ringOf_249 2 rfl (nI_1 _) (by decide) rfl ?_
              refine z_goto (tgt := 121) kd_M_ringOf_252 (by decide) ?_
              refine z_pick (lv' := [(6, .int (nI (k + 1))), (5, .int (nI i)), (4, .int (nI (c + 1))), (3, .int (nI e)), (0, .ref (b + 54)), (1, .int x)]) [0, 3, 1, 4, 5, 6] rfl ?_
              exact ih (k + 1) _ _ _ _ _ _ _ _ (by omega) (by omega) (by unfold updN; rw [if_neg (by omega)]; exact hqi) hM_6 x66_6 x68_6 (hB.set hlt) x69_6 hS.s1 x70_6 (hQu.q ktn) (by rw [n2, hc]) (Fr.tr (Fr.tr (Fr.tr hF (q_4.wide (by omega) (by omega))) (q_5.wide (by omega) (by omega))) (q_6.wide (by omega) (by omega))) hv
        · have q1 : ¬ F k = q := fun z => c154 (by rw [z])
          refine z_aload_n kd_M_ringOf_157 4 rfl ?_
          refine z_get kd_M_ringOf_158 (kf_M_13 _) hM.h1 rfl ?_
          refine z_iload kd_M_ringOf_161 0 rfl ?_
          refine z_ialdN (t0 := 0) kd_M_ringOf_163 (by assumption) hM.h3 (by omega) (by decide) ?_
          refine z_topi kt ?_
          refine z_aload_n kd_M_ringOf_164 4 rfl ?_
          refine z_get kd_M_ringOf_165 (kf_M_57 _) hM.h1 rfl ?_
          refine z_iload kd_M_ringOf_168 1 rfl ?_
          refine z_ialdN (t0 := 0) kd_M_ringOf_170 (by assumption) h70 (by omega) (by decide) ?_
          refine z_topi hqr ?_
          refine z_icmp_ne (tgt := 249) kd_M_ringOf_171 (by decide) (fun c171 => ?_) (fun c171 => ?_)
          · rw [if_neg (fun z => by rcases z.2.1 with y | y; exact q1 y; exact c171 (by rw [y]))] at hv
            refine z_iinc (v := (nI (k + 1))) (lv' := [(6, .int _), (5, .int _), (4, .int _), (3, .int _), (0, .ref (b + 54)), (1, .int _)]) kd_M_ringOf_249 0 rfl (nI_1 _) (by decide) rfl ?_
            refine z_goto (tgt := 121) kd_M_ringOf_252 (by decide) ?_
            refine z_pick (lv' := [(6, .int (nI (k + 1))), (5, .int (nI i)), (4, .int (nI c)), (3, .int (nI e)), (0, .ref (b + 54)), (1, .int x)]) [0, 1, 2, 3, 4, 5] rfl ?_
            exact ih (k + 1) _ _ _ _ _ _ _ _ (by omega) hic hqi hM h66 h68 hB h69 hS h70 hQu hc hF hv
          · have qq : F k = q ∨ T k = q := Or.inr ((nI_eq (by omega) (by omega)).mp c171)
            refine z_aload_n kd_M_ringOf_174 4 rfl ?_
            refine z_get kd_M_ringOf_175 (kf_M_7 _) hM.h1 rfl ?_
            refine z_iload kd_M_ringOf_178 0 rfl ?_
            refine z_ialdN (t0 := 0) kd_M_ringOf_180 (by assumption) hM.h2 (by omega) (by decide) ?_
            refine z_topi kf ?_
            refine z_aload_n kd_M_ringOf_181 4 rfl ?_
            refine z_get kd_M_ringOf_182 (kf_M_57 _) hM.h1 rfl ?_
            refine z_iload kd_M_ringOf_185 1 rfl ?_
            refine z_ialdN (t0 := 0) kd_M_ringOf_187 (by assumption) h70 (by omega) (by decide) ?_
            refine z_topi hqr ?_
            refine z_icmp_ne (tgt := 201) kd_M_ringOf_188 (by decide) (fun c188 => ?_) (fun c188 => ?_)
            · have q4 : ¬ F k = q := fun z => c188 (by rw [z])
              rw [if_neg q4] at hv
              refine z_aload_n kd_M_ringOf_201 4 rfl ?_
              refine z_get kd_M_ringOf_202 (kf_M_7 _) hM.h1 rfl ?_
              refine z_iload kd_M_ringOf_205 0 rfl ?_
              refine z_ialdN (t0 := 0) kd_M_ringOf_207 (by assumption) hM.h2 (by omega) (by decide) ?_
              refine z_topi kf ?_
              refine z_istore (lv' := [(7, .int _), (6, .int _), (5, .int _), (4, .int _), (3, .int _), (0, .ref (b + 54)), (1, .int _)]) kd_M_ringOf_208 (by decide) rfl ?_
              refine z_aload_n kd_M_ringOf_210 5 rfl ?_
              refine z_get kd_M_ringOf_211 (kf_M_54 _) hM.h1 rfl ?_
              refine z_iload kd_M_ringOf_214 0 rfl ?_
              refine z_zaldN (t0 := 2) kd_M_ringOf_216 (by assumption) h69 (by omega) (by decide) ?_
              refine z_topi (hS (F k) kfn) ?_
              refine z_if_ne (tgt := 249) kd_M_ringOf_217 (by decide) (fun c217 => ?_) (fun c217 => ?_)
              · rw [if_neg (fun z => by rw [zB_t c217] at z; exact absurd z.2.2 (by decide))] at hv
                refine z_iinc (v := (nI (k + 1))) (lv' := [(6, .int _), (7, .int _), (5, .int _), (4, .int _), (3, .int _), (0, .ref (b + 54)), (1, .int _)]) kd_M_ringOf_249 1 rfl (nI_1 _) (by decide) rfl ?_
                refine z_goto (tgt := 121) kd_M_ringOf_252 (by decide) ?_
                refine z_pick (lv' := [(6, .int (nI (k + 1))), (5, .int (nI i)), (4, .int (nI c)), (3, .int (nI e)), (0, .ref (b + 54)), (1, .int x)]) [0, 2, 3, 4, 5, 6] rfl ?_
                exact ih (k + 1) _ _ _ _ _ _ _ _ (by omega) hic hqi hM h66 h68 hB h69 hS h70 hQu hc hF hv
              · have hsy := zB_f c217
                rw [if_pos ⟨hxk, qq, hsy⟩] at hv
                obtain ⟨n1, n2⟩ := rkN_nt hsy n kfn
                refine z_aload_n kd_M_ringOf_220 5 rfl ?_
                refine z_get kd_M_ringOf_221 (kf_M_54 _) hM.h1 rfl ?_
                refine z_iload kd_M_ringOf_224 0 rfl ?_
                refine z_iconst (v := 1) kd_M_ringOf_226 (by decide) ?_
                refine z_zastN (t0 := 2) kd_M_ringOf_227 (by assumption) h69 (by omega) (by decide) rfl ?_
                refine z_upd (fun σ_7 x69_7 q_7 => ?_)
                have x66_7 := (q_7 66 (by omega)).trans h66
                have x68_7 := (q_7 68 (by omega)).trans h68
                have x70_7 := (q_7 70 (by omega)).trans h70
                have hM_7 := hM.fr q_7 (by omega)
                refine z_aload_n kd_M_ringOf_228 5 rfl ?_
                refine z_get kd_M_ringOf_229 (kf_M_51 _) hM_7.h1 rfl ?_
                refine z_iload kd_M_ringOf_232 0 rfl ?_
                refine z_iload kd_M_ringOf_234 1 rfl ?_
                refine z_iastN (t0 := 0) kd_M_ringOf_236 (by assumption) x68_7 (by omega) (by decide) ?_
                refine z_upd (fun σ_8 x68_8 q_8 => ?_)
                have x66_8 := (q_8 66 (by omega)).trans x66_7
                have x69_8 := (q_8 69 (by omega)).trans x69_7
                have x70_8 := (q_8 70 (by omega)).trans x70_7
                have hM_8 := hM_7.fr q_8 (by omega)
                refine z_aload_n kd_M_ringOf_237 5 rfl ?_
                refine z_get kd_M_ringOf_238 (kf_M_57 _) hM_8.h1 rfl ?_
                refine z_iload kd_M_ringOf_241 3 rfl ?_
                refine z_iload kd_M_ringOf_243 0 rfl ?_
                refine z_iastN (t0 := 0) kd_M_ringOf_245 (by assumption) x70_8 (by omega) (by decide) ?_
                refine z_upd (fun σ_9 x70_9 q_9 => ?_)
                have x66_9 := (q_9 66 (by omega)).trans x66_8
                have x68_9 := (q_9 68 (by omega)).trans x68_8
                have x69_9 := (q_9 69 (by omega)).trans x69_8
                have hM_9 := hM_8.fr q_9 (by omega)
                refine z_iinc (v := (nI (c + 1))) (lv' := [(4, .int _), (7, .int _), (6, .int _), (5, .int _), (3, .int _), (0, .ref (b + 54)), (1, .int _)]) kd_M_ringOf_246 3 rfl (nI_1 _) (by decide) rfl ?_
                refine z_iinc (v := (nI (k + 1))) (lv' := [(6, .int _), (4, .int _), (7, .int _), (5, .int _), (3, .int _), (0, .ref (b + 54)), (1, .int _)]) kd_M_ringOf_249 2 rfl (nI_1 _) (by decide) rfl ?_
                refine z_goto (tgt := 121) kd_M_ringOf_252 (by decide) ?_
                refine z_pick (lv' := [(6, .int (nI (k + 1))), (5, .int (nI i)), (4, .int (nI (c + 1))), (3, .int (nI e)), (0, .ref (b + 54)), (1, .int x)]) [0, 3, 1, 4, 5, 6] rfl ?_
                exact ih (k + 1) _ _ _ _ _ _ _ _ (by omega) (by omega) (by unfold updN; rw [if_neg (by omega)]; exact hqi) hM_9 x66_9 x68_9 (hB.set hlt) x69_9 hS.s1 x70_9 (hQu.q kfn) (by rw [n2, hc]) (Fr.tr (Fr.tr (Fr.tr hF (q_7.wide (by omega) (by omega))) (q_8.wide (by omega) (by omega))) (q_9.wide (by omega) (by omega))) hv
            · have q4 : F k = q := (nI_eq (by omega) (by omega)).mp c188
              rw [if_pos q4] at hv
              refine z_aload_n kd_M_ringOf_191 4 rfl ?_
              refine z_get kd_M_ringOf_192 (kf_M_13 _) hM.h1 rfl ?_
              refine z_iload kd_M_ringOf_195 0 rfl ?_
              refine z_ialdN (t0 := 0) kd_M_ringOf_197 (by assumption) hM.h3 (by omega) (by decide) ?_
              refine z_topi kt ?_
              refine z_goto (tgt := 208) kd_M_ringOf_198 (by decide) ?_
              refine z_istore (lv' := [(7, .int _), (6, .int _), (5, .int _), (4, .int _), (3, .int _), (0, .ref (b + 54)), (1, .int _)]) kd_M_ringOf_208 (by decide) rfl ?_
              refine z_aload_n kd_M_ringOf_210 5 rfl ?_
              refine z_get kd_M_ringOf_211 (kf_M_54 _) hM.h1 rfl ?_
              refine z_iload kd_M_ringOf_214 0 rfl ?_
              refine z_zaldN (t0 := 2) kd_M_ringOf_216 (by assumption) h69 (by omega) (by decide) ?_
              refine z_topi (hS (T k) ktn) ?_
              refine z_if_ne (tgt := 249) kd_M_ringOf_217 (by decide) (fun c217 => ?_) (fun c217 => ?_)
              · rw [if_neg (fun z => by rw [zB_t c217] at z; exact absurd z.2.2 (by decide))] at hv
                refine z_iinc (v := (nI (k + 1))) (lv' := [(6, .int _), (7, .int _), (5, .int _), (4, .int _), (3, .int _), (0, .ref (b + 54)), (1, .int _)]) kd_M_ringOf_249 1 rfl (nI_1 _) (by decide) rfl ?_
                refine z_goto (tgt := 121) kd_M_ringOf_252 (by decide) ?_
                refine z_pick (lv' := [(6, .int (nI (k + 1))), (5, .int (nI i)), (4, .int (nI c)), (3, .int (nI e)), (0, .ref (b + 54)), (1, .int x)]) [0, 2, 3, 4, 5, 6] rfl ?_
                exact ih (k + 1) _ _ _ _ _ _ _ _ (by omega) hic hqi hM h66 h68 hB h69 hS h70 hQu hc hF hv
              · have hsy := zB_f c217
                rw [if_pos ⟨hxk, qq, hsy⟩] at hv
                obtain ⟨n1, n2⟩ := rkN_nt hsy n ktn
                refine z_aload_n kd_M_ringOf_220 5 rfl ?_
                refine z_get kd_M_ringOf_221 (kf_M_54 _) hM.h1 rfl ?_
                refine z_iload kd_M_ringOf_224 0 rfl ?_
                refine z_iconst (v := 1) kd_M_ringOf_226 (by decide) ?_
                refine z_zastN (t0 := 2) kd_M_ringOf_227 (by assumption) h69 (by omega) (by decide) rfl ?_
                refine z_upd (fun σ_10 x69_10 q_10 => ?_)
                have x66_10 := (q_10 66 (by omega)).trans h66
                have x68_10 := (q_10 68 (by omega)).trans h68
                have x70_10 := (q_10 70 (by omega)).trans h70
                have hM_10 := hM.fr q_10 (by omega)
                refine z_aload_n kd_M_ringOf_228 5 rfl ?_
                refine z_get kd_M_ringOf_229 (kf_M_51 _) hM_10.h1 rfl ?_
                refine z_iload kd_M_ringOf_232 0 rfl ?_
                refine z_iload kd_M_ringOf_234 1 rfl ?_
                refine z_iastN (t0 := 0) kd_M_ringOf_236 (by assumption) x68_10 (by omega) (by decide) ?_
                refine z_upd (fun σ_11 x68_11 q_11 => ?_)
                have x66_11 := (q_11 66 (by omega)).trans x66_10
                have x69_11 := (q_11 69 (by omega)).trans x69_10
                have x70_11 := (q_11 70 (by omega)).trans x70_10
                have hM_11 := hM_10.fr q_11 (by omega)
                refine z_aload_n kd_M_ringOf_237 5 rfl ?_
                refine z_get kd_M_ringOf_238 (kf_M_57 _) hM_11.h1 rfl ?_
                refine z_iload kd_M_ringOf_241 3 rfl ?_
                refine z_iload kd_M_ringOf_243 0 rfl ?_
                refine z_iastN (t0 := 0) kd_M_ringOf_245 (by assumption) x70_11 (by omega) (by decide) ?_
                refine z_upd (fun σ_12 x70_12 q_12 => ?_)
                have x66_12 := (q_12 66 (by omega)).trans x66_11
                have x68_12 := (q_12 68 (by omega)).trans x68_11
                have x69_12 := (q_12 69 (by omega)).trans x69_11
                have hM_12 := hM_11.fr q_12 (by omega)
                refine z_iinc (v := (nI (c + 1))) (lv' := [(4, .int _), (7, .int _), (6, .int _), (5, .int _), (3, .int _), (0, .ref (b + 54)), (1, .int _)]) kd_M_ringOf_246 3 rfl (nI_1 _) (by decide) rfl ?_
                refine z_iinc (v := (nI (k + 1))) (lv' := [(6, .int _), (4, .int _), (7, .int _), (5, .int _), (3, .int _), (0, .ref (b + 54)), (1, .int _)]) kd_M_ringOf_249 2 rfl (nI_1 _) (by decide) rfl ?_
                refine z_goto (tgt := 121) kd_M_ringOf_252 (by decide) ?_
                refine z_pick (lv' := [(6, .int (nI (k + 1))), (5, .int (nI i)), (4, .int (nI (c + 1))), (3, .int (nI e)), (0, .ref (b + 54)), (1, .int x)]) [0, 3, 1, 4, 5, 6] rfl ?_
                exact ih (k + 1) _ _ _ _ _ _ _ _ (by omega) (by omega) (by unfold updN; rw [if_neg (by omega)]; exact hqi) hM_12 x66_12 x68_12 (hB.set hlt) x69_12 hS.s1 x70_12 (hQu.q ktn) (by rw [n2, hc]) (Fr.tr (Fr.tr (Fr.tr hF (q_10.wide (by omega) (by omega))) (q_11.wide (by omega) (by omega))) (q_12.wide (by omega) (by omega))) hv
set_option maxHeartbeats 4000000 in
set_option maxRecDepth 100000 in
theorem l_M_bfo {l : Launch} {D : va_G} {tys : List (ClassId × FieldType)} {b N : Nat} {σ0 : Nat → Option va_E} {cI cJ cA : ClassId} (ht0 : tys[0]? = some (cI, .int)) (ht1 : tys[1]? = some (cJ, .long)) (ht3 : tys[3]? = some (cA, .array .long)) {cZ : ClassId} (ht2 : tys[2]? = some (cZ, .boolean)) {th fa ls rm : Value} {n a : Nat} {gf gt gw : Nat → Int32} {F T : Nat → Nat} {g6 : Nat → Int32} {X : Nat → Bool} (hX : BX a g6 X) {e : Nat} {x : Int32} {Q : Outcome → Nat → (Nat → Option va_E) → Prop} {Bf : Nat → Option Nat} (kk : ∀ (σ : Nat → Option va_E) (g8 g9 g0 : Nat → Int32), MN b cI σ th fa ls rm n a gf gt gw F T → σ 66 = some (.inl (cZ, 30, .inl g6)) → σ 68 = some (.inl (cI, 10, .inl g8)) → WB a g8 Bf → σ 69 = some (.inl (cZ, 10, .inl g9)) → σ 70 = some (.inl (cI, 10, .inl g0)) → Fr 68 70 σ0 σ → Z l D kCl tys (kh_M_ringOf :: zT) kNw ky_M_ringOf.cls ky_M_ringOf.name kb_M_ringOf 8 none { frames := 1, cells := 0, slots := 0, locals := 40 } b (zFi D kCl b 0 0 Q) 0 0 N (σ) 261 [(3, .int (nI e)), (0, .ref (b + 54)), (1, .int x)] []) : ∀ (m i : Nat) (σ : Nat → Option va_E) (g8 g9 g0 : Nat → Int32) (S : Nat → Bool) (B : Nat → Option Nat) (Qu : Nat → Nat) (c : Nat), i + m = n + 1 → MN b cI σ th fa ls rm n a gf gt gw F T → σ 66 = some (.inl (cZ, 30, .inl g6)) → σ 68 = some (.inl (cI, 10, .inl g8)) → WB a g8 (B) → σ 69 = some (.inl (cZ, 10, .inl g9)) → BX n g9 (S) → σ 70 = some (.inl (cI, 10, .inl g0)) → PH (c) n g0 (Qu) → c = rkN (S) n → Fr 68 70 σ0 σ → bfO F T X a m i S B Qu c = Bf → Z l D kCl tys (kh_M_ringOf :: zT) kNw ky_M_ringOf.cls ky_M_ringOf.name kb_M_ringOf 8 none { frames := 1, cells := 0, slots := 0, locals := 40 } b (zFi D kCl b 0 0 Q) 0 0 N (σ) 111 [(5, .int (nI i)), (4, .int (nI c)), (3, .int (nI e)), (0, .ref (b + 54)), (1, .int x)] [] := by
  intro m
  induction m with
  | zero =>
    intro i σ g8 g9 g0 S B Qu c hi hM h66 h68 hB h69 hS h70 hQu hc hF hv
    have hn := hM.hn
    have hcn : c ≤ n := by rw [hc]; exact rkN_le _ _
    have hv : B = Bf := hv
    subst hv
    refine z_iload kd_M_ringOf_111 0 rfl ?_
    refine z_iload kd_M_ringOf_113 1 rfl ?_
    refine z_icmp_ge (tgt := 261) kd_M_ringOf_115 (by decide) (fun c115 => ?_) (fun c115 => ?_)
    · refine z_pick (lv' := [(3, .int (nI e)), (0, .ref (b + 54)), (1, .int x)]) [2, 3, 4] rfl ?_
      exact kk _ _ _ _ hM h66 h68 hB h69 h70 hF
    · exact absurd (nI_le (by omega) (by omega)) c115
  | succ m ih =>
    intro i σ g8 g9 g0 S B Qu c hi hM h66 h68 hB h69 hS h70 hQu hc hF hv
    have hn := hM.hn
    have hcn : c ≤ n := by rw [hc]; exact rkN_le _ _
    unfold bfO at hv
    refine z_iload kd_M_ringOf_111 0 rfl ?_
    refine z_iload kd_M_ringOf_113 1 rfl ?_
    refine z_icmp_ge (tgt := 261) kd_M_ringOf_115 (by decide) (fun c115 => ?_) (fun c115 => ?_)
    · rw [if_neg (fun z => absurd c115 (nI_ge z (by omega)))] at hv
      subst hv
      refine z_pick (lv' := [(3, .int (nI e)), (0, .ref (b + 54)), (1, .int x)]) [2, 3, 4] rfl ?_
      exact kk _ _ _ _ hM h66 h68 hB h69 h70 hF
    · have hic : i < c := Nat.lt_of_not_le (fun z => c115 (nI_le z (by omega)))
      rw [if_pos hic] at hv
      refine z_iconst (v := 0) kd_M_ringOf_118 (by decide) ?_
      refine z_istore (lv' := [(6, .int _), (5, .int _), (4, .int _), (3, .int _), (0, .ref (b + 54)), (1, .int _)]) kd_M_ringOf_119 (by decide) rfl ?_
      refine z_pick (lv' := [(6, .int (nI 0)), (5, .int (nI i)), (4, .int (nI c)), (3, .int (nI e)), (0, .ref (b + 54)), (1, .int x)]) [0, 1, 2, 3, 4, 5] rfl ?_
      refine l_M_bfi ht0 ht1 ht3 ht2 hX (hQu i hic).2 (val := (bfI F T X (Qu i) a 0 S B Qu c)) (fun σ g8 g9 g0 hM h66 h68 hB h69 hS h70 hQu hc hF => ?_) a 0 _ _ _ _ _ _ _ _ (by omega) hic rfl hM h66 h68 hB h69 hS h70 hQu hc hF rfl
      exact ih (i + 1) _ _ _ _ _ _ _ _ (by omega) hM h66 h68 hB h69 hS h70 hQu hc hF hv
set_option maxHeartbeats 4000000 in
set_option maxRecDepth 100000 in
theorem l_M_pb {l : Launch} {D : va_G} {tys : List (ClassId × FieldType)} {b N : Nat} {σ0 : Nat → Option va_E} {cI cJ cA : ClassId} (ht0 : tys[0]? = some (cI, .int)) (ht1 : tys[1]? = some (cJ, .long)) (ht3 : tys[3]? = some (cA, .array .long)) {th fa rm : Value} {n a : Nat} {gf gt gw : Nat → Int32} {F T : Nat → Nat} {g8 : Nat → Int32} {B : Nat → Option Nat} (hB : WB a g8 B) {e : Nat} (he : e < a) {x : Int32} {Q : Outcome → Nat → (Nat → Option va_E) → Prop} {val : Nat × (Nat → Int32)} (hQ : ∀ (σ' : Nat → Option va_E) (g7 : Nat → Int32), MN b cI σ' th fa (.int (nI val.1)) rm n a gf gt gw F T → σ' 68 = some (.inl (cI, 10, .inl g8)) → σ' 67 = some (.inl (cI, 30, .inl g7)) → LR val.1 g7 val.2 → F2 54 54 67 67 σ0 σ' → Q (.returned none) N σ') : ∀ (m v s : Nat) (σ : Nat → Option va_E) (g7 R : Nat → Int32), s + m ≤ 30 → v < n → MN b cI σ th fa (.int (nI s)) rm n a gf gt gw F T → σ 68 = some (.inl (cI, 10, .inl g8)) → σ 67 = some (.inl (cI, 30, .inl g7)) → LR (s) g7 (R) → F2 54 54 67 67 σ0 σ → pbL F T B (F e) m v s R = some val → Z l D kCl tys (kh_M_ringOf :: zT) kNw ky_M_ringOf.cls ky_M_ringOf.name kb_M_ringOf 8 none { frames := 1, cells := 0, slots := 0, locals := 40 } b (zFi D kCl b 0 0 Q) 0 0 N (σ) 269 [(5, .int (nI v)), (3, .int (nI e)), (0, .ref (b + 54)), (1, .int x)] [] := by
  intro m
  induction m with
  | zero => intro v s σ g7 R _ _ _ _ _ _ _ hv; cases hv
  | succ m ih =>
    intro v s σ g7 R hs hvn hM h68 h67 hL hF hv
    have hn := hM.hn
    have ha := hM.ha
    obtain ⟨ef, efn, et, etn⟩ := hM.hft e he
    unfold pbL at hv
    refine z_iload kd_M_ringOf_269 0 rfl ?_
    refine z_aload_n kd_M_ringOf_271 2 rfl ?_
    refine z_get kd_M_ringOf_272 (kf_M_7 _) hM.h1 rfl ?_
    refine z_iload_n kd_M_ringOf_275 1 rfl ?_
    refine z_ialdN (t0 := 0) kd_M_ringOf_276 (by assumption) hM.h2 (by omega) (by decide) ?_
    refine z_topi ef ?_
    refine z_icmp_eq (tgt := 355) kd_M_ringOf_277 (by decide) (fun c277 => ?_) (fun c277 => ?_)
    · rw [if_pos ((nI_eq (by omega) (by omega)).mp c277)] at hv
      cases hv
      exact z_vret kd_M_ringOf_355 rfl (Nat.le_of_ble_eq_true rfl) (Nat.le_of_ble_eq_true rfl) (hQ _ _ hM h68 h67 hL hF)
    · rw [if_neg (fun z => c277 (by rw [z]))] at hv
      cases hbv : B v with
      | none => rw [hbv] at hv; cases hv
      | some k =>
        rw [hbv] at hv
        dsimp only at hv
        have hka := (hB v k hbv).2
        obtain ⟨kf, kfn, kt, ktn⟩ := hM.hft k hka
        refine z_aload_n kd_M_ringOf_280 2 rfl ?_
        refine z_get kd_M_ringOf_281 (kf_M_48 _) hM.h1 rfl ?_
        refine z_aload_n kd_M_ringOf_284 2 rfl ?_
        refine z_get kd_M_ringOf_285 (kf_M_155 _) hM.h1 rfl ?_
        refine z_aload_n kd_M_ringOf_288 2 rfl ?_
        refine z_get kd_M_ringOf_289 (kf_M_51 _) hM.h1 rfl ?_
        refine z_iload kd_M_ringOf_292 0 rfl ?_
        refine z_ialdN (t0 := 0) kd_M_ringOf_294 (by assumption) h68 (by omega) (by decide) ?_
        refine z_topi (hB v k hbv).1 ?_
        refine z_iastN (t0 := 0) kd_M_ringOf_295 (by assumption) h67 (by omega) (by decide) ?_
        refine z_upd (fun σ_1 x67_1 q_1 => ?_)
        have x68_1 := (q_1 68 (by omega)).trans h68
        have hM_1 := hM.fr q_1 (by omega)
        refine z_aload_n kd_M_ringOf_296 2 rfl ?_
        refine z_dup kd_M_ringOf_297 rfl ?_
        refine z_get kd_M_ringOf_298 (kf_M_155 _) hM_1.h1 rfl ?_
        refine z_iconst (v := 1) kd_M_ringOf_301 (by decide) ?_
        refine z_iadd kd_M_ringOf_302 ?_
        refine z_topi (nI_add s 1) ?_
        refine z_putE (fs' := [_, _, _, _, _, _, _, _, _, _, _, _, _, _, _, _, _, _, _, _, _, _, _, _, _]) kd_M_ringOf_303 (kp_M_155 _) hM_1.h1 (Nat.le_of_ble_eq_true rfl) rfl rfl rfl ?_
        refine z_upd (fun σ_2 x54_2 q_2 => ?_)
        have x67_2 := (q_2 67 (by omega)).trans x67_1
        have x68_2 := (q_2 68 (by omega)).trans x68_1
        have hM_2 := hM_1.put x54_2 q_2
        refine z_aload_n kd_M_ringOf_306 2 rfl ?_
        refine z_get kd_M_ringOf_307 (kf_M_7 _) hM_2.h1 rfl ?_
        refine z_aload_n kd_M_ringOf_310 2 rfl ?_
        refine z_get kd_M_ringOf_311 (kf_M_51 _) hM_2.h1 rfl ?_
        refine z_iload kd_M_ringOf_314 0 rfl ?_
        refine z_ialdN (t0 := 0) kd_M_ringOf_316 (by assumption) x68_2 (by omega) (by decide) ?_
        refine z_topi (hB v k hbv).1 ?_
        refine z_ialdN (t0 := 0) kd_M_ringOf_317 (by assumption) hM_2.h2 (by omega) (by decide) ?_
        refine z_topi kf ?_
        refine z_iload kd_M_ringOf_318 0 rfl ?_
        refine z_icmp_ne (tgt := 338) kd_M_ringOf_320 (by decide) (fun c320 => ?_) (fun c320 => ?_)
        · rw [if_neg (fun z => c320 (by rw [z]))] at hv
          refine z_aload_n kd_M_ringOf_338 2 rfl ?_
          refine z_get kd_M_ringOf_339 (kf_M_7 _) hM_2.h1 rfl ?_
          refine z_aload_n kd_M_ringOf_342 2 rfl ?_
          refine z_get kd_M_ringOf_343 (kf_M_51 _) hM_2.h1 rfl ?_
          refine z_iload kd_M_ringOf_346 0 rfl ?_
          refine z_ialdN (t0 := 0) kd_M_ringOf_348 (by assumption) x68_2 (by omega) (by decide) ?_
          refine z_topi (hB v k hbv).1 ?_
          refine z_ialdN (t0 := 0) kd_M_ringOf_349 (by assumption) hM_2.h2 (by omega) (by decide) ?_
          refine z_topi kf ?_
          refine z_istore (lv' := [(5, .int _), (3, .int _), (0, .ref (b + 54)), (1, .int _)]) kd_M_ringOf_350 (by decide) rfl ?_
          refine z_goto (tgt := 269) kd_M_ringOf_352 (by decide) ?_
          refine z_pick (lv' := [(5, .int (nI (F k))), (3, .int (nI e)), (0, .ref (b + 54)), (1, .int x)]) [0, 1, 2, 3] rfl ?_
          exact ih _ _ _ _ _ (by omega) (by first | exact kfn | exact ktn) hM_2 x68_2 x67_2 hL.set ((hF.tr q_1 (by omega)).tr q_2 (by omega)) hv
        · rw [if_pos ((nI_eq (by omega) (by omega)).mp c320)] at hv
          refine z_aload_n kd_M_ringOf_323 2 rfl ?_
          refine z_get kd_M_ringOf_324 (kf_M_13 _) hM_2.h1 rfl ?_
          refine z_aload_n kd_M_ringOf_327 2 rfl ?_
          refine z_get kd_M_ringOf_328 (kf_M_51 _) hM_2.h1 rfl ?_
          refine z_iload kd_M_ringOf_331 0 rfl ?_
          refine z_ialdN (t0 := 0) kd_M_ringOf_333 (by assumption) x68_2 (by omega) (by decide) ?_
          refine z_topi (hB v k hbv).1 ?_
          refine z_ialdN (t0 := 0) kd_M_ringOf_334 (by assumption) hM_2.h3 (by omega) (by decide) ?_
          refine z_topi kt ?_
          refine z_goto (tgt := 350) kd_M_ringOf_335 (by decide) ?_
          refine z_istore (lv' := [(5, .int _), (3, .int _), (0, .ref (b + 54)), (1, .int _)]) kd_M_ringOf_350 (by decide) rfl ?_
          refine z_goto (tgt := 269) kd_M_ringOf_352 (by decide) ?_
          refine z_pick (lv' := [(5, .int (nI (T k))), (3, .int (nI e)), (0, .ref (b + 54)), (1, .int x)]) [0, 1, 2, 3] rfl ?_
          exact ih _ _ _ _ _ (by omega) (by first | exact kfn | exact ktn) hM_2 x68_2 x67_2 hL.set ((hF.tr q_1 (by omega)).tr q_2 (by omega)) hv
set_option maxHeartbeats 4000000 in
set_option maxRecDepth 100000 in
theorem c_M_ringOf {l : Launch} {D : va_G} {tys : List (ClassId × FieldType)} {b N : Nat} {σ : Nat → Option va_E} {cI cJ cA : ClassId} (ht0 : tys[0]? = some (cI, .int)) (ht1 : tys[1]? = some (cJ, .long)) (ht3 : tys[3]? = some (cA, .array .long)) {cZ : ClassId} (ht2 : tys[2]? = some (cZ, .boolean)) {th fa ls rm : Value} {n a : Nat} {gf gt gw : Nat → Int32} {F T : Nat → Nat} (hM : MN b cI σ th fa ls rm n a gf gt gw F T) {g6 g7 g8 g9 g0 : Nat → Int32} {X : Nat → Bool} (h66 : σ 66 = some (.inl (cZ, 30, .inl g6))) (hX : BX a g6 X) (h67 : σ 67 = some (.inl (cI, 30, .inl g7))) (h68 : σ 68 = some (.inl (cI, 10, .inl g8))) (h69 : σ 69 = some (.inl (cZ, 10, .inl g9))) (h70 : σ 70 = some (.inl (cI, 10, .inl g0))) {r e f : Nat} (hr : r < 2 ^ 31) (hre : rgE X a 0 r = some e) {val : Nat × (Nat → Int32)} (hf : f ≤ 29) (hpb : pbL F T (bfO F T X a (n + 1) 0 (fun v => decide (v = F e)) (fun _ => none) (fun _ => F e) 1) (F e) f (T e) 1 (upd (fun _ => 0) 0 (nI e)) = some val) : zM l D kCl tys kNw b ky_M_ringOf (kh_M_ringOf :: zT) 1 40 0 0 [.ref (b + 54), .int (nI r)] N σ ((fun oc N' σ' => oc = .returned none ∧ N' = N ∧ MN b cI σ' th fa (.int (nI val.1)) rm n a gf gt gw F T ∧ (∃ g, σ' 67 = some (.inl (cI, 30, .inl g)) ∧ LR val.1 g val.2) ∧ (∃ g, σ' 68 = some (.inl (cI, 10, .inl g))) ∧ (∃ g, σ' 69 = some (.inl (cZ, 10, .inl g))) ∧ (∃ g, σ' 70 = some (.inl (cI, 10, .inl g))) ∧ F2 54 54 67 70 σ σ')) := by
  refine zM.of (by decide +kernel) rfl (Nat.le_of_ble_eq_true rfl) ?_
  refine z_pick (lv' := [(0, .ref (b + 54)), (1, .int (nI r))]) [0, 1] rfl ?_
  have hn := hM.hn
  have ha := hM.ha
  have he := rgE_lt (a := a) a 0 r (Nat.zero_add a) hre
  obtain ⟨ef, efn, et, etn⟩ := hM.hft e he
  refine z_iload_n kd_M_ringOf_0 1 rfl ?_
  refine z_istore_n (lv' := [(2, .int _), (0, .ref (b + 54)), (1, .int _)]) kd_M_ringOf_1 (by decide) rfl ?_
  refine z_iconst (v := 0) kd_M_ringOf_2 (by decide) ?_
  refine z_istore_n (lv' := [(3, .int _), (2, .int _), (0, .ref (b + 54)), (1, .int _)]) kd_M_ringOf_3 (by decide) rfl ?_
  refine z_pick (lv' := [(3, .int (nI 0)), (2, .int (nI r)), (0, .ref (b + 54)), (1, .int (nI r))]) [0, 1, 2, 3] rfl ?_
  refine l_M_rgE ht0 ht1 ht3 ht2 hM h66 hX (e0 := e) ?_ a 0 r (by omega) hr hre
  refine z_aload_n kd_M_ringOf_40 1 rfl ?_
  refine z_get kd_M_ringOf_41 (kf_M_48 _) hM.h1 rfl ?_
  refine z_iconst (v := nI 0) kd_M_ringOf_44 (by decide) ?_
  refine z_iload_n kd_M_ringOf_45 0 rfl ?_
  refine z_iastN (t0 := 0) kd_M_ringOf_46 (by assumption) h67 (by omega) (by decide) ?_
  refine z_upd (fun σ_1 x67_1 q_1 => ?_)
  have x66_1 := (q_1 66 (by omega)).trans h66
  have x68_1 := (q_1 68 (by omega)).trans h68
  have x69_1 := (q_1 69 (by omega)).trans h69
  have x70_1 := (q_1 70 (by omega)).trans h70
  have hM_1 := hM.fr q_1 (by omega)
  refine z_aload_n kd_M_ringOf_47 1 rfl ?_
  refine z_iconst (v := 1) kd_M_ringOf_48 (by decide) ?_
  refine z_putE (fs' := [_, _, _, _, _, _, _, _, _, _, _, _, _, _, _, _, _, _, _, _, _, _, _, _, _]) kd_M_ringOf_49 (kp_M_155 _) hM_1.h1 (Nat.le_of_ble_eq_true rfl) rfl rfl rfl ?_
  refine z_upd (fun σ_2 x54_2 q_2 => ?_)
  have x66_2 := (q_2 66 (by omega)).trans x66_1
  have x67_2 := (q_2 67 (by omega)).trans x67_1
  have x68_2 := (q_2 68 (by omega)).trans x68_1
  have x69_2 := (q_2 69 (by omega)).trans x69_1
  have x70_2 := (q_2 70 (by omega)).trans x70_1
  have hM_2 := hM_1.put x54_2 q_2
  refine z_iconst (v := 0) kd_M_ringOf_52 (by decide) ?_
  refine z_istore (lv' := [(4, .int _), (3, .int _), (0, .ref (b + 54)), (1, .int _)]) kd_M_ringOf_53 (by decide) rfl ?_
  refine z_pick (lv' := [(4, .int (nI 0)), (3, .int (nI e)), (0, .ref (b + 54)), (1, .int (nI r))]) [0, 1, 2, 3] rfl ?_
  refine l_M_seen ht0 ht1 ht3 ht2 he (fun σ_3 g9_3 hM_3 x69_3 hS_3 q_3 => ?_) n 0 _ _ (by omega) hM_2 x69_2 (fun j hj => absurd hj (Nat.not_lt_zero j)) Fr.rf
  have x66_3 := (q_3 66 (by omega)).trans x66_2
  have x67_3 := (q_3 67 (by omega)).trans x67_2
  have x68_3 := (q_3 68 (by omega)).trans x68_2
  have x70_3 := (q_3 70 (by omega)).trans x70_2
  refine z_iconst (v := 1) kd_M_ringOf_93 (by decide) ?_
  refine z_istore (lv' := [(4, .int _), (3, .int _), (0, .ref (b + 54)), (1, .int _)]) kd_M_ringOf_94 (by decide) rfl ?_
  refine z_aload_n kd_M_ringOf_96 2 rfl ?_
  refine z_get kd_M_ringOf_97 (kf_M_57 _) hM_3.h1 rfl ?_
  refine z_iconst (v := nI 0) kd_M_ringOf_100 (by decide) ?_
  refine z_aload_n kd_M_ringOf_101 2 rfl ?_
  refine z_get kd_M_ringOf_102 (kf_M_7 _) hM_3.h1 rfl ?_
  refine z_iload_n kd_M_ringOf_105 1 rfl ?_
  refine z_ialdN (t0 := 0) kd_M_ringOf_106 (by assumption) hM_3.h2 (by omega) (by decide) ?_
  refine z_topi ef ?_
  refine z_iastN (t0 := 0) kd_M_ringOf_107 (by assumption) x70_3 (by omega) (by decide) ?_
  refine z_upd (fun σ_4 x70_4 q_4 => ?_)
  have x66_4 := (q_4 66 (by omega)).trans x66_3
  have x67_4 := (q_4 67 (by omega)).trans x67_3
  have x68_4 := (q_4 68 (by omega)).trans x68_3
  have x69_4 := (q_4 69 (by omega)).trans x69_3
  have hM_4 := hM_3.fr q_4 (by omega)
  refine z_iconst (v := 0) kd_M_ringOf_108 (by decide) ?_
  refine z_istore (lv' := [(5, .int _), (4, .int _), (3, .int _), (0, .ref (b + 54)), (1, .int _)]) kd_M_ringOf_109 (by decide) rfl ?_
  refine z_pick (lv' := [(5, .int (nI 0)), (4, .int (nI 1)), (3, .int (nI e)), (0, .ref (b + 54)), (1, .int (nI r))]) [0, 1, 2, 3, 4] rfl ?_
  refine l_M_bfo ht0 ht1 ht3 ht2 hX (Bf := (bfO F T X a (n + 1) 0 (fun v => decide (v = F e)) (fun _ => none) (fun _ => F e) 1)) (fun σ_5 g8_5 g9_5 g0_5 hM_5 x66_5 x68_5 hB_5 x69_5 x70_5 q_5 => ?_) (n + 1) 0 _ _ _ _ (fun v => decide (v = F e)) (fun _ => none) (fun _ => F e) 1 (by omega) hM_4 x66_4 x68_4 (fun v k hk => by cases hk) x69_4 hS_3 x70_4 (fun j hj => by obtain rfl : j = 0 := (by omega); exact ⟨by simp [upd], efn⟩) (rkN_one (fun v => rfl) n efn).symm Fr.rf rfl
  have x67_5 := (q_5 67 (by omega)).trans x67_4
  refine z_aload_n kd_M_ringOf_261 1 rfl ?_
  refine z_get kd_M_ringOf_262 (kf_M_13 _) hM_5.h1 rfl ?_
  refine z_iload_n kd_M_ringOf_265 0 rfl ?_
  refine z_ialdN (t0 := 0) kd_M_ringOf_266 (by assumption) hM_5.h3 (by omega) (by decide) ?_
  refine z_topi et ?_
  refine z_istore (lv' := [(5, .int _), (3, .int _), (0, .ref (b + 54)), (1, .int _)]) kd_M_ringOf_267 (by decide) rfl ?_
  refine z_pick (lv' := [(5, .int (nI (T e))), (3, .int (nI e)), (0, .ref (b + 54)), (1, .int (nI r))]) [0, 1, 2, 3] rfl ?_
  exact l_M_pb ht0 ht1 ht3 hB_5 he (fun σ9 g79 hM9 z68 z67 hL9 q9 => ⟨rfl, rfl, hM9, ⟨_, z67, hL9⟩, ⟨_, z68⟩, ⟨_, (q9 69 (by omega) (by omega)).trans x69_5⟩, ⟨_, (q9 70 (by omega) (by omega)).trans x70_5⟩, fun k h1 h2 => (q9 k (by omega) (by omega)).trans ((((((F2.rf.tr q_1 (by omega)).tr q_2 (by omega)).tr q_3 (by omega)).tr q_4 (by omega)).tr q_5 (by omega)) k h1 h2)⟩) f (T e) 1 _ _ _ (by omega) etn hM_5 x68_5 x67_5 (fun j hj => by obtain rfl : j = 0 := (by omega); simp [upd]) F2.rf hpb
