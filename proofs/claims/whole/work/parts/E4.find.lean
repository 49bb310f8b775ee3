def LJ (c : Nat) (g R : Nat → Int64) : Prop := ∀ j, j < c → g j = R j
theorem LJ.set {c : Nat} {g R : Nat → Int64} {x : Int64} (h : LJ c g R) : LJ (c + 1) (vp_updL g c x) (vp_updL R c x) := by
  intro j hj
  unfold vp_updL
  by_cases e : j = c
  · rw [if_pos e, if_pos e]
  · rw [if_neg e, if_neg e]; exact h j (by omega)
theorem mo_rg {d : Int64} {A : Nat → Nat → Int64} {s : Nat} (hd : 0 < d.toInt) (hd2 : d.toInt < 4611686018427387904) : mRg d.toInt s (moA d A s s 0 A) := by
  intro i j hi hj
  have e : moA d A s s 0 A i j = mo0 d A i j := if_pos (Or.inl ⟨hi, hj⟩)
  rw [e]
  unfold mo0
  rw [i64_jremP hd hd2]
  exact ⟨Int.emod_nonneg _ (by omega), Int.emod_lt_of_pos _ hd⟩
/-- the rows that findRounds leaves alone or may change -/
def MQr (cI cJ cZ : ClassId) (σ : Nat → Option va_E) (C K : Nat → Int64) : Prop := σ 58 = some (.inl (cJ, 10, .inr (.inl C))) ∧ σ 59 = some (.inl (cJ, 10, .inr (.inl K))) ∧ (∃ g, σ 61 = some (.inl (cJ, 100, .inr (.inl g)))) ∧ (∃ g, σ 62 = some (.inl (cI, 10, .inl g))) ∧ (∃ g, σ 63 = some (.inl (cZ, 30, .inl g))) ∧ (∃ g, σ 64 = some (.inl (cI, 10, .inl g))) ∧ (∃ g, σ 65 = some (.inl (cI, 10, .inl g))) ∧ (∃ g, σ 66 = some (.inl (cZ, 30, .inl g))) ∧ (∃ g, σ 67 = some (.inl (cI, 30, .inl g))) ∧ (∃ g, σ 68 = some (.inl (cI, 10, .inl g))) ∧ (∃ g, σ 69 = some (.inl (cZ, 10, .inl g))) ∧ (∃ g, σ 70 = some (.inl (cI, 10, .inl g))) ∧ (∃ g, σ 72 = some (.inl (cJ, 10, .inr (.inl g)))) ∧ (∃ g, σ 73 = some (.inl (cJ, 10, .inr (.inl g))))
theorem MQr.fr {cI cJ cZ : ClassId} {σ σ' : Nat → Option va_E} {C K : Nat → Int64} (h : MQr cI cJ cZ σ C K) (q : ∀ k, k ≠ 54 → k ≠ 60 → k ≠ 71 → σ' k = σ k) : MQr cI cJ cZ σ' C K := by
  obtain ⟨h58, h59, ⟨g61, h61⟩, ⟨g62, h62⟩, ⟨g63, h63⟩, ⟨g64, h64⟩, ⟨g65, h65⟩, ⟨g66, h66⟩, ⟨g67, h67⟩, ⟨g68, h68⟩, ⟨g69, h69⟩, ⟨g70, h70⟩, ⟨g72, h72⟩, ⟨g73, h73⟩⟩ := h
  exact ⟨(q 58 (by decide) (by decide) (by decide)).trans h58, (q 59 (by decide) (by decide) (by decide)).trans h59, ⟨g61, (q 61 (by decide) (by decide) (by decide)).trans h61⟩, ⟨g62, (q 62 (by decide) (by decide) (by decide)).trans h62⟩, ⟨g63, (q 63 (by decide) (by decide) (by decide)).trans h63⟩, ⟨g64, (q 64 (by decide) (by decide) (by decide)).trans h64⟩, ⟨g65, (q 65 (by decide) (by decide) (by decide)).trans h65⟩, ⟨g66, (q 66 (by decide) (by decide) (by decide)).trans h66⟩, ⟨g67, (q 67 (by decide) (by decide) (by decide)).trans h67⟩, ⟨g68, (q 68 (by decide) (by decide) (by decide)).trans h68⟩, ⟨g69, (q 69 (by decide) (by decide) (by decide)).trans h69⟩, ⟨g70, (q 70 (by decide) (by decide) (by decide)).trans h70⟩, ⟨g72, (q 72 (by decide) (by decide) (by decide)).trans h72⟩, ⟨g73, (q 73 (by decide) (by decide) (by decide)).trans h73⟩⟩
set_option maxHeartbeats 4000000 in
set_option maxRecDepth 100000 in
theorem l_M_fro {l : Launch} {D : va_G} {tys : List (ClassId × FieldType)} {b N : Nat} {σ0 : Nat → Option va_E} {cI cJ cA : ClassId} (ht0 : tys[0]? = some (cI, .int)) (ht1 : tys[1]? = some (cJ, .long)) (ht3 : tys[3]? = some (cA, .array .long)) {cZ : ClassId} (ht2 : tys[2]? = some (cZ, .boolean)) {n a : Nat} {gf gt gw : Nat → Int32} {F T : Nat → Nat} {C K : Nat → Int64} {s : Nat} {d : Int64} (hs : s ≤ 10) (hd : 0 < d.toInt) (hd2 : d.toInt < 4611686018427387904) {Q : Outcome → Nat → (Nat → Option va_E) → Prop} {f : Nat} {val : Nat × (Nat → Int64)} (hQ : ∀ (σ' : Nat → Option va_E), (∃ th fa ls, MN b cI σ' th fa ls (.int (nI val.1)) n a gf gt gw F T) → MQr cI cJ cZ σ' C K → (∃ g, σ' 60 = some (.inl (cJ, 100, .inr (.inl g)))) → (∃ g, σ' 71 = some (.inl (cJ, 10, .inr (.inl g))) ∧ LJ val.1 g val.2) → Fr 54 73 σ0 σ' → Q (.returned (some (.int 1))) N σ') : ∀ (m t : Nat) (σ : Nat → Option va_E) (M : Nat → Nat → Int64) (c : Nat) (R : Nat → Int64), t + m = s → c ≤ t → (∃ th fa ls, MN b cI σ th fa ls (.int (nI c)) n a gf gt gw F T) → MQr cI cJ cZ σ C K → (∃ g, σ 60 = some (.inl (cJ, 100, .inr (.inl g))) ∧ RM g (M)) → mRg d.toInt s (M) → (∃ g, σ 71 = some (.inl (cJ, 10, .inr (.inl g))) ∧ LJ (c) g (R)) → Fr 54 73 σ0 σ → frO s d f m t M c R = some val → Z l D kCl tys (kh_M_findRounds :: zT) kNw ky_M_findRounds.cls ky_M_findRounds.name kb_M_findRounds 10 (some FieldType.boolean) { frames := 6, cells := 0, slots := 0, locals := 240 } b (zFi D kCl b 0 0 Q) 0 0 N (σ) 100 [(4, .int (nI t)), (3, .int (nI s)), (1, .long d), (0, .ref (b + 54))] [] := by
  intro m
  induction m with
  | zero =>
    intro t σ M c R htm hct hM hQr h60 hR h71 hF hv
    obtain rfl : t = s := by omega
    obtain ⟨th, fa, ls, hM⟩ := hM
    obtain ⟨g60, h60, r60⟩ := h60
    have hv : some (c, R) = some val := hv
    cases hv
    refine z_iload kd_M_findRounds_100 0 rfl ?_
    refine z_iload_n kd_M_findRounds_102 1 rfl ?_
    refine z_icmp_ge (tgt := 273) kd_M_findRounds_103 (by decide) (fun c103 => ?_) (fun c103 => ?_)
    · refine z_iconst (v := 1) kd_M_findRounds_273 (by decide) ?_
      exact z_zret kd_M_findRounds_274 rfl rfl (Nat.le_of_ble_eq_true rfl) (Nat.le_of_ble_eq_true rfl) (hQ _ ⟨_, _, _, hM⟩ hQr ⟨_, h60⟩ h71 hF)
    · exact absurd (nI_le (Nat.le_refl t) (by omega)) c103
  | succ m ih =>
    intro t σ M c R htm hct hM hQr h60 hR h71 hF hv
    have ht : t < s := by omega
    obtain ⟨th, fa, ls, hM⟩ := hM
    obtain ⟨g60, h60, r60⟩ := h60
    obtain ⟨g71, h71, hL⟩ := h71
    unfold frO at hv
    cases hc : frI t s d f (cfV M t s d) f M with
    | none => rw [hc] at hv; cases hv
    | some M1 =>
      rw [hc, Option.bind_some] at hv
      refine z_iload kd_M_findRounds_100 0 rfl ?_
      refine z_iload_n kd_M_findRounds_102 1 rfl ?_
      refine z_icmp_ge (tgt := 273) kd_M_findRounds_103 (by decide) (fun c103 => ?_) (fun c103 => ?_)
      · exact absurd c103 (nI_ge ht (by omega))
      · refine z_aload_n kd_M_findRounds_106 3 rfl ?_
        refine z_iload kd_M_findRounds_107 0 rfl ?_
        refine z_iload_n kd_M_findRounds_109 1 rfl ?_
        refine z_lload_n kd_M_findRounds_110 2 rfl ?_
        refine z_V1 (a := 54) (As := [_, _, _]) kd_M_findRounds_111 (kg_M_186 _) hM.h1 kc_M (c_M_commonFrom ht0 ht1 ht3 hM hs ht hd hd2 r60 h60 hR) rfl rfl (Nat.le_of_ble_eq_true rfl) ⟨Nat.le_of_ble_eq_true rfl, Nat.le_of_ble_eq_true rfl⟩ ⟨Nat.le_of_ble_eq_true rfl, Nat.le_of_ble_eq_true rfl⟩ ?_
        refine z_lstore (lv' := [(5, .long _), (4, .int _), (3, .int _), (1, .long _), (0, .ref (b + 54))]) kd_M_findRounds_114 (by decide) rfl ?_
        refine z_iconst (v := 1) kd_M_findRounds_116 (by decide) ?_
        refine z_istore (lv' := [(7, .int _), (5, .long _), (4, .int _), (3, .int _), (1, .long _), (0, .ref (b + 54))]) kd_M_findRounds_117 (by decide) rfl ?_
        refine z_pick (lv' := [(7, .int (zB true)), (5, .long (cfV M t s d)), (4, .int (nI t)), (3, .int (nI s)), (1, .long d), (0, .ref (b + 54))]) [0, 1, 2, 3, 4, 5] rfl ?_
        refine l_M_fri ht0 ht1 ht3 hs ht hd hd2 (fun σ8 g8 hM8 x608 r608 hR8 q8 => ?_) f _ _ _ hM h60 r60 hR Fr.rf hc
        have x718 := (q8 71 (by omega)).trans h71
        have hQr8 := hQr.fr (fun k h1 h2 h3 => q8 k (by omega))
        have hF8 : Fr 54 73 σ0 σ8 := Fr.tr hF (q8.wide (by omega) (by omega))
        refine z_aload_n kd_M_findRounds_223 4 rfl ?_
        refine z_get kd_M_findRounds_224 (kf_M_26 _) hM8.h1 rfl ?_
        refine z_bipush (v := 11) kd_M_findRounds_227 (by decide +kernel) ?_
        refine z_iload kd_M_findRounds_229 1 rfl ?_
        refine z_imul kd_M_findRounds_231 ?_
        refine z_topi (nI_mul 11 t) ?_
        refine z_laldN (t0 := 1) kd_M_findRounds_232 (by assumption) x608 (by omega) (by decide) ?_
        refine z_topl (RM.gt11 r608 (t := t) (by omega)) ?_
        refine z_lload_n kd_M_findRounds_233 3 rfl ?_
        refine z_S1 (As := [_, _]) kd_M_findRounds_234 (kg_M_140 _) (c_M_gcd (gc_some (hR8 t t ht ht).1 (by omega))) rfl rfl (Nat.le_of_ble_eq_true rfl) ⟨Nat.le_of_ble_eq_true rfl, Nat.le_of_ble_eq_true rfl⟩ ⟨Nat.le_of_ble_eq_true rfl, Nat.le_of_ble_eq_true rfl⟩ ?_
        refine z_lstore (lv' := [(8, .long _), (5, .long _), (4, .int _), (3, .int _), (1, .long _), (0, .ref (b + 54))]) kd_M_findRounds_237 (by decide) rfl ?_
        refine z_lload kd_M_findRounds_239 0 rfl ?_
        refine z_lconst (v := 1) kd_M_findRounds_241 (by decide +kernel) ?_
        refine z_lcmp kd_M_findRounds_242 ?_
        refine z_if_le (tgt := 267) kd_M_findRounds_243 (by decide) (fun c243 => ?_) (fun c243 => ?_)
        · rw [if_neg (fun z => absurd ((lg_cmp_le _ _).mp c243) (Int64.not_le.mpr z))] at hv
          refine z_iinc (v := (nI (t + 1))) (lv' := [(4, .int _), (8, .long _), (5, .long _), (3, .int _), (1, .long _), (0, .ref (b + 54))]) kd_M_findRounds_267 2 rfl (nI_1 _) (by decide) rfl ?_
          refine z_goto (tgt := 100) kd_M_findRounds_270 (by decide) ?_
          refine z_pick (lv' := [(4, .int (nI (t + 1))), (3, .int (nI s)), (1, .long d), (0, .ref (b + 54))]) [0, 3, 4, 5] rfl ?_
          exact ih (t + 1) _ _ _ _ (by omega) (by omega) ⟨_, _, _, hM8⟩ hQr8 ⟨_, x608, r608⟩ hR8 ⟨_, x718, hL⟩ hF8 hv
        · rw [if_pos (Int64.not_le.mp (fun z => c243 ((lg_cmp_le _ _).mpr z)))] at hv
          refine z_aload_n kd_M_findRounds_246 5 rfl ?_
          refine z_get kd_M_findRounds_247 (kf_M_60 _) hM8.h1 rfl ?_
          refine z_aload_n kd_M_findRounds_250 5 rfl ?_
          refine z_get kd_M_findRounds_251 (kf_M_183 _) hM8.h1 rfl ?_
          refine z_lload kd_M_findRounds_254 0 rfl ?_
          refine z_lastN (t0 := 1) kd_M_findRounds_256 (by assumption) x718 (by omega) (by decide) ?_
          refine z_upd (fun σ_41 x71_41 q_41 => ?_)
          have x60_41 := (q_41 60 (by omega)).trans x608
          have hM_41 := hM8.fr q_41 (by omega)
          refine z_aload_n kd_M_findRounds_257 5 rfl ?_
          refine z_dup kd_M_findRounds_258 rfl ?_
          refine z_get kd_M_findRounds_259 (kf_M_183 _) hM_41.h1 rfl ?_
          refine z_iconst (v := 1) kd_M_findRounds_262 (by decide) ?_
          refine z_iadd kd_M_findRounds_263 ?_
          refine z_topi (nI_add c 1) ?_
          refine z_putE (fs' := [_, _, _, _, _, _, _, _, _, _, _, _, _, _, _, _, _, _, _, _, _, _, _, _, _]) kd_M_findRounds_264 (kp_M_183 _) hM_41.h1 (Nat.le_of_ble_eq_true rfl) rfl rfl rfl ?_
          refine z_upd (fun σ_42 x54_42 q_42 => ?_)
          have x60_42 := (q_42 60 (by omega)).trans x60_41
          have x71_42 := (q_42 71 (by omega)).trans x71_41
          have hM_42 := hM_41.put x54_42 q_42
          refine z_iinc (v := (nI (t + 1))) (lv' := [(4, .int _), (8, .long _), (5, .long _), (3, .int _), (1, .long _), (0, .ref (b + 54))]) kd_M_findRounds_267 2 rfl (nI_1 _) (by decide) rfl ?_
          refine z_goto (tgt := 100) kd_M_findRounds_270 (by decide) ?_
          refine z_pick (lv' := [(4, .int (nI (t + 1))), (3, .int (nI s)), (1, .long d), (0, .ref (b + 54))]) [0, 3, 4, 5] rfl ?_
          exact ih (t + 1) _ _ _ _ (by omega) (by omega) ⟨_, _, _, hM_42⟩ (hQr8.fr (fun k h1 h2 h3 => (q_42 k (by omega)).trans (q_41 k (by omega)))) ⟨_, x60_42, r608⟩ hR8 ⟨_, x71_42, hL.set⟩ (Fr.tr (Fr.tr hF8 (q_41.wide (by omega) (by omega))) (q_42.wide (by omega) (by omega))) hv
theorem moA_ij {d : Int64} {A : Nat → Nat → Int64} {s i j : Nat} : moA d A s i j A i j = A i j := if_neg (by omega)
set_option maxHeartbeats 4000000 in
set_option maxRecDepth 100000 in
theorem l_M_rd1 {l : Launch} {D : va_G} {tys : List (ClassId × FieldType)} {b N : Nat} {σ0 : Nat → Option va_E} {cI cJ cA : ClassId} (ht0 : tys[0]? = some (cI, .int)) (ht1 : tys[1]? = some (cJ, .long)) (ht3 : tys[3]? = some (cA, .array .long)) {th fa ls rm : Value} {n a : Nat} {gf gt gw : Nat → Int32} {F T : Nat → Nat} {s : Nat} {d : Int64} (hs : s ≤ 10) (hd : 0 < d.toInt) (hd2 : d.toInt < 4611686018427387904) {A : Nat → Nat → Int64} {i : Nat} (hi : i < s) {Q : Outcome → Nat → (Nat → Option va_E) → Prop} (kk : ∀ (σ : Nat → Option va_E) (g : Nat → Int64), MN b cI σ th fa ls rm n a gf gt gw F T → σ 60 = some (.inl (cJ, 100, .inr (.inl g))) → RM g (moA d A s (i + 1) 0 A) → Fr 60 60 σ0 σ → Z l D kCl tys (kh_M_findRounds :: zT) kNw ky_M_findRounds.cls ky_M_findRounds.name kb_M_findRounds 10 (some FieldType.boolean) { frames := 6, cells := 0, slots := 0, locals := 240 } b (zFi D kCl b 0 0 Q) 0 0 N (σ) 38 [(4, .int (nI (i + 1))), (3, .int (nI s)), (1, .long d), (0, .ref (b + 54))] []) : ∀ (m j : Nat) (σ : Nat → Option va_E) (g : Nat → Int64), j + m = s → MN b cI σ th fa ls rm n a gf gt gw F T → σ 60 = some (.inl (cJ, 100, .inr (.inl g))) → RM g (moA d A s i j A) → Fr 60 60 σ0 σ → Z l D kCl tys (kh_M_findRounds :: zT) kNw ky_M_findRounds.cls ky_M_findRounds.name kb_M_findRounds 10 (some FieldType.boolean) { frames := 6, cells := 0, slots := 0, locals := 240 } b (zFi D kCl b 0 0 Q) 0 0 N (σ) 47 [(5, .int (nI j)), (4, .int (nI i)), (3, .int (nI s)), (1, .long d), (0, .ref (b + 54))] [] := by
  have hd0 : ¬ d = 0 := fun z => by rw [z] at hd; exact absurd hd (by decide)
  intro m
  induction m with
  | zero =>
    intro j σ g hj hM h60 r60 hF
    obtain rfl : j = s := by omega
    rw [moA_n] at r60
    refine z_iload kd_M_findRounds_47 0 rfl ?_
    refine z_iload_n kd_M_findRounds_49 2 rfl ?_
    refine z_icmp_ge (tgt := 91) kd_M_findRounds_50 (by decide) (fun c50 => ?_) (fun c50 => ?_)
    · refine z_iinc (v := (nI (i + 1))) (lv' := [(4, .int _), (5, .int _), (3, .int _), (1, .long _), (0, .ref (b + 54))]) kd_M_findRounds_91 1 rfl (nI_1 _) (by decide) rfl ?_
      refine z_goto (tgt := 38) kd_M_findRounds_94 (by decide) ?_
      refine z_pick (lv' := [(4, .int (nI (i + 1))), (3, .int (nI j)), (1, .long d), (0, .ref (b + 54))]) [0, 2, 3, 4] rfl ?_
      exact kk _ _ hM h60 r60 hF
    · exact absurd (nI_le (Nat.le_refl j) (by omega)) c50
  | succ m ih =>
    intro j σ g hj hM h60 r60 hF
    have hlt : j < s := by omega
    refine z_iload kd_M_findRounds_47 0 rfl ?_
    refine z_iload_n kd_M_findRounds_49 2 rfl ?_
    refine z_icmp_ge (tgt := 91) kd_M_findRounds_50 (by decide) (fun c50 => ?_) (fun c50 => ?_)
    · exact absurd c50 (nI_ge hlt (by omega))
    · refine z_aload_n kd_M_findRounds_53 4 rfl ?_
      refine z_get kd_M_findRounds_54 (kf_M_26 _) hM.h1 rfl ?_
      refine z_bipush (v := 10) kd_M_findRounds_57 (by decide +kernel) ?_
      refine z_iload kd_M_findRounds_59 1 rfl ?_
      refine z_imul kd_M_findRounds_61 ?_
      refine z_topi (nI_mul 10 i) ?_
      refine z_iload kd_M_findRounds_62 0 rfl ?_
      refine z_iadd kd_M_findRounds_64 ?_
      refine z_topi (nI_add (10 * i) j) ?_
      refine z_aload_n kd_M_findRounds_65 4 rfl ?_
      refine z_get kd_M_findRounds_66 (kf_M_26 _) hM.h1 rfl ?_
      refine z_bipush (v := 10) kd_M_findRounds_69 (by decide +kernel) ?_
      refine z_iload kd_M_findRounds_71 1 rfl ?_
      refine z_imul kd_M_findRounds_73 ?_
      refine z_topi (nI_mul 10 i) ?_
      refine z_iload kd_M_findRounds_74 0 rfl ?_
      refine z_iadd kd_M_findRounds_76 ?_
      refine z_topi (nI_add (10 * i) j) ?_
      refine z_laldN (t0 := 1) kd_M_findRounds_77 (by assumption) h60 (by omega) (by decide) ?_
      refine z_topl (RM.get r60 (i := i) (j := j) (by omega) (by omega)) ?_
      refine z_topl moA_ij ?_
      refine z_lload_n kd_M_findRounds_78 3 rfl ?_
      refine z_lrem kd_M_findRounds_79 hd0 ?_
      refine z_lload_n kd_M_findRounds_80 3 rfl ?_
      refine z_ladd kd_M_findRounds_81 ?_
      refine z_lload_n kd_M_findRounds_82 3 rfl ?_
      refine z_lrem kd_M_findRounds_83 hd0 ?_
      refine z_lastN (t0 := 1) kd_M_findRounds_84 (by assumption) h60 (by omega) (by decide) ?_
      refine z_upd (fun σ_1 x60_1 q_1 => ?_)
      have hM_1 := hM.fr q_1 (by omega)
      have r60_1 := RM.setX (i := i) (j := j) r60 (by omega) (by omega) x60_1
      refine z_iinc (v := (nI (j + 1))) (lv' := [(5, .int _), (4, .int _), (3, .int _), (1, .long _), (0, .ref (b + 54))]) kd_M_findRounds_85 0 rfl (nI_1 _) (by decide) rfl ?_
      refine z_goto (tgt := 47) kd_M_findRounds_88 (by decide) ?_
      refine z_pick (lv' := [(5, .int (nI (j + 1))), (4, .int (nI i)), (3, .int (nI s)), (1, .long d), (0, .ref (b + 54))]) [0, 1, 2, 3, 4] rfl ?_
      exact ih (j + 1) _ _ (by omega) hM_1 x60_1 (by rw [← moA_s]; exact r60_1) (Fr.tr hF (q_1.wide (by omega) (by omega)))
set_option maxHeartbeats 4000000 in
set_option maxRecDepth 100000 in
theorem l_M_rd2 {l : Launch} {D : va_G} {tys : List (ClassId × FieldType)} {b N : Nat} {σ0 : Nat → Option va_E} {cI cJ cA : ClassId} (ht0 : tys[0]? = some (cI, .int)) (ht1 : tys[1]? = some (cJ, .long)) (ht3 : tys[3]? = some (cA, .array .long)) {th fa ls rm : Value} {n a : Nat} {gf gt gw : Nat → Int32} {F T : Nat → Nat} {s : Nat} {d : Int64} (hs : s ≤ 10) (hd : 0 < d.toInt) (hd2 : d.toInt < 4611686018427387904) {A : Nat → Nat → Int64} {Q : Outcome → Nat → (Nat → Option va_E) → Prop} (kk : ∀ (σ : Nat → Option va_E) (g : Nat → Int64), MN b cI σ th fa ls rm n a gf gt gw F T → σ 60 = some (.inl (cJ, 100, .inr (.inl g))) → RM g (moA d A s s 0 A) → Fr 60 60 σ0 σ → Z l D kCl tys (kh_M_findRounds :: zT) kNw ky_M_findRounds.cls ky_M_findRounds.name kb_M_findRounds 10 (some FieldType.boolean) { frames := 6, cells := 0, slots := 0, locals := 240 } b (zFi D kCl b 0 0 Q) 0 0 N (σ) 97 [(3, .int (nI s)), (1, .long d), (0, .ref (b + 54))] []) : ∀ (m i : Nat) (σ : Nat → Option va_E) (g : Nat → Int64), i + m = s → MN b cI σ th fa ls rm n a gf gt gw F T → σ 60 = some (.inl (cJ, 100, .inr (.inl g))) → RM g (moA d A s i 0 A) → Fr 60 60 σ0 σ → Z l D kCl tys (kh_M_findRounds :: zT) kNw ky_M_findRounds.cls ky_M_findRounds.name kb_M_findRounds 10 (some FieldType.boolean) { frames := 6, cells := 0, slots := 0, locals := 240 } b (zFi D kCl b 0 0 Q) 0 0 N (σ) 38 [(4, .int (nI i)), (3, .int (nI s)), (1, .long d), (0, .ref (b + 54))] [] := by
  intro m
  induction m with
  | zero =>
    intro i σ g hi hM h60 r60 hF
    obtain rfl : i = s := by omega
    refine z_iload kd_M_findRounds_38 0 rfl ?_
    refine z_iload_n kd_M_findRounds_40 1 rfl ?_
    refine z_icmp_ge (tgt := 97) kd_M_findRounds_41 (by decide) (fun c41 => ?_) (fun c41 => ?_)
    · refine z_pick (lv' := [(3, .int (nI i)), (1, .long d), (0, .ref (b + 54))]) [1, 2, 3] rfl ?_
      exact kk _ _ hM h60 r60 hF
    · exact absurd (nI_le (Nat.le_refl i) (by omega)) c41
  | succ m ih =>
    intro i σ g hi hM h60 r60 hF
    have hlt : i < s := by omega
    refine z_iload kd_M_findRounds_38 0 rfl ?_
    refine z_iload_n kd_M_findRounds_40 1 rfl ?_
    refine z_icmp_ge (tgt := 97) kd_M_findRounds_41 (by decide) (fun c41 => ?_) (fun c41 => ?_)
    · exact absurd c41 (nI_ge hlt (by omega))
    · refine z_iconst (v := 0) kd_M_findRounds_44 (by decide) ?_
      refine z_istore (lv' := [(5, .int _), (4, .int _), (3, .int _), (1, .long _), (0, .ref (b + 54))]) kd_M_findRounds_45 (by decide) rfl ?_
      refine z_pick (lv' := [(5, .int (nI 0)), (4, .int (nI i)), (3, .int (nI s)), (1, .long d), (0, .ref (b + 54))]) [0, 1, 2, 3, 4] rfl ?_
      exact l_M_rd1 ht0 ht1 ht3 hs hd hd2 hlt (fun σ g hM h60 r60 hF => ih (i + 1) _ _ (by omega) hM h60 r60 hF) s 0 _ _ (by omega) hM h60 r60 hF
set_option maxHeartbeats 4000000 in
set_option maxRecDepth 100000 in
theorem c_M_findRounds0 {l : Launch} {D : va_G} {tys : List (ClassId × FieldType)} {b N : Nat} {σ : Nat → Option va_E} {cI cJ cA : ClassId} (ht0 : tys[0]? = some (cI, .int)) (ht1 : tys[1]? = some (cJ, .long)) (ht3 : tys[3]? = some (cA, .array .long)) {cZ : ClassId} (ht2 : tys[2]? = some (cZ, .boolean)) {n a : Nat} {gf gt gw : Nat → Int32} {F T : Nat → Nat} {C K : Nat → Int64} (hMS : MS b cI cJ cZ σ n a gf gt gw F T C K) (h0 : cnV n a F T gw x0 (fun v => v) = 0) : zM l D kCl tys kNw b ky_M_findRounds (kh_M_findRounds :: zT) 6 240 0 0 [.ref (b + 54)] N σ ((fun oc N' σ' => oc = .returned (some (.int 0)) ∧ N' = N ∧ MS b cI cJ cZ σ' n a gf gt gw F T C K ∧ (∃ th fa ls, MN b cI σ' th fa ls (.int (nI 0)) n a gf gt gw F T) ∧ (∃ g, σ' 71 = some (.inl (cJ, 10, .inr (.inl g))) ∧ LJ (0) g (fun _ => 0)) ∧ Fr 54 73 σ σ')) := by
  refine zM.of (by decide +kernel) rfl (Nat.le_of_ble_eq_true rfl) ?_
  refine z_pick (lv' := [(0, .ref (b + 54))]) [0] rfl ?_
  obtain ⟨⟨th, fa, ls, rm, hM⟩, h58, h59, ⟨g60, h60⟩, ⟨g61, h61⟩, ⟨g62, h62⟩, ⟨g63, h63⟩, ⟨g64, h64⟩, ⟨g65, h65⟩, ⟨g66, h66⟩, ⟨g67, h67⟩, ⟨g68, h68⟩, ⟨g69, h69⟩, ⟨g70, h70⟩, ⟨g71, h71⟩, ⟨g72, h72⟩, ⟨g73, h73⟩⟩ := hMS
  have hn := hM.hn
  have ha := hM.ha
  refine z_aload_n kd_M_findRounds_0 0 rfl ?_
  refine z_callV (a := 54) (As := []) kd_M_findRounds_1 (kg_M_133 _) hM.h1 kc_M (c_M_trees ht0 ht1 ht3 ht2 ⟨⟨_, _, _, _, hM⟩, h58, h59, ⟨_, h60⟩, ⟨_, h61⟩, ⟨_, h62⟩, ⟨_, h63⟩, ⟨_, h64⟩, ⟨_, h65⟩, ⟨_, h66⟩, ⟨_, h67⟩, ⟨_, h68⟩, ⟨_, h69⟩, ⟨_, h70⟩, ⟨_, h71⟩, ⟨_, h72⟩, ⟨_, h73⟩⟩) rfl rfl (Nat.le_of_ble_eq_true rfl) ⟨Nat.le_of_ble_eq_true rfl, Nat.le_of_ble_eq_true rfl⟩ ⟨Nat.le_of_ble_eq_true rfl, Nat.le_of_ble_eq_true rfl⟩ ?_
  rintro _ _ σ_1 ⟨hv, rfl, ⟨⟨th_1, fa_1, ls_1, rm_1, hM_1⟩, h58_1, h59_1, ⟨g60_1, h60_1⟩, ⟨g61_1, h61_1⟩, ⟨g62_1, h62_1⟩, ⟨g63_1, h63_1⟩, ⟨g64_1, h64_1⟩, ⟨g65_1, h65_1⟩, ⟨g66_1, h66_1⟩, ⟨g67_1, h67_1⟩, ⟨g68_1, h68_1⟩, ⟨g69_1, h69_1⟩, ⟨g70_1, h70_1⟩, ⟨g71_1, h71_1⟩, ⟨g72_1, h72_1⟩, ⟨g73_1, h73_1⟩⟩, ⟨g2_1, g3_1, x62_1, hp_1, x63_1, hX_1⟩, q_1⟩
  cases hv
  refine z_eq (st' := [_]) rfl rfl rfl rfl ?_
  refine z_lstore_n (lv' := [(1, .long _), (0, .ref (b + 54))]) kd_M_findRounds_4 (by decide) rfl ?_
  refine z_aload_n kd_M_findRounds_5 1 rfl ?_
  refine z_iconst (v := nI 0) kd_M_findRounds_6 (by decide) ?_
  refine z_putE (fs' := [_, _, _, _, _, _, _, _, _, _, _, _, _, _, _, _, _, _, _, _, _, _, _, _, _]) kd_M_findRounds_7 (kp_M_183 _) hM_1.h1 (Nat.le_of_ble_eq_true rfl) rfl rfl rfl ?_
  refine z_upd (fun σ_2 x54_2 q_2 => ?_)
  have x58_2 := (q_2 58 (by omega)).trans h58_1
  have x59_2 := (q_2 59 (by omega)).trans h59_1
  have x60_2 := (q_2 60 (by omega)).trans h60_1
  have x61_2 := (q_2 61 (by omega)).trans h61_1
  have x62_2 := (q_2 62 (by omega)).trans x62_1
  have x63_2 := (q_2 63 (by omega)).trans x63_1
  have x64_2 := (q_2 64 (by omega)).trans h64_1
  have x65_2 := (q_2 65 (by omega)).trans h65_1
  have x66_2 := (q_2 66 (by omega)).trans h66_1
  have x67_2 := (q_2 67 (by omega)).trans h67_1
  have x68_2 := (q_2 68 (by omega)).trans h68_1
  have x69_2 := (q_2 69 (by omega)).trans h69_1
  have x70_2 := (q_2 70 (by omega)).trans h70_1
  have x71_2 := (q_2 71 (by omega)).trans h71_1
  have x72_2 := (q_2 72 (by omega)).trans h72_1
  have x73_2 := (q_2 73 (by omega)).trans h73_1
  have hM_2 := hM_1.put x54_2 q_2
  refine z_lload_n kd_M_findRounds_10 0 rfl ?_
  refine z_lconst (v := 0) kd_M_findRounds_11 (by decide +kernel) ?_
  refine z_lcmp kd_M_findRounds_12 ?_
  refine z_if_ne (tgt := 18) kd_M_findRounds_13 (by decide) (fun c13 => ?_) (fun c13 => ?_)
  · exact absurd ((lg_cmp_0 _ _).mpr h0) c13
  · refine z_iconst (v := 0) kd_M_findRounds_16 (by decide) ?_
    exact z_zret kd_M_findRounds_17 rfl rfl (Nat.le_of_ble_eq_true rfl) (Nat.le_of_ble_eq_true rfl) ⟨rfl, rfl, ⟨⟨_, _, _, _, hM_2⟩, x58_2, x59_2, ⟨_, x60_2⟩, ⟨_, x61_2⟩, ⟨_, x62_2⟩, ⟨_, x63_2⟩, ⟨_, x64_2⟩, ⟨_, x65_2⟩, ⟨_, x66_2⟩, ⟨_, x67_2⟩, ⟨_, x68_2⟩, ⟨_, x69_2⟩, ⟨_, x70_2⟩, ⟨_, x71_2⟩, ⟨_, x72_2⟩, ⟨_, x73_2⟩⟩, ⟨_, _, _, hM_2⟩, ⟨_, x71_2, fun j hj => absurd hj (Nat.not_lt_zero j)⟩, (Fr.tr (Fr.tr Fr.rf (q_1.wide (by omega) (by omega))) (q_2.wide (by omega) (by omega)))⟩
set_option maxHeartbeats 4000000 in
set_option maxRecDepth 100000 in
theorem c_M_findRounds1 {l : Launch} {D : va_G} {tys : List (ClassId × FieldType)} {b N : Nat} {σ : Nat → Option va_E} {cI cJ cA : ClassId} (ht0 : tys[0]? = some (cI, .int)) (ht1 : tys[1]? = some (cJ, .long)) (ht3 : tys[3]? = some (cA, .array .long)) {cZ : ClassId} (ht2 : tys[2]? = some (cZ, .boolean)) {n a : Nat} {gf gt gw : Nat → Int32} {F T : Nat → Nat} {C K : Nat → Int64} (hMS : MS b cI cJ cZ σ n a gf gt gw F T C K) (hn0 : 0 < n) (h0 : ¬ cnV n a F T gw x0 (fun v => v) = 0) (hd : 0 < (cnV n a F T gw x0 (fun v => v)).toInt) (hd2 : (cnV n a F T gw x0 (fun v => v)).toInt < 4611686018427387904) {f : Nat} {val : Nat × (Nat → Int64)} (hv : fdV n a F T gw (cnV n a F T gw x0 (fun v => v)) f = some val) : zM l D kCl tys kNw b ky_M_findRounds (kh_M_findRounds :: zT) 6 240 0 0 [.ref (b + 54)] N σ ((fun oc N' σ' => oc = .returned (some (.int 1)) ∧ N' = N ∧ MS b cI cJ cZ σ' n a gf gt gw F T C K ∧ (∃ th fa ls, MN b cI σ' th fa ls (.int (nI val.1)) n a gf gt gw F T) ∧ (∃ g, σ' 71 = some (.inl (cJ, 10, .inr (.inl g))) ∧ LJ (val.1) g (val.2)) ∧ Fr 54 73 σ σ')) := by
  refine zM.of (by decide +kernel) rfl (Nat.le_of_ble_eq_true rfl) ?_
  refine z_pick (lv' := [(0, .ref (b + 54))]) [0] rfl ?_
  obtain ⟨⟨th, fa, ls, rm, hM⟩, h58, h59, ⟨g60, h60⟩, ⟨g61, h61⟩, ⟨g62, h62⟩, ⟨g63, h63⟩, ⟨g64, h64⟩, ⟨g65, h65⟩, ⟨g66, h66⟩, ⟨g67, h67⟩, ⟨g68, h68⟩, ⟨g69, h69⟩, ⟨g70, h70⟩, ⟨g71, h71⟩, ⟨g72, h72⟩, ⟨g73, h73⟩⟩ := hMS
  have hn := hM.hn
  have ha := hM.ha
  refine z_aload_n kd_M_findRounds_0 0 rfl ?_
  refine z_callV (a := 54) (As := []) kd_M_findRounds_1 (kg_M_133 _) hM.h1 kc_M (c_M_trees ht0 ht1 ht3 ht2 ⟨⟨_, _, _, _, hM⟩, h58, h59, ⟨_, h60⟩, ⟨_, h61⟩, ⟨_, h62⟩, ⟨_, h63⟩, ⟨_, h64⟩, ⟨_, h65⟩, ⟨_, h66⟩, ⟨_, h67⟩, ⟨_, h68⟩, ⟨_, h69⟩, ⟨_, h70⟩, ⟨_, h71⟩, ⟨_, h72⟩, ⟨_, h73⟩⟩) rfl rfl (Nat.le_of_ble_eq_true rfl) ⟨Nat.le_of_ble_eq_true rfl, Nat.le_of_ble_eq_true rfl⟩ ⟨Nat.le_of_ble_eq_true rfl, Nat.le_of_ble_eq_true rfl⟩ ?_
  rintro _ _ σ_1 ⟨hv, rfl, ⟨⟨th_1, fa_1, ls_1, rm_1, hM_1⟩, h58_1, h59_1, ⟨g60_1, h60_1⟩, ⟨g61_1, h61_1⟩, ⟨g62_1, h62_1⟩, ⟨g63_1, h63_1⟩, ⟨g64_1, h64_1⟩, ⟨g65_1, h65_1⟩, ⟨g66_1, h66_1⟩, ⟨g67_1, h67_1⟩, ⟨g68_1, h68_1⟩, ⟨g69_1, h69_1⟩, ⟨g70_1, h70_1⟩, ⟨g71_1, h71_1⟩, ⟨g72_1, h72_1⟩, ⟨g73_1, h73_1⟩⟩, ⟨g2_1, g3_1, x62_1, hp_1, x63_1, hX_1⟩, q_1⟩
  cases hv
  refine z_eq (st' := [_]) rfl rfl rfl rfl ?_
  refine z_lstore_n (lv' := [(1, .long _), (0, .ref (b + 54))]) kd_M_findRounds_4 (by decide) rfl ?_
  refine z_aload_n kd_M_findRounds_5 1 rfl ?_
  refine z_iconst (v := nI 0) kd_M_findRounds_6 (by decide) ?_
  refine z_putE (fs' := [_, _, _, _, _, _, _, _, _, _, _, _, _, _, _, _, _, _, _, _, _, _, _, _, _]) kd_M_findRounds_7 (kp_M_183 _) hM_1.h1 (Nat.le_of_ble_eq_true rfl) rfl rfl rfl ?_
  refine z_upd (fun σ_2 x54_2 q_2 => ?_)
  have x58_2 := (q_2 58 (by omega)).trans h58_1
  have x59_2 := (q_2 59 (by omega)).trans h59_1
  have x60_2 := (q_2 60 (by omega)).trans h60_1
  have x61_2 := (q_2 61 (by omega)).trans h61_1
  have x62_2 := (q_2 62 (by omega)).trans x62_1
  have x63_2 := (q_2 63 (by omega)).trans x63_1
  have x64_2 := (q_2 64 (by omega)).trans h64_1
  have x65_2 := (q_2 65 (by omega)).trans h65_1
  have x66_2 := (q_2 66 (by omega)).trans h66_1
  have x67_2 := (q_2 67 (by omega)).trans h67_1
  have x68_2 := (q_2 68 (by omega)).trans h68_1
  have x69_2 := (q_2 69 (by omega)).trans h69_1
  have x70_2 := (q_2 70 (by omega)).trans h70_1
  have x71_2 := (q_2 71 (by omega)).trans h71_1
  have x72_2 := (q_2 72 (by omega)).trans h72_1
  have x73_2 := (q_2 73 (by omega)).trans h73_1
  have hM_2 := hM_1.put x54_2 q_2
  refine z_lload_n kd_M_findRounds_10 0 rfl ?_
  refine z_lconst (v := 0) kd_M_findRounds_11 (by decide +kernel) ?_
  refine z_lcmp kd_M_findRounds_12 ?_
  refine z_if_ne (tgt := 18) kd_M_findRounds_13 (by decide) (fun c13 => ?_) (fun c13 => ?_)
  · refine z_aload_n kd_M_findRounds_18 1 rfl ?_
    refine z_aload_n kd_M_findRounds_19 1 rfl ?_
    refine z_get kd_M_findRounds_20 (kf_M_32 _) hM_2.h1 rfl ?_
    refine z_iconst (v := nI 0) kd_M_findRounds_23 (by decide) ?_
    refine z_ialdN (t0 := 0) kd_M_findRounds_24 (by assumption) x62_2 (by omega) (by decide) ?_
    refine z_topi (hp_1 0 hn0).1 ?_
    refine z_iconst (v := -1) kd_M_findRounds_25 (by decide) ?_
    refine z_callV (a := 54) (As := [_, _]) kd_M_findRounds_26 (kg_M_109 _) hM_2.h1 kc_M (c_M_number ht0 ht1 ht3 hM_2 hp_1 (bu := some 0) (ot := none) (fun q hq => by cases hq; omega) (fun q hq => by cases hq) x62_2 x64_2) rfl rfl (Nat.le_of_ble_eq_true rfl) ⟨Nat.le_of_ble_eq_true rfl, Nat.le_of_ble_eq_true rfl⟩ ⟨Nat.le_of_ble_eq_true rfl, Nat.le_of_ble_eq_true rfl⟩ ?_
    rintro _ _ σ_3 ⟨hv, rfl, ⟨g4_3, hI_3, x64_3⟩, q_3⟩
    cases hv
    refine z_eq (st' := [_]) rfl rfl rfl rfl ?_
    have x58_3 := (q_3 58 (by omega)).trans x58_2
    have x59_3 := (q_3 59 (by omega)).trans x59_2
    have x60_3 := (q_3 60 (by omega)).trans x60_2
    have x61_3 := (q_3 61 (by omega)).trans x61_2
    have x62_3 := (q_3 62 (by omega)).trans x62_2
    have x63_3 := (q_3 63 (by omega)).trans x63_2
    have x65_3 := (q_3 65 (by omega)).trans x65_2
    have x66_3 := (q_3 66 (by omega)).trans x66_2
    have x67_3 := (q_3 67 (by omega)).trans x67_2
    have x68_3 := (q_3 68 (by omega)).trans x68_2
    have x69_3 := (q_3 69 (by omega)).trans x69_2
    have x70_3 := (q_3 70 (by omega)).trans x70_2
    have x71_3 := (q_3 71 (by omega)).trans x71_2
    have x72_3 := (q_3 72 (by omega)).trans x72_2
    have x73_3 := (q_3 73 (by omega)).trans x73_2
    have hM_3 := hM_2.fr q_3 (by omega)
    refine z_istore_n (lv' := [(3, .int _), (1, .long _), (0, .ref (b + 54))]) kd_M_findRounds_29 (by decide) rfl ?_
    refine z_aload_n kd_M_findRounds_30 2 rfl ?_
    refine z_lconst (v := 0) kd_M_findRounds_31 (by decide +kernel) ?_
    refine z_callV (a := 54) (As := [_]) kd_M_findRounds_32 (kg_M_113 _) hM_3.h1 kc_M (c_M_rows ht0 ht1 ht3 ht2 hM_3 hp_1 hX_1 hI_3 x60_3 x62_3 x63_3 x64_3 (pl := 0)) rfl rfl (Nat.le_of_ble_eq_true rfl) ⟨Nat.le_of_ble_eq_true rfl, Nat.le_of_ble_eq_true rfl⟩ ⟨Nat.le_of_ble_eq_true rfl, Nat.le_of_ble_eq_true rfl⟩ ?_
    rintro _ _ σ_4 ⟨hv, rfl, ⟨g0_4, r60_4, x60_4⟩, q_4⟩
    cases hv
    refine z_eq (st' := []) rfl rfl rfl rfl ?_
    have x58_4 := (q_4 58 (by omega)).trans x58_3
    have x59_4 := (q_4 59 (by omega)).trans x59_3
    have x61_4 := (q_4 61 (by omega)).trans x61_3
    have x62_4 := (q_4 62 (by omega)).trans x62_3
    have x63_4 := (q_4 63 (by omega)).trans x63_3
    have x64_4 := (q_4 64 (by omega)).trans x64_3
    have x65_4 := (q_4 65 (by omega)).trans x65_3
    have x66_4 := (q_4 66 (by omega)).trans x66_3
    have x67_4 := (q_4 67 (by omega)).trans x67_3
    have x68_4 := (q_4 68 (by omega)).trans x68_3
    have x69_4 := (q_4 69 (by omega)).trans x69_3
    have x70_4 := (q_4 70 (by omega)).trans x70_3
    have x71_4 := (q_4 71 (by omega)).trans x71_3
    have x72_4 := (q_4 72 (by omega)).trans x72_3
    have x73_4 := (q_4 73 (by omega)).trans x73_3
    have hM_4 := hM_3.fr q_4 (by omega)
    refine z_iconst (v := 0) kd_M_findRounds_35 (by decide) ?_
    refine z_istore (lv' := [(4, .int _), (3, .int _), (1, .long _), (0, .ref (b + 54))]) kd_M_findRounds_36 (by decide) rfl ?_
    refine z_pick (lv' := [(4, .int (nI 0)), (3, .int (nI (fdS n))), (1, .long (cnV n a F T gw x0 (fun v => v))), (0, .ref (b + 54))]) [0, 1, 2, 3] rfl ?_
    refine l_M_rd2 ht0 ht1 ht3 (s := fdS n) (d := cnV n a F T gw x0 (fun v => v)) (Nat.le_trans nmV_le hn) hd hd2 (A := fdA n a F T gw) (fun σ_5 g_5 hM_5 x60_5 r60_5 q_5 => ?_) (fdS n) 0 _ _ (by omega) hM_4 x60_4 (by rw [moA_0]; exact r60_4) Fr.rf
    have x58_5 := (q_5 58 (by omega)).trans x58_4
    have x59_5 := (q_5 59 (by omega)).trans x59_4
    have x61_5 := (q_5 61 (by omega)).trans x61_4
    have x62_5 := (q_5 62 (by omega)).trans x62_4
    have x63_5 := (q_5 63 (by omega)).trans x63_4
    have x64_5 := (q_5 64 (by omega)).trans x64_4
    have x65_5 := (q_5 65 (by omega)).trans x65_4
    have x66_5 := (q_5 66 (by omega)).trans x66_4
    have x67_5 := (q_5 67 (by omega)).trans x67_4
    have x68_5 := (q_5 68 (by omega)).trans x68_4
    have x69_5 := (q_5 69 (by omega)).trans x69_4
    have x70_5 := (q_5 70 (by omega)).trans x70_4
    have x71_5 := (q_5 71 (by omega)).trans x71_4
    have x72_5 := (q_5 72 (by omega)).trans x72_4
    have x73_5 := (q_5 73 (by omega)).trans x73_4
    refine z_iconst (v := 0) kd_M_findRounds_97 (by decide) ?_
    refine z_istore (lv' := [(4, .int _), (3, .int _), (1, .long _), (0, .ref (b + 54))]) kd_M_findRounds_98 (by decide) rfl ?_
    refine z_pick (lv' := [(4, .int (nI 0)), (3, .int (nI (fdS n))), (1, .long (cnV n a F T gw x0 (fun v => v))), (0, .ref (b + 54))]) [0, 1, 2, 3] rfl ?_
    exact l_M_fro ht0 ht1 ht3 ht2 (s := fdS n) (d := cnV n a F T gw x0 (fun v => v)) (Nat.le_trans nmV_le hn) hd hd2 (val := val) (fun σ9 hM9 hQ9 z60 z71 q9 => by
        obtain ⟨th9, fa9, ls9, hM9⟩ := hM9
        obtain ⟨y58, y59, y61, y62, y63, y64, y65, y66, y67, y68, y69, y70, y72, y73⟩ := hQ9
        obtain ⟨g9, z71, hL9⟩ := z71
        exact ⟨rfl, rfl, ⟨⟨_, _, _, _, hM9⟩, y58, y59, z60, y61, y62, y63, y64, y65, y66, y67, y68, y69, y70, ⟨_, z71⟩, y72, y73⟩, ⟨_, _, _, hM9⟩, ⟨_, z71, hL9⟩, Fr.tr (Fr.tr (Fr.tr (Fr.tr (Fr.tr (Fr.tr Fr.rf (q_1.wide (by omega) (by omega))) (q_2.wide (by omega) (by omega))) (q_3.wide (by omega) (by omega))) (q_4.wide (by omega) (by omega))) (q_5.wide (by omega) (by omega))) q9⟩) (fdS n) 0 _ _ 0 (fun _ => 0) (by omega) (by omega) ⟨_, _, _, hM_5⟩ ⟨x58_5, x59_5, ⟨_, x61_5⟩, ⟨_, x62_5⟩, ⟨_, x63_5⟩, ⟨_, x64_5⟩, ⟨_, x65_5⟩, ⟨_, x66_5⟩, ⟨_, x67_5⟩, ⟨_, x68_5⟩, ⟨_, x69_5⟩, ⟨_, x70_5⟩, ⟨_, x72_5⟩, ⟨_, x73_5⟩⟩ ⟨_, x60_5, r60_5⟩ (mo_rg hd hd2) ⟨_, x71_5, fun j hj => absurd hj (Nat.not_lt_zero j)⟩ Fr.rf hv
  · exact absurd ((lg_cmp_0 _ _).mp c13) h0
