theorem swJ_0 {r c : Nat} {M : Nat → Nat → Int64} : swJ r c 0 M = M := by
  funext p q
  unfold swJ
  rw [if_neg (by omega)]
theorem swJ_s {r c j : Nat} {M : Nat → Nat → Int64} (hne : r ≠ c) : mset (mset (swJ r c j M) r j (swJ r c j M c j)) c j (swJ r c j M r j) = swJ r c (j + 1) M := by
  funext p q
  unfold mset swJ swN
  by_cases c1 : q = j
  · subst c1
    by_cases c2 : p = c
    · subst c2; simp [show ¬ p = r from fun z => hne z.symm]
    · by_cases c3 : p = r
      · subst c3; simp [c2]
      · simp [c2, c3]
  · by_cases c4 : q < j
    · simp [c1, c4, show q < j + 1 by omega]
    · simp [c1, c4, show ¬ q < j + 1 by omega]
theorem lN_m2 {pn : Nat} (h : 2 ≤ pn) (h2 : pn < 2 ^ 62) : lN pn - 2 = lN (pn - 2) := by
  apply Int64.toInt_inj.mp
  have e1 : (lN pn).toInt = pn := by unfold lN; rw [Int64.toInt_ofNat_of_lt (by omega)]
  have e2 : (lN (pn - 2)).toInt = (pn - 2 : Nat) := by unfold lN; rw [Int64.toInt_ofNat_of_lt (by omega)]
  have e3 : (2 : Int64).toInt = 2 := rfl
  rw [i64_sub (by omega) (by omega), e1, e2, e3]; omega
theorem lN_ne0 {pn : Nat} (h : 0 < pn) (h2 : pn < 2 ^ 62) : ¬ lN pn = 0 := by
  intro q
  have e1 : (lN pn).toInt = pn := by unfold lN; rw [Int64.toInt_ofNat_of_lt (by omega)]
  rw [q] at e1
  have : (0 : Int64).toInt = 0 := rfl
  omega
/-- the part of the work that is laid -/
def moA (p : Int64) (A : Nat → Nat → Int64) (n i j : Nat) (W : Nat → Nat → Int64) : Nat → Nat → Int64 := fun x y => if (x < i ∧ y < n) ∨ (x = i ∧ y < j) then mo0 p A x y else W x y
theorem moA_0 {p : Int64} {A W : Nat → Nat → Int64} {n : Nat} : moA p A n 0 0 W = W := by
  funext x y
  unfold moA
  rw [if_neg (by omega)]
theorem moA_s {p : Int64} {A W : Nat → Nat → Int64} {n i j : Nat} : mset (moA p A n i j W) i j (jrem (jrem (A i j) p + p) p) = moA p A n i (j + 1) W := by
  funext x y
  unfold mset moA
  by_cases c : x = i ∧ y = j
  · rw [if_pos c, if_pos (by omega), c.1, c.2]; rfl
  · rw [if_neg c]
    by_cases d : (x < i ∧ y < n) ∨ (x = i ∧ y < j)
    · rw [if_pos d, if_pos (by omega)]
    · rw [if_neg d, if_neg (by omega)]
theorem moA_n {p : Int64} {A W : Nat → Nat → Int64} {n i : Nat} : moA p A n i n W = moA p A n (i + 1) 0 W := by
  funext x y
  unfold moA
  by_cases d : (x < i ∧ y < n) ∨ (x = i ∧ y < n)
  · rw [if_pos d, if_pos (by omega)]
  · rw [if_neg d, if_neg (by omega)]
set_option maxHeartbeats 4000000 in
set_option maxRecDepth 100000 in
theorem l_M_mo4 {l : Launch} {D : va_G} {tys : List (ClassId × FieldType)} {b N : Nat} {σ0 : Nat → Option va_E} {cI cJ cA : ClassId} (ht0 : tys[0]? = some (cI, .int)) (ht1 : tys[1]? = some (cJ, .long)) (ht3 : tys[3]? = some (cA, .array .long)) {th fa ls rm : Value} {n a : Nat} {gf gt gw : Nat → Int32} {F T : Nat → Nat} {s pn : Nat} (hs : s ≤ 10) (h2p : 2 ≤ pn) (hpn : pn < 2 ^ 31) {g0 : Nat → Int64} {A : Nat → Nat → Int64} {f t d : Int64} (hf : ¬ f = 0) {c i : Nat} (hc : c < s) (hi : i < s) {Q : Outcome → Nat → (Nat → Option va_E) → Prop} {Mf : Nat → Nat → Int64} (kk : ∀ (σ : Nat → Option va_E) (g : Nat → Int64), MN b cI σ th fa ls rm n a gf gt gw F T → σ 60 = some (.inl (cJ, 100, .inr (.inl g0))) → σ 61 = some (.inl (cJ, 100, .inr (.inl g))) → RM g0 A → RM g (Mf) → Fr 61 61 σ0 σ → Z l D kCl tys (kh_M_modulo :: zT) kNw ky_M_modulo.cls ky_M_modulo.name kb_M_modulo 14 (some FieldType.long) { frames := 1, cells := 0, slots := 0, locals := 60 } b (zFi D kCl b 0 0 Q) 0 0 N (σ) 264 [(10, .int (nI (i + 1))), (8, .long t), (6, .int (nI c)), (4, .long d), (0, .ref (b + 54)), (1, .int (nI s)), (2, .long (lN pn))] []) : ∀ (m j : Nat) (σ : Nat → Option va_E) (g : Nat → Int64) (M : Nat → Nat → Int64), j + m = s → MN b cI σ th fa ls rm n a gf gt gw F T → σ 60 = some (.inl (cJ, 100, .inr (.inl g0))) → σ 61 = some (.inl (cJ, 100, .inr (.inl g))) → RM g0 A → RM g (M) → Fr 61 61 σ0 σ → moE (lN pn) f c i m j M = Mf → Z l D kCl tys (kh_M_modulo :: zT) kNw ky_M_modulo.cls ky_M_modulo.name kb_M_modulo 14 (some FieldType.long) { frames := 1, cells := 0, slots := 0, locals := 60 } b (zFi D kCl b 0 0 Q) 0 0 N (σ) 294 [(13, .int (nI j)), (11, .long f), (10, .int (nI i)), (8, .long t), (6, .int (nI c)), (4, .long d), (0, .ref (b + 54)), (1, .int (nI s)), (2, .long (lN pn))] [] := by
  have hp0 : ¬ lN pn = 0 := lN_ne0 (by omega) (by omega)
  intro m
  induction m with
  | zero =>
    intro j σ g M hj hM h60 h61 r60 r61 hF hv
    obtain rfl : j = s := by omega
    have hv : M = Mf := hv
    subst hv
    refine z_iload kd_M_modulo_294 0 rfl ?_
    refine z_iload_n kd_M_modulo_296 7 rfl ?_
    refine z_icmp_ge (tgt := 360) kd_M_modulo_297 (by decide) (fun c297 => ?_) (fun c297 => ?_)
    · refine z_iinc (v := (nI (i + 1))) (lv' := [(10, .int _), (13, .int _), (11, .long _), (8, .long _), (6, .int _), (4, .long _), (0, .ref (b + 54)), (1, .int _), (2, .long _)]) kd_M_modulo_360 2 rfl (nI_1 _) (by decide) rfl ?_
      refine z_goto (tgt := 264) kd_M_modulo_363 (by decide) ?_
      refine z_pick (lv' := [(10, .int (nI (i + 1))), (8, .long t), (6, .int (nI c)), (4, .long d), (0, .ref (b + 54)), (1, .int (nI j)), (2, .long (lN pn))]) [0, 3, 4, 5, 6, 7, 8] rfl ?_
      exact kk σ g hM h60 h61 r60 r61 hF
    · exact absurd (nI_le (Nat.le_refl j) (by omega)) c297
  | succ m ih =>
    intro j σ g M hj hM h60 h61 r60 r61 hF hv
    have hlt : j < s := by omega
    unfold moE at hv
    refine z_iload kd_M_modulo_294 0 rfl ?_
    refine z_iload_n kd_M_modulo_296 7 rfl ?_
    refine z_icmp_ge (tgt := 360) kd_M_modulo_297 (by decide) (fun c297 => ?_) (fun c297 => ?_)
    · exact absurd c297 (nI_ge hlt (by omega))
    · refine z_lload kd_M_modulo_300 1 rfl ?_
      refine z_lconst (v := 0) kd_M_modulo_302 (by decide +kernel) ?_
      refine z_lcmp kd_M_modulo_303 ?_
      refine z_if_eq (tgt := 360) kd_M_modulo_304 (by decide) (fun c304 => ?_) (fun c304 => ?_)
      · exact absurd ((lg_cmp_0 _ _).mp c304) hf
      · refine z_aload_n kd_M_modulo_307 6 rfl ?_
        refine z_get kd_M_modulo_308 (kf_M_29 _) hM.h1 rfl ?_
        refine z_bipush (v := 10) kd_M_modulo_311 (by decide +kernel) ?_
        refine z_iload kd_M_modulo_313 2 rfl ?_
        refine z_imul kd_M_modulo_315 ?_
        refine z_topi (nI_mul 10 i) ?_
        refine z_iload kd_M_modulo_316 0 rfl ?_
        refine z_iadd kd_M_modulo_318 ?_
        refine z_topi (nI_add (10 * i) j) ?_
        refine z_aload_n kd_M_modulo_319 6 rfl ?_
        refine z_get kd_M_modulo_320 (kf_M_29 _) hM.h1 rfl ?_
        refine z_bipush (v := 10) kd_M_modulo_323 (by decide +kernel) ?_
        refine z_iload kd_M_modulo_325 2 rfl ?_
        refine z_imul kd_M_modulo_327 ?_
        refine z_topi (nI_mul 10 i) ?_
        refine z_iload kd_M_modulo_328 0 rfl ?_
        refine z_iadd kd_M_modulo_330 ?_
        refine z_topi (nI_add (10 * i) j) ?_
        refine z_laldN (t0 := 1) kd_M_modulo_331 (by assumption) h61 (by omega) (by decide) ?_
        refine z_topl (RM.get r61 (i := i) (j := j) (by omega) (by omega)) ?_
        refine z_lload_n kd_M_modulo_332 8 rfl ?_
        refine z_lload kd_M_modulo_333 1 rfl ?_
        refine z_lsub kd_M_modulo_335 ?_
        refine z_aload_n kd_M_modulo_336 6 rfl ?_
        refine z_get kd_M_modulo_337 (kf_M_29 _) hM.h1 rfl ?_
        refine z_bipush (v := 10) kd_M_modulo_340 (by decide +kernel) ?_
        refine z_iload kd_M_modulo_342 4 rfl ?_
        refine z_imul kd_M_modulo_344 ?_
        refine z_topi (nI_mul 10 c) ?_
        refine z_iload kd_M_modulo_345 0 rfl ?_
        refine z_iadd kd_M_modulo_347 ?_
        refine z_topi (nI_add (10 * c) j) ?_
        refine z_laldN (t0 := 1) kd_M_modulo_348 (by assumption) h61 (by omega) (by decide) ?_
        refine z_topl (RM.get r61 (i := c) (j := j) (by omega) (by omega)) ?_
        refine z_lmul kd_M_modulo_349 ?_
        refine z_ladd kd_M_modulo_350 ?_
        refine z_lload_n kd_M_modulo_351 8 rfl ?_
        refine z_lrem kd_M_modulo_352 hp0 ?_
        refine z_lastN (t0 := 1) kd_M_modulo_353 (by assumption) h61 (by omega) (by decide) ?_
        refine z_upd (fun σ_1 x61_1 q_1 => ?_)
        have x60_1 := (q_1 60 (by omega)).trans h60
        have hM_1 := hM.fr q_1 (by omega)
        have r61_1 := RM.setX (i := i) (j := j) r61 (by omega) (by omega) x61_1
        refine z_iinc (v := (nI (j + 1))) (lv' := [(13, .int _), (11, .long _), (10, .int _), (8, .long _), (6, .int _), (4, .long _), (0, .ref (b + 54)), (1, .int _), (2, .long _)]) kd_M_modulo_354 0 rfl (nI_1 _) (by decide) rfl ?_
        refine z_goto (tgt := 294) kd_M_modulo_357 (by decide) ?_
        refine z_pick (lv' := [(13, .int (nI (j + 1))), (11, .long f), (10, .int (nI i)), (8, .long t), (6, .int (nI c)), (4, .long d), (0, .ref (b + 54)), (1, .int (nI s)), (2, .long (lN pn))]) [0, 1, 2, 3, 4, 5, 6, 7, 8] rfl ?_
        exact ih (j + 1) _ _ _ (by omega) hM_1 x60_1 x61_1 r60 r61_1 (Fr.tr hF (q_1.wide (by omega) (by omega))) hv
set_option maxHeartbeats 4000000 in
set_option maxRecDepth 100000 in
theorem l_M_mo3 {l : Launch} {D : va_G} {tys : List (ClassId × FieldType)} {b N : Nat} {σ0 : Nat → Option va_E} {cI cJ cA : ClassId} (ht0 : tys[0]? = some (cI, .int)) (ht1 : tys[1]? = some (cJ, .long)) (ht3 : tys[3]? = some (cA, .array .long)) {th fa ls rm : Value} {n a : Nat} {gf gt gw : Nat → Int32} {F T : Nat → Nat} {s pn : Nat} (hs : s ≤ 10) (h2p : 2 ≤ pn) (hpn : pn < 2 ^ 31) {g0 : Nat → Int64} {A : Nat → Nat → Int64} {t d : Int64} {c : Nat} (hc : c < s) {Q : Outcome → Nat → (Nat → Option va_E) → Prop} {Mf : Nat → Nat → Int64} (kk : ∀ (σ : Nat → Option va_E) (g : Nat → Int64), MN b cI σ th fa ls rm n a gf gt gw F T → σ 60 = some (.inl (cJ, 100, .inr (.inl g0))) → σ 61 = some (.inl (cJ, 100, .inr (.inl g))) → RM g0 A → RM g (Mf) → Fr 61 61 σ0 σ → Z l D kCl tys (kh_M_modulo :: zT) kNw ky_M_modulo.cls ky_M_modulo.name kb_M_modulo 14 (some FieldType.long) { frames := 1, cells := 0, slots := 0, locals := 60 } b (zFi D kCl b 0 0 Q) 0 0 N (σ) 68 [(6, .int (nI (c + 1))), (4, .long d), (0, .ref (b + 54)), (1, .int (nI s)), (2, .long (lN pn))] []) : ∀ (m i : Nat) (σ : Nat → Option va_E) (g : Nat → Int64) (M : Nat → Nat → Int64), i + m = s → MN b cI σ th fa ls rm n a gf gt gw F T → σ 60 = some (.inl (cJ, 100, .inr (.inl g0))) → σ 61 = some (.inl (cJ, 100, .inr (.inl g))) → RM g0 A → RM g (M) → Fr 61 61 σ0 σ → moI s (lN pn) c t m i M = Mf → Z l D kCl tys (kh_M_modulo :: zT) kNw ky_M_modulo.cls ky_M_modulo.name kb_M_modulo 14 (some FieldType.long) { frames := 1, cells := 0, slots := 0, locals := 60 } b (zFi D kCl b 0 0 Q) 0 0 N (σ) 264 [(10, .int (nI i)), (8, .long t), (6, .int (nI c)), (4, .long d), (0, .ref (b + 54)), (1, .int (nI s)), (2, .long (lN pn))] [] := by
  have hp0 : ¬ lN pn = 0 := lN_ne0 (by omega) (by omega)
  intro m
  induction m with
  | zero =>
    intro i σ g M hi hM h60 h61 r60 r61 hF hv
    obtain rfl : i = s := by omega
    have hv : M = Mf := hv
    subst hv
    refine z_iload kd_M_modulo_264 0 rfl ?_
    refine z_iload_n kd_M_modulo_266 5 rfl ?_
    refine z_icmp_ge (tgt := 366) kd_M_modulo_267 (by decide) (fun c267 => ?_) (fun c267 => ?_)
    · refine z_iinc (v := (nI (c + 1))) (lv' := [(6, .int _), (10, .int _), (8, .long _), (4, .long _), (0, .ref (b + 54)), (1, .int _), (2, .long _)]) kd_M_modulo_366 2 rfl (nI_1 _) (by decide) rfl ?_
      refine z_goto (tgt := 68) kd_M_modulo_369 (by decide) ?_
      refine z_pick (lv' := [(6, .int (nI (c + 1))), (4, .long d), (0, .ref (b + 54)), (1, .int (nI i)), (2, .long (lN pn))]) [0, 3, 4, 5, 6] rfl ?_
      exact kk σ g hM h60 h61 r60 r61 hF
    · exact absurd (nI_le (Nat.le_refl i) (by omega)) c267
  | succ m ih =>
    intro i σ g M hi hM h60 h61 r60 r61 hF hv
    have hlt : i < s := by omega
    unfold moI at hv
    refine z_iload kd_M_modulo_264 0 rfl ?_
    refine z_iload_n kd_M_modulo_266 5 rfl ?_
    refine z_icmp_ge (tgt := 366) kd_M_modulo_267 (by decide) (fun c267 => ?_) (fun c267 => ?_)
    · exact absurd c267 (nI_ge hlt (by omega))
    · refine z_aload_n kd_M_modulo_270 4 rfl ?_
      refine z_get kd_M_modulo_271 (kf_M_29 _) hM.h1 rfl ?_
      refine z_bipush (v := 10) kd_M_modulo_274 (by decide +kernel) ?_
      refine z_iload kd_M_modulo_276 0 rfl ?_
      refine z_imul kd_M_modulo_278 ?_
      refine z_topi (nI_mul 10 i) ?_
      refine z_iload kd_M_modulo_279 2 rfl ?_
      refine z_iadd kd_M_modulo_281 ?_
      refine z_topi (nI_add (10 * i) c) ?_
      refine z_laldN (t0 := 1) kd_M_modulo_282 (by assumption) h61 (by omega) (by decide) ?_
      refine z_topl (RM.get r61 (i := i) (j := c) (by omega) (by omega)) ?_
      refine z_lload kd_M_modulo_283 1 rfl ?_
      refine z_lmul kd_M_modulo_285 ?_
      refine z_lload_n kd_M_modulo_286 6 rfl ?_
      refine z_lrem kd_M_modulo_287 hp0 ?_
      refine z_lstore (lv' := [(11, .long _), (10, .int _), (8, .long _), (6, .int _), (4, .long _), (0, .ref (b + 54)), (1, .int _), (2, .long _)]) kd_M_modulo_288 (by decide) rfl ?_
      refine z_iload kd_M_modulo_290 3 rfl ?_
      refine z_istore (lv' := [(13, .int _), (11, .long _), (10, .int _), (8, .long _), (6, .int _), (4, .long _), (0, .ref (b + 54)), (1, .int _), (2, .long _)]) kd_M_modulo_292 (by decide) rfl ?_
      by_cases hf : jrem (M i c * t) (lN pn) = 0
      · rw [if_pos hf] at hv
        refine z_iload kd_M_modulo_294 0 rfl ?_
        refine z_iload_n kd_M_modulo_296 7 rfl ?_
        refine z_icmp_ge (tgt := 360) kd_M_modulo_297 (by decide) (fun c297 => ?_) (fun c297 => ?_)
        · exact absurd c297 (nI_ge hc (by omega))
        · refine z_lload kd_M_modulo_300 1 rfl ?_
          refine z_lconst (v := 0) kd_M_modulo_302 (by decide +kernel) ?_
          refine z_lcmp kd_M_modulo_303 ?_
          refine z_if_eq (tgt := 360) kd_M_modulo_304 (by decide) (fun c304 => ?_) (fun c304 => ?_)
          · refine z_iinc (v := (nI (i + 1))) (lv' := [(10, .int _), (13, .int _), (11, .long _), (8, .long _), (6, .int _), (4, .long _), (0, .ref (b + 54)), (1, .int _), (2, .long _)]) kd_M_modulo_360 2 rfl (nI_1 _) (by decide) rfl ?_
            refine z_goto (tgt := 264) kd_M_modulo_363 (by decide) ?_
            refine z_pick (lv' := [(10, .int (nI (i + 1))), (8, .long t), (6, .int (nI c)), (4, .long d), (0, .ref (b + 54)), (1, .int (nI s)), (2, .long (lN pn))]) [0, 3, 4, 5, 6, 7, 8] rfl ?_
            exact ih (i + 1) _ _ _ (by omega) hM h60 h61 r60 r61 hF hv
          · exact absurd ((lg_cmp_0 _ _).mpr hf) c304
      · rw [if_neg hf] at hv
        refine z_pick (lv' := [(13, .int (nI c)), (11, .long (jrem (M i c * t) (lN pn))), (10, .int (nI i)), (8, .long t), (6, .int (nI c)), (4, .long d), (0, .ref (b + 54)), (1, .int (nI s)), (2, .long (lN pn))]) [0, 1, 2, 3, 4, 5, 6, 7, 8] rfl ?_
        refine l_M_mo4 ht0 ht1 ht3 hs h2p hpn hf hc hlt (fun σ g hM h60 h61 r60 r61 hF => ?_) (s - c) c _ _ _ (by omega) hM h60 h61 r60 r61 hF rfl
        exact ih (i + 1) _ _ _ (by omega) hM h60 h61 r60 r61 hF hv
set_option maxHeartbeats 4000000 in
set_option maxRecDepth 100000 in
theorem l_M_mo1 {l : Launch} {D : va_G} {tys : List (ClassId × FieldType)} {b N : Nat} {σ : Nat → Option va_E} {cI cJ cA : ClassId} (ht0 : tys[0]? = some (cI, .int)) (ht1 : tys[1]? = some (cJ, .long)) (ht3 : tys[3]? = some (cA, .array .long)) {th fa ls rm : Value} {n a : Nat} {gf gt gw : Nat → Int32} {F T : Nat → Nat} {s pn : Nat} (hs : s ≤ 10) (h2p : 2 ≤ pn) (hpn : pn < 2 ^ 31) {g : Nat → Int64} {d : Int64} {c : Nat} {M : Nat → Nat → Int64} (hc : c < s) {Q : Outcome → Nat → (Nat → Option va_E) → Prop} (hM : MN b cI σ th fa ls rm n a gf gt gw F T) (h61 : σ 61 = some (.inl (cJ, 100, .inr (.inl g)))) (r61 : RM g M) : ∀ (m r : Nat), r + m = s → Z l D kCl tys (kh_M_modulo :: zT) kNw ky_M_modulo.cls ky_M_modulo.name kb_M_modulo 14 (some FieldType.long) { frames := 1, cells := 0, slots := 0, locals := 60 } b (zFi D kCl b 0 0 Q) 0 0 N (σ) 108 [(7, .int (nI (moR M c m r))), (6, .int (nI c)), (4, .long d), (0, .ref (b + 54)), (1, .int (nI s)), (2, .long (lN pn))] [] → Z l D kCl tys (kh_M_modulo :: zT) kNw ky_M_modulo.cls ky_M_modulo.name kb_M_modulo 14 (some FieldType.long) { frames := 1, cells := 0, slots := 0, locals := 60 } b (zFi D kCl b 0 0 Q) 0 0 N (σ) 78 [(7, .int (nI r)), (6, .int (nI c)), (4, .long d), (0, .ref (b + 54)), (1, .int (nI s)), (2, .long (lN pn))] [] := by
  intro m
  induction m with
  | zero =>
    intro r hr kk
    obtain rfl : r = s := by omega
    refine z_iload kd_M_modulo_78 0 rfl ?_
    refine z_iload_n kd_M_modulo_80 4 rfl ?_
    refine z_icmp_ge (tgt := 108) kd_M_modulo_81 (by decide) (fun c81 => ?_) (fun c81 => ?_)
    · exact kk
    · exact absurd (nI_le (Nat.le_refl r) (by omega)) c81
  | succ m ih =>
    intro r hr kk
    have hlt : r < s := by omega
    unfold moR at kk
    refine z_iload kd_M_modulo_78 0 rfl ?_
    refine z_iload_n kd_M_modulo_80 4 rfl ?_
    refine z_icmp_ge (tgt := 108) kd_M_modulo_81 (by decide) (fun c81 => ?_) (fun c81 => ?_)
    · exact absurd c81 (nI_ge hlt (by omega))
    · refine z_aload_n kd_M_modulo_84 3 rfl ?_
      refine z_get kd_M_modulo_85 (kf_M_29 _) hM.h1 rfl ?_
      refine z_bipush (v := 10) kd_M_modulo_88 (by decide +kernel) ?_
      refine z_iload kd_M_modulo_90 0 rfl ?_
      refine z_imul kd_M_modulo_92 ?_
      refine z_topi (nI_mul 10 r) ?_
      refine z_iload kd_M_modulo_93 1 rfl ?_
      refine z_iadd kd_M_modulo_95 ?_
      refine z_topi (nI_add (10 * r) c) ?_
      refine z_laldN (t0 := 1) kd_M_modulo_96 (by assumption) h61 (by omega) (by decide) ?_
      refine z_topl (RM.get r61 (i := r) (j := c) (by omega) (by omega)) ?_
      refine z_lconst (v := 0) kd_M_modulo_97 (by decide +kernel) ?_
      refine z_lcmp kd_M_modulo_98 ?_
      refine z_if_ne (tgt := 108) kd_M_modulo_99 (by decide) (fun c99 => ?_) (fun c99 => ?_)
      · rw [if_neg (fun z => c99 ((lg_cmp_0 _ _).mpr z))] at kk
        exact kk
      · rw [if_pos ((lg_cmp_0 _ _).mp c99)] at kk
        refine z_iinc (v := (nI (r + 1))) (lv' := [(7, .int _), (6, .int _), (4, .long _), (0, .ref (b + 54)), (1, .int _), (2, .long _)]) kd_M_modulo_102 0 rfl (nI_1 _) (by decide) rfl ?_
        refine z_goto (tgt := 78) kd_M_modulo_105 (by decide) ?_
        refine z_pick (lv' := [(7, .int (nI (r + 1))), (6, .int (nI c)), (4, .long d), (0, .ref (b + 54)), (1, .int (nI s)), (2, .long (lN pn))]) [0, 1, 2, 3, 4, 5] rfl ?_
        exact ih (r + 1) (by omega) kk
set_option maxHeartbeats 4000000 in
set_option maxRecDepth 100000 in
theorem l_M_mo2 {l : Launch} {D : va_G} {tys : List (ClassId × FieldType)} {b N : Nat} {σ0 : Nat → Option va_E} {cI cJ cA : ClassId} (ht0 : tys[0]? = some (cI, .int)) (ht1 : tys[1]? = some (cJ, .long)) (ht3 : tys[3]? = some (cA, .array .long)) {th fa ls rm : Value} {n a : Nat} {gf gt gw : Nat → Int32} {F T : Nat → Nat} {s pn : Nat} (hs : s ≤ 10) (h2p : 2 ≤ pn) (hpn : pn < 2 ^ 31) {g0 : Nat → Int64} {A : Nat → Nat → Int64} {d : Int64} {c r : Nat} (hc : c < s) (hr : r < s) (hne : r ≠ c) {Q : Outcome → Nat → (Nat → Option va_E) → Prop} {M : Nat → Nat → Int64} (kk : ∀ (σ : Nat → Option va_E) (g : Nat → Int64), MN b cI σ th fa ls rm n a gf gt gw F T → σ 60 = some (.inl (cJ, 100, .inr (.inl g0))) → σ 61 = some (.inl (cJ, 100, .inr (.inl g))) → RM g0 A → RM g (swJ r c s M) → Fr 61 61 σ0 σ → Z l D kCl tys (kh_M_modulo :: zT) kNw ky_M_modulo.cls ky_M_modulo.name kb_M_modulo 14 (some FieldType.long) { frames := 1, cells := 0, slots := 0, locals := 60 } b (zFi D kCl b 0 0 Q) 0 0 N (σ) 194 [(7, .int (nI r)), (6, .int (nI c)), (4, .long d), (0, .ref (b + 54)), (1, .int (nI s)), (2, .long (lN pn))] []) : ∀ (m j : Nat) (σ : Nat → Option va_E) (g : Nat → Int64), j + m = s → MN b cI σ th fa ls rm n a gf gt gw F T → σ 60 = some (.inl (cJ, 100, .inr (.inl g0))) → σ 61 = some (.inl (cJ, 100, .inr (.inl g))) → RM g0 A → RM g (swJ r c j M) → Fr 61 61 σ0 σ → Z l D kCl tys (kh_M_modulo :: zT) kNw ky_M_modulo.cls ky_M_modulo.name kb_M_modulo 14 (some FieldType.long) { frames := 1, cells := 0, slots := 0, locals := 60 } b (zFi D kCl b 0 0 Q) 0 0 N (σ) 119 [(8, .int (nI j)), (7, .int (nI r)), (6, .int (nI c)), (4, .long d), (0, .ref (b + 54)), (1, .int (nI s)), (2, .long (lN pn))] [] := by
  intro m
  induction m with
  | zero =>
    intro j σ g hj hM h60 h61 r60 r61 hF
    obtain rfl : j = s := by omega
    refine z_iload kd_M_modulo_119 0 rfl ?_
    refine z_iload_n kd_M_modulo_121 5 rfl ?_
    refine z_icmp_ge (tgt := 194) kd_M_modulo_122 (by decide) (fun c122 => ?_) (fun c122 => ?_)
    · refine z_pick (lv' := [(7, .int (nI r)), (6, .int (nI c)), (4, .long d), (0, .ref (b + 54)), (1, .int (nI j)), (2, .long (lN pn))]) [1, 2, 3, 4, 5, 6] rfl ?_
      exact kk σ g hM h60 h61 r60 r61 hF
    · exact absurd (nI_le (Nat.le_refl j) (by omega)) c122
  | succ m ih =>
    intro j σ g hj hM h60 h61 r60 r61 hF
    have hlt : j < s := by omega
    refine z_iload kd_M_modulo_119 0 rfl ?_
    refine z_iload_n kd_M_modulo_121 5 rfl ?_
    refine z_icmp_ge (tgt := 194) kd_M_modulo_122 (by decide) (fun c122 => ?_) (fun c122 => ?_)
    · exact absurd c122 (nI_ge hlt (by omega))
    · refine z_iload kd_M_modulo_125 1 rfl ?_
      refine z_iload kd_M_modulo_127 2 rfl ?_
      refine z_icmp_eq (tgt := 194) kd_M_modulo_129 (by decide) (fun c129 => ?_) (fun c129 => ?_)
      · exact absurd ((nI_eq (by omega) (by omega)).mp c129) hne
      · refine z_aload_n kd_M_modulo_132 4 rfl ?_
        refine z_get kd_M_modulo_133 (kf_M_29 _) hM.h1 rfl ?_
        refine z_bipush (v := 10) kd_M_modulo_136 (by decide +kernel) ?_
        refine z_iload kd_M_modulo_138 1 rfl ?_
        refine z_imul kd_M_modulo_140 ?_
        refine z_topi (nI_mul 10 r) ?_
        refine z_iload kd_M_modulo_141 0 rfl ?_
        refine z_iadd kd_M_modulo_143 ?_
        refine z_topi (nI_add (10 * r) j) ?_
        refine z_laldN (t0 := 1) kd_M_modulo_144 (by assumption) h61 (by omega) (by decide) ?_
        refine z_topl (RM.get r61 (i := r) (j := j) (by omega) (by omega)) ?_
        refine z_lstore (lv' := [(9, .long _), (8, .int _), (7, .int _), (6, .int _), (4, .long _), (0, .ref (b + 54)), (1, .int _), (2, .long _)]) kd_M_modulo_145 (by decide) rfl ?_
        refine z_aload_n kd_M_modulo_147 5 rfl ?_
        refine z_get kd_M_modulo_148 (kf_M_29 _) hM.h1 rfl ?_
        refine z_bipush (v := 10) kd_M_modulo_151 (by decide +kernel) ?_
        refine z_iload kd_M_modulo_153 2 rfl ?_
        refine z_imul kd_M_modulo_155 ?_
        refine z_topi (nI_mul 10 r) ?_
        refine z_iload kd_M_modulo_156 1 rfl ?_
        refine z_iadd kd_M_modulo_158 ?_
        refine z_topi (nI_add (10 * r) j) ?_
        refine z_aload_n kd_M_modulo_159 5 rfl ?_
        refine z_get kd_M_modulo_160 (kf_M_29 _) hM.h1 rfl ?_
        refine z_bipush (v := 10) kd_M_modulo_163 (by decide +kernel) ?_
        refine z_iload kd_M_modulo_165 3 rfl ?_
        refine z_imul kd_M_modulo_167 ?_
        refine z_topi (nI_mul 10 c) ?_
        refine z_iload kd_M_modulo_168 1 rfl ?_
        refine z_iadd kd_M_modulo_170 ?_
        refine z_topi (nI_add (10 * c) j) ?_
        refine z_laldN (t0 := 1) kd_M_modulo_171 (by assumption) h61 (by omega) (by decide) ?_
        refine z_topl (RM.get r61 (i := c) (j := j) (by omega) (by omega)) ?_
        refine z_lastN (t0 := 1) kd_M_modulo_172 (by assumption) h61 (by omega) (by decide) ?_
        refine z_upd (fun σ_1 x61_1 q_1 => ?_)
        have x60_1 := (q_1 60 (by omega)).trans h60
        have hM_1 := hM.fr q_1 (by omega)
        have r61_1 := RM.setX (i := r) (j := j) r61 (by omega) (by omega) x61_1
        refine z_aload_n kd_M_modulo_173 5 rfl ?_
        refine z_get kd_M_modulo_174 (kf_M_29 _) hM_1.h1 rfl ?_
        refine z_bipush (v := 10) kd_M_modulo_177 (by decide +kernel) ?_
        refine z_iload kd_M_modulo_179 3 rfl ?_
        refine z_imul kd_M_modulo_181 ?_
        refine z_topi (nI_mul 10 c) ?_
        refine z_iload kd_M_modulo_182 1 rfl ?_
        refine z_iadd kd_M_modulo_184 ?_
        refine z_topi (nI_add (10 * c) j) ?_
        refine z_lload kd_M_modulo_185 0 rfl ?_
        refine z_lastN (t0 := 1) kd_M_modulo_187 (by assumption) x61_1 (by omega) (by decide) ?_
        refine z_upd (fun σ_2 x61_2 q_2 => ?_)
        have x60_2 := (q_2 60 (by omega)).trans x60_1
        have hM_2 := hM_1.fr q_2 (by omega)
        have r61_2 := RM.setX (i := c) (j := j) r61_1 (by omega) (by omega) x61_2
        refine z_iinc (v := (nI (j + 1))) (lv' := [(8, .int _), (9, .long _), (7, .int _), (6, .int _), (4, .long _), (0, .ref (b + 54)), (1, .int _), (2, .long _)]) kd_M_modulo_188 1 rfl (nI_1 _) (by decide) rfl ?_
        refine z_goto (tgt := 119) kd_M_modulo_191 (by decide) ?_
        refine z_pick (lv' := [(8, .int (nI (j + 1))), (7, .int (nI r)), (6, .int (nI c)), (4, .long d), (0, .ref (b + 54)), (1, .int (nI s)), (2, .long (lN pn))]) [0, 2, 3, 4, 5, 6, 7] rfl ?_
        exact ih (j + 1) _ _ (by omega) hM_2 x60_2 x61_2 r60 (by rw [← swJ_s hne]; have hq : ∀ v, mset (swJ r c j M) r j v c j = swJ r c j M c j := fun v => (by unfold mset; rw [if_neg (fun z => hne z.1.symm)]); exact r61_2) (Fr.tr (Fr.tr hF (q_1.wide (by omega) (by omega))) (q_2.wide (by omega) (by omega)))
set_option maxHeartbeats 4000000 in
set_option maxRecDepth 100000 in
theorem l_M_mo {l : Launch} {D : va_G} {tys : List (ClassId × FieldType)} {b N : Nat} {σ0 : Nat → Option va_E} {cI cJ cA : ClassId} (ht0 : tys[0]? = some (cI, .int)) (ht1 : tys[1]? = some (cJ, .long)) (ht3 : tys[3]? = some (cA, .array .long)) {th fa ls rm : Value} {n a : Nat} {gf gt gw : Nat → Int32} {F T : Nat → Nat} {s pn : Nat} (hs : s ≤ 10) (h2p : 2 ≤ pn) (hpn : pn < 2 ^ 31) {g0 : Nat → Int64} {A : Nat → Nat → Int64} {val : Int64} : ∀ (m c : Nat) (σ : Nat → Option va_E) (g : Nat → Int64) (M : Nat → Nat → Int64) (d : Int64), c + m = s → MN b cI σ th fa ls rm n a gf gt gw F T → σ 60 = some (.inl (cJ, 100, .inr (.inl g0))) → σ 61 = some (.inl (cJ, 100, .inr (.inl g))) → RM g0 A → RM g (M) → Fr 61 61 σ0 σ → moL s (lN pn) (pn - 2) m c M d = val → Z l D kCl tys (kh_M_modulo :: zT) kNw ky_M_modulo.cls ky_M_modulo.name kb_M_modulo 14 (some FieldType.long) { frames := 1, cells := 0, slots := 0, locals := 60 } b (zFi D kCl b 0 0 (fun oc N' σ' => oc = .returned (some (.long (val))) ∧ N' = N ∧ (∃ g, σ' 61 = some (.inl (cJ, 100, .inr (.inl g)))) ∧ Fr 61 61 σ0 σ')) 0 0 N (σ) 68 [(6, .int (nI c)), (4, .long d), (0, .ref (b + 54)), (1, .int (nI s)), (2, .long (lN pn))] [] := by
  have hp0 : ¬ lN pn = 0 := lN_ne0 (by omega) (by omega)
  intro m
  induction m with
  | zero =>
    intro c σ g M d hc hM h60 h61 r60 r61 hF hv
    obtain rfl : c = s := by omega
    have hv : d = val := hv
    subst hv
    refine z_iload kd_M_modulo_68 0 rfl ?_
    refine z_iload_n kd_M_modulo_70 3 rfl ?_
    refine z_icmp_ge (tgt := 372) kd_M_modulo_71 (by decide) (fun c71 => ?_) (fun c71 => ?_)
    · refine z_lload kd_M_modulo_372 1 rfl ?_
      exact z_lret kd_M_modulo_374 rfl (Nat.le_of_ble_eq_true rfl) (Nat.le_of_ble_eq_true rfl) ⟨rfl, rfl, ⟨_, h61⟩, hF⟩
    · exact absurd (nI_le (Nat.le_refl c) (by omega)) c71
  | succ m ih =>
    intro c σ g M d hc hM h60 h61 r60 r61 hF hv
    have hlt : c < s := by omega
    unfold moL at hv
    obtain ⟨q1, q2, q3, q4⟩ := moR_ok (M := M) (c := c) (n := s) (s - c) c (by omega)
    refine z_iload kd_M_modulo_68 0 rfl ?_
    refine z_iload_n kd_M_modulo_70 3 rfl ?_
    refine z_icmp_ge (tgt := 372) kd_M_modulo_71 (by decide) (fun c71 => ?_) (fun c71 => ?_)
    · exact absurd c71 (nI_ge hlt (by omega))
    · refine z_iload kd_M_modulo_74 0 rfl ?_
      refine z_istore (lv' := [(7, .int _), (6, .int _), (4, .long _), (0, .ref (b + 54)), (1, .int _), (2, .long _)]) kd_M_modulo_76 (by decide) rfl ?_
      refine z_pick (lv' := [(7, .int (nI c)), (6, .int (nI c)), (4, .long d), (0, .ref (b + 54)), (1, .int (nI s)), (2, .long (lN pn))]) [0, 1, 2, 3, 4, 5] rfl ?_
      refine l_M_mo1 ht0 ht1 ht3 hs h2p hpn hlt hM h61 r61 (s - c) c (by omega) ?_
      generalize moR M c (s - c) c = r at q1 q2 q3 q4 hv ⊢
      refine z_iload kd_M_modulo_108 0 rfl ?_
      refine z_iload_n kd_M_modulo_110 4 rfl ?_
      refine z_icmp_ne (tgt := 116) kd_M_modulo_111 (by decide) (fun c111 => ?_) (fun c111 => ?_)
      · have hrn : ¬ r = s := fun z => c111 (by rw [z])
        have hr : r < s := by omega
        rw [if_neg hrn] at hv
        refine z_iconst (v := 0) kd_M_modulo_116 (by decide) ?_
        refine z_istore (lv' := [(8, .int _), (7, .int _), (6, .int _), (4, .long _), (0, .ref (b + 54)), (1, .int _), (2, .long _)]) kd_M_modulo_117 (by decide) rfl ?_
        by_cases hrc : r = c
        · subst hrc
          unfold moS at hv
          rw [if_pos rfl, if_pos rfl] at hv
          refine z_iload kd_M_modulo_119 0 rfl ?_
          refine z_iload_n kd_M_modulo_121 5 rfl ?_
          refine z_icmp_ge (tgt := 194) kd_M_modulo_122 (by decide) (fun c122 => ?_) (fun c122 => ?_)
          · exact absurd c122 (nI_ge (a := 0) (by omega) (by omega))
          · refine z_iload kd_M_modulo_125 1 rfl ?_
            refine z_iload kd_M_modulo_127 2 rfl ?_
            refine z_icmp_eq (tgt := 194) kd_M_modulo_129 (by decide) (fun c129 => ?_) (fun c129 => ?_)
            · refine z_iload kd_M_modulo_194 1 rfl ?_
              refine z_iload kd_M_modulo_196 2 rfl ?_
              refine z_icmp_ne (tgt := 206) kd_M_modulo_198 (by decide) (fun c198 => ?_) (fun c198 => ?_)
              · exact absurd rfl c198
              · refine z_lload kd_M_modulo_201 3 rfl ?_
                refine z_goto (tgt := 212) kd_M_modulo_203 (by decide) ?_
                refine z_lstore (lv' := [(4, .long _), (8, .int _), (7, .int _), (6, .int _), (0, .ref (b + 54)), (1, .int _), (2, .long _)]) kd_M_modulo_212 (by decide) rfl ?_
                refine z_lload kd_M_modulo_214 0 rfl ?_
                refine z_aload_n kd_M_modulo_216 4 rfl ?_
                refine z_get kd_M_modulo_217 (kf_M_29 _) hM.h1 rfl ?_
                refine z_bipush (v := 10) kd_M_modulo_220 (by decide +kernel) ?_
                refine z_iload kd_M_modulo_222 3 rfl ?_
                refine z_imul kd_M_modulo_224 ?_
                refine z_topi (nI_mul 10 r) ?_
                refine z_iload kd_M_modulo_225 3 rfl ?_
                refine z_iadd kd_M_modulo_227 ?_
                refine z_topi (nI_add (10 * r) r) ?_
                refine z_laldN (t0 := 1) kd_M_modulo_228 (by assumption) h61 (by omega) (by decide) ?_
                refine z_topl (RM.get r61 (i := r) (j := r) (by omega) (by omega)) ?_
                refine z_lmul kd_M_modulo_229 ?_
                refine z_lload_n kd_M_modulo_230 6 rfl ?_
                refine z_lrem kd_M_modulo_231 hp0 ?_
                refine z_lstore (lv' := [(4, .long _), (8, .int _), (7, .int _), (6, .int _), (0, .ref (b + 54)), (1, .int _), (2, .long _)]) kd_M_modulo_232 (by decide) rfl ?_
                refine z_aload_n kd_M_modulo_234 4 rfl ?_
                refine z_get kd_M_modulo_235 (kf_M_29 _) hM.h1 rfl ?_
                refine z_bipush (v := 10) kd_M_modulo_238 (by decide +kernel) ?_
                refine z_iload kd_M_modulo_240 3 rfl ?_
                refine z_imul kd_M_modulo_242 ?_
                refine z_topi (nI_mul 10 r) ?_
                refine z_iload kd_M_modulo_243 3 rfl ?_
                refine z_iadd kd_M_modulo_245 ?_
                refine z_topi (nI_add (10 * r) r) ?_
                refine z_laldN (t0 := 1) kd_M_modulo_246 (by assumption) h61 (by omega) (by decide) ?_
                refine z_topl (RM.get r61 (i := r) (j := r) (by omega) (by omega)) ?_
                refine z_lload_n kd_M_modulo_247 6 rfl ?_
                refine z_ldc2 (v := 2) kd_M_modulo_248 (List.mem_cons_of_mem _ (zin 908 rfl rfl)) ?_
                refine z_lsub kd_M_modulo_251 ?_
                refine z_topl (lN_m2 h2p (by omega)) ?_
                refine z_lload_n kd_M_modulo_252 6 rfl ?_
                refine z_S1 (As := [_, _, _]) kd_M_modulo_253 (kg_M_85 _) (c_M_power (a := pn - 2) (by omega) hp0) rfl rfl (Nat.le_of_ble_eq_true rfl) ⟨Nat.le_of_ble_eq_true rfl, Nat.le_of_ble_eq_true rfl⟩ ⟨Nat.le_of_ble_eq_true rfl, Nat.le_of_ble_eq_true rfl⟩ ?_
                refine z_lstore (lv' := [(8, .long _), (4, .long _), (7, .int _), (6, .int _), (0, .ref (b + 54)), (1, .int _), (2, .long _)]) kd_M_modulo_256 (by decide) rfl ?_
                refine z_iload kd_M_modulo_258 3 rfl ?_
                refine z_iconst (v := 1) kd_M_modulo_260 (by decide) ?_
                refine z_iadd kd_M_modulo_261 ?_
                refine z_topi (nI_add r 1) ?_
                refine z_istore (lv' := [(10, .int _), (8, .long _), (4, .long _), (7, .int _), (6, .int _), (0, .ref (b + 54)), (1, .int _), (2, .long _)]) kd_M_modulo_262 (by decide) rfl ?_
                refine z_pick (lv' := [(10, .int (nI (r + 1))), (8, .long _), (6, .int (nI r)), (4, .long _), (0, .ref (b + 54)), (1, .int (nI s)), (2, .long (lN pn))]) [0, 1, 4, 2, 5, 6, 7] rfl ?_
                exact l_M_mo3 ht0 ht1 ht3 hs h2p hpn hlt (fun σ g hM h60 h61 r60 r61 hF => ih (r + 1) _ _ _ _ (by omega) hM h60 h61 r60 r61 hF hv) (s - (r + 1)) (r + 1) _ _ _ (by omega) hM h60 h61 r60 r61 hF rfl
            · exact absurd rfl c129
        · unfold moS at hv
          rw [if_neg hrc, if_neg hrc] at hv
          refine z_pick (lv' := [(8, .int (nI 0)), (7, .int (nI r)), (6, .int (nI c)), (4, .long d), (0, .ref (b + 54)), (1, .int (nI s)), (2, .long (lN pn))]) [0, 1, 2, 3, 4, 5, 6] rfl ?_
          refine l_M_mo2 ht0 ht1 ht3 hs h2p hpn hlt hr hrc (M := M) (fun σ g hM h60 h61 r60 r61 hF => ?_) s 0 _ _ (by omega) hM h60 h61 r60 (by rw [swJ_0]; exact r61) hF
          refine z_iload kd_M_modulo_194 0 rfl ?_
          refine z_iload kd_M_modulo_196 1 rfl ?_
          refine z_icmp_ne (tgt := 206) kd_M_modulo_198 (by decide) (fun c198 => ?_) (fun c198 => ?_)
          · refine z_lload_n kd_M_modulo_206 5 rfl ?_
            refine z_lload kd_M_modulo_207 2 rfl ?_
            refine z_lsub kd_M_modulo_209 ?_
            refine z_lload_n kd_M_modulo_210 5 rfl ?_
            refine z_lrem kd_M_modulo_211 hp0 ?_
            refine z_lstore (lv' := [(4, .long _), (7, .int _), (6, .int _), (0, .ref (b + 54)), (1, .int _), (2, .long _)]) kd_M_modulo_212 (by decide) rfl ?_
            refine z_lload kd_M_modulo_214 0 rfl ?_
            refine z_aload_n kd_M_modulo_216 3 rfl ?_
            refine z_get kd_M_modulo_217 (kf_M_29 _) hM.h1 rfl ?_
            refine z_bipush (v := 10) kd_M_modulo_220 (by decide +kernel) ?_
            refine z_iload kd_M_modulo_222 2 rfl ?_
            refine z_imul kd_M_modulo_224 ?_
            refine z_topi (nI_mul 10 c) ?_
            refine z_iload kd_M_modulo_225 2 rfl ?_
            refine z_iadd kd_M_modulo_227 ?_
            refine z_topi (nI_add (10 * c) c) ?_
            refine z_laldN (t0 := 1) kd_M_modulo_228 (by assumption) h61 (by omega) (by decide) ?_
            refine z_topl (RM.get r61 (i := c) (j := c) (by omega) (by omega)) ?_
            refine z_lmul kd_M_modulo_229 ?_
            refine z_lload_n kd_M_modulo_230 5 rfl ?_
            refine z_lrem kd_M_modulo_231 hp0 ?_
            refine z_lstore (lv' := [(4, .long _), (7, .int _), (6, .int _), (0, .ref (b + 54)), (1, .int _), (2, .long _)]) kd_M_modulo_232 (by decide) rfl ?_
            refine z_aload_n kd_M_modulo_234 3 rfl ?_
            refine z_get kd_M_modulo_235 (kf_M_29 _) hM.h1 rfl ?_
            refine z_bipush (v := 10) kd_M_modulo_238 (by decide +kernel) ?_
            refine z_iload kd_M_modulo_240 2 rfl ?_
            refine z_imul kd_M_modulo_242 ?_
            refine z_topi (nI_mul 10 c) ?_
            refine z_iload kd_M_modulo_243 2 rfl ?_
            refine z_iadd kd_M_modulo_245 ?_
            refine z_topi (nI_add (10 * c) c) ?_
            refine z_laldN (t0 := 1) kd_M_modulo_246 (by assumption) h61 (by omega) (by decide) ?_
            refine z_topl (RM.get r61 (i := c) (j := c) (by omega) (by omega)) ?_
            refine z_lload_n kd_M_modulo_247 5 rfl ?_
            refine z_ldc2 (v := 2) kd_M_modulo_248 (List.mem_cons_of_mem _ (zin 908 rfl rfl)) ?_
            refine z_lsub kd_M_modulo_251 ?_
            refine z_topl (lN_m2 h2p (by omega)) ?_
            refine z_lload_n kd_M_modulo_252 5 rfl ?_
            refine z_S1 (As := [_, _, _]) kd_M_modulo_253 (kg_M_85 _) (c_M_power (a := pn - 2) (by omega) hp0) rfl rfl (Nat.le_of_ble_eq_true rfl) ⟨Nat.le_of_ble_eq_true rfl, Nat.le_of_ble_eq_true rfl⟩ ⟨Nat.le_of_ble_eq_true rfl, Nat.le_of_ble_eq_true rfl⟩ ?_
            refine z_lstore (lv' := [(8, .long _), (4, .long _), (7, .int _), (6, .int _), (0, .ref (b + 54)), (1, .int _), (2, .long _)]) kd_M_modulo_256 (by decide) rfl ?_
            refine z_iload kd_M_modulo_258 3 rfl ?_
            refine z_iconst (v := 1) kd_M_modulo_260 (by decide) ?_
            refine z_iadd kd_M_modulo_261 ?_
            refine z_topi (nI_add c 1) ?_
            refine z_istore (lv' := [(10, .int _), (8, .long _), (4, .long _), (7, .int _), (6, .int _), (0, .ref (b + 54)), (1, .int _), (2, .long _)]) kd_M_modulo_262 (by decide) rfl ?_
            refine z_pick (lv' := [(10, .int (nI (c + 1))), (8, .long _), (6, .int (nI c)), (4, .long _), (0, .ref (b + 54)), (1, .int (nI s)), (2, .long (lN pn))]) [0, 1, 4, 2, 5, 6, 7] rfl ?_
            exact l_M_mo3 ht0 ht1 ht3 hs h2p hpn hlt (fun σ g hM h60 h61 r60 r61 hF => ih (c + 1) _ _ _ _ (by omega) hM h60 h61 r60 r61 hF hv) (s - (c + 1)) (c + 1) _ _ _ (by omega) hM h60 h61 r60 r61 hF rfl
          · exact absurd ((nI_eq (by omega) (by omega)).mp c198) hrc
      · have hrn : r = s := (nI_eq (by omega) (by omega)).mp c111
        rw [if_pos hrn] at hv
        subst hv
        refine z_lconst (v := 0) kd_M_modulo_114 (by decide +kernel) ?_
        exact z_lret kd_M_modulo_115 rfl (Nat.le_of_ble_eq_true rfl) (Nat.le_of_ble_eq_true rfl) ⟨rfl, rfl, ⟨_, h61⟩, hF⟩
set_option maxHeartbeats 4000000 in
set_option maxRecDepth 100000 in
theorem l_M_mo6 {l : Launch} {D : va_G} {tys : List (ClassId × FieldType)} {b N : Nat} {σ0 : Nat → Option va_E} {cI cJ cA : ClassId} (ht0 : tys[0]? = some (cI, .int)) (ht1 : tys[1]? = some (cJ, .long)) (ht3 : tys[3]? = some (cA, .array .long)) {th fa ls rm : Value} {n a : Nat} {gf gt gw : Nat → Int32} {F T : Nat → Nat} {s pn : Nat} (hs : s ≤ 10) (h2p : 2 ≤ pn) (hpn : pn < 2 ^ 31) {g0 : Nat → Int64} {A : Nat → Nat → Int64} {W0 : Nat → Nat → Int64} {i : Nat} (hi : i < s) {Q : Outcome → Nat → (Nat → Option va_E) → Prop} (kk : ∀ (σ : Nat → Option va_E) (g : Nat → Int64), MN b cI σ th fa ls rm n a gf gt gw F T → σ 60 = some (.inl (cJ, 100, .inr (.inl g0))) → σ 61 = some (.inl (cJ, 100, .inr (.inl g))) → RM g0 A → RM g (moA (lN pn) A s (i + 1) 0 W0) → Fr 61 61 σ0 σ → Z l D kCl tys (kh_M_modulo :: zT) kNw ky_M_modulo.cls ky_M_modulo.name kb_M_modulo 14 (some FieldType.long) { frames := 1, cells := 0, slots := 0, locals := 60 } b (zFi D kCl b 0 0 Q) 0 0 N (σ) 3 [(4, .int (nI (i + 1))), (0, .ref (b + 54)), (1, .int (nI s)), (2, .long (lN pn))] []) : ∀ (m j : Nat) (σ : Nat → Option va_E) (g : Nat → Int64), j + m = s → MN b cI σ th fa ls rm n a gf gt gw F T → σ 60 = some (.inl (cJ, 100, .inr (.inl g0))) → σ 61 = some (.inl (cJ, 100, .inr (.inl g))) → RM g0 A → RM g (moA (lN pn) A s i j W0) → Fr 61 61 σ0 σ → Z l D kCl tys (kh_M_modulo :: zT) kNw ky_M_modulo.cls ky_M_modulo.name kb_M_modulo 14 (some FieldType.long) { frames := 1, cells := 0, slots := 0, locals := 60 } b (zFi D kCl b 0 0 Q) 0 0 N (σ) 12 [(5, .int (nI j)), (4, .int (nI i)), (0, .ref (b + 54)), (1, .int (nI s)), (2, .long (lN pn))] [] := by
  have hp0 : ¬ lN pn = 0 := lN_ne0 (by omega) (by omega)
  intro m
  induction m with
  | zero =>
    intro j σ g hj hM h60 h61 r60 r61 hF
    obtain rfl : j = s := by omega
    rw [moA_n] at r61
    refine z_iload kd_M_modulo_12 0 rfl ?_
    refine z_iload_n kd_M_modulo_14 3 rfl ?_
    refine z_icmp_ge (tgt := 56) kd_M_modulo_15 (by decide) (fun c15 => ?_) (fun c15 => ?_)
    · refine z_iinc (v := (nI (i + 1))) (lv' := [(4, .int _), (5, .int _), (0, .ref (b + 54)), (1, .int _), (2, .long _)]) kd_M_modulo_56 1 rfl (nI_1 _) (by decide) rfl ?_
      refine z_goto (tgt := 3) kd_M_modulo_59 (by decide) ?_
      refine z_pick (lv' := [(4, .int (nI (i + 1))), (0, .ref (b + 54)), (1, .int (nI j)), (2, .long (lN pn))]) [0, 2, 3, 4] rfl ?_
      exact kk σ g hM h60 h61 r60 r61 hF
    · exact absurd (nI_le (Nat.le_refl j) (by omega)) c15
  | succ m ih =>
    intro j σ g hj hM h60 h61 r60 r61 hF
    have hlt : j < s := by omega
    refine z_iload kd_M_modulo_12 0 rfl ?_
    refine z_iload_n kd_M_modulo_14 3 rfl ?_
    refine z_icmp_ge (tgt := 56) kd_M_modulo_15 (by decide) (fun c15 => ?_) (fun c15 => ?_)
    · exact absurd c15 (nI_ge hlt (by omega))
    · refine z_aload_n kd_M_modulo_18 2 rfl ?_
      refine z_get kd_M_modulo_19 (kf_M_29 _) hM.h1 rfl ?_
      refine z_bipush (v := 10) kd_M_modulo_22 (by decide +kernel) ?_
      refine z_iload kd_M_modulo_24 1 rfl ?_
      refine z_imul kd_M_modulo_26 ?_
      refine z_topi (nI_mul 10 i) ?_
      refine z_iload kd_M_modulo_27 0 rfl ?_
      refine z_iadd kd_M_modulo_29 ?_
      refine z_topi (nI_add (10 * i) j) ?_
      refine z_aload_n kd_M_modulo_30 2 rfl ?_
      refine z_get kd_M_modulo_31 (kf_M_26 _) hM.h1 rfl ?_
      refine z_bipush (v := 10) kd_M_modulo_34 (by decide +kernel) ?_
      refine z_iload kd_M_modulo_36 1 rfl ?_
      refine z_imul kd_M_modulo_38 ?_
      refine z_topi (nI_mul 10 i) ?_
      refine z_iload kd_M_modulo_39 0 rfl ?_
      refine z_iadd kd_M_modulo_41 ?_
      refine z_topi (nI_add (10 * i) j) ?_
      refine z_laldN (t0 := 1) kd_M_modulo_42 (by assumption) h60 (by omega) (by decide) ?_
      refine z_topl (RM.get r60 (i := i) (j := j) (by omega) (by omega)) ?_
      refine z_lload_n kd_M_modulo_43 4 rfl ?_
      refine z_lrem kd_M_modulo_44 hp0 ?_
      refine z_lload_n kd_M_modulo_45 4 rfl ?_
      refine z_ladd kd_M_modulo_46 ?_
      refine z_lload_n kd_M_modulo_47 4 rfl ?_
      refine z_lrem kd_M_modulo_48 hp0 ?_
      refine z_lastN (t0 := 1) kd_M_modulo_49 (by assumption) h61 (by omega) (by decide) ?_
      refine z_upd (fun σ_1 x61_1 q_1 => ?_)
      have x60_1 := (q_1 60 (by omega)).trans h60
      have hM_1 := hM.fr q_1 (by omega)
      have r61_1 := RM.setX (i := i) (j := j) r61 (by omega) (by omega) x61_1
      refine z_iinc (v := (nI (j + 1))) (lv' := [(5, .int _), (4, .int _), (0, .ref (b + 54)), (1, .int _), (2, .long _)]) kd_M_modulo_50 0 rfl (nI_1 _) (by decide) rfl ?_
      refine z_goto (tgt := 12) kd_M_modulo_53 (by decide) ?_
      refine z_pick (lv' := [(5, .int (nI (j + 1))), (4, .int (nI i)), (0, .ref (b + 54)), (1, .int (nI s)), (2, .long (lN pn))]) [0, 1, 2, 3, 4] rfl ?_
      exact ih (j + 1) _ _ (by omega) hM_1 x60_1 x61_1 r60 (by rw [← moA_s]; exact r61_1) (Fr.tr hF (q_1.wide (by omega) (by omega)))
set_option maxHeartbeats 4000000 in
set_option maxRecDepth 100000 in
theorem l_M_mo5 {l : Launch} {D : va_G} {tys : List (ClassId × FieldType)} {b N : Nat} {σ0 : Nat → Option va_E} {cI cJ cA : ClassId} (ht0 : tys[0]? = some (cI, .int)) (ht1 : tys[1]? = some (cJ, .long)) (ht3 : tys[3]? = some (cA, .array .long)) {th fa ls rm : Value} {n a : Nat} {gf gt gw : Nat → Int32} {F T : Nat → Nat} {s pn : Nat} (hs : s ≤ 10) (h2p : 2 ≤ pn) (hpn : pn < 2 ^ 31) (hpr : prm pn) {g0 : Nat → Int64} {A : Nat → Nat → Int64} {W0 : Nat → Nat → Int64} : ∀ (m i : Nat) (σ : Nat → Option va_E) (g : Nat → Int64), i + m = s → MN b cI σ th fa ls rm n a gf gt gw F T → σ 60 = some (.inl (cJ, 100, .inr (.inl g0))) → σ 61 = some (.inl (cJ, 100, .inr (.inl g))) → RM g0 A → RM g (moA (lN pn) A s i 0 W0) → Fr 61 61 σ0 σ → Z l D kCl tys (kh_M_modulo :: zT) kNw ky_M_modulo.cls ky_M_modulo.name kb_M_modulo 14 (some FieldType.long) { frames := 1, cells := 0, slots := 0, locals := 60 } b (zFi D kCl b 0 0 (fun oc N' σ' => oc = .returned (some (.long (moV s (lN pn) (pn - 2) A))) ∧ N' = N ∧ (∃ g, σ' 61 = some (.inl (cJ, 100, .inr (.inl g)))) ∧ Fr 61 61 σ0 σ')) 0 0 N (σ) 3 [(4, .int (nI i)), (0, .ref (b + 54)), (1, .int (nI s)), (2, .long (lN pn))] [] := by
  intro m
  induction m with
  | zero =>
    intro i σ g hi hM h60 h61 r60 r61 hF
    obtain rfl : i = s := by omega
    have e1 : (lN pn).toInt = pn := by unfold lN; rw [Int64.toInt_ofNat_of_lt (by omega)]
    refine z_iload kd_M_modulo_3 0 rfl ?_
    refine z_iload_n kd_M_modulo_5 2 rfl ?_
    refine z_icmp_ge (tgt := 62) kd_M_modulo_6 (by decide) (fun c6 => ?_) (fun c6 => ?_)
    · refine z_lconst (v := 1) kd_M_modulo_62 (by decide +kernel) ?_
      refine z_lstore (lv' := [(4, .long _), (0, .ref (b + 54)), (1, .int _), (2, .long _)]) kd_M_modulo_63 (by decide) rfl ?_
      refine z_iconst (v := 0) kd_M_modulo_65 (by decide) ?_
      refine z_istore (lv' := [(6, .int _), (4, .long _), (0, .ref (b + 54)), (1, .int _), (2, .long _)]) kd_M_modulo_66 (by decide) rfl ?_
      refine z_pick (lv' := [(6, .int (nI 0)), (4, .long 1), (0, .ref (b + 54)), (1, .int (nI i)), (2, .long (lN pn))]) [0, 1, 2, 3, 4] rfl ?_
      exact l_M_mo ht0 ht1 ht3 hs h2p hpn i 0 _ _ _ _ (by omega) hM h60 h61 r60 r61 hF (moV_W hpr e1 (by omega) rfl (fun x y hx hy => if_pos (Or.inl ⟨hx, hy⟩)))
    · exact absurd (nI_le (Nat.le_refl i) (by omega)) c6
  | succ m ih =>
    intro i σ g hi hM h60 h61 r60 r61 hF
    have hlt : i < s := by omega
    refine z_iload kd_M_modulo_3 0 rfl ?_
    refine z_iload_n kd_M_modulo_5 2 rfl ?_
    refine z_icmp_ge (tgt := 62) kd_M_modulo_6 (by decide) (fun c6 => ?_) (fun c6 => ?_)
    · exact absurd c6 (nI_ge hlt (by omega))
    · refine z_iconst (v := 0) kd_M_modulo_9 (by decide) ?_
      refine z_istore (lv' := [(5, .int _), (4, .int _), (0, .ref (b + 54)), (1, .int _), (2, .long _)]) kd_M_modulo_10 (by decide) rfl ?_
      refine z_pick (lv' := [(5, .int (nI 0)), (4, .int (nI i)), (0, .ref (b + 54)), (1, .int (nI s)), (2, .long (lN pn))]) [0, 1, 2, 3, 4] rfl ?_
      exact l_M_mo6 ht0 ht1 ht3 hs h2p hpn hlt (fun σ g hM h60 h61 r60 r61 hF => ih (i + 1) _ _ (by omega) hM h60 h61 r60 r61 hF) s 0 _ _ (by omega) hM h60 h61 r60 r61 hF
set_option maxHeartbeats 4000000 in
set_option maxRecDepth 100000 in
theorem c_M_modulo {l : Launch} {D : va_G} {tys : List (ClassId × FieldType)} {b N : Nat} {σ : Nat → Option va_E} {cI cJ cA : ClassId} (ht0 : tys[0]? = some (cI, .int)) (ht1 : tys[1]? = some (cJ, .long)) (ht3 : tys[3]? = some (cA, .array .long)) {th fa ls rm : Value} {n a : Nat} {gf gt gw : Nat → Int32} {F T : Nat → Nat} (hM : MN b cI σ th fa ls rm n a gf gt gw F T) {s pn : Nat} (hs : s ≤ 10) (h2p : 2 ≤ pn) (hpn : pn < 2 ^ 31) (hpr : prm pn) {g0 g1 : Nat → Int64} {A : Nat → Nat → Int64} (h60 : σ 60 = some (.inl (cJ, 100, .inr (.inl g0)))) (h61 : σ 61 = some (.inl (cJ, 100, .inr (.inl g1)))) (r60 : RM g0 A) : zM l D kCl tys kNw b ky_M_modulo (kh_M_modulo :: zT) 1 60 0 0 [.ref (b + 54), .int (nI s), .long (lN pn)] N σ ((fun oc N' σ' => oc = .returned (some (.long (moV s (lN pn) (pn - 2) A))) ∧ N' = N ∧ (∃ g, σ' 61 = some (.inl (cJ, 100, .inr (.inl g)))) ∧ Fr 61 61 σ σ')) := by
  refine zM.of (by decide +kernel) rfl (Nat.le_of_ble_eq_true rfl) ?_
  refine z_pick (lv' := [(0, .ref (b + 54)), (1, .int (nI s)), (2, .long (lN pn))]) [0, 1, 2] rfl ?_
  refine z_iconst (v := 0) kd_M_modulo_0 (by decide) ?_
  refine z_istore (lv' := [(4, .int _), (0, .ref (b + 54)), (1, .int _), (2, .long _)]) kd_M_modulo_1 (by decide) rfl ?_
  refine z_pick (lv' := [(4, .int (nI 0)), (0, .ref (b + 54)), (1, .int (nI s)), (2, .long (lN pn))]) [0, 1, 2, 3] rfl ?_
  exact l_M_mo5 ht0 ht1 ht3 hs h2p hpn hpr s 0 σ g1 (by omega) hM h60 h61 r60 (W0 := fun i j => g1 (10 * i + j)) (by rw [moA_0]; exact fun _ _ _ _ => rfl) Fr.rf
set_option maxHeartbeats 4000000 in
set_option maxRecDepth 100000 in
theorem c_M_determinant {l : Launch} {D : va_G} {tys : List (ClassId × FieldType)} {b N : Nat} {σ : Nat → Option va_E} {cI cJ cA : ClassId} (ht0 : tys[0]? = some (cI, .int)) (ht1 : tys[1]? = some (cJ, .long)) (ht3 : tys[3]? = some (cA, .array .long)) {th fa ls rm : Value} {n a : Nat} {gf gt gw : Nat → Int32} {F T : Nat → Nat} (hM : MN b cI σ th fa ls rm n a gf gt gw F T) {s : Nat} (hs : s ≤ 10) {g0 g1 : Nat → Int64} {A : Nat → Nat → Int64} (h60 : σ 60 = some (.inl (cJ, 100, .inr (.inl g0)))) (h61 : σ 61 = some (.inl (cJ, 100, .inr (.inl g1)))) (r60 : RM g0 A) : zM l D kCl tys kNw b ky_M_determinant (kh_M_determinant :: zT) 2 100 0 0 [.ref (b + 54), .int (nI s)] N σ ((fun oc N' σ' => oc = .returned (some (.long (dmV s A))) ∧ N' = N ∧ (∃ g, σ' 61 = some (.inl (cJ, 100, .inr (.inl g)))) ∧ Fr 61 61 σ σ')) := by
  refine zM.of (by decide +kernel) rfl (Nat.le_of_ble_eq_true rfl) ?_
  refine z_pick (lv' := [(0, .ref (b + 54)), (1, .int (nI s))]) [0, 1] rfl ?_
  refine z_aload_n kd_M_determinant_0 0 rfl ?_
  refine z_iload_n kd_M_determinant_1 1 rfl ?_
  refine z_ldc2 (v := 2147483647) kd_M_determinant_2 (List.mem_cons_of_mem _ (zin 903 rfl rfl)) ?_
  refine z_callV (a := 54) (As := [_, _]) kd_M_determinant_5 (kg_M_91 _) hM.h1 kc_M (c_M_modulo ht0 ht1 ht3 hM (pn := 2147483647) hs (by decide) (by decide) prm_P h60 h61 r60) rfl rfl (Nat.le_of_ble_eq_true rfl) ⟨Nat.le_of_ble_eq_true rfl, Nat.le_of_ble_eq_true rfl⟩ ⟨Nat.le_of_ble_eq_true rfl, Nat.le_of_ble_eq_true rfl⟩ ?_
  rintro _ _ σ_1 ⟨hv, rfl, ⟨g_1, x61_1⟩, q_1⟩
  cases hv
  refine z_eq (st' := [_]) rfl rfl rfl rfl ?_
  have x60_1 := (q_1 60 (by omega)).trans h60
  have hM_1 := hM.fr q_1 (by omega)
  refine z_lstore_n (lv' := [(2, .long _), (0, .ref (b + 54)), (1, .int _)]) kd_M_determinant_8 (by decide) rfl ?_
  refine z_aload_n kd_M_determinant_9 1 rfl ?_
  refine z_iload_n kd_M_determinant_10 2 rfl ?_
  refine z_ldc2 (v := 2147483629) kd_M_determinant_11 (List.mem_cons_of_mem _ (zin 912 rfl rfl)) ?_
  refine z_callV (a := 54) (As := [_, _]) kd_M_determinant_14 (kg_M_91 _) hM_1.h1 kc_M (c_M_modulo ht0 ht1 ht3 hM_1 (pn := 2147483629) hs (by decide) (by decide) prm_Q x60_1 x61_1 r60) rfl rfl (Nat.le_of_ble_eq_true rfl) ⟨Nat.le_of_ble_eq_true rfl, Nat.le_of_ble_eq_true rfl⟩ ⟨Nat.le_of_ble_eq_true rfl, Nat.le_of_ble_eq_true rfl⟩ ?_
  rintro _ _ σ_2 ⟨hv, rfl, ⟨g_2, x61_2⟩, q_2⟩
  cases hv
  refine z_eq (st' := [_]) rfl rfl rfl rfl ?_
  have x60_2 := (q_2 60 (by omega)).trans x60_1
  have hM_2 := hM_1.fr q_2 (by omega)
  refine z_lstore (lv' := [(4, .long _), (2, .long _), (0, .ref (b + 54)), (1, .int _)]) kd_M_determinant_17 (by decide) rfl ?_
  refine z_lload kd_M_determinant_19 0 rfl ?_
  refine z_lload_n kd_M_determinant_21 1 rfl ?_
  refine z_lsub kd_M_determinant_22 ?_
  refine z_ldc2 (v := 2147483629) kd_M_determinant_23 (List.mem_cons_of_mem _ (zin 912 rfl rfl)) ?_
  refine z_lrem kd_M_determinant_26 (by decide) ?_
  refine z_ldc2 (v := 2147483629) kd_M_determinant_27 (List.mem_cons_of_mem _ (zin 912 rfl rfl)) ?_
  refine z_ladd kd_M_determinant_30 ?_
  refine z_ldc2 (v := 2147483629) kd_M_determinant_31 (List.mem_cons_of_mem _ (zin 912 rfl rfl)) ?_
  refine z_lrem kd_M_determinant_34 (by decide) ?_
  refine z_ldc2 (v := 2147483647) kd_M_determinant_35 (List.mem_cons_of_mem _ (zin 903 rfl rfl)) ?_
  refine z_ldc2 (v := 2147483627) kd_M_determinant_38 (List.mem_cons_of_mem _ (zin 913 rfl rfl)) ?_
  refine z_ldc2 (v := 2147483629) kd_M_determinant_41 (List.mem_cons_of_mem _ (zin 912 rfl rfl)) ?_
  refine z_S1 (As := [_, _, _]) kd_M_determinant_44 (kg_M_85 _) (c_M_power (a := 2147483627) (by decide) (by decide)) rfl rfl (Nat.le_of_ble_eq_true rfl) ⟨Nat.le_of_ble_eq_true rfl, Nat.le_of_ble_eq_true rfl⟩ ⟨Nat.le_of_ble_eq_true rfl, Nat.le_of_ble_eq_true rfl⟩ ?_
  refine z_lmul kd_M_determinant_47 ?_
  refine z_ldc2 (v := 2147483629) kd_M_determinant_48 (List.mem_cons_of_mem _ (zin 912 rfl rfl)) ?_
  refine z_lrem kd_M_determinant_51 (by decide) ?_
  refine z_lstore (lv' := [(6, .long _), (4, .long _), (2, .long _), (0, .ref (b + 54)), (1, .int _)]) kd_M_determinant_52 (by decide) rfl ?_
  refine z_lload_n kd_M_determinant_54 2 rfl ?_
  refine z_ldc2 (v := 2147483647) kd_M_determinant_55 (List.mem_cons_of_mem _ (zin 903 rfl rfl)) ?_
  refine z_lload kd_M_determinant_58 0 rfl ?_
  refine z_lmul kd_M_determinant_60 ?_
  refine z_ladd kd_M_determinant_61 ?_
  exact z_lret kd_M_determinant_62 rfl (Nat.le_of_ble_eq_true rfl) (Nat.le_of_ble_eq_true rfl) ⟨rfl, rfl, ⟨_, x61_2⟩, (Fr.tr (Fr.tr Fr.rf (q_1.wide (by omega) (by omega))) (q_2.wide (by omega) (by omega)))⟩
