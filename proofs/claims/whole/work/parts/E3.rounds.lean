def ifL (M : Nat → Nat → Int64) (t s : Nat) (d : Int64) : Nat → Nat → Nat
  | 0, i => i
  | m + 1, i => if ioV M t s d i = true then i else ifL M t s d m (i + 1)
theorem ifL_le {M : Nat → Nat → Int64} {t s : Nat} {d : Int64} : ∀ m i, i + m = s → i ≤ ifL M t s d m i ∧ ifL M t s d m i ≤ s := by
  intro m
  induction m with
  | zero => intro i h; unfold ifL; omega
  | succ m ih =>
    intro i h
    unfold ifL
    split
    · omega
    · have := ih (i + 1) (by omega); omega
def frI (t s : Nat) (d : Int64) (f : Nat) (g : Int64) : Nat → (Nat → Nat → Int64) → Option (Nat → Nat → Int64)
  | 0, _ => none
  | h + 1, M => (ccO t s d f f M).bind (fun M1 => if cdV (M1 t t) d = g then some M1 else if ifL M1 t s d (s - (t + 1)) (t + 1) < s then frI t s d f g h (lrL t (ifL M1 t s d (s - (t + 1)) (t + 1)) (d - 1) d s 0 M1) else some M1)
def frO (s : Nat) (d : Int64) (f : Nat) : Nat → Nat → (Nat → Nat → Int64) → Nat → (Nat → Int64) → Option (Nat × (Nat → Int64))
  | 0, _, _, c, R => some (c, R)
  | m + 1, t, M, c, R => (frI t s d f (cfV M t s d) f M).bind (fun M1 => if 1 < cdV (M1 t t) d then frO s d f m (t + 1) M1 (c + 1) (vp_updL R c (cdV (M1 t t) d)) else frO s d f m (t + 1) M1 c R)
def fdA (n a : Nat) (F T : Nat → Nat) (w : Nat → Int32) : Nat → Nat → Int64 := rsV a F T w x0 (fun v => v) (nmV n (fun v => v) (some 0) none).2 0
def fdS (n : Nat) : Nat := (nmV n (fun v => v) (some 0) none).1
def fdV (n a : Nat) (F T : Nat → Nat) (w : Nat → Int32) (d : Int64) (f : Nat) : Option (Nat × (Nat → Int64)) := frO (fdS n) d f (fdS n) 0 (moA d (fdA n a F T w) (fdS n) (fdS n) 0 (fdA n a F T w)) 0 (fun _ => 0)
theorem dm1_ok {d : Int64} (hd : 0 < d.toInt) (hd2 : d.toInt < 4611686018427387904) : 0 ≤ (jrem (d - 1) d).toInt ∧ (jrem (d - 1) d).toInt < 4611686018427387904 := by
  have e1 : (1 : Int64).toInt = 1 := rfl
  have e := i64_sub (x := d) (y := 1) (by rw [e1]; omega) (by rw [e1]; omega)
  rw [e1] at e
  rw [i64_jremE hd (by rw [e]; omega)]
  have h2 := Int.emod_nonneg (d - 1).toInt (b := d.toInt) (by omega)
  have h3 := Int.emod_lt_of_pos (d - 1).toInt hd
  omega
set_option maxHeartbeats 4000000 in
set_option maxRecDepth 100000 in
theorem l_M_if {l : Launch} {D : va_G} {tys : List (ClassId × FieldType)} {b N : Nat} {σ : Nat → Option va_E} {cI cJ cA : ClassId} (ht0 : tys[0]? = some (cI, .int)) (ht1 : tys[1]? = some (cJ, .long)) (ht3 : tys[3]? = some (cA, .array .long)) {th fa ls rm : Value} {n a : Nat} {gf gt gw : Nat → Int32} {F T : Nat → Nat} (hM : MN b cI σ th fa ls rm n a gf gt gw F T) {t s : Nat} {d : Int64} (hs : s ≤ 10) (ht : t < s) (hd : 0 < d.toInt) (hd2 : d.toInt < 4611686018427387904) {g0 : Nat → Int64} {M : Nat → Nat → Int64} (r60 : RM g0 M) (h60 : σ 60 = some (.inl (cJ, 100, .inr (.inl g0)))) (hR : mRg d.toInt s M) {g : Int64} {Q : Outcome → Nat → (Nat → Option va_E) → Prop} : ∀ (m i : Nat), i + m = s → Z l D kCl tys (kh_M_findRounds :: zT) kNw ky_M_findRounds.cls ky_M_findRounds.name kb_M_findRounds 10 (some FieldType.boolean) { frames := 6, cells := 0, slots := 0, locals := 240 } b (zFi D kCl b 0 0 Q) 0 0 N (σ) 195 [(8, .int (nI (ifL M t s d m i))), (7, .int (zB true)), (5, .long g), (4, .int (nI t)), (3, .int (nI s)), (1, .long d), (0, .ref (b + 54))] [] → Z l D kCl tys (kh_M_findRounds :: zT) kNw ky_M_findRounds.cls ky_M_findRounds.name kb_M_findRounds 10 (some FieldType.boolean) { frames := 6, cells := 0, slots := 0, locals := 240 } b (zFi D kCl b 0 0 Q) 0 0 N (σ) 170 [(8, .int (nI i)), (7, .int (zB true)), (5, .long g), (4, .int (nI t)), (3, .int (nI s)), (1, .long d), (0, .ref (b + 54))] [] := by
  intro m
  induction m with
  | zero =>
    intro i hi kk
    obtain rfl : i = s := by omega
    refine z_iload kd_M_findRounds_170 0 rfl ?_
    refine z_iload_n kd_M_findRounds_172 4 rfl ?_
    refine z_icmp_ge (tgt := 195) kd_M_findRounds_173 (by decide) (fun c173 => ?_) (fun c173 => ?_)
    · exact kk
    · exact absurd (nI_le (Nat.le_refl i) (by omega)) c173
  | succ m ih =>
    intro i hi kk
    have hlt : i < s := by omega
    unfold ifL at kk
    refine z_iload kd_M_findRounds_170 0 rfl ?_
    refine z_iload_n kd_M_findRounds_172 4 rfl ?_
    refine z_icmp_ge (tgt := 195) kd_M_findRounds_173 (by decide) (fun c173 => ?_) (fun c173 => ?_)
    · exact absurd c173 (nI_ge hlt (by omega))
    · refine z_aload_n kd_M_findRounds_176 6 rfl ?_
      refine z_iload kd_M_findRounds_177 0 rfl ?_
      refine z_iload kd_M_findRounds_179 3 rfl ?_
      refine z_iload_n kd_M_findRounds_181 4 rfl ?_
      refine z_lload_n kd_M_findRounds_182 5 rfl ?_
      refine z_V1 (a := 54) (As := [_, _, _, _]) kd_M_findRounds_183 (kg_M_193 _) hM.h1 kc_M (c_M_isOther ht0 ht1 ht3 hM hs ht hd hd2 r60 h60 hR hlt) rfl rfl (Nat.le_of_ble_eq_true rfl) ⟨Nat.le_of_ble_eq_true rfl, Nat.le_of_ble_eq_true rfl⟩ ⟨Nat.le_of_ble_eq_true rfl, Nat.le_of_ble_eq_true rfl⟩ ?_
      refine z_if_ne (tgt := 195) kd_M_findRounds_186 (by decide) (fun c186 => ?_) (fun c186 => ?_)
      · rw [if_pos (zB_t c186)] at kk
        exact kk
      · rw [if_neg (by rw [zB_f c186]; decide)] at kk
        refine z_iinc (v := (nI (i + 1))) (lv' := [(8, .int _), (7, .int _), (5, .long _), (4, .int _), (3, .int _), (1, .long _), (0, .ref (b + 54))]) kd_M_findRounds_189 0 rfl (nI_1 _) (by decide) rfl ?_
        refine z_goto (tgt := 170) kd_M_findRounds_192 (by decide) ?_
        refine z_pick (lv' := [(8, .int (nI (i + 1))), (7, .int (zB true)), (5, .long g), (4, .int (nI t)), (3, .int (nI s)), (1, .long d), (0, .ref (b + 54))]) [0, 1, 2, 3, 4, 5, 6] rfl ?_
        exact ih (i + 1) (by omega) kk
set_option maxHeartbeats 4000000 in
set_option maxRecDepth 100000 in
theorem l_M_fri {l : Launch} {D : va_G} {tys : List (ClassId × FieldType)} {b N : Nat} {σ0 : Nat → Option va_E} {cI cJ cA : ClassId} (ht0 : tys[0]? = some (cI, .int)) (ht1 : tys[1]? = some (cJ, .long)) (ht3 : tys[3]? = some (cA, .array .long)) {th fa ls rm : Value} {n a : Nat} {gf gt gw : Nat → Int32} {F T : Nat → Nat} {t s : Nat} {d : Int64} (hs : s ≤ 10) (ht : t < s) (hd : 0 < d.toInt) (hd2 : d.toInt < 4611686018427387904) {g : Int64} {Q : Outcome → Nat → (Nat → Option va_E) → Prop} {f : Nat} {Mf : Nat → Nat → Int64} (kk : ∀ (σ : Nat → Option va_E) (g0 : Nat → Int64), MN b cI σ th fa ls rm n a gf gt gw F T → σ 60 = some (.inl (cJ, 100, .inr (.inl g0))) → RM g0 (Mf) → mRg d.toInt s (Mf) → Fr 60 60 σ0 σ → Z l D kCl tys (kh_M_findRounds :: zT) kNw ky_M_findRounds.cls ky_M_findRounds.name kb_M_findRounds 10 (some FieldType.boolean) { frames := 6, cells := 0, slots := 0, locals := 240 } b (zFi D kCl b 0 0 Q) 0 0 N (σ) 223 [(5, .long g), (4, .int (nI t)), (3, .int (nI s)), (1, .long d), (0, .ref (b + 54))] []) : ∀ (h : Nat) (σ : Nat → Option va_E) (g0 : Nat → Int64) (M : Nat → Nat → Int64), MN b cI σ th fa ls rm n a gf gt gw F T → σ 60 = some (.inl (cJ, 100, .inr (.inl g0))) → RM g0 (M) → mRg d.toInt s (M) → Fr 60 60 σ0 σ → frI t s d f g h M = some Mf → Z l D kCl tys (kh_M_findRounds :: zT) kNw ky_M_findRounds.cls ky_M_findRounds.name kb_M_findRounds 10 (some FieldType.boolean) { frames := 6, cells := 0, slots := 0, locals := 240 } b (zFi D kCl b 0 0 Q) 0 0 N (σ) 119 [(7, .int (zB true)), (5, .long g), (4, .int (nI t)), (3, .int (nI s)), (1, .long d), (0, .ref (b + 54))] [] := by
  have hd0 : ¬ d = 0 := fun z => by rw [z] at hd; exact absurd hd (by decide)
  intro h
  induction h with
  | zero => intro σ g0 M _ _ _ _ _ hv; cases hv
  | succ h ih =>
    intro σ g0 M hM h60 r60 hR hF hv
    unfold frI at hv
    cases hc : ccO t s d f f M with
    | none => rw [hc] at hv; cases hv
    | some M1 =>
      rw [hc, Option.bind_some] at hv
      refine z_iload kd_M_findRounds_119 0 rfl ?_
      refine z_if_eq (tgt := 223) kd_M_findRounds_121 (by decide) (fun c121 => ?_) (fun c121 => ?_)
      · exact absurd c121 (by decide)
      · refine z_aload_n kd_M_findRounds_124 5 rfl ?_
        refine z_iload kd_M_findRounds_125 2 rfl ?_
        refine z_iload_n kd_M_findRounds_127 3 rfl ?_
        refine z_lload_n kd_M_findRounds_128 4 rfl ?_
        refine z_callV (a := 54) (As := [_, _, _]) kd_M_findRounds_129 (kg_M_190 _) hM.h1 kc_M (c_M_clearCross ht0 ht1 ht3 hM r60 h60 hs ht hd hd2 hR hc) rfl rfl (Nat.le_of_ble_eq_true rfl) ⟨Nat.le_of_ble_eq_true rfl, Nat.le_of_ble_eq_true rfl⟩ ⟨Nat.le_of_ble_eq_true rfl, Nat.le_of_ble_eq_true rfl⟩ ?_
        rintro _ _ σ_1 ⟨hv, rfl, ⟨g_1, r60_1, x60_1⟩, hR_1, q_1⟩
        cases hv
        refine z_eq (st' := []) rfl rfl rfl rfl ?_
        have hM_1 := hM.fr q_1 (by omega)
        refine z_aload_n kd_M_findRounds_132 5 rfl ?_
        refine z_get kd_M_findRounds_133 (kf_M_26 _) hM_1.h1 rfl ?_
        refine z_bipush (v := 11) kd_M_findRounds_136 (by decide +kernel) ?_
        refine z_iload kd_M_findRounds_138 2 rfl ?_
        refine z_imul kd_M_findRounds_140 ?_
        refine z_topi (nI_mul 11 t) ?_
        refine z_laldN (t0 := 1) kd_M_findRounds_141 (by assumption) x60_1 (by omega) (by decide) ?_
        refine z_topl (RM.gt11 r60_1 (t := t) (by omega)) ?_
        refine z_lload_n kd_M_findRounds_142 4 rfl ?_
        refine z_S1 (As := [_, _]) kd_M_findRounds_143 (kg_M_140 _) (c_M_gcd (gc_some (hR_1 t t ht ht).1 (by omega))) rfl rfl (Nat.le_of_ble_eq_true rfl) ⟨Nat.le_of_ble_eq_true rfl, Nat.le_of_ble_eq_true rfl⟩ ⟨Nat.le_of_ble_eq_true rfl, Nat.le_of_ble_eq_true rfl⟩ ?_
        refine z_lload kd_M_findRounds_146 1 rfl ?_
        refine z_lcmp kd_M_findRounds_148 ?_
        refine z_if_eq (tgt := 156) kd_M_findRounds_149 (by decide) (fun c149 => ?_) (fun c149 => ?_)
        · rw [if_pos ((lg_cmp_0 _ _).mp c149)] at hv
          cases hv
          refine z_iconst (v := 0) kd_M_findRounds_156 (by decide) ?_
          refine z_istore (lv' := [(7, .int _), (5, .long _), (4, .int _), (3, .int _), (1, .long _), (0, .ref (b + 54))]) kd_M_findRounds_157 (by decide) rfl ?_
          refine z_iload kd_M_findRounds_159 0 rfl ?_
          refine z_if_eq (tgt := 119) kd_M_findRounds_161 (by decide) (fun c161 => ?_) (fun c161 => absurd c161 (by decide))
          refine z_iload kd_M_findRounds_119 0 rfl ?_
          refine z_if_eq (tgt := 223) kd_M_findRounds_121 (by decide) (fun c121 => ?_) (fun c121 => absurd c121 (by decide))
          refine z_pick (lv' := [(5, .long g), (4, .int (nI t)), (3, .int (nI s)), (1, .long d), (0, .ref (b + 54))]) [1, 2, 3, 4, 5] rfl ?_
          exact kk _ _ hM_1 x60_1 r60_1 hR_1 (Fr.tr hF (q_1.wide (by omega) (by omega)))
        · rw [if_neg (fun z => c149 ((lg_cmp_0 _ _).mpr z))] at hv
          refine z_iconst (v := 1) kd_M_findRounds_152 (by decide) ?_
          refine z_goto (tgt := 157) kd_M_findRounds_153 (by decide) ?_
          refine z_istore (lv' := [(7, .int _), (5, .long _), (4, .int _), (3, .int _), (1, .long _), (0, .ref (b + 54))]) kd_M_findRounds_157 (by decide) rfl ?_
          refine z_iload kd_M_findRounds_159 0 rfl ?_
          refine z_if_eq (tgt := 119) kd_M_findRounds_161 (by decide) (fun c161 => absurd c161 (by decide)) (fun c161 => ?_)
          refine z_iload kd_M_findRounds_164 2 rfl ?_
          refine z_iconst (v := 1) kd_M_findRounds_166 (by decide) ?_
          refine z_iadd kd_M_findRounds_167 ?_
          refine z_topi (nI_add t 1) ?_
          refine z_istore (lv' := [(8, .int _), (7, .int _), (5, .long _), (4, .int _), (3, .int _), (1, .long _), (0, .ref (b + 54))]) kd_M_findRounds_168 (by decide) rfl ?_
          refine z_pick (lv' := [(8, .int (nI (t + 1))), (7, .int (zB true)), (5, .long g), (4, .int (nI t)), (3, .int (nI s)), (1, .long d), (0, .ref (b + 54))]) [0, 1, 2, 3, 4, 5, 6] rfl ?_
          have hifl := ifL_le (M := M1) (t := t) (s := s) (d := d) (s - (t + 1)) (t + 1) (by omega)
          refine l_M_if ht0 ht1 ht3 hM_1 hs ht hd hd2 r60_1 x60_1 hR_1 (s - (t + 1)) (t + 1) (by omega) ?_
          refine z_iload kd_M_findRounds_195 0 rfl ?_
          refine z_iload_n kd_M_findRounds_197 4 rfl ?_
          refine z_icmp_ge (tgt := 217) kd_M_findRounds_198 (by decide) (fun c198 => ?_) (fun c198 => ?_)
          · rw [if_neg (fun z => absurd c198 (nI_ge z (by omega)))] at hv
            cases hv
            refine z_iconst (v := 0) kd_M_findRounds_217 (by decide) ?_
            refine z_istore (lv' := [(7, .int _), (8, .int _), (5, .long _), (4, .int _), (3, .int _), (1, .long _), (0, .ref (b + 54))]) kd_M_findRounds_218 (by decide) rfl ?_
            refine z_goto (tgt := 119) kd_M_findRounds_220 (by decide) ?_
            refine z_iload kd_M_findRounds_119 0 rfl ?_
            refine z_if_eq (tgt := 223) kd_M_findRounds_121 (by decide) (fun c121 => ?_) (fun c121 => absurd c121 (by decide))
            refine z_pick (lv' := [(5, .long g), (4, .int (nI t)), (3, .int (nI s)), (1, .long d), (0, .ref (b + 54))]) [2, 3, 4, 5, 6] rfl ?_
            exact kk _ _ hM_1 x60_1 r60_1 hR_1 (Fr.tr hF (q_1.wide (by omega) (by omega)))
          · have hil : (ifL M1 t s d (s - (t + 1)) (t + 1)) < s := Nat.lt_of_not_le (fun z => c198 (nI_le z (by omega)))
            rw [if_pos hil] at hv
            refine z_aload_n kd_M_findRounds_201 6 rfl ?_
            refine z_iload kd_M_findRounds_202 3 rfl ?_
            refine z_iload kd_M_findRounds_204 0 rfl ?_
            refine z_lload_n kd_M_findRounds_206 5 rfl ?_
            refine z_lconst (v := 1) kd_M_findRounds_207 (by decide +kernel) ?_
            refine z_lsub kd_M_findRounds_208 ?_
            refine z_iload_n kd_M_findRounds_209 4 rfl ?_
            refine z_lload_n kd_M_findRounds_210 5 rfl ?_
            refine z_callV (a := 54) (As := [_, _, _, _, _]) kd_M_findRounds_211 (kg_M_169 _) hM_1.h1 kc_M (c_M_lessRow ht0 ht1 ht3 hM_1 r60_1 x60_1 hs (i := t) (k := (ifL M1 t s d (s - (t + 1)) (t + 1))) (by omega) (by omega) hd0 (dm1_ok hd hd2).1 (dm1_ok hd hd2).2) rfl rfl (Nat.le_of_ble_eq_true rfl) ⟨Nat.le_of_ble_eq_true rfl, Nat.le_of_ble_eq_true rfl⟩ ⟨Nat.le_of_ble_eq_true rfl, Nat.le_of_ble_eq_true rfl⟩ ?_
            rintro _ _ σ_22 ⟨hv, rfl, ⟨g_22, r60_22, x60_22⟩, q_22⟩
            cases hv
            refine z_eq (st' := []) rfl rfl rfl rfl ?_
            have hM_22 := hM_1.fr q_22 (by omega)
            refine z_goto (tgt := 220) kd_M_findRounds_214 (by decide) ?_
            refine z_goto (tgt := 119) kd_M_findRounds_220 (by decide) ?_
            refine z_pick (lv' := [(7, .int (zB true)), (5, .long g), (4, .int (nI t)), (3, .int (nI s)), (1, .long d), (0, .ref (b + 54))]) [1, 2, 3, 4, 5, 6] rfl ?_
            exact ih _ _ _ hM_22 x60_22 r60_22 (lr_rg hd hd2 ht hil (dm1_ok hd hd2).1 (dm1_ok hd hd2).2 s 0 _ (by omega) hR_1) (Fr.tr (Fr.tr hF (q_1.wide (by omega) (by omega))) (q_22.wide (by omega) (by omega))) hv
