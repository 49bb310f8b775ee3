def jmP (x y : Nat) (P : Nat → Nat) : Nat → Nat := fun v => if P v = P y then P x else P v
def jmI (x y i : Nat) (P : Nat → Nat) : Nat → Nat := fun v => if v < i then jmP x y P v else P v
theorem jmI_s {x y i n : Nat} {P : Nat → Nat} {g : Nat → Int32} {w : Int32} (h : ∀ v, v < n → g v = nI (jmI x y i P v)) (hw : w = nI (jmP x y P i)) : ∀ v, v < n → upd g i w v = nI (jmI x y (i + 1) P v) := by
  intro v hv
  by_cases e : v = i
  · subst e; simp [upd, jmI, hw]
  · have h2 := h v hv
    by_cases c : v < i
    · simp [upd, e, h2, jmI, c, Nat.lt_succ_of_lt c]
    · simp [upd, e, h2, jmI, c, show ¬ v < i + 1 by omega]
theorem jmP_lt {x y n : Nat} {P : Nat → Nat} (h : ∀ v, v < n → P v < n) (hx : x < n) : ∀ v, v < n → jmP x y P v < n := by
  intro v hv
  unfold jmP
  by_cases c : P v = P y
  · rw [if_pos c]; exact h x hx
  · rw [if_neg c]; exact h v hv
theorem jmP_same {x y : Nat} {P : Nat → Nat} (h : P x = P y) : jmP x y P = P := by
  funext v
  unfold jmP
  by_cases c : P v = P y
  · rw [if_pos c, c, h]
  · rw [if_neg c]
set_option maxHeartbeats 4000000 in
set_option maxRecDepth 100000 in
theorem l_M_join {l : Launch} {D : va_G} {tys : List (ClassId × FieldType)} {b N : Nat} {σ0 : Nat → Option va_E} {cI cJ cA : ClassId} (ht0 : tys[0]? = some (cI, .int)) (ht1 : tys[1]? = some (cJ, .long)) (ht3 : tys[3]? = some (cA, .array .long)) {th fa ls rm : Value} {n a : Nat} {gf gt gw : Nat → Int32} {F T : Nat → Nat} {P : Nat → Nat} {x y : Nat} (hP : ∀ v, v < n → P v < n) (hx : x < n) (hy : y < n) (hne : ¬ P x = P y) {R : Room} : ∀ (m i : Nat) (σ : Nat → Option va_E) (g : Nat → Int32), i + m = n → MN b cI σ th fa ls rm n a gf gt gw F T → σ 62 = some (.inl (cI, 10, .inl g)) → (∀ v, v < n → g v = nI (jmI x y i P v)) → Fr 62 62 σ0 σ → Z l D kCl tys (kh_M_join :: zT) kNw ky_M_join.cls ky_M_join.name kb_M_join 6 (some FieldType.boolean) R b (zFi D kCl b 0 0 (fun oc N' σ' => oc = .returned (some (.int 1)) ∧ N' = N ∧ (∃ g, PH n n g (jmP x y P) ∧ σ' 62 = some (.inl (cI, 10, .inl g))) ∧ Fr 62 62 σ0 σ')) 0 0 N (σ) 18 [(5, .int (nI i)), (4, .int (nI (P y))), (3, .int (nI (P x))), (0, .ref (b + 54))] [] := by
  intro m
  induction m with
  | zero =>
    intro i σ g hcm hM h62 hg hF
    obtain rfl : i = n := by omega
    have hn := hM.hn
    have lx := hP x hx
    have ly := hP y hy
    refine z_iload kd_M_join_18 0 rfl ?_
    refine z_aload_n kd_M_join_20 3 rfl ?_
    refine z_get kd_M_join_21 (kf_M_73 _) hM.h1 rfl ?_
    refine z_icmp_ge (tgt := 69) kd_M_join_24 (by decide) (fun c24 => ?_) (fun c24 => ?_)
    · refine z_iload_n kd_M_join_69 2 rfl ?_
      refine z_iload kd_M_join_70 1 rfl ?_
      refine z_icmp_eq (tgt := 79) kd_M_join_72 (by decide) (fun c72 => ?_) (fun c72 => ?_)
      · exact absurd ((nI_eq (by omega) (by omega)).mp c72) hne
      · refine z_iconst (v := 1) kd_M_join_75 (by decide) ?_
        refine z_goto (tgt := 80) kd_M_join_76 (by decide) ?_
        exact z_zret kd_M_join_80 rfl rfl (Nat.le_of_ble_eq_true rfl) (Nat.le_of_ble_eq_true rfl) ⟨rfl, rfl, ⟨g, fun v hv => ⟨by rw [hg v hv]; simp [jmI, hv], jmP_lt hP hx v hv⟩, h62⟩, hF⟩
    · exact absurd (nI_le (Nat.le_refl i) (by omega)) c24
  | succ m ih =>
    intro i σ g hcm hM h62 hg hF
    have hlt : i < n := by omega
    have hn := hM.hn
    have lx := hP x hx
    have ly := hP y hy
    have li := hP i hlt
    have gi : g i = nI (P i) := by rw [hg i hlt]; simp [jmI]
    refine z_iload kd_M_join_18 0 rfl ?_
    refine z_aload_n kd_M_join_20 3 rfl ?_
    refine z_get kd_M_join_21 (kf_M_73 _) hM.h1 rfl ?_
    refine z_icmp_ge (tgt := 69) kd_M_join_24 (by decide) (fun c24 => ?_) (fun c24 => ?_)
    · exact absurd c24 (nI_ge hlt (by omega))
    · refine z_iload_n kd_M_join_27 2 rfl ?_
      refine z_iload kd_M_join_28 1 rfl ?_
      refine z_icmp_eq (tgt := 69) kd_M_join_30 (by decide) (fun c30 => ?_) (fun c30 => ?_)
      · exact absurd ((nI_eq (by omega) (by omega)).mp c30) hne
      · refine z_aload_n kd_M_join_33 3 rfl ?_
        refine z_get kd_M_join_34 (kf_M_32 _) hM.h1 rfl ?_
        refine z_iload kd_M_join_37 0 rfl ?_
        refine z_aload_n kd_M_join_39 3 rfl ?_
        refine z_get kd_M_join_40 (kf_M_32 _) hM.h1 rfl ?_
        refine z_iload kd_M_join_43 0 rfl ?_
        refine z_ialdN (t0 := 0) kd_M_join_45 (by assumption) h62 (by omega) (by decide) ?_
        refine z_topi gi ?_
        refine z_iload kd_M_join_46 1 rfl ?_
        refine z_icmp_ne (tgt := 55) kd_M_join_48 (by decide) (fun c48 => ?_) (fun c48 => ?_)
        · have hw : nI (P i) = nI (jmP x y P i) := by unfold jmP; rw [if_neg (fun q => c48 (by rw [q]))]
          refine z_aload_n kd_M_join_55 3 rfl ?_
          refine z_get kd_M_join_56 (kf_M_32 _) hM.h1 rfl ?_
          refine z_iload kd_M_join_59 0 rfl ?_
          refine z_ialdN (t0 := 0) kd_M_join_61 (by assumption) h62 (by omega) (by decide) ?_
          refine z_topi gi ?_
          refine z_iastN (t0 := 0) kd_M_join_62 (by assumption) h62 (by omega) (by decide) ?_
          refine z_upd (fun σ_1 x62_1 q_1 => ?_)
          have hM_1 := hM.fr q_1 (by omega)
          refine z_iinc (v := (nI (i + 1))) (lv' := [(5, .int _), (4, .int _), (3, .int _), (0, .ref (b + 54))]) kd_M_join_63 0 rfl (nI_1 _) (by decide) rfl ?_
          refine z_goto (tgt := 18) kd_M_join_66 (by decide) ?_
          refine z_pick (lv' := [(5, .int (nI (i + 1))), (4, .int (nI (P y))), (3, .int (nI (P x))), (0, .ref (b + 54))]) [0, 1, 2, 3] rfl ?_
          exact ih (i + 1) _ _ (by omega) hM_1 x62_1 (jmI_s hg hw) (Fr.tr hF (q_1.wide (by omega) (by omega)))
        · have hw : nI (P x) = nI (jmP x y P i) := by unfold jmP; rw [if_pos ((nI_eq (by omega) (by omega)).mp c48)]
          refine z_iload_n kd_M_join_51 2 rfl ?_
          refine z_goto (tgt := 62) kd_M_join_52 (by decide) ?_
          refine z_iastN (t0 := 0) kd_M_join_62 (by assumption) h62 (by omega) (by decide) ?_
          refine z_upd (fun σ_2 x62_2 q_2 => ?_)
          have hM_2 := hM.fr q_2 (by omega)
          refine z_iinc (v := (nI (i + 1))) (lv' := [(5, .int _), (4, .int _), (3, .int _), (0, .ref (b + 54))]) kd_M_join_63 0 rfl (nI_1 _) (by decide) rfl ?_
          refine z_goto (tgt := 18) kd_M_join_66 (by decide) ?_
          refine z_pick (lv' := [(5, .int (nI (i + 1))), (4, .int (nI (P y))), (3, .int (nI (P x))), (0, .ref (b + 54))]) [0, 1, 2, 3] rfl ?_
          exact ih (i + 1) _ _ (by omega) hM_2 x62_2 (jmI_s hg hw) (Fr.tr hF (q_2.wide (by omega) (by omega)))
set_option maxHeartbeats 4000000 in
set_option maxRecDepth 100000 in
theorem c_M_join1 {l : Launch} {D : va_G} {tys : List (ClassId × FieldType)} {b N : Nat} {σ : Nat → Option va_E} {cI cJ cA : ClassId} (ht0 : tys[0]? = some (cI, .int)) (ht1 : tys[1]? = some (cJ, .long)) (ht3 : tys[3]? = some (cA, .array .long)) {th fa ls rm : Value} {n a : Nat} {gf gt gw : Nat → Int32} {F T : Nat → Nat} (hM : MN b cI σ th fa ls rm n a gf gt gw F T) {P : Nat → Nat} {g : Nat → Int32} {x y : Nat} (hx : x < n) (hy : y < n) (hp : PH n n g P) (h62 : σ 62 = some (.inl (cI, 10, .inl g))) (hne : ¬ P x = P y) : zM l D kCl tys kNw b ky_M_join (kh_M_join :: zT) 0 0 0 0 [.ref (b + 54), .int (nI x), .int (nI y)] N σ ((fun oc N' σ' => oc = .returned (some (.int 1)) ∧ N' = N ∧ (∃ g, PH n n g (jmP x y P) ∧ σ' 62 = some (.inl (cI, 10, .inl g))) ∧ Fr 62 62 σ σ')) := by
  refine zM.of (by decide +kernel) rfl (Nat.le_of_ble_eq_true rfl) ?_
  refine z_pick (lv' := [(0, .ref (b + 54)), (1, .int (nI x)), (2, .int (nI y))]) [0, 1, 2] rfl ?_
  have hn := hM.hn
  have ha := hM.ha
  have lx := (hp x hx).2
  have ly := (hp y hy).2
  refine z_aload_n kd_M_join_0 0 rfl ?_
  refine z_get kd_M_join_1 (kf_M_32 _) hM.h1 rfl ?_
  refine z_iload_n kd_M_join_4 1 rfl ?_
  refine z_ialdN (t0 := 0) kd_M_join_5 (by assumption) h62 (by omega) (by decide) ?_
  refine z_topi (hp x hx).1 ?_
  refine z_istore_n (lv' := [(3, .int _), (0, .ref (b + 54)), (1, .int _), (2, .int _)]) kd_M_join_6 (by decide) rfl ?_
  refine z_aload_n kd_M_join_7 1 rfl ?_
  refine z_get kd_M_join_8 (kf_M_32 _) hM.h1 rfl ?_
  refine z_iload_n kd_M_join_11 3 rfl ?_
  refine z_ialdN (t0 := 0) kd_M_join_12 (by assumption) h62 (by omega) (by decide) ?_
  refine z_topi (hp y hy).1 ?_
  refine z_istore (lv' := [(4, .int _), (3, .int _), (0, .ref (b + 54)), (1, .int _), (2, .int _)]) kd_M_join_13 (by decide) rfl ?_
  refine z_iconst (v := 0) kd_M_join_15 (by decide) ?_
  refine z_istore (lv' := [(5, .int _), (4, .int _), (3, .int _), (0, .ref (b + 54)), (1, .int _), (2, .int _)]) kd_M_join_16 (by decide) rfl ?_
  refine z_pick (lv' := [(5, .int (nI 0)), (4, .int (nI (P y))), (3, .int (nI (P x))), (0, .ref (b + 54))]) [0, 1, 2, 3] rfl ?_
  exact l_M_join ht0 ht1 ht3 (fun v hv => (hp v hv).2) hx hy hne n 0 σ g (by omega) hM h62 (fun v hv => by rw [(hp v hv).1]; simp [jmI]) Fr.rf
set_option maxHeartbeats 4000000 in
set_option maxRecDepth 100000 in
theorem c_M_join0 {l : Launch} {D : va_G} {tys : List (ClassId × FieldType)} {b N : Nat} {σ : Nat → Option va_E} {cI cJ cA : ClassId} (ht0 : tys[0]? = some (cI, .int)) (ht1 : tys[1]? = some (cJ, .long)) (ht3 : tys[3]? = some (cA, .array .long)) {th fa ls rm : Value} {n a : Nat} {gf gt gw : Nat → Int32} {F T : Nat → Nat} (hM : MN b cI σ th fa ls rm n a gf gt gw F T) {P : Nat → Nat} {g : Nat → Int32} {x y : Nat} (hx : x < n) (hy : y < n) (hp : PH n n g P) (h62 : σ 62 = some (.inl (cI, 10, .inl g))) (he : P x = P y) : zM l D kCl tys kNw b ky_M_join (kh_M_join :: zT) 0 0 0 0 [.ref (b + 54), .int (nI x), .int (nI y)] N σ ((fun oc N' σ' => oc = .returned (some (.int 0)) ∧ N' = N ∧ (∃ g, PH n n g (jmP x y P) ∧ σ' 62 = some (.inl (cI, 10, .inl g))) ∧ Fr 62 62 σ σ')) := by
  refine zM.of (by decide +kernel) rfl (Nat.le_of_ble_eq_true rfl) ?_
  refine z_pick (lv' := [(0, .ref (b + 54)), (1, .int (nI x)), (2, .int (nI y))]) [0, 1, 2] rfl ?_
  have hn := hM.hn
  have ha := hM.ha
  have lx := (hp x hx).2
  have ly := (hp y hy).2
  refine z_aload_n kd_M_join_0 0 rfl ?_
  refine z_get kd_M_join_1 (kf_M_32 _) hM.h1 rfl ?_
  refine z_iload_n kd_M_join_4 1 rfl ?_
  refine z_ialdN (t0 := 0) kd_M_join_5 (by assumption) h62 (by omega) (by decide) ?_
  refine z_topi (hp x hx).1 ?_
  refine z_istore_n (lv' := [(3, .int _), (0, .ref (b + 54)), (1, .int _), (2, .int _)]) kd_M_join_6 (by decide) rfl ?_
  refine z_aload_n kd_M_join_7 1 rfl ?_
  refine z_get kd_M_join_8 (kf_M_32 _) hM.h1 rfl ?_
  refine z_iload_n kd_M_join_11 3 rfl ?_
  refine z_ialdN (t0 := 0) kd_M_join_12 (by assumption) h62 (by omega) (by decide) ?_
  refine z_topi (hp y hy).1 ?_
  refine z_istore (lv' := [(4, .int _), (3, .int _), (0, .ref (b + 54)), (1, .int _), (2, .int _)]) kd_M_join_13 (by decide) rfl ?_
  refine z_iconst (v := 0) kd_M_join_15 (by decide) ?_
  refine z_istore (lv' := [(5, .int _), (4, .int _), (3, .int _), (0, .ref (b + 54)), (1, .int _), (2, .int _)]) kd_M_join_16 (by decide) rfl ?_
  refine z_iload kd_M_join_18 0 rfl ?_
  refine z_aload_n kd_M_join_20 3 rfl ?_
  refine z_get kd_M_join_21 (kf_M_73 _) hM.h1 rfl ?_
  refine z_icmp_ge (tgt := 69) kd_M_join_24 (by decide) (fun c24 => ?_) (fun c24 => ?_)
  · refine z_iload_n kd_M_join_69 2 rfl ?_
    refine z_iload kd_M_join_70 1 rfl ?_
    refine z_icmp_eq (tgt := 79) kd_M_join_72 (by decide) (fun c72 => ?_) (fun c72 => ?_)
    · refine z_iconst (v := 0) kd_M_join_79 (by decide) ?_
      exact z_zret kd_M_join_80 rfl rfl (Nat.le_of_ble_eq_true rfl) (Nat.le_of_ble_eq_true rfl) ⟨rfl, rfl, ⟨g, by rw [jmP_same he]; exact hp, h62⟩, Fr.rf⟩
    · exact absurd (by rw [he]) c72
  · refine z_iload_n kd_M_join_27 2 rfl ?_
    refine z_iload kd_M_join_28 1 rfl ?_
    refine z_icmp_eq (tgt := 69) kd_M_join_30 (by decide) (fun c30 => ?_) (fun c30 => ?_)
    · refine z_iload_n kd_M_join_69 2 rfl ?_
      refine z_iload kd_M_join_70 1 rfl ?_
      refine z_icmp_eq (tgt := 79) kd_M_join_72 (by decide) (fun c72 => ?_) (fun c72 => ?_)
      · refine z_iconst (v := 0) kd_M_join_79 (by decide) ?_
        exact z_zret kd_M_join_80 rfl rfl (Nat.le_of_ble_eq_true rfl) (Nat.le_of_ble_eq_true rfl) ⟨rfl, rfl, ⟨g, by rw [jmP_same he]; exact hp, h62⟩, Fr.rf⟩
      · exact absurd (by rw [he]) c72
    · exact absurd (by rw [he]) c30
theorem c_M_join {l : Launch} {D : va_G} {tys : List (ClassId × FieldType)} {b N : Nat} {σ : Nat → Option va_E} {cI cJ cA : ClassId} (ht0 : tys[0]? = some (cI, .int)) (ht1 : tys[1]? = some (cJ, .long)) (ht3 : tys[3]? = some (cA, .array .long)) {th fa ls rm : Value} {n a : Nat} {gf gt gw : Nat → Int32} {F T : Nat → Nat} (hM : MN b cI σ th fa ls rm n a gf gt gw F T) {P : Nat → Nat} {g : Nat → Int32} {x y : Nat} (hx : x < n) (hy : y < n) (hp : PH n n g P) (h62 : σ 62 = some (.inl (cI, 10, .inl g))) : zM l D kCl tys kNw b ky_M_join (kh_M_join :: zT) 0 0 0 0 [.ref (b + 54), .int (nI x), .int (nI y)] N σ (fun oc N' σ' => oc = .returned (some (.int (zB (decide (¬ P x = P y))))) ∧ N' = N ∧ (∃ g, PH n n g (jmP x y P) ∧ σ' 62 = some (.inl (cI, 10, .inl g))) ∧ Fr 62 62 σ σ') := by
  by_cases he : P x = P y
  · rw [zBf (fun q => q he)]
    exact c_M_join0 ht0 ht1 ht3 hM hx hy hp h62 he
  · rw [zBt he]
    exact c_M_join1 ht0 ht1 ht3 hM hx hy hp h62 he
