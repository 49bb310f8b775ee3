def sfV (gl gu : Nat → Int64) (F T : Nat → Nat) (f a : Nat) : Nat → Nat → Nat → (Nat → Nat) → Int64
  | 0, k, c, _ => if c = f then gu (a - k) else gl (c - f)
  | m + 1, k, c, P => if c = f then gu (a - k) else if P (F k) = P (T k) then gu 1 * sfV gl gu F T f a m (k + 1) c P else sfV gl gu F T f a m (k + 1) c P + sfV gl gu F T f a m (k + 1) (jnC (F k) (T k) P c) (jnP (F k) (T k) P)
/-- along the recursion the count never falls below f -/
def sfO (F T : Nat → Nat) (f : Nat) : Nat → Nat → Nat → (Nat → Nat) → Prop
  | 0, _, c, _ => f ≤ c
  | m + 1, k, c, P => f ≤ c ∧ (¬ c = f → sfO F T f m (k + 1) c P ∧ (¬ P (F k) = P (T k) → sfO F T f m (k + 1) (jnC (F k) (T k) P c) (jnP (F k) (T k) P)))
theorem sfO_le {F T : Nat → Nat} {f m k c : Nat} {P : Nat → Nat} (h : sfO F T f m k c P) : f ≤ c := by
  cases m with
  | zero => exact h
  | succ m => exact h.1
def JS (b : Nat) (cP : ClassId) (σ : Nat → Option va_E) : Prop := ∃ fj, σ 31 = some (.inl (cP, 10, .inr (.inr (.inr (.inr fj))))) ∧ ∀ i, i < 10 → fj i = some (b + (34 + 2 * i))
set_option maxHeartbeats 4000000 in
set_option maxRecDepth 100000 in
theorem c_S_sumFrom {l : Launch} {D : va_G} {tys : List (ClassId × FieldType)} {b : Nat} {cI cJ cA : ClassId} (ht0 : tys[0]? = some (cI, .int)) (ht1 : tys[1]? = some (cJ, .long)) (ht3 : tys[3]? = some (cA, .array .long)) {cP : ClassId} (ht4 : tys[4]? = some (cP, .object "TreeCounts$Parts")) {n a : Nat} {gf gt gw : Nat → Int32} {F T : Nat → Nat} {f : Nat} {gl gu : Nat → Int64} (ha14 : a ≤ 14) (hf1 : 0 < n → 1 ≤ f) : ∀ (m k j N : Nat) (σ : Nat → Option va_E) (c : Nat) (P : Nat → Nat), k + m = a → j + c = n → NS b cI σ n a gf gt gw F T → PS b cI σ (34 + 2 * j) n c P → (∀ i, j < i → i < 10 → PA b cI σ (34 + 2 * i)) → σ 30 = some (.inr (8, [.ref (b + 1), .ref (b + 5), .ref (b + 31), .ref (b + 32), .ref (b + 33), .int (nI f)])) → JS b cP σ → σ 32 = some (.inl (cJ, 11, .inr (.inl gl))) → σ 33 = some (.inl (cJ, 15, .inr (.inl gu))) → sfO F T f m k c P → zM l D kCl tys kNw b ky_S_sumFrom (kh_S_sumFrom :: zT) (m + 2) (30 * (m) + 110) 0 0 [.ref (b + 30), .int (nI k), .int (nI j)] N σ (fun oc N' σ' => oc = .returned (some (.long (sfV gl gu F T f a (m) k c P))) ∧ N' = N ∧ (∀ i, j < i → i < 10 → PA b cI σ' (34 + 2 * i)) ∧ Fr (36 + 2 * j) 53 σ σ') := by
  intro m
  induction m with
  | zero =>
    intro k j N σ c P hkm hjc hN hP hE h30 hJ h32 h33 ho
    have hn := hN.hn
    have hfc := sfO_le ho
    obtain ⟨fj, hj31, hfj⟩ := id hJ
    refine zM.of (by decide +kernel) rfl (Nat.le_of_ble_eq_true rfl) ?_
    refine z_pick (lv' := [(0, .ref (b + 30)), (1, .int (nI k)), (2, .int (nI j))]) [0, 1, 2] rfl ?_
    refine z_aload_n kd_S_sumFrom_0 0 rfl ?_
    refine z_get kd_S_sumFrom_1 (kf_S_24 _) h30 rfl ?_
    refine z_astore_n (lv' := [(3, .ref (b + 1)), (0, .ref (b + 30)), (1, .int _), (2, .int _)]) kd_S_sumFrom_4 (by decide) rfl ?_
    refine z_aload_n kd_S_sumFrom_5 1 rfl ?_
    refine z_get kd_S_sumFrom_6 (kf_S_11 _) h30 rfl ?_
    refine z_iload_n kd_S_sumFrom_9 3 rfl ?_
    refine z_aaldRN kd_S_sumFrom_10 ht4 hj31 (by omega) (by decide) (hfj _ (by omega)) ?_
    refine z_astore (lv' := [(4, .ref (b + (34 + 2 * j))), (3, .ref (b + 1)), (0, .ref (b + 30)), (1, .int _), (2, .int _)]) kd_S_sumFrom_11 (by decide) rfl ?_
    refine z_aload kd_S_sumFrom_13 0 rfl ?_
    refine z_get kd_S_sumFrom_15 (kf_S_43 _) hP.1 rfl ?_
    refine z_aload_n kd_S_sumFrom_18 2 rfl ?_
    refine z_get kd_S_sumFrom_19 (kf_S_47 _) h30 rfl ?_
    refine z_isub kd_S_sumFrom_22 ?_
    refine z_topi (pk_sub (a := c) (b := f) (by omega)) ?_
    refine z_istore (lv' := [(5, .int _), (4, .ref (b + (34 + 2 * j))), (3, .ref (b + 1)), (0, .ref (b + 30)), (1, .int _), (2, .int _)]) kd_S_sumFrom_23 (by decide) rfl ?_
    refine z_iload kd_S_sumFrom_25 0 rfl ?_
    refine z_if_ne (tgt := 42) kd_S_sumFrom_27 (by decide) (fun c27 => ?_) (fun c27 => ?_)
    · have hne : ¬ c = f := fun q => c27 (by rw [q, Nat.sub_self]; rfl)
      refine z_iload_n kd_S_sumFrom_42 4 rfl ?_
      refine z_aload_n kd_S_sumFrom_43 2 rfl ?_
      refine z_get kd_S_sumFrom_44 (kf_S_61 _) hN.h1 rfl ?_
      refine z_icmp_lt (tgt := 58) kd_S_sumFrom_47 (by decide) (fun c47 => ?_) (fun c47 => ?_)
      · exact absurd c47 (nI_nlt (by omega) (by omega))
      · refine z_aload_n kd_S_sumFrom_50 3 rfl ?_
        refine z_get kd_S_sumFrom_51 (kf_S_17 _) h30 rfl ?_
        refine z_iload kd_S_sumFrom_54 0 rfl ?_
        refine z_laldN (t0 := 1) kd_S_sumFrom_56 (by assumption) h32 (by omega) (by decide) ?_
        exact z_lret kd_S_sumFrom_57 rfl (Nat.le_of_ble_eq_true rfl) (Nat.le_of_ble_eq_true rfl) ⟨by unfold sfV; rw [if_neg hne], rfl, hE, Fr.rf⟩
    · have hz : c = f := by
        rcases Nat.eq_zero_or_pos (c - f) with q | q
        · omega
        · exact absurd c27 (nI_ne0 q (by omega))
      refine z_aload_n kd_S_sumFrom_30 3 rfl ?_
      refine z_get kd_S_sumFrom_31 (kf_S_21 _) h30 rfl ?_
      refine z_aload_n kd_S_sumFrom_34 2 rfl ?_
      refine z_get kd_S_sumFrom_35 (kf_S_61 _) hN.h1 rfl ?_
      refine z_iload_n kd_S_sumFrom_38 4 rfl ?_
      refine z_isub kd_S_sumFrom_39 ?_
      refine z_topi (pk_sub (a := a) (b := k) (by omega)) ?_
      refine z_laldN (t0 := 1) kd_S_sumFrom_40 (by assumption) h33 (by omega) (by decide) ?_
      exact z_lret kd_S_sumFrom_41 rfl (Nat.le_of_ble_eq_true rfl) (Nat.le_of_ble_eq_true rfl) ⟨by unfold sfV; rw [if_pos hz], rfl, hE, Fr.rf⟩
  | succ m ih =>
    intro k j N σ c P hkm hjc hN hP hE h30 hJ h32 h33 ho
    have hn := hN.hn
    have hfc := sfO_le ho
    have hk : k < a := by omega
    have hf1 := hf1 (by have := (hN.ft k hk).1; omega)
    obtain ⟨fj, hj31, hfj⟩ := id hJ
    refine zM.of (by decide +kernel) rfl (Nat.le_of_ble_eq_true rfl) ?_
    refine z_pick (lv' := [(0, .ref (b + 30)), (1, .int (nI k)), (2, .int (nI j))]) [0, 1, 2] rfl ?_
    refine z_aload_n kd_S_sumFrom_0 0 rfl ?_
    refine z_get kd_S_sumFrom_1 (kf_S_24 _) h30 rfl ?_
    refine z_astore_n (lv' := [(3, .ref (b + 1)), (0, .ref (b + 30)), (1, .int _), (2, .int _)]) kd_S_sumFrom_4 (by decide) rfl ?_
    refine z_aload_n kd_S_sumFrom_5 1 rfl ?_
    refine z_get kd_S_sumFrom_6 (kf_S_11 _) h30 rfl ?_
    refine z_iload_n kd_S_sumFrom_9 3 rfl ?_
    refine z_aaldRN kd_S_sumFrom_10 ht4 hj31 (by omega) (by decide) (hfj _ (by omega)) ?_
    refine z_astore (lv' := [(4, .ref (b + (34 + 2 * j))), (3, .ref (b + 1)), (0, .ref (b + 30)), (1, .int _), (2, .int _)]) kd_S_sumFrom_11 (by decide) rfl ?_
    refine z_aload kd_S_sumFrom_13 0 rfl ?_
    refine z_get kd_S_sumFrom_15 (kf_S_43 _) hP.1 rfl ?_
    refine z_aload_n kd_S_sumFrom_18 2 rfl ?_
    refine z_get kd_S_sumFrom_19 (kf_S_47 _) h30 rfl ?_
    refine z_isub kd_S_sumFrom_22 ?_
    refine z_topi (pk_sub (a := c) (b := f) (by omega)) ?_
    refine z_istore (lv' := [(5, .int _), (4, .ref (b + (34 + 2 * j))), (3, .ref (b + 1)), (0, .ref (b + 30)), (1, .int _), (2, .int _)]) kd_S_sumFrom_23 (by decide) rfl ?_
    refine z_iload kd_S_sumFrom_25 0 rfl ?_
    refine z_if_ne (tgt := 42) kd_S_sumFrom_27 (by decide) (fun c27 => ?_) (fun c27 => ?_)
    · have hne : ¬ c = f := fun q => c27 (by rw [q, Nat.sub_self]; rfl)
      refine z_iload_n kd_S_sumFrom_42 4 rfl ?_
      refine z_aload_n kd_S_sumFrom_43 2 rfl ?_
      refine z_get kd_S_sumFrom_44 (kf_S_61 _) hN.h1 rfl ?_
      refine z_icmp_lt (tgt := 58) kd_S_sumFrom_47 (by decide) (fun c47 => ?_) (fun c47 => ?_)
      · refine z_aload_n kd_S_sumFrom_58 2 rfl ?_
        refine z_get kd_S_sumFrom_59 (kf_S_64 _) hN.h1 rfl ?_
        refine z_iload_n kd_S_sumFrom_62 4 rfl ?_
        refine z_ialdN (t0 := 0) kd_S_sumFrom_63 (by assumption) hN.h2 (by omega) (by decide) ?_
        refine z_topi (hN.hft k hk).1 ?_
        refine z_istore (lv' := [(6, .int _), (5, .int _), (4, .ref (b + (34 + 2 * j))), (3, .ref (b + 1)), (0, .ref (b + 30)), (1, .int _), (2, .int _)]) kd_S_sumFrom_64 (by decide) rfl ?_
        refine z_aload_n kd_S_sumFrom_66 3 rfl ?_
        refine z_get kd_S_sumFrom_67 (kf_S_68 _) hN.h1 rfl ?_
        refine z_iload_n kd_S_sumFrom_70 5 rfl ?_
        refine z_ialdN (t0 := 0) kd_S_sumFrom_71 (by assumption) hN.h3 (by omega) (by decide) ?_
        refine z_topi (hN.hft k hk).2.2.1 ?_
        refine z_istore (lv' := [(7, .int _), (6, .int _), (5, .int _), (4, .ref (b + (34 + 2 * j))), (3, .ref (b + 1)), (0, .ref (b + 30)), (1, .int _), (2, .int _)]) kd_S_sumFrom_72 (by decide) rfl ?_
        refine z_aload kd_S_sumFrom_74 3 rfl ?_
        refine z_iload kd_S_sumFrom_76 1 rfl ?_
        refine z_iload kd_S_sumFrom_78 0 rfl ?_
        refine z_V1 (a := (34 + 2 * j)) (As := [_, _]) kd_S_sumFrom_80 (kg_S_71 _) hP.1 kc_P (c_P_areOneS ht0 hn (by omega) (hN.ft k hk).1 (hN.ft k hk).2 hP) rfl rfl (Nat.le_of_ble_eq_true rfl) ⟨by dsimp only; omega, by dsimp only; omega⟩ ⟨Nat.le_of_ble_eq_true rfl, Nat.le_of_ble_eq_true rfl⟩ ?_
        refine z_if_eq (tgt := 102) kd_S_sumFrom_83 (by decide) (fun c83 => ?_) (fun c83 => ?_)
        · have he : ¬ P (F k) = P (T k) := zBz c83
          refine z_aload_n kd_S_sumFrom_102 5 rfl ?_
          refine z_iload_n kd_S_sumFrom_103 6 rfl ?_
          refine z_iconst (v := 1) kd_S_sumFrom_104 (by decide) ?_
          refine z_iadd kd_S_sumFrom_105 ?_
          refine z_topi (nI_add k 1) ?_
          refine z_iload_n kd_S_sumFrom_106 7 rfl ?_
          refine z_callS (As := [_, _, _]) kd_S_sumFrom_107 (kg_S_57 _) (ih (k + 1) j _ σ c P (by omega) hjc hN hP hE h30 hJ h32 h33 (ho.2 hne).1) rfl rfl (Nat.le_of_ble_eq_true rfl) ⟨by dsimp only; omega, by dsimp only; omega⟩ ⟨Nat.le_of_ble_eq_true rfl, Nat.le_of_ble_eq_true rfl⟩ ?_
          rintro _ _ σ1 ⟨hv, rfl, hE1, q1⟩
          cases hv
          refine z_eq (st' := [_]) rfl rfl rfl rfl ?_
          have hN1 := hN.fr q1 (by omega)
          have hP1 := hP.fr q1 (by omega)
          have x301 := (q1 30 (by omega)).trans h30
          have x321 := (q1 32 (by omega)).trans h32
          have x331 := (q1 33 (by omega)).trans h33
          have x311 := (q1 31 (by omega)).trans hj31
          refine z_lstore (lv' := [(8, .long _), (7, .int _), (6, .int _), (5, .int _), (4, .ref (b + (34 + 2 * j))), (3, .ref (b + 1)), (0, .ref (b + 30)), (1, .int _), (2, .int _)]) kd_S_sumFrom_110 (by decide) rfl ?_
          refine z_aload_n kd_S_sumFrom_112 6 rfl ?_
          refine z_get kd_S_sumFrom_113 (kf_S_11 _) x301 rfl ?_
          refine z_iload_n kd_S_sumFrom_116 8 rfl ?_
          refine z_iconst (v := 1) kd_S_sumFrom_117 (by decide) ?_
          refine z_iadd kd_S_sumFrom_118 ?_
          refine z_topi (nI_add j 1) ?_
          refine z_aaldRN kd_S_sumFrom_119 ht4 x311 (by omega) (by decide) (hfj _ (by omega)) ?_
          refine z_astore (lv' := [(10, .ref (b + (34 + 2 * (j + 1)))), (8, .long _), (7, .int _), (6, .int _), (5, .int _), (4, .ref (b + (34 + 2 * j))), (3, .ref (b + 1)), (0, .ref (b + 30)), (1, .int _), (2, .int _)]) kd_S_sumFrom_120 (by decide) rfl ?_
          refine z_aload kd_S_sumFrom_122 0 rfl ?_
          refine z_aload kd_S_sumFrom_124 5 rfl ?_
          have hjc1 : j + 1 < 10 := by have h8 := sfO_le ((ho.2 hne).2 he); unfold jnC at h8; rw [if_neg he] at h8; omega
          obtain ⟨b0, b1, b2, bk1, bk2⟩ := hE1 (j + 1) (by omega) hjc1
          refine z_callV (a := (34 + 2 * (j + 1))) (As := [_]) kd_S_sumFrom_126 (kg_S_75 _) (fs := _) bk1 kc_P (c_P_become ht0 hn (show 34 + 2 * j + 1 < 34 + 2 * (j + 1) by omega) hP1 (hE1 (j + 1) (by omega) hjc1)) rfl rfl (Nat.le_of_ble_eq_true rfl) ⟨by dsimp only; omega, by dsimp only; omega⟩ ⟨Nat.le_of_ble_eq_true rfl, Nat.le_of_ble_eq_true rfl⟩ ?_
          rintro _ _ σ2 ⟨hv, rfl, hK2, q2⟩
          cases hv
          refine z_eq (st' := []) rfl rfl rfl rfl ?_
          refine z_aload kd_S_sumFrom_129 0 rfl ?_
          refine z_iload kd_S_sumFrom_131 3 rfl ?_
          refine z_iload kd_S_sumFrom_133 2 rfl ?_
          refine z_callV (a := (34 + 2 * (j + 1))) (As := [_, _]) kd_S_sumFrom_135 (kg_S_79 _) hK2.1 kc_P (c_P_uniteS ht0 hn (by omega) (hN.ft k hk).1 (hN.ft k hk).2 hK2) rfl rfl (Nat.le_of_ble_eq_true rfl) ⟨by dsimp only; omega, by dsimp only; omega⟩ ⟨Nat.le_of_ble_eq_true rfl, Nat.le_of_ble_eq_true rfl⟩ ?_
          rintro _ _ σ3 ⟨hv, rfl, hK3, q3⟩
          cases hv
          refine z_eq (st' := [_]) rfl rfl rfl rfl ?_
          refine z_pop kd_S_sumFrom_138 rfl ?_
          refine z_lload kd_S_sumFrom_139 1 rfl ?_
          refine z_aload_n kd_S_sumFrom_141 7 rfl ?_
          refine z_iload_n kd_S_sumFrom_142 8 rfl ?_
          refine z_iconst (v := 1) kd_S_sumFrom_143 (by decide) ?_
          refine z_iadd kd_S_sumFrom_144 ?_
          refine z_topi (nI_add k 1) ?_
          refine z_iload_n kd_S_sumFrom_145 9 rfl ?_
          refine z_iconst (v := 1) kd_S_sumFrom_146 (by decide) ?_
          refine z_iadd kd_S_sumFrom_147 ?_
          refine z_topi (nI_add j 1) ?_
          have q23 : Fr (36 + 2 * j) (37 + 2 * j) σ1 σ3 := Fr.tr (q2.wide (by omega) (by omega)) (q3.wide (by omega) (by omega))
          have x313 := (q23 31 (by omega)).trans x311
          have hj3 : j + 1 + jnC (F k) (T k) P c = n := by have h8 := sfO_le ((ho.2 hne).2 he); unfold jnC at h8 ⊢; rw [if_neg he] at h8 ⊢; omega
          refine z_callS (As := [_, _, _]) kd_S_sumFrom_148 (kg_S_57 _) (ih (k + 1) (j + 1) _ σ3 _ _ (by omega) hj3 (hN1.fr q23 (by omega)) hK3 (fun i h1 h2 => ((hE1 i (by omega) h2).fr q23 (by omega))) ((q23 30 (by omega)).trans x301) ⟨fj, x313, hfj⟩ ((q23 32 (by omega)).trans x321) ((q23 33 (by omega)).trans x331) ((ho.2 hne).2 he)) rfl rfl (Nat.le_of_ble_eq_true rfl) ⟨by dsimp only; omega, by dsimp only; omega⟩ ⟨Nat.le_of_ble_eq_true rfl, Nat.le_of_ble_eq_true rfl⟩ ?_
          rintro _ _ σ4 ⟨hv, rfl, hE4, q4⟩
          cases hv
          refine z_eq (st' := [_, _]) rfl rfl rfl rfl ?_
          refine z_ladd kd_S_sumFrom_151 ?_
          have q34 : Fr (36 + 2 * j) 53 σ σ4 := Fr.tr q1 (Fr.tr (q23.wide (by omega) (by omega)) (q4.wide (by omega) (by omega)))
          exact z_lret kd_S_sumFrom_152 rfl (Nat.le_of_ble_eq_true rfl) (Nat.le_of_ble_eq_true rfl) ⟨by rw [sfV, if_neg hne, if_neg he], rfl, fun i h1 h2 => by
              by_cases hi : i = j + 1
              · subst hi; exact hK3.pa.fr q4 (by omega)
              · exact hE4 i (by omega) h2, q34⟩
        · have he : P (F k) = P (T k) := zBn c83
          refine z_aload_n kd_S_sumFrom_86 5 rfl ?_
          refine z_get kd_S_sumFrom_87 (kf_S_21 _) h30 rfl ?_
          refine z_iconst (v := 1) kd_S_sumFrom_90 (by decide) ?_
          refine z_lald (t0 := 1) kd_S_sumFrom_91 (by assumption) h33 (show vp_in (nI 1) 15 from vp_in_nI (by decide) (by decide)) ?_
          refine z_aload_n kd_S_sumFrom_92 5 rfl ?_
          refine z_iload_n kd_S_sumFrom_93 6 rfl ?_
          refine z_iconst (v := 1) kd_S_sumFrom_94 (by decide) ?_
          refine z_iadd kd_S_sumFrom_95 ?_
          refine z_topi (nI_add k 1) ?_
          refine z_iload_n kd_S_sumFrom_96 7 rfl ?_
          refine z_callS (As := [_, _, _]) kd_S_sumFrom_97 (kg_S_57 _) (ih (k + 1) j _ σ c P (by omega) hjc hN hP hE h30 hJ h32 h33 (ho.2 hne).1) rfl rfl (Nat.le_of_ble_eq_true rfl) ⟨by dsimp only; omega, by dsimp only; omega⟩ ⟨Nat.le_of_ble_eq_true rfl, Nat.le_of_ble_eq_true rfl⟩ ?_
          rintro _ _ σ5 ⟨hv, rfl, hE5, q5⟩
          cases hv
          refine z_eq (st' := [_, _]) rfl rfl rfl rfl ?_
          refine z_lmul kd_S_sumFrom_100 ?_
          exact z_lret kd_S_sumFrom_101 rfl (Nat.le_of_ble_eq_true rfl) (Nat.le_of_ble_eq_true rfl) ⟨by rw [sfV, if_neg hne, if_pos he]; rfl, rfl, hE5, q5⟩
      · exact absurd (nI_lt hk (by omega)) c47
    · have hz : c = f := by
        rcases Nat.eq_zero_or_pos (c - f) with q | q
        · omega
        · exact absurd c27 (nI_ne0 q (by omega))
      refine z_aload_n kd_S_sumFrom_30 3 rfl ?_
      refine z_get kd_S_sumFrom_31 (kf_S_21 _) h30 rfl ?_
      refine z_aload_n kd_S_sumFrom_34 2 rfl ?_
      refine z_get kd_S_sumFrom_35 (kf_S_61 _) hN.h1 rfl ?_
      refine z_iload_n kd_S_sumFrom_38 4 rfl ?_
      refine z_isub kd_S_sumFrom_39 ?_
      refine z_topi (pk_sub (a := a) (b := k) (by omega)) ?_
      refine z_laldN (t0 := 1) kd_S_sumFrom_40 (by assumption) h33 (by omega) (by decide) ?_
      exact z_lret kd_S_sumFrom_41 rfl (Nat.le_of_ble_eq_true rfl) (Nat.le_of_ble_eq_true rfl) ⟨by unfold sfV; rw [if_pos hz], rfl, hE, Fr.rf⟩
