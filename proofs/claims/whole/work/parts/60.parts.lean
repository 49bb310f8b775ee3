/-- part[j] = j below i -/
def splA (i : Nat) (g : Nat → Int32) : Nat → Int32 := fun j => if j < i then nI j else g j
theorem splA_0 (g : Nat → Int32) : splA 0 g = g := by funext j; simp [splA]
theorem splA_s {i : Nat} (g : Nat → Int32) : upd (splA i g) i (nI i) = splA (i + 1) g := by
  funext j
  by_cases e : j = i
  · subst e; simp [upd, splA]
  · by_cases e2 : j < i
    · simp [upd, splA, e, e2, Nat.lt_succ_of_lt e2]
    · simp [upd, splA, e, e2, show ¬ j < i + 1 by omega]
theorem zUp_eq {σ : Nat → Option va_E} {k : Nat} {x y : va_E} (h : x = y) : zUp σ k x = zUp σ k y := by rw [h]
set_option maxHeartbeats 4000000 in
set_option maxRecDepth 100000 in
theorem l_P_split {l : Launch} {D : va_G} {tys : List (ClassId × FieldType)} {b N : Nat} {σ : Nat → Option va_E} {cI : ClassId} (ht0 : tys[0]? = some (cI, .int)) {a n : Nat} {v0 v1 : Value} (hn : n ≤ 10) (h : σ a = some (.inr (2, [v0, v1, .ref (b + (a + 1))]))) {g : Nat → Int32} {R : Room} {Q : Outcome → Nat → (Nat → Option va_E) → Prop} (hQ : Q (.returned none) N (zUp σ (a + 1) (.inl (cI, 10, .inl (splA n g))))) : ∀ (m i : Nat), i + m = n → Z l D kCl tys (kh_P_split :: zT) kNw ky_P_split.cls ky_P_split.name kb_P_split 3 none R b (zFi D kCl b 0 0 Q) 0 0 N (zUp σ (a + 1) (.inl (cI, 10, .inl (splA i g)))) 12 [(2, .int (nI i)), (0, .ref (b + a)), (1, .int (nI n))] [] := by
  intro m
  induction m with
  | zero =>
    intro i hi
    obtain rfl : i = n := by omega
    refine z_iload_n kd_P_split_12 0 rfl ?_
    refine z_iload_n kd_P_split_13 2 rfl ?_
    refine z_icmp_ge (tgt := 30) kd_P_split_14 (by decide) (fun c14 => ?_) (fun c14 => ?_)
    · exact z_vret kd_P_split_30 rfl (Nat.le_of_ble_eq_true rfl) (Nat.le_of_ble_eq_true rfl) hQ
    · exact absurd (nI_le (Nat.le_refl i) (by omega)) c14
  | succ m ih =>
    intro i hi
    have hlt : i < n := by omega
    refine z_iload_n kd_P_split_12 0 rfl ?_
    refine z_iload_n kd_P_split_13 2 rfl ?_
    refine z_icmp_ge (tgt := 30) kd_P_split_14 (by decide) (fun c14 => ?_) (fun c14 => ?_)
    · exact absurd c14 (nI_ge hlt (by omega))
    · refine z_aload_n kd_P_split_17 1 rfl ?_
      refine z_get kd_P_split_18 (kf_P_9 _) ((zUp_n (by omega)).trans h) rfl ?_
      refine z_iload_n kd_P_split_21 0 rfl ?_
      refine z_iload_n kd_P_split_22 0 rfl ?_
      refine z_iastN (t0 := 0) kd_P_split_23 (by assumption) (zUp_s _ _ _) (by omega) (by decide) ?_
      refine z_iinc (v := (nI (i + 1))) (lv' := [(2, .int _), (0, .ref (b + a)), (1, .int _)]) kd_P_split_24 0 rfl (nI_1 _) (by decide) rfl ?_
      refine z_goto (tgt := 12) kd_P_split_27 (by decide) ?_
      refine z_eq ((zUp_zUp _ _ _ _).trans (zUp_eq (by rw [splA_s g]))) rfl rfl rfl ?_
      exact ih (i + 1) (by omega)
set_option maxHeartbeats 4000000 in
set_option maxRecDepth 100000 in
theorem c_P_split {l : Launch} {D : va_G} {tys : List (ClassId × FieldType)} {b N : Nat} {σ : Nat → Option va_E} {cI : ClassId} (ht0 : tys[0]? = some (cI, .int)) {a n : Nat} {v0 v1 : Value} {g : Nat → Int32} (hn : n ≤ 10) (h : σ a = some (.inr (2, [v0, v1, .ref (b + (a + 1))]))) (h2 : σ (a + 1) = some (.inl (cI, 10, .inl g))) : zM l D kCl tys kNw b ky_P_split (kh_P_split :: zT) 0 0 0 0 [.ref (b + a), .int (nI n)] N σ (zD none N (zUp (zUp σ a (.inr (2, [.int (nI n), .int (nI n), .ref (b + (a + 1))]))) (a + 1) (.inl (cI, 10, .inl (splA n g))))) := by
  refine zM.of (by decide +kernel) rfl (Nat.le_of_ble_eq_true rfl) ?_
  refine z_pick (lv' := [(0, .ref (b + a)), (1, .int (nI n))]) [0, 1] rfl ?_
  refine z_aload_n kd_P_split_0 0 rfl ?_
  refine z_iload_n kd_P_split_1 1 rfl ?_
  refine z_putE (fs' := [_, _, _]) kd_P_split_2 (kp_P_15 _) h (Nat.le_of_ble_eq_true rfl) rfl rfl rfl ?_
  refine z_aload_n kd_P_split_5 0 rfl ?_
  refine z_iload_n kd_P_split_6 1 rfl ?_
  refine z_putE (fs' := [_, _, _]) kd_P_split_7 (kp_P_19 _) (zUp_s _ _ _) (Nat.le_of_ble_eq_true rfl) rfl rfl rfl ?_
  refine z_iconst (v := 0) kd_P_split_10 (by decide) ?_
  refine z_istore_n (lv' := [(2, .int _), (0, .ref (b + a)), (1, .int _)]) kd_P_split_11 (by decide) rfl ?_
  refine z_eq (zUp_id (x := .inl (cI, 10, .inl (splA 0 g))) (by rw [splA_0]; exact ((zUp_n (by omega)).trans ((zUp_n (by omega)).trans h2)))).symm rfl rfl rfl ?_
  exact l_P_split ht0 hn (zUp_s _ _ _) (by rw [zUp_zUp]; exact ⟨rfl, rfl, rfl⟩) n 0 (by omega)
set_option maxHeartbeats 4000000 in
set_option maxRecDepth 100000 in
theorem c_P_areOne {l : Launch} {D : va_G} {tys : List (ClassId × FieldType)} {b N : Nat} {σ : Nat → Option va_E} {cI : ClassId} (ht0 : tys[0]? = some (cI, .int)) {a x y : Nat} {v0 v1 : Value} {g : Nat → Int32} (hx : x < 10) (hy : y < 10) (h : σ a = some (.inr (2, [v0, v1, .ref (b + (a + 1))]))) (h2 : σ (a + 1) = some (.inl (cI, 10, .inl g))) : zM l D kCl tys kNw b ky_P_areOne (kh_P_areOne :: zT) 0 0 0 0 [.ref (b + a), .int (nI x), .int (nI y)] N σ (zD (some (.int (zB (decide (g x = g y))))) N σ) := by
  refine zM.of (by decide +kernel) rfl (Nat.le_of_ble_eq_true rfl) ?_
  refine z_pick (lv' := [(0, .ref (b + a)), (1, .int (nI x)), (2, .int (nI y))]) [0, 1, 2] rfl ?_
  refine z_aload_n kd_P_areOne_0 0 rfl ?_
  refine z_get kd_P_areOne_1 (kf_P_9 _) h rfl ?_
  refine z_iload_n kd_P_areOne_4 1 rfl ?_
  refine z_ialdN (t0 := 0) kd_P_areOne_5 (by assumption) h2 (by omega) (by decide) ?_
  refine z_aload_n kd_P_areOne_6 0 rfl ?_
  refine z_get kd_P_areOne_7 (kf_P_9 _) h rfl ?_
  refine z_iload_n kd_P_areOne_10 2 rfl ?_
  refine z_ialdN (t0 := 0) kd_P_areOne_11 (by assumption) h2 (by omega) (by decide) ?_
  refine z_icmp_ne (tgt := 19) kd_P_areOne_12 (by decide) (fun c12 => ?_) (fun c12 => ?_)
  · refine z_iconst (v := 0) kd_P_areOne_19 (by decide) ?_
    exact z_zret kd_P_areOne_20 rfl rfl (Nat.le_of_ble_eq_true rfl) (Nat.le_of_ble_eq_true rfl) ⟨by simp [zB, c12], rfl, rfl⟩
  · refine z_iconst (v := 1) kd_P_areOne_15 (by decide) ?_
    refine z_goto (tgt := 20) kd_P_areOne_16 (by decide) ?_
    exact z_zret kd_P_areOne_20 rfl rfl (Nat.le_of_ble_eq_true rfl) (Nat.le_of_ble_eq_true rfl) ⟨by simp [zB, c12], rfl, rfl⟩
def jmin (x y : Int32) : Int32 := if y < x then y else x
def jmax (x y : Int32) : Int32 := if x < y then y else x
/-- the renumbering below i -/
def uniA (lo hi : Int32) (i : Nat) (g : Nat → Int32) : Nat → Int32 := fun j => if j < i then (if g j = hi then lo else if g j ≤ hi then g j else g j - 1) else g j
theorem uniA_0 (lo hi : Int32) (g : Nat → Int32) : uniA lo hi 0 g = g := by funext j; simp [uniA]
theorem uniA_at (lo hi : Int32) (i : Nat) (g : Nat → Int32) : uniA lo hi i g i = g i := by simp [uniA]
theorem uniA_s {lo hi : Int32} {i : Nat} {g : Nat → Int32} {v : Int32} (h : (if g i = hi then lo else if g i ≤ hi then g i else g i - 1) = v) : upd (uniA lo hi i g) i v = uniA lo hi (i + 1) g := by
  funext j
  by_cases e : j = i
  · subst e; simp [upd, uniA, h]
  · by_cases e2 : j < i
    · simp [upd, uniA, e, e2, Nat.lt_succ_of_lt e2]
    · simp [upd, uniA, e, e2, show ¬ j < i + 1 by omega]
theorem uniA_k {lo hi : Int32} {i : Nat} {g : Nat → Int32} (h : (if g i = hi then lo else if g i ≤ hi then g i else g i - 1) = g i) : uniA lo hi i g = uniA lo hi (i + 1) g := by
  rw [← uniA_s h]
  funext j
  by_cases e : j = i
  · subst e; simp [upd, uniA]
  · simp [upd, e]
set_option maxHeartbeats 4000000 in
set_option maxRecDepth 100000 in
theorem l_P_unite {l : Launch} {D : va_G} {tys : List (ClassId × FieldType)} {b N : Nat} {σ : Nat → Option va_E} {cI : ClassId} (ht0 : tys[0]? = some (cI, .int)) {a s : Nat} {c lo hi x y : Int32} (hs : s ≤ 10) (h : σ a = some (.inr (2, [.int (nI s), .int c, .ref (b + (a + 1))]))) {g : Nat → Int32} {R : Room} {Q : Outcome → Nat → (Nat → Option va_E) → Prop} (hQ : Q (.returned (some (.int 1))) N (zUp (zUp σ (a + 1) (.inl (cI, 10, .inl (uniA lo hi s g)))) a (.inr (2, [.int (nI s), .int (c - 1), .ref (b + (a + 1))])))) : ∀ (m i : Nat), i + m = s → Z l D kCl tys (kh_P_unite :: zT) kNw ky_P_unite.cls ky_P_unite.name kb_P_unite 6 (some FieldType.boolean) R b (zFi D kCl b 0 0 Q) 0 0 N (zUp σ (a + 1) (.inl (cI, 10, .inl (uniA lo hi i g)))) 44 [(5, .int (nI i)), (4, .int hi), (3, .int lo), (0, .ref (b + a)), (1, .int x), (2, .int y)] [] := by
  intro m
  induction m with
  | zero =>
    intro i hi0
    obtain rfl : i = s := by omega
    refine z_iload kd_P_unite_44 0 rfl ?_
    refine z_aload_n kd_P_unite_46 3 rfl ?_
    refine z_get kd_P_unite_47 (kf_P_15 _) ((zUp_n (by omega)).trans h) rfl ?_
    refine z_icmp_ge (tgt := 105) kd_P_unite_50 (by decide) (fun c50 => ?_) (fun c50 => ?_)
    · refine z_aload_n kd_P_unite_105 3 rfl ?_
      refine z_dup kd_P_unite_106 rfl ?_
      refine z_get kd_P_unite_107 (kf_P_19 _) ((zUp_n (by omega)).trans h) rfl ?_
      refine z_iconst (v := 1) kd_P_unite_110 (by decide) ?_
      refine z_isub kd_P_unite_111 ?_
      refine z_putE (fs' := [_, _, _]) kd_P_unite_112 (kp_P_19 _) ((zUp_n (by omega)).trans h) (Nat.le_of_ble_eq_true rfl) rfl rfl rfl ?_
      refine z_iconst (v := 1) kd_P_unite_115 (by decide) ?_
      exact z_zret kd_P_unite_116 rfl rfl (Nat.le_of_ble_eq_true rfl) (Nat.le_of_ble_eq_true rfl) hQ
    · exact absurd (nI_le (Nat.le_refl i) (by omega)) c50
  | succ m ih =>
    intro i hi0
    have hlt : i < s := by omega
    refine z_iload kd_P_unite_44 0 rfl ?_
    refine z_aload_n kd_P_unite_46 3 rfl ?_
    refine z_get kd_P_unite_47 (kf_P_15 _) ((zUp_n (by omega)).trans h) rfl ?_
    refine z_icmp_ge (tgt := 105) kd_P_unite_50 (by decide) (fun c50 => ?_) (fun c50 => ?_)
    · exact absurd c50 (nI_ge hlt (by omega))
    · refine z_aload_n kd_P_unite_53 3 rfl ?_
      refine z_get kd_P_unite_54 (kf_P_9 _) ((zUp_n (by omega)).trans h) rfl ?_
      refine z_iload kd_P_unite_57 0 rfl ?_
      refine z_ialdN (t0 := 0) kd_P_unite_59 (by assumption) (zUp_s _ _ _) (by omega) (by decide) ?_
      refine z_iload kd_P_unite_60 1 rfl ?_
      refine z_icmp_ne (tgt := 76) kd_P_unite_62 (by decide) (fun c62 => ?_) (fun c62 => ?_)
      · rw [uniA_at] at c62
        refine z_aload_n kd_P_unite_76 3 rfl ?_
        refine z_get kd_P_unite_77 (kf_P_9 _) ((zUp_n (by omega)).trans h) rfl ?_
        refine z_iload kd_P_unite_80 0 rfl ?_
        refine z_ialdN (t0 := 0) kd_P_unite_82 (by assumption) (zUp_s _ _ _) (by omega) (by decide) ?_
        refine z_iload kd_P_unite_83 1 rfl ?_
        refine z_icmp_le (tgt := 99) kd_P_unite_85 (by decide) (fun c85 => ?_) (fun c85 => ?_)
        · rw [uniA_at] at c85
          refine z_eq (zUp_eq (by rw [uniA_k (by rw [if_neg c62, if_pos c85])])) rfl rfl rfl ?_
          refine z_iinc (v := (nI (i + 1))) (lv' := [(5, .int _), (4, .int _), (3, .int _), (0, .ref (b + a)), (1, .int _), (2, .int _)]) kd_P_unite_99 0 rfl (nI_1 _) (by decide) rfl ?_
          refine z_goto (tgt := 44) kd_P_unite_102 (by decide) ?_
          exact ih (i + 1) (by omega)
        · rw [uniA_at] at c85
          refine z_aload_n kd_P_unite_88 3 rfl ?_
          refine z_get kd_P_unite_89 (kf_P_9 _) ((zUp_n (by omega)).trans h) rfl ?_
          refine z_iload kd_P_unite_92 0 rfl ?_
          refine z_dup2_11 kd_P_unite_94 rfl rfl ?_
          refine z_ialdN (t0 := 0) kd_P_unite_95 (by assumption) (zUp_s _ _ _) (by omega) (by decide) ?_
          refine z_iconst (v := 1) kd_P_unite_96 (by decide) ?_
          refine z_isub kd_P_unite_97 ?_
          refine z_iastN (t0 := 0) kd_P_unite_98 (by assumption) (zUp_s _ _ _) (by omega) (by decide) ?_
          refine z_eq ((zUp_zUp _ _ _ _).trans (zUp_eq (by rw [uniA_at, uniA_s (by rw [if_neg c62, if_neg c85])]))) rfl rfl rfl ?_
          refine z_iinc (v := (nI (i + 1))) (lv' := [(5, .int _), (4, .int _), (3, .int _), (0, .ref (b + a)), (1, .int _), (2, .int _)]) kd_P_unite_99 0 rfl (nI_1 _) (by decide) rfl ?_
          refine z_goto (tgt := 44) kd_P_unite_102 (by decide) ?_
          exact ih (i + 1) (by omega)
      · rw [uniA_at] at c62
        refine z_aload_n kd_P_unite_65 3 rfl ?_
        refine z_get kd_P_unite_66 (kf_P_9 _) ((zUp_n (by omega)).trans h) rfl ?_
        refine z_iload kd_P_unite_69 0 rfl ?_
        refine z_iload_n kd_P_unite_71 2 rfl ?_
        refine z_iastN (t0 := 0) kd_P_unite_72 (by assumption) (zUp_s _ _ _) (by omega) (by decide) ?_
        refine z_eq ((zUp_zUp _ _ _ _).trans (zUp_eq (by rw [uniA_s (by rw [if_pos c62])]))) rfl rfl rfl ?_
        refine z_goto (tgt := 99) kd_P_unite_73 (by decide) ?_
        refine z_iinc (v := (nI (i + 1))) (lv' := [(5, .int _), (4, .int _), (3, .int _), (0, .ref (b + a)), (1, .int _), (2, .int _)]) kd_P_unite_99 0 rfl (nI_1 _) (by decide) rfl ?_
        refine z_goto (tgt := 44) kd_P_unite_102 (by decide) ?_
        exact ih (i + 1) (by omega)
set_option maxHeartbeats 4000000 in
set_option maxRecDepth 100000 in
theorem c_P_unite_no {l : Launch} {D : va_G} {tys : List (ClassId × FieldType)} {b N : Nat} {σ : Nat → Option va_E} {cI : ClassId} (ht0 : tys[0]? = some (cI, .int)) {a s x y : Nat} {c : Int32} {g : Nat → Int32} (hs : s ≤ 10) (hx : x < 10) (hy : y < 10) (h : σ a = some (.inr (2, [.int (nI s), .int c, .ref (b + (a + 1))]))) (h2 : σ (a + 1) = some (.inl (cI, 10, .inl g))) (hc : jmin (g x) (g y) = jmax (g x) (g y)) : zM l D kCl tys kNw b ky_P_unite (kh_P_unite :: zT) 1 20 0 0 [.ref (b + a), .int (nI x), .int (nI y)] N σ (zD (some (.int 0)) N σ) := by
  refine zM.of (by decide +kernel) rfl (Nat.le_of_ble_eq_true rfl) ?_
  refine z_pick (lv' := [(0, .ref (b + a)), (1, .int (nI x)), (2, .int (nI y))]) [0, 1, 2] rfl ?_
  refine z_aload_n kd_P_unite_0 0 rfl ?_
  refine z_get kd_P_unite_1 (kf_P_9 _) h rfl ?_
  refine z_iload_n kd_P_unite_4 1 rfl ?_
  refine z_ialdN (t0 := 0) kd_P_unite_5 (by assumption) h2 (by omega) (by decide) ?_
  refine z_aload_n kd_P_unite_6 0 rfl ?_
  refine z_get kd_P_unite_7 (kf_P_9 _) h rfl ?_
  refine z_iload_n kd_P_unite_10 2 rfl ?_
  refine z_ialdN (t0 := 0) kd_P_unite_11 (by assumption) h2 (by omega) (by decide) ?_
  refine z_mmin kd_P_unite_12 (List.mem_cons_of_mem _ (zin 412 rfl rfl)) (List.mem_cons_of_mem _ (zin 413 rfl rfl)) (List.mem_cons_of_mem _ (zin 60 rfl rfl)) (List.mem_cons_of_mem _ (zin 414 rfl rfl)) (Nat.le_of_ble_eq_true rfl) (Nat.le_of_ble_eq_true rfl) (Nat.le_of_ble_eq_true rfl) (Nat.le_of_ble_eq_true rfl) ?_
  refine z_istore_n (lv' := [(3, .int _), (0, .ref (b + a)), (1, .int _), (2, .int _)]) kd_P_unite_15 (by decide) rfl ?_
  refine z_aload_n kd_P_unite_16 1 rfl ?_
  refine z_get kd_P_unite_17 (kf_P_9 _) h rfl ?_
  refine z_iload_n kd_P_unite_20 2 rfl ?_
  refine z_ialdN (t0 := 0) kd_P_unite_21 (by assumption) h2 (by omega) (by decide) ?_
  refine z_aload_n kd_P_unite_22 1 rfl ?_
  refine z_get kd_P_unite_23 (kf_P_9 _) h rfl ?_
  refine z_iload_n kd_P_unite_26 3 rfl ?_
  refine z_ialdN (t0 := 0) kd_P_unite_27 (by assumption) h2 (by omega) (by decide) ?_
  refine z_mmax kd_P_unite_28 (List.mem_cons_of_mem _ (zin 415 rfl rfl)) (List.mem_cons_of_mem _ (zin 416 rfl rfl)) (List.mem_cons_of_mem _ (zin 60 rfl rfl)) (List.mem_cons_of_mem _ (zin 417 rfl rfl)) (Nat.le_of_ble_eq_true rfl) (Nat.le_of_ble_eq_true rfl) (Nat.le_of_ble_eq_true rfl) (Nat.le_of_ble_eq_true rfl) ?_
  refine z_istore (lv' := [(4, .int _), (3, .int _), (0, .ref (b + a)), (1, .int _), (2, .int _)]) kd_P_unite_31 (by decide) rfl ?_
  refine z_iload_n kd_P_unite_33 1 rfl ?_
  refine z_iload kd_P_unite_34 0 rfl ?_
  refine z_icmp_ne (tgt := 41) kd_P_unite_36 (by decide) (fun c36 => ?_) (fun c36 => ?_)
  · exact absurd hc c36
  · refine z_iconst (v := 0) kd_P_unite_39 (by decide) ?_
    exact z_zret kd_P_unite_40 rfl rfl (Nat.le_of_ble_eq_true rfl) (Nat.le_of_ble_eq_true rfl) ⟨rfl, rfl, rfl⟩
set_option maxHeartbeats 4000000 in
set_option maxRecDepth 100000 in
theorem c_P_unite {l : Launch} {D : va_G} {tys : List (ClassId × FieldType)} {b N : Nat} {σ : Nat → Option va_E} {cI : ClassId} (ht0 : tys[0]? = some (cI, .int)) {a s x y : Nat} {c : Int32} {g : Nat → Int32} (hs : s ≤ 10) (hx : x < 10) (hy : y < 10) (h : σ a = some (.inr (2, [.int (nI s), .int c, .ref (b + (a + 1))]))) (h2 : σ (a + 1) = some (.inl (cI, 10, .inl g))) (hc : ¬ jmin (g x) (g y) = jmax (g x) (g y)) : zM l D kCl tys kNw b ky_P_unite (kh_P_unite :: zT) 1 20 0 0 [.ref (b + a), .int (nI x), .int (nI y)] N σ (zD (some (.int 1)) N (zUp (zUp σ (a + 1) (.inl (cI, 10, .inl (uniA (jmin (g x) (g y)) (jmax (g x) (g y)) s g)))) a (.inr (2, [.int (nI s), .int (c - 1), .ref (b + (a + 1))])))) := by
  refine zM.of (by decide +kernel) rfl (Nat.le_of_ble_eq_true rfl) ?_
  refine z_pick (lv' := [(0, .ref (b + a)), (1, .int (nI x)), (2, .int (nI y))]) [0, 1, 2] rfl ?_
  refine z_aload_n kd_P_unite_0 0 rfl ?_
  refine z_get kd_P_unite_1 (kf_P_9 _) h rfl ?_
  refine z_iload_n kd_P_unite_4 1 rfl ?_
  refine z_ialdN (t0 := 0) kd_P_unite_5 (by assumption) h2 (by omega) (by decide) ?_
  refine z_aload_n kd_P_unite_6 0 rfl ?_
  refine z_get kd_P_unite_7 (kf_P_9 _) h rfl ?_
  refine z_iload_n kd_P_unite_10 2 rfl ?_
  refine z_ialdN (t0 := 0) kd_P_unite_11 (by assumption) h2 (by omega) (by decide) ?_
  refine z_mmin kd_P_unite_12 (List.mem_cons_of_mem _ (zin 412 rfl rfl)) (List.mem_cons_of_mem _ (zin 413 rfl rfl)) (List.mem_cons_of_mem _ (zin 60 rfl rfl)) (List.mem_cons_of_mem _ (zin 414 rfl rfl)) (Nat.le_of_ble_eq_true rfl) (Nat.le_of_ble_eq_true rfl) (Nat.le_of_ble_eq_true rfl) (Nat.le_of_ble_eq_true rfl) ?_
  refine z_istore_n (lv' := [(3, .int _), (0, .ref (b + a)), (1, .int _), (2, .int _)]) kd_P_unite_15 (by decide) rfl ?_
  refine z_aload_n kd_P_unite_16 1 rfl ?_
  refine z_get kd_P_unite_17 (kf_P_9 _) h rfl ?_
  refine z_iload_n kd_P_unite_20 2 rfl ?_
  refine z_ialdN (t0 := 0) kd_P_unite_21 (by assumption) h2 (by omega) (by decide) ?_
  refine z_aload_n kd_P_unite_22 1 rfl ?_
  refine z_get kd_P_unite_23 (kf_P_9 _) h rfl ?_
  refine z_iload_n kd_P_unite_26 3 rfl ?_
  refine z_ialdN (t0 := 0) kd_P_unite_27 (by assumption) h2 (by omega) (by decide) ?_
  refine z_mmax kd_P_unite_28 (List.mem_cons_of_mem _ (zin 415 rfl rfl)) (List.mem_cons_of_mem _ (zin 416 rfl rfl)) (List.mem_cons_of_mem _ (zin 60 rfl rfl)) (List.mem_cons_of_mem _ (zin 417 rfl rfl)) (Nat.le_of_ble_eq_true rfl) (Nat.le_of_ble_eq_true rfl) (Nat.le_of_ble_eq_true rfl) (Nat.le_of_ble_eq_true rfl) ?_
  refine z_istore (lv' := [(4, .int _), (3, .int _), (0, .ref (b + a)), (1, .int _), (2, .int _)]) kd_P_unite_31 (by decide) rfl ?_
  refine z_iload_n kd_P_unite_33 1 rfl ?_
  refine z_iload kd_P_unite_34 0 rfl ?_
  refine z_icmp_ne (tgt := 41) kd_P_unite_36 (by decide) (fun c36 => ?_) (fun c36 => ?_)
  · refine z_iconst (v := 0) kd_P_unite_41 (by decide) ?_
    refine z_istore (lv' := [(5, .int _), (4, .int _), (3, .int _), (0, .ref (b + a)), (1, .int _), (2, .int _)]) kd_P_unite_42 (by decide) rfl ?_
    refine z_eq (zUp_id (x := .inl (cI, 10, .inl (uniA (jmin (g x) (g y)) (jmax (g x) (g y)) 0 g))) (by rw [uniA_0]; exact h2)).symm rfl rfl rfl ?_
    exact l_P_unite ht0 hs h ⟨rfl, rfl, rfl⟩ s 0 (by omega)
  · exact absurd c36 hc
