section ZK
variable {l : Launch} {D : va_G} {cl : List vw_C} {tys : List (ClassId × FieldType)} {Ts Nw : List Cond} {own nm : String} {cc : ByteArray} {nL : Nat} {ret : Option FieldType} {R : Room} {b : Nat} {Fi : List Frame → Array Value → State → State → Prop} {k n N : Nat} {σ : Nat → Option va_E} {pc : Nat} {lv : List (Nat × Value)} {st : List Value}
theorem z_aaldR {t0 a a2 len : Nat} {cA : ClassId} {C : String} {f : Nat → Option Nat} {i : Int32} (hd : decode cc pc = .ok (.aaload, 1)) (ht : tys[t0]? = some (cA, .object C)) (hσ : σ a = some (.inl (cA, len, .inr (.inr (.inr (.inr f)))))) (hi : vp_in i len) (hf : f i.toNatClampNeg = some (b + a2)) (kk : Z l D cl tys Ts Nw own nm cc nL ret R b Fi k n N σ (pc + 1) lv (.ref (b + a2) :: st)) : Z l D cl tys Ts Nw own nm cc nL ret R b Fi k n N σ pc lv (.int i :: .ref (b + a) :: st) := by
  refine z_aald hd ht hσ hi ?_
  rw [hf]
  exact kk
theorem z_ldcw {index : Nat} {v : Int32} (hd : decode cc pc = .ok (.ldc_w index, 3)) (hw : Jvm.Cond.constant own index v ∈ Ts) (kk : Z l D cl tys Ts Nw own nm cc nL ret R b Fi k n N σ (pc + 3) lv (.int v :: st)) : Z l D cl tys Ts Nw own nm cc nL ret R b Fi k n N σ pc lv st := fun p e s m args below meth c H locs ls hF hP hS hl => lv_ldcw hF.1 hF.2.1 hF.2.2.2.2.2.1 (hF.2.2.2.2.2.2.1 _ hw) hd (kk p e s m args below meth c H locs ls hF hP hS hl)
end ZK
def lpw (y : Int64) : Nat → Int64
  | 0 => 1
  | n + 1 => lpw y n * y
abbrev kb_J_bitCount : ByteArray := prog_14_method_49_code
abbrev ky_J_bitCount : MethodName := ⟨"java/lang/Integer", "bitCount", "(I)I"⟩
abbrev kh_J_bitCount : Cond := .code ky_J_bitCount kb_J_bitCount 1 (some FieldType.int)
set_option maxRecDepth 100000 in
theorem kz_J_bitCount : kh_J_bitCount ∈ zT := zin 649 rfl rfl
theorem kd_J_bitCount_0 : decode kb_J_bitCount 0 = .ok (.iload_n 0, 1) := by decide +kernel
theorem kd_J_bitCount_1 : decode kb_J_bitCount 1 = .ok (.iload_n 0, 1) := by decide +kernel
theorem kd_J_bitCount_2 : decode kb_J_bitCount 2 = .ok (.iconst 1, 1) := by decide +kernel
theorem kd_J_bitCount_3 : decode kb_J_bitCount 3 = .ok (.iushr, 1) := by decide +kernel
theorem kd_J_bitCount_4 : decode kb_J_bitCount 4 = .ok (.ldc_w 265, 3) := by decide +kernel
theorem kd_J_bitCount_7 : decode kb_J_bitCount 7 = .ok (.iand, 1) := by decide +kernel
theorem kd_J_bitCount_8 : decode kb_J_bitCount 8 = .ok (.isub, 1) := by decide +kernel
theorem kd_J_bitCount_9 : decode kb_J_bitCount 9 = .ok (.istore_n 0, 1) := by decide +kernel
theorem kd_J_bitCount_10 : decode kb_J_bitCount 10 = .ok (.iload_n 0, 1) := by decide +kernel
theorem kd_J_bitCount_11 : decode kb_J_bitCount 11 = .ok (.ldc_w 266, 3) := by decide +kernel
theorem kd_J_bitCount_14 : decode kb_J_bitCount 14 = .ok (.iand, 1) := by decide +kernel
theorem kd_J_bitCount_15 : decode kb_J_bitCount 15 = .ok (.iload_n 0, 1) := by decide +kernel
theorem kd_J_bitCount_16 : decode kb_J_bitCount 16 = .ok (.iconst 2, 1) := by decide +kernel
theorem kd_J_bitCount_17 : decode kb_J_bitCount 17 = .ok (.iushr, 1) := by decide +kernel
theorem kd_J_bitCount_18 : decode kb_J_bitCount 18 = .ok (.ldc_w 266, 3) := by decide +kernel
theorem kd_J_bitCount_21 : decode kb_J_bitCount 21 = .ok (.iand, 1) := by decide +kernel
theorem kd_J_bitCount_22 : decode kb_J_bitCount 22 = .ok (.iadd, 1) := by decide +kernel
theorem kd_J_bitCount_23 : decode kb_J_bitCount 23 = .ok (.istore_n 0, 1) := by decide +kernel
theorem kd_J_bitCount_24 : decode kb_J_bitCount 24 = .ok (.iload_n 0, 1) := by decide +kernel
theorem kd_J_bitCount_25 : decode kb_J_bitCount 25 = .ok (.iload_n 0, 1) := by decide +kernel
theorem kd_J_bitCount_26 : decode kb_J_bitCount 26 = .ok (.iconst 4, 1) := by decide +kernel
theorem kd_J_bitCount_27 : decode kb_J_bitCount 27 = .ok (.iushr, 1) := by decide +kernel
theorem kd_J_bitCount_28 : decode kb_J_bitCount 28 = .ok (.iadd, 1) := by decide +kernel
theorem kd_J_bitCount_29 : decode kb_J_bitCount 29 = .ok (.ldc_w 267, 3) := by decide +kernel
theorem kd_J_bitCount_32 : decode kb_J_bitCount 32 = .ok (.iand, 1) := by decide +kernel
theorem kd_J_bitCount_33 : decode kb_J_bitCount 33 = .ok (.istore_n 0, 1) := by decide +kernel
theorem kd_J_bitCount_34 : decode kb_J_bitCount 34 = .ok (.iload_n 0, 1) := by decide +kernel
theorem kd_J_bitCount_35 : decode kb_J_bitCount 35 = .ok (.iload_n 0, 1) := by decide +kernel
theorem kd_J_bitCount_36 : decode kb_J_bitCount 36 = .ok (.bipush 8, 2) := by decide +kernel
theorem kd_J_bitCount_38 : decode kb_J_bitCount 38 = .ok (.iushr, 1) := by decide +kernel
theorem kd_J_bitCount_39 : decode kb_J_bitCount 39 = .ok (.iadd, 1) := by decide +kernel
theorem kd_J_bitCount_40 : decode kb_J_bitCount 40 = .ok (.istore_n 0, 1) := by decide +kernel
theorem kd_J_bitCount_41 : decode kb_J_bitCount 41 = .ok (.iload_n 0, 1) := by decide +kernel
theorem kd_J_bitCount_42 : decode kb_J_bitCount 42 = .ok (.iload_n 0, 1) := by decide +kernel
theorem kd_J_bitCount_43 : decode kb_J_bitCount 43 = .ok (.bipush 16, 2) := by decide +kernel
theorem kd_J_bitCount_45 : decode kb_J_bitCount 45 = .ok (.iushr, 1) := by decide +kernel
theorem kd_J_bitCount_46 : decode kb_J_bitCount 46 = .ok (.iadd, 1) := by decide +kernel
theorem kd_J_bitCount_47 : decode kb_J_bitCount 47 = .ok (.istore_n 0, 1) := by decide +kernel
theorem kd_J_bitCount_48 : decode kb_J_bitCount 48 = .ok (.iload_n 0, 1) := by decide +kernel
theorem kd_J_bitCount_49 : decode kb_J_bitCount 49 = .ok (.bipush 63, 2) := by decide +kernel
theorem kd_J_bitCount_51 : decode kb_J_bitCount 51 = .ok (.iand, 1) := by decide +kernel
theorem kd_J_bitCount_52 : decode kb_J_bitCount 52 = .ok (.ireturn, 1) := by decide +kernel
def jus (a k : Int32) : Int32 := (a.toUInt32 >>> (k.toUInt32 &&& Int32.toUInt32 31)).toInt32
def jb1 (x : Int32) : Int32 := x - (jus x 1 &&& 1431655765)
def jb2 (x : Int32) : Int32 := (x &&& 858993459) + (jus x 2 &&& 858993459)
def jb3 (x : Int32) : Int32 := (x + jus x 4) &&& 252645135
def jb4 (x : Int32) : Int32 := x + jus x 8
def jb5 (x : Int32) : Int32 := x + jus x 16
def jbc (x : Int32) : Int32 := jb5 (jb4 (jb3 (jb2 (jb1 x)))) &&& 63
set_option maxHeartbeats 4000000 in
set_option maxRecDepth 100000 in
theorem c_J_bitCount {l : Launch} {D : va_G} {tys : List (ClassId × FieldType)} {b N : Nat} {σ : Nat → Option va_E} {x : Int32} : zM l D kCl tys kNw b ky_J_bitCount (kh_J_bitCount :: zT) 0 0 0 0 [.int x] N σ (zD (some (.int (jbc x))) N σ) := by
  refine zM.of (by decide +kernel) rfl (Nat.le_of_ble_eq_true rfl) ?_
  refine z_pick (lv' := [(0, .int x)]) [0] rfl ?_
  refine z_iload_n kd_J_bitCount_0 0 rfl ?_
  refine z_iload_n kd_J_bitCount_1 0 rfl ?_
  refine z_iconst (v := 1) kd_J_bitCount_2 (by decide) ?_
  refine z_iushr kd_J_bitCount_3 ?_
  refine z_ldcw (v := 1431655765) kd_J_bitCount_4 (List.mem_cons_of_mem _ (zin 650 rfl rfl)) ?_
  refine z_iand kd_J_bitCount_7 ?_
  refine z_isub kd_J_bitCount_8 ?_
  refine z_istore_n (lv' := [(0, .int _)]) kd_J_bitCount_9 (by decide) rfl ?_
  refine z_iload_n kd_J_bitCount_10 0 rfl ?_
  refine z_ldcw (v := 858993459) kd_J_bitCount_11 (List.mem_cons_of_mem _ (zin 651 rfl rfl)) ?_
  refine z_iand kd_J_bitCount_14 ?_
  refine z_iload_n kd_J_bitCount_15 0 rfl ?_
  refine z_iconst (v := 2) kd_J_bitCount_16 (by decide) ?_
  refine z_iushr kd_J_bitCount_17 ?_
  refine z_ldcw (v := 858993459) kd_J_bitCount_18 (List.mem_cons_of_mem _ (zin 651 rfl rfl)) ?_
  refine z_iand kd_J_bitCount_21 ?_
  refine z_iadd kd_J_bitCount_22 ?_
  refine z_istore_n (lv' := [(0, .int _)]) kd_J_bitCount_23 (by decide) rfl ?_
  refine z_iload_n kd_J_bitCount_24 0 rfl ?_
  refine z_iload_n kd_J_bitCount_25 0 rfl ?_
  refine z_iconst (v := 4) kd_J_bitCount_26 (by decide) ?_
  refine z_iushr kd_J_bitCount_27 ?_
  refine z_iadd kd_J_bitCount_28 ?_
  refine z_ldcw (v := 252645135) kd_J_bitCount_29 (List.mem_cons_of_mem _ (zin 652 rfl rfl)) ?_
  refine z_iand kd_J_bitCount_32 ?_
  refine z_istore_n (lv' := [(0, .int _)]) kd_J_bitCount_33 (by decide) rfl ?_
  refine z_iload_n kd_J_bitCount_34 0 rfl ?_
  refine z_iload_n kd_J_bitCount_35 0 rfl ?_
  refine z_bipush (v := 8) kd_J_bitCount_36 (by decide +kernel) ?_
  refine z_iushr kd_J_bitCount_38 ?_
  refine z_iadd kd_J_bitCount_39 ?_
  refine z_istore_n (lv' := [(0, .int _)]) kd_J_bitCount_40 (by decide) rfl ?_
  refine z_iload_n kd_J_bitCount_41 0 rfl ?_
  refine z_iload_n kd_J_bitCount_42 0 rfl ?_
  refine z_bipush (v := 16) kd_J_bitCount_43 (by decide +kernel) ?_
  refine z_iushr kd_J_bitCount_45 ?_
  refine z_iadd kd_J_bitCount_46 ?_
  refine z_istore_n (lv' := [(0, .int _)]) kd_J_bitCount_47 (by decide) rfl ?_
  refine z_iload_n kd_J_bitCount_48 0 rfl ?_
  refine z_bipush (v := 63) kd_J_bitCount_49 (by decide +kernel) ?_
  refine z_iand kd_J_bitCount_51 ?_
  exact z_iret kd_J_bitCount_52 rfl (Nat.le_of_ble_eq_true rfl) (Nat.le_of_ble_eq_true rfl) ⟨rfl, rfl, rfl⟩
set_option maxRecDepth 100000 in
theorem kg_R_41 (c : Cond) : zCT (c :: zT) "TreeCounts$Rings" 41 ky_J_bitCount kb_J_bitCount 1 (some FieldType.int) (kh_J_bitCount :: zT) 1 := ⟨mk_cons (zin 647 rfl rfl) (mk_cons (zin 648 rfl rfl) (mk_cons (zin 66 rfl rfl) (mk_good kz_J_bitCount))), ⟨_, rfl⟩, by decide, by decide, by decide +kernel⟩
set_option maxHeartbeats 4000000 in
set_option maxRecDepth 100000 in
theorem e_R_count {l : Launch} {D : va_G} {tys : List (ClassId × FieldType)} {b N : Nat} {σ : Nat → Option va_E} {s5 c5 : Value} {v20 : Value} (h1 : σ 1 = some (.inr (1, [.int 0, .int 0, .ref (b + 2), .ref (b + 3), .ref (b + 4)]))) (h5 : σ 5 = some (.inr (2, [s5, c5, .ref (b + 6)]))) (h20 : σ 20 = some (.inr (5, [v20, .ref (b + 21), .ref (b + 22), .ref (b + 1), .ref (b + 5)]))) : zM l D kCl tys kNw b ky_R_count (kh_R_count :: zT) 2 70 0 0 [.ref (b + 20)] N σ (zD (some (.int 0)) N (zUp σ 5 (.inr (2, [.int 0, .int 0, .ref (b + 6)])))) := by
  refine zM.of (by decide +kernel) rfl (Nat.le_of_ble_eq_true rfl) ?_
  refine z_pick (lv' := [(0, .ref (b + 20))]) [0] rfl ?_
  refine z_aload_n kd_R_count_0 0 rfl ?_
  refine z_get kd_R_count_1 (kf_R_18 _) h20 rfl ?_
  refine z_get kd_R_count_4 (kf_R_38 _) h1 rfl ?_
  refine z_aload_n kd_R_count_7 0 rfl ?_
  refine z_get kd_R_count_8 (kf_R_18 _) h20 rfl ?_
  refine z_aload_n kd_R_count_11 0 rfl ?_
  refine z_get kd_R_count_12 (kf_R_22 _) h20 rfl ?_
  refine z_V1 (a := 1) (As := [_]) kd_R_count_15 (kg_R_26 _) h1 kc_N (e_N_firstTrees h1 h5) rfl rfl (Nat.le_of_ble_eq_true rfl) ⟨Nat.le_of_ble_eq_true rfl, Nat.le_of_ble_eq_true rfl⟩ ⟨Nat.le_of_ble_eq_true rfl, Nat.le_of_ble_eq_true rfl⟩ ?_
  refine z_T1 (As := [_]) kd_R_count_18 (kg_R_41 _) (c_J_bitCount (x := 0)) rfl rfl (Nat.le_of_ble_eq_true rfl) ⟨Nat.le_of_ble_eq_true rfl, Nat.le_of_ble_eq_true rfl⟩ ⟨Nat.le_of_ble_eq_true rfl, Nat.le_of_ble_eq_true rfl⟩ ?_
  refine z_topi (show jbc 0 = 0 by decide +kernel) ?_
  refine z_isub kd_R_count_21 ?_
  refine z_topi (show _ = (0 : Int32) from by decide) ?_
  exact z_iret kd_R_count_22 rfl (Nat.le_of_ble_eq_true rfl) (Nat.le_of_ble_eq_true rfl) ⟨rfl, rfl, rfl⟩
theorem zUp_comm {σ : Nat → Option va_E} {k j : Nat} {x y : va_E} (h : k ≠ j) : zUp (zUp σ k x) j y = zUp (zUp σ j y) k x := by
  funext q
  by_cases h1 : q = k
  · subst h1; simp [zUp, h]
  · by_cases h2 : q = j
    · subst h2; simp [zUp, h1]
    · simp [zUp, h1, h2]
theorem zUp2_norm {σ : Nat → Option va_E} {k j : Nat} {x y x' y' : va_E} (h : k ≠ j) : zUp (zUp (zUp (zUp σ k x) j y) k x') j y' = zUp (zUp σ k x') j y' := by
  rw [zUp_comm (k := j) (j := k) (Ne.symm h), zUp_zUp, zUp_zUp]
set_option maxHeartbeats 4000000 in
set_option maxRecDepth 100000 in
theorem l_L_empty {l : Launch} {D : va_G} {tys : List (ClassId × FieldType)} {b N : Nat} {σ : Nat → Option va_E} {cJ : ClassId} (ht1 : tys[1]? = some (cJ, .long)) (h25 : σ 25 = some (.inr (7, [.ref (b + 26), .ref (b + 27), .ref (b + 28), .ref (b + 29), .ref (b + 1), .ref (b + 7)]))) {R : Room} {Q : Outcome → Nat → (Nat → Option va_E) → Prop} (hQ : ∀ f g : Nat → Int64, (∀ j, j < 10 → f j = 0 ∧ g j = 0) → Q (.returned none) N (zUp (zUp σ 26 (.inl (cJ, 10, .inr (.inl f)))) 27 (.inl (cJ, 10, .inr (.inl g))))) : ∀ (m i : Nat) (f g : Nat → Int64), i + m = 10 → (∀ j, j < i → f j = 0 ∧ g j = 0) → Z l D kCl tys (kh_L_empty :: zT) kNw ky_L_empty.cls ky_L_empty.name kb_L_empty 2 none R b (zFi D kCl b 0 0 Q) 0 0 N (zUp (zUp σ 26 (.inl (cJ, 10, .inr (.inl f)))) 27 (.inl (cJ, 10, .inr (.inl g)))) 2 [(1, .int (nI i)), (0, .ref (b + 25))] [] := by
  intro m
  induction m with
  | zero =>
    intro i f g hi hg
    obtain rfl : i = 10 := by omega
    refine z_iload_n kd_L_empty_2 0 rfl ?_
    refine z_bipush (v := 10) kd_L_empty_3 (by decide +kernel) ?_
    refine z_icmp_ge (tgt := 28) kd_L_empty_5 (by decide) (fun c5 => ?_) (fun c5 => ?_)
    · exact z_vret kd_L_empty_28 rfl (Nat.le_of_ble_eq_true rfl) (Nat.le_of_ble_eq_true rfl) (hQ f g hg)
    · exact absurd (nI_le (Nat.le_refl 10) (by decide)) c5
  | succ m ih =>
    intro i f g hi hg
    have hlt : i < 10 := by omega
    refine z_iload_n kd_L_empty_2 0 rfl ?_
    refine z_bipush (v := 10) kd_L_empty_3 (by decide +kernel) ?_
    refine z_icmp_ge (tgt := 28) kd_L_empty_5 (by decide) (fun c5 => ?_) (fun c5 => ?_)
    · exact absurd c5 (nI_ge hlt (by decide))
    · refine z_aload_n kd_L_empty_8 1 rfl ?_
      refine z_get kd_L_empty_9 (kf_L_9 _) h25 rfl ?_
      refine z_iload_n kd_L_empty_12 0 rfl ?_
      refine z_lconst (v := 0) kd_L_empty_13 (by decide +kernel) ?_
      refine z_last (t0 := 1) kd_L_empty_14 (by assumption) rfl (vp_in_nI hlt (by decide)) ?_
      refine z_aload_n kd_L_empty_15 1 rfl ?_
      refine z_get kd_L_empty_16 (kf_L_15 _) h25 rfl ?_
      refine z_iload_n kd_L_empty_19 0 rfl ?_
      refine z_lconst (v := 0) kd_L_empty_20 (by decide +kernel) ?_
      refine z_last (t0 := 1) kd_L_empty_21 (by assumption) rfl (vp_in_nI hlt (by decide)) ?_
      refine z_iinc (v := (nI (i + 1))) (lv' := [(1, .int _), (0, .ref (b + 25))]) kd_L_empty_22 0 rfl (nI_1 _) (by decide) rfl ?_
      refine z_goto (tgt := 2) kd_L_empty_25 (by decide) ?_
      refine z_eq (zUp2_norm (by decide)) rfl rfl rfl ?_
      refine ih (i + 1) _ _ (by omega) (fun j hj => ?_)
      rw [nI_clamp (by omega)]
      by_cases e : j = i
      · subst e; simp [vp_updL]
      · simp [vp_updL, e]; exact hg j (by omega)
set_option maxHeartbeats 4000000 in
set_option maxRecDepth 100000 in
theorem c_L_empty {l : Launch} {D : va_G} {tys : List (ClassId × FieldType)} {b N : Nat} {σ : Nat → Option va_E} {cJ : ClassId} (ht1 : tys[1]? = some (cJ, .long)) {f0 g0 : Nat → Int64} (h25 : σ 25 = some (.inr (7, [.ref (b + 26), .ref (b + 27), .ref (b + 28), .ref (b + 29), .ref (b + 1), .ref (b + 7)]))) (h26 : σ 26 = some (.inl (cJ, 10, .inr (.inl f0)))) (h27 : σ 27 = some (.inl (cJ, 10, .inr (.inl g0)))) : zM l D kCl tys kNw b ky_L_empty (kh_L_empty :: zT) 0 0 0 0 [.ref (b + 25)] N σ (fun oc N' σ' => oc = .returned none ∧ N' = N ∧ ∃ f g : Nat → Int64, (∀ j, j < 10 → f j = 0 ∧ g j = 0) ∧ σ' = zUp (zUp σ 26 (.inl (cJ, 10, .inr (.inl f)))) 27 (.inl (cJ, 10, .inr (.inl g)))) := by
  refine zM.of (by decide +kernel) rfl (Nat.le_of_ble_eq_true rfl) ?_
  refine z_pick (lv' := [(0, .ref (b + 25))]) [0] rfl ?_
  refine z_iconst (v := 0) kd_L_empty_0 (by decide) ?_
  refine z_istore_n (lv' := [(1, .int _), (0, .ref (b + 25))]) kd_L_empty_1 (by decide) rfl ?_
  refine z_eq (show σ = zUp (zUp σ 26 _) 27 _ by rw [zUp_id h26, zUp_id h27]) rfl rfl rfl ?_
  refine l_L_empty ht1 h25 (fun f g hg => ⟨rfl, rfl, f, g, hg, rfl⟩) 10 0 f0 g0 (by omega) (fun j hj => absurd hj (by omega))
set_option maxHeartbeats 4000000 in
set_option maxRecDepth 100000 in
theorem e_C_clear {l : Launch} {D : va_G} {tys : List (ClassId × FieldType)} {b N : Nat} {σ : Nat → Option va_E} {cJ : ClassId} (ht1 : tys[1]? = some (cJ, .long)) {f0 g0 : Nat → Int64} {nd ar : Value} (h0 : σ 0 = some (.inr (0, [.ref (b + 1), .ref (b + 19), .ref (b + 20), .ref (b + 23), .ref (b + 25), .ref (b + 30)]))) (h1 : σ 1 = some (.inr (1, [nd, ar, .ref (b + 2), .ref (b + 3), .ref (b + 4)]))) (h25 : σ 25 = some (.inr (7, [.ref (b + 26), .ref (b + 27), .ref (b + 28), .ref (b + 29), .ref (b + 1), .ref (b + 7)]))) (h26 : σ 26 = some (.inl (cJ, 10, .inr (.inl f0)))) (h27 : σ 27 = some (.inl (cJ, 10, .inr (.inl g0)))) : zM l D kCl tys kNw b ky_C_clear (kh_C_clear :: zT) 1 40 0 0 [.ref (b + 0)] N σ (zX none N σ) := by
  refine zM.of (by decide +kernel) rfl (Nat.le_of_ble_eq_true rfl) ?_
  refine z_pick (lv' := [(0, .ref (b + 0))]) [0] rfl ?_
  refine z_aload_n kd_C_clear_0 0 rfl ?_
  refine z_get kd_C_clear_1 (kf_C_10 _) h0 rfl ?_
  refine z_iconst (v := 0) kd_C_clear_4 (by decide) ?_
  refine z_putE (fs' := [_, _, _, _, _]) kd_C_clear_5 (kp_C_65 _) h1 (Nat.le_of_ble_eq_true rfl) rfl rfl rfl ?_
  refine z_aload_n kd_C_clear_8 0 rfl ?_
  refine z_get kd_C_clear_9 (kf_C_10 _) h0 rfl ?_
  refine z_iconst (v := 0) kd_C_clear_12 (by decide) ?_
  refine z_putE (fs' := [_, _, _, _, _]) kd_C_clear_13 (kp_C_76 _) rfl (Nat.le_of_ble_eq_true rfl) rfl rfl rfl ?_
  refine z_aload_n kd_C_clear_16 0 rfl ?_
  refine z_get kd_C_clear_17 (kf_C_54 _) h0 rfl ?_
  refine z_callV (a := 25) (As := []) kd_C_clear_20 (kg_C_180 _) h25 kc_L (c_L_empty ht1 h25 h26 h27) rfl rfl (Nat.le_of_ble_eq_true rfl) ⟨Nat.le_of_ble_eq_true rfl, Nat.le_of_ble_eq_true rfl⟩ ⟨Nat.le_of_ble_eq_true rfl, Nat.le_of_ble_eq_true rfl⟩ ?_
  rintro _ _ _ ⟨hv, rfl, f, g, hfg, rfl⟩
  cases hv
  refine z_eq (st' := []) rfl rfl rfl rfl ?_
  exact z_vret kd_C_clear_23 rfl (Nat.le_of_ble_eq_true rfl) (Nat.le_of_ble_eq_true rfl) ⟨rfl, rfl, (fun j hj => by first | rfl | (repeat rw [zUp_n (by omega)]))⟩
