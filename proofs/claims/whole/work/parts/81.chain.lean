theorem agr.raIE {n row : Nat} {od : Int64} (hr : row < n) : ∀ m c M M', c + m = n → agr n M M' → agr n (raI od row m c M) (raI od row m c M') := by
  intro m
  induction m with
  | zero => intro c M M' _ h; exact h
  | succ m ih => intro c M M' hc h; exact ih (c + 1) _ _ (by omega) (h.set (by rw [h row c hr (by omega)]))
theorem agr.raOE {n : Nat} {od : Int64} : ∀ m row M M', row + m = n → agr n M M' → agr n (raO od n m row M) (raO od n m row M') := by
  intro m
  induction m with
  | zero => intro c M M' _ h; exact h
  | succ m ih => intro row M M' hc h; exact ih (row + 1) _ _ (by omega) (agr.raIE (by omega) n 0 _ _ (by omega) h)
theorem agr.rwLE {n x : Nat} {M M' : Nat → Nat → Int64} (hx : x < n) (h : agr n M M') : ∀ m c, c + m = n → rwL M x m c = rwL M' x m c := by
  intro m
  induction m with
  | zero => intro c _; rfl
  | succ m ih => intro c hc; unfold rwL; rw [h x c hx (by omega), ih (c + 1) (by omega)]
theorem agr.rwVE {n x : Nat} {M M' : Nat → Nat → Int64} (hx : x < n) (h : agr n M M') : rwV M n x = rwV M' n x := agr.rwLE hx h _ _ (by omega)
theorem agr.tpIE {n row : Nat} (hr : row < n) : ∀ m c M M', c + m = n → agr n M M' → agr n (tpI row m c M) (tpI row m c M') := by
  intro m
  induction m with
  | zero => intro c M M' _ h; exact h
  | succ m ih => intro c M M' hc h; exact ih (c + 1) _ _ (by omega) ((h.set (h c row (by omega) hr)).set (h row c hr (by omega)))
theorem agr.tpOE {n : Nat} : ∀ m row M M', row + m = n → agr n M M' → agr n (tpO n m row M) (tpO n m row M') := by
  intro m
  induction m with
  | zero => intro c M M' _ h; exact h
  | succ m ih => intro row M M' hc h; exact ih (row + 1) _ _ (by omega) (agr.tpIE (by omega) _ _ _ _ (by omega) h)
theorem agr.tpVE {n x : Nat} {M M' : Nat → Nat → Int64} (hx : x < n) (h : agr n M M') : agr n (tpV n x M) (tpV n x M') := agr.tpOE _ _ _ _ (by omega) h
theorem agr.mxIE {n x y : Nat} {od tP tO sh os : Int64} (hx : x < n) (hy : y < n) : ∀ m c M M', c + m = n → agr n M M' → agr n (mxI od tP tO sh os x y m c M) (mxI od tP tO sh os x y m c M') := by
  intro m
  induction m with
  | zero => intro c M M' _ h; exact h
  | succ m ih => intro c M M' hc h; exact ih (c + 1) _ _ (by omega) ((h.set (by rw [h x c hx (by omega), h y c hy (by omega)])).set (by rw [h x c hx (by omega), h y c hy (by omega)]))
theorem agr.mxVE {n x y : Nat} {od : Int64} {M M' : Nat → Nat → Int64} (hx : x < n) (hy : y < n) (h : agr n M M') : agr n (mxV od n x y M) (mxV od n x y M') := by
  unfold mxV
  rw [h x x hx hx, h y x hy hx]
  by_cases c : (msV (M' x x) (M' y x)).1 = 0
  · rw [if_pos c, if_pos c]; exact h
  · rw [if_neg c, if_neg c]; exact agr.mxIE hx hy _ _ _ _ (by omega) h
theorem agr.clIE {n x : Nat} {od : Int64} (hx : x < n) : ∀ m row M M', row + m = n → agr n M M' → agr n (clI od n x m row M) (clI od n x m row M') := by
  intro m
  induction m with
  | zero => intro c M M' _ h; exact h
  | succ m ih =>
    intro row M M' hc h
    refine ih (row + 1) _ _ (by omega) ?_
    rw [h row x (by omega) hx]
    by_cases c : M' row x = 0
    · rw [if_pos c, if_pos c]; exact h
    · rw [if_neg c, if_neg c]; exact agr.mxVE hx (by omega) h
theorem agr.clOE {n x : Nat} {od : Int64} (hx : x < n) : ∀ m M M', agr n M M' → agr n (clO od n x m M) (clO od n x m M') := by
  intro m
  induction m with
  | zero => intro M M' h; exact h
  | succ m ih =>
    intro M M' h
    have h1 := agr.clIE (od := od) hx (n - (x + 1)) (x + 1) M M' (by omega) h
    unfold clO
    rw [agr.rwVE hx h1]
    by_cases c : rwV (clI od n x (n - (x + 1)) (x + 1) M') n x = 0
    · rw [if_pos c, if_pos c]; exact ih _ _ (agr.tpVE hx h1)
    · rw [if_neg c, if_neg c]; exact h1
theorem agr.clVE {n x : Nat} {od : Int64} {M M' : Nat → Nat → Int64} (hx : x < n) (h : agr n M M') : agr n (clV od n x M) (clV od n x M') := agr.clOE hx 128 _ _ h
def fgL (od : Int64) (n : Nat) : Nat → Nat → (Nat → Nat → Int64) → (Nat → Int64) → Nat → Int64
  | 0, _, _, G => G
  | m + 1, x, M, G => fgL od n m (x + 1) (clV od n x M) (vp_updL G x (cdV (clV od n x M x x) od))
theorem fgL_agr {n : Nat} {od : Int64} : ∀ m x M M' G, x + m = n → agr n M M' → fgL od n m x M G = fgL od n m x M' G := by
  intro m
  induction m with
  | zero => intro x M M' G _ _; rfl
  | succ m ih =>
    intro x M M' G hx h
    have h1 := agr.clVE (od := od) (show x < n by omega) h
    unfold fgL
    rw [h1 x x (by omega) (by omega)]
    exact ih _ _ _ _ (by omega) h1
def mcI (lo : Nat) : Nat → Nat → (Nat → Int64) → Nat → Int64
  | 0, _, G => G
  | m + 1, hi, G => mcI lo m (hi + 1) (if cdV (G lo) (G hi) ≤ 0 then G else vp_updL (vp_updL G hi (G lo / cdV (G lo) (G hi) * G hi)) lo (cdV (G lo) (G hi)))
def mcO (n : Nat) : Nat → Nat → (Nat → Int64) → Nat → Int64
  | 0, _, G => G
  | m + 1, lo, G => mcO n m (lo + 1) (mcI lo (n - (lo + 1)) (lo + 1) G)
def mcV (n : Nat) (G : Nat → Int64) : Nat → Int64 := mcO n n 0 G
def ctL (G : Nat → Int64) : Nat → Nat → Nat → Nat
  | 0, _, c => c
  | m + 1, x, c => ctL G m (x + 1) (c + (if G x ≤ 1 then 0 else 1))
set_option maxHeartbeats 4000000 in
set_option maxRecDepth 100000 in
theorem l_U_mcI {l : Launch} {D : va_G} {tys : List (ClassId × FieldType)} {b N : Nat} {σ0 : Nat → Option va_E} {cI cJ cA : ClassId} (ht0 : tys[0]? = some (cI, .int)) (ht1 : tys[1]? = some (cJ, .long)) (ht3 : tys[3]? = some (cA, .array .long)) {n : Nat} (hn : n ≤ 10) {cn cm tp to : Value} {od : Int64} {lo : Nat} (hlo : lo < n) {Gf : Nat → Int64} {Q : Outcome → Nat → (Nat → Option va_E) → Prop} (hc : ∀ σ, σ 7 = some (.inr (3, [.int (nI n), .ref (b + 8)])) → σ 23 = some (.inr (6, [cn, .ref (b + 24), .ref (b + 1), .ref (b + 19), .ref (b + 7), .long od, cm, tp, to])) → σ 24 = some (.inl (cJ, 10, .inr (.inl Gf))) → Fr 24 24 σ0 σ → Z l D kCl tys (kh_U_makeChain :: zT) kNw ky_U_makeChain.cls ky_U_makeChain.name kb_U_makeChain 5 none { frames := 1, cells := 0, slots := 0, locals := 40 } b (zFi D kCl b 0 0 Q) 0 0 N (σ) 84 [(2, .int (nI n)), (1, .int (nI lo)), (0, .ref (b + 23))] []) : ∀ (m hi : Nat) (σ : Nat → Option va_E) (G : Nat → Int64), hi + m = n → σ 7 = some (.inr (3, [.int (nI n), .ref (b + 8)])) → σ 23 = some (.inr (6, [cn, .ref (b + 24), .ref (b + 1), .ref (b + 19), .ref (b + 7), .long od, cm, tp, to])) → σ 24 = some (.inl (cJ, 10, .inr (.inl G))) → Fr 24 24 σ0 σ → mcI lo m hi G = Gf → Z l D kCl tys (kh_U_makeChain :: zT) kNw ky_U_makeChain.cls ky_U_makeChain.name kb_U_makeChain 5 none { frames := 1, cells := 0, slots := 0, locals := 40 } b (zFi D kCl b 0 0 Q) 0 0 N (σ) 17 [(2, .int (nI hi)), (1, .int (nI lo)), (0, .ref (b + 23))] [] := by
  intro m
  induction m with
  | zero =>
    intro hi σ G hcm h7 h23 h24 hF hv
    obtain rfl : hi = n := by omega
    have hv : G = Gf := hv
    subst hv
    refine z_iload_n kd_U_makeChain_17 0 rfl ?_
    refine z_aload_n kd_U_makeChain_18 2 rfl ?_
    refine z_get kd_U_makeChain_19 (kf_U_23 _) h23 rfl ?_
    refine z_get kd_U_makeChain_22 (kf_U_61 _) h7 rfl ?_
    refine z_icmp_ge (tgt := 84) kd_U_makeChain_25 (by decide) (fun c25 => ?_) (fun c25 => ?_)
    · exact hc σ h7 h23 h24 hF
    · exact absurd (nI_le (Nat.le_refl hi) (by omega)) c25
  | succ m ih =>
    intro hi σ G hcm h7 h23 h24 hF hv
    have hlt : hi < n := by omega
    unfold mcI at hv
    refine z_iload_n kd_U_makeChain_17 0 rfl ?_
    refine z_aload_n kd_U_makeChain_18 2 rfl ?_
    refine z_get kd_U_makeChain_19 (kf_U_23 _) h23 rfl ?_
    refine z_get kd_U_makeChain_22 (kf_U_61 _) h7 rfl ?_
    refine z_icmp_ge (tgt := 84) kd_U_makeChain_25 (by decide) (fun c25 => ?_) (fun c25 => ?_)
    · exact absurd c25 (nI_ge hlt (by omega))
    · refine z_aload_n kd_U_makeChain_28 2 rfl ?_
      refine z_get kd_U_makeChain_29 (kf_U_9 _) h23 rfl ?_
      refine z_iload_n kd_U_makeChain_32 1 rfl ?_
      refine z_laldN (t0 := 1) kd_U_makeChain_33 (by assumption) h24 (by omega) (by decide) ?_
      refine z_aload_n kd_U_makeChain_34 2 rfl ?_
      refine z_get kd_U_makeChain_35 (kf_U_9 _) h23 rfl ?_
      refine z_iload_n kd_U_makeChain_38 0 rfl ?_
      refine z_laldN (t0 := 1) kd_U_makeChain_39 (by assumption) h24 (by omega) (by decide) ?_
      refine z_SN1 (As := [_, _]) kd_U_makeChain_40 (kg_U_71 _) (List.mem_cons_of_mem _ (zin 459 rfl rfl)) (c_C_commonDivisor) rfl rfl (Nat.le_of_ble_eq_true rfl) ⟨Nat.le_of_ble_eq_true rfl, Nat.le_of_ble_eq_true rfl⟩ ⟨Nat.le_of_ble_eq_true rfl, Nat.le_of_ble_eq_true rfl⟩ ?_
      refine z_lstore_n (lv' := [(3, .long _), (2, .int _), (1, .int _), (0, .ref (b + 23))]) kd_U_makeChain_43 (by decide) rfl ?_
      refine z_lload_n kd_U_makeChain_44 0 rfl ?_
      refine z_lconst (v := 0) kd_U_makeChain_45 (by decide +kernel) ?_
      refine z_lcmp kd_U_makeChain_46 ?_
      refine z_if_le (tgt := 78) kd_U_makeChain_47 (by decide) (fun c47 => ?_) (fun c47 => ?_)
      · rw [if_pos ((lg_cmp_le _ _).mp c47)] at hv
        refine z_iinc (v := (nI (hi + 1))) (lv' := [(2, .int _), (3, .long _), (1, .int _), (0, .ref (b + 23))]) kd_U_makeChain_78 1 rfl (nI_1 _) (by decide) rfl ?_
        refine z_goto (tgt := 17) kd_U_makeChain_81 (by decide) ?_
        refine z_pick (lv' := [(2, .int (nI (hi + 1))), (1, .int (nI lo)), (0, .ref (b + 23))]) [0, 2, 3] rfl ?_
        exact ih (hi + 1) _ _ (by omega) h7 h23 h24 hF hv
      · have hp : ¬ cdV (G lo) (G hi) ≤ 0 := fun q => c47 ((lg_cmp_le _ _).mpr q)
        have hne : ¬ cdV (G lo) (G hi) = 0 := fun q => hp (by rw [q]; decide)
        rw [if_neg hp] at hv
        refine z_aload_n kd_U_makeChain_50 3 rfl ?_
        refine z_get kd_U_makeChain_51 (kf_U_9 _) h23 rfl ?_
        refine z_iload_n kd_U_makeChain_54 1 rfl ?_
        refine z_aload_n kd_U_makeChain_55 3 rfl ?_
        refine z_get kd_U_makeChain_56 (kf_U_9 _) h23 rfl ?_
        refine z_iload_n kd_U_makeChain_59 2 rfl ?_
        refine z_laldN (t0 := 1) kd_U_makeChain_60 (by assumption) h24 (by omega) (by decide) ?_
        refine z_lload_n kd_U_makeChain_61 0 rfl ?_
        refine z_ldiv kd_U_makeChain_62 hne ?_
        refine z_aload_n kd_U_makeChain_63 3 rfl ?_
        refine z_get kd_U_makeChain_64 (kf_U_9 _) h23 rfl ?_
        refine z_iload_n kd_U_makeChain_67 1 rfl ?_
        refine z_laldN (t0 := 1) kd_U_makeChain_68 (by assumption) h24 (by omega) (by decide) ?_
        refine z_lmul kd_U_makeChain_69 ?_
        refine z_lastN (t0 := 1) kd_U_makeChain_70 (by assumption) h24 (by omega) (by decide) ?_
        refine z_upd (fun σ_1 x24_1 q_1 => ?_)
        have x7_1 := (q_1 7 (by omega)).trans h7
        have x23_1 := (q_1 23 (by omega)).trans h23
        refine z_aload_n kd_U_makeChain_71 3 rfl ?_
        refine z_get kd_U_makeChain_72 (kf_U_9 _) x23_1 rfl ?_
        refine z_iload_n kd_U_makeChain_75 2 rfl ?_
        refine z_lload_n kd_U_makeChain_76 0 rfl ?_
        refine z_lastN (t0 := 1) kd_U_makeChain_77 (by assumption) x24_1 (by omega) (by decide) ?_
        refine z_upd (fun σ_2 x24_2 q_2 => ?_)
        have x7_2 := (q_2 7 (by omega)).trans x7_1
        have x23_2 := (q_2 23 (by omega)).trans x23_1
        refine z_iinc (v := (nI (hi + 1))) (lv' := [(2, .int _), (3, .long _), (1, .int _), (0, .ref (b + 23))]) kd_U_makeChain_78 1 rfl (nI_1 _) (by decide) rfl ?_
        refine z_goto (tgt := 17) kd_U_makeChain_81 (by decide) ?_
        refine z_pick (lv' := [(2, .int (nI (hi + 1))), (1, .int (nI lo)), (0, .ref (b + 23))]) [0, 2, 3] rfl ?_
        exact ih (hi + 1) _ _ (by omega) x7_2 x23_2 x24_2 (Fr.tr (Fr.tr hF (q_1.wide (by omega) (by omega))) (q_2.wide (by omega) (by omega))) hv
set_option maxHeartbeats 4000000 in
set_option maxRecDepth 100000 in
theorem l_U_mcO {l : Launch} {D : va_G} {tys : List (ClassId × FieldType)} {b N : Nat} {σ0 : Nat → Option va_E} {cI cJ cA : ClassId} (ht0 : tys[0]? = some (cI, .int)) (ht1 : tys[1]? = some (cJ, .long)) (ht3 : tys[3]? = some (cA, .array .long)) {n : Nat} (hn : n ≤ 10) {cn cm tp to : Value} {od : Int64} {Gf : Nat → Int64} : ∀ (m lo : Nat) (σ : Nat → Option va_E) (G : Nat → Int64), lo + m = n → σ 7 = some (.inr (3, [.int (nI n), .ref (b + 8)])) → σ 23 = some (.inr (6, [cn, .ref (b + 24), .ref (b + 1), .ref (b + 19), .ref (b + 7), .long od, cm, tp, to])) → σ 24 = some (.inl (cJ, 10, .inr (.inl G))) → Fr 24 24 σ0 σ → mcO n m lo G = Gf → Z l D kCl tys (kh_U_makeChain :: zT) kNw ky_U_makeChain.cls ky_U_makeChain.name kb_U_makeChain 5 none { frames := 1, cells := 0, slots := 0, locals := 40 } b (zFi D kCl b 0 0 (fun oc N' σ' => oc = .returned none ∧ N' = N ∧ σ' 24 = some (.inl (cJ, 10, .inr (.inl Gf))) ∧ Fr 24 24 σ0 σ')) 0 0 N (σ) 2 [(1, .int (nI lo)), (0, .ref (b + 23))] [] := by
  intro m
  induction m with
  | zero =>
    intro lo σ G hcm h7 h23 h24 hF hv
    obtain rfl : lo = n := by omega
    have hv : G = Gf := hv
    subst hv
    refine z_iload_n kd_U_makeChain_2 0 rfl ?_
    refine z_aload_n kd_U_makeChain_3 1 rfl ?_
    refine z_get kd_U_makeChain_4 (kf_U_23 _) h23 rfl ?_
    refine z_get kd_U_makeChain_7 (kf_U_61 _) h7 rfl ?_
    refine z_icmp_ge (tgt := 90) kd_U_makeChain_10 (by decide) (fun c10 => ?_) (fun c10 => ?_)
    · exact z_vret kd_U_makeChain_90 rfl (Nat.le_of_ble_eq_true rfl) (Nat.le_of_ble_eq_true rfl) ⟨rfl, rfl, h24, hF⟩
    · exact absurd (nI_le (Nat.le_refl lo) (by omega)) c10
  | succ m ih =>
    intro lo σ G hcm h7 h23 h24 hF hv
    have hlt : lo < n := by omega
    refine z_iload_n kd_U_makeChain_2 0 rfl ?_
    refine z_aload_n kd_U_makeChain_3 1 rfl ?_
    refine z_get kd_U_makeChain_4 (kf_U_23 _) h23 rfl ?_
    refine z_get kd_U_makeChain_7 (kf_U_61 _) h7 rfl ?_
    refine z_icmp_ge (tgt := 90) kd_U_makeChain_10 (by decide) (fun c10 => ?_) (fun c10 => ?_)
    · exact absurd c10 (nI_ge hlt (by omega))
    · refine z_iload_n kd_U_makeChain_13 0 rfl ?_
      refine z_iconst (v := 1) kd_U_makeChain_14 (by decide) ?_
      refine z_iadd kd_U_makeChain_15 ?_
      refine z_topi (nI_add lo 1) ?_
      refine z_istore_n (lv' := [(2, .int _), (1, .int _), (0, .ref (b + 23))]) kd_U_makeChain_16 (by decide) rfl ?_
      refine z_pick (lv' := [(2, .int (nI (lo + 1))), (1, .int (nI lo)), (0, .ref (b + 23))]) [0, 1, 2] rfl ?_
      refine l_U_mcI ht0 ht1 ht3 hn hlt (fun σ h7 h23 h24 hF => ?_) (n - (lo + 1)) (lo + 1) σ G (by omega) h7 h23 h24 hF rfl
      refine z_iinc (v := (nI (lo + 1))) (lv' := [(1, .int _), (2, .int _), (0, .ref (b + 23))]) kd_U_makeChain_84 1 rfl (nI_1 _) (by decide) rfl ?_
      refine z_goto (tgt := 2) kd_U_makeChain_87 (by decide) ?_
      refine z_pick (lv' := [(1, .int (nI (lo + 1))), (0, .ref (b + 23))]) [0, 2] rfl ?_
      exact ih (lo + 1) σ _ (by omega) h7 h23 h24 hF hv
set_option maxHeartbeats 4000000 in
set_option maxRecDepth 100000 in
theorem c_U_makeChain {l : Launch} {D : va_G} {tys : List (ClassId × FieldType)} {b N : Nat} {σ : Nat → Option va_E} {cI cJ cA : ClassId} (ht0 : tys[0]? = some (cI, .int)) (ht1 : tys[1]? = some (cJ, .long)) (ht3 : tys[3]? = some (cA, .array .long)) {n : Nat} (hn : n ≤ 10) {cn cm tp to : Value} {od : Int64} (h23 : σ 23 = some (.inr (6, [cn, .ref (b + 24), .ref (b + 1), .ref (b + 19), .ref (b + 7), .long od, cm, tp, to]))) {G : Nat → Int64} (h7 : σ 7 = some (.inr (3, [.int (nI n), .ref (b + 8)]))) (h24 : σ 24 = some (.inl (cJ, 10, .inr (.inl G)))) : zM l D kCl tys kNw b ky_U_makeChain (kh_U_makeChain :: zT) 1 40 0 0 [.ref (b + 23)] N σ ((fun oc N' σ' => oc = .returned none ∧ N' = N ∧ σ' 24 = some (.inl (cJ, 10, .inr (.inl (mcV n G)))) ∧ Fr 24 24 σ σ')) := by
  refine zM.of (by decide +kernel) rfl (Nat.le_of_ble_eq_true rfl) ?_
  refine z_pick (lv' := [(0, .ref (b + 23))]) [0] rfl ?_
  refine z_iconst (v := 0) kd_U_makeChain_0 (by decide) ?_
  refine z_istore_n (lv' := [(1, .int _), (0, .ref (b + 23))]) kd_U_makeChain_1 (by decide) rfl ?_
  refine z_pick (lv' := [(1, .int (nI 0)), (0, .ref (b + 23))]) [0, 1] rfl ?_
  exact l_U_mcO ht0 ht1 ht3 hn n 0 σ G (by omega) h7 h23 h24 Fr.rf rfl
