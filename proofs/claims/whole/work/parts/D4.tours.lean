def jaL (F T : Nat → Nat) : Nat → Nat → (Nat → Nat) → Nat → Nat
  | 0, _, P => P
  | m + 1, k, P => jaL F T m (k + 1) (jmP (F k) (T k) P)
def prF : Nat → Nat → Int64 → Int64
  | 0, _, p => p
  | m + 1, f, p => prF m (f + 1) (p * lN f)
def tvL (F T W : Nat → Nat) (a : Nat) (P : Nat → Nat) (g : Nat) : Nat → Nat → Int64 → Option Int64
  | 0, _, p => some p
  | m + 1, v, p => if ¬ wtV T W a v = wtV F W a v ∨ (0 < wtV F W a v ∧ ¬ P v = P g) then none else tvL F T W a P g m (v + 1) (prF (wtV F W a v - 2) 2 p)
def tiL (P : Nat → Nat) (g : Nat) : Nat → Nat → Nat → (Nat → Option Nat) → Nat × (Nat → Option Nat)
  | 0, _, c, I => (c, I)
  | m + 1, x, c, I => if P x = P g ∧ ¬ x = g then tiL P g m (x + 1) (c + 1) (fun v => if v = x then some c else I v) else tiL P g m (x + 1) c (fun v => if v = x then none else I v)
def toR (n a : Nat) (F T W : Nat → Nat) (w : Nat → Int32) : Int64 := match tvL F T W a (jaL F T a 0 (fun v => v)) (F 0) n 0 1 with
  | none => 0
  | some p => dmV (tiL (jaL F T a 0 (fun v => v)) (F 0) n 0 0 (fun _ => none)).1 (roL F T w (tiL (jaL F T a 0 (fun v => v)) (F 0) n 0 0 (fun _ => none)).2 a 0 Z0) * p
def toV (n a : Nat) (F T W : Nat → Nat) (w : Nat → Int32) : Int64 := if a = 0 then 0 else toR n a F T W w
theorem tiL_le {P : Nat → Nat} {g : Nat} : ∀ m x c I, c ≤ x → (tiL P g m x c I).1 ≤ x + m := by
  intro m
  induction m with
  | zero => intro x c I h; exact h
  | succ m ih =>
    intro x c I h
    unfold tiL
    split
    · have := ih (x + 1) (c + 1) (fun v => if v = x then some c else I v) (by omega); omega
    · have := ih (x + 1) c (fun v => if v = x then none else I v) (by omega); omega
theorem BH.ti {x c : Nat} {g : Nat → Int32} {I : Nat → Option Nat} (h : BH x 10 g I) (hc : c < 10) : BH (x + 1) 10 (upd g x (nI c)) (fun v => if v = x then some c else I v) := by
  intro v hv
  by_cases e : v = x
  · subst e; exact ⟨by simp [upd, oI], fun k hk => by simp at hk; omega⟩
  · have := h v (by omega)
    exact ⟨by simp [upd, e, this.1], fun k hk => this.2 k (by simpa [e] using hk)⟩
theorem BH.tn {x : Nat} {g : Nat → Int32} {I : Nat → Option Nat} (h : BH x 10 g I) : BH (x + 1) 10 (upd g x (-1)) (fun v => if v = x then none else I v) := by
  intro v hv
  by_cases e : v = x
  · subst e; exact ⟨by simp [upd, oI], fun k hk => by simp at hk⟩
  · have := h v (by omega)
    exact ⟨by simp [upd, e, this.1], fun k hk => this.2 k (by simpa [e] using hk)⟩
set_option maxHeartbeats 4000000 in
set_option maxRecDepth 100000 in
theorem l_M_ja {l : Launch} {D : va_G} {tys : List (ClassId × FieldType)} {b N : Nat} {σ0 : Nat → Option va_E} {cI cJ cA : ClassId} (ht0 : tys[0]? = some (cI, .int)) (ht1 : tys[1]? = some (cJ, .long)) (ht3 : tys[3]? = some (cA, .array .long)) {th fa ls rm : Value} {n a : Nat} {gf gt gw : Nat → Int32} {F T : Nat → Nat} {Q : Outcome → Nat → (Nat → Option va_E) → Prop} {Pf : Nat → Nat} (kk : ∀ (σ : Nat → Option va_E) (g2 : Nat → Int32), MN b cI σ th fa ls rm n a gf gt gw F T → σ 62 = some (.inl (cI, 10, .inl g2)) → PH n n g2 Pf → Fr 62 62 σ0 σ → Z l D kCl tys (kh_M_tours :: zT) kNw ky_M_tours.cls ky_M_tours.name kb_M_tours 9 (some FieldType.long) { frames := 10, cells := 0, slots := 0, locals := 360 } b (zFi D kCl b 0 0 Q) 0 0 N (σ) 51 [(0, .ref (b + 54))] []) : ∀ (m k : Nat) (σ : Nat → Option va_E) (g2 : Nat → Int32) (P : Nat → Nat), k + m = a → MN b cI σ th fa ls rm n a gf gt gw F T → σ 62 = some (.inl (cI, 10, .inl g2)) → PH n n g2 P → Fr 62 62 σ0 σ → jaL F T m k P = Pf → Z l D kCl tys (kh_M_tours :: zT) kNw ky_M_tours.cls ky_M_tours.name kb_M_tours 9 (some FieldType.long) { frames := 10, cells := 0, slots := 0, locals := 360 } b (zFi D kCl b 0 0 Q) 0 0 N (σ) 20 [(1, .int (nI k)), (0, .ref (b + 54))] [] := by
  intro m
  induction m with
  | zero =>
    intro k σ g2 P hk hM h62 hp hF hv
    obtain rfl : k = a := by omega
    have ha := hM.ha
    have hv : P = Pf := hv
    subst hv
    refine z_iload_n kd_M_tours_20 0 rfl ?_
    refine z_aload_n kd_M_tours_21 1 rfl ?_
    refine z_get kd_M_tours_22 (kf_M_80 _) hM.h1 rfl ?_
    refine z_icmp_ge (tgt := 51) kd_M_tours_25 (by decide) (fun c25 => ?_) (fun c25 => ?_)
    · refine z_pick (lv' := [(0, .ref (b + 54))]) [1] rfl ?_
      exact kk σ g2 hM h62 hp hF
    · exact absurd (nI_le (Nat.le_refl k) (by omega)) c25
  | succ m ih =>
    intro k σ g2 P hk hM h62 hp hF hv
    have hlt : k < a := by omega
    have ha := hM.ha
    obtain ⟨kf, kfn, kt, ktn⟩ := hM.hft k hlt
    unfold jaL at hv
    refine z_iload_n kd_M_tours_20 0 rfl ?_
    refine z_aload_n kd_M_tours_21 1 rfl ?_
    refine z_get kd_M_tours_22 (kf_M_80 _) hM.h1 rfl ?_
    refine z_icmp_ge (tgt := 51) kd_M_tours_25 (by decide) (fun c25 => ?_) (fun c25 => ?_)
    · exact absurd c25 (nI_ge hlt (by omega))
    · refine z_aload_n kd_M_tours_28 1 rfl ?_
      refine z_aload_n kd_M_tours_29 1 rfl ?_
      refine z_get kd_M_tours_30 (kf_M_7 _) hM.h1 rfl ?_
      refine z_iload_n kd_M_tours_33 0 rfl ?_
      refine z_ialdN (t0 := 0) kd_M_tours_34 (by assumption) hM.h2 (by omega) (by decide) ?_
      refine z_topi kf ?_
      refine z_aload_n kd_M_tours_35 1 rfl ?_
      refine z_get kd_M_tours_36 (kf_M_13 _) hM.h1 rfl ?_
      refine z_iload_n kd_M_tours_39 0 rfl ?_
      refine z_ialdN (t0 := 0) kd_M_tours_40 (by assumption) hM.h3 (by omega) (by decide) ?_
      refine z_topi kt ?_
      refine z_callV (a := 54) (As := [_, _]) kd_M_tours_41 (kg_M_144 _) hM.h1 kc_M (c_M_join ht0 ht1 ht3 hM kfn ktn hp h62) rfl rfl (Nat.le_of_ble_eq_true rfl) ⟨Nat.le_of_ble_eq_true rfl, Nat.le_of_ble_eq_true rfl⟩ ⟨Nat.le_of_ble_eq_true rfl, Nat.le_of_ble_eq_true rfl⟩ ?_
      rintro _ _ σ_1 ⟨hv, rfl, ⟨g2_1, hp_1, x62_1⟩, q_1⟩
      cases hv
      refine z_eq (st' := [_]) rfl rfl rfl rfl ?_
      have hM_1 := hM.fr q_1 (by omega)
      refine z_istore_n (lv' := [(2, .int _), (1, .int _), (0, .ref (b + 54))]) kd_M_tours_44 (by decide) rfl ?_
      refine z_iinc (v := (nI (k + 1))) (lv' := [(1, .int _), (2, .int _), (0, .ref (b + 54))]) kd_M_tours_45 1 rfl (nI_1 _) (by decide) rfl ?_
      refine z_goto (tgt := 20) kd_M_tours_48 (by decide) ?_
      refine z_pick (lv' := [(1, .int (nI (k + 1))), (0, .ref (b + 54))]) [0, 2] rfl ?_
      exact ih (k + 1) _ _ _ (by omega) hM_1 x62_1 hp_1 (Fr.tr hF (q_1.wide (by omega) (by omega))) hv
set_option maxHeartbeats 4000000 in
set_option maxRecDepth 100000 in
theorem l_M_tw {l : Launch} {D : va_G} {tys : List (ClassId × FieldType)} {b N : Nat} {σ : Nat → Option va_E} {cI cJ cA : ClassId} (ht0 : tys[0]? = some (cI, .int)) (ht1 : tys[1]? = some (cJ, .long)) (ht3 : tys[3]? = some (cA, .array .long)) {th fa ls rm : Value} {n a : Nat} {gf gt gw : Nat → Int32} {F T : Nat → Nat} (hM : MN b cI σ th fa ls rm n a gf gt gw F T) {W : Nat → Nat} (hw : ∀ k, k < a → gw k = nI (W k) ∧ W k ≤ 9) {v g : Nat} (hvn : v < n) {p : Int64} {Q : Outcome → Nat → (Nat → Option va_E) → Prop} {fo fi : Nat} (kk : Z l D kCl tys (kh_M_tours :: zT) kNw ky_M_tours.cls ky_M_tours.name kb_M_tours 9 (some FieldType.long) { frames := 10, cells := 0, slots := 0, locals := 360 } b (zFi D kCl b 0 0 Q) 0 0 N (σ) 152 [(6, .int (nI fo)), (5, .int (nI fi)), (4, .int (nI v)), (2, .long p), (1, .int (nI g)), (0, .ref (b + 54))] []) : ∀ (m k o i : Nat), k + m = a → wtN F W v m k o = fo → wtN T W v m k i = fi → Z l D kCl tys (kh_M_tours :: zT) kNw ky_M_tours.cls ky_M_tours.name kb_M_tours 9 (some FieldType.long) { frames := 10, cells := 0, slots := 0, locals := 360 } b (zFi D kCl b 0 0 Q) 0 0 N (σ) 81 [(7, .int (nI k)), (6, .int (nI o)), (5, .int (nI i)), (4, .int (nI v)), (2, .long p), (1, .int (nI g)), (0, .ref (b + 54))] [] := by
  have ha := hM.ha
  have hn := hM.hn
  intro m
  induction m with
  | zero =>
    intro k o i hk h1 h2
    obtain rfl : k = a := by omega
    have h1 : o = fo := h1
    have h2 : i = fi := h2
    subst h1
    subst h2
    refine z_iload kd_M_tours_81 0 rfl ?_
    refine z_aload_n kd_M_tours_83 6 rfl ?_
    refine z_get kd_M_tours_84 (kf_M_80 _) hM.h1 rfl ?_
    refine z_icmp_ge (tgt := 152) kd_M_tours_87 (by decide) (fun c87 => ?_) (fun c87 => ?_)
    · refine z_pick (lv' := [(6, .int (nI o)), (5, .int (nI i)), (4, .int (nI v)), (2, .long p), (1, .int (nI g)), (0, .ref (b + 54))]) [1, 2, 3, 4, 5, 6] rfl ?_
      exact kk
    · exact absurd (nI_le (Nat.le_refl k) (by omega)) c87
  | succ m ih =>
    intro k o i hk h1 h2
    have hlt : k < a := by omega
    obtain ⟨kf, kfn, kt, ktn⟩ := hM.hft k hlt
    unfold wtN at h1 h2
    refine z_iload kd_M_tours_81 0 rfl ?_
    refine z_aload_n kd_M_tours_83 6 rfl ?_
    refine z_get kd_M_tours_84 (kf_M_80 _) hM.h1 rfl ?_
    refine z_icmp_ge (tgt := 152) kd_M_tours_87 (by decide) (fun c87 => ?_) (fun c87 => ?_)
    · exact absurd c87 (nI_ge hlt (by omega))
    · refine z_iload kd_M_tours_90 1 rfl ?_
      refine z_aload_n kd_M_tours_92 6 rfl ?_
      refine z_get kd_M_tours_93 (kf_M_7 _) hM.h1 rfl ?_
      refine z_iload kd_M_tours_96 0 rfl ?_
      refine z_ialdN (t0 := 0) kd_M_tours_98 (by assumption) hM.h2 (by omega) (by decide) ?_
      refine z_topi kf ?_
      refine z_iload kd_M_tours_99 3 rfl ?_
      refine z_icmp_ne (tgt := 114) kd_M_tours_101 (by decide) (fun c101 => ?_) (fun c101 => ?_)
      · rw [if_neg (fun z => c101 (by rw [z]))] at h1
        refine z_iconst (v := 0) kd_M_tours_114 (by decide) ?_
        refine z_iadd kd_M_tours_115 ?_
        refine z_topi (nI_add o 0) ?_
        refine z_istore (lv' := [(6, .int _), (7, .int _), (5, .int _), (4, .int _), (2, .long _), (1, .int _), (0, .ref (b + 54))]) kd_M_tours_116 (by decide) rfl ?_
        refine z_iload kd_M_tours_118 2 rfl ?_
        refine z_aload_n kd_M_tours_120 6 rfl ?_
        refine z_get kd_M_tours_121 (kf_M_13 _) hM.h1 rfl ?_
        refine z_iload kd_M_tours_124 1 rfl ?_
        refine z_ialdN (t0 := 0) kd_M_tours_126 (by assumption) hM.h3 (by omega) (by decide) ?_
        refine z_topi kt ?_
        refine z_iload kd_M_tours_127 3 rfl ?_
        refine z_icmp_ne (tgt := 142) kd_M_tours_129 (by decide) (fun c129 => ?_) (fun c129 => ?_)
        · rw [if_neg (fun z => c129 (by rw [z]))] at h2
          refine z_iconst (v := 0) kd_M_tours_142 (by decide) ?_
          refine z_iadd kd_M_tours_143 ?_
          refine z_topi (nI_add i 0) ?_
          refine z_istore (lv' := [(5, .int _), (6, .int _), (7, .int _), (4, .int _), (2, .long _), (1, .int _), (0, .ref (b + 54))]) kd_M_tours_144 (by decide) rfl ?_
          refine z_iinc (v := (nI (k + 1))) (lv' := [(7, .int _), (5, .int _), (6, .int _), (4, .int _), (2, .long _), (1, .int _), (0, .ref (b + 54))]) kd_M_tours_146 2 rfl (nI_1 _) (by decide) rfl ?_
          refine z_goto (tgt := 81) kd_M_tours_149 (by decide) ?_
          refine z_pick (lv' := [(7, .int (nI (k + 1))), (6, .int (nI (o + 0))), (5, .int (nI (i + 0))), (4, .int (nI v)), (2, .long p), (1, .int (nI g)), (0, .ref (b + 54))]) [0, 2, 1, 3, 4, 5, 6] rfl ?_
          exact ih (k + 1) _ _ (by omega) h1 h2
        · rw [if_pos ((nI_eq (by omega) (by omega)).mp c129)] at h2
          refine z_aload_n kd_M_tours_132 6 rfl ?_
          refine z_get kd_M_tours_133 (kf_M_16 _) hM.h1 rfl ?_
          refine z_iload kd_M_tours_136 1 rfl ?_
          refine z_ialdN (t0 := 0) kd_M_tours_138 (by assumption) hM.h4 (by omega) (by decide) ?_
          refine z_topi (hw k hlt).1 ?_
          refine z_goto (tgt := 143) kd_M_tours_139 (by decide) ?_
          refine z_iadd kd_M_tours_143 ?_
          refine z_topi (nI_add i (W k)) ?_
          refine z_istore (lv' := [(5, .int _), (6, .int _), (7, .int _), (4, .int _), (2, .long _), (1, .int _), (0, .ref (b + 54))]) kd_M_tours_144 (by decide) rfl ?_
          refine z_iinc (v := (nI (k + 1))) (lv' := [(7, .int _), (5, .int _), (6, .int _), (4, .int _), (2, .long _), (1, .int _), (0, .ref (b + 54))]) kd_M_tours_146 2 rfl (nI_1 _) (by decide) rfl ?_
          refine z_goto (tgt := 81) kd_M_tours_149 (by decide) ?_
          refine z_pick (lv' := [(7, .int (nI (k + 1))), (6, .int (nI (o + 0))), (5, .int (nI (i + (W k)))), (4, .int (nI v)), (2, .long p), (1, .int (nI g)), (0, .ref (b + 54))]) [0, 2, 1, 3, 4, 5, 6] rfl ?_
          exact ih (k + 1) _ _ (by omega) h1 h2
      · rw [if_pos ((nI_eq (by omega) (by omega)).mp c101)] at h1
        refine z_aload_n kd_M_tours_104 6 rfl ?_
        refine z_get kd_M_tours_105 (kf_M_16 _) hM.h1 rfl ?_
        refine z_iload kd_M_tours_108 0 rfl ?_
        refine z_ialdN (t0 := 0) kd_M_tours_110 (by assumption) hM.h4 (by omega) (by decide) ?_
        refine z_topi (hw k hlt).1 ?_
        refine z_goto (tgt := 115) kd_M_tours_111 (by decide) ?_
        refine z_iadd kd_M_tours_115 ?_
        refine z_topi (nI_add o (W k)) ?_
        refine z_istore (lv' := [(6, .int _), (7, .int _), (5, .int _), (4, .int _), (2, .long _), (1, .int _), (0, .ref (b + 54))]) kd_M_tours_116 (by decide) rfl ?_
        refine z_iload kd_M_tours_118 2 rfl ?_
        refine z_aload_n kd_M_tours_120 6 rfl ?_
        refine z_get kd_M_tours_121 (kf_M_13 _) hM.h1 rfl ?_
        refine z_iload kd_M_tours_124 1 rfl ?_
        refine z_ialdN (t0 := 0) kd_M_tours_126 (by assumption) hM.h3 (by omega) (by decide) ?_
        refine z_topi kt ?_
        refine z_iload kd_M_tours_127 3 rfl ?_
        refine z_icmp_ne (tgt := 142) kd_M_tours_129 (by decide) (fun c129 => ?_) (fun c129 => ?_)
        · rw [if_neg (fun z => c129 (by rw [z]))] at h2
          refine z_iconst (v := 0) kd_M_tours_142 (by decide) ?_
          refine z_iadd kd_M_tours_143 ?_
          refine z_topi (nI_add i 0) ?_
          refine z_istore (lv' := [(5, .int _), (6, .int _), (7, .int _), (4, .int _), (2, .long _), (1, .int _), (0, .ref (b + 54))]) kd_M_tours_144 (by decide) rfl ?_
          refine z_iinc (v := (nI (k + 1))) (lv' := [(7, .int _), (5, .int _), (6, .int _), (4, .int _), (2, .long _), (1, .int _), (0, .ref (b + 54))]) kd_M_tours_146 2 rfl (nI_1 _) (by decide) rfl ?_
          refine z_goto (tgt := 81) kd_M_tours_149 (by decide) ?_
          refine z_pick (lv' := [(7, .int (nI (k + 1))), (6, .int (nI (o + (W k)))), (5, .int (nI (i + 0))), (4, .int (nI v)), (2, .long p), (1, .int (nI g)), (0, .ref (b + 54))]) [0, 2, 1, 3, 4, 5, 6] rfl ?_
          exact ih (k + 1) _ _ (by omega) h1 h2
        · rw [if_pos ((nI_eq (by omega) (by omega)).mp c129)] at h2
          refine z_aload_n kd_M_tours_132 6 rfl ?_
          refine z_get kd_M_tours_133 (kf_M_16 _) hM.h1 rfl ?_
          refine z_iload kd_M_tours_136 1 rfl ?_
          refine z_ialdN (t0 := 0) kd_M_tours_138 (by assumption) hM.h4 (by omega) (by decide) ?_
          refine z_topi (hw k hlt).1 ?_
          refine z_goto (tgt := 143) kd_M_tours_139 (by decide) ?_
          refine z_iadd kd_M_tours_143 ?_
          refine z_topi (nI_add i (W k)) ?_
          refine z_istore (lv' := [(5, .int _), (6, .int _), (7, .int _), (4, .int _), (2, .long _), (1, .int _), (0, .ref (b + 54))]) kd_M_tours_144 (by decide) rfl ?_
          refine z_iinc (v := (nI (k + 1))) (lv' := [(7, .int _), (5, .int _), (6, .int _), (4, .int _), (2, .long _), (1, .int _), (0, .ref (b + 54))]) kd_M_tours_146 2 rfl (nI_1 _) (by decide) rfl ?_
          refine z_goto (tgt := 81) kd_M_tours_149 (by decide) ?_
          refine z_pick (lv' := [(7, .int (nI (k + 1))), (6, .int (nI (o + (W k)))), (5, .int (nI (i + (W k)))), (4, .int (nI v)), (2, .long p), (1, .int (nI g)), (0, .ref (b + 54))]) [0, 2, 1, 3, 4, 5, 6] rfl ?_
          exact ih (k + 1) _ _ (by omega) h1 h2
theorem lN_s1 (f : Nat) : lN f + 1 = lN (f + 1) := (Int64.ofNat_add f 1).symm
theorem lN_geI {f o : Nat} (hf : f < 2 ^ 62) (ho : o < 2 ^ 31) : lN f < (nI o).toInt64 ↔ f < o := by
  rw [nI_l ho]
  have e1 : (lN f).toInt = f := by unfold lN; rw [Int64.toInt_ofNat_of_lt (by omega)]
  have e2 : (lN o).toInt = o := by unfold lN; rw [Int64.toInt_ofNat_of_lt (by omega)]
  rw [Int64.lt_iff_toInt_lt, e1, e2]; omega
set_option maxHeartbeats 4000000 in
set_option maxRecDepth 100000 in
theorem l_M_pr {l : Launch} {D : va_G} {tys : List (ClassId × FieldType)} {b N : Nat} {σ : Nat → Option va_E} {cI cJ cA : ClassId} (ht0 : tys[0]? = some (cI, .int)) (ht1 : tys[1]? = some (cJ, .long)) (ht3 : tys[3]? = some (cA, .array .long)) {v g o : Nat} (ho : o < 2 ^ 31) {Q : Outcome → Nat → (Nat → Option va_E) → Prop} {pf : Int64} (kk : Z l D kCl tys (kh_M_tours :: zT) kNw ky_M_tours.cls ky_M_tours.name kb_M_tours 9 (some FieldType.long) { frames := 10, cells := 0, slots := 0, locals := 360 } b (zFi D kCl b 0 0 Q) 0 0 N (σ) 63 [(4, .int (nI (v + 1))), (2, .long pf), (1, .int (nI g)), (0, .ref (b + 54))] []) : ∀ (m f : Nat) (p : Int64), m = o - f → f < 2 ^ 32 → prF m f p = pf → Z l D kCl tys (kh_M_tours :: zT) kNw ky_M_tours.cls ky_M_tours.name kb_M_tours 9 (some FieldType.long) { frames := 10, cells := 0, slots := 0, locals := 360 } b (zFi D kCl b 0 0 Q) 0 0 N (σ) 187 [(7, .long (lN f)), (6, .int (nI o)), (4, .int (nI v)), (2, .long p), (1, .int (nI g)), (0, .ref (b + 54))] [] := by
  intro m
  induction m with
  | zero =>
    intro f p hm hf hv
    have hv : p = pf := hv
    subst hv
    refine z_lload kd_M_tours_187 0 rfl ?_
    refine z_iload kd_M_tours_189 1 rfl ?_
    refine z_i2l kd_M_tours_191 ?_
    refine z_lcmp kd_M_tours_192 ?_
    refine z_if_ge (tgt := 210) kd_M_tours_193 (by decide) (fun c193 => ?_) (fun c193 => ?_)
    · refine z_iinc (v := (nI (v + 1))) (lv' := [(4, .int _), (7, .long _), (6, .int _), (2, .long _), (1, .int _), (0, .ref (b + 54))]) kd_M_tours_210 2 rfl (nI_1 _) (by decide) rfl ?_
      refine z_goto (tgt := 63) kd_M_tours_213 (by decide) ?_
      refine z_pick (lv' := [(4, .int (nI (v + 1))), (2, .long p), (1, .int (nI g)), (0, .ref (b + 54))]) [0, 3, 4, 5] rfl ?_
      exact kk
    · exact absurd ((lN_geI (by omega) ho).mp (Int64.not_le.mp (fun z => c193 ((lg_cmp_ge _ _).mpr z)))) (by omega)
  | succ m ih =>
    intro f p hm hf hv
    unfold prF at hv
    refine z_lload kd_M_tours_187 0 rfl ?_
    refine z_iload kd_M_tours_189 1 rfl ?_
    refine z_i2l kd_M_tours_191 ?_
    refine z_lcmp kd_M_tours_192 ?_
    refine z_if_ge (tgt := 210) kd_M_tours_193 (by decide) (fun c193 => ?_) (fun c193 => ?_)
    · exact absurd ((lN_geI (f := f) (by omega) ho).mpr (by omega)) (Int64.not_lt.mpr ((lg_cmp_ge _ _).mp c193))
    · refine z_lload_n kd_M_tours_196 3 rfl ?_
      refine z_lload kd_M_tours_197 0 rfl ?_
      refine z_lmul kd_M_tours_199 ?_
      refine z_lstore_n (lv' := [(2, .long _), (7, .long _), (6, .int _), (4, .int _), (1, .int _), (0, .ref (b + 54))]) kd_M_tours_200 (by decide) rfl ?_
      refine z_lload kd_M_tours_201 1 rfl ?_
      refine z_lconst (v := 1) kd_M_tours_203 (by decide +kernel) ?_
      refine z_ladd kd_M_tours_204 ?_
      refine z_topl (lN_s1 f) ?_
      refine z_lstore (lv' := [(7, .long _), (2, .long _), (6, .int _), (4, .int _), (1, .int _), (0, .ref (b + 54))]) kd_M_tours_205 (by decide) rfl ?_
      refine z_goto (tgt := 187) kd_M_tours_207 (by decide) ?_
      refine z_pick (lv' := [(7, .long (lN (f + 1))), (6, .int (nI o)), (4, .int (nI v)), (2, .long (p * lN f)), (1, .int (nI g)), (0, .ref (b + 54))]) [0, 2, 3, 1, 4, 5] rfl ?_
      exact ih (f + 1) _ (by omega) (by omega) hv
set_option maxHeartbeats 4000000 in
set_option maxRecDepth 100000 in
theorem l_M_tv {l : Launch} {D : va_G} {tys : List (ClassId × FieldType)} {b N : Nat} {σ : Nat → Option va_E} {cI cJ cA : ClassId} (ht0 : tys[0]? = some (cI, .int)) (ht1 : tys[1]? = some (cJ, .long)) (ht3 : tys[3]? = some (cA, .array .long)) {th fa ls rm : Value} {n a : Nat} {gf gt gw : Nat → Int32} {F T : Nat → Nat} (hM : MN b cI σ th fa ls rm n a gf gt gw F T) {W : Nat → Nat} (hw : ∀ k, k < a → gw k = nI (W k) ∧ W k ≤ 9) {g2 : Nat → Int32} {P : Nat → Nat} (h62 : σ 62 = some (.inl (cI, 10, .inl g2))) (hp : PH n n g2 P) {g : Nat} (hg : g < n) {Q : Outcome → Nat → (Nat → Option va_E) → Prop} {val : Option Int64} (h0 : val = none → Q (.returned (some (.long 0))) N σ) (kk : ∀ p, val = some p → Z l D kCl tys (kh_M_tours :: zT) kNw ky_M_tours.cls ky_M_tours.name kb_M_tours 9 (some FieldType.long) { frames := 10, cells := 0, slots := 0, locals := 360 } b (zFi D kCl b 0 0 Q) 0 0 N (σ) 216 [(2, .long p), (1, .int (nI g)), (0, .ref (b + 54))] []) : ∀ (m v : Nat) (p : Int64), v + m = n → tvL F T W a P g m v p = val → Z l D kCl tys (kh_M_tours :: zT) kNw ky_M_tours.cls ky_M_tours.name kb_M_tours 9 (some FieldType.long) { frames := 10, cells := 0, slots := 0, locals := 360 } b (zFi D kCl b 0 0 Q) 0 0 N (σ) 63 [(4, .int (nI v)), (2, .long p), (1, .int (nI g)), (0, .ref (b + 54))] [] := by
  have ha := hM.ha
  have hn := hM.hn
  intro m
  induction m with
  | zero =>
    intro v p hm hv
    obtain rfl : v = n := by omega
    have hv : some p = val := hv
    refine z_iload kd_M_tours_63 0 rfl ?_
    refine z_aload_n kd_M_tours_65 3 rfl ?_
    refine z_get kd_M_tours_66 (kf_M_73 _) hM.h1 rfl ?_
    refine z_icmp_ge (tgt := 216) kd_M_tours_69 (by decide) (fun c69 => ?_) (fun c69 => ?_)
    · refine z_pick (lv' := [(2, .long p), (1, .int (nI g)), (0, .ref (b + 54))]) [1, 2, 3] rfl ?_
      exact kk p hv.symm
    · exact absurd (nI_le (Nat.le_refl v) (by omega)) c69
  | succ m ih =>
    intro v p hm hv
    have hlt : v < n := by omega
    have lv := (hp v hlt).2
    have lg := (hp g hg).2
    have wf := wtN_le (F := F) (x := v) (fun k hk => (hw k hk).2) a 0 0 (by omega)
    have wt := wtN_le (F := T) (x := v) (fun k hk => (hw k hk).2) a 0 0 (by omega)
    unfold tvL at hv
    refine z_iload kd_M_tours_63 0 rfl ?_
    refine z_aload_n kd_M_tours_65 3 rfl ?_
    refine z_get kd_M_tours_66 (kf_M_73 _) hM.h1 rfl ?_
    refine z_icmp_ge (tgt := 216) kd_M_tours_69 (by decide) (fun c69 => ?_) (fun c69 => ?_)
    · exact absurd c69 (nI_ge hlt (by omega))
    · refine z_iconst (v := 0) kd_M_tours_72 (by decide) ?_
      refine z_istore (lv' := [(5, .int _), (4, .int _), (2, .long _), (1, .int _), (0, .ref (b + 54))]) kd_M_tours_73 (by decide) rfl ?_
      refine z_iconst (v := 0) kd_M_tours_75 (by decide) ?_
      refine z_istore (lv' := [(6, .int _), (5, .int _), (4, .int _), (2, .long _), (1, .int _), (0, .ref (b + 54))]) kd_M_tours_76 (by decide) rfl ?_
      refine z_iconst (v := 0) kd_M_tours_78 (by decide) ?_
      refine z_istore (lv' := [(7, .int _), (6, .int _), (5, .int _), (4, .int _), (2, .long _), (1, .int _), (0, .ref (b + 54))]) kd_M_tours_79 (by decide) rfl ?_
      refine z_pick (lv' := [(7, .int (nI 0)), (6, .int (nI 0)), (5, .int (nI 0)), (4, .int (nI v)), (2, .long p), (1, .int (nI g)), (0, .ref (b + 54))]) [0, 1, 2, 3, 4, 5, 6] rfl ?_
      refine l_M_tw ht0 ht1 ht3 hM hw hlt (fo := wtV F W a v) (fi := wtV T W a v) ?_ a 0 0 0 (by omega) rfl rfl
      refine z_iload kd_M_tours_152 1 rfl ?_
      refine z_iload kd_M_tours_154 0 rfl ?_
      refine z_icmp_ne (tgt := 180) kd_M_tours_156 (by decide) (fun c156 => ?_) (fun c156 => ?_)
      · rw [if_pos (Or.inl (fun z => c156 (by rw [z])))] at hv
        refine z_lconst (v := 0) kd_M_tours_180 (by decide +kernel) ?_
        exact z_lret kd_M_tours_181 rfl (Nat.le_of_ble_eq_true rfl) (Nat.le_of_ble_eq_true rfl) (h0 hv.symm)
      · have q1 : wtV T W a v = wtV F W a v := (nI_eq (by unfold wtV; omega) (by unfold wtV; omega)).mp c156
        refine z_iload kd_M_tours_159 0 rfl ?_
        refine z_if_le (tgt := 182) kd_M_tours_161 (by decide) (fun c161 => ?_) (fun c161 => ?_)
        · have q2 : ¬ 0 < wtV F W a v := fun z => absurd c161 (nI_nle z (by unfold wtV; omega))
          rw [if_neg (fun z => by rcases z with z | z; exact z q1; exact q2 z.1)] at hv
          refine z_ldc2 (v := 2) kd_M_tours_182 (List.mem_cons_of_mem _ (zin 908 rfl rfl)) ?_
          refine z_lstore (lv' := [(7, .long _), (6, .int _), (5, .int _), (4, .int _), (2, .long _), (1, .int _), (0, .ref (b + 54))]) kd_M_tours_185 (by decide) rfl ?_
          refine z_pick (lv' := [(7, .long (lN 2)), (6, .int (nI (wtV F W a v))), (4, .int (nI v)), (2, .long p), (1, .int (nI g)), (0, .ref (b + 54))]) [0, 1, 3, 4, 5, 6] rfl ?_
          exact l_M_pr ht0 ht1 ht3 (by unfold wtV; omega) (ih (v + 1) _ (by omega) hv) (wtV F W a v - 2) 2 p rfl (by decide) rfl
        · have q2 : 0 < wtV F W a v := Nat.pos_of_ne_zero (fun z => c161 (by rw [z]; decide))
          refine z_aload_n kd_M_tours_164 5 rfl ?_
          refine z_get kd_M_tours_165 (kf_M_32 _) hM.h1 rfl ?_
          refine z_iload kd_M_tours_168 2 rfl ?_
          refine z_ialdN (t0 := 0) kd_M_tours_170 (by assumption) h62 (by omega) (by decide) ?_
          refine z_topi (hp v hlt).1 ?_
          refine z_aload_n kd_M_tours_171 5 rfl ?_
          refine z_get kd_M_tours_172 (kf_M_32 _) hM.h1 rfl ?_
          refine z_iload_n kd_M_tours_175 4 rfl ?_
          refine z_ialdN (t0 := 0) kd_M_tours_176 (by assumption) h62 (by omega) (by decide) ?_
          refine z_topi (hp g hg).1 ?_
          refine z_icmp_eq (tgt := 182) kd_M_tours_177 (by decide) (fun c177 => ?_) (fun c177 => ?_)
          · have q3 : P v = P g := (nI_eq (by omega) (by omega)).mp c177
            rw [if_neg (fun z => by rcases z with z | z; exact z q1; exact z.2 q3)] at hv
            refine z_ldc2 (v := 2) kd_M_tours_182 (List.mem_cons_of_mem _ (zin 908 rfl rfl)) ?_
            refine z_lstore (lv' := [(7, .long _), (6, .int _), (5, .int _), (4, .int _), (2, .long _), (1, .int _), (0, .ref (b + 54))]) kd_M_tours_185 (by decide) rfl ?_
            refine z_pick (lv' := [(7, .long (lN 2)), (6, .int (nI (wtV F W a v))), (4, .int (nI v)), (2, .long p), (1, .int (nI g)), (0, .ref (b + 54))]) [0, 1, 3, 4, 5, 6] rfl ?_
            exact l_M_pr ht0 ht1 ht3 (by unfold wtV; omega) (ih (v + 1) _ (by omega) hv) (wtV F W a v - 2) 2 p rfl (by decide) rfl
          · rw [if_pos (Or.inr ⟨q2, fun z => c177 (by rw [z])⟩)] at hv
            refine z_lconst (v := 0) kd_M_tours_180 (by decide +kernel) ?_
            exact z_lret kd_M_tours_181 rfl (Nat.le_of_ble_eq_true rfl) (Nat.le_of_ble_eq_true rfl) (h0 hv.symm)
set_option maxHeartbeats 4000000 in
set_option maxRecDepth 100000 in
theorem l_M_ti {l : Launch} {D : va_G} {tys : List (ClassId × FieldType)} {b N : Nat} {σ0 : Nat → Option va_E} {cI cJ cA : ClassId} (ht0 : tys[0]? = some (cI, .int)) (ht1 : tys[1]? = some (cJ, .long)) (ht3 : tys[3]? = some (cA, .array .long)) {th fa ls rm : Value} {n a : Nat} {gf gt gw : Nat → Int32} {F T : Nat → Nat} {g2 : Nat → Int32} {P : Nat → Nat} (hp : PH n n g2 P) {g : Nat} (hg : g < n) {p : Int64} {Q : Outcome → Nat → (Nat → Option va_E) → Prop} {val : Nat × (Nat → Option Nat)} (kk : ∀ (σ : Nat → Option va_E) (g4 : Nat → Int32), MN b cI σ th fa ls rm n a gf gt gw F T → σ 62 = some (.inl (cI, 10, .inl g2)) → σ 64 = some (.inl (cI, 10, .inl g4)) → BH (n) 10 g4 (val.2) → Fr 64 64 σ0 σ → Z l D kCl tys (kh_M_tours :: zT) kNw ky_M_tours.cls ky_M_tours.name kb_M_tours 9 (some FieldType.long) { frames := 10, cells := 0, slots := 0, locals := 360 } b (zFi D kCl b 0 0 Q) 0 0 N (σ) 299 [(4, .int (nI val.1)), (2, .long p), (1, .int (nI g)), (0, .ref (b + 54))] []) : ∀ (m x : Nat) (σ : Nat → Option va_E) (g4 : Nat → Int32) (c : Nat) (I : Nat → Option Nat), x + m = n → c ≤ x → MN b cI σ th fa ls rm n a gf gt gw F T → σ 62 = some (.inl (cI, 10, .inl g2)) → σ 64 = some (.inl (cI, 10, .inl g4)) → BH (x) 10 g4 (I) → Fr 64 64 σ0 σ → tiL P g m x c I = val → Z l D kCl tys (kh_M_tours :: zT) kNw ky_M_tours.cls ky_M_tours.name kb_M_tours 9 (some FieldType.long) { frames := 10, cells := 0, slots := 0, locals := 360 } b (zFi D kCl b 0 0 Q) 0 0 N (σ) 222 [(5, .int (nI x)), (4, .int (nI c)), (2, .long p), (1, .int (nI g)), (0, .ref (b + 54))] [] := by
  intro m
  induction m with
  | zero =>
    intro x σ g4 c I hm hcx hM h62 h64 hB hF hv
    obtain rfl : x = n := by omega
    have hn := hM.hn
    have hv : (c, I) = val := hv
    subst hv
    refine z_iload kd_M_tours_222 0 rfl ?_
    refine z_aload_n kd_M_tours_224 4 rfl ?_
    refine z_get kd_M_tours_225 (kf_M_73 _) hM.h1 rfl ?_
    refine z_icmp_ge (tgt := 299) kd_M_tours_228 (by decide) (fun c228 => ?_) (fun c228 => ?_)
    · refine z_pick (lv' := [(4, .int (nI c)), (2, .long p), (1, .int (nI g)), (0, .ref (b + 54))]) [1, 2, 3, 4] rfl ?_
      exact kk σ g4 hM h62 h64 hB hF
    · exact absurd (nI_le (Nat.le_refl x) (by omega)) c228
  | succ m ih =>
    intro x σ g4 c I hm hcx hM h62 h64 hB hF hv
    have hlt : x < n := by omega
    have hn := hM.hn
    have lx := (hp x hlt).2
    have lg := (hp g hg).2
    unfold tiL at hv
    refine z_iload kd_M_tours_222 0 rfl ?_
    refine z_aload_n kd_M_tours_224 4 rfl ?_
    refine z_get kd_M_tours_225 (kf_M_73 _) hM.h1 rfl ?_
    refine z_icmp_ge (tgt := 299) kd_M_tours_228 (by decide) (fun c228 => ?_) (fun c228 => ?_)
    · exact absurd c228 (nI_ge hlt (by omega))
    · refine z_aload_n kd_M_tours_231 4 rfl ?_
      refine z_get kd_M_tours_232 (kf_M_32 _) hM.h1 rfl ?_
      refine z_iload kd_M_tours_235 0 rfl ?_
      refine z_ialdN (t0 := 0) kd_M_tours_237 (by assumption) h62 (by omega) (by decide) ?_
      refine z_topi (hp x hlt).1 ?_
      refine z_aload_n kd_M_tours_238 4 rfl ?_
      refine z_get kd_M_tours_239 (kf_M_32 _) hM.h1 rfl ?_
      refine z_iload_n kd_M_tours_242 3 rfl ?_
      refine z_ialdN (t0 := 0) kd_M_tours_243 (by assumption) h62 (by omega) (by decide) ?_
      refine z_topi (hp g hg).1 ?_
      refine z_icmp_ne (tgt := 257) kd_M_tours_244 (by decide) (fun c244 => ?_) (fun c244 => ?_)
      · rw [if_neg (fun z => c244 (by rw [z.1]))] at hv
        refine z_iconst (v := 0) kd_M_tours_257 (by decide) ?_
        refine z_istore (lv' := [(6, .int _), (5, .int _), (4, .int _), (2, .long _), (1, .int _), (0, .ref (b + 54))]) kd_M_tours_258 (by decide) rfl ?_
        refine z_aload_n kd_M_tours_260 5 rfl ?_
        refine z_get kd_M_tours_261 (kf_M_39 _) hM.h1 rfl ?_
        refine z_iload kd_M_tours_264 1 rfl ?_
        refine z_iload kd_M_tours_266 0 rfl ?_
        refine z_if_eq (tgt := 276) kd_M_tours_268 (by decide) (fun c268 => ?_) (fun c268 => absurd c268 (by decide))
        refine z_iconst (v := -1) kd_M_tours_276 (by decide) ?_
        refine z_iastN (t0 := 0) kd_M_tours_277 (by assumption) h64 (by omega) (by decide) ?_
        refine z_upd (fun σ_1 x64_1 q_1 => ?_)
        have x62_1 := (q_1 62 (by omega)).trans h62
        have hM_1 := hM.fr q_1 (by omega)
        refine z_iload kd_M_tours_278 2 rfl ?_
        refine z_iload kd_M_tours_280 0 rfl ?_
        refine z_if_eq (tgt := 289) kd_M_tours_282 (by decide) (fun c282 => ?_) (fun c282 => absurd c282 (by decide))
        refine z_iconst (v := 0) kd_M_tours_289 (by decide) ?_
        refine z_iadd kd_M_tours_290 ?_
        refine z_topi (nI_add c 0) ?_
        refine z_istore (lv' := [(4, .int _), (6, .int _), (5, .int _), (2, .long _), (1, .int _), (0, .ref (b + 54))]) kd_M_tours_291 (by decide) rfl ?_
        refine z_iinc (v := (nI (x + 1))) (lv' := [(5, .int _), (4, .int _), (6, .int _), (2, .long _), (1, .int _), (0, .ref (b + 54))]) kd_M_tours_293 2 rfl (nI_1 _) (by decide) rfl ?_
        refine z_goto (tgt := 222) kd_M_tours_296 (by decide) ?_
        refine z_pick (lv' := [(5, .int (nI (x + 1))), (4, .int (nI (c + 0))), (2, .long p), (1, .int (nI g)), (0, .ref (b + 54))]) [0, 1, 3, 4, 5] rfl ?_
        exact ih (x + 1) _ _ _ _ (by omega) (by omega) hM_1 x62_1 x64_1 hB.tn (Fr.tr hF (q_1.wide (by omega) (by omega))) hv
      · have q1 : P x = P g := (nI_eq (by omega) (by omega)).mp c244
        refine z_iload kd_M_tours_247 0 rfl ?_
        refine z_iload_n kd_M_tours_249 3 rfl ?_
        refine z_icmp_eq (tgt := 257) kd_M_tours_250 (by decide) (fun c250 => ?_) (fun c250 => ?_)
        · rw [if_neg (fun z => z.2 ((nI_eq (by omega) (by omega)).mp c250))] at hv
          refine z_iconst (v := 0) kd_M_tours_257 (by decide) ?_
          refine z_istore (lv' := [(6, .int _), (5, .int _), (4, .int _), (2, .long _), (1, .int _), (0, .ref (b + 54))]) kd_M_tours_258 (by decide) rfl ?_
          refine z_aload_n kd_M_tours_260 5 rfl ?_
          refine z_get kd_M_tours_261 (kf_M_39 _) hM.h1 rfl ?_
          refine z_iload kd_M_tours_264 1 rfl ?_
          refine z_iload kd_M_tours_266 0 rfl ?_
          refine z_if_eq (tgt := 276) kd_M_tours_268 (by decide) (fun c268 => ?_) (fun c268 => absurd c268 (by decide))
          refine z_iconst (v := -1) kd_M_tours_276 (by decide) ?_
          refine z_iastN (t0 := 0) kd_M_tours_277 (by assumption) h64 (by omega) (by decide) ?_
          refine z_upd (fun σ_2 x64_2 q_2 => ?_)
          have x62_2 := (q_2 62 (by omega)).trans h62
          have hM_2 := hM.fr q_2 (by omega)
          refine z_iload kd_M_tours_278 2 rfl ?_
          refine z_iload kd_M_tours_280 0 rfl ?_
          refine z_if_eq (tgt := 289) kd_M_tours_282 (by decide) (fun c282 => ?_) (fun c282 => absurd c282 (by decide))
          refine z_iconst (v := 0) kd_M_tours_289 (by decide) ?_
          refine z_iadd kd_M_tours_290 ?_
          refine z_topi (nI_add c 0) ?_
          refine z_istore (lv' := [(4, .int _), (6, .int _), (5, .int _), (2, .long _), (1, .int _), (0, .ref (b + 54))]) kd_M_tours_291 (by decide) rfl ?_
          refine z_iinc (v := (nI (x + 1))) (lv' := [(5, .int _), (4, .int _), (6, .int _), (2, .long _), (1, .int _), (0, .ref (b + 54))]) kd_M_tours_293 2 rfl (nI_1 _) (by decide) rfl ?_
          refine z_goto (tgt := 222) kd_M_tours_296 (by decide) ?_
          refine z_pick (lv' := [(5, .int (nI (x + 1))), (4, .int (nI (c + 0))), (2, .long p), (1, .int (nI g)), (0, .ref (b + 54))]) [0, 1, 3, 4, 5] rfl ?_
          exact ih (x + 1) _ _ _ _ (by omega) (by omega) hM_2 x62_2 x64_2 hB.tn (Fr.tr hF (q_2.wide (by omega) (by omega))) hv
        · rw [if_pos ⟨q1, fun z => c250 (by rw [z])⟩] at hv
          refine z_iconst (v := 1) kd_M_tours_253 (by decide) ?_
          refine z_goto (tgt := 258) kd_M_tours_254 (by decide) ?_
          refine z_istore (lv' := [(6, .int _), (5, .int _), (4, .int _), (2, .long _), (1, .int _), (0, .ref (b + 54))]) kd_M_tours_258 (by decide) rfl ?_
          refine z_aload_n kd_M_tours_260 5 rfl ?_
          refine z_get kd_M_tours_261 (kf_M_39 _) hM.h1 rfl ?_
          refine z_iload kd_M_tours_264 1 rfl ?_
          refine z_iload kd_M_tours_266 0 rfl ?_
          refine z_if_eq (tgt := 276) kd_M_tours_268 (by decide) (fun c268 => absurd c268 (by decide)) (fun c268 => ?_)
          refine z_iload kd_M_tours_271 2 rfl ?_
          refine z_goto (tgt := 277) kd_M_tours_273 (by decide) ?_
          refine z_iastN (t0 := 0) kd_M_tours_277 (by assumption) h64 (by omega) (by decide) ?_
          refine z_upd (fun σ_3 x64_3 q_3 => ?_)
          have x62_3 := (q_3 62 (by omega)).trans h62
          have hM_3 := hM.fr q_3 (by omega)
          refine z_iload kd_M_tours_278 2 rfl ?_
          refine z_iload kd_M_tours_280 0 rfl ?_
          refine z_if_eq (tgt := 289) kd_M_tours_282 (by decide) (fun c282 => absurd c282 (by decide)) (fun c282 => ?_)
          refine z_iconst (v := 1) kd_M_tours_285 (by decide) ?_
          refine z_goto (tgt := 290) kd_M_tours_286 (by decide) ?_
          refine z_iadd kd_M_tours_290 ?_
          refine z_topi (nI_add c 1) ?_
          refine z_istore (lv' := [(4, .int _), (6, .int _), (5, .int _), (2, .long _), (1, .int _), (0, .ref (b + 54))]) kd_M_tours_291 (by decide) rfl ?_
          refine z_iinc (v := (nI (x + 1))) (lv' := [(5, .int _), (4, .int _), (6, .int _), (2, .long _), (1, .int _), (0, .ref (b + 54))]) kd_M_tours_293 2 rfl (nI_1 _) (by decide) rfl ?_
          refine z_goto (tgt := 222) kd_M_tours_296 (by decide) ?_
          refine z_pick (lv' := [(5, .int (nI (x + 1))), (4, .int (nI (c + 1))), (2, .long p), (1, .int (nI g)), (0, .ref (b + 54))]) [0, 1, 3, 4, 5] rfl ?_
          exact ih (x + 1) _ _ _ _ (by omega) (by omega) hM_3 x62_3 x64_3 (hB.ti (by omega)) (Fr.tr hF (q_3.wide (by omega) (by omega))) hv
set_option maxHeartbeats 4000000 in
set_option maxRecDepth 100000 in
theorem l_M_tod {l : Launch} {D : va_G} {tys : List (ClassId × FieldType)} {b N : Nat} {σ0 : Nat → Option va_E} {cI cJ cA : ClassId} (ht0 : tys[0]? = some (cI, .int)) (ht1 : tys[1]? = some (cJ, .long)) (ht3 : tys[3]? = some (cA, .array .long)) {th fa ls rm : Value} {n a : Nat} {gf gt gw : Nat → Int32} {F T : Nat → Nat} {g4 : Nat → Int32} {I : Nat → Option Nat} (hI : BH n 10 g4 I) {s x : Nat} {p : Int64} {Q : Outcome → Nat → (Nat → Option va_E) → Prop} {Mf : Nat → Nat → Int64} (kk : ∀ (σ : Nat → Option va_E) (g : Nat → Int64), MN b cI σ th fa ls rm n a gf gt gw F T → σ 60 = some (.inl (cJ, 100, .inr (.inl g))) → σ 64 = some (.inl (cI, 10, .inl g4)) → RM g (Mf) → Fr 60 60 σ0 σ → Z l D kCl tys (kh_M_tours :: zT) kNw ky_M_tours.cls ky_M_tours.name kb_M_tours 9 (some FieldType.long) ({ frames := 10, cells := 0, slots := 0, locals := 360 }) b (zFi D kCl b 0 0 Q) 0 0 N (σ) 411 [(4, .int (nI s)), (2, .long p), (1, .int (nI x)), (0, .ref (b + 54))] []) : ∀ (m k : Nat) (σ : Nat → Option va_E) (g : Nat → Int64) (M : Nat → Nat → Int64), k + m = a → MN b cI σ th fa ls rm n a gf gt gw F T → σ 60 = some (.inl (cJ, 100, .inr (.inl g))) → σ 64 = some (.inl (cI, 10, .inl g4)) → RM g (M) → Fr 60 60 σ0 σ → roL F T gw I m k M = Mf → Z l D kCl tys (kh_M_tours :: zT) kNw ky_M_tours.cls ky_M_tours.name kb_M_tours 9 (some FieldType.long) ({ frames := 10, cells := 0, slots := 0, locals := 360 }) b (zFi D kCl b 0 0 Q) 0 0 N (σ) 306 [(5, .int (nI k)), (4, .int (nI s)), (2, .long p), (1, .int (nI x)), (0, .ref (b + 54))] [] := by
  intro m
  induction m with
  | zero =>
    intro k σ g M hk hM h60 h64 r60 hF hv
    obtain rfl : k = a := by omega
    have ha := hM.ha
    have hv : M = Mf := hv
    subst hv
    refine z_iload kd_M_tours_306 0 rfl ?_
    refine z_aload_n kd_M_tours_308 4 rfl ?_
    refine z_get kd_M_tours_309 (kf_M_80 _) hM.h1 rfl ?_
    refine z_icmp_ge (tgt := 411) kd_M_tours_312 (by decide) (fun c312 => ?_) (fun c312 => ?_)
    · refine z_pick (lv' := [(4, .int (nI s)), (2, .long p), (1, .int (nI x)), (0, .ref (b + 54))]) [1, 2, 3, 4] rfl ?_
      exact kk σ g hM h60 h64 r60 hF
    · exact absurd (nI_le (Nat.le_refl k) (by omega)) c312
  | succ m ih =>
    intro k σ g M hk hM h60 h64 r60 hF hv
    have hlt : k < a := by omega
    have hn := hM.hn
    have ha := hM.ha
    obtain ⟨kf, kfn, kt, ktn⟩ := hM.hft k hlt
    have hxI := (hI (F k) kfn).2
    have hyI := (hI (T k) ktn).2
    unfold roL at hv
    refine z_iload kd_M_tours_306 0 rfl ?_
    refine z_aload_n kd_M_tours_308 4 rfl ?_
    refine z_get kd_M_tours_309 (kf_M_80 _) hM.h1 rfl ?_
    refine z_icmp_ge (tgt := 411) kd_M_tours_312 (by decide) (fun c312 => ?_) (fun c312 => ?_)
    · exact absurd c312 (nI_ge hlt (by omega))
    · refine z_aload_n kd_M_tours_315 4 rfl ?_
      refine z_get kd_M_tours_316 (kf_M_7 _) hM.h1 rfl ?_
      refine z_iload kd_M_tours_319 0 rfl ?_
      refine z_ialdN (t0 := 0) kd_M_tours_321 (by assumption) hM.h2 (by omega) (by decide) ?_
      refine z_topi kf ?_
      refine z_aload_n kd_M_tours_322 4 rfl ?_
      refine z_get kd_M_tours_323 (kf_M_13 _) hM.h1 rfl ?_
      refine z_iload kd_M_tours_326 0 rfl ?_
      refine z_ialdN (t0 := 0) kd_M_tours_328 (by assumption) hM.h3 (by omega) (by decide) ?_
      refine z_topi kt ?_
      refine z_icmp_eq (tgt := 405) kd_M_tours_329 (by decide) (fun c329 => ?_) (fun c329 => ?_)
      · rw [if_neg (fun z => z ((nI_eq (by omega) (by omega)).mp c329))] at hv
        refine z_iinc (v := (nI (k + 1))) (lv' := [(5, .int _), (4, .int _), (2, .long _), (1, .int _), (0, .ref (b + 54))]) kd_M_tours_405 0 rfl (nI_1 _) (by decide) rfl ?_
        refine z_goto (tgt := 306) kd_M_tours_408 (by decide) ?_
        refine z_pick (lv' := [(5, .int (nI (k + 1))), (4, .int (nI s)), (2, .long p), (1, .int (nI x)), (0, .ref (b + 54))]) [0, 1, 2, 3, 4] rfl ?_
        exact ih (k + 1) _ _ _ (by omega) hM h60 h64 r60 hF hv
      · rw [if_pos (fun z => c329 (by rw [z]))] at hv
        refine z_aload_n kd_M_tours_332 4 rfl ?_
        refine z_aload_n kd_M_tours_333 4 rfl ?_
        refine z_get kd_M_tours_334 (kf_M_39 _) hM.h1 rfl ?_
        refine z_aload_n kd_M_tours_337 4 rfl ?_
        refine z_get kd_M_tours_338 (kf_M_7 _) hM.h1 rfl ?_
        refine z_iload kd_M_tours_341 0 rfl ?_
        refine z_ialdN (t0 := 0) kd_M_tours_343 (by assumption) hM.h2 (by omega) (by decide) ?_
        refine z_topi kf ?_
        refine z_ialdN (t0 := 0) kd_M_tours_344 (by assumption) h64 (by omega) (by decide) ?_
        refine z_topi (hI (F k) kfn).1 ?_
        refine z_aload_n kd_M_tours_345 4 rfl ?_
        refine z_get kd_M_tours_346 (kf_M_39 _) hM.h1 rfl ?_
        refine z_aload_n kd_M_tours_349 4 rfl ?_
        refine z_get kd_M_tours_350 (kf_M_7 _) hM.h1 rfl ?_
        refine z_iload kd_M_tours_353 0 rfl ?_
        refine z_ialdN (t0 := 0) kd_M_tours_355 (by assumption) hM.h2 (by omega) (by decide) ?_
        refine z_topi kf ?_
        refine z_ialdN (t0 := 0) kd_M_tours_356 (by assumption) h64 (by omega) (by decide) ?_
        refine z_topi (hI (F k) kfn).1 ?_
        refine z_aload_n kd_M_tours_357 4 rfl ?_
        refine z_get kd_M_tours_358 (kf_M_16 _) hM.h1 rfl ?_
        refine z_iload kd_M_tours_361 0 rfl ?_
        refine z_ialdN (t0 := 0) kd_M_tours_363 (by assumption) hM.h4 (by omega) (by decide) ?_
        refine z_i2l kd_M_tours_364 ?_
        refine z_callV (a := 54) (As := [_, _, _]) kd_M_tours_365 (kg_M_105 _) hM.h1 kc_M (c_M_addTo ht0 ht1 ht3 hM r60 h60 (x := I (F k)) (y := I (F k)) hxI hxI) rfl rfl (Nat.le_of_ble_eq_true rfl) ⟨Nat.le_of_ble_eq_true rfl, Nat.le_of_ble_eq_true rfl⟩ ⟨Nat.le_of_ble_eq_true rfl, Nat.le_of_ble_eq_true rfl⟩ ?_
        rintro _ _ σ_1 ⟨hv, rfl, ⟨g_1, r60_1, x60_1⟩, q_1⟩
        cases hv
        refine z_eq (st' := []) rfl rfl rfl rfl ?_
        have x64_1 := (q_1 64 (by omega)).trans h64
        have hM_1 := hM.fr q_1 (by omega)
        refine z_aload_n kd_M_tours_368 4 rfl ?_
        refine z_aload_n kd_M_tours_369 4 rfl ?_
        refine z_get kd_M_tours_370 (kf_M_39 _) hM_1.h1 rfl ?_
        refine z_aload_n kd_M_tours_373 4 rfl ?_
        refine z_get kd_M_tours_374 (kf_M_7 _) hM_1.h1 rfl ?_
        refine z_iload kd_M_tours_377 0 rfl ?_
        refine z_ialdN (t0 := 0) kd_M_tours_379 (by assumption) hM_1.h2 (by omega) (by decide) ?_
        refine z_topi kf ?_
        refine z_ialdN (t0 := 0) kd_M_tours_380 (by assumption) x64_1 (by omega) (by decide) ?_
        refine z_topi (hI (F k) kfn).1 ?_
        refine z_aload_n kd_M_tours_381 4 rfl ?_
        refine z_get kd_M_tours_382 (kf_M_39 _) hM_1.h1 rfl ?_
        refine z_aload_n kd_M_tours_385 4 rfl ?_
        refine z_get kd_M_tours_386 (kf_M_13 _) hM_1.h1 rfl ?_
        refine z_iload kd_M_tours_389 0 rfl ?_
        refine z_ialdN (t0 := 0) kd_M_tours_391 (by assumption) hM_1.h3 (by omega) (by decide) ?_
        refine z_topi kt ?_
        refine z_ialdN (t0 := 0) kd_M_tours_392 (by assumption) x64_1 (by omega) (by decide) ?_
        refine z_topi (hI (T k) ktn).1 ?_
        refine z_aload_n kd_M_tours_393 4 rfl ?_
        refine z_get kd_M_tours_394 (kf_M_16 _) hM_1.h1 rfl ?_
        refine z_iload kd_M_tours_397 0 rfl ?_
        refine z_ialdN (t0 := 0) kd_M_tours_399 (by assumption) hM_1.h4 (by omega) (by decide) ?_
        refine z_ineg kd_M_tours_400 ?_
        refine z_i2l kd_M_tours_401 ?_
        refine z_callV (a := 54) (As := [_, _, _]) kd_M_tours_402 (kg_M_105 _) hM_1.h1 kc_M (c_M_addTo ht0 ht1 ht3 hM_1 r60_1 x60_1 (x := I (F k)) (y := I (T k)) hxI hyI) rfl rfl (Nat.le_of_ble_eq_true rfl) ⟨Nat.le_of_ble_eq_true rfl, Nat.le_of_ble_eq_true rfl⟩ ⟨Nat.le_of_ble_eq_true rfl, Nat.le_of_ble_eq_true rfl⟩ ?_
        rintro _ _ σ_2 ⟨hv, rfl, ⟨g_2, r60_2, x60_2⟩, q_2⟩
        cases hv
        refine z_eq (st' := []) rfl rfl rfl rfl ?_
        have x64_2 := (q_2 64 (by omega)).trans x64_1
        have hM_2 := hM_1.fr q_2 (by omega)
        refine z_iinc (v := (nI (k + 1))) (lv' := [(5, .int _), (4, .int _), (2, .long _), (1, .int _), (0, .ref (b + 54))]) kd_M_tours_405 0 rfl (nI_1 _) (by decide) rfl ?_
        refine z_goto (tgt := 306) kd_M_tours_408 (by decide) ?_
        refine z_pick (lv' := [(5, .int (nI (k + 1))), (4, .int (nI s)), (2, .long p), (1, .int (nI x)), (0, .ref (b + 54))]) [0, 1, 2, 3, 4] rfl ?_
        exact ih (k + 1) _ _ _ (by omega) hM_2 x60_2 x64_2 r60_2 (Fr.tr (Fr.tr hF (q_1.wide (by omega) (by omega))) (q_2.wide (by omega) (by omega))) hv
set_option maxHeartbeats 4000000 in
set_option maxRecDepth 100000 in
theorem c_M_tours0 {l : Launch} {D : va_G} {tys : List (ClassId × FieldType)} {b N : Nat} {σ : Nat → Option va_E} {cI cJ cA : ClassId} (ht0 : tys[0]? = some (cI, .int)) (ht1 : tys[1]? = some (cJ, .long)) (ht3 : tys[3]? = some (cA, .array .long)) {cZ : ClassId} (ht2 : tys[2]? = some (cZ, .boolean)) {n a : Nat} {gf gt gw : Nat → Int32} {F T : Nat → Nat} {C K : Nat → Int64} (hMS : MS b cI cJ cZ σ n a gf gt gw F T C K) (h0 : a = 0) : zM l D kCl tys kNw b ky_M_tours (kh_M_tours :: zT) 10 360 0 0 [.ref (b + 54)] N σ ((fun oc N' σ' => oc = .returned (some (.long 0)) ∧ N' = N ∧ MS b cI cJ cZ σ' n a gf gt gw F T C K ∧ Fr 54 73 σ σ')) := by
  refine zM.of (by decide +kernel) rfl (Nat.le_of_ble_eq_true rfl) ?_
  refine z_pick (lv' := [(0, .ref (b + 54))]) [0] rfl ?_
  obtain ⟨⟨th, fa, ls, rm, hM⟩, h58, h59, ⟨g60, h60⟩, ⟨g61, h61⟩, ⟨g62, h62⟩, ⟨g63, h63⟩, ⟨g64, h64⟩, ⟨g65, h65⟩, ⟨g66, h66⟩, ⟨g67, h67⟩, ⟨g68, h68⟩, ⟨g69, h69⟩, ⟨g70, h70⟩, ⟨g71, h71⟩, ⟨g72, h72⟩, ⟨g73, h73⟩⟩ := hMS
  have hn := hM.hn
  have ha := hM.ha
  refine z_aload_n kd_M_tours_0 0 rfl ?_
  refine z_iconst (v := 0) kd_M_tours_1 (by decide) ?_
  refine z_putE (fs' := [_, _, _, _, _, _, _, _, _, _, _, _, _, _, _, _, _, _, _, _, _, _, _, _, _]) kd_M_tours_2 (kp_M_69 _) hM.h1 (Nat.le_of_ble_eq_true rfl) rfl rfl rfl ?_
  refine z_upd (fun σ_1 x54_1 q_1 => ?_)
  have x58_1 := (q_1 58 (by omega)).trans h58
  have x59_1 := (q_1 59 (by omega)).trans h59
  have x60_1 := (q_1 60 (by omega)).trans h60
  have x61_1 := (q_1 61 (by omega)).trans h61
  have x62_1 := (q_1 62 (by omega)).trans h62
  have x63_1 := (q_1 63 (by omega)).trans h63
  have x64_1 := (q_1 64 (by omega)).trans h64
  have x65_1 := (q_1 65 (by omega)).trans h65
  have x66_1 := (q_1 66 (by omega)).trans h66
  have x67_1 := (q_1 67 (by omega)).trans h67
  have x68_1 := (q_1 68 (by omega)).trans h68
  have x69_1 := (q_1 69 (by omega)).trans h69
  have x70_1 := (q_1 70 (by omega)).trans h70
  have x71_1 := (q_1 71 (by omega)).trans h71
  have x72_1 := (q_1 72 (by omega)).trans h72
  have x73_1 := (q_1 73 (by omega)).trans h73
  have hM_1 := hM.put x54_1 q_1
  refine z_aload_n kd_M_tours_5 0 rfl ?_
  refine z_get kd_M_tours_6 (kf_M_80 _) hM_1.h1 rfl ?_
  refine z_if_ne (tgt := 14) kd_M_tours_9 (by decide) (fun c9 => ?_) (fun c9 => ?_)
  · exact absurd (by rw [h0]; rfl) c9
  · refine z_lconst (v := 0) kd_M_tours_12 (by decide +kernel) ?_
    exact z_lret kd_M_tours_13 rfl (Nat.le_of_ble_eq_true rfl) (Nat.le_of_ble_eq_true rfl) ⟨rfl, rfl, ⟨⟨_, _, _, _, hM_1⟩, x58_1, x59_1, ⟨_, x60_1⟩, ⟨_, x61_1⟩, ⟨_, x62_1⟩, ⟨_, x63_1⟩, ⟨_, x64_1⟩, ⟨_, x65_1⟩, ⟨_, x66_1⟩, ⟨_, x67_1⟩, ⟨_, x68_1⟩, ⟨_, x69_1⟩, ⟨_, x70_1⟩, ⟨_, x71_1⟩, ⟨_, x72_1⟩, ⟨_, x73_1⟩⟩, (Fr.tr Fr.rf (q_1.wide (by omega) (by omega)))⟩
set_option maxHeartbeats 4000000 in
set_option maxRecDepth 100000 in
theorem c_M_tours1 {l : Launch} {D : va_G} {tys : List (ClassId × FieldType)} {b N : Nat} {σ : Nat → Option va_E} {cI cJ cA : ClassId} (ht0 : tys[0]? = some (cI, .int)) (ht1 : tys[1]? = some (cJ, .long)) (ht3 : tys[3]? = some (cA, .array .long)) {cZ : ClassId} (ht2 : tys[2]? = some (cZ, .boolean)) {n a : Nat} {gf gt gw : Nat → Int32} {F T : Nat → Nat} {C K : Nat → Int64} (hMS : MS b cI cJ cZ σ n a gf gt gw F T C K) {W : Nat → Nat} (hw : ∀ k, k < a → gw k = nI (W k) ∧ W k ≤ 9) (h0 : 0 < a) : zM l D kCl tys kNw b ky_M_tours (kh_M_tours :: zT) 10 360 0 0 [.ref (b + 54)] N σ ((fun oc N' σ' => oc = .returned (some (.long (toR n a F T W gw))) ∧ N' = N ∧ MS b cI cJ cZ σ' n a gf gt gw F T C K ∧ Fr 54 73 σ σ')) := by
  refine zM.of (by decide +kernel) rfl (Nat.le_of_ble_eq_true rfl) ?_
  refine z_pick (lv' := [(0, .ref (b + 54))]) [0] rfl ?_
  obtain ⟨⟨th, fa, ls, rm, hM⟩, h58, h59, ⟨g60, h60⟩, ⟨g61, h61⟩, ⟨g62, h62⟩, ⟨g63, h63⟩, ⟨g64, h64⟩, ⟨g65, h65⟩, ⟨g66, h66⟩, ⟨g67, h67⟩, ⟨g68, h68⟩, ⟨g69, h69⟩, ⟨g70, h70⟩, ⟨g71, h71⟩, ⟨g72, h72⟩, ⟨g73, h73⟩⟩ := hMS
  have hn := hM.hn
  have ha := hM.ha
  obtain ⟨kf, kfn, kt, ktn⟩ := hM.hft 0 h0
  refine z_aload_n kd_M_tours_0 0 rfl ?_
  refine z_iconst (v := 0) kd_M_tours_1 (by decide) ?_
  refine z_putE (fs' := [_, _, _, _, _, _, _, _, _, _, _, _, _, _, _, _, _, _, _, _, _, _, _, _, _]) kd_M_tours_2 (kp_M_69 _) hM.h1 (Nat.le_of_ble_eq_true rfl) rfl rfl rfl ?_
  refine z_upd (fun σ_1 x54_1 q_1 => ?_)
  have x58_1 := (q_1 58 (by omega)).trans h58
  have x59_1 := (q_1 59 (by omega)).trans h59
  have x60_1 := (q_1 60 (by omega)).trans h60
  have x61_1 := (q_1 61 (by omega)).trans h61
  have x62_1 := (q_1 62 (by omega)).trans h62
  have x63_1 := (q_1 63 (by omega)).trans h63
  have x64_1 := (q_1 64 (by omega)).trans h64
  have x65_1 := (q_1 65 (by omega)).trans h65
  have x66_1 := (q_1 66 (by omega)).trans h66
  have x67_1 := (q_1 67 (by omega)).trans h67
  have x68_1 := (q_1 68 (by omega)).trans h68
  have x69_1 := (q_1 69 (by omega)).trans h69
  have x70_1 := (q_1 70 (by omega)).trans h70
  have x71_1 := (q_1 71 (by omega)).trans h71
  have x72_1 := (q_1 72 (by omega)).trans h72
  have x73_1 := (q_1 73 (by omega)).trans h73
  have hM_1 := hM.put x54_1 q_1
  refine z_aload_n kd_M_tours_5 0 rfl ?_
  refine z_get kd_M_tours_6 (kf_M_80 _) hM_1.h1 rfl ?_
  refine z_if_ne (tgt := 14) kd_M_tours_9 (by decide) (fun c9 => ?_) (fun c9 => ?_)
  · refine z_aload_n kd_M_tours_14 0 rfl ?_
    refine z_callV (a := 54) (As := []) kd_M_tours_15 (kg_M_121 _) hM_1.h1 kc_M (c_M_apartAll ht0 ht1 ht3 hM_1 x62_1) rfl rfl (Nat.le_of_ble_eq_true rfl) ⟨Nat.le_of_ble_eq_true rfl, Nat.le_of_ble_eq_true rfl⟩ ⟨Nat.le_of_ble_eq_true rfl, Nat.le_of_ble_eq_true rfl⟩ ?_
    rintro _ _ σ_2 ⟨hv, rfl, ⟨g2_2, hp_2, x62_2⟩, q_2⟩
    cases hv
    refine z_eq (st' := []) rfl rfl rfl rfl ?_
    have x58_2 := (q_2 58 (by omega)).trans x58_1
    have x59_2 := (q_2 59 (by omega)).trans x59_1
    have x60_2 := (q_2 60 (by omega)).trans x60_1
    have x61_2 := (q_2 61 (by omega)).trans x61_1
    have x63_2 := (q_2 63 (by omega)).trans x63_1
    have x64_2 := (q_2 64 (by omega)).trans x64_1
    have x65_2 := (q_2 65 (by omega)).trans x65_1
    have x66_2 := (q_2 66 (by omega)).trans x66_1
    have x67_2 := (q_2 67 (by omega)).trans x67_1
    have x68_2 := (q_2 68 (by omega)).trans x68_1
    have x69_2 := (q_2 69 (by omega)).trans x69_1
    have x70_2 := (q_2 70 (by omega)).trans x70_1
    have x71_2 := (q_2 71 (by omega)).trans x71_1
    have x72_2 := (q_2 72 (by omega)).trans x72_1
    have x73_2 := (q_2 73 (by omega)).trans x73_1
    have hM_2 := hM_1.fr q_2 (by omega)
    refine z_iconst (v := 0) kd_M_tours_18 (by decide) ?_
    refine z_istore_n (lv' := [(1, .int _), (0, .ref (b + 54))]) kd_M_tours_19 (by decide) rfl ?_
    refine z_pick (lv' := [(1, .int (nI 0)), (0, .ref (b + 54))]) [0, 1] rfl ?_
    refine l_M_ja ht0 ht1 ht3 (Pf := (jaL F T a 0 (fun v => v))) (fun σ_3 g2_3 hM_3 x62_3 hp_3 q_3 => ?_) a 0 _ _ _ (by omega) hM_2 x62_2 hp_2 Fr.rf rfl
    have x58_3 := (q_3 58 (by omega)).trans x58_2
    have x59_3 := (q_3 59 (by omega)).trans x59_2
    have x60_3 := (q_3 60 (by omega)).trans x60_2
    have x61_3 := (q_3 61 (by omega)).trans x61_2
    have x63_3 := (q_3 63 (by omega)).trans x63_2
    have x64_3 := (q_3 64 (by omega)).trans x64_2
    have x65_3 := (q_3 65 (by omega)).trans x65_2
    have x66_3 := (q_3 66 (by omega)).trans x66_2
    have x67_3 := (q_3 67 (by omega)).trans x67_2
    have x68_3 := (q_3 68 (by omega)).trans x68_2
    have x69_3 := (q_3 69 (by omega)).trans x69_2
    have x70_3 := (q_3 70 (by omega)).trans x70_2
    have x71_3 := (q_3 71 (by omega)).trans x71_2
    have x72_3 := (q_3 72 (by omega)).trans x72_2
    have x73_3 := (q_3 73 (by omega)).trans x73_2
    refine z_aload_n kd_M_tours_51 0 rfl ?_
    refine z_get kd_M_tours_52 (kf_M_7 _) hM_3.h1 rfl ?_
    refine z_iconst (v := nI 0) kd_M_tours_55 (by decide) ?_
    refine z_ialdN (t0 := 0) kd_M_tours_56 (by assumption) hM_3.h2 (by omega) (by decide) ?_
    refine z_topi kf ?_
    refine z_istore_n (lv' := [(1, .int _), (0, .ref (b + 54))]) kd_M_tours_57 (by decide) rfl ?_
    refine z_lconst (v := 1) kd_M_tours_58 (by decide +kernel) ?_
    refine z_lstore_n (lv' := [(2, .long _), (1, .int _), (0, .ref (b + 54))]) kd_M_tours_59 (by decide) rfl ?_
    refine z_iconst (v := 0) kd_M_tours_60 (by decide) ?_
    refine z_istore (lv' := [(4, .int _), (2, .long _), (1, .int _), (0, .ref (b + 54))]) kd_M_tours_61 (by decide) rfl ?_
    refine z_pick (lv' := [(4, .int (nI 0)), (2, .long 1), (1, .int (nI (F 0))), (0, .ref (b + 54))]) [0, 1, 2, 3] rfl ?_
    refine l_M_tv ht0 ht1 ht3 hM_3 hw x62_3 hp_3 kfn (val := (tvL F T W a (jaL F T a 0 (fun v => v)) (F 0) n 0 1)) (fun hv0 => ⟨by unfold toR; rw [hv0], rfl, ⟨⟨_, _, _, _, hM_3⟩, x58_3, x59_3, ⟨_, x60_3⟩, ⟨_, x61_3⟩, ⟨_, x62_3⟩, ⟨_, x63_3⟩, ⟨_, x64_3⟩, ⟨_, x65_3⟩, ⟨_, x66_3⟩, ⟨_, x67_3⟩, ⟨_, x68_3⟩, ⟨_, x69_3⟩, ⟨_, x70_3⟩, ⟨_, x71_3⟩, ⟨_, x72_3⟩, ⟨_, x73_3⟩⟩, (Fr.tr (Fr.tr (Fr.tr Fr.rf (q_1.wide (by omega) (by omega))) (q_2.wide (by omega) (by omega))) (q_3.wide (by omega) (by omega)))⟩) (fun p hvp => ?_) n 0 1 (by omega) rfl
    refine z_iconst (v := 0) kd_M_tours_216 (by decide) ?_
    refine z_istore (lv' := [(4, .int _), (2, .long _), (1, .int _), (0, .ref (b + 54))]) kd_M_tours_217 (by decide) rfl ?_
    refine z_iconst (v := 0) kd_M_tours_219 (by decide) ?_
    refine z_istore (lv' := [(5, .int _), (4, .int _), (2, .long _), (1, .int _), (0, .ref (b + 54))]) kd_M_tours_220 (by decide) rfl ?_
    refine z_pick (lv' := [(5, .int (nI 0)), (4, .int (nI 0)), (2, .long p), (1, .int (nI (F 0))), (0, .ref (b + 54))]) [0, 1, 2, 3, 4] rfl ?_
    refine l_M_ti ht0 ht1 ht3 hp_3 kfn (val := (tiL (jaL F T a 0 (fun v => v)) (F 0) n 0 0 (fun _ => none))) (fun σ_4 g4_4 hM_4 x62_4 x64_4 hI_4 q_4 => ?_) n 0 _ _ 0 (fun _ => none) (by omega) (by omega) hM_3 x62_3 x64_3 (fun v hv => absurd hv (Nat.not_lt_zero v)) Fr.rf rfl
    have x58_4 := (q_4 58 (by omega)).trans x58_3
    have x59_4 := (q_4 59 (by omega)).trans x59_3
    have x60_4 := (q_4 60 (by omega)).trans x60_3
    have x61_4 := (q_4 61 (by omega)).trans x61_3
    have x63_4 := (q_4 63 (by omega)).trans x63_3
    have x65_4 := (q_4 65 (by omega)).trans x65_3
    have x66_4 := (q_4 66 (by omega)).trans x66_3
    have x67_4 := (q_4 67 (by omega)).trans x67_3
    have x68_4 := (q_4 68 (by omega)).trans x68_3
    have x69_4 := (q_4 69 (by omega)).trans x69_3
    have x70_4 := (q_4 70 (by omega)).trans x70_3
    have x71_4 := (q_4 71 (by omega)).trans x71_3
    have x72_4 := (q_4 72 (by omega)).trans x72_3
    have x73_4 := (q_4 73 (by omega)).trans x73_3
    refine z_aload_n kd_M_tours_299 3 rfl ?_
    refine z_callV (a := 54) (As := []) kd_M_tours_300 (kg_M_102 _) hM_4.h1 kc_M (c_M_clearRows ht1 hM_4.h1 x60_4) rfl rfl (Nat.le_of_ble_eq_true rfl) ⟨Nat.le_of_ble_eq_true rfl, Nat.le_of_ble_eq_true rfl⟩ ⟨Nat.le_of_ble_eq_true rfl, Nat.le_of_ble_eq_true rfl⟩ ?_
    rintro _ _ _ ⟨hv, rfl, g_5, hg_5, rfl⟩
    cases hv
    refine z_eq (st' := []) rfl rfl rfl rfl ?_
    refine z_upd (fun σ_5 x60_5 q_5 => ?_)
    have x58_5 := (q_5 58 (by omega)).trans x58_4
    have x59_5 := (q_5 59 (by omega)).trans x59_4
    have x61_5 := (q_5 61 (by omega)).trans x61_4
    have x62_5 := (q_5 62 (by omega)).trans x62_4
    have x63_5 := (q_5 63 (by omega)).trans x63_4
    have x64_5 := (q_5 64 (by omega)).trans x64_4
    have x65_5 := (q_5 65 (by omega)).trans x65_4
    have x66_5 := (q_5 66 (by omega)).trans x66_4
    have x67_5 := (q_5 67 (by omega)).trans x67_4
    have x68_5 := (q_5 68 (by omega)).trans x68_4
    have x69_5 := (q_5 69 (by omega)).trans x69_4
    have x70_5 := (q_5 70 (by omega)).trans x70_4
    have x71_5 := (q_5 71 (by omega)).trans x71_4
    have x72_5 := (q_5 72 (by omega)).trans x72_4
    have x73_5 := (q_5 73 (by omega)).trans x73_4
    have hM_5 := hM_4.fr q_5 (by omega)
    refine z_iconst (v := 0) kd_M_tours_303 (by decide) ?_
    refine z_istore (lv' := [(5, .int _), (4, .int _), (2, .long _), (1, .int _), (0, .ref (b + 54))]) kd_M_tours_304 (by decide) rfl ?_
    refine z_pick (lv' := [(5, .int (nI 0)), (4, .int (nI (tiL (jaL F T a 0 (fun v => v)) (F 0) n 0 0 (fun _ => none)).1)), (2, .long p), (1, .int (nI (F 0))), (0, .ref (b + 54))]) [0, 1, 2, 3, 4] rfl ?_
    refine l_M_tod ht0 ht1 ht3 hI_4 (fun σ_6 g_6 hM_6 x60_6 x64_6 r60_6 q_6 => ?_) a 0 _ _ _ (by omega) hM_5 x60_5 x64_5 (RM.z hg_5) Fr.rf rfl
    have x58_6 := (q_6 58 (by omega)).trans x58_5
    have x59_6 := (q_6 59 (by omega)).trans x59_5
    have x61_6 := (q_6 61 (by omega)).trans x61_5
    have x62_6 := (q_6 62 (by omega)).trans x62_5
    have x63_6 := (q_6 63 (by omega)).trans x63_5
    have x65_6 := (q_6 65 (by omega)).trans x65_5
    have x66_6 := (q_6 66 (by omega)).trans x66_5
    have x67_6 := (q_6 67 (by omega)).trans x67_5
    have x68_6 := (q_6 68 (by omega)).trans x68_5
    have x69_6 := (q_6 69 (by omega)).trans x69_5
    have x70_6 := (q_6 70 (by omega)).trans x70_5
    have x71_6 := (q_6 71 (by omega)).trans x71_5
    have x72_6 := (q_6 72 (by omega)).trans x72_5
    have x73_6 := (q_6 73 (by omega)).trans x73_5
    refine z_aload_n kd_M_tours_411 3 rfl ?_
    refine z_iload kd_M_tours_412 0 rfl ?_
    refine z_callV (a := 54) (As := [_]) kd_M_tours_414 (kg_M_117 _) hM_6.h1 kc_M (c_M_determinant ht0 ht1 ht3 hM_6 (by have := tiL_le (P := jaL F T a 0 (fun v => v)) (g := F 0) n 0 0 (fun _ => none) (by omega); omega) x60_6 x61_6 r60_6) rfl rfl (Nat.le_of_ble_eq_true rfl) ⟨Nat.le_of_ble_eq_true rfl, Nat.le_of_ble_eq_true rfl⟩ ⟨Nat.le_of_ble_eq_true rfl, Nat.le_of_ble_eq_true rfl⟩ ?_
    rintro _ _ σ_7 ⟨hv, rfl, ⟨g1_7, x61_7⟩, q_7⟩
    cases hv
    refine z_eq (st' := [_]) rfl rfl rfl rfl ?_
    have x58_7 := (q_7 58 (by omega)).trans x58_6
    have x59_7 := (q_7 59 (by omega)).trans x59_6
    have x60_7 := (q_7 60 (by omega)).trans x60_6
    have x62_7 := (q_7 62 (by omega)).trans x62_6
    have x63_7 := (q_7 63 (by omega)).trans x63_6
    have x64_7 := (q_7 64 (by omega)).trans x64_6
    have x65_7 := (q_7 65 (by omega)).trans x65_6
    have x66_7 := (q_7 66 (by omega)).trans x66_6
    have x67_7 := (q_7 67 (by omega)).trans x67_6
    have x68_7 := (q_7 68 (by omega)).trans x68_6
    have x69_7 := (q_7 69 (by omega)).trans x69_6
    have x70_7 := (q_7 70 (by omega)).trans x70_6
    have x71_7 := (q_7 71 (by omega)).trans x71_6
    have x72_7 := (q_7 72 (by omega)).trans x72_6
    have x73_7 := (q_7 73 (by omega)).trans x73_6
    have hM_7 := hM_6.fr q_7 (by omega)
    refine z_lload_n kd_M_tours_417 1 rfl ?_
    refine z_lmul kd_M_tours_418 ?_
    exact z_lret kd_M_tours_419 rfl (Nat.le_of_ble_eq_true rfl) (Nat.le_of_ble_eq_true rfl) ⟨by unfold toR; rw [hvp], rfl, ⟨⟨_, _, _, _, hM_7⟩, x58_7, x59_7, ⟨_, x60_7⟩, ⟨_, x61_7⟩, ⟨_, x62_7⟩, ⟨_, x63_7⟩, ⟨_, x64_7⟩, ⟨_, x65_7⟩, ⟨_, x66_7⟩, ⟨_, x67_7⟩, ⟨_, x68_7⟩, ⟨_, x69_7⟩, ⟨_, x70_7⟩, ⟨_, x71_7⟩, ⟨_, x72_7⟩, ⟨_, x73_7⟩⟩, (Fr.tr (Fr.tr (Fr.tr (Fr.tr (Fr.tr (Fr.tr (Fr.tr Fr.rf (q_1.wide (by omega) (by omega))) (q_2.wide (by omega) (by omega))) (q_3.wide (by omega) (by omega))) (q_4.wide (by omega) (by omega))) (q_5.wide (by omega) (by omega))) (q_6.wide (by omega) (by omega))) (q_7.wide (by omega) (by omega)))⟩
  · exact absurd c9 (nI_ne0 h0 (by omega))
theorem c_M_tours {l : Launch} {D : va_G} {tys : List (ClassId × FieldType)} {b N : Nat} {σ : Nat → Option va_E} {cI cJ cA : ClassId} (ht0 : tys[0]? = some (cI, .int)) (ht1 : tys[1]? = some (cJ, .long)) (ht3 : tys[3]? = some (cA, .array .long)) {cZ : ClassId} (ht2 : tys[2]? = some (cZ, .boolean)) {n a : Nat} {gf gt gw : Nat → Int32} {F T : Nat → Nat} {C K : Nat → Int64} (hMS : MS b cI cJ cZ σ n a gf gt gw F T C K) {W : Nat → Nat} (hw : ∀ k, k < a → gw k = nI (W k) ∧ W k ≤ 9) : zM l D kCl tys kNw b ky_M_tours (kh_M_tours :: zT) 10 360 0 0 [.ref (b + 54)] N σ (fun oc N' σ' => oc = .returned (some (.long (toV n a F T W gw))) ∧ N' = N ∧ MS b cI cJ cZ σ' n a gf gt gw F T C K ∧ Fr 54 73 σ σ') := by
  by_cases h : a = 0
  · have e : toV n a F T W gw = 0 := if_pos h
    rw [e]
    exact c_M_tours0 ht0 ht1 ht3 ht2 hMS h
  · have e : toV n a F T W gw = toR n a F T W gw := if_neg h
    rw [e]
    exact c_M_tours1 ht0 ht1 ht3 ht2 hMS hw (by omega)
