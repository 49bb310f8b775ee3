set_option maxHeartbeats 4000000 in
set_option maxRecDepth 100000 in
theorem lw_next {l : Launch} {D : va_G} {tys : List (ClassId × FieldType)} {nm : String} {b b0 L q : Nat} {xs : Nat → Int32} {k n N : Nat} {σ : Nat → Option va_E} (kk : Z l D kCl tys (kh_C_init :: zT) kNw "TreeCountsLaw" nm code 8 ret room_1 b (zLFi b0 L b xs) k n N (σ) 23 [(4, .int (nI (5 * (q + 1)))), (3, .ref (b + 74)), (2, .ref (b + 54)), (1, .ref (b + 0)), (0, .ref b0)] []) : Z l D kCl tys (kh_C_init :: zT) kNw "TreeCountsLaw" nm code 8 ret room_1 b (zLFi b0 L b xs) k n N (σ) 892 [(4, .int (nI (5 * q))), (3, .ref (b + 74)), (2, .ref (b + 54)), (1, .ref (b + 0)), (0, .ref b0)] [] := by
  refine z_iinc (v := nI (5 * (q + 1))) (lv' := [(4, .int _), (3, .ref (b + 74)), (2, .ref (b + 54)), (1, .ref (b + 0)), (0, .ref b0)]) kd_W_law_892 0 rfl (show nI (5 * q) + nI 5 = nI (5 * q + 5) from nI_add _ _) (by decide) rfl ?_
  refine z_goto (tgt := 23) kd_W_law_895 (by decide) ?_
  exact kk
set_option maxHeartbeats 4000000 in
set_option maxRecDepth 100000 in
theorem lc_0 {l : Launch} {D : va_G} {tys : List (ClassId × FieldType)} {nm : String} {b b0 L q : Nat} {xs : Nat → Int32} {k n N : Nat} {σ : Nat → Option va_E} {cI cJ cZ cA cP : ClassId} (ht0 : tys[0]? = some (cI, .int)) (ht1 : tys[1]? = some (cJ, .long)) (ht2 : tys[2]? = some (cZ, .boolean)) (ht3 : tys[3]? = some (cA, .array .long)) (ht4 : tys[4]? = some (cP, .object "TreeCounts$Parts")) (hL : L ≤ 2560) (hq5 : 5 * q + 5 ≤ L) (hk : k + 1 ≤ 601024) (hn : n + 6 ≤ 7293034) (hI : LV b cI cJ cA cP cZ q σ) {g74 : Nat → Int64} (h74 : σ 74 = some (.inl (cJ, 1, .inr (.inl g74)))) (ih : ∀ (k' n' N' : Nat) (σ' : Nat → Option va_E), k' ≤ k + 1 → n' ≤ n + 6 → LV b cI cJ cA cP cZ (q + 1) σ' → (∃ g, σ' 74 = some (.inl (cJ, 1, .inr (.inl g)))) → Z l D kCl tys (kh_C_init :: zT) kNw "TreeCountsLaw" nm code 8 ret room_1 b (zLFi b0 L b xs) k' n' N' (σ') 23 [(4, .int (nI (5 * (q + 1)))), (3, .ref (b + 74)), (2, .ref (b + 54)), (1, .ref (b + 0)), (0, .ref b0)] []) : Z l D kCl tys (kh_C_init :: zT) kNw "TreeCountsLaw" nm code 8 ret room_1 b (zLFi b0 L b xs) k n N (σ) 144 [(4, .int (nI (5 * q))), (3, .ref (b + 74)), (2, .ref (b + 54)), (1, .ref (b + 0)), (0, .ref b0)] [] := by
  obtain ⟨fs0, h0⟩ := hI.c0
  refine z_aload_n kd_W_law_144 3 rfl ?_
  refine z_jint (As := []) kd_W_law_145 (kg_W_19 _) h0 kc_C (j_node ht0 ht1 ht2 ht3 hI) rfl rfl (Nat.le_of_ble_eq_true rfl) ⟨Nat.le_of_ble_eq_true rfl, Nat.le_of_ble_eq_true rfl⟩ ⟨Nat.le_of_succ_le hk, Nat.le_trans (Nat.le_add_right n 6) hn⟩ ?_
  rintro v1 σ1 ⟨fs1, h54⟩ hm
  refine z_aload_n kd_W_law_148 2 rfl ?_
  refine z_callV (a := 54) (As := []) kd_W_law_149 (kg_W_23 _) h54 kc_M hm rfl rfl (Nat.le_of_ble_eq_true rfl) ⟨Nat.le_of_ble_eq_true rfl, Nat.le_of_ble_eq_true rfl⟩ ⟨Nat.le_of_succ_le hk, Nat.le_trans (Nat.le_add_right n 6) hn⟩ ?_
  rintro _ _ σ2 ⟨hv2, rfl, hI2, h742⟩
  cases hv2
  refine z_eq (st' := [.int v1, .int v1]) rfl rfl rfl rfl ?_
  refine z_icmp_eq (tgt := 892) kd_W_law_152 (by decide) (fun c152 => ?_) (fun c152 => ?_)
  · exact lw_next (ih k n _ σ2 (Nat.le_succ k) (Nat.le_add_right n 6) hI2 ⟨_, h742.trans h74⟩)
  · exact absurd rfl c152
set_option maxHeartbeats 4000000 in
set_option maxRecDepth 100000 in
theorem lc_1 {l : Launch} {D : va_G} {tys : List (ClassId × FieldType)} {nm : String} {b b0 L q : Nat} {xs : Nat → Int32} {k n N : Nat} {σ : Nat → Option va_E} {cI cJ cZ cA cP : ClassId} (ht0 : tys[0]? = some (cI, .int)) (ht1 : tys[1]? = some (cJ, .long)) (ht2 : tys[2]? = some (cZ, .boolean)) (ht3 : tys[3]? = some (cA, .array .long)) (ht4 : tys[4]? = some (cP, .object "TreeCounts$Parts")) (hL : L ≤ 2560) (hq5 : 5 * q + 5 ≤ L) (hk : k + 1 ≤ 601024) (hn : n + 6 ≤ 7293034) (hI : LV b cI cJ cA cP cZ q σ) {g74 : Nat → Int64} (h74 : σ 74 = some (.inl (cJ, 1, .inr (.inl g74)))) (ih : ∀ (k' n' N' : Nat) (σ' : Nat → Option va_E), k' ≤ k + 1 → n' ≤ n + 6 → LV b cI cJ cA cP cZ (q + 1) σ' → (∃ g, σ' 74 = some (.inl (cJ, 1, .inr (.inl g)))) → Z l D kCl tys (kh_C_init :: zT) kNw "TreeCountsLaw" nm code 8 ret room_1 b (zLFi b0 L b xs) k' n' N' (σ') 23 [(4, .int (nI (5 * (q + 1)))), (3, .ref (b + 74)), (2, .ref (b + 54)), (1, .ref (b + 0)), (0, .ref b0)] []) : Z l D kCl tys (kh_C_init :: zT) kNw "TreeCountsLaw" nm code 8 ret room_1 b (zLFi b0 L b xs) k n N (σ) 157 [(4, .int (nI (5 * q))), (3, .ref (b + 74)), (2, .ref (b + 54)), (1, .ref (b + 0)), (0, .ref b0)] [] := by
  obtain ⟨fs0, h0⟩ := hI.c0
  refine z_aload_n kd_W_law_157 3 rfl ?_
  refine z_aload_n kd_W_law_158 4 rfl ?_
  refine z_iload kd_W_law_159 0 rfl ?_
  refine z_iconst (v := 1) kd_W_law_161 (by decide) ?_
  refine z_iadd kd_W_law_162 ?_
  refine z_topi (nI_add (5 * q) 1) ?_
  refine z_sld kd_W_law_163 (show vp_in (nI ((5 * q) + 1)) L from vp_in_nI (by omega) (by omega)) ?_
  refine z_aload_n kd_W_law_164 4 rfl ?_
  refine z_iload kd_W_law_165 0 rfl ?_
  refine z_iconst (v := 2) kd_W_law_167 (by decide) ?_
  refine z_iadd kd_W_law_168 ?_
  refine z_topi (nI_add (5 * q) 2) ?_
  refine z_sld kd_W_law_169 (show vp_in (nI ((5 * q) + 2)) L from vp_in_nI (by omega) (by omega)) ?_
  refine z_aload_n kd_W_law_170 4 rfl ?_
  refine z_iload kd_W_law_171 0 rfl ?_
  refine z_iconst (v := 3) kd_W_law_173 (by decide) ?_
  refine z_iadd kd_W_law_174 ?_
  refine z_topi (nI_add (5 * q) 3) ?_
  refine z_sld kd_W_law_175 (show vp_in (nI ((5 * q) + 3)) L from vp_in_nI (by omega) (by omega)) ?_
  refine z_jint (As := [_, _, _]) kd_W_law_176 (kg_W_24 _) h0 kc_C (j_arc ht0 ht1 ht2 ht3 hI _ _ _) rfl rfl (Nat.le_of_ble_eq_true rfl) ⟨Nat.le_of_ble_eq_true rfl, Nat.le_of_ble_eq_true rfl⟩ ⟨Nat.le_of_succ_le hk, Nat.le_trans (Nat.le_add_right n 6) hn⟩ ?_
  rintro v1 σ1 ⟨fs1, h54⟩ hm
  refine z_aload_n kd_W_law_179 2 rfl ?_
  refine z_aload_n kd_W_law_180 4 rfl ?_
  refine z_iload kd_W_law_181 0 rfl ?_
  refine z_iconst (v := 1) kd_W_law_183 (by decide) ?_
  refine z_iadd kd_W_law_184 ?_
  refine z_topi (nI_add (5 * q) 1) ?_
  refine z_sld kd_W_law_185 (show vp_in (nI ((5 * q) + 1)) L from vp_in_nI (by omega) (by omega)) ?_
  refine z_aload_n kd_W_law_186 4 rfl ?_
  refine z_iload kd_W_law_187 0 rfl ?_
  refine z_iconst (v := 2) kd_W_law_189 (by decide) ?_
  refine z_iadd kd_W_law_190 ?_
  refine z_topi (nI_add (5 * q) 2) ?_
  refine z_sld kd_W_law_191 (show vp_in (nI ((5 * q) + 2)) L from vp_in_nI (by omega) (by omega)) ?_
  refine z_aload_n kd_W_law_192 4 rfl ?_
  refine z_iload kd_W_law_193 0 rfl ?_
  refine z_iconst (v := 3) kd_W_law_195 (by decide) ?_
  refine z_iadd kd_W_law_196 ?_
  refine z_topi (nI_add (5 * q) 3) ?_
  refine z_sld kd_W_law_197 (show vp_in (nI ((5 * q) + 3)) L from vp_in_nI (by omega) (by omega)) ?_
  refine z_callV (a := 54) (As := [_, _, _]) kd_W_law_198 (kg_W_28 _) h54 kc_M hm rfl rfl (Nat.le_of_ble_eq_true rfl) ⟨Nat.le_of_ble_eq_true rfl, Nat.le_of_ble_eq_true rfl⟩ ⟨Nat.le_of_succ_le hk, Nat.le_trans (Nat.le_add_right n 6) hn⟩ ?_
  rintro _ _ σ2 ⟨hv2, rfl, hI2, h742⟩
  cases hv2
  refine z_eq (st' := [.int v1, .int v1]) rfl rfl rfl rfl ?_
  refine z_icmp_eq (tgt := 892) kd_W_law_201 (by decide) (fun c201 => ?_) (fun c201 => ?_)
  · exact lw_next (ih k n _ σ2 (Nat.le_succ k) (Nat.le_add_right n 6) hI2 ⟨_, h742.trans h74⟩)
  · exact absurd rfl c201
set_option maxHeartbeats 4000000 in
set_option maxRecDepth 100000 in
theorem lc_2 {l : Launch} {D : va_G} {tys : List (ClassId × FieldType)} {nm : String} {b b0 L q : Nat} {xs : Nat → Int32} {k n N : Nat} {σ : Nat → Option va_E} {cI cJ cZ cA cP : ClassId} (ht0 : tys[0]? = some (cI, .int)) (ht1 : tys[1]? = some (cJ, .long)) (ht2 : tys[2]? = some (cZ, .boolean)) (ht3 : tys[3]? = some (cA, .array .long)) (ht4 : tys[4]? = some (cP, .object "TreeCounts$Parts")) (hL : L ≤ 2560) (hq5 : 5 * q + 5 ≤ L) (hk : k + 1 ≤ 601024) (hn : n + 6 ≤ 7293034) (hI : LV b cI cJ cA cP cZ q σ) {g74 : Nat → Int64} (h74 : σ 74 = some (.inl (cJ, 1, .inr (.inl g74)))) (ih : ∀ (k' n' N' : Nat) (σ' : Nat → Option va_E), k' ≤ k + 1 → n' ≤ n + 6 → LV b cI cJ cA cP cZ (q + 1) σ' → (∃ g, σ' 74 = some (.inl (cJ, 1, .inr (.inl g)))) → Z l D kCl tys (kh_C_init :: zT) kNw "TreeCountsLaw" nm code 8 ret room_1 b (zLFi b0 L b xs) k' n' N' (σ') 23 [(4, .int (nI (5 * (q + 1)))), (3, .ref (b + 74)), (2, .ref (b + 54)), (1, .ref (b + 0)), (0, .ref b0)] []) : Z l D kCl tys (kh_C_init :: zT) kNw "TreeCountsLaw" nm code 8 ret room_1 b (zLFi b0 L b xs) k n N (σ) 206 [(4, .int (nI (5 * q))), (3, .ref (b + 74)), (2, .ref (b + 54)), (1, .ref (b + 0)), (0, .ref b0)] [] := by
  obtain ⟨fs0, h0⟩ := hI.c0
  refine z_aload_n kd_W_law_206 3 rfl ?_
  refine z_aload_n kd_W_law_207 4 rfl ?_
  refine z_iload kd_W_law_208 0 rfl ?_
  refine z_iconst (v := 1) kd_W_law_210 (by decide) ?_
  refine z_iadd kd_W_law_211 ?_
  refine z_topi (nI_add (5 * q) 1) ?_
  refine z_sld kd_W_law_212 (show vp_in (nI ((5 * q) + 1)) L from vp_in_nI (by omega) (by omega)) ?_
  refine z_aload_n kd_W_law_213 4 rfl ?_
  refine z_iload kd_W_law_214 0 rfl ?_
  refine z_iconst (v := 2) kd_W_law_216 (by decide) ?_
  refine z_iadd kd_W_law_217 ?_
  refine z_topi (nI_add (5 * q) 2) ?_
  refine z_sld kd_W_law_218 (show vp_in (nI ((5 * q) + 2)) L from vp_in_nI (by omega) (by omega)) ?_
  refine z_jint (As := [_, _]) kd_W_law_219 (kg_W_29 _) h0 kc_C (j_weigh ht0 ht1 ht2 ht3 hI _ _) rfl rfl (Nat.le_of_ble_eq_true rfl) ⟨Nat.le_of_ble_eq_true rfl, Nat.le_of_ble_eq_true rfl⟩ ⟨Nat.le_of_succ_le hk, Nat.le_trans (Nat.le_add_right n 6) hn⟩ ?_
  rintro v1 σ1 ⟨fs1, h54⟩ hm
  refine z_aload_n kd_W_law_222 2 rfl ?_
  refine z_aload_n kd_W_law_223 4 rfl ?_
  refine z_iload kd_W_law_224 0 rfl ?_
  refine z_iconst (v := 1) kd_W_law_226 (by decide) ?_
  refine z_iadd kd_W_law_227 ?_
  refine z_topi (nI_add (5 * q) 1) ?_
  refine z_sld kd_W_law_228 (show vp_in (nI ((5 * q) + 1)) L from vp_in_nI (by omega) (by omega)) ?_
  refine z_aload_n kd_W_law_229 4 rfl ?_
  refine z_iload kd_W_law_230 0 rfl ?_
  refine z_iconst (v := 2) kd_W_law_232 (by decide) ?_
  refine z_iadd kd_W_law_233 ?_
  refine z_topi (nI_add (5 * q) 2) ?_
  refine z_sld kd_W_law_234 (show vp_in (nI ((5 * q) + 2)) L from vp_in_nI (by omega) (by omega)) ?_
  refine z_callV (a := 54) (As := [_, _]) kd_W_law_235 (kg_W_33 _) h54 kc_M hm rfl rfl (Nat.le_of_ble_eq_true rfl) ⟨Nat.le_of_ble_eq_true rfl, Nat.le_of_ble_eq_true rfl⟩ ⟨Nat.le_of_succ_le hk, Nat.le_trans (Nat.le_add_right n 6) hn⟩ ?_
  rintro _ _ σ2 ⟨hv2, rfl, hI2, h742⟩
  cases hv2
  refine z_eq (st' := [.int v1, .int v1]) rfl rfl rfl rfl ?_
  refine z_icmp_eq (tgt := 892) kd_W_law_238 (by decide) (fun c238 => ?_) (fun c238 => ?_)
  · exact lw_next (ih k n _ σ2 (Nat.le_succ k) (Nat.le_add_right n 6) hI2 ⟨_, h742.trans h74⟩)
  · exact absurd rfl c238
set_option maxHeartbeats 4000000 in
set_option maxRecDepth 100000 in
theorem lc_3 {l : Launch} {D : va_G} {tys : List (ClassId × FieldType)} {nm : String} {b b0 L q : Nat} {xs : Nat → Int32} {k n N : Nat} {σ : Nat → Option va_E} {cI cJ cZ cA cP : ClassId} (ht0 : tys[0]? = some (cI, .int)) (ht1 : tys[1]? = some (cJ, .long)) (ht2 : tys[2]? = some (cZ, .boolean)) (ht3 : tys[3]? = some (cA, .array .long)) (ht4 : tys[4]? = some (cP, .object "TreeCounts$Parts")) (hL : L ≤ 2560) (hq5 : 5 * q + 5 ≤ L) (hk : k + 1 ≤ 601024) (hn : n + 6 ≤ 7293034) (hI : LV b cI cJ cA cP cZ q σ) {g74 : Nat → Int64} (h74 : σ 74 = some (.inl (cJ, 1, .inr (.inl g74)))) (ih : ∀ (k' n' N' : Nat) (σ' : Nat → Option va_E), k' ≤ k + 1 → n' ≤ n + 6 → LV b cI cJ cA cP cZ (q + 1) σ' → (∃ g, σ' 74 = some (.inl (cJ, 1, .inr (.inl g)))) → Z l D kCl tys (kh_C_init :: zT) kNw "TreeCountsLaw" nm code 8 ret room_1 b (zLFi b0 L b xs) k' n' N' (σ') 23 [(4, .int (nI (5 * (q + 1)))), (3, .ref (b + 74)), (2, .ref (b + 54)), (1, .ref (b + 0)), (0, .ref b0)] []) : Z l D kCl tys (kh_C_init :: zT) kNw "TreeCountsLaw" nm code 8 ret room_1 b (zLFi b0 L b xs) k n N (σ) 243 [(4, .int (nI (5 * q))), (3, .ref (b + 74)), (2, .ref (b + 54)), (1, .ref (b + 0)), (0, .ref b0)] [] := by
  obtain ⟨fs0, h0⟩ := hI.c0
  refine z_aload_n kd_W_law_243 3 rfl ?_
  refine z_jint (As := []) kd_W_law_244 (kg_W_34 _) h0 kc_C (j_drop ht0 ht1 ht2 ht3 hI) rfl rfl (Nat.le_of_ble_eq_true rfl) ⟨Nat.le_of_ble_eq_true rfl, Nat.le_of_ble_eq_true rfl⟩ ⟨Nat.le_of_succ_le hk, Nat.le_trans (Nat.le_add_right n 6) hn⟩ ?_
  rintro v1 σ1 ⟨fs1, h54⟩ hm
  refine z_aload_n kd_W_law_247 2 rfl ?_
  refine z_callV (a := 54) (As := []) kd_W_law_248 (kg_W_38 _) h54 kc_M hm rfl rfl (Nat.le_of_ble_eq_true rfl) ⟨Nat.le_of_ble_eq_true rfl, Nat.le_of_ble_eq_true rfl⟩ ⟨Nat.le_of_succ_le hk, Nat.le_trans (Nat.le_add_right n 6) hn⟩ ?_
  rintro _ _ σ2 ⟨hv2, rfl, hI2, h742⟩
  cases hv2
  refine z_eq (st' := [.int v1, .int v1]) rfl rfl rfl rfl ?_
  refine z_icmp_eq (tgt := 892) kd_W_law_251 (by decide) (fun c251 => ?_) (fun c251 => ?_)
  · exact lw_next (ih k n _ σ2 (Nat.le_succ k) (Nat.le_add_right n 6) hI2 ⟨_, h742.trans h74⟩)
  · exact absurd rfl c251
set_option maxHeartbeats 4000000 in
set_option maxRecDepth 100000 in
theorem lc_4 {l : Launch} {D : va_G} {tys : List (ClassId × FieldType)} {nm : String} {b b0 L q : Nat} {xs : Nat → Int32} {k n N : Nat} {σ : Nat → Option va_E} {cI cJ cZ cA cP : ClassId} (ht0 : tys[0]? = some (cI, .int)) (ht1 : tys[1]? = some (cJ, .long)) (ht2 : tys[2]? = some (cZ, .boolean)) (ht3 : tys[3]? = some (cA, .array .long)) (ht4 : tys[4]? = some (cP, .object "TreeCounts$Parts")) (hL : L ≤ 2560) (hq5 : 5 * q + 5 ≤ L) (hk : k + 1 ≤ 601024) (hn : n + 6 ≤ 7293034) (hI : LV b cI cJ cA cP cZ q σ) {g74 : Nat → Int64} (h74 : σ 74 = some (.inl (cJ, 1, .inr (.inl g74)))) (ih : ∀ (k' n' N' : Nat) (σ' : Nat → Option va_E), k' ≤ k + 1 → n' ≤ n + 6 → LV b cI cJ cA cP cZ (q + 1) σ' → (∃ g, σ' 74 = some (.inl (cJ, 1, .inr (.inl g)))) → Z l D kCl tys (kh_C_init :: zT) kNw "TreeCountsLaw" nm code 8 ret room_1 b (zLFi b0 L b xs) k' n' N' (σ') 23 [(4, .int (nI (5 * (q + 1)))), (3, .ref (b + 74)), (2, .ref (b + 54)), (1, .ref (b + 0)), (0, .ref b0)] []) : Z l D kCl tys (kh_C_init :: zT) kNw "TreeCountsLaw" nm code 8 ret room_1 b (zLFi b0 L b xs) k n N (σ) 256 [(4, .int (nI (5 * q))), (3, .ref (b + 74)), (2, .ref (b + 54)), (1, .ref (b + 0)), (0, .ref b0)] [] := by
  obtain ⟨fs0, h0⟩ := hI.c0
  refine z_aload_n kd_W_law_256 3 rfl ?_
  refine z_jlong (As := []) kd_W_law_257 (kg_W_39 _) h0 kc_C (j_trees ht0 ht1 ht2 ht3 hI) rfl rfl (Nat.le_of_ble_eq_true rfl) ⟨Nat.le_of_ble_eq_true rfl, Nat.le_of_ble_eq_true rfl⟩ ⟨Nat.le_of_succ_le hk, Nat.le_trans (Nat.le_add_right n 6) hn⟩ ?_
  rintro v1 σ1 ⟨fs1, h54⟩ hm
  refine z_aload_n kd_W_law_260 2 rfl ?_
  refine z_callV (a := 54) (As := []) kd_W_law_261 (kg_W_43 _) h54 kc_M hm rfl rfl (Nat.le_of_ble_eq_true rfl) ⟨Nat.le_of_ble_eq_true rfl, Nat.le_of_ble_eq_true rfl⟩ ⟨Nat.le_of_succ_le hk, Nat.le_trans (Nat.le_add_right n 6) hn⟩ ?_
  rintro _ _ σ2 ⟨hv2, rfl, hI2, h742⟩
  cases hv2
  refine z_eq (st' := [.long v1, .long v1]) rfl rfl rfl rfl ?_
  refine z_lcmp kd_W_law_264 ?_
  refine z_if_eq (tgt := 892) kd_W_law_265 (by decide) (fun c265 => ?_) (fun c265 => ?_)
  · exact lw_next (ih k n _ σ2 (Nat.le_succ k) (Nat.le_add_right n 6) hI2 ⟨_, h742.trans h74⟩)
  · exact absurd ((lg_cmp_0 _ _).mpr rfl) c265
set_option maxHeartbeats 4000000 in
set_option maxRecDepth 100000 in
theorem lc_5 {l : Launch} {D : va_G} {tys : List (ClassId × FieldType)} {nm : String} {b b0 L q : Nat} {xs : Nat → Int32} {k n N : Nat} {σ : Nat → Option va_E} {cI cJ cZ cA cP : ClassId} (ht0 : tys[0]? = some (cI, .int)) (ht1 : tys[1]? = some (cJ, .long)) (ht2 : tys[2]? = some (cZ, .boolean)) (ht3 : tys[3]? = some (cA, .array .long)) (ht4 : tys[4]? = some (cP, .object "TreeCounts$Parts")) (hL : L ≤ 2560) (hq5 : 5 * q + 5 ≤ L) (hk : k + 1 ≤ 601024) (hn : n + 6 ≤ 7293034) (hI : LV b cI cJ cA cP cZ q σ) {g74 : Nat → Int64} (h74 : σ 74 = some (.inl (cJ, 1, .inr (.inl g74)))) (ih : ∀ (k' n' N' : Nat) (σ' : Nat → Option va_E), k' ≤ k + 1 → n' ≤ n + 6 → LV b cI cJ cA cP cZ (q + 1) σ' → (∃ g, σ' 74 = some (.inl (cJ, 1, .inr (.inl g)))) → Z l D kCl tys (kh_C_init :: zT) kNw "TreeCountsLaw" nm code 8 ret room_1 b (zLFi b0 L b xs) k' n' N' (σ') 23 [(4, .int (nI (5 * (q + 1)))), (3, .ref (b + 74)), (2, .ref (b + 54)), (1, .ref (b + 0)), (0, .ref b0)] []) : Z l D kCl tys (kh_C_init :: zT) kNw "TreeCountsLaw" nm code 8 ret room_1 b (zLFi b0 L b xs) k n N (σ) 270 [(4, .int (nI (5 * q))), (3, .ref (b + 74)), (2, .ref (b + 54)), (1, .ref (b + 0)), (0, .ref b0)] [] := by
  obtain ⟨fs0, h0⟩ := hI.c0
  refine z_aload_n kd_W_law_270 3 rfl ?_
  refine z_aload_n kd_W_law_271 4 rfl ?_
  refine z_iload kd_W_law_272 0 rfl ?_
  refine z_iconst (v := 1) kd_W_law_274 (by decide) ?_
  refine z_iadd kd_W_law_275 ?_
  refine z_topi (nI_add (5 * q) 1) ?_
  refine z_sld kd_W_law_276 (show vp_in (nI ((5 * q) + 1)) L from vp_in_nI (by omega) (by omega)) ?_
  refine z_jlong (As := [_]) kd_W_law_277 (kg_W_44 _) h0 kc_C (j_through ht0 ht1 ht2 ht3 hI _) rfl rfl (Nat.le_of_ble_eq_true rfl) ⟨Nat.le_of_ble_eq_true rfl, Nat.le_of_ble_eq_true rfl⟩ ⟨Nat.le_of_succ_le hk, Nat.le_trans (Nat.le_add_right n 6) hn⟩ ?_
  rintro v1 σ1 ⟨fs1, h54⟩ hm
  refine z_aload_n kd_W_law_280 2 rfl ?_
  refine z_aload_n kd_W_law_281 4 rfl ?_
  refine z_iload kd_W_law_282 0 rfl ?_
  refine z_iconst (v := 1) kd_W_law_284 (by decide) ?_
  refine z_iadd kd_W_law_285 ?_
  refine z_topi (nI_add (5 * q) 1) ?_
  refine z_sld kd_W_law_286 (show vp_in (nI ((5 * q) + 1)) L from vp_in_nI (by omega) (by omega)) ?_
  refine z_callV (a := 54) (As := [_]) kd_W_law_287 (kg_W_48 _) h54 kc_M hm rfl rfl (Nat.le_of_ble_eq_true rfl) ⟨Nat.le_of_ble_eq_true rfl, Nat.le_of_ble_eq_true rfl⟩ ⟨Nat.le_of_succ_le hk, Nat.le_trans (Nat.le_add_right n 6) hn⟩ ?_
  rintro _ _ σ2 ⟨hv2, rfl, hI2, h742⟩
  cases hv2
  refine z_eq (st' := [.long v1, .long v1]) rfl rfl rfl rfl ?_
  refine z_lcmp kd_W_law_290 ?_
  refine z_if_eq (tgt := 892) kd_W_law_291 (by decide) (fun c291 => ?_) (fun c291 => ?_)
  · exact lw_next (ih k n _ σ2 (Nat.le_succ k) (Nat.le_add_right n 6) hI2 ⟨_, h742.trans h74⟩)
  · exact absurd ((lg_cmp_0 _ _).mpr rfl) c291
set_option maxHeartbeats 4000000 in
set_option maxRecDepth 100000 in
theorem lc_6 {l : Launch} {D : va_G} {tys : List (ClassId × FieldType)} {nm : String} {b b0 L q : Nat} {xs : Nat → Int32} {k n N : Nat} {σ : Nat → Option va_E} {cI cJ cZ cA cP : ClassId} (ht0 : tys[0]? = some (cI, .int)) (ht1 : tys[1]? = some (cJ, .long)) (ht2 : tys[2]? = some (cZ, .boolean)) (ht3 : tys[3]? = some (cA, .array .long)) (ht4 : tys[4]? = some (cP, .object "TreeCounts$Parts")) (hL : L ≤ 2560) (hq5 : 5 * q + 5 ≤ L) (hk : k + 1 ≤ 601024) (hn : n + 6 ≤ 7293034) (hI : LV b cI cJ cA cP cZ q σ) {g74 : Nat → Int64} (h74 : σ 74 = some (.inl (cJ, 1, .inr (.inl g74)))) (ih : ∀ (k' n' N' : Nat) (σ' : Nat → Option va_E), k' ≤ k + 1 → n' ≤ n + 6 → LV b cI cJ cA cP cZ (q + 1) σ' → (∃ g, σ' 74 = some (.inl (cJ, 1, .inr (.inl g)))) → Z l D kCl tys (kh_C_init :: zT) kNw "TreeCountsLaw" nm code 8 ret room_1 b (zLFi b0 L b xs) k' n' N' (σ') 23 [(4, .int (nI (5 * (q + 1)))), (3, .ref (b + 74)), (2, .ref (b + 54)), (1, .ref (b + 0)), (0, .ref b0)] []) : Z l D kCl tys (kh_C_init :: zT) kNw "TreeCountsLaw" nm code 8 ret room_1 b (zLFi b0 L b xs) k n N (σ) 296 [(4, .int (nI (5 * q))), (3, .ref (b + 74)), (2, .ref (b + 54)), (1, .ref (b + 0)), (0, .ref b0)] [] := by
  obtain ⟨fs0, h0⟩ := hI.c0
  refine z_aload_n kd_W_law_296 3 rfl ?_
  refine z_aload_n kd_W_law_297 4 rfl ?_
  refine z_iload kd_W_law_298 0 rfl ?_
  refine z_iconst (v := 1) kd_W_law_300 (by decide) ?_
  refine z_iadd kd_W_law_301 ?_
  refine z_topi (nI_add (5 * q) 1) ?_
  refine z_sld kd_W_law_302 (show vp_in (nI ((5 * q) + 1)) L from vp_in_nI (by omega) (by omega)) ?_
  refine z_jlong (As := [_]) kd_W_law_303 (kg_W_49 _) h0 kc_C (j_rooted ht0 ht1 ht2 ht3 hI _) rfl rfl (Nat.le_of_ble_eq_true rfl) ⟨Nat.le_of_ble_eq_true rfl, Nat.le_of_ble_eq_true rfl⟩ ⟨Nat.le_of_succ_le hk, Nat.le_trans (Nat.le_add_right n 6) hn⟩ ?_
  rintro v1 σ1 ⟨fs1, h54⟩ hm
  refine z_aload_n kd_W_law_306 2 rfl ?_
  refine z_aload_n kd_W_law_307 4 rfl ?_
  refine z_iload kd_W_law_308 0 rfl ?_
  refine z_iconst (v := 1) kd_W_law_310 (by decide) ?_
  refine z_iadd kd_W_law_311 ?_
  refine z_topi (nI_add (5 * q) 1) ?_
  refine z_sld kd_W_law_312 (show vp_in (nI ((5 * q) + 1)) L from vp_in_nI (by omega) (by omega)) ?_
  refine z_callV (a := 54) (As := [_]) kd_W_law_313 (kg_W_52 _) h54 kc_M hm rfl rfl (Nat.le_of_ble_eq_true rfl) ⟨Nat.le_of_ble_eq_true rfl, Nat.le_of_ble_eq_true rfl⟩ ⟨Nat.le_of_succ_le hk, Nat.le_trans (Nat.le_add_right n 6) hn⟩ ?_
  rintro _ _ σ2 ⟨hv2, rfl, hI2, h742⟩
  cases hv2
  refine z_eq (st' := [.long v1, .long v1]) rfl rfl rfl rfl ?_
  refine z_lcmp kd_W_law_316 ?_
  refine z_if_eq (tgt := 892) kd_W_law_317 (by decide) (fun c317 => ?_) (fun c317 => ?_)
  · exact lw_next (ih k n _ σ2 (Nat.le_succ k) (Nat.le_add_right n 6) hI2 ⟨_, h742.trans h74⟩)
  · exact absurd ((lg_cmp_0 _ _).mpr rfl) c317
set_option maxHeartbeats 4000000 in
set_option maxRecDepth 100000 in
theorem lc_7 {l : Launch} {D : va_G} {tys : List (ClassId × FieldType)} {nm : String} {b b0 L q : Nat} {xs : Nat → Int32} {k n N : Nat} {σ : Nat → Option va_E} {cI cJ cZ cA cP : ClassId} (ht0 : tys[0]? = some (cI, .int)) (ht1 : tys[1]? = some (cJ, .long)) (ht2 : tys[2]? = some (cZ, .boolean)) (ht3 : tys[3]? = some (cA, .array .long)) (ht4 : tys[4]? = some (cP, .object "TreeCounts$Parts")) (hL : L ≤ 2560) (hq5 : 5 * q + 5 ≤ L) (hk : k + 1 ≤ 601024) (hn : n + 6 ≤ 7293034) (hI : LV b cI cJ cA cP cZ q σ) {g74 : Nat → Int64} (h74 : σ 74 = some (.inl (cJ, 1, .inr (.inl g74)))) (ih : ∀ (k' n' N' : Nat) (σ' : Nat → Option va_E), k' ≤ k + 1 → n' ≤ n + 6 → LV b cI cJ cA cP cZ (q + 1) σ' → (∃ g, σ' 74 = some (.inl (cJ, 1, .inr (.inl g)))) → Z l D kCl tys (kh_C_init :: zT) kNw "TreeCountsLaw" nm code 8 ret room_1 b (zLFi b0 L b xs) k' n' N' (σ') 23 [(4, .int (nI (5 * (q + 1)))), (3, .ref (b + 74)), (2, .ref (b + 54)), (1, .ref (b + 0)), (0, .ref b0)] []) : Z l D kCl tys (kh_C_init :: zT) kNw "TreeCountsLaw" nm code 8 ret room_1 b (zLFi b0 L b xs) k n N (σ) 322 [(4, .int (nI (5 * q))), (3, .ref (b + 74)), (2, .ref (b + 54)), (1, .ref (b + 0)), (0, .ref b0)] [] := by
  obtain ⟨fs0, h0⟩ := hI.c0
  refine z_aload_n kd_W_law_322 3 rfl ?_
  refine z_jlong (As := []) kd_W_law_323 (kg_W_53 _) h0 kc_C (j_forests ht0 ht1 ht2 ht3 hI) rfl rfl (Nat.le_of_ble_eq_true rfl) ⟨Nat.le_of_ble_eq_true rfl, Nat.le_of_ble_eq_true rfl⟩ ⟨Nat.le_of_succ_le hk, Nat.le_trans (Nat.le_add_right n 6) hn⟩ ?_
  rintro v1 σ1 ⟨fs1, h54⟩ hm
  refine z_aload_n kd_W_law_326 2 rfl ?_
  refine z_callV (a := 54) (As := []) kd_W_law_327 (kg_W_56 _) h54 kc_M hm rfl rfl (Nat.le_of_ble_eq_true rfl) ⟨Nat.le_of_ble_eq_true rfl, Nat.le_of_ble_eq_true rfl⟩ ⟨Nat.le_of_succ_le hk, Nat.le_trans (Nat.le_add_right n 6) hn⟩ ?_
  rintro _ _ σ2 ⟨hv2, rfl, hI2, h742⟩
  cases hv2
  refine z_eq (st' := [.long v1, .long v1]) rfl rfl rfl rfl ?_
  refine z_lcmp kd_W_law_330 ?_
  refine z_if_eq (tgt := 892) kd_W_law_331 (by decide) (fun c331 => ?_) (fun c331 => ?_)
  · exact lw_next (ih k n _ σ2 (Nat.le_succ k) (Nat.le_add_right n 6) hI2 ⟨_, h742.trans h74⟩)
  · exact absurd ((lg_cmp_0 _ _).mpr rfl) c331
set_option maxHeartbeats 4000000 in
set_option maxRecDepth 100000 in
theorem lc_8 {l : Launch} {D : va_G} {tys : List (ClassId × FieldType)} {nm : String} {b b0 L q : Nat} {xs : Nat → Int32} {k n N : Nat} {σ : Nat → Option va_E} {cI cJ cZ cA cP : ClassId} (ht0 : tys[0]? = some (cI, .int)) (ht1 : tys[1]? = some (cJ, .long)) (ht2 : tys[2]? = some (cZ, .boolean)) (ht3 : tys[3]? = some (cA, .array .long)) (ht4 : tys[4]? = some (cP, .object "TreeCounts$Parts")) (hL : L ≤ 2560) (hq5 : 5 * q + 5 ≤ L) (hk : k + 1 ≤ 601024) (hn : n + 6 ≤ 7293034) (hI : LV b cI cJ cA cP cZ q σ) {g74 : Nat → Int64} (h74 : σ 74 = some (.inl (cJ, 1, .inr (.inl g74)))) (ih : ∀ (k' n' N' : Nat) (σ' : Nat → Option va_E), k' ≤ k + 1 → n' ≤ n + 6 → LV b cI cJ cA cP cZ (q + 1) σ' → (∃ g, σ' 74 = some (.inl (cJ, 1, .inr (.inl g)))) → Z l D kCl tys (kh_C_init :: zT) kNw "TreeCountsLaw" nm code 8 ret room_1 b (zLFi b0 L b xs) k' n' N' (σ') 23 [(4, .int (nI (5 * (q + 1)))), (3, .ref (b + 74)), (2, .ref (b + 54)), (1, .ref (b + 0)), (0, .ref b0)] []) : Z l D kCl tys (kh_C_init :: zT) kNw "TreeCountsLaw" nm code 8 ret room_1 b (zLFi b0 L b xs) k n N (σ) 336 [(4, .int (nI (5 * q))), (3, .ref (b + 74)), (2, .ref (b + 54)), (1, .ref (b + 0)), (0, .ref b0)] [] := by
  obtain ⟨fs0, h0⟩ := hI.c0
  refine z_aload_n kd_W_law_336 3 rfl ?_
  refine z_aload_n kd_W_law_337 4 rfl ?_
  refine z_iload kd_W_law_338 0 rfl ?_
  refine z_iconst (v := 1) kd_W_law_340 (by decide) ?_
  refine z_iadd kd_W_law_341 ?_
  refine z_topi (nI_add (5 * q) 1) ?_
  refine z_sld kd_W_law_342 (show vp_in (nI ((5 * q) + 1)) L from vp_in_nI (by omega) (by omega)) ?_
  refine z_aload_n kd_W_law_343 4 rfl ?_
  refine z_iload kd_W_law_344 0 rfl ?_
  refine z_iconst (v := 2) kd_W_law_346 (by decide) ?_
  refine z_iadd kd_W_law_347 ?_
  refine z_topi (nI_add (5 * q) 2) ?_
  refine z_sld kd_W_law_348 (show vp_in (nI ((5 * q) + 2)) L from vp_in_nI (by omega) (by omega)) ?_
  refine z_jlong (As := [_, _]) kd_W_law_349 (kg_W_57 _) h0 kc_C (j_apart ht0 ht1 ht2 ht3 hI _ _) rfl rfl (Nat.le_of_ble_eq_true rfl) ⟨Nat.le_of_ble_eq_true rfl, Nat.le_of_ble_eq_true rfl⟩ ⟨Nat.le_of_succ_le hk, Nat.le_trans (Nat.le_add_right n 6) hn⟩ ?_
  rintro v1 σ1 ⟨fs1, h54⟩ hm
  refine z_aload_n kd_W_law_352 2 rfl ?_
  refine z_aload_n kd_W_law_353 4 rfl ?_
  refine z_iload kd_W_law_354 0 rfl ?_
  refine z_iconst (v := 1) kd_W_law_356 (by decide) ?_
  refine z_iadd kd_W_law_357 ?_
  refine z_topi (nI_add (5 * q) 1) ?_
  refine z_sld kd_W_law_358 (show vp_in (nI ((5 * q) + 1)) L from vp_in_nI (by omega) (by omega)) ?_
  refine z_aload_n kd_W_law_359 4 rfl ?_
  refine z_iload kd_W_law_360 0 rfl ?_
  refine z_iconst (v := 2) kd_W_law_362 (by decide) ?_
  refine z_iadd kd_W_law_363 ?_
  refine z_topi (nI_add (5 * q) 2) ?_
  refine z_sld kd_W_law_364 (show vp_in (nI ((5 * q) + 2)) L from vp_in_nI (by omega) (by omega)) ?_
  refine z_callV (a := 54) (As := [_, _]) kd_W_law_365 (kg_W_61 _) h54 kc_M hm rfl rfl (Nat.le_of_ble_eq_true rfl) ⟨Nat.le_of_ble_eq_true rfl, Nat.le_of_ble_eq_true rfl⟩ ⟨Nat.le_of_succ_le hk, Nat.le_trans (Nat.le_add_right n 6) hn⟩ ?_
  rintro _ _ σ2 ⟨hv2, rfl, hI2, h742⟩
  cases hv2
  refine z_eq (st' := [.long v1, .long v1]) rfl rfl rfl rfl ?_
  refine z_lcmp kd_W_law_368 ?_
  refine z_if_eq (tgt := 892) kd_W_law_369 (by decide) (fun c369 => ?_) (fun c369 => ?_)
  · exact lw_next (ih k n _ σ2 (Nat.le_succ k) (Nat.le_add_right n 6) hI2 ⟨_, h742.trans h74⟩)
  · exact absurd ((lg_cmp_0 _ _).mpr rfl) c369
set_option maxHeartbeats 4000000 in
set_option maxRecDepth 100000 in
theorem lc_9 {l : Launch} {D : va_G} {tys : List (ClassId × FieldType)} {nm : String} {b b0 L q : Nat} {xs : Nat → Int32} {k n N : Nat} {σ : Nat → Option va_E} {cI cJ cZ cA cP : ClassId} (ht0 : tys[0]? = some (cI, .int)) (ht1 : tys[1]? = some (cJ, .long)) (ht2 : tys[2]? = some (cZ, .boolean)) (ht3 : tys[3]? = some (cA, .array .long)) (ht4 : tys[4]? = some (cP, .object "TreeCounts$Parts")) (hL : L ≤ 2560) (hq5 : 5 * q + 5 ≤ L) (hk : k + 1 ≤ 601024) (hn : n + 6 ≤ 7293034) (hI : LV b cI cJ cA cP cZ q σ) {g74 : Nat → Int64} (h74 : σ 74 = some (.inl (cJ, 1, .inr (.inl g74)))) (ih : ∀ (k' n' N' : Nat) (σ' : Nat → Option va_E), k' ≤ k + 1 → n' ≤ n + 6 → LV b cI cJ cA cP cZ (q + 1) σ' → (∃ g, σ' 74 = some (.inl (cJ, 1, .inr (.inl g)))) → Z l D kCl tys (kh_C_init :: zT) kNw "TreeCountsLaw" nm code 8 ret room_1 b (zLFi b0 L b xs) k' n' N' (σ') 23 [(4, .int (nI (5 * (q + 1)))), (3, .ref (b + 74)), (2, .ref (b + 54)), (1, .ref (b + 0)), (0, .ref b0)] []) : Z l D kCl tys (kh_C_init :: zT) kNw "TreeCountsLaw" nm code 8 ret room_1 b (zLFi b0 L b xs) k n N (σ) 374 [(4, .int (nI (5 * q))), (3, .ref (b + 74)), (2, .ref (b + 54)), (1, .ref (b + 0)), (0, .ref b0)] [] := by
  obtain ⟨fs0, h0⟩ := hI.c0
  refine z_aload_n kd_W_law_374 3 rfl ?_
  refine z_aload_n kd_W_law_375 4 rfl ?_
  refine z_iload kd_W_law_376 0 rfl ?_
  refine z_iconst (v := 1) kd_W_law_378 (by decide) ?_
  refine z_iadd kd_W_law_379 ?_
  refine z_topi (nI_add (5 * q) 1) ?_
  refine z_sld kd_W_law_380 (show vp_in (nI ((5 * q) + 1)) L from vp_in_nI (by omega) (by omega)) ?_
  refine z_aload_n kd_W_law_381 4 rfl ?_
  refine z_iload kd_W_law_382 0 rfl ?_
  refine z_iconst (v := 2) kd_W_law_384 (by decide) ?_
  refine z_iadd kd_W_law_385 ?_
  refine z_topi (nI_add (5 * q) 2) ?_
  refine z_sld kd_W_law_386 (show vp_in (nI ((5 * q) + 2)) L from vp_in_nI (by omega) (by omega)) ?_
  refine z_aload_n kd_W_law_387 4 rfl ?_
  refine z_iload kd_W_law_388 0 rfl ?_
  refine z_iconst (v := 3) kd_W_law_390 (by decide) ?_
  refine z_iadd kd_W_law_391 ?_
  refine z_topi (nI_add (5 * q) 3) ?_
  refine z_sld kd_W_law_392 (show vp_in (nI ((5 * q) + 3)) L from vp_in_nI (by omega) (by omega)) ?_
  refine z_jlong (As := [_, _, _]) kd_W_law_393 (kg_W_62 _) h0 kc_C (j_resistance ht0 ht1 ht2 ht3 hI _ _ _) rfl rfl (Nat.le_of_ble_eq_true rfl) ⟨Nat.le_of_ble_eq_true rfl, Nat.le_of_ble_eq_true rfl⟩ ⟨Nat.le_of_succ_le hk, Nat.le_trans (Nat.le_add_right n 6) hn⟩ ?_
  rintro v1 σ1 ⟨fs1, h54⟩ hm
  refine z_aload_n kd_W_law_396 2 rfl ?_
  refine z_aload_n kd_W_law_397 4 rfl ?_
  refine z_iload kd_W_law_398 0 rfl ?_
  refine z_iconst (v := 1) kd_W_law_400 (by decide) ?_
  refine z_iadd kd_W_law_401 ?_
  refine z_topi (nI_add (5 * q) 1) ?_
  refine z_sld kd_W_law_402 (show vp_in (nI ((5 * q) + 1)) L from vp_in_nI (by omega) (by omega)) ?_
  refine z_aload_n kd_W_law_403 4 rfl ?_
  refine z_iload kd_W_law_404 0 rfl ?_
  refine z_iconst (v := 2) kd_W_law_406 (by decide) ?_
  refine z_iadd kd_W_law_407 ?_
  refine z_topi (nI_add (5 * q) 2) ?_
  refine z_sld kd_W_law_408 (show vp_in (nI ((5 * q) + 2)) L from vp_in_nI (by omega) (by omega)) ?_
  refine z_aload_n kd_W_law_409 4 rfl ?_
  refine z_iload kd_W_law_410 0 rfl ?_
  refine z_iconst (v := 3) kd_W_law_412 (by decide) ?_
  refine z_iadd kd_W_law_413 ?_
  refine z_topi (nI_add (5 * q) 3) ?_
  refine z_sld kd_W_law_414 (show vp_in (nI ((5 * q) + 3)) L from vp_in_nI (by omega) (by omega)) ?_
  refine z_callV (a := 54) (As := [_, _, _]) kd_W_law_415 (kg_W_66 _) h54 kc_M hm rfl rfl (Nat.le_of_ble_eq_true rfl) ⟨Nat.le_of_ble_eq_true rfl, Nat.le_of_ble_eq_true rfl⟩ ⟨Nat.le_of_succ_le hk, Nat.le_trans (Nat.le_add_right n 6) hn⟩ ?_
  rintro _ _ σ2 ⟨hv2, rfl, hI2, h742⟩
  cases hv2
  refine z_eq (st' := [.long v1, .long v1]) rfl rfl rfl rfl ?_
  refine z_lcmp kd_W_law_418 ?_
  refine z_if_eq (tgt := 892) kd_W_law_419 (by decide) (fun c419 => ?_) (fun c419 => ?_)
  · exact lw_next (ih k n _ σ2 (Nat.le_succ k) (Nat.le_add_right n 6) hI2 ⟨_, h742.trans h74⟩)
  · exact absurd ((lg_cmp_0 _ _).mpr rfl) c419
set_option maxHeartbeats 4000000 in
set_option maxRecDepth 100000 in
theorem lc_10 {l : Launch} {D : va_G} {tys : List (ClassId × FieldType)} {nm : String} {b b0 L q : Nat} {xs : Nat → Int32} {k n N : Nat} {σ : Nat → Option va_E} {cI cJ cZ cA cP : ClassId} (ht0 : tys[0]? = some (cI, .int)) (ht1 : tys[1]? = some (cJ, .long)) (ht2 : tys[2]? = some (cZ, .boolean)) (ht3 : tys[3]? = some (cA, .array .long)) (ht4 : tys[4]? = some (cP, .object "TreeCounts$Parts")) (hL : L ≤ 2560) (hq5 : 5 * q + 5 ≤ L) (hk : k + 1 ≤ 601024) (hn : n + 6 ≤ 7293034) (hI : LV b cI cJ cA cP cZ q σ) {g74 : Nat → Int64} (h74 : σ 74 = some (.inl (cJ, 1, .inr (.inl g74)))) (ih : ∀ (k' n' N' : Nat) (σ' : Nat → Option va_E), k' ≤ k + 1 → n' ≤ n + 6 → LV b cI cJ cA cP cZ (q + 1) σ' → (∃ g, σ' 74 = some (.inl (cJ, 1, .inr (.inl g)))) → Z l D kCl tys (kh_C_init :: zT) kNw "TreeCountsLaw" nm code 8 ret room_1 b (zLFi b0 L b xs) k' n' N' (σ') 23 [(4, .int (nI (5 * (q + 1)))), (3, .ref (b + 74)), (2, .ref (b + 54)), (1, .ref (b + 0)), (0, .ref b0)] []) : Z l D kCl tys (kh_C_init :: zT) kNw "TreeCountsLaw" nm code 8 ret room_1 b (zLFi b0 L b xs) k n N (σ) 424 [(4, .int (nI (5 * q))), (3, .ref (b + 74)), (2, .ref (b + 54)), (1, .ref (b + 0)), (0, .ref b0)] [] := by
  obtain ⟨fs0, h0⟩ := hI.c0
  refine z_aload_n kd_W_law_424 3 rfl ?_
  refine z_jlong (As := []) kd_W_law_425 (kg_W_67 _) h0 kc_C (j_tours ht0 ht1 ht2 ht3 hI) rfl rfl (Nat.le_of_ble_eq_true rfl) ⟨Nat.le_of_ble_eq_true rfl, Nat.le_of_ble_eq_true rfl⟩ ⟨Nat.le_of_succ_le hk, Nat.le_trans (Nat.le_add_right n 6) hn⟩ ?_
  rintro v1 σ1 ⟨fs1, h54⟩ hm
  refine z_aload_n kd_W_law_428 2 rfl ?_
  refine z_callV (a := 54) (As := []) kd_W_law_429 (kg_W_70 _) h54 kc_M hm rfl rfl (Nat.le_of_ble_eq_true rfl) ⟨Nat.le_of_ble_eq_true rfl, Nat.le_of_ble_eq_true rfl⟩ ⟨Nat.le_of_succ_le hk, Nat.le_trans (Nat.le_add_right n 6) hn⟩ ?_
  rintro _ _ σ2 ⟨hv2, rfl, hI2, h742⟩
  cases hv2
  refine z_eq (st' := [.long v1, .long v1]) rfl rfl rfl rfl ?_
  refine z_lcmp kd_W_law_432 ?_
  refine z_if_eq (tgt := 892) kd_W_law_433 (by decide) (fun c433 => ?_) (fun c433 => ?_)
  · exact lw_next (ih k n _ σ2 (Nat.le_succ k) (Nat.le_add_right n 6) hI2 ⟨_, h742.trans h74⟩)
  · exact absurd ((lg_cmp_0 _ _).mpr rfl) c433
set_option maxHeartbeats 4000000 in
set_option maxRecDepth 100000 in
theorem lc_11 {l : Launch} {D : va_G} {tys : List (ClassId × FieldType)} {nm : String} {b b0 L q : Nat} {xs : Nat → Int32} {k n N : Nat} {σ : Nat → Option va_E} {cI cJ cZ cA cP : ClassId} (ht0 : tys[0]? = some (cI, .int)) (ht1 : tys[1]? = some (cJ, .long)) (ht2 : tys[2]? = some (cZ, .boolean)) (ht3 : tys[3]? = some (cA, .array .long)) (ht4 : tys[4]? = some (cP, .object "TreeCounts$Parts")) (hL : L ≤ 2560) (hq5 : 5 * q + 5 ≤ L) (hk : k + 1 ≤ 601024) (hn : n + 6 ≤ 7293034) (hI : LV b cI cJ cA cP cZ q σ) {g74 : Nat → Int64} (h74 : σ 74 = some (.inl (cJ, 1, .inr (.inl g74)))) (ih : ∀ (k' n' N' : Nat) (σ' : Nat → Option va_E), k' ≤ k + 1 → n' ≤ n + 6 → LV b cI cJ cA cP cZ (q + 1) σ' → (∃ g, σ' 74 = some (.inl (cJ, 1, .inr (.inl g)))) → Z l D kCl tys (kh_C_init :: zT) kNw "TreeCountsLaw" nm code 8 ret room_1 b (zLFi b0 L b xs) k' n' N' (σ') 23 [(4, .int (nI (5 * (q + 1)))), (3, .ref (b + 74)), (2, .ref (b + 54)), (1, .ref (b + 0)), (0, .ref b0)] []) : Z l D kCl tys (kh_C_init :: zT) kNw "TreeCountsLaw" nm code 8 ret room_1 b (zLFi b0 L b xs) k n N (σ) 438 [(4, .int (nI (5 * q))), (3, .ref (b + 74)), (2, .ref (b + 54)), (1, .ref (b + 0)), (0, .ref b0)] [] := by
  obtain ⟨fs0, h0⟩ := hI.c0
  refine z_aload_n kd_W_law_438 3 rfl ?_
  refine z_aload_n kd_W_law_439 4 rfl ?_
  refine z_iload kd_W_law_440 0 rfl ?_
  refine z_iconst (v := 1) kd_W_law_442 (by decide) ?_
  refine z_iadd kd_W_law_443 ?_
  refine z_topi (nI_add (5 * q) 1) ?_
  refine z_sld kd_W_law_444 (show vp_in (nI ((5 * q) + 1)) L from vp_in_nI (by omega) (by omega)) ?_
  refine z_i2l kd_W_law_445 ?_
  refine z_bipush (v := 32) kd_W_law_446 (by decide +kernel) ?_
  refine z_lshl kd_W_law_448 ?_
  refine z_aload_n kd_W_law_449 4 rfl ?_
  refine z_iload kd_W_law_450 0 rfl ?_
  refine z_iconst (v := 2) kd_W_law_452 (by decide) ?_
  refine z_iadd kd_W_law_453 ?_
  refine z_topi (nI_add (5 * q) 2) ?_
  refine z_sld kd_W_law_454 (show vp_in (nI ((5 * q) + 2)) L from vp_in_nI (by omega) (by omega)) ?_
  refine z_i2l kd_W_law_455 ?_
  refine z_ldc2 (v := 4294967295) kd_W_law_456 (List.mem_cons_of_mem _ (zin 1066 rfl rfl)) ?_
  refine z_land kd_W_law_459 ?_
  refine z_lor kd_W_law_460 ?_
  refine z_jint (As := [_]) kd_W_law_461 (kg_W_73 _) h0 kc_C (j_drawn ht0 ht1 ht2 ht3 hI _) rfl rfl (Nat.le_of_ble_eq_true rfl) ⟨Nat.le_of_ble_eq_true rfl, Nat.le_of_ble_eq_true rfl⟩ ⟨Nat.le_of_succ_le hk, Nat.le_trans (Nat.le_add_right n 6) hn⟩ ?_
  rintro v1 σ1 ⟨fs1, h54⟩ hm
  refine z_aload_n kd_W_law_464 2 rfl ?_
  refine z_aload_n kd_W_law_465 4 rfl ?_
  refine z_iload kd_W_law_466 0 rfl ?_
  refine z_iconst (v := 1) kd_W_law_468 (by decide) ?_
  refine z_iadd kd_W_law_469 ?_
  refine z_topi (nI_add (5 * q) 1) ?_
  refine z_sld kd_W_law_470 (show vp_in (nI ((5 * q) + 1)) L from vp_in_nI (by omega) (by omega)) ?_
  refine z_i2l kd_W_law_471 ?_
  refine z_bipush (v := 32) kd_W_law_472 (by decide +kernel) ?_
  refine z_lshl kd_W_law_474 ?_
  refine z_aload_n kd_W_law_475 4 rfl ?_
  refine z_iload kd_W_law_476 0 rfl ?_
  refine z_iconst (v := 2) kd_W_law_478 (by decide) ?_
  refine z_iadd kd_W_law_479 ?_
  refine z_topi (nI_add (5 * q) 2) ?_
  refine z_sld kd_W_law_480 (show vp_in (nI ((5 * q) + 2)) L from vp_in_nI (by omega) (by omega)) ?_
  refine z_i2l kd_W_law_481 ?_
  refine z_ldc2 (v := 4294967295) kd_W_law_482 (List.mem_cons_of_mem _ (zin 1066 rfl rfl)) ?_
  refine z_land kd_W_law_485 ?_
  refine z_lor kd_W_law_486 ?_
  refine z_callV (a := 54) (As := [_]) kd_W_law_487 (kg_W_77 _) h54 kc_M hm rfl rfl (Nat.le_of_ble_eq_true rfl) ⟨Nat.le_of_ble_eq_true rfl, Nat.le_of_ble_eq_true rfl⟩ ⟨Nat.le_of_succ_le hk, Nat.le_trans (Nat.le_add_right n 6) hn⟩ ?_
  rintro _ _ σ2 ⟨hv2, rfl, hI2, h742⟩
  cases hv2
  refine z_eq (st' := [.int v1, .int v1]) rfl rfl rfl rfl ?_
  refine z_icmp_eq (tgt := 892) kd_W_law_490 (by decide) (fun c490 => ?_) (fun c490 => ?_)
  · exact lw_next (ih k n _ σ2 (Nat.le_succ k) (Nat.le_add_right n 6) hI2 ⟨_, h742.trans h74⟩)
  · exact absurd rfl c490
set_option maxHeartbeats 4000000 in
set_option maxRecDepth 100000 in
theorem lc_12 {l : Launch} {D : va_G} {tys : List (ClassId × FieldType)} {nm : String} {b b0 L q : Nat} {xs : Nat → Int32} {k n N : Nat} {σ : Nat → Option va_E} {cI cJ cZ cA cP : ClassId} (ht0 : tys[0]? = some (cI, .int)) (ht1 : tys[1]? = some (cJ, .long)) (ht2 : tys[2]? = some (cZ, .boolean)) (ht3 : tys[3]? = some (cA, .array .long)) (ht4 : tys[4]? = some (cP, .object "TreeCounts$Parts")) (hL : L ≤ 2560) (hq5 : 5 * q + 5 ≤ L) (hk : k + 1 ≤ 601024) (hn : n + 6 ≤ 7293034) (hI : LV b cI cJ cA cP cZ q σ) {g74 : Nat → Int64} (h74 : σ 74 = some (.inl (cJ, 1, .inr (.inl g74)))) (ih : ∀ (k' n' N' : Nat) (σ' : Nat → Option va_E), k' ≤ k + 1 → n' ≤ n + 6 → LV b cI cJ cA cP cZ (q + 1) σ' → (∃ g, σ' 74 = some (.inl (cJ, 1, .inr (.inl g)))) → Z l D kCl tys (kh_C_init :: zT) kNw "TreeCountsLaw" nm code 8 ret room_1 b (zLFi b0 L b xs) k' n' N' (σ') 23 [(4, .int (nI (5 * (q + 1)))), (3, .ref (b + 74)), (2, .ref (b + 54)), (1, .ref (b + 0)), (0, .ref b0)] []) : Z l D kCl tys (kh_C_init :: zT) kNw "TreeCountsLaw" nm code 8 ret room_1 b (zLFi b0 L b xs) k n N (σ) 495 [(4, .int (nI (5 * q))), (3, .ref (b + 74)), (2, .ref (b + 54)), (1, .ref (b + 0)), (0, .ref b0)] [] := by
  obtain ⟨fs0, h0⟩ := hI.c0
  refine z_aload_n kd_W_law_495 3 rfl ?_
  refine z_aload_n kd_W_law_496 4 rfl ?_
  refine z_iload kd_W_law_497 0 rfl ?_
  refine z_iconst (v := 1) kd_W_law_499 (by decide) ?_
  refine z_iadd kd_W_law_500 ?_
  refine z_topi (nI_add (5 * q) 1) ?_
  refine z_sld kd_W_law_501 (show vp_in (nI ((5 * q) + 1)) L from vp_in_nI (by omega) (by omega)) ?_
  refine z_jlong (As := [_]) kd_W_law_502 (kg_W_78 _) h0 kc_C (j_place ht0 ht1 ht2 ht3 hI _) rfl rfl (Nat.le_of_ble_eq_true rfl) ⟨Nat.le_of_ble_eq_true rfl, Nat.le_of_ble_eq_true rfl⟩ ⟨Nat.le_of_succ_le hk, Nat.le_trans (Nat.le_add_right n 6) hn⟩ ?_
  rintro v1 σ1 ⟨fs1, h54⟩ hm
  refine z_aload_n kd_W_law_505 2 rfl ?_
  refine z_aload_n kd_W_law_506 4 rfl ?_
  refine z_iload kd_W_law_507 0 rfl ?_
  refine z_iconst (v := 1) kd_W_law_509 (by decide) ?_
  refine z_iadd kd_W_law_510 ?_
  refine z_topi (nI_add (5 * q) 1) ?_
  refine z_sld kd_W_law_511 (show vp_in (nI ((5 * q) + 1)) L from vp_in_nI (by omega) (by omega)) ?_
  refine z_callV (a := 54) (As := [_]) kd_W_law_512 (kg_W_81 _) h54 kc_M hm rfl rfl (Nat.le_of_ble_eq_true rfl) ⟨Nat.le_of_ble_eq_true rfl, Nat.le_of_ble_eq_true rfl⟩ ⟨Nat.le_of_succ_le hk, Nat.le_trans (Nat.le_add_right n 6) hn⟩ ?_
  rintro _ _ σ2 ⟨hv2, rfl, hI2, h742⟩
  cases hv2
  refine z_eq (st' := [.long v1, .long v1]) rfl rfl rfl rfl ?_
  refine z_lcmp kd_W_law_515 ?_
  refine z_if_eq (tgt := 892) kd_W_law_516 (by decide) (fun c516 => ?_) (fun c516 => ?_)
  · exact lw_next (ih k n _ σ2 (Nat.le_succ k) (Nat.le_add_right n 6) hI2 ⟨_, h742.trans h74⟩)
  · exact absurd ((lg_cmp_0 _ _).mpr rfl) c516
set_option maxHeartbeats 4000000 in
set_option maxRecDepth 100000 in
theorem lc_13 {l : Launch} {D : va_G} {tys : List (ClassId × FieldType)} {nm : String} {b b0 L q : Nat} {xs : Nat → Int32} {k n N : Nat} {σ : Nat → Option va_E} {cI cJ cZ cA cP : ClassId} (ht0 : tys[0]? = some (cI, .int)) (ht1 : tys[1]? = some (cJ, .long)) (ht2 : tys[2]? = some (cZ, .boolean)) (ht3 : tys[3]? = some (cA, .array .long)) (ht4 : tys[4]? = some (cP, .object "TreeCounts$Parts")) (hL : L ≤ 2560) (hq5 : 5 * q + 5 ≤ L) (hk : k + 1 ≤ 601024) (hn : n + 6 ≤ 7293034) (hI : LV b cI cJ cA cP cZ q σ) {g74 : Nat → Int64} (h74 : σ 74 = some (.inl (cJ, 1, .inr (.inl g74)))) (ih : ∀ (k' n' N' : Nat) (σ' : Nat → Option va_E), k' ≤ k + 1 → n' ≤ n + 6 → LV b cI cJ cA cP cZ (q + 1) σ' → (∃ g, σ' 74 = some (.inl (cJ, 1, .inr (.inl g)))) → Z l D kCl tys (kh_C_init :: zT) kNw "TreeCountsLaw" nm code 8 ret room_1 b (zLFi b0 L b xs) k' n' N' (σ') 23 [(4, .int (nI (5 * (q + 1)))), (3, .ref (b + 74)), (2, .ref (b + 54)), (1, .ref (b + 0)), (0, .ref b0)] []) : Z l D kCl tys (kh_C_init :: zT) kNw "TreeCountsLaw" nm code 8 ret room_1 b (zLFi b0 L b xs) k n N (σ) 521 [(4, .int (nI (5 * q))), (3, .ref (b + 74)), (2, .ref (b + 54)), (1, .ref (b + 0)), (0, .ref b0)] [] := by
  obtain ⟨fs0, h0⟩ := hI.c0
  refine z_aload_n kd_W_law_521 3 rfl ?_
  refine z_aload_n kd_W_law_522 4 rfl ?_
  refine z_iload kd_W_law_523 0 rfl ?_
  refine z_iconst (v := 1) kd_W_law_525 (by decide) ?_
  refine z_iadd kd_W_law_526 ?_
  refine z_topi (nI_add (5 * q) 1) ?_
  refine z_sld kd_W_law_527 (show vp_in (nI ((5 * q) + 1)) L from vp_in_nI (by omega) (by omega)) ?_
  refine z_aload_n kd_W_law_528 4 rfl ?_
  refine z_iload kd_W_law_529 0 rfl ?_
  refine z_iconst (v := 2) kd_W_law_531 (by decide) ?_
  refine z_iadd kd_W_law_532 ?_
  refine z_topi (nI_add (5 * q) 2) ?_
  refine z_sld kd_W_law_533 (show vp_in (nI ((5 * q) + 2)) L from vp_in_nI (by omega) (by omega)) ?_
  refine z_jint (As := [_, _]) kd_W_law_534 (kg_W_82 _) h0 kc_C (j_ring ht0 ht1 ht2 ht3 hI _ _) rfl rfl (Nat.le_of_ble_eq_true rfl) ⟨Nat.le_of_ble_eq_true rfl, Nat.le_of_ble_eq_true rfl⟩ ⟨Nat.le_of_succ_le hk, Nat.le_trans (Nat.le_add_right n 6) hn⟩ ?_
  rintro v1 σ1 ⟨fs1, h54⟩ hm
  refine z_aload_n kd_W_law_537 2 rfl ?_
  refine z_aload_n kd_W_law_538 4 rfl ?_
  refine z_iload kd_W_law_539 0 rfl ?_
  refine z_iconst (v := 1) kd_W_law_541 (by decide) ?_
  refine z_iadd kd_W_law_542 ?_
  refine z_topi (nI_add (5 * q) 1) ?_
  refine z_sld kd_W_law_543 (show vp_in (nI ((5 * q) + 1)) L from vp_in_nI (by omega) (by omega)) ?_
  refine z_aload_n kd_W_law_544 4 rfl ?_
  refine z_iload kd_W_law_545 0 rfl ?_
  refine z_iconst (v := 2) kd_W_law_547 (by decide) ?_
  refine z_iadd kd_W_law_548 ?_
  refine z_topi (nI_add (5 * q) 2) ?_
  refine z_sld kd_W_law_549 (show vp_in (nI ((5 * q) + 2)) L from vp_in_nI (by omega) (by omega)) ?_
  refine z_callV (a := 54) (As := [_, _]) kd_W_law_550 (kg_W_85 _) h54 kc_M hm rfl rfl (Nat.le_of_ble_eq_true rfl) ⟨Nat.le_of_ble_eq_true rfl, Nat.le_of_ble_eq_true rfl⟩ ⟨Nat.le_of_succ_le hk, Nat.le_trans (Nat.le_add_right n 6) hn⟩ ?_
  rintro _ _ σ2 ⟨hv2, rfl, hI2, h742⟩
  cases hv2
  refine z_eq (st' := [.int v1, .int v1]) rfl rfl rfl rfl ?_
  refine z_icmp_eq (tgt := 892) kd_W_law_553 (by decide) (fun c553 => ?_) (fun c553 => ?_)
  · exact lw_next (ih k n _ σ2 (Nat.le_succ k) (Nat.le_add_right n 6) hI2 ⟨_, h742.trans h74⟩)
  · exact absurd rfl c553
set_option maxHeartbeats 4000000 in
set_option maxRecDepth 100000 in
theorem lc_14 {l : Launch} {D : va_G} {tys : List (ClassId × FieldType)} {nm : String} {b b0 L q : Nat} {xs : Nat → Int32} {k n N : Nat} {σ : Nat → Option va_E} {cI cJ cZ cA cP : ClassId} (ht0 : tys[0]? = some (cI, .int)) (ht1 : tys[1]? = some (cJ, .long)) (ht2 : tys[2]? = some (cZ, .boolean)) (ht3 : tys[3]? = some (cA, .array .long)) (ht4 : tys[4]? = some (cP, .object "TreeCounts$Parts")) (hL : L ≤ 2560) (hq5 : 5 * q + 5 ≤ L) (hk : k + 1 ≤ 601024) (hn : n + 6 ≤ 7293034) (hI : LV b cI cJ cA cP cZ q σ) {g74 : Nat → Int64} (h74 : σ 74 = some (.inl (cJ, 1, .inr (.inl g74)))) (ih : ∀ (k' n' N' : Nat) (σ' : Nat → Option va_E), k' ≤ k + 1 → n' ≤ n + 6 → LV b cI cJ cA cP cZ (q + 1) σ' → (∃ g, σ' 74 = some (.inl (cJ, 1, .inr (.inl g)))) → Z l D kCl tys (kh_C_init :: zT) kNw "TreeCountsLaw" nm code 8 ret room_1 b (zLFi b0 L b xs) k' n' N' (σ') 23 [(4, .int (nI (5 * (q + 1)))), (3, .ref (b + 74)), (2, .ref (b + 54)), (1, .ref (b + 0)), (0, .ref b0)] []) : Z l D kCl tys (kh_C_init :: zT) kNw "TreeCountsLaw" nm code 8 ret room_1 b (zLFi b0 L b xs) k n N (σ) 558 [(4, .int (nI (5 * q))), (3, .ref (b + 74)), (2, .ref (b + 54)), (1, .ref (b + 0)), (0, .ref b0)] [] := by
  obtain ⟨fs0, h0⟩ := hI.c0
  refine z_aload_n kd_W_law_558 3 rfl ?_
  refine z_aload_n kd_W_law_559 4 rfl ?_
  refine z_iload kd_W_law_560 0 rfl ?_
  refine z_iconst (v := 1) kd_W_law_562 (by decide) ?_
  refine z_iadd kd_W_law_563 ?_
  refine z_topi (nI_add (5 * q) 1) ?_
  refine z_sld kd_W_law_564 (show vp_in (nI ((5 * q) + 1)) L from vp_in_nI (by omega) (by omega)) ?_
  refine z_jlong (As := [_]) kd_W_law_565 (kg_W_86 _) h0 kc_C (j_group ht0 ht1 ht2 ht3 hI _) rfl rfl (Nat.le_of_ble_eq_true rfl) ⟨Nat.le_of_ble_eq_true rfl, Nat.le_of_ble_eq_true rfl⟩ ⟨Nat.le_of_succ_le hk, Nat.le_trans (Nat.le_add_right n 6) hn⟩ ?_
  rintro v1 σ1 ⟨fs1, h54⟩ hm
  refine z_aload_n kd_W_law_568 2 rfl ?_
  refine z_aload_n kd_W_law_569 4 rfl ?_
  refine z_iload kd_W_law_570 0 rfl ?_
  refine z_iconst (v := 1) kd_W_law_572 (by decide) ?_
  refine z_iadd kd_W_law_573 ?_
  refine z_topi (nI_add (5 * q) 1) ?_
  refine z_sld kd_W_law_574 (show vp_in (nI ((5 * q) + 1)) L from vp_in_nI (by omega) (by omega)) ?_
  refine z_callV (a := 54) (As := [_]) kd_W_law_575 (kg_W_89 _) h54 kc_M hm rfl rfl (Nat.le_of_ble_eq_true rfl) ⟨Nat.le_of_ble_eq_true rfl, Nat.le_of_ble_eq_true rfl⟩ ⟨Nat.le_of_succ_le hk, Nat.le_trans (Nat.le_add_right n 6) hn⟩ ?_
  rintro _ _ σ2 ⟨hv2, rfl, hI2, h742⟩
  cases hv2
  refine z_eq (st' := [.long v1, .long v1]) rfl rfl rfl rfl ?_
  refine z_lcmp kd_W_law_578 ?_
  refine z_if_eq (tgt := 892) kd_W_law_579 (by decide) (fun c579 => ?_) (fun c579 => ?_)
  · exact lw_next (ih k n _ σ2 (Nat.le_succ k) (Nat.le_add_right n 6) hI2 ⟨_, h742.trans h74⟩)
  · exact absurd ((lg_cmp_0 _ _).mpr rfl) c579
set_option maxHeartbeats 4000000 in
set_option maxRecDepth 100000 in
theorem lc_15 {l : Launch} {D : va_G} {tys : List (ClassId × FieldType)} {nm : String} {b b0 L q : Nat} {xs : Nat → Int32} {k n N : Nat} {σ : Nat → Option va_E} {cI cJ cZ cA cP : ClassId} (ht0 : tys[0]? = some (cI, .int)) (ht1 : tys[1]? = some (cJ, .long)) (ht2 : tys[2]? = some (cZ, .boolean)) (ht3 : tys[3]? = some (cA, .array .long)) (ht4 : tys[4]? = some (cP, .object "TreeCounts$Parts")) (hL : L ≤ 2560) (hq5 : 5 * q + 5 ≤ L) (hk : k + 1 ≤ 601024) (hn : n + 6 ≤ 7293034) (hI : LV b cI cJ cA cP cZ q σ) {g74 : Nat → Int64} (h74 : σ 74 = some (.inl (cJ, 1, .inr (.inl g74)))) (ih : ∀ (k' n' N' : Nat) (σ' : Nat → Option va_E), k' ≤ k + 1 → n' ≤ n + 6 → LV b cI cJ cA cP cZ (q + 1) σ' → (∃ g, σ' 74 = some (.inl (cJ, 1, .inr (.inl g)))) → Z l D kCl tys (kh_C_init :: zT) kNw "TreeCountsLaw" nm code 8 ret room_1 b (zLFi b0 L b xs) k' n' N' (σ') 23 [(4, .int (nI (5 * (q + 1)))), (3, .ref (b + 74)), (2, .ref (b + 54)), (1, .ref (b + 0)), (0, .ref b0)] []) : Z l D kCl tys (kh_C_init :: zT) kNw "TreeCountsLaw" nm code 8 ret room_1 b (zLFi b0 L b xs) k n N (σ) 584 [(4, .int (nI (5 * q))), (3, .ref (b + 74)), (2, .ref (b + 54)), (1, .ref (b + 0)), (0, .ref b0)] [] := by
  obtain ⟨fs0, h0⟩ := hI.c0
  refine z_aload_n kd_W_law_584 3 rfl ?_
  refine z_aload_n kd_W_law_585 4 rfl ?_
  refine z_iload kd_W_law_586 0 rfl ?_
  refine z_iconst (v := 1) kd_W_law_588 (by decide) ?_
  refine z_iadd kd_W_law_589 ?_
  refine z_topi (nI_add (5 * q) 1) ?_
  refine z_sld kd_W_law_590 (show vp_in (nI ((5 * q) + 1)) L from vp_in_nI (by omega) (by omega)) ?_
  refine z_aload_n kd_W_law_591 4 rfl ?_
  refine z_iload kd_W_law_592 0 rfl ?_
  refine z_iconst (v := 2) kd_W_law_594 (by decide) ?_
  refine z_iadd kd_W_law_595 ?_
  refine z_topi (nI_add (5 * q) 2) ?_
  refine z_sld kd_W_law_596 (show vp_in (nI ((5 * q) + 2)) L from vp_in_nI (by omega) (by omega)) ?_
  refine z_jlong (As := [_, _]) kd_W_law_597 (kg_W_90 _) h0 kc_C (j_chips ht0 ht1 ht2 ht3 hI _ _) rfl rfl (Nat.le_of_ble_eq_true rfl) ⟨Nat.le_of_ble_eq_true rfl, Nat.le_of_ble_eq_true rfl⟩ ⟨Nat.le_of_succ_le hk, Nat.le_trans (Nat.le_add_right n 6) hn⟩ ?_
  rintro v1 σ1 ⟨fs1, h54⟩ hm
  refine z_aload_n kd_W_law_600 2 rfl ?_
  refine z_aload_n kd_W_law_601 4 rfl ?_
  refine z_iload kd_W_law_602 0 rfl ?_
  refine z_iconst (v := 1) kd_W_law_604 (by decide) ?_
  refine z_iadd kd_W_law_605 ?_
  refine z_topi (nI_add (5 * q) 1) ?_
  refine z_sld kd_W_law_606 (show vp_in (nI ((5 * q) + 1)) L from vp_in_nI (by omega) (by omega)) ?_
  refine z_aload_n kd_W_law_607 4 rfl ?_
  refine z_iload kd_W_law_608 0 rfl ?_
  refine z_iconst (v := 2) kd_W_law_610 (by decide) ?_
  refine z_iadd kd_W_law_611 ?_
  refine z_topi (nI_add (5 * q) 2) ?_
  refine z_sld kd_W_law_612 (show vp_in (nI ((5 * q) + 2)) L from vp_in_nI (by omega) (by omega)) ?_
  refine z_callV (a := 54) (As := [_, _]) kd_W_law_613 (kg_W_93 _) h54 kc_M hm rfl rfl (Nat.le_of_ble_eq_true rfl) ⟨Nat.le_of_ble_eq_true rfl, Nat.le_of_ble_eq_true rfl⟩ ⟨Nat.le_of_succ_le hk, Nat.le_trans (Nat.le_add_right n 6) hn⟩ ?_
  rintro _ _ σ2 ⟨hv2, rfl, hI2, h742⟩
  cases hv2
  refine z_eq (st' := [.long v1, .long v1]) rfl rfl rfl rfl ?_
  refine z_lcmp kd_W_law_616 ?_
  refine z_if_eq (tgt := 892) kd_W_law_617 (by decide) (fun c617 => ?_) (fun c617 => ?_)
  · exact lw_next (ih k n _ σ2 (Nat.le_succ k) (Nat.le_add_right n 6) hI2 ⟨_, h742.trans h74⟩)
  · exact absurd ((lg_cmp_0 _ _).mpr rfl) c617
set_option maxHeartbeats 4000000 in
set_option maxRecDepth 100000 in
theorem lc_16 {l : Launch} {D : va_G} {tys : List (ClassId × FieldType)} {nm : String} {b b0 L q : Nat} {xs : Nat → Int32} {k n N : Nat} {σ : Nat → Option va_E} {cI cJ cZ cA cP : ClassId} (ht0 : tys[0]? = some (cI, .int)) (ht1 : tys[1]? = some (cJ, .long)) (ht2 : tys[2]? = some (cZ, .boolean)) (ht3 : tys[3]? = some (cA, .array .long)) (ht4 : tys[4]? = some (cP, .object "TreeCounts$Parts")) (hL : L ≤ 2560) (hq5 : 5 * q + 5 ≤ L) (hk : k + 1 ≤ 601024) (hn : n + 6 ≤ 7293034) (hI : LV b cI cJ cA cP cZ q σ) {g74 : Nat → Int64} (h74 : σ 74 = some (.inl (cJ, 1, .inr (.inl g74)))) (ih : ∀ (k' n' N' : Nat) (σ' : Nat → Option va_E), k' ≤ k + 1 → n' ≤ n + 6 → LV b cI cJ cA cP cZ (q + 1) σ' → (∃ g, σ' 74 = some (.inl (cJ, 1, .inr (.inl g)))) → Z l D kCl tys (kh_C_init :: zT) kNw "TreeCountsLaw" nm code 8 ret room_1 b (zLFi b0 L b xs) k' n' N' (σ') 23 [(4, .int (nI (5 * (q + 1)))), (3, .ref (b + 74)), (2, .ref (b + 54)), (1, .ref (b + 0)), (0, .ref b0)] []) : Z l D kCl tys (kh_C_init :: zT) kNw "TreeCountsLaw" nm code 8 ret room_1 b (zLFi b0 L b xs) k n N (σ) 622 [(4, .int (nI (5 * q))), (3, .ref (b + 74)), (2, .ref (b + 54)), (1, .ref (b + 0)), (0, .ref b0)] [] := by
  obtain ⟨fs0, h0⟩ := hI.c0
  refine z_aload_n kd_W_law_622 3 rfl ?_
  refine z_aload_n kd_W_law_623 4 rfl ?_
  refine z_iload kd_W_law_624 0 rfl ?_
  refine z_iconst (v := 1) kd_W_law_626 (by decide) ?_
  refine z_iadd kd_W_law_627 ?_
  refine z_topi (nI_add (5 * q) 1) ?_
  refine z_sld kd_W_law_628 (show vp_in (nI ((5 * q) + 1)) L from vp_in_nI (by omega) (by omega)) ?_
  refine z_jlong (As := [_]) kd_W_law_629 (kg_W_94 _) h0 kc_C (j_level ht0 ht1 ht2 ht3 hI _) rfl rfl (Nat.le_of_ble_eq_true rfl) ⟨Nat.le_of_ble_eq_true rfl, Nat.le_of_ble_eq_true rfl⟩ ⟨Nat.le_of_succ_le hk, Nat.le_trans (Nat.le_add_right n 6) hn⟩ ?_
  rintro v1 σ1 ⟨fs1, h54⟩ hm
  refine z_aload_n kd_W_law_632 2 rfl ?_
  refine z_aload_n kd_W_law_633 4 rfl ?_
  refine z_iload kd_W_law_634 0 rfl ?_
  refine z_iconst (v := 1) kd_W_law_636 (by decide) ?_
  refine z_iadd kd_W_law_637 ?_
  refine z_topi (nI_add (5 * q) 1) ?_
  refine z_sld kd_W_law_638 (show vp_in (nI ((5 * q) + 1)) L from vp_in_nI (by omega) (by omega)) ?_
  refine z_callV (a := 54) (As := [_]) kd_W_law_639 (kg_W_97 _) h54 kc_M hm rfl rfl (Nat.le_of_ble_eq_true rfl) ⟨Nat.le_of_ble_eq_true rfl, Nat.le_of_ble_eq_true rfl⟩ ⟨Nat.le_of_succ_le hk, Nat.le_trans (Nat.le_add_right n 6) hn⟩ ?_
  rintro _ _ σ2 ⟨hv2, rfl, hI2, h742⟩
  cases hv2
  refine z_eq (st' := [.long v1, .long v1]) rfl rfl rfl rfl ?_
  refine z_lcmp kd_W_law_642 ?_
  refine z_if_eq (tgt := 892) kd_W_law_643 (by decide) (fun c643 => ?_) (fun c643 => ?_)
  · exact lw_next (ih k n _ σ2 (Nat.le_succ k) (Nat.le_add_right n 6) hI2 ⟨_, h742.trans h74⟩)
  · exact absurd ((lg_cmp_0 _ _).mpr rfl) c643
set_option maxHeartbeats 4000000 in
set_option maxRecDepth 100000 in
theorem lc_17 {l : Launch} {D : va_G} {tys : List (ClassId × FieldType)} {nm : String} {b b0 L q : Nat} {xs : Nat → Int32} {k n N : Nat} {σ : Nat → Option va_E} {cI cJ cZ cA cP : ClassId} (ht0 : tys[0]? = some (cI, .int)) (ht1 : tys[1]? = some (cJ, .long)) (ht2 : tys[2]? = some (cZ, .boolean)) (ht3 : tys[3]? = some (cA, .array .long)) (ht4 : tys[4]? = some (cP, .object "TreeCounts$Parts")) (hL : L ≤ 2560) (hq5 : 5 * q + 5 ≤ L) (hk : k + 1 ≤ 601024) (hn : n + 6 ≤ 7293034) (hI : LV b cI cJ cA cP cZ q σ) {g74 : Nat → Int64} (h74 : σ 74 = some (.inl (cJ, 1, .inr (.inl g74)))) (ih : ∀ (k' n' N' : Nat) (σ' : Nat → Option va_E), k' ≤ k + 1 → n' ≤ n + 6 → LV b cI cJ cA cP cZ (q + 1) σ' → (∃ g, σ' 74 = some (.inl (cJ, 1, .inr (.inl g)))) → Z l D kCl tys (kh_C_init :: zT) kNw "TreeCountsLaw" nm code 8 ret room_1 b (zLFi b0 L b xs) k' n' N' (σ') 23 [(4, .int (nI (5 * (q + 1)))), (3, .ref (b + 74)), (2, .ref (b + 54)), (1, .ref (b + 0)), (0, .ref b0)] []) : Z l D kCl tys (kh_C_init :: zT) kNw "TreeCountsLaw" nm code 8 ret room_1 b (zLFi b0 L b xs) k n N (σ) 648 [(4, .int (nI (5 * q))), (3, .ref (b + 74)), (2, .ref (b + 54)), (1, .ref (b + 0)), (0, .ref b0)] [] := by
  obtain ⟨fs0, h0⟩ := hI.c0
  refine z_aload_n kd_W_law_648 3 rfl ?_
  refine z_aload_n kd_W_law_649 4 rfl ?_
  refine z_iload kd_W_law_650 0 rfl ?_
  refine z_iconst (v := 1) kd_W_law_652 (by decide) ?_
  refine z_iadd kd_W_law_653 ?_
  refine z_topi (nI_add (5 * q) 1) ?_
  refine z_sld kd_W_law_654 (show vp_in (nI ((5 * q) + 1)) L from vp_in_nI (by omega) (by omega)) ?_
  refine z_jlong (As := [_]) kd_W_law_655 (kg_W_98 _) h0 kc_C (j_settle ht0 ht1 ht2 ht3 hI (by omega) _) rfl rfl (Nat.le_of_ble_eq_true rfl) ⟨Nat.le_of_ble_eq_true rfl, Nat.le_of_ble_eq_true rfl⟩ ⟨Nat.le_of_succ_le hk, Nat.le_trans (Nat.le_add_right n 6) hn⟩ ?_
  rintro v1 σ1 ⟨fs1, h54⟩ hm
  refine z_aload_n kd_W_law_658 2 rfl ?_
  refine z_aload_n kd_W_law_659 4 rfl ?_
  refine z_iload kd_W_law_660 0 rfl ?_
  refine z_iconst (v := 1) kd_W_law_662 (by decide) ?_
  refine z_iadd kd_W_law_663 ?_
  refine z_topi (nI_add (5 * q) 1) ?_
  refine z_sld kd_W_law_664 (show vp_in (nI ((5 * q) + 1)) L from vp_in_nI (by omega) (by omega)) ?_
  refine z_callV (a := 54) (As := [_]) kd_W_law_665 (kg_W_101 _) h54 kc_M hm rfl rfl (Nat.le_of_ble_eq_true rfl) ⟨Nat.le_of_ble_eq_true rfl, Nat.le_of_ble_eq_true rfl⟩ ⟨Nat.le_of_succ_le hk, Nat.le_trans (Nat.le_add_right n 6) hn⟩ ?_
  rintro _ _ σ2 ⟨hv2, rfl, hI2, h742⟩
  cases hv2
  refine z_eq (st' := [.long v1, .long v1]) rfl rfl rfl rfl ?_
  refine z_lcmp kd_W_law_668 ?_
  refine z_if_eq (tgt := 892) kd_W_law_669 (by decide) (fun c669 => ?_) (fun c669 => ?_)
  · exact lw_next (ih k n _ σ2 (Nat.le_succ k) (Nat.le_add_right n 6) hI2 ⟨_, h742.trans h74⟩)
  · exact absurd ((lg_cmp_0 _ _).mpr rfl) c669
set_option maxHeartbeats 4000000 in
set_option maxRecDepth 100000 in
theorem lc_18 {l : Launch} {D : va_G} {tys : List (ClassId × FieldType)} {nm : String} {b b0 L q : Nat} {xs : Nat → Int32} {k n N : Nat} {σ : Nat → Option va_E} {cI cJ cZ cA cP : ClassId} (ht0 : tys[0]? = some (cI, .int)) (ht1 : tys[1]? = some (cJ, .long)) (ht2 : tys[2]? = some (cZ, .boolean)) (ht3 : tys[3]? = some (cA, .array .long)) (ht4 : tys[4]? = some (cP, .object "TreeCounts$Parts")) (hL : L ≤ 2560) (hq5 : 5 * q + 5 ≤ L) (hk : k + 1 ≤ 601024) (hn : n + 6 ≤ 7293034) (hI : LV b cI cJ cA cP cZ q σ) {g74 : Nat → Int64} (h74 : σ 74 = some (.inl (cJ, 1, .inr (.inl g74)))) (ih : ∀ (k' n' N' : Nat) (σ' : Nat → Option va_E), k' ≤ k + 1 → n' ≤ n + 6 → LV b cI cJ cA cP cZ (q + 1) σ' → (∃ g, σ' 74 = some (.inl (cJ, 1, .inr (.inl g)))) → Z l D kCl tys (kh_C_init :: zT) kNw "TreeCountsLaw" nm code 8 ret room_1 b (zLFi b0 L b xs) k' n' N' (σ') 23 [(4, .int (nI (5 * (q + 1)))), (3, .ref (b + 74)), (2, .ref (b + 54)), (1, .ref (b + 0)), (0, .ref b0)] []) : Z l D kCl tys (kh_C_init :: zT) kNw "TreeCountsLaw" nm code 8 ret room_1 b (zLFi b0 L b xs) k n N (σ) 674 [(4, .int (nI (5 * q))), (3, .ref (b + 74)), (2, .ref (b + 54)), (1, .ref (b + 0)), (0, .ref b0)] [] := by
  obtain ⟨fs0, h0⟩ := hI.c0
  refine z_aload_n kd_W_law_674 3 rfl ?_
  refine z_aload_n kd_W_law_675 4 rfl ?_
  refine z_iload kd_W_law_676 0 rfl ?_
  refine z_iconst (v := 1) kd_W_law_678 (by decide) ?_
  refine z_iadd kd_W_law_679 ?_
  refine z_topi (nI_add (5 * q) 1) ?_
  refine z_sld kd_W_law_680 (show vp_in (nI ((5 * q) + 1)) L from vp_in_nI (by omega) (by omega)) ?_
  refine z_jlong (As := [_]) kd_W_law_681 (kg_W_102 _) h0 kc_C (j_fired ht0 ht1 ht2 ht3 hI _) rfl rfl (Nat.le_of_ble_eq_true rfl) ⟨Nat.le_of_ble_eq_true rfl, Nat.le_of_ble_eq_true rfl⟩ ⟨Nat.le_of_succ_le hk, Nat.le_trans (Nat.le_add_right n 6) hn⟩ ?_
  rintro v1 σ1 ⟨fs1, h54⟩ hm
  refine z_aload_n kd_W_law_684 2 rfl ?_
  refine z_aload_n kd_W_law_685 4 rfl ?_
  refine z_iload kd_W_law_686 0 rfl ?_
  refine z_iconst (v := 1) kd_W_law_688 (by decide) ?_
  refine z_iadd kd_W_law_689 ?_
  refine z_topi (nI_add (5 * q) 1) ?_
  refine z_sld kd_W_law_690 (show vp_in (nI ((5 * q) + 1)) L from vp_in_nI (by omega) (by omega)) ?_
  refine z_callV (a := 54) (As := [_]) kd_W_law_691 (kg_W_105 _) h54 kc_M hm rfl rfl (Nat.le_of_ble_eq_true rfl) ⟨Nat.le_of_ble_eq_true rfl, Nat.le_of_ble_eq_true rfl⟩ ⟨Nat.le_of_succ_le hk, Nat.le_trans (Nat.le_add_right n 6) hn⟩ ?_
  rintro _ _ σ2 ⟨hv2, rfl, hI2, h742⟩
  cases hv2
  refine z_eq (st' := [.long v1, .long v1]) rfl rfl rfl rfl ?_
  refine z_lcmp kd_W_law_694 ?_
  refine z_if_eq (tgt := 892) kd_W_law_695 (by decide) (fun c695 => ?_) (fun c695 => ?_)
  · exact lw_next (ih k n _ σ2 (Nat.le_succ k) (Nat.le_add_right n 6) hI2 ⟨_, h742.trans h74⟩)
  · exact absurd ((lg_cmp_0 _ _).mpr rfl) c695
set_option maxHeartbeats 4000000 in
set_option maxRecDepth 100000 in
theorem lc_19 {l : Launch} {D : va_G} {tys : List (ClassId × FieldType)} {nm : String} {b b0 L q : Nat} {xs : Nat → Int32} {k n N : Nat} {σ : Nat → Option va_E} {cI cJ cZ cA cP : ClassId} (ht0 : tys[0]? = some (cI, .int)) (ht1 : tys[1]? = some (cJ, .long)) (ht2 : tys[2]? = some (cZ, .boolean)) (ht3 : tys[3]? = some (cA, .array .long)) (ht4 : tys[4]? = some (cP, .object "TreeCounts$Parts")) (hL : L ≤ 2560) (hq5 : 5 * q + 5 ≤ L) (hk : k + 1 ≤ 601024) (hn : n + 6 ≤ 7293034) (hI : LV b cI cJ cA cP cZ q σ) {g74 : Nat → Int64} (h74 : σ 74 = some (.inl (cJ, 1, .inr (.inl g74)))) (ih : ∀ (k' n' N' : Nat) (σ' : Nat → Option va_E), k' ≤ k + 1 → n' ≤ n + 6 → LV b cI cJ cA cP cZ (q + 1) σ' → (∃ g, σ' 74 = some (.inl (cJ, 1, .inr (.inl g)))) → Z l D kCl tys (kh_C_init :: zT) kNw "TreeCountsLaw" nm code 8 ret room_1 b (zLFi b0 L b xs) k' n' N' (σ') 23 [(4, .int (nI (5 * (q + 1)))), (3, .ref (b + 74)), (2, .ref (b + 54)), (1, .ref (b + 0)), (0, .ref b0)] []) : Z l D kCl tys (kh_C_init :: zT) kNw "TreeCountsLaw" nm code 8 ret room_1 b (zLFi b0 L b xs) k n N (σ) 700 [(4, .int (nI (5 * q))), (3, .ref (b + 74)), (2, .ref (b + 54)), (1, .ref (b + 0)), (0, .ref b0)] [] := by
  obtain ⟨fs0, h0⟩ := hI.c0
  refine z_aload_n kd_W_law_700 3 rfl ?_
  refine z_aload_n kd_W_law_701 4 rfl ?_
  refine z_iload kd_W_law_702 0 rfl ?_
  refine z_iconst (v := 1) kd_W_law_704 (by decide) ?_
  refine z_iadd kd_W_law_705 ?_
  refine z_topi (nI_add (5 * q) 1) ?_
  refine z_sld kd_W_law_706 (show vp_in (nI ((5 * q) + 1)) L from vp_in_nI (by omega) (by omega)) ?_
  refine z_jint (As := [_]) kd_W_law_707 (kg_W_106 _) h0 kc_C (j_recurrent ht0 ht1 ht2 ht3 hI (by omega) _) rfl rfl (Nat.le_of_ble_eq_true rfl) ⟨Nat.le_of_ble_eq_true rfl, Nat.le_of_ble_eq_true rfl⟩ ⟨Nat.le_of_succ_le hk, Nat.le_trans (Nat.le_add_right n 6) hn⟩ ?_
  rintro v1 σ1 ⟨fs1, h54⟩ hm
  refine z_aload_n kd_W_law_710 2 rfl ?_
  refine z_aload_n kd_W_law_711 4 rfl ?_
  refine z_iload kd_W_law_712 0 rfl ?_
  refine z_iconst (v := 1) kd_W_law_714 (by decide) ?_
  refine z_iadd kd_W_law_715 ?_
  refine z_topi (nI_add (5 * q) 1) ?_
  refine z_sld kd_W_law_716 (show vp_in (nI ((5 * q) + 1)) L from vp_in_nI (by omega) (by omega)) ?_
  refine z_callV (a := 54) (As := [_]) kd_W_law_717 (kg_W_110 _) h54 kc_M hm rfl rfl (Nat.le_of_ble_eq_true rfl) ⟨Nat.le_of_ble_eq_true rfl, Nat.le_of_ble_eq_true rfl⟩ ⟨Nat.le_of_succ_le hk, Nat.le_trans (Nat.le_add_right n 6) hn⟩ ?_
  rintro _ _ σ2 ⟨hv2, rfl, hI2, h742⟩
  cases hv2
  refine z_eq (st' := [.int v1, .int v1]) rfl rfl rfl rfl ?_
  refine z_icmp_eq (tgt := 892) kd_W_law_720 (by decide) (fun c720 => ?_) (fun c720 => ?_)
  · exact lw_next (ih k n _ σ2 (Nat.le_succ k) (Nat.le_add_right n 6) hI2 ⟨_, h742.trans h74⟩)
  · exact absurd rfl c720
set_option maxHeartbeats 4000000 in
set_option maxRecDepth 100000 in
theorem lc_21 {l : Launch} {D : va_G} {tys : List (ClassId × FieldType)} {nm : String} {b b0 L q : Nat} {xs : Nat → Int32} {k n N : Nat} {σ : Nat → Option va_E} {cI cJ cZ cA cP : ClassId} (ht0 : tys[0]? = some (cI, .int)) (ht1 : tys[1]? = some (cJ, .long)) (ht2 : tys[2]? = some (cZ, .boolean)) (ht3 : tys[3]? = some (cA, .array .long)) (ht4 : tys[4]? = some (cP, .object "TreeCounts$Parts")) (hL : L ≤ 2560) (hq5 : 5 * q + 5 ≤ L) (hk : k + 1 ≤ 601024) (hn : n + 6 ≤ 7293034) (hI : LV b cI cJ cA cP cZ q σ) {g74 : Nat → Int64} (h74 : σ 74 = some (.inl (cJ, 1, .inr (.inl g74)))) (ih : ∀ (k' n' N' : Nat) (σ' : Nat → Option va_E), k' ≤ k + 1 → n' ≤ n + 6 → LV b cI cJ cA cP cZ (q + 1) σ' → (∃ g, σ' 74 = some (.inl (cJ, 1, .inr (.inl g)))) → Z l D kCl tys (kh_C_init :: zT) kNw "TreeCountsLaw" nm code 8 ret room_1 b (zLFi b0 L b xs) k' n' N' (σ') 23 [(4, .int (nI (5 * (q + 1)))), (3, .ref (b + 74)), (2, .ref (b + 54)), (1, .ref (b + 0)), (0, .ref b0)] []) : Z l D kCl tys (kh_C_init :: zT) kNw "TreeCountsLaw" nm code 8 ret room_1 b (zLFi b0 L b xs) k n N (σ) 856 [(4, .int (nI (5 * q))), (3, .ref (b + 74)), (2, .ref (b + 54)), (1, .ref (b + 0)), (0, .ref b0)] [] := by
  obtain ⟨fs0, h0⟩ := hI.c0
  refine z_aload_n kd_W_law_856 3 rfl ?_
  refine z_aload_n kd_W_law_857 4 rfl ?_
  refine z_iload kd_W_law_858 0 rfl ?_
  refine z_iconst (v := 1) kd_W_law_860 (by decide) ?_
  refine z_iadd kd_W_law_861 ?_
  refine z_topi (nI_add (5 * q) 1) ?_
  refine z_sld kd_W_law_862 (show vp_in (nI ((5 * q) + 1)) L from vp_in_nI (by omega) (by omega)) ?_
  refine z_jint (As := [_]) kd_W_law_863 (kg_W_120 _) h0 kc_C (j_told ht0 ht1 ht2 ht3 hI _) rfl rfl (Nat.le_of_ble_eq_true rfl) ⟨Nat.le_of_ble_eq_true rfl, Nat.le_of_ble_eq_true rfl⟩ ⟨Nat.le_of_succ_le hk, Nat.le_trans (Nat.le_add_right n 6) hn⟩ ?_
  rintro v1 σ1 ⟨fs1, h54⟩ hm
  refine z_aload_n kd_W_law_866 2 rfl ?_
  refine z_aload_n kd_W_law_867 4 rfl ?_
  refine z_iload kd_W_law_868 0 rfl ?_
  refine z_iconst (v := 1) kd_W_law_870 (by decide) ?_
  refine z_iadd kd_W_law_871 ?_
  refine z_topi (nI_add (5 * q) 1) ?_
  refine z_sld kd_W_law_872 (show vp_in (nI ((5 * q) + 1)) L from vp_in_nI (by omega) (by omega)) ?_
  refine z_callV (a := 54) (As := [_]) kd_W_law_873 (kg_W_123 _) h54 kc_M hm rfl rfl (Nat.le_of_ble_eq_true rfl) ⟨Nat.le_of_ble_eq_true rfl, Nat.le_of_ble_eq_true rfl⟩ ⟨Nat.le_of_succ_le hk, Nat.le_trans (Nat.le_add_right n 6) hn⟩ ?_
  rintro _ _ σ2 ⟨hv2, rfl, hI2, h742⟩
  cases hv2
  refine z_eq (st' := [.int v1, .int v1]) rfl rfl rfl rfl ?_
  refine z_icmp_eq (tgt := 892) kd_W_law_876 (by decide) (fun c876 => ?_) (fun c876 => ?_)
  · exact lw_next (ih k n _ σ2 (Nat.le_succ k) (Nat.le_add_right n 6) hI2 ⟨_, h742.trans h74⟩)
  · exact absurd rfl c876
set_option maxHeartbeats 4000000 in
set_option maxRecDepth 100000 in
theorem lc_22 {l : Launch} {D : va_G} {tys : List (ClassId × FieldType)} {nm : String} {b b0 L q : Nat} {xs : Nat → Int32} {k n N : Nat} {σ : Nat → Option va_E} {cI cJ cZ cA cP : ClassId} (ht0 : tys[0]? = some (cI, .int)) (ht1 : tys[1]? = some (cJ, .long)) (ht2 : tys[2]? = some (cZ, .boolean)) (ht3 : tys[3]? = some (cA, .array .long)) (ht4 : tys[4]? = some (cP, .object "TreeCounts$Parts")) (hL : L ≤ 2560) (hq5 : 5 * q + 5 ≤ L) (hk : k + 1 ≤ 601024) (hn : n + 6 ≤ 7293034) (hI : LV b cI cJ cA cP cZ q σ) {g74 : Nat → Int64} (h74 : σ 74 = some (.inl (cJ, 1, .inr (.inl g74)))) (ih : ∀ (k' n' N' : Nat) (σ' : Nat → Option va_E), k' ≤ k + 1 → n' ≤ n + 6 → LV b cI cJ cA cP cZ (q + 1) σ' → (∃ g, σ' 74 = some (.inl (cJ, 1, .inr (.inl g)))) → Z l D kCl tys (kh_C_init :: zT) kNw "TreeCountsLaw" nm code 8 ret room_1 b (zLFi b0 L b xs) k' n' N' (σ') 23 [(4, .int (nI (5 * (q + 1)))), (3, .ref (b + 74)), (2, .ref (b + 54)), (1, .ref (b + 0)), (0, .ref b0)] []) : Z l D kCl tys (kh_C_init :: zT) kNw "TreeCountsLaw" nm code 8 ret room_1 b (zLFi b0 L b xs) k n N (σ) 881 [(4, .int (nI (5 * q))), (3, .ref (b + 74)), (2, .ref (b + 54)), (1, .ref (b + 0)), (0, .ref b0)] [] := by
  obtain ⟨fs0, h0⟩ := hI.c0
  refine z_aload_n kd_W_law_881 3 rfl ?_
  refine z_jvoid (As := []) kd_W_law_882 (kg_W_124 _) h0 kc_C (j_clear ht0 ht1 ht2 ht3 hI) rfl rfl (Nat.le_of_ble_eq_true rfl) ⟨Nat.le_of_ble_eq_true rfl, Nat.le_of_ble_eq_true rfl⟩ ⟨Nat.le_of_succ_le hk, Nat.le_trans (Nat.le_add_right n 6) hn⟩ ?_
  rintro σ1 ⟨fs1, h54⟩ hm
  refine z_aload_n kd_W_law_885 2 rfl ?_
  refine z_callV (a := 54) (As := []) kd_W_law_886 (kg_W_127 _) h54 kc_M hm rfl rfl (Nat.le_of_ble_eq_true rfl) ⟨Nat.le_of_ble_eq_true rfl, Nat.le_of_ble_eq_true rfl⟩ ⟨Nat.le_of_succ_le hk, Nat.le_trans (Nat.le_add_right n 6) hn⟩ ?_
  rintro _ _ σ2 ⟨hv2, rfl, hI2, h742⟩
  cases hv2
  refine z_eq (st' := []) rfl rfl rfl rfl ?_
  refine z_goto (tgt := 892) kd_W_law_889 (by decide) ?_
  exact lw_next (ih k n _ σ2 (Nat.le_succ k) (Nat.le_add_right n 6) hI2 ⟨_, h742.trans h74⟩)
