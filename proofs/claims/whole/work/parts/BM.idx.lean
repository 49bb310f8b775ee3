/-- the allowed ones, numbered -/
def rkN (al : Nat → Bool) : Nat → Nat
  | 0 => 0
  | n + 1 => rkN al n + (if al n = true then 1 else 0)
def enN (al : Nat → Bool) : Nat → Nat → Nat
  | 0, _ => 0
  | n + 1, p => if p < rkN al n then enN al n p else n
theorem rkN_s (al : Nat → Bool) (n : Nat) : rkN al (n + 1) = rkN al n + (if al n = true then 1 else 0) := rfl
theorem rkN_le (al : Nat → Bool) : ∀ n, rkN al n ≤ n := by
  intro n
  induction n with
  | zero => exact Nat.le_refl _
  | succ n ih => rw [rkN_s]; split <;> omega
theorem rkN_mono (al : Nat → Bool) : ∀ d n, rkN al n ≤ rkN al (n + d) := by
  intro d
  induction d with
  | zero => intro n; exact Nat.le_refl _
  | succ d ih => intro n; have := ih n; rw [← Nat.add_assoc, rkN_s]; omega
theorem rkN_lt {al : Nat → Bool} {u v : Nat} (h : u < v) (ha : al u = true) : rkN al u < rkN al v := by
  have e := rkN_mono al (v - (u + 1)) (u + 1)
  rw [show u + 1 + (v - (u + 1)) = v by omega, rkN_s, if_pos ha] at e
  omega
theorem enN_ok {al : Nat → Bool} : ∀ n p, p < rkN al n → enN al n p < n ∧ al (enN al n p) = true ∧ rkN al (enN al n p) = p := by
  intro n
  induction n with
  | zero => intro p hp; unfold rkN at hp; omega
  | succ n ih =>
    intro p hp
    unfold enN
    by_cases c : p < rkN al n
    · rw [if_pos c]
      obtain ⟨a, b, d⟩ := ih p c
      exact ⟨by omega, b, d⟩
    · rw [if_neg c]
      rw [rkN_s] at hp
      by_cases t : al n = true
      · rw [if_pos t] at hp; exact ⟨by omega, t, by omega⟩
      · rw [if_neg t] at hp; omega
theorem rkN_inj {al : Nat → Bool} {u v : Nat} (hu : al u = true) (hv : al v = true) (h : rkN al u = rkN al v) : u = v := by
  rcases Nat.lt_trichotomy u v with q | q | q
  · have := rkN_lt q hu; omega
  · exact q
  · have := rkN_lt q hv; omega
theorem enN_rk {al : Nat → Bool} {n v : Nat} (hv : v < n) (ha : al v = true) : rkN al v < rkN al n ∧ enN al n (rkN al v) = v := by
  have h1 := rkN_lt hv ha
  obtain ⟨a, b, c⟩ := enN_ok n (rkN al v) h1
  exact ⟨h1, rkN_inj b ha c⟩
/-- rows and columns struck -/
def strS (al : Nat → Bool) (M : Nat → Nat → Int64) : Nat → Nat → Int64 := fun p q => if al p = true ∧ al q = true then M p q else if p = q then 1 else 0
theorem rkN_all {al : Nat → Bool} : ∀ n, (∀ v, v < n → al v = true) → rkN al n = n ∧ ∀ p, p < n → enN al n p = p := by
  intro n h
  have r : ∀ m, m ≤ n → rkN al m = m := by
    intro m
    induction m with
    | zero => intro _; rfl
    | succ m ih => intro hm; rw [rkN_s, ih (by omega), if_pos (h m (by omega))]
  refine ⟨r n (Nat.le_refl _), fun p hp => ?_⟩
  have := (enN_rk hp (h p hp)).2
  rw [r p (by omega)] at this
  exact this
theorem rkN_sk {al : Nat → Bool} {s : Nat} (hs : al s = false) : ∀ v, rkN (fun p => al (mSk s p)) v = rkN al (if v ≤ s then v else v + 1) := by
  intro v
  induction v with
  | zero => rw [if_pos (Nat.zero_le _)]; rfl
  | succ v ih =>
    rw [rkN_s, ih]
    by_cases c : v + 1 ≤ s
    · rw [if_pos c, if_pos (by omega), rkN_s]
      have : mSk s v = v := by unfold mSk; rw [if_pos (by omega)]
      rw [this]
    · rw [if_neg c]
      have hm : mSk s v = v + 1 := by unfold mSk; rw [if_neg (by omega)]
      rw [hm]
      by_cases d : v ≤ s
      · obtain rfl : v = s := by omega
        rw [if_pos d, rkN_s, rkN_s, hs]; simp
      · rw [if_neg d]; simp [rkN_s]
theorem rkN_sk2 {al : Nat → Bool} {s : Nat} (hs : al s = false) (v : Nat) : rkN al (mSk s v) = rkN (fun p => al (mSk s p)) v := by
  rw [rkN_sk hs]
  unfold mSk
  by_cases c : v < s
  · rw [if_pos c, if_pos (by omega)]
  · rw [if_neg c]
    by_cases d : v ≤ s
    · obtain rfl : v = s := by omega
      rw [if_pos d, rkN_s, hs]; simp
    · rw [if_neg d]
theorem mDet_strS : ∀ (n : Nat) (al : Nat → Bool) (M : Nat → Nat → Int64), mDet n (strS al M) = mDet (rkN al n) (fun p q => M (enN al n p) (enN al n q)) := by
  intro n
  induction n with
  | zero => intro al M; rfl
  | succ n ih =>
    intro al M
    by_cases hall : ∀ v, v < n + 1 → al v = true
    · obtain ⟨e1, e2⟩ := rkN_all (n + 1) hall
      rw [e1]
      refine mDet_congr _ _ _ (fun p q hp hq => ?_)
      rw [e2 p hp, e2 q hq]
      unfold strS
      rw [if_pos ⟨hall p hp, hall q hq⟩]
    · obtain ⟨s, hs, hf⟩ : ∃ s, s < n + 1 ∧ al s = false := by
        false_or_by_contra
        rename_i hc
        exact hall (fun v hv => by
          cases q : al v with
          | true => rfl
          | false => exact absurd ⟨v, hv, q⟩ hc)
      rw [mDet_unit n s s _ hs hs (fun q _ hq => by unfold strS; rw [if_neg (by simp [hf]), if_neg (fun e => hq e.symm)])]
      have d1 : strS al M s s = 1 := by unfold strS; rw [if_neg (by simp [hf]), if_pos rfl]
      have d2 : mDet n (fun p q => strS al M (mSk s p) (mSk s q)) = mDet n (strS (fun p => al (mSk s p)) (fun p q => M (mSk s p) (mSk s q))) := by
        refine mDet_congr _ _ _ (fun p q _ _ => ?_)
        unfold strS
        have : (mSk s p = mSk s q) ↔ (p = q) := by
          unfold mSk
          constructor
          · intro h; split at h <;> split at h <;> omega
          · intro h; rw [h]
        simp only [this]
      rw [d1, d2, ih, mSg_add, mSg_sq]
      have r1 : rkN (fun p => al (mSk s p)) n = rkN al (n + 1) := by
        rw [rkN_sk hf]
        by_cases c : n ≤ s
        · obtain rfl : n = s := by omega
          rw [if_pos c, rkN_s, hf]; simp
        · rw [if_neg c]
      rw [r1]
      have key : ∀ p, p < rkN al (n + 1) → mSk s (enN (fun p => al (mSk s p)) n p) = enN al (n + 1) p := by
        intro p hp
        obtain ⟨a1, a2, a3⟩ := enN_ok (al := fun p => al (mSk s p)) n p (by rw [r1]; exact hp)
        obtain ⟨b1, b2, b3⟩ := enN_ok (al := al) (n + 1) p hp
        refine rkN_inj a2 b2 ?_
        rw [b3, rkN_sk2 hf, a3]
      have : mDet (rkN al (n + 1)) (fun p q => (fun p q => M (mSk s p) (mSk s q)) (enN (fun p => al (mSk s p)) n p) (enN (fun p => al (mSk s p)) n q)) = mDet (rkN al (n + 1)) (fun p q => M (enN al (n + 1) p) (enN al (n + 1) q)) :=
        mDet_congr _ _ _ (fun p q hp hq => by dsimp only; rw [key p hp, key q hq])
      rw [this]; grind
