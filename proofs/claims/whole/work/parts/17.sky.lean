/-! ===== ARGUMENTS AND SKIES ===== -/
theorem rl_b00 {A B : Prop} : (((0 : Int32) = 0 → A) ∧ (¬ (0 : Int32) = 0 → B)) ↔ A := ⟨fun h => h.1 rfl, fun h => ⟨fun _ => h, fun q => absurd rfl q⟩⟩
theorem rl_b01 {A B : Prop} : (((1 : Int32) = 0 → A) ∧ (¬ (1 : Int32) = 0 → B)) ↔ B := ⟨fun h => h.2 (by decide), fun h => ⟨fun q => absurd q (by decide), fun _ => h⟩⟩
theorem rl_b10 {A B : Prop} : ((¬ (0 : Int32) = 0 → B) ∧ ((0 : Int32) = 0 → A)) ↔ A := ⟨fun h => h.2 rfl, fun h => ⟨fun q => absurd rfl q, fun _ => h⟩⟩
theorem rl_b11 {A B : Prop} : ((¬ (1 : Int32) = 0 → B) ∧ ((1 : Int32) = 0 → A)) ↔ B := ⟨fun h => h.1 (by decide), fun h => ⟨fun _ => h, fun q => absurd q (by decide)⟩⟩
theorem rl_eT {c A B : Prop} (h : c) : ((c → A) ∧ (¬ c → B)) ↔ A := ⟨fun q => q.1 h, fun q => ⟨fun _ => q, fun n => absurd h n⟩⟩
theorem rl_eF {c A B : Prop} (h : ¬ c) : ((c → A) ∧ (¬ c → B)) ↔ B := ⟨fun q => q.2 h, fun q => ⟨fun n => absurd n h, fun _ => q⟩⟩
theorem rl_fT {c A B : Prop} (h : c) : ((¬ c → B) ∧ (c → A)) ↔ A := ⟨fun q => q.2 h, fun q => ⟨fun n => absurd h n, fun _ => q⟩⟩
theorem rl_fF {c A B : Prop} (h : ¬ c) : ((¬ c → B) ∧ (c → A)) ↔ B := ⟨fun q => q.1 h, fun q => ⟨fun _ => q, fun n => absurd n h⟩⟩
theorem rl_le64 (x y : Int32) : x.toInt64 ≤ y.toInt64 ↔ x ≤ y := by
  rw [Int64.le_iff_toInt_le, Int32.le_iff_toInt_le, Int32.toInt_toInt64, Int32.toInt_toInt64]
theorem rl_lt_not {x y : Int32} : x < y ↔ ¬ y ≤ x := by
  rw [Int32.lt_iff_toInt_lt, Int32.le_iff_toInt_le]
  omega
theorem rl_of {x : Int32} {a b : Nat} (hb : b < 2 ^ 31) (h1 : nI a ≤ x) (h2 : x ≤ nI b) (ha : a < 2 ^ 31) : ∃ j : Nat, a ≤ j ∧ j ≤ b ∧ x = nI j := by
  have h0 : ¬ x < 0 := by
    have := nI_toInt ha
    rw [Int32.le_iff_toInt_le, this] at h1
    rw [Int32.lt_iff_toInt_lt]
    have e : (0 : Int32).toInt = 0 := by decide
    omega
  obtain ⟨j, hj, rfl⟩ := nI_of h0
  exact ⟨j, (nI_leI ha hj).mp h1, (nI_leI hj hb).mp h2, rfl⟩
/-- an argument is within its bounds, or not -/
theorem rl_rg (x : Int32) (a b : Nat) (ha : a < 2 ^ 31) (hb : b < 2 ^ 31) : (∃ j : Nat, a ≤ j ∧ j ≤ b ∧ x = nI j) ∨ ((x < nI a ∨ (¬ x < nI a ∧ ¬ x ≤ nI b)) ∧ ¬ (nI a ≤ x ∧ x ≤ nI b)) := by
  by_cases h1 : nI a ≤ x
  · by_cases h2 : x ≤ nI b
    · exact Or.inl (rl_of hb h1 h2 ha)
    · exact Or.inr ⟨Or.inr ⟨fun q => rl_lt_not.mp q h1, h2⟩, fun q => h2 q.2⟩
  · exact Or.inr ⟨Or.inl (rl_lt_not.mpr h1), fun q => h1 q.1⟩
/-- the class's test of bounds -/
theorem rl_cn {x a b : Int32} {A B : Prop} (h : x < a ∨ (¬ x < a ∧ ¬ x ≤ b)) (hA : A) : (x < a → A) ∧ (¬ x < a → ((x ≤ b → B) ∧ (¬ x ≤ b → A))) :=
  ⟨fun _ => hA, fun q => ⟨fun q2 => h.elim (fun q3 => absurd q3 q) (fun q3 => absurd q2 q3.2), fun _ => hA⟩⟩
theorem rl_cy {j a b : Nat} {A B : Prop} (h1 : a ≤ j) (h2 : j ≤ b) (hb : b < 2 ^ 31) (hB : B) : (nI j < nI a → A) ∧ (¬ nI j < nI a → ((nI j ≤ nI b → B) ∧ (¬ nI j ≤ nI b → A))) :=
  ⟨fun q => absurd ((nI_ltI (by omega) (by omega)).mp q) (by omega), fun _ => ⟨fun _ => hB, fun q => absurd ((nI_leI (by omega) hb).mpr h2) q⟩⟩
/-- the model's test of bounds -/
theorem rl_in {x : Int32} {A B : Int64} {a b : Int32} {Q : Int32 → Prop} (hA : A = a.toInt64) (hB : B = b.toInt64) : wp_X9_in x.toInt64 A B Q ↔ Q (if a ≤ x ∧ x ≤ b then 1 else 0) := by
  rw [w_X9_in, hA, hB]
  simp only [rl_le64]
theorem rl_iy {j a b : Nat} {A B : Int64} {Q : Int32 → Prop} (h1 : a ≤ j) (h2 : j ≤ b) (hb : b < 2 ^ 31) (hA : A = (nI a).toInt64) (hB : B = (nI b).toInt64) : wp_X9_in (nI j).toInt64 A B Q ↔ Q 1 := by
  rw [rl_in hA hB, if_pos ⟨(nI_leI (by omega) (by omega)).mpr h1, (nI_leI (by omega) hb).mpr h2⟩]
theorem rl_ino {x : Int32} {a b : Nat} {A B : Int64} {Q : Int32 → Prop} (h : ¬ (nI a ≤ x ∧ x ≤ nI b)) (hA : A = (nI a).toInt64) (hB : B = (nI b).toInt64) : wp_X9_in x.toInt64 A B Q ↔ Q 0 := by
  rw [rl_in hA hB, if_neg h]
/-- a light's number -/
theorem rl_lt (l : Int32) (n : Nat) (hn : n ≤ 9) : (∃ j : Nat, j < n ∧ l = nI j) ∨ (¬ (0 ≤ l ∧ l < nI n) ∧ ¬ ((0 : Int64) ≤ l.toInt64 ∧ l.toInt64 ≤ (nI n - 1).toInt64)) := by
  by_cases h : 0 ≤ l ∧ l < nI n
  · have h0 : ¬ l < 0 := by
      rw [rl_lt_not]
      exact fun q => q h.1
    obtain ⟨j, hj, rfl⟩ := nI_of h0
    exact Or.inl ⟨j, (nI_ltI hj (by omega)).mp h.2, rfl⟩
  · refine Or.inr ⟨h, fun q => h ?_⟩
    have e0 : (0 : Int64) = (0 : Int32).toInt64 := by decide
    rw [e0, rl_le64, rl_le64] at q
    refine ⟨q.1, ?_⟩
    cases n with
    | zero =>
      have := q.2
      have e1 : nI 0 - 1 = -1 := by decide
      rw [e1, Int32.le_iff_toInt_le] at this
      have q1 := q.1
      rw [Int32.le_iff_toInt_le] at q1
      have e2 : (0 : Int32).toInt = 0 := by decide
      have e3 : (-1 : Int32).toInt = -1 := by decide
      omega
    | succ n =>
      have := q.2
      rw [nI_pred, Int32.le_iff_toInt_le, nI_toInt (by omega)] at this
      rw [Int32.lt_iff_toInt_lt, nI_toInt (by omega)]
      omega
theorem rl_nly {v0 : Vl} {r : Ns} {j : Nat} {Q : Int32 → Prop} (hj : j < r.1 7) (h7 : r.1 7 ≤ 9) : wp_X8_isNoLight v0 (encG r) (nI j) Q ↔ Q 0 := by
  rw [w_X8_isNoLight, encG_1, if_pos ⟨nI_pos' (by omega), nI_lt hj (by omega)⟩]
theorem rl_nln {v0 : Vl} {r : Ns} {l : Int32} {Q : Int32 → Prop} (h : ¬ (0 ≤ l ∧ l < nI (r.1 7))) : wp_X8_isNoLight v0 (encG r) l Q ↔ Q 1 := by
  rw [w_X8_isNoLight, encG_1, if_neg h]
theorem rl_ily {w : Vl} {n j : Nat} {Q : Int32 → Prop} (h0 : w.1 0 = nI n) (hj : j < n) (h7 : n ≤ 9) : wp_X9_isLight w (nI j) Q ↔ Q 1 := by
  have e0 : (0 : Int64) = (0 : Int32).toInt64 := by decide
  obtain ⟨m, rfl⟩ : ∃ m, n = m + 1 := ⟨n - 1, by omega⟩
  rw [w_X9_isLight, h0, nI_pred, e0, if_pos]
  rw [rl_le64, rl_le64]
  exact ⟨nI_pos' (by omega), nI_le (by omega) (by omega)⟩
theorem rl_iln {w : Vl} {n : Nat} {l : Int32} {Q : Int32 → Prop} (h0 : w.1 0 = nI n) (h : ¬ ((0 : Int64) ≤ l.toInt64 ∧ l.toInt64 ≤ (nI n - 1).toInt64)) : wp_X9_isLight w l Q ↔ Q 0 := by
  rw [w_X9_isLight, h0, if_neg h]
/-! skies -/
def zsum (f : Nat → Nat) : Nat → Nat
  | 0 => 0
  | n + 1 => zsum f n + f n
theorem zsum_mono (f : Nat → Nat) (a : Nat) : ∀ n, zsum f a ≤ zsum f (a + n)
  | 0 => Nat.le_refl _
  | n + 1 => Nat.le_trans (zsum_mono f a n) (Nat.le_add_right _ _)
theorem zsum_le {f : Nat → Nat} {m : Nat} : ∀ n, (∀ i, i < n → f i ≤ m) → zsum f n ≤ m * n
  | 0, _ => Nat.zero_le _
  | n + 1, h => by
    have h1 := zsum_le (f := f) (m := m) n (fun i hi => h i (by omega))
    have h2 := h n (by omega)
    show zsum f n + f n ≤ m * (n + 1)
    rw [Nat.mul_succ]
    omega
def zskyF (k : Ns) : Nat → Nat → Nat → Nat
  | 0, _, _ => 0
  | n + 1, d, c => if d < k.2 1 c then k.2 0 c else zskyF k n (d - k.2 1 c) (c + 1)
def zsky (k : Ns) (d : Nat) : Nat := zskyF k (k.1 2) d 0
def WfK (k : Ns) : Prop := k.1 2 ≤ 30 ∧ k.1 3 = zsum (k.2 1) (k.1 2) ∧ ∀ c, c < k.1 2 → k.2 0 c ≤ 2 ∧ 1 ≤ k.2 1 c ∧ k.2 1 c ≤ 99
def MK (k : Ns) (w : Vl) : Prop := w.1 10 = nI (k.1 2) ∧ ∀ c, c < k.1 2 → w.2.2.1 11 c = nI (k.2 0 c) ∧ w.2.2.1 12 c = nI (k.2 1 c)
theorem zskyF_le {k : Ns} (hk : WfK k) : ∀ n d c, c + n ≤ k.1 2 → zskyF k n d c ≤ 2
  | 0, _, _, _ => Nat.zero_le _
  | n + 1, d, c, h => by
    unfold zskyF
    split
    · exact (hk.2.2 c (by omega)).1
    · exact zskyF_le hk n _ _ (by omega)
theorem zsky_le {k : Ns} (hk : WfK k) (d : Nat) : zsky k d ≤ 2 := zskyF_le hk _ _ _ (by omega)
theorem zskyF_0 {k : Ns} : ∀ n d c, zsum (k.2 1) (c + n) ≤ d + zsum (k.2 1) c → zskyF k n d c = 0
  | 0, _, _, _ => rfl
  | n + 1, d, c, h => by
    have e1 : c + (n + 1) = c + 1 + n := by omega
    rw [e1] at h
    have e2 := zsum_mono (k.2 1) (c + 1) n
    have e3 : zsum (k.2 1) (c + 1) = zsum (k.2 1) c + k.2 1 c := rfl
    unfold zskyF
    rw [if_neg (by omega)]
    exact zskyF_0 n _ _ (by omega)
theorem q_sky_loop {k : Ns} {Q : Int32 → Prop} (hk : WfK k) : ∀ n d c, c + n = k.1 2 → d < 2 ^ 30 → Q (nI (zskyF k n d c)) → wp_X5_skyOf_c14 (encG k) Q (n + 1) (nI d) (nI c)
  | 0, d, c, e, hd, h => by
    have h30 := hk.1
    unfold wp_X5_skyOf_c14
    simp (disch := omega) only [encG_1, nI_leI]
    exact ⟨fun _ => h, fun q => absurd (by omega) q⟩
  | n + 1, d, c, e, hd, h => by
    have h30 := hk.1
    have hc := hk.2.2 c (by omega)
    unfold wp_X5_skyOf_c14
    simp (disch := omega) only [encG_1, encG_r, w_at, jat_row, nI_leI, forall_eq, nI_1]
    refine ⟨fun q => absurd q (by omega), fun _ => ?_⟩
    unfold zskyF at h
    by_cases c1 : d < k.2 1 c
    · rw [if_pos c1] at h
      exact ⟨fun q => absurd (pk_sneg (by omega) c1) (fun s => rl_lt_not.mp s q), fun _ => h⟩
    · rw [if_neg c1] at h
      rw [pk_sub (by omega)]
      exact ⟨fun _ => q_sky_loop hk n _ _ (by omega) (by omega) h, fun q => absurd (nI_pos' (by omega)) q⟩
theorem q_skyOf {k : Ns} {Q : Int32 → Prop} {d : Nat} (hk : WfK k) (hd : d < 2 ^ 30) (h : Q (nI (zsky k d))) : wp_X5_skyOf (encG k) (nI d) Q := by
  have h3 : k.1 3 ≤ 99 * 30 := by
    rw [hk.2.1]
    exact Nat.le_trans (zsum_le (m := 99) _ (fun i hi => (hk.2.2 i hi).2.2)) (Nat.mul_le_mul_left _ hk.1)
  unfold wp_X5_skyOf
  simp (disch := omega) only [encG_1, nI_ltI]
  refine ⟨fun _ => ⟨k.1 2 + 1, q_sky_loop hk (k.1 2) d 0 (Nat.zero_add _) hd h⟩, fun q => ?_⟩
  have e : zsky k d = 0 := by
    refine zskyF_0 _ _ _ ?_
    rw [Nat.zero_add, ← hk.2.1]
    show k.1 3 ≤ d + 0
    omega
  rw [e] at h
  exact h
theorem m_sky_loop {k : Ns} {w : Vl} {Q : Int32 → Prop} (hk : WfK k) (hm : MK k w) : ∀ n d c, c + n = k.1 2 → d < 2 ^ 30 → Q (nI (zskyF k n d c)) → wp_X9_skyOf_c4 w Q (n + 1) (nI d) (nI c)
  | 0, d, c, e, hd, h => by
    have h30 := hk.1
    unfold wp_X9_skyOf_c4
    simp (disch := omega) only [hm.1, nI_leI]
    exact ⟨fun _ => h, fun q => absurd (by omega) q⟩
  | n + 1, d, c, e, hd, h => by
    have h30 := hk.1
    have hc := hk.2.2 c (by omega)
    have hmc := hm.2 c (by omega)
    unfold wp_X9_skyOf_c4
    simp (disch := omega) only [hm.1, nI_leI, nI_clamp, vp_inN, hmc.1, hmc.2, forall_eq, nI_1]
    refine ⟨fun q => absurd q (by omega), fun _ => ⟨by omega, ?_⟩⟩
    unfold zskyF at h
    by_cases c1 : d < k.2 1 c
    · rw [if_pos c1] at h
      exact ⟨fun q => absurd q (by omega), fun _ => ⟨by omega, h⟩⟩
    · rw [if_neg c1] at h
      rw [pk_sub (by omega)]
      exact ⟨fun _ => ⟨by omega, m_sky_loop hk hm n _ _ (by omega) (by omega) h⟩, fun q => absurd (by omega) q⟩
theorem m_skyOf {k : Ns} {w : Vl} {Q : Int32 → Prop} {d : Nat} (hk : WfK k) (hm : MK k w) (hd : d < 2 ^ 30) (h : Q (nI (zsky k d))) : wp_X9_skyOf w (nI d) Q :=
  ⟨k.1 2 + 1, m_sky_loop hk hm (k.1 2) d 0 (Nat.zero_add _) hd h⟩
theorem m_all_loop {k : Ns} {w : Vl} {Q : Int32 → Prop} (hk : WfK k) (hm : MK k w) (h : Q (nI (k.1 3))) : ∀ n c, c + n = k.1 2 → wp_X9_skyAll_c4 w Q (n + 1) (nI (zsum (k.2 1) c)) (nI c)
  | 0, c, e => by
    have h30 := hk.1
    unfold wp_X9_skyAll_c4
    simp (disch := omega) only [hm.1, nI_leI]
    refine ⟨fun _ => ?_, fun q => absurd (by omega) q⟩
    have e1 : c = k.1 2 := by omega
    rw [e1, ← hk.2.1]
    exact h
  | n + 1, c, e => by
    have h30 := hk.1
    have hmc := hm.2 c (by omega)
    unfold wp_X9_skyAll_c4
    simp (disch := omega) only [hm.1, nI_leI, nI_clamp, vp_inN, hmc.2, forall_eq, nI_add, nI_1]
    refine ⟨fun q => absurd q (by omega), fun _ => ⟨by omega, ?_⟩⟩
    exact m_all_loop hk hm h n (c + 1) (by omega)
theorem m_skyAll {k : Ns} {w : Vl} {Q : Int32 → Prop} (hk : WfK k) (hm : MK k w) (h : Q (nI (k.1 3))) : wp_X9_skyAll w Q :=
  ⟨k.1 2 + 1, m_all_loop hk hm h _ 0 (by omega)⟩
