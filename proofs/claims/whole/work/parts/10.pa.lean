/-! ===== THE PURE LAYER: what the leaves answer ===== -/
theorem vp_in_not {i : Int32} {n : Nat} (hn : n < 2 ^ 31) : vp_in i n ↔ (¬ i < 0 ∧ ¬ Int32.ofNat n ≤ i) := by
  constructor
  · intro h
    obtain ⟨j, hj, rfl⟩ := vp_in_of h hn
    exact ⟨nI_pos (by omega), nI_ge hj hn⟩
  · intro h
    obtain ⟨j, hj, rfl⟩ := nI_of h.1
    exact vp_in_nI (Nat.lt_of_not_le (fun q => h.2 (nI_le q hj))) hn
/-- a row read with a test ahead of it -/
noncomputable def jat (n : Nat) (f : Nat → Int32) (i : Int32) : Int32 := if i < 0 ∨ Int32.ofNat n ≤ i then 0 else f i.toNatClampNeg
/-- a row written with a test ahead of it -/
noncomputable def jput (n : Nat) (f : Nat → Int32) (i x : Int32) : Nat → Int32 := if i < 0 ∨ Int32.ofNat n ≤ i then f else upd f i.toNatClampNeg x
theorem w_at {n : Nat} {f : Nat → Int32} {i : Int32} {Q : Int32 → Prop} (hn : n < 2 ^ 31) : wp_X8_at n f i Q ↔ Q (jat n f i) := by
  unfold wp_X8_at jat
  by_cases h0 : i < 0
  · simp [h0]
  · by_cases h1 : Int32.ofNat n ≤ i
    · simp [h0, h1]
    · have h2 : vp_in i n := (vp_in_not hn).mpr ⟨h0, h1⟩
      simp [h0, h1, h2]
theorem w_put {n : Nat} {f : Nat → Int32} {i x : Int32} {Q : (Nat → Int32) → Prop} (hn : n < 2 ^ 31) : wp_X8_put n f i x Q ↔ Q (jput n f i x) := by
  unfold wp_X8_put jput
  by_cases h0 : i < 0
  · simp [h0]
  · by_cases h1 : Int32.ofNat n ≤ i
    · simp [h0, h1]
    · have h2 : vp_in i n := (vp_in_not hn).mpr ⟨h0, h1⟩
      simp [h0, h1, h2]
theorem jat_nI {n j : Nat} {f : Nat → Int32} (hj : j < n) (hn : n < 2 ^ 31) : jat n f (nI j) = f j := by
  unfold jat
  have h : ¬ (nI j < 0 ∨ Int32.ofNat n ≤ nI j) := not_or.mpr ⟨nI_pos (by omega), nI_ge hj hn⟩
  rw [if_neg h, nI_clamp (by omega)]
theorem jput_nI {n j : Nat} {f : Nat → Int32} {x : Int32} (hj : j < n) (hn : n < 2 ^ 31) : jput n f (nI j) x = upd f j x := by
  unfold jput
  have h : ¬ (nI j < 0 ∨ Int32.ofNat n ≤ nI j) := not_or.mpr ⟨nI_pos (by omega), nI_ge hj hn⟩
  rw [if_neg h, nI_clamp (by omega)]
theorem w_X0_pagesOf {v : Vl} {l : Int32} {Q : Int32 → Prop} : wp_X0_pagesOf v l Q ↔ Q (jat 9 (v.2.2.1 1) l) := by
  unfold wp_X0_pagesOf
  exact w_at (by decide)
theorem w_X0_oilOn {v : Vl} {l d : Int32} {Q : Int32 → Prop} : wp_X0_oilOn v l d Q ↔ Q (jat 360 (v.2.2.1 0) (l * 40 + d)) := by
  unfold wp_X0_oilOn
  exact w_at (by decide)
theorem w_X0_empty {v : Vl} {l : Int32} {Q : Vl → Prop} : wp_X0_empty v l Q ↔ Q (setRA v 1 (jput 9 (v.2.2.1 1) l 0)) := by
  unfold wp_X0_empty
  rw [w_put (by decide)]
  simp
theorem w_X9_in {x a b : Int64} {Q : Int32 → Prop} : wp_X9_in x a b Q ↔ Q (if a ≤ x ∧ x ≤ b then 1 else 0) := by
  unfold wp_X9_in
  have e1 : (x < a) ↔ ¬ (a ≤ x) := by rw [Int64.lt_iff_toInt_lt, Int64.le_iff_toInt_le]; omega
  have e2 : (b < x) ↔ ¬ (x ≤ b) := by rw [Int64.lt_iff_toInt_lt, Int64.le_iff_toInt_le]; omega
  by_cases h1 : a ≤ x
  · by_cases h2 : x ≤ b
    · simp [e1, e2, h1, h2]
    · simp [e1, e2, h1, h2]
  · simp [e1, h1]
theorem w_X8_isNoLight {v0 v9 : Vl} {l : Int32} {Q : Int32 → Prop} : wp_X8_isNoLight v0 v9 l Q ↔ Q (if 0 ≤ l ∧ l < v9.1 7 then 0 else 1) := by
  unfold wp_X8_isNoLight
  have e1 : (l < 0) ↔ ¬ (0 ≤ l) := by rw [Int32.lt_iff_toInt_lt, Int32.le_iff_toInt_le]; omega
  by_cases h1 : 0 ≤ l
  · by_cases h2 : l < v9.1 7
    · simp [e1, h1, h2]
    · simp [e1, h1, h2]
  · simp [e1, h1]
theorem nar01 (c : Prop) (d : Decidable c) : narrow .boolean (.int (if c then 1 else 0)) = .int (if c then 1 else 0) := by
  by_cases h : c
  · rw [if_pos h]; rfl
  · rw [if_neg h]; rfl
theorem w_X9_isLight {v : Vl} {l : Int32} {Q : Int32 → Prop} : wp_X9_isLight v l Q ↔ Q (if (0 : Int64) ≤ l.toInt64 ∧ l.toInt64 ≤ (v.1 0 - 1).toInt64 then 1 else 0) := by
  unfold wp_X9_isLight
  rw [w_X9_in]
  exact ⟨fun h => h.2, fun h => ⟨nar01 _ _, h⟩⟩
