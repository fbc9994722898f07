/-! ===== reef: clause and loop ===== -/
/-- the clause's word is the j-th -/
def isC (b : Nat → Nat) (p m j : Nat) : Prop := isW b (9 + j) p m ∧ ∀ i, i < j → ¬ isW b (9 + i) p m
theorem cl_cases (b : Nat → Nat) (p m : Nat) : (∀ i, i < 6 → ¬ isW b (9 + i) p m) ∨ ∃ j, j < 6 ∧ isC b p m j := by
  by_cases h : ∀ i, i < 6 → ¬ isW b (9 + i) p m
  · exact Or.inl h
  · have h2 : ∃ i, i < 6 ∧ isW b (9 + i) p m := by
      apply Classical.byContradiction
      intro q
      exact h (fun i hi c => q ⟨i, hi, c⟩)
    obtain ⟨j, ⟨h3, h4⟩, h5⟩ := pk_least (fun i => i < 6 ∧ isW b (9 + i) p m) h2
    exact Or.inr ⟨j, h3, h4, fun i hi c => h5 i hi ⟨by omega, c⟩⟩
theorem cd_0 {b : Nat → Nat} {n p : Nat} {v0 v1 : Vl} {K : Int32 → Vl → Vl → Prop} (T : Tx b n) (hp : p ≤ n) (hv : TC b n p v1) (hL : zE isB b n p < n ∧ isL (b (zE isB b n p)) = true) (hj : isC b (zE isB b n p) (zE isL b n (zE isB b n p) - zE isB b n p) 0) (h : ∀ u, TC b n (zE isL b n (zE isB b n p)) u → u.1 3 = nI (zE isB b n p) → wp_X3_readLight v0 u (fun r_43 u_41 u_42 => narrow .boolean (.int r_43) = .int r_43 ∧ K r_43 u_41 u_42)) : wp_X3_readClause v0 v1 K := by
  have g2 := zE_ge isL b n (zE isB b n p)
  have g3 : zE isL b n (zE isB b n p) ≤ n := zE_le (zE_le hp)
  unfold wp_X3_readClause
  refine q_word_s T hp hv hL (fun u hu h3 => ?_)
  rw [rl_b11]
  refine q_isWord T (by omega) g2 g3 hu h3 (fun _ => ?_) (fun g => absurd hj.1 g)
  rw [rl_b01]
  exact h u hu h3
theorem cd_1 {b : Nat → Nat} {n p : Nat} {v0 v1 : Vl} {K : Int32 → Vl → Vl → Prop} (T : Tx b n) (hp : p ≤ n) (hv : TC b n p v1) (hL : zE isB b n p < n ∧ isL (b (zE isB b n p)) = true) (hj : isC b (zE isB b n p) (zE isL b n (zE isB b n p) - zE isB b n p) 1) (h : ∀ u, TC b n (zE isL b n (zE isB b n p)) u → u.1 3 = nI (zE isB b n p) → wp_X3_isFirst v0 u 1 (fun r_13 u_11 u_12 => ((r_13 = 0 → K 0 u_11 u_12) ∧ (¬ r_13 = 0 → wp_X3_readBoat u_11 u_12 (fun r_16 u_14 u_15 => ((r_16 = 0 → K 0 u_14 u_15) ∧ (¬ r_16 = 0 → K 1 u_14 u_15))))))) : wp_X3_readClause v0 v1 K := by
  have g2 := zE_ge isL b n (zE isB b n p)
  have g3 : zE isL b n (zE isB b n p) ≤ n := zE_le (zE_le hp)
  unfold wp_X3_readClause
  refine q_word_s T hp hv hL (fun u hu h3 => ?_)
  rw [rl_b11]
  refine q_isWord T (by omega) g2 g3 hu h3 (fun g => absurd g (hj.2 0 (by omega))) (fun _ => ?_)
  rw [rl_b00]
  refine q_isWord T (by omega) g2 g3 hu h3 (fun _ => ?_) (fun g => absurd hj.1 g)
  rw [rl_b01]
  exact h u hu h3
theorem cd_2 {b : Nat → Nat} {n p : Nat} {v0 v1 : Vl} {K : Int32 → Vl → Vl → Prop} (T : Tx b n) (hp : p ≤ n) (hv : TC b n p v1) (hL : zE isB b n p < n ∧ isL (b (zE isB b n p)) = true) (hj : isC b (zE isB b n p) (zE isL b n (zE isB b n p) - zE isB b n p) 2) (h : ∀ u, TC b n (zE isL b n (zE isB b n p)) u → u.1 3 = nI (zE isB b n p) → wp_X3_isFirst v0 u 2 (fun r_13 u_11 u_12 => ((r_13 = 0 → K 0 u_11 u_12) ∧ (¬ r_13 = 0 → wp_X3_readBarrel u_11 u_12 (fun r_16 u_14 u_15 => ((r_16 = 0 → K 0 u_14 u_15) ∧ (¬ r_16 = 0 → K 1 u_14 u_15))))))) : wp_X3_readClause v0 v1 K := by
  have g2 := zE_ge isL b n (zE isB b n p)
  have g3 : zE isL b n (zE isB b n p) ≤ n := zE_le (zE_le hp)
  unfold wp_X3_readClause
  refine q_word_s T hp hv hL (fun u hu h3 => ?_)
  rw [rl_b11]
  refine q_isWord T (by omega) g2 g3 hu h3 (fun g => absurd g (hj.2 0 (by omega))) (fun _ => ?_)
  rw [rl_b00]
  refine q_isWord T (by omega) g2 g3 hu h3 (fun g => absurd g (hj.2 1 (by omega))) (fun _ => ?_)
  rw [rl_b00]
  refine q_isWord T (by omega) g2 g3 hu h3 (fun _ => ?_) (fun g => absurd hj.1 g)
  rw [rl_b01]
  exact h u hu h3
theorem cd_3 {b : Nat → Nat} {n p : Nat} {v0 v1 : Vl} {K : Int32 → Vl → Vl → Prop} (T : Tx b n) (hp : p ≤ n) (hv : TC b n p v1) (hL : zE isB b n p < n ∧ isL (b (zE isB b n p)) = true) (hj : isC b (zE isB b n p) (zE isL b n (zE isB b n p) - zE isB b n p) 3) (h : ∀ u, TC b n (zE isL b n (zE isB b n p)) u → u.1 3 = nI (zE isB b n p) → wp_X3_isFirst v0 u 4 (fun r_13 u_11 u_12 => ((r_13 = 0 → K 0 u_11 u_12) ∧ (¬ r_13 = 0 → wp_X3_readHens u_11 u_12 (fun r_16 u_14 u_15 => ((r_16 = 0 → K 0 u_14 u_15) ∧ (¬ r_16 = 0 → K 1 u_14 u_15))))))) : wp_X3_readClause v0 v1 K := by
  have g2 := zE_ge isL b n (zE isB b n p)
  have g3 : zE isL b n (zE isB b n p) ≤ n := zE_le (zE_le hp)
  unfold wp_X3_readClause
  refine q_word_s T hp hv hL (fun u hu h3 => ?_)
  rw [rl_b11]
  refine q_isWord T (by omega) g2 g3 hu h3 (fun g => absurd g (hj.2 0 (by omega))) (fun _ => ?_)
  rw [rl_b00]
  refine q_isWord T (by omega) g2 g3 hu h3 (fun g => absurd g (hj.2 1 (by omega))) (fun _ => ?_)
  rw [rl_b00]
  refine q_isWord T (by omega) g2 g3 hu h3 (fun g => absurd g (hj.2 2 (by omega))) (fun _ => ?_)
  rw [rl_b00]
  refine q_isWord T (by omega) g2 g3 hu h3 (fun _ => ?_) (fun g => absurd hj.1 g)
  rw [rl_b01]
  exact h u hu h3
theorem cd_4 {b : Nat → Nat} {n p : Nat} {v0 v1 : Vl} {K : Int32 → Vl → Vl → Prop} (T : Tx b n) (hp : p ≤ n) (hv : TC b n p v1) (hL : zE isB b n p < n ∧ isL (b (zE isB b n p)) = true) (hj : isC b (zE isB b n p) (zE isL b n (zE isB b n p) - zE isB b n p) 4) (h : ∀ u, TC b n (zE isL b n (zE isB b n p)) u → u.1 3 = nI (zE isB b n p) → wp_X3_isFirst v0 u 8 (fun r_13 u_11 u_12 => ((r_13 = 0 → K 0 u_11 u_12) ∧ (¬ r_13 = 0 → wp_X3_readNights u_11 u_12 (fun r_16 u_14 u_15 => ((r_16 = 0 → K 0 u_14 u_15) ∧ (¬ r_16 = 0 → K 1 u_14 u_15))))))) : wp_X3_readClause v0 v1 K := by
  have g2 := zE_ge isL b n (zE isB b n p)
  have g3 : zE isL b n (zE isB b n p) ≤ n := zE_le (zE_le hp)
  unfold wp_X3_readClause
  refine q_word_s T hp hv hL (fun u hu h3 => ?_)
  rw [rl_b11]
  refine q_isWord T (by omega) g2 g3 hu h3 (fun g => absurd g (hj.2 0 (by omega))) (fun _ => ?_)
  rw [rl_b00]
  refine q_isWord T (by omega) g2 g3 hu h3 (fun g => absurd g (hj.2 1 (by omega))) (fun _ => ?_)
  rw [rl_b00]
  refine q_isWord T (by omega) g2 g3 hu h3 (fun g => absurd g (hj.2 2 (by omega))) (fun _ => ?_)
  rw [rl_b00]
  refine q_isWord T (by omega) g2 g3 hu h3 (fun g => absurd g (hj.2 3 (by omega))) (fun _ => ?_)
  rw [rl_b00]
  refine q_isWord T (by omega) g2 g3 hu h3 (fun _ => ?_) (fun g => absurd hj.1 g)
  rw [rl_b01]
  exact h u hu h3
theorem cd_5 {b : Nat → Nat} {n p : Nat} {v0 v1 : Vl} {K : Int32 → Vl → Vl → Prop} (T : Tx b n) (hp : p ≤ n) (hv : TC b n p v1) (hL : zE isB b n p < n ∧ isL (b (zE isB b n p)) = true) (hj : isC b (zE isB b n p) (zE isL b n (zE isB b n p) - zE isB b n p) 5) (h : ∀ u, TC b n (zE isL b n (zE isB b n p)) u → u.1 3 = nI (zE isB b n p) → wp_X3_isFirst v0 u 16 (fun r_13 u_11 u_12 => ((r_13 = 0 → K 0 u_11 u_12) ∧ (¬ r_13 = 0 → wp_X3_readChances u_11 u_12 (fun r_16 u_14 u_15 => ((r_16 = 0 → K 0 u_14 u_15) ∧ (¬ r_16 = 0 → K 1 u_14 u_15))))))) : wp_X3_readClause v0 v1 K := by
  have g2 := zE_ge isL b n (zE isB b n p)
  have g3 : zE isL b n (zE isB b n p) ≤ n := zE_le (zE_le hp)
  unfold wp_X3_readClause
  refine q_word_s T hp hv hL (fun u hu h3 => ?_)
  rw [rl_b11]
  refine q_isWord T (by omega) g2 g3 hu h3 (fun g => absurd g (hj.2 0 (by omega))) (fun _ => ?_)
  rw [rl_b00]
  refine q_isWord T (by omega) g2 g3 hu h3 (fun g => absurd g (hj.2 1 (by omega))) (fun _ => ?_)
  rw [rl_b00]
  refine q_isWord T (by omega) g2 g3 hu h3 (fun g => absurd g (hj.2 2 (by omega))) (fun _ => ?_)
  rw [rl_b00]
  refine q_isWord T (by omega) g2 g3 hu h3 (fun g => absurd g (hj.2 3 (by omega))) (fun _ => ?_)
  rw [rl_b00]
  refine q_isWord T (by omega) g2 g3 hu h3 (fun g => absurd g (hj.2 4 (by omega))) (fun _ => ?_)
  rw [rl_b00]
  refine q_isWord T (by omega) g2 g3 hu h3 (fun _ => ?_) (fun g => absurd hj.1 g)
  rw [rl_b01]
  exact h u hu h3
theorem cd_n {b : Nat → Nat} {n p : Nat} {v0 v1 : Vl} {K : Int32 → Vl → Vl → Prop} (T : Tx b n) (hp : p ≤ n) (hv : TC b n p v1) (hj : ¬ (zE isB b n p < n ∧ isL (b (zE isB b n p)) = true) ∨ ∀ i, i < 6 → ¬ isW b (9 + i) (zE isB b n p) (zE isL b n (zE isB b n p) - zE isB b n p)) (h : ∀ u, FC 1 (zE isB b n p) u → K 0 v0 u) : wp_X3_readClause v0 v1 K := by
  have g2 := zE_ge isL b n (zE isB b n p)
  have g3 : zE isL b n (zE isB b n p) ≤ n := zE_le (zE_le hp)
  unfold wp_X3_readClause
  by_cases hL : zE isB b n p < n ∧ isL (b (zE isB b n p)) = true
  · have hj' := hj.elim (fun q => absurd hL q) id
    refine q_word_s T hp hv hL (fun u hu h3 => ?_)
    rw [rl_b11]
    refine q_isWord T (by omega) g2 g3 hu h3 (fun g => absurd g (hj' 0 (by omega))) (fun _ => ?_)
    rw [rl_b00]
    refine q_isWord T (by omega) g2 g3 hu h3 (fun g => absurd g (hj' 1 (by omega))) (fun _ => ?_)
    rw [rl_b00]
    refine q_isWord T (by omega) g2 g3 hu h3 (fun g => absurd g (hj' 2 (by omega))) (fun _ => ?_)
    rw [rl_b00]
    refine q_isWord T (by omega) g2 g3 hu h3 (fun g => absurd g (hj' 3 (by omega))) (fun _ => ?_)
    rw [rl_b00]
    refine q_isWord T (by omega) g2 g3 hu h3 (fun g => absurd g (hj' 4 (by omega))) (fun _ => ?_)
    rw [rl_b00]
    refine q_isWord T (by omega) g2 g3 hu h3 (fun g => absurd g (hj' 5 (by omega))) (fun _ => ?_)
    rw [rl_b00]
    rw [h3]
    exact q_fail (f := 1) (fun u' hu' _ => ⟨nar0, h u' hu'⟩)
  · refine q_word_f T hp hv hL (fun u hu => ?_)
    rw [rl_b10]
    exact h u hu
theorem md_0 {b : Nat → Nat} {n p : Nat} {r : Ns} {w : Vl} {Q : Int32 → Vl → Prop} (T : Tx b n) (hp : p ≤ n) (hw : PM b n r p w) (hj : isC b (zE isB b n p) (zE isL b n (zE isB b n p) - zE isB b n p) 0) (h : ∀ u, PM b n r (zE isB b n p) u → u.1 36 = nI (zE isL b n (zE isB b n p)) → fr [34, 36] [35] [] [] w u → wp_X9_takeClause_c186 Q u 0) : wp_X9_takeClause w Q := by
  unfold wp_X9_takeClause
  refine m_word T hp hw.1 (fun u hu h36 h35 fu => ?_)
  have hh := h u (PM_fr hw fu hu (by decide) (by decide)) h36 fu
  rw [w_k9, rl_fT ((m_isW (n := n) (k := 9) (by decide) h35).mpr hj.1)]
  unfold wp_X9_takeClause_c94
  rw [rl_eF (by decide)]
  exact hh
theorem md_1 {b : Nat → Nat} {n p : Nat} {r : Ns} {w : Vl} {Q : Int32 → Vl → Prop} (T : Tx b n) (hp : p ≤ n) (hw : PM b n r p w) (hj : isC b (zE isB b n p) (zE isL b n (zE isB b n p) - zE isB b n p) 1) (h : ∀ u, PM b n r (zE isB b n p) u → u.1 36 = nI (zE isL b n (zE isB b n p)) → fr [34, 36] [35] [] [] w u → wp_X9_takeClause_c186 Q u 1) : wp_X9_takeClause w Q := by
  unfold wp_X9_takeClause
  refine m_word T hp hw.1 (fun u hu h36 h35 fu => ?_)
  have hh := h u (PM_fr hw fu hu (by decide) (by decide)) h36 fu
  rw [w_k9, rl_fF (fun q => hj.2 0 (by omega) ((m_isW (n := n) (k := 9) (by decide) h35).mp q)), w_k10, rl_fT ((m_isW (n := n) (k := 10) (by decide) h35).mpr hj.1)]
  unfold wp_X9_takeClause_c94
  rw [rl_eF (by decide)]
  exact hh
theorem md_2 {b : Nat → Nat} {n p : Nat} {r : Ns} {w : Vl} {Q : Int32 → Vl → Prop} (T : Tx b n) (hp : p ≤ n) (hw : PM b n r p w) (hj : isC b (zE isB b n p) (zE isL b n (zE isB b n p) - zE isB b n p) 2) (h : ∀ u, PM b n r (zE isB b n p) u → u.1 36 = nI (zE isL b n (zE isB b n p)) → fr [34, 36] [35] [] [] w u → wp_X9_takeClause_c186 Q u 2) : wp_X9_takeClause w Q := by
  unfold wp_X9_takeClause
  refine m_word T hp hw.1 (fun u hu h36 h35 fu => ?_)
  have hh := h u (PM_fr hw fu hu (by decide) (by decide)) h36 fu
  rw [w_k9, rl_fF (fun q => hj.2 0 (by omega) ((m_isW (n := n) (k := 9) (by decide) h35).mp q)), w_k10, rl_fF (fun q => hj.2 1 (by omega) ((m_isW (n := n) (k := 10) (by decide) h35).mp q)), w_k11, rl_fT ((m_isW (n := n) (k := 11) (by decide) h35).mpr hj.1)]
  unfold wp_X9_takeClause_c94
  rw [rl_eF (by decide)]
  exact hh
theorem md_3 {b : Nat → Nat} {n p : Nat} {r : Ns} {w : Vl} {Q : Int32 → Vl → Prop} (T : Tx b n) (hp : p ≤ n) (hw : PM b n r p w) (hj : isC b (zE isB b n p) (zE isL b n (zE isB b n p) - zE isB b n p) 3) (h : ∀ u, PM b n r (zE isB b n p) u → u.1 36 = nI (zE isL b n (zE isB b n p)) → fr [34, 36] [35] [] [] w u → wp_X9_takeClause_c186 Q u 3) : wp_X9_takeClause w Q := by
  unfold wp_X9_takeClause
  refine m_word T hp hw.1 (fun u hu h36 h35 fu => ?_)
  have hh := h u (PM_fr hw fu hu (by decide) (by decide)) h36 fu
  rw [w_k9, rl_fF (fun q => hj.2 0 (by omega) ((m_isW (n := n) (k := 9) (by decide) h35).mp q)), w_k10, rl_fF (fun q => hj.2 1 (by omega) ((m_isW (n := n) (k := 10) (by decide) h35).mp q)), w_k11, rl_fF (fun q => hj.2 2 (by omega) ((m_isW (n := n) (k := 11) (by decide) h35).mp q))]
  unfold wp_X9_takeClause_c94
  rw [rl_eT (by decide), w_k12, rl_fT ((m_isW (n := n) (k := 12) (by decide) h35).mpr hj.1)]
  exact hh
theorem md_4 {b : Nat → Nat} {n p : Nat} {r : Ns} {w : Vl} {Q : Int32 → Vl → Prop} (T : Tx b n) (hp : p ≤ n) (hw : PM b n r p w) (hj : isC b (zE isB b n p) (zE isL b n (zE isB b n p) - zE isB b n p) 4) (h : ∀ u, PM b n r (zE isB b n p) u → u.1 36 = nI (zE isL b n (zE isB b n p)) → fr [34, 36] [35] [] [] w u → wp_X9_takeClause_c186 Q u 4) : wp_X9_takeClause w Q := by
  unfold wp_X9_takeClause
  refine m_word T hp hw.1 (fun u hu h36 h35 fu => ?_)
  have hh := h u (PM_fr hw fu hu (by decide) (by decide)) h36 fu
  rw [w_k9, rl_fF (fun q => hj.2 0 (by omega) ((m_isW (n := n) (k := 9) (by decide) h35).mp q)), w_k10, rl_fF (fun q => hj.2 1 (by omega) ((m_isW (n := n) (k := 10) (by decide) h35).mp q)), w_k11, rl_fF (fun q => hj.2 2 (by omega) ((m_isW (n := n) (k := 11) (by decide) h35).mp q))]
  unfold wp_X9_takeClause_c94
  rw [rl_eT (by decide), w_k12, rl_fF (fun q => hj.2 3 (by omega) ((m_isW (n := n) (k := 12) (by decide) h35).mp q)), w_k13, rl_fT ((m_isW (n := n) (k := 13) (by decide) h35).mpr hj.1)]
  exact hh
theorem md_5 {b : Nat → Nat} {n p : Nat} {r : Ns} {w : Vl} {Q : Int32 → Vl → Prop} (T : Tx b n) (hp : p ≤ n) (hw : PM b n r p w) (hj : isC b (zE isB b n p) (zE isL b n (zE isB b n p) - zE isB b n p) 5) (h : ∀ u, PM b n r (zE isB b n p) u → u.1 36 = nI (zE isL b n (zE isB b n p)) → fr [34, 36] [35] [] [] w u → wp_X9_takeClause_c186 Q u 5) : wp_X9_takeClause w Q := by
  unfold wp_X9_takeClause
  refine m_word T hp hw.1 (fun u hu h36 h35 fu => ?_)
  have hh := h u (PM_fr hw fu hu (by decide) (by decide)) h36 fu
  rw [w_k9, rl_fF (fun q => hj.2 0 (by omega) ((m_isW (n := n) (k := 9) (by decide) h35).mp q)), w_k10, rl_fF (fun q => hj.2 1 (by omega) ((m_isW (n := n) (k := 10) (by decide) h35).mp q)), w_k11, rl_fF (fun q => hj.2 2 (by omega) ((m_isW (n := n) (k := 11) (by decide) h35).mp q))]
  unfold wp_X9_takeClause_c94
  rw [rl_eT (by decide), w_k12, rl_fF (fun q => hj.2 3 (by omega) ((m_isW (n := n) (k := 12) (by decide) h35).mp q)), w_k13, rl_fF (fun q => hj.2 4 (by omega) ((m_isW (n := n) (k := 13) (by decide) h35).mp q)), w_k14, rl_fT ((m_isW (n := n) (k := 14) (by decide) h35).mpr hj.1)]
  exact hh
theorem md_n {b : Nat → Nat} {n p : Nat} {r : Ns} {w : Vl} {Q : Int32 → Vl → Prop} (T : Tx b n) (hp : p ≤ n) (hw : PM b n r p w) (hj : ∀ i, i < 6 → ¬ isW b (9 + i) (zE isB b n p) (zE isL b n (zE isB b n p) - zE isB b n p)) (h : ∀ u, PM b n r (zE isB b n p) u → u.1 36 = nI (zE isL b n (zE isB b n p)) → fr [34, 36] [35] [] [] w u → wp_X9_takeClause_c186 Q u (-1)) : wp_X9_takeClause w Q := by
  unfold wp_X9_takeClause
  refine m_word T hp hw.1 (fun u hu h36 h35 fu => ?_)
  have hh := h u (PM_fr hw fu hu (by decide) (by decide)) h36 fu
  rw [w_k9, rl_fF (fun q => hj 0 (by omega) ((m_isW (n := n) (k := 9) (by decide) h35).mp q)), w_k10, rl_fF (fun q => hj 1 (by omega) ((m_isW (n := n) (k := 10) (by decide) h35).mp q)), w_k11, rl_fF (fun q => hj 2 (by omega) ((m_isW (n := n) (k := 11) (by decide) h35).mp q))]
  unfold wp_X9_takeClause_c94
  rw [rl_eT (by decide), w_k12, rl_fF (fun q => hj 3 (by omega) ((m_isW (n := n) (k := 12) (by decide) h35).mp q)), w_k13, rl_fF (fun q => hj 4 (by omega) ((m_isW (n := n) (k := 13) (by decide) h35).mp q)), w_k14, rl_fF (fun q => hj 5 (by omega) ((m_isW (n := n) (k := 14) (by decide) h35).mp q))]
  exact hh
def rLSc (b : Nat → Nat) (n : Nat) (r : Ns) (p : Nat) : Prop :=
  (∃ f pl, 1 ≤ f ∧ f ≤ 4 ∧ pl ≤ n ∧ (∀ v1, TC b n p v1 → ∀ K Q : Int32 → Vl → Vl → Prop, tk K Q → (∀ r' u, FC f pl u → Q 0 (encG r') u) → wp_X3_readClause (encG r) v1 K) ∧ (∀ w, PM b n r p w → ∀ Q : Int32 → Vl → Prop, (∀ w', FM pl w' → frR w w' → Q (nI f) w') → wp_X9_takeClause w Q)) ∨
  (∃ r' p', GR r' ∧ p < p' ∧ p' ≤ n ∧ (∀ v1, TC b n p v1 → ∀ K Q : Int32 → Vl → Vl → Prop, tk K Q → (∀ u, TC b n p' u → Q 1 (encG r') u) → wp_X3_readClause (encG r) v1 K) ∧ (∀ w, PM b n r p w → ∀ Q : Int32 → Vl → Prop, (∀ w', PM b n r' p' w' → frR w w' → Q 0 w') → wp_X9_takeClause w Q))
theorem c_clause {b : Nat → Nat} {n p : Nat} {r : Ns} (T : Tx b n) (hr : GR r) (hp : p ≤ n) : rLSc b n r p := by
  have hn := T.1
  have g0 := zE_ge isB b n p
  have g1 := zE_le (P := isB) (b := b) hp
  have g2 := zE_ge isL b n (zE isB b n p)
  have g3 : zE isL b n (zE isB b n p) ≤ n := zE_le g1
  have none_ : (∀ i, i < 6 → ¬ isW b (9 + i) (zE isB b n p) (zE isL b n (zE isB b n p) - zE isB b n p)) → rLSc b n r p := by
    intro hno
    refine Or.inl ⟨1, zE isB b n p, by omega, by omega, g1, fun v1 hv K Q hk h => cd_n T hp hv (Or.inr hno) (fun u hu => hk.1 _ _ (h r u hu)), fun w hw Q h => md_n T hp hw hno (fun u hu h36 fu => ?_)⟩
    unfold wp_X9_takeClause_c186 wp_X9_takeClause_c218 wp_X9_takeClause_c228
    rw [rl_eT (by decide), rl_eF (by decide), hu.1.2.1]
    exact m_fails (f := 1) (fun u' hu' f' => h u' hu' (fr_t (fr_m fu (by decide) (by decide) (by decide) (by decide)) (fr_m f' (by decide) (by decide) (by decide) (by decide))))
  by_cases hL : zE isB b n p < n ∧ isL (b (zE isB b n p)) = true
  · rcases cl_cases b (zE isB b n p) (zE isL b n (zE isB b n p) - zE isB b n p) with hno | ⟨j, hj6, hj⟩
    · exact none_ hno
    · have : j = 0 ∨ j = 1 ∨ j = 2 ∨ j = 3 ∨ j = 4 ∨ j = 5 := by omega
      rcases this with rfl | rfl | rfl | rfl | rfl | rfl
      · by_cases h9 : r.1 7 = 9
        · refine Or.inl ⟨3, zE isB b n p, by omega, by omega, g1, fun v1 hv K Q hk h => cd_0 T hp hv hL hj (fun u hu h3 => ?_), fun w hw Q h => md_0 T hp hw hj (fun u hu h36 fu => ?_)⟩
          · unfold wp_X3_readLight
            rw [encG_1, h9, rl_eF (show ¬ nI 9 < 9 by decide), h3]
            exact q_fail (f := 3) (fun u' hu' _ => ⟨nar0, rfl, hk.1 _ _ (h r u' hu')⟩)
          · unfold wp_X9_takeClause_c186 wp_X9_takeClause_c218 wp_X9_takeClause_c228
            rw [rl_eF (by decide), rl_fT rfl, hu.2.2.1, h9, rl_fT (show nI 9 = 9 from rfl), rl_eT (by decide), hu.1.2.1]
            exact m_fails (f := 3) (fun u' hu' f' => h u' hu' (fr_t (fr_m fu (by decide) (by decide) (by decide) (by decide)) (fr_m f' (by decide) (by decide) (by decide) (by decide))))
        · have h9' : r.1 7 < 9 := by have := hr.1.1; omega
          have ml : ∀ w, PM b n r p w → ∀ Q : Int32 → Vl → Prop, (∀ u, PM b n r (zE isL b n (zE isB b n p)) u → frR w u → wp_X9_takeLight u (fun f u => wp_X9_takeClause_c296 Q u f)) → wp_X9_takeClause w Q := by
            intro w hw Q h
            refine md_0 T hp hw hj (fun u hu h36 fu => ?_)
            obtain ⟨z, hz1, hz2⟩ := hu.2.2.2.2.2.2.2.2
            unfold wp_X9_takeClause_c186
            rw [rl_eF (by decide), rl_fT rfl, hu.2.2.1, rl_fF (show ¬ nI (r.1 7) = 9 from fun q => h9 ((nI_eq (b := 9) (by omega) (by omega)).mp q))]
            unfold wp_X9_takeClause_c236
            rw [h36]
            intro v1 ev1 v2 ev2
            have e45 : v1.1 45 = nI (2 * r.1 14 + z) := by rw [ev1]; exact hz2
            have et : v1.1 45 ||| (1 <<< ((0 : Int32) &&& 31)) = nI (2 * r.1 14 + 1) := by
              rw [e45]
              exact tl0 (r.1 14) hr.2 z (by omega)
            rw [et, ev1] at ev2
            rw [rl_fT rfl]
            have hp14 := PM_14 (t := r.1 14) (z := 1) (e := zE isL b n (zE isB b n p)) hu (Nat.le_refl _) rfl
            rw [zu_self] at hp14
            rw [ev2]
            exact h _ hp14 (fr_I (fr_I (fr_m fu (by decide) (by decide) (by decide) (by decide)) _ (by decide)) _ (by decide))
          rcases ls_tail T (ls_light T hr h9' g3) with ⟨f, pl, f1, f4, hpl, hC, hM⟩ | ⟨r', p', hr', hpp, hpn, hC, hM⟩
          · exact Or.inl ⟨f, pl, f1, f4, hpl, fun v1 hv K Q hk h => cd_0 T hp hv hL hj (fun u hu h3 => hC u hu _ Q (tk_n hk) h), fun w hw Q h => ml w hw Q (fun u hu fu => hM u hu Q (fun w' hw' f' => h w' hw' (fr_t fu f')))⟩
          · exact Or.inr ⟨r', p', hr', by omega, hpn, fun v1 hv K Q hk h => cd_0 T hp hv hL hj (fun u hu h3 => hC u hu _ Q (tk_n hk) h), fun w hw Q h => ml w hw Q (fun u hu fu => hM u hu Q (fun w' hw' f' => h w' hw' (fr_t fu f')))⟩
      · have hM236 : ∀ w Q, PM b n r (zE isB b n p) w → w.1 36 = nI (zE isL b n (zE isB b n p)) → ((fun w Q => wp_X9_takeOnce w 1 Q) (setI (setI w 34 (nI (zE isL b n (zE isB b n p)))) 45 (w.1 45 ||| (1 <<< (nI (0 + 1) &&& 31)))) (fun f u => wp_X9_takeClause_c296 Q u f)) → wp_X9_takeClause_c236 Q w (nI (0 + 1)) := by
          intro w Q hw h36 h
          unfold wp_X9_takeClause_c236
          rw [h36]
          intro v1 ev1 v2 ev2
          subst ev1 ev2
          rw [rl_fF (by decide), rl_eF (by decide)]
          exact h
        rcases o_clause (d := 0) (C := wp_X3_readBoat) (M := (fun w Q => wp_X9_takeOnce w 1 Q)) T hr (by omega) g2 g3 hM236 (fun r1 h1 => ls_tail T (ls_boat T h1 g3)) with ⟨f, pl, f1, f4, hpl, hC, hM⟩ | ⟨r', p', hr', hpp, hpn, hC, hM⟩
        · exact Or.inl ⟨f, pl, f1, f4, hpl, fun v1 hv K Q hk h => cd_1 T hp hv hL hj (fun u hu h3 => hC u hu h3 K Q hk h), fun w hw Q h => md_1 T hp hw hj (fun u hu h36 fu => hM u hu h36 Q (fun w' hw' f' => h w' hw' (fr_t (fr_m fu (by decide) (by decide) (by decide) (by decide)) f')))⟩
        · exact Or.inr ⟨r', p', hr', by omega, hpn, fun v1 hv K Q hk h => cd_1 T hp hv hL hj (fun u hu h3 => hC u hu h3 K Q hk h), fun w hw Q h => md_1 T hp hw hj (fun u hu h36 fu => hM u hu h36 Q (fun w' hw' f' => h w' hw' (fr_t (fr_m fu (by decide) (by decide) (by decide) (by decide)) f')))⟩
      · have hM236 : ∀ w Q, PM b n r (zE isB b n p) w → w.1 36 = nI (zE isL b n (zE isB b n p)) → ((fun w Q => wp_X9_takeOnce w 2 Q) (setI (setI w 34 (nI (zE isL b n (zE isB b n p)))) 45 (w.1 45 ||| (1 <<< (nI (1 + 1) &&& 31)))) (fun f u => wp_X9_takeClause_c296 Q u f)) → wp_X9_takeClause_c236 Q w (nI (1 + 1)) := by
          intro w Q hw h36 h
          unfold wp_X9_takeClause_c236
          rw [h36]
          intro v1 ev1 v2 ev2
          subst ev1 ev2
          rw [rl_fF (by decide), rl_eF (by decide)]
          exact h
        rcases o_clause (d := 1) (C := wp_X3_readBarrel) (M := (fun w Q => wp_X9_takeOnce w 2 Q)) T hr (by omega) g2 g3 hM236 (fun r1 h1 => ls_tail T (ls_barrel T h1 g3)) with ⟨f, pl, f1, f4, hpl, hC, hM⟩ | ⟨r', p', hr', hpp, hpn, hC, hM⟩
        · exact Or.inl ⟨f, pl, f1, f4, hpl, fun v1 hv K Q hk h => cd_2 T hp hv hL hj (fun u hu h3 => hC u hu h3 K Q hk h), fun w hw Q h => md_2 T hp hw hj (fun u hu h36 fu => hM u hu h36 Q (fun w' hw' f' => h w' hw' (fr_t (fr_m fu (by decide) (by decide) (by decide) (by decide)) f')))⟩
        · exact Or.inr ⟨r', p', hr', by omega, hpn, fun v1 hv K Q hk h => cd_2 T hp hv hL hj (fun u hu h3 => hC u hu h3 K Q hk h), fun w hw Q h => md_2 T hp hw hj (fun u hu h36 fu => hM u hu h36 Q (fun w' hw' f' => h w' hw' (fr_t (fr_m fu (by decide) (by decide) (by decide) (by decide)) f')))⟩
      · have hM236 : ∀ w Q, PM b n r (zE isB b n p) w → w.1 36 = nI (zE isL b n (zE isB b n p)) → ((fun w Q => wp_X9_takeOnce w 3 Q) (setI (setI w 34 (nI (zE isL b n (zE isB b n p)))) 45 (w.1 45 ||| (1 <<< (nI (2 + 1) &&& 31)))) (fun f u => wp_X9_takeClause_c296 Q u f)) → wp_X9_takeClause_c236 Q w (nI (2 + 1)) := by
          intro w Q hw h36 h
          unfold wp_X9_takeClause_c236
          rw [h36]
          intro v1 ev1 v2 ev2
          subst ev1 ev2
          rw [rl_fF (by decide), rl_eF (by decide)]
          exact h
        rcases o_clause (d := 2) (C := wp_X3_readHens) (M := (fun w Q => wp_X9_takeOnce w 3 Q)) T hr (by omega) g2 g3 hM236 (fun r1 h1 => ls_tail T (ls_hens T h1 g3)) with ⟨f, pl, f1, f4, hpl, hC, hM⟩ | ⟨r', p', hr', hpp, hpn, hC, hM⟩
        · exact Or.inl ⟨f, pl, f1, f4, hpl, fun v1 hv K Q hk h => cd_3 T hp hv hL hj (fun u hu h3 => hC u hu h3 K Q hk h), fun w hw Q h => md_3 T hp hw hj (fun u hu h36 fu => hM u hu h36 Q (fun w' hw' f' => h w' hw' (fr_t (fr_m fu (by decide) (by decide) (by decide) (by decide)) f')))⟩
        · exact Or.inr ⟨r', p', hr', by omega, hpn, fun v1 hv K Q hk h => cd_3 T hp hv hL hj (fun u hu h3 => hC u hu h3 K Q hk h), fun w hw Q h => md_3 T hp hw hj (fun u hu h36 fu => hM u hu h36 Q (fun w' hw' f' => h w' hw' (fr_t (fr_m fu (by decide) (by decide) (by decide) (by decide)) f')))⟩
      · have hM236 : ∀ w Q, PM b n r (zE isB b n p) w → w.1 36 = nI (zE isL b n (zE isB b n p)) → (wp_X9_takeNights (setI (setI w 34 (nI (zE isL b n (zE isB b n p)))) 45 (w.1 45 ||| (1 <<< (nI (3 + 1) &&& 31)))) (fun f u => wp_X9_takeClause_c296 Q u f)) → wp_X9_takeClause_c236 Q w (nI (3 + 1)) := by
          intro w Q hw h36 h
          unfold wp_X9_takeClause_c236
          rw [h36]
          intro v1 ev1 v2 ev2
          subst ev1 ev2
          rw [rl_fF (by decide), rl_eT (by decide), rl_fT (show nI (3 + 1) = 4 from rfl)]
          exact h
        rcases o_clause (d := 3) (C := wp_X3_readNights) (M := wp_X9_takeNights) T hr (by omega) g2 g3 hM236 (fun r1 h1 => ls_nights T h1 g3) with ⟨f, pl, f1, f4, hpl, hC, hM⟩ | ⟨r', p', hr', hpp, hpn, hC, hM⟩
        · exact Or.inl ⟨f, pl, f1, f4, hpl, fun v1 hv K Q hk h => cd_4 T hp hv hL hj (fun u hu h3 => hC u hu h3 K Q hk h), fun w hw Q h => md_4 T hp hw hj (fun u hu h36 fu => hM u hu h36 Q (fun w' hw' f' => h w' hw' (fr_t (fr_m fu (by decide) (by decide) (by decide) (by decide)) f')))⟩
        · exact Or.inr ⟨r', p', hr', by omega, hpn, fun v1 hv K Q hk h => cd_4 T hp hv hL hj (fun u hu h3 => hC u hu h3 K Q hk h), fun w hw Q h => md_4 T hp hw hj (fun u hu h36 fu => hM u hu h36 Q (fun w' hw' f' => h w' hw' (fr_t (fr_m fu (by decide) (by decide) (by decide) (by decide)) f')))⟩
      · have hM236 : ∀ w Q, PM b n r (zE isB b n p) w → w.1 36 = nI (zE isL b n (zE isB b n p)) → (wp_X9_takeOdds (setI (setI w 34 (nI (zE isL b n (zE isB b n p)))) 45 (w.1 45 ||| (1 <<< (nI (4 + 1) &&& 31)))) (fun f u => wp_X9_takeClause_c296 Q u f)) → wp_X9_takeClause_c236 Q w (nI (4 + 1)) := by
          intro w Q hw h36 h
          unfold wp_X9_takeClause_c236
          rw [h36]
          intro v1 ev1 v2 ev2
          subst ev1 ev2
          rw [rl_fF (by decide), rl_eT (by decide), rl_fF (by decide)]
          exact h
        rcases o_clause (d := 4) (C := wp_X3_readChances) (M := wp_X9_takeOdds) T hr (by omega) g2 g3 hM236 (fun r1 h1 => ls_tail T (ls_odds T h1 g3)) with ⟨f, pl, f1, f4, hpl, hC, hM⟩ | ⟨r', p', hr', hpp, hpn, hC, hM⟩
        · exact Or.inl ⟨f, pl, f1, f4, hpl, fun v1 hv K Q hk h => cd_5 T hp hv hL hj (fun u hu h3 => hC u hu h3 K Q hk h), fun w hw Q h => md_5 T hp hw hj (fun u hu h36 fu => hM u hu h36 Q (fun w' hw' f' => h w' hw' (fr_t (fr_m fu (by decide) (by decide) (by decide) (by decide)) f')))⟩
        · exact Or.inr ⟨r', p', hr', by omega, hpn, fun v1 hv K Q hk h => cd_5 T hp hv hL hj (fun u hu h3 => hC u hu h3 K Q hk h), fun w hw Q h => md_5 T hp hw hj (fun u hu h36 fu => hM u hu h36 Q (fun w' hw' f' => h w' hw' (fr_t (fr_m fu (by decide) (by decide) (by decide) (by decide)) f')))⟩
  · refine none_ (fun i hi q => ?_)
    have e0 : zE isL b n (zE isB b n p) = zE isB b n p := zE_n hL
    have h1 := q.1
    have hw8 : 1 ≤ wlen (9 + i) := by
      have : i = 0 ∨ i = 1 ∨ i = 2 ∨ i = 3 ∨ i = 4 ∨ i = 5 := by omega
      rcases this with rfl | rfl | rfl | rfl | rfl | rfl <;> decide
    omega
def tQ (Q0 Q1 : Vl → Vl → Prop) : Int32 → Vl → Vl → Prop := fun r a u => ((r = 0 → Q0 a u) ∧ (¬ r = 0 → Q1 a u))
theorem tQ_0 (Q0 Q1 : Vl → Vl → Prop) (a u : Vl) : tQ Q0 Q1 0 a u = Q0 a u := propext rl_b00
theorem tQ_1 (Q0 Q1 : Vl → Vl → Prop) (a u : Vl) : tQ Q0 Q1 1 a u = Q1 a u := propext rl_b01
theorem tk_loop {Q0 Q1 : Vl → Vl → Prop} : tk (fun r_7 u_5 u_6 => ((r_7 = 0 → Q0 u_5 u_6) ∧ (¬ r_7 = 0 → wp_X7_readSign u_6 59 (fun r_9 u_8 => ((¬ r_9 = 0 → Q1 u_5 u_8) ∧ (r_9 = 0 → Q0 u_5 u_8)))))) (tQ Q0 Q1) := by
  refine ⟨fun a u h => ?_, fun a u h => ?_⟩
  · rw [tQ_0] at h
    exact rl_b00.mpr h
  · have e : (fun (r9 : Int32) (u8 : Vl) => ((¬ r9 = 0 → tQ Q0 Q1 1 a u8) ∧ (r9 = 0 → tQ Q0 Q1 0 a u8))) = (fun r_9 u_8 => ((¬ r_9 = 0 → Q1 a u_8) ∧ (r_9 = 0 → Q0 a u_8))) := by
      funext r9 u8
      rw [tQ_0, tQ_1]
    rw [e] at h
    exact rl_b01.mpr h
theorem r_loop {b : Nat → Nat} {n : Nat} (T : Tx b n) : ∀ m p i r, n - p ≤ m → p ≤ n → i ≤ p → GR r →
    (∃ f pl, 1 ≤ f ∧ f ≤ 4 ∧ pl ≤ n ∧ (∀ v1, TC b n p v1 → ∀ Q : Int32 → Vl → Vl → Prop, (∀ r' u, FC f pl u → Q 0 (encG r') u) → wp_X3_readFrom_c10 Q (m + 1) (encG r) v1 (nI i)) ∧ (∀ w, PM b n r p w → ∀ Q : Int32 → Vl → Prop, (∀ w', FM pl w' → frR w w' → wp_X9_reef_c126 Q w' (nI f)) → wp_X9_reef_c107 Q (m + 2) w 0)) ∨
    (∃ r', GR r' ∧ (∀ v1, TC b n p v1 → ∀ Q : Int32 → Vl → Vl → Prop, (∀ u, Q 1 (encG r') u) → wp_X3_readFrom_c10 Q (m + 1) (encG r) v1 (nI i)) ∧ (∀ w, PM b n r p w → ∀ Q : Int32 → Vl → Prop, (∀ w' q, PM b n r' q w' → frR w w' → wp_X9_reef_c126 Q w' 0) → wp_X9_reef_c107 Q (m + 2) w 0)) := by
  intro m
  induction m with
  | zero =>
    intro p i r em hp hi hr
    have hn := T.1
    obtain rfl : p = n := by omega
    have hci : ¬ (500 : Int32) < nI i := nI_nlt (a := 500) (by omega) (by omega)
    have ez : zE isB b p p = p := zE_n (by omega)
    refine Or.inr ⟨r, hr, fun v1 hv Q h => ?_, fun w hw Q h => ?_⟩
    · unfold wp_X3_readFrom_c10
      rw [rl_eF hci]
      refine q_atEnd T hp hv (fun u hu fu => ?_)
      rw [ez, if_neg (Nat.lt_irrefl _), rl_b01]
      exact h u
    · unfold wp_X9_reef_c107
      rw [rl_b10]
      refine m_here T hp hw.1 (fun u hu fu => ?_)
      rw [ez] at hu ⊢
      rw [if_neg (Nat.lt_irrefl _), rl_eT (by decide)]
      exact h u p (PM_fr hw fu hu (by decide) (by decide)) (fr_m fu (by decide) (by decide) (by decide) (by decide))
  | succ m ih =>
    intro p i r em hp hi hr
    have hn := T.1
    have g0 := zE_ge isB b n p
    have g1 := zE_le (P := isB) (b := b) hp
    obtain ⟨p0, ep0⟩ : ∃ p0, p0 = zE isB b n p := ⟨_, rfl⟩
    rw [← ep0] at g0 g1
    have hci : ¬ (500 : Int32) < nI i := nI_nlt (a := 500) (by omega) (by omega)
    by_cases hend : p0 < n
    · have hb := T.2 p0 hend
      have hz : ∀ v1, TC b n p v1 → ∀ Q : Int32 → Vl → Vl → Prop, (∀ u, TC b n p0 u → wp_X3_readClause (encG r) u (fun r_7 u_5 u_6 => ((r_7 = 0 → Q 0 u_5 u_6) ∧ (¬ r_7 = 0 → wp_X7_readSign u_6 59 (fun r_9 u_8 => ((¬ r_9 = 0 → ∀ x_10 : Int32, x_10 = nI i + 1 → wp_X3_readFrom_c10 Q (m + 1) u_5 u_8 x_10) ∧ (r_9 = 0 → Q 0 u_5 u_8))))))) → wp_X3_readFrom_c10 Q (m + 1 + 1) (encG r) v1 (nI i) := by
        intro v1 hv Q h
        unfold wp_X3_readFrom_c10
        rw [rl_eF hci]
        refine q_atEnd T hp hv (fun u hu fu => ?_)
        rw [← ep0] at hu ⊢
        rw [if_pos hend, rl_b00]
        exact h u hu
      have hzm : ∀ w, PM b n r p w → ∀ Q : Int32 → Vl → Prop, (∀ u, PM b n r p0 u → fr [34] [] [] [] w u → wp_X9_takeClause u (fun r_17 u_16 => wp_X9_reef_c107 Q (m + 2) u_16 r_17)) → wp_X9_reef_c107 Q (m + 1 + 2) w 0 := by
        intro w hw Q h
        unfold wp_X9_reef_c107
        rw [rl_b10]
        refine m_here T hp hw.1 (fun u hu fu => ?_)
        rw [← ep0] at hu ⊢
        rw [if_pos hend, rl_eF (nI_pos (by omega))]
        exact h u (PM_fr hw fu hu (by decide) (by decide)) fu
      rcases c_clause (r := r) T hr g1 with ⟨f, pl, f1, f4, hpl, hC, hM⟩ | ⟨r', p', hr', hpp, hpn, hC, hM⟩
      · refine Or.inl ⟨f, pl, f1, f4, hpl, fun v1 hv Q h => ?_, fun w hw Q h => ?_⟩
        · refine hz v1 hv Q (fun u hu => hC u hu _ _ tk_loop (fun r' u' hu' => ?_))
          rw [tQ_0]
          exact h r' u' hu'
        · refine hzm w hw Q (fun u hu fu => hM u hu _ (fun w' hw' f' => ?_))
          unfold wp_X9_reef_c107
          rw [rl_fF (nI_ne0 (by omega) (by omega))]
          exact h w' hw' (fr_t (fr_m fu (by decide) (by decide) (by decide) (by decide)) f')
      · rcases ih p' (i + 1) r' (by omega) hpn (by omega) hr' with ⟨f, pl, f1, f4, hpl, hC2, hM2⟩ | ⟨k2, hk2, hC2, hM2⟩
        · refine Or.inl ⟨f, pl, f1, f4, hpl, fun v1 hv Q h => ?_, fun w hw Q h => ?_⟩
          · refine hz v1 hv Q (fun u hu => hC u hu _ _ tk_loop (fun u' hu' => ?_))
            rw [tQ_1]
            intro x ex
            rw [ex, nI_1]
            exact hC2 u' hu' Q h
          · refine hzm w hw Q (fun u hu fu => hM u hu _ (fun w' hw' f' => ?_))
            exact hM2 w' hw' Q (fun w2 hw2 f2 => h w2 hw2 (fr_t (fr_m fu (by decide) (by decide) (by decide) (by decide)) (fr_t f' f2)))
        · refine Or.inr ⟨k2, hk2, fun v1 hv Q h => ?_, fun w hw Q h => ?_⟩
          · refine hz v1 hv Q (fun u hu => hC u hu _ _ tk_loop (fun u' hu' => ?_))
            rw [tQ_1]
            intro x ex
            rw [ex, nI_1]
            exact hC2 u' hu' Q h
          · refine hzm w hw Q (fun u hu fu => hM u hu _ (fun w' hw' f' => ?_))
            exact hM2 w' hw' Q (fun w2 q hw2 f2 => h w2 q hw2 (fr_t (fr_m fu (by decide) (by decide) (by decide) (by decide)) (fr_t f' f2)))
    · refine Or.inr ⟨r, hr, fun v1 hv Q h => ?_, fun w hw Q h => ?_⟩
      · unfold wp_X3_readFrom_c10
        rw [rl_eF hci]
        refine q_atEnd T hp hv (fun u hu fu => ?_)
        rw [← ep0, if_neg hend, rl_b01]
        exact h u
      · unfold wp_X9_reef_c107
        rw [rl_b10]
        refine m_here T hp hw.1 (fun u hu fu => ?_)
        rw [← ep0] at hu ⊢
        rw [if_neg hend, rl_eT (by decide)]
        exact h u p0 (PM_fr hw fu hu (by decide) (by decide)) (fr_m fu (by decide) (by decide) (by decide) (by decide))
