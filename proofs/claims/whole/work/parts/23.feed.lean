/-! ===== feed ===== -/
theorem rl_8 {k : Nat} (hk : k < 8) : k = 0 ∨ k = 1 ∨ k = 2 ∨ k = 3 ∨ k = 4 ∨ k = 5 ∨ k = 6 ∨ k = 7 := by omega
theorem feed_byte (y : Int64) {k : Nat} (hk : k < 8) : Int64.toInt32 ((y >>> (Int32.toInt64 (8 * nI k) &&& 63)) &&& 255) = (Int64.toInt32 ((Int64.toUInt64 y >>> ((Int32.toInt64 (8 * nI k)).toUInt64 &&& Int64.toUInt64 63)).toInt64)) &&& 255 := by
  apply Int32.toBitVec_inj.mp
  have e1 : ((Int32.toInt64 (8 * nI k) &&& 63).toBitVec.smod 64).toNat = 8 * k := by
    rcases rl_8 hk with rfl | rfl | rfl | rfl | rfl | rfl | rfl | rfl <;> decide +kernel
  have e2 : (((Int32.toInt64 (8 * nI k)).toUInt64 &&& Int64.toUInt64 63).toBitVec % 64).toNat = 8 * k := by
    rcases rl_8 hk with rfl | rfl | rfl | rfl | rfl | rfl | rfl | rfl <;> decide +kernel
  have g1 : (y >>> (Int32.toInt64 (8 * nI k) &&& 63)).toBitVec = y.toBitVec.sshiftRight (8 * k) := by
    rw [← e1]
    rfl
  have g2 : ((Int64.toUInt64 y >>> ((Int32.toInt64 (8 * nI k)).toUInt64 &&& Int64.toUInt64 63)).toInt64).toBitVec = y.toBitVec >>> (8 * k) := by
    rw [← e2]
    exact UInt64.toBitVec_shiftRight _ _
  have e3 : (255 : Int64).toBitVec = BitVec.ofNat 64 (2 ^ 8 - 1) := by decide +kernel
  have e4 : (255 : Int32).toBitVec = BitVec.ofNat 32 (2 ^ 8 - 1) := by decide +kernel
  have h1 : ∀ x : Int64, (Int64.toInt32 x).toBitVec = x.toBitVec.setWidth 32 := fun x => BitVec.signExtend_eq_setWidth_of_le x.toBitVec (by decide : (32 : Nat) ≤ 64)
  rw [Int32.toBitVec_and, h1, h1, Int64.toBitVec_and, g1, g2, e3, e4]
  apply BitVec.eq_of_getLsbD_eq
  intro i hi
  rw [BitVec.getLsbD_setWidth, BitVec.getLsbD_and, BitVec.getLsbD_and, BitVec.getLsbD_setWidth, BitVec.getLsbD_ofNat, BitVec.getLsbD_ofNat, BitVec.getLsbD_sshiftRight, BitVec.getLsbD_ushiftRight, Nat.testBit_two_pow_sub_one]
  by_cases c : i < 8
  · have c1 : 8 * k + i < 64 := by omega
    have c2 : ¬ 64 ≤ i := by omega
    have c3 : i < 64 := by omega
    simp [c, c1, c2, c3, hi]
  · simp [c]
def zbt (y : Int64) (k : Nat) : Nat := (Int64.toInt32 ((Int64.toUInt64 y >>> ((Int32.toInt64 (8 * nI k)).toUInt64 &&& Int64.toUInt64 63)).toInt64)).toBitVec.toNat % 256
theorem zbt_eq (y : Int64) (k : Nat) : (Int64.toInt32 ((Int64.toUInt64 y >>> ((Int32.toInt64 (8 * nI k)).toUInt64 &&& Int64.toUInt64 63)).toInt64)) &&& 255 = nI (zbt y k) := pk_and _ 8 (m := 255) (by decide +kernel)
theorem q_append {x0 : Vl} {n b : Nat} {Q : Vl → Prop} (h1 : x0.1 1 = nI n) (hn : n < 500) (h : Q (setI (setRA x0 0 (upd (x0.2.2.1 0) n (nI b))) 1 (nI (n + 1)))) : wp_X7_append x0 (nI b) Q := by
  unfold wp_X7_append
  have e : ∀ g, (setRA x0 0 g).1 1 = nI n := fun _ => h1
  rw [h1, rl_eF (show ¬ (500 : Int32) ≤ nI n from nI_ge (b := 500) hn (by omega))]
  simp (disch := omega) only [w_put, jput_nI, forall_eq, e, nI_1]
  exact h
/-- both texts behind k bytes more -/
def fdC (y : Int64) (x0 : Vl) (n : Nat) : Nat → Vl
  | 0 => x0
  | m + 1 => fdC y (setI (setRA x0 0 (upd (x0.2.2.1 0) n (nI (zbt y m)))) 1 (nI (n + 1))) (n + 1) m
def fdM (y : Int64) (w : Vl) (n : Nat) : Nat → Vl
  | 0 => w
  | m + 1 => fdM y (setI (setA w 31 n (nI (zbt y m))) 32 (nI (n + 1))) (n + 1) m
theorem q_feed_loop {vx : Vl} {y : Int64} {Q : Int32 → Vl → Prop} : ∀ (m n : Nat) (x0 : Vl), m ≤ 8 → n + m ≤ 500 → x0.1 1 = nI n → Q (nI (n + m)) (fdC y x0 n m) → wp_X8_feed_c37 vx Q (m + 1) x0 y (gI m)
  | 0, n, x0, hm, hn, h1, h => by
    unfold wp_X8_feed_c37
    rw [rl_eT (show gI 0 < 0 by decide), h1]
    exact h
  | m + 1, n, x0, hm, hn, h1, h => by
    unfold wp_X8_feed_c37
    rw [rl_eF (show ¬ gI (m + 1) < 0 from nI_pos (by omega))]
    have eg : gI (m + 1) = nI m := rfl
    rw [eg, zbt_eq]
    refine q_append h1 (by omega) ?_
    intro x3 e3
    have e4 : x3 = gI m := by
      rw [e3]
      cases m with
      | zero => decide
      | succ m => exact pk_m1 m
    rw [e4]
    refine q_feed_loop m (n + 1) _ (by omega) (by omega) rfl ?_
    have e5 : n + 1 + m = n + (m + 1) := by omega
    rw [e5]
    exact h
theorem m_feed_loop {y : Int64} {Q : Int32 → Vl → Prop} : ∀ (m n : Nat) (w : Vl), m ≤ 8 → n + m ≤ 500 → w.1 32 = nI n → Q (nI (n + m)) (fdM y w n m) → wp_X9_feed_c35 Q (m + 1) w y (gI m)
  | 0, n, w, hm, hn, h1, h => by
    unfold wp_X9_feed_c35
    rw [rl_eT (show gI 0 < 0 by decide), h1]
    exact h
  | m + 1, n, w, hm, hn, h1, h => by
    unfold wp_X9_feed_c35
    rw [rl_eF (show ¬ gI (m + 1) < 0 from nI_pos (by omega))]
    have eg : gI (m + 1) = nI m := rfl
    rw [eg, feed_byte y (by omega), zbt_eq, h1]
    have e : ∀ i b, (setA w 31 i b).1 32 = nI n := fun _ _ => h1
    simp (disch := omega) only [nI_clamp, vp_inN, forall_eq, e, nI_1]
    refine ⟨by omega, ?_⟩
    have e4 : nI m + (-1) = gI m := by
      cases m with
      | zero => decide
      | succ m => exact pk_m1 m
    rw [e4]
    refine m_feed_loop m (n + 1) _ (by omega) (by omega) rfl ?_
    have e5 : n + 1 + m = n + (m + 1) := by omega
    rw [e5]
    exact h
theorem fd_IT {vx : Vl} {y : Int64} : ∀ (m n : Nat) (b : Nat → Nat) (x0 w : Vl), n + m ≤ 500 → IT b n vx x0 w → ∃ b', IT b' (n + m) vx (fdC y x0 n m) (fdM y w n m) ∧ fr [32] [] [31] [] w (fdM y w n m)
  | 0, n, b, x0, w, hn, h => ⟨b, h, fr_r w⟩
  | m + 1, n, b, x0, w, hn, h => by
    obtain ⟨h1, h2, h3, h4, h5⟩ := h
    have hz : zbt y m < 256 := Nat.mod_lt _ (by omega)
    obtain ⟨b', q1, q2⟩ := fd_IT (vx := vx) (y := y) m (n + 1) (va_up b n (zbt y m)) (setI (setRA x0 0 (upd (x0.2.2.1 0) n (nI (zbt y m)))) 1 (nI (n + 1))) (setI (setA w 31 n (nI (zbt y m))) 32 (nI (n + 1))) (by omega) ⟨rfl, rfl, by omega, h4, fun i hi => by
      show upd (x0.2.2.1 0) n (nI (zbt y m)) i = _ ∧ upd (w.2.2.1 31) n (nI (zbt y m)) i = _ ∧ _
      by_cases c : i = n
      · subst c
        simp only [upd_a, ↓reduceIte, va_up_s]
        exact ⟨trivial, trivial, hz⟩
      · rw [va_up_n _ _ c]
        simp only [upd_a, c, ↓reduceIte]
        exact h5 i (by omega)⟩
    have e5 : n + 1 + m = n + (m + 1) := by omega
    rw [e5] at q1
    exact ⟨b', q1, fr_t (fr_I (fr_A (fr_r w) _ _ (by decide)) _ (by decide)) q2⟩
theorem p_feed {b : Nat → Nat} {n : Nat} {vx x0 w : Vl} (x : Int32) (y : Int64) (hT : IT b n vx x0 w) : ∃ z u w' b' n', (∀ Q : Int32 → Vl → Prop, Q z u → wp_X8_feed vx x0 x y Q) ∧ (∀ Q : Int32 → Vl → Prop, Q z w' → wp_X9_feed w x y Q) ∧ IT b' n' vx u w' ∧ fr [32] [] [31] [] w w' := by
  have hT' := hT
  obtain ⟨h1, h2, h3, h4, h5⟩ := hT'
  unfold wp_X8_feed wp_X9_feed
  rcases rl_rg x 1 8 (by omega) (by omega) with ⟨m, m1, hm, rfl⟩ | ⟨g1, g2⟩
  · by_cases hf : n + m ≤ 500
    · obtain ⟨b', q1, q2⟩ := fd_IT (vx := vx) (y := y) m n b x0 w hf hT
      have eg : nI m - 1 = gI m := by
        obtain ⟨k, rfl⟩ : ∃ k, m = k + 1 := ⟨m - 1, by omega⟩
        exact nI_pred k
      refine ⟨nI (n + m), fdC y x0 n m, fdM y w n m, b', n + m, fun Q h => ?_, fun Q h => ?_, q1, q2⟩
      · refine rl_cy m1 hm (by decide) ?_
        rw [h1, nI_add, rl_eT (show nI (n + m) ≤ 500 from nI_le (b := 500) hf (by omega))]
        simp only [forall_eq, eg]
        exact ⟨m + 1, q_feed_loop m n x0 hm hf h1 h⟩
      · rw [rl_iy m1 hm (by omega) (by decide +kernel) (by decide +kernel), rl_b11, h2, nI_add, rl_eT (show nI (n + m) ≤ 500 from nI_le (b := 500) hf (by omega))]
        simp only [forall_eq, eg]
        exact ⟨m + 1, m_feed_loop m n w hm hf h2 h⟩
    · have hq : ¬ nI (n + m) ≤ 500 := nI_ge (a := 500) (by omega) (by omega)
      refine ⟨-1000000004, x0, w, b, n, fun Q h => ?_, fun Q h => ?_, hT, fr_r w⟩
      · refine rl_cy m1 hm (by decide) ?_
        rw [h1, nI_add, rl_eF hq]
        exact h
      · rw [rl_iy m1 hm (by omega) (by decide +kernel) (by decide +kernel), rl_b11, h2, nI_add, rl_eF hq]
        exact h
  · refine ⟨-1000000002, x0, w, b, n, fun Q h => rl_cn g1 h, fun Q h => ?_, hT, fr_r w⟩
    rw [rl_ino g2 (by decide +kernel) (by decide +kernel), rl_b10]
    exact h
