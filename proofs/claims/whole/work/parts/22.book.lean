/-! ===== BOOKS ===== -/
theorem p_write {r : Ns} {p : Nat → Nat} {vx x7 x9 w : Vl} (x y : Int32) (hR : IR r x9 w) (hW : IW p x7 w) : ∃ z u w' p', (∀ Q : Int32 → Vl → Prop, Q z u → wp_X8_write vx x7 x9 x y Q) ∧ (∀ Q : Int32 → Vl → Prop, Q z w' → wp_X9_write w x y Q) ∧ IW p' u w' ∧ fr [] [] [59, 60] [] w w' := by
  obtain ⟨e9, wr, mr⟩ := hR
  have mr0 := mr.1
  have r7 := wr.1
  subst e9
  unfold wp_X8_write wp_X9_write
  rcases rl_lt x (r.1 7) r7 with ⟨j, hj, rfl⟩ | ⟨g1, g2⟩
  · have j9 : j < 9 := by omega
    have i9 : vp_in (nI j) 9 := vp_in_nI j9 (by decide)
    obtain ⟨c1, c2, c3, c4⟩ := hW j j9
    rcases rl_rg y 0 99999 (by omega) (by omega) with ⟨t, t0, ht, rfl⟩ | ⟨h1, h2⟩
    · by_cases h40 : p j = 40
      · refine ⟨-1000000004, x7, w, p, fun Q h => ?_, fun Q h => ?_, hW, fr_r w⟩
        · rw [rl_nly hj r7, rl_b00]
          refine rl_cy t0 ht (by decide) ?_
          rw [w_X0_pagesOf, jat_nI j9 (by decide), c1, h40, rl_eF (by decide)]
          exact h
        · rw [rl_ily mr0 hj r7, rl_b11, rl_iy t0 ht (by omega) (by decide +kernel) (by decide +kernel), rl_b11, nI_clamp (by omega), c2, h40, rl_fT (show nI 40 = 40 from rfl)]
          exact ⟨i9, h⟩
      · have hp : p j < 40 := by omega
        refine ⟨nI (p j + 1), setRA (setRA x7 0 (upd (x7.2.2.1 0) (40 * j + p j) (nI t))) 1 (upd (x7.2.2.1 1) j (nI (p j + 1))), setA (setA w 60 (40 * j + p j) (nI t)) 59 j (nI (p j + 1)), va_up p j (p j + 1), fun Q h => ?_, fun Q h => ?_, fun l hl => ?_, fr_A (fr_A (fr_r w) _ _ (by decide)) _ _ (by decide)⟩
        · rw [rl_nly hj r7, rl_b00]
          refine rl_cy t0 ht (by decide) ?_
          unfold wp_X0_add
          simp only [w_X0_pagesOf, jat_nI j9 (by decide), c1]
          rw [rl_eT (show nI (p j) < 40 from nI_lt (b := 40) hp (by omega))]
          have ei : nI j * 40 + nI (p j) = nI (40 * j + p j) := by
            rw [lit32 40, pk_mul, nI_add, Nat.mul_comm]
          have e1 : (setRA x7 0 (upd (x7.2.2.1 0) (40 * j + p j) (nI t))).2.2.1 1 = x7.2.2.1 1 := rfl
          have e2 : ∀ g, (setRA (setRA x7 0 (upd (x7.2.2.1 0) (40 * j + p j) (nI t))) 1 g).2.2.1 1 = g := fun _ => rfl
          simp (disch := omega) only [w_put, ei, jput_nI, forall_eq, e1, e2, jat_nI, c1, nI_1, upd_a, ↓reduceIte]
          exact h
        · rw [rl_ily mr0 hj r7, rl_b11, rl_iy t0 ht (by omega) (by decide +kernel) (by decide +kernel), rl_b11, nI_clamp (by omega), c2, rl_fF (show ¬ nI (p j) = 40 from fun q => h40 ((nI_eq (b := 40) (by omega) (by omega)).mp q))]
          have e1 : (setA w 60 (40 * j + p j) (nI t)).2.2.1 59 j = nI (p j) := c2
          have e2 : ∀ g : Int32, (setA (setA w 60 (40 * j + p j) (nI t)) 59 j g).2.2.1 59 j = g := fun g => by rw [sA_3, if_pos rfl, upd_a, if_pos rfl]
          simp (disch := omega) only [lit32, pk_mul, nI_add, nI_clamp, vp_inN, forall_eq, e1, e2]
          exact ⟨j9, j9, by omega, j9, j9, j9, h⟩
        · show upd (x7.2.2.1 1) j (nI (p j + 1)) l = _ ∧ upd (w.2.2.1 59) j (nI (p j + 1)) l = _ ∧ _ ∧ ∀ i, _ → upd (x7.2.2.1 0) (40 * j + p j) (nI t) (40 * l + i) = upd (w.2.2.1 60) (40 * j + p j) (nI t) (40 * l + i)
          obtain ⟨d1, d2, d3, d4⟩ := hW l hl
          by_cases e : l = j
          · subst e
            rw [va_up_s]
            simp only [upd_a, ↓reduceIte]
            refine ⟨trivial, trivial, by omega, fun i hi => ?_⟩
            by_cases e2 : i = p l
            · rw [e2, if_pos rfl, if_pos rfl]
            · rw [if_neg (by omega), if_neg (by omega)]
              exact d4 i (by omega)
          · rw [va_up_n _ _ e]
            simp only [upd_a, e, ↓reduceIte]
            refine ⟨d1, d2, d3, fun i hi => ?_⟩
            rw [if_neg (by omega), if_neg (by omega)]
            exact d4 i hi
    · refine ⟨-1000000002, x7, w, p, fun Q h => ?_, fun Q h => ?_, hW, fr_r w⟩
      · rw [rl_nly hj r7, rl_b00]
        exact rl_cn h1 h
      · rw [rl_ily mr0 hj r7, rl_b11, rl_ino h2 (by decide +kernel) (by decide +kernel), rl_b10]
        exact h
  · refine ⟨-1000000001, x7, w, p, fun Q h => ?_, fun Q h => ?_, hW, fr_r w⟩
    · rw [rl_nln g1, rl_b01]
      exact h
    · rw [rl_iln mr0 g2, rl_b10]
      exact h
theorem p_tear {r : Ns} {p : Nat → Nat} {vx x7 x9 w : Vl} (x : Int32) (hR : IR r x9 w) (hW : IW p x7 w) : ∃ z u w' p', (∀ Q : Int32 → Vl → Prop, Q z u → wp_X8_tear vx x7 x9 x Q) ∧ (∀ Q : Int32 → Vl → Prop, Q z w' → wp_X9_tear w x Q) ∧ IW p' u w' ∧ fr [] [] [59] [] w w' := by
  obtain ⟨e9, wr, mr⟩ := hR
  have mr0 := mr.1
  have r7 := wr.1
  subst e9
  unfold wp_X8_tear wp_X9_tear
  rcases rl_lt x (r.1 7) r7 with ⟨j, hj, rfl⟩ | ⟨g1, g2⟩
  · have j9 : j < 9 := by omega
    have i9 : vp_in (nI j) 9 := vp_in_nI j9 (by decide)
    obtain ⟨c1, c2, c3, c4⟩ := hW j j9
    refine ⟨nI (p j), setRA x7 1 (upd (x7.2.2.1 1) j (nI 0)), setA w 59 j (nI 0), va_up p j 0, fun Q h => ?_, fun Q h => ?_, fun l hl => ?_, fr_A (fr_r w) _ _ (by decide)⟩
    · rw [rl_nly hj r7, rl_b00]
      simp (disch := omega) only [w_X0_pagesOf, w_X0_empty, jat_nI, jput_nI, c1]
      exact h
    · rw [rl_ily mr0 hj r7, rl_b11, nI_clamp (by omega), c2]
      simp only [forall_eq]
      exact ⟨i9, i9, h⟩
    · show upd (x7.2.2.1 1) j (nI 0) l = _ ∧ upd (w.2.2.1 59) j (nI 0) l = _ ∧ _
      by_cases e : l = j
      · subst e
        rw [va_up_s]
        simp only [upd_a, ↓reduceIte]
        exact ⟨trivial, trivial, by omega, fun i hi => absurd hi (Nat.not_lt_zero _)⟩
      · rw [va_up_n _ _ e]
        simp only [upd_a, e, ↓reduceIte]
        exact hW l hl
  · refine ⟨-1000000001, x7, w, p, fun Q h => ?_, fun Q h => ?_, hW, fr_r w⟩
    · rw [rl_nln g1, rl_b01]
      exact h
    · rw [rl_iln mr0 g2, rl_b10]
      exact h
def zjd (f g : Nat → Int32) : Nat → Nat → Int32
  | 0, _ => -1
  | m + 1, i => if f i = g i then zjd f g m (i + 1) else nI i
theorem q_jd_loop {s : Ns} {vx x7 x9 : Vl} {j o : Nat} {Q : Int32 → Prop} (j9 : j < 9) (ho : o ≤ 40) : ∀ m i, i + m = o → Q (zjd (fun i => x7.2.2.1 0 (40 * j + i)) (fun i => nI (s.2 4 (i * 9 + j))) m i) → wp_X8_judge_c32 vx (encS s) x7 x9 Q (m + 1) (nI j) (nI o) (nI i)
  | 0, i, e, h => by
    obtain rfl : i = o := by omega
    unfold wp_X8_judge_c32
    rw [rl_eT (nI_le (Nat.le_refl _) (by omega))]
    exact h
  | m + 1, i, e, h => by
    unfold zjd at h
    unfold wp_X8_judge_c32 wp_X6_oilOn
    rw [rl_eF (nI_ge (by omega) (by omega))]
    have ei : nI j * 40 + nI i = nI (40 * j + i) := by
      rw [lit32 40, pk_mul, nI_add, Nat.mul_comm]
    simp (disch := omega) only [w_X0_oilOn, ei, jat_nI, w_X6_pageOf, forall_eq, nI_1]
    rw [if_pos (by omega)]
    simp (disch := omega) only [w_at, encS_r, jat_row]
    by_cases c : x7.2.2.1 0 (40 * j + i) = nI (s.2 4 (i * 9 + j))
    · rw [if_pos c] at h
      rw [rl_eT c]
      exact q_jd_loop j9 ho m (i + 1) (by omega) h
    · rw [if_neg c] at h
      rw [rl_eF c]
      exact h
theorem m_jd_loop {r s : Ns} {p : Nat → Nat} {x7 w : Vl} {j : Nat} {Q : Int32 → Prop} (r7 : r.1 7 ≤ 9) (hj : j < r.1 7) (hW : IW p x7 w) (m24 : w.1 24 = nI (s.1 12)) (hd : s.1 12 < 2 ^ 30) (ml : MLi r s 0 w) : ∀ m i, i + m = min (p j) (s.1 12) → Q (zjd (fun i => x7.2.2.1 0 (40 * j + i)) (fun i => nI (s.2 4 (i * 9 + j))) m i) → wp_X9_judge_c14 w Q (m + 1) (nI j) (nI i)
  | 0, i, e, h => by
    obtain ⟨c1, c2, c3, c4⟩ := hW j (by omega)
    unfold wp_X9_judge_c14
    rw [nI_clamp (by omega), c2, m24]
    simp (disch := omega) only [nI_leI]
    refine ⟨vp_in_nI (by omega) (by decide), fun _ => h, fun q => ⟨fun _ => h, fun q2 => absurd e (by omega)⟩⟩
  | m + 1, i, e, h => by
    obtain ⟨c1, c2, c3, c4⟩ := hW j (by omega)
    have e29 := ml j hj i (by omega) (Or.inl (by omega))
    have e60 := c4 i (by omega)
    unfold zjd at h
    unfold wp_X9_judge_c14
    rw [nI_clamp (by omega), c2, m24]
    simp (disch := omega) only [nI_leI, lit32, pk_mul, nI_add, nI_clamp, vp_inN, e29, forall_eq]
    rw [← e60]
    refine ⟨by omega, fun q => absurd q (by omega), fun _ => ⟨fun q => absurd q (by omega), fun _ => ⟨by omega, by omega, ?_⟩⟩⟩
    by_cases c : x7.2.2.1 0 (40 * j + i) = nI (s.2 4 (i * 9 + j))
    · rw [if_pos c] at h
      rw [rl_eT c]
      exact m_jd_loop r7 hj hW m24 hd ml m (i + 1) (by omega) h
    · rw [if_neg c] at h
      rw [rl_eF c]
      exact h
theorem p_judge {c : Nat} {r s : Ns} {p : Nat → Nat} {vx x1 x7 x9 w : Vl} (x : Int32) (hc : c ≤ 64) (hR : IR r x9 w) (hS : IS c r s x1 w) (hW : IW p x7 w) : ∃ z, (∀ Q : Int32 → Prop, Q z → wp_X8_judge vx x1 x7 x9 x Q) ∧ (∀ Q : Int32 → Prop, Q z → wp_X9_judge w x Q) := by
  obtain ⟨e9, wr, mr⟩ := hR
  obtain ⟨e1, ws, hd, ms, ml⟩ := hS
  have mr0 := mr.1
  have r7 := wr.1
  have m24 := ms.2.2.2.2.2.2.2.1
  subst e9 e1
  unfold wp_X8_judge wp_X9_judge
  rcases rl_lt x (r.1 7) r7 with ⟨j, hj, rfl⟩ | ⟨g1, g2⟩
  · have j9 : j < 9 := by omega
    obtain ⟨c1, c2, c3, c4⟩ := hW j j9
    refine ⟨zjd (fun i => x7.2.2.1 0 (40 * j + i)) (fun i => nI (s.2 4 (i * 9 + j))) (min (p j) (s.1 12)) 0, fun Q h => ?_, fun Q h => ?_⟩
    · rw [rl_nly hj r7, rl_b00, w_X0_pagesOf, jat_nI j9 (by decide), c1]
      simp (disch := omega) only [encS_1, i_min, forall_eq]
      exact ⟨_, q_jd_loop j9 (by omega) _ 0 (by omega) h⟩
    · rw [rl_ily mr0 hj r7, rl_b11]
      exact ⟨_, m_jd_loop r7 hj hW m24 (by omega) ml _ 0 (by omega) h⟩
  · refine ⟨-1000000001, fun Q h => ?_, fun Q h => ?_⟩
    · rw [rl_nln g1, rl_b01]
      exact h
    · rw [rl_iln mr0 g2, rl_b10]
      exact h
