/-! ===== reef, the call ===== -/
theorem q_bclear {v : Vl} {Q : Vl → Prop} (h : ∀ u : Vl, (∀ l, l < 9 → u.2.2.1 1 l = nI 0) → Q u) : wp_X0_clear v Q := by
  have loop : ∀ m i (v : Vl), i + m = 9 → (∀ l, l < i → v.2.2.1 1 l = nI 0) → wp_X0_clear_c2 Q (m + 1) v (nI i) := by
    intro m
    induction m with
    | zero =>
      intro i v e hv
      obtain rfl : i = 9 := by omega
      unfold wp_X0_clear_c2
      rw [rl_eT (show (9 : Int32) ≤ nI 9 by decide)]
      exact h v hv
    | succ m ih =>
      intro i v e hv
      unfold wp_X0_clear_c2
      rw [rl_eF (show ¬ (9 : Int32) ≤ nI i from nI_ge (b := 9) (by omega) (by omega)), w_X0_empty, jput_nI (by omega) (by decide)]
      intro x ex
      rw [ex, nI_1]
      refine ih (i + 1) _ (by omega) (fun l hl => ?_)
      show upd (v.2.2.1 1) i 0 l = _
      rw [upd_a]
      by_cases c : l = i
      · rw [if_pos c]; rfl
      · rw [if_neg c]; exact hv l (by omega)
  exact ⟨10, loop 9 0 v rfl (fun l hl => absurd hl (Nat.not_lt_zero _))⟩
theorem q_forget {v : Vl} {f : Nat → Int32} {Q : (Nat → Int32) → Prop} (h : ∀ g : Nat → Int32, g 0 = 0 → g 1 = 0 → Q g) : wp_X8_forgetImages v f Q := by
  have v0 : vp_in (nI 0) 2 := vp_in_nI (n := 0) (by omega) (by decide)
  have v1 : vp_in (nI 1) 2 := vp_in_nI (n := 1) (by omega) (by decide)
  have n0 : vp_nar .boolean 0 = 0 := rfl
  refine ⟨3, ?_⟩
  show wp_X8_forgetImages_c2 v Q 3 f (nI 0)
  unfold wp_X8_forgetImages_c2
  rw [rl_eF (show ¬ (2 : Int32) ≤ nI 0 by decide), nI_clamp (by omega), n0]
  refine ⟨v0, ?_⟩
  intro g eg x ex
  rw [ex, nI_1]
  unfold wp_X8_forgetImages_c2
  rw [rl_eF (show ¬ (2 : Int32) ≤ nI (0 + 1) by decide), nI_clamp (by omega), n0]
  refine ⟨v1, ?_⟩
  intro g2 eg2 x2 ex2
  rw [ex2, nI_1]
  unfold wp_X8_forgetImages_c2
  rw [rl_eT (show (2 : Int32) ≤ nI (0 + 1 + 1) by decide)]
  refine h g2 ?_ ?_
  · rw [eg2, upd_a, if_neg (by decide), eg, upd_a, if_pos rfl]
  · rw [eg2, upd_a, if_pos rfl]
theorem i34 : ∀ i, i < 9 → (i % 4 = 0 ↔ i / 3 = i % 3) := by decide
theorem m_reef_0 {b : Nat → Nat} {n : Nat} {kk : Ns} {w : Vl} {Q : Int32 → Vl → Prop} (h32 : w.1 32 = nI n) (ht : ∀ i, i < n → w.2.2.1 31 i = nI (b i)) (hQ : ∀ u, PM b n (zunt kk) 0 u → frR w u → ∃ k, wp_X9_reef_c107 Q k u 0) : wp_X9_reef w Q := by
  obtain ⟨e7, e8, e9, e10, e11, e12, e13, e14⟩ := zunt_1 kk
  have c0 : Int32.toNatClampNeg 0 = 0 := by decide
  have c1 : Int32.toNatClampNeg 1 = 1 := by decide
  have c2 : Int32.toNatClampNeg 2 = 2 := by decide
  have c3 : Int32.toNatClampNeg 3 = 3 := by decide
  have c4 : Int32.toNatClampNeg 4 = 4 := by decide
  have v0 : vp_in 0 5 := vp_in_nI (n := 0) (by omega) (by decide)
  have v1 : vp_in 1 5 := vp_in_nI (n := 1) (by omega) (by decide)
  have v2 : vp_in 2 5 := vp_in_nI (n := 2) (by omega) (by decide)
  have v3 : vp_in 3 5 := vp_in_nI (n := 3) (by omega) (by decide)
  have v4 : vp_in 4 5 := vp_in_nI (n := 4) (by omega) (by decide)
  have v5 : vp_in 0 12 := vp_in_nI (n := 0) (by omega) (by decide)
  have loop : ∀ m i w1, i + m = 9 → frR w w1 → (∀ (u : Vl), fr [] [] [44] [] w1 u → (∀ j, j < 9 → u.2.2.1 44 j = nI ((zunt kk).2 6 j)) → PM b n (zunt kk) 0 u) → ∀ u, fr [] [] [44] [] w1 u → (∀ j, j < i → u.2.2.1 44 j = nI ((zunt kk).2 6 j)) → wp_X9_reef_c75 Q (m + 1) u (nI i) := by
    intro m
    induction m with
    | zero =>
      intro i w1 e f hp u fu hu
      obtain rfl : i = 9 := by omega
      unfold wp_X9_reef_c75
      rw [rl_eT (show (9 : Int32) ≤ nI 9 by decide)]
      exact hQ u (hp u fu hu) (fr_t f (fr_m fu (by decide) (by decide) (by decide) (by decide)))
    | succ m ih =>
      intro i w1 e f hp u fu hu
      have step : ∀ x, x = (zunt kk).2 6 i → wp_X9_reef_c98 Q (wp_X9_reef_c75 Q (m + 1)) u (nI i) (nI x) (nI i) := by
        intro x hx
        unfold wp_X9_reef_c98
        refine ⟨vp_in_nI (by omega) (by decide), ?_⟩
        rw [nI_clamp (by omega)]
        intro a ea y ey
        rw [ey, nI_1, ea]
        refine ih (i + 1) w1 (by omega) f hp _ (fr_A fu _ _ (by decide)) (fun j hj => ?_)
        rw [sA_3, if_pos rfl, upd_a]
        by_cases c : j = i
        · rw [if_pos c, hx, c]
        · rw [if_neg c]; exact hu j (by omega)
      have e6 := zunt_6 kk (j := i) (by omega)
      have e34 := i34 i (by omega)
      unfold wp_X9_reef_c75
      rw [rl_eF (show ¬ (9 : Int32) ≤ nI i from nI_ge (b := 9) (by omega) (by omega)), lit32 4, pk_rem (by omega) (by omega) (by omega)]
      refine ⟨fun c => step 0 ?_, fun c => step 100 ?_⟩
      · rw [e6, if_neg (fun q => c (by rw [e34.mpr q]; rfl))]
      · have : i % 4 = 0 := (nI_eq (b := 0) (by omega) (by omega)).mp c
        rw [e6, if_pos (e34.mp this)]
  unfold wp_X9_reef
  rw [c0, c1, c2, c3, c4]
  intro a1 ea1 a2 ea2 a3 ea3 a4 ea4
  refine ⟨v0, ?_⟩
  intro a5 ea5
  refine ⟨v1, ?_⟩
  intro a6 ea6
  refine ⟨v2, ?_⟩
  intro a7 ea7
  refine ⟨v3, ?_⟩
  intro a8 ea8
  refine ⟨v4, ?_⟩
  intro a9 ea9 a10 ea10
  refine ⟨v5, ?_⟩
  intro a11 ea11
  have f11 : frR w a11 := by
    rw [ea11, ea10, ea9, ea8, ea7, ea6, ea5, ea4, ea3, ea2, ea1]
    exact fr_A (fr_I (fr_A (fr_A (fr_A (fr_A (fr_A (fr_I (fr_I (fr_I (fr_I (fr_r w) _ (by decide)) _ (by decide)) _ (by decide)) _ (by decide)) _ _ (by decide)) _ _ (by decide)) _ _ (by decide)) _ _ (by decide)) _ _ (by decide)) _ (by decide)) _ _ (by decide)
  refine ⟨10, loop 9 0 a11 (by omega) f11 (fun u fu hu => ?_) a11 (fr_r _) (fun j hj => absurd hj (Nat.not_lt_zero _))⟩
  have k41 : ∀ i, i < 5 → a11.2.2.1 41 i = nI ((zunt kk).1 (8 + i)) := by
    intro i hi
    have : i = 0 ∨ i = 1 ∨ i = 2 ∨ i = 3 ∨ i = 4 := by omega
    rw [ea11, ea10, ea9, ea8, ea7, ea6, ea5]
    rcases this with rfl | rfl | rfl | rfl | rfl
    · rw [e8]; rfl
    · rw [e9]; rfl
    · rw [e10]; rfl
    · rw [e11]; rfl
    · rw [e12]; rfl
  refine ⟨⟨?_, ?_, fun i hi => ?_⟩, ?_, ?_, fun l hl => ?_, fun i hi => ?_, ?_, fun i hi => ?_, fun i hi => hu i hi, 0, by omega, ?_⟩
  · rw [fu.1 32 (by decide), f11.1 32 (by decide)]; exact h32
  · rw [fu.1 34 (by decide), ea11, ea10, ea9, ea8, ea7, ea6, ea5, ea4, ea3, ea2]; rfl
  · rw [fu.2.2.1 31 (by decide), f11.2.2.1 31 (by decide)]; exact ht i hi
  · rw [fu.1 33 (by decide), ea11, ea10, ea9, ea8, ea7, ea6, ea5, ea4, ea3, ea2, ea1]; rfl
  · rw [fu.1 39 (by decide), e7, ea11, ea10, ea9, ea8, ea7, ea6, ea5, ea4, ea3]; rfl
  · rw [e7] at hl; omega
  · rw [fu.2.2.1 41 (by decide)]; exact k41 i hi
  · rw [fu.1 42 (by decide), e13, ea11, ea10]; rfl
  · rw [e13] at hi
    obtain rfl : i = 0 := by omega
    rw [fu.2.2.1 43 (by decide), zunt_5, ea11]
    rfl
  · rw [fu.1 45 (by decide), e14, ea11, ea10, ea9, ea8, ea7, ea6, ea5, ea4]; rfl
theorem p_reef {c : Nat} {b : Nat → Nat} {n : Nat} {r s : Ns} {vx x0 x1 x6 x7 x9 x10 w : Vl} {f3 : Nat → Int32} (hT : IT b n vx x0 w) (hS : IS c r s x1 w) (h10 : ∃ t, x10 = encG t) :
    ∃ z, (∃ fv, (∀ Q : Int32 → Vl → Vl → Vl → (Nat → Int32) → Vl → Vl → Vl → Vl → Prop, (∀ a0 a1 t, a0.1 13 = fv → a1.1 1 = nI 0 → Q z a0 a1 x1 f3 x6 x7 x9 (encG t)) → wp_X8_reef vx x0 x1 f3 x6 x7 x9 x10 Q) ∧
        (∀ Q : Int32 → Vl → Prop, (∀ w', w'.1 33 = fv → w'.1 32 = nI 0 → fr [32, 33, 34, 36, 37, 38, 39, 42, 45] [35] [40, 41, 43, 44] [] w w' → Q z w') → wp_X9_reef w Q)) ∨
      (∃ r', WfR r' ∧ (∀ Q : Int32 → Vl → Vl → Vl → (Nat → Int32) → Vl → Vl → Vl → Vl → Prop, (∀ a0 a1 g a6 a7, a0.1 13 = -1 → a1.1 1 = nI 0 → g 0 = 0 → g 1 = 0 → a6.1 2 = nI 0 → (∀ l, l < 9 → a7.2.2.1 1 l = nI 0) → Q z a0 a1 (encS (zstart r' s)) g a6 a7 (encG r') x9) → wp_X8_reef vx x0 x1 f3 x6 x7 x9 x10 Q) ∧
        (∀ Q : Int32 → Vl → Prop, (∀ w', w'.1 33 = -1 → w'.1 32 = nI 0 → MR r' w' → MS r' (zstart r' s) 0 0 w' → MLi r' (zstart r' s) 0 w' → w'.1 56 = nI 0 → w'.2.2.1 50 0 = 0 → w'.2.2.1 50 1 = 0 → (∀ l, l < 9 → w'.2.2.1 59 l = nI 0) → fr [0, 2, 3, 4, 5, 6, 7, 18, 21, 22, 23, 24, 27, 28, 32, 33, 34, 36, 37, 38, 39, 42, 45, 56] [17, 19, 20, 25, 26, 35] [1, 8, 9, 13, 14, 15, 16, 40, 41, 43, 44, 50, 59] [] w w' → Q z w') → wp_X9_reef w Q)) := by
  obtain ⟨t1, t2, t3, t4, t5⟩ := hT
  obtain ⟨kk, rfl⟩ := h10
  have T : Tx b n := ⟨t3, fun i hi => (t5 i hi).2.2⟩
  have e1 := hS.1
  have m30 := hS.2.2.2.1.2.2.2.2.2.2.2.2.2.2.2.1
  have cst : ∀ Q : Int32 → Vl → Vl → Vl → (Nat → Int32) → Vl → Vl → Vl → Vl → Prop, (∀ v1, TC b n 0 v1 → ∃ k, wp_X3_readFrom_c10 (fun r_3 u_1 u_2 => wp_X7_clear u_2 (fun u_4 => ((¬ r_3 = 0 → ∀ v0s_5 : Vl, v0s_5 = setI vx 13 (-1) → wp_X1_clear x6 (fun u_6 => wp_X0_clear x7 (fun u_7 => wp_X8_forgetImages v0s_5 f3 (fun u_8 => wp_X6_startOver 360 x1 u_1 (fun u_9 => Q (u_1.1 7) v0s_5 u_4 u_9 u_8 u_6 u_7 u_1 x9))))) ∧ (r_3 = 0 → wp_X8_refuseText vx u_4 (fun r_11 u_10 => Q r_11 u_10 u_4 x1 f3 x6 x7 x9 u_1))))) k (encG (zunt kk)) v1 (nI 0)) → wp_X8_reef vx x0 x1 f3 x6 x7 x9 (encG kk) Q := by
    intro Q h
    unfold wp_X8_reef wp_X3_readFrom
    refine q_untold ?_
    unfold wp_X7_startReading
    intro a ea a2 ea2 a3 ea3
    subst ea ea2 ea3
    exact h (setI (setI (setI x0 2 0) 6 0) 7 (-1)) ⟨t1, rfl, fun i hi => (t5 i hi).1⟩
  rcases r_loop T n 0 0 (zunt kk) (by omega) (by omega) (by omega) (GR_unt kk) with ⟨f, pl, f1, f4, hpl, hC, hM⟩ | ⟨r', hr', hC, hM⟩
  · refine ⟨-10 - nI f, Or.inl ⟨nI pl, fun Q h => cst Q (fun v1 hv => ⟨_, hC v1 hv _ (fun r' u hu => ?_)⟩), fun Q h => m_reef_0 (kk := kk) t2 (fun i hi => (t5 i hi).2.1) (fun u hu fu => ⟨_, hM u hu Q (fun w' hw' f' => ?_)⟩)⟩⟩
    · unfold wp_X7_clear wp_X8_refuseText
      intro u4 eu4
      subst eu4
      refine rl_b10.mpr ?_
      have e6 : (setI u 1 0).1 6 = nI f := hu.1
      have e7 : (setI u 1 0).1 7 = nI pl := hu.2
      intro v5 ev5
      rw [e6]
      exact h _ _ r' (by rw [ev5, e7]; rfl) rfl
    · unfold wp_X9_reef_c126
      intro a ea
      rw [rl_eF (nI_nle (by omega) (by omega))]
      have f2 := fr_t fu f'
      rw [ea]
      exact h _ hw' rfl (fr_I (fr_m f2 (by decide) (by decide) (by decide) (by decide)) _ (by decide))
  · refine ⟨nI (r'.1 7), Or.inr ⟨r', hr'.1, fun Q h => cst Q (fun v1 hv => ⟨_, hC v1 hv _ (fun u => ?_)⟩), fun Q h => m_reef_0 (kk := kk) t2 (fun i hi => (t5 i hi).2.1) (fun u hu fu => ⟨_, hM u hu Q (fun w' q hw' f' => ?_)⟩)⟩⟩
    · unfold wp_X7_clear
      intro u4 eu4
      subst eu4
      refine rl_b11.mpr ?_
      intro v5 ev5
      unfold wp_X1_clear
      intro u6 eu6
      refine q_bclear (fun u7 hu7 => q_forget (fun g g0 g1 => ?_))
      rw [e1]
      refine q_over ?_
      rw [encG_1]
      exact h _ _ g u6 u7 (by rw [ev5]; rfl) rfl g0 g1 (by rw [eu6]; rfl) hu7
    · unfold wp_X9_reef_c126
      intro a ea
      rw [rl_eT (by decide), ea]
      have f2 : frR w w' := fr_t fu f'
      refine m_takeReef (s := s) hr'.1 (by rw [f2.1 30 (by decide)]; exact m30) hw' (fun w2 q1 q2 q3 q4 q5 q6 q7 q8 => ?_)
      rw [q1.1]
      refine h w2 ?_ ?_ q1 q2 q3 q4 q5 q6 q7 (fr_t (fr_I (fr_m f2 (by decide) (by decide) (by decide) (by decide)) _ (by decide)) (fr_m q8 (by decide) (by decide) (by decide) (by decide)))
      · rw [q8.1 33 (by decide)]; exact hw'.2.1
      · rw [q8.1 32 (by decide)]; rfl
