/-! ===== reef, whole ===== -/
def zch (s : Ns) : Nat → Ns
  | 0 => s
  | i + 1 => za (zch s i) 6 i (if i / 3 = i % 3 then 100 else 0)
def zunt (s : Ns) : Ns := zu (zch (za (zu (zu (zu (zu (zu (zu (zu s 7 0) 8 20) 9 50) 10 500) 11 0) 12 10) 13 1) 5 0 12) 9) 14 0
theorem zch_1 (s : Ns) : ∀ i, (zch s i).1 = s.1
  | 0 => rfl
  | i + 1 => zch_1 s i
theorem zch_n (s : Ns) {k : Nat} (hk : k ≠ 6) : ∀ i, (zch s i).2 k = s.2 k
  | 0 => rfl
  | i + 1 => (za_n _ _ _ hk).trans (zch_n s hk i)
theorem zch_6 (s : Ns) : ∀ i j, j < i → (zch s i).2 6 j = if j / 3 = j % 3 then 100 else 0
  | 0, j, h => absurd h (Nat.not_lt_zero _)
  | i + 1, j, h => by
    show (za (zch s i) 6 i (if i / 3 = i % 3 then 100 else 0)).2 6 j = _
    by_cases c : j = i
    · rw [c, za_s]
    · rw [za_r _ _ _ _ c]
      exact zch_6 s i j (by omega)
theorem q_untold {s : Ns} {Q : Vl → Prop} (h : Q (encG (zunt s))) : wp_X3_setUntold (encG s) Q := by
  have loop : ∀ m i t, i + m = 9 → Q (encG (zu (zch t 9) 14 0)) → wp_X3_setUntold_c52 Q (m + 1) (encG (zch t i)) (nI i) := by
    intro m
    induction m with
    | zero =>
      intro i t e hq
      obtain rfl : i = 9 := by omega
      have z0 : (0 : Int32) = nI 0 := rfl
      unfold wp_X3_setUntold_c52
      rw [rl_eT (show (9 : Int32) ≤ nI 9 by decide)]
      intro v ev
      rw [z0, encG_setI] at ev
      rw [ev]
      exact hq
    | succ m ih =>
      intro i t e hq
      have step : ∀ x, x = (if i / 3 = i % 3 then 100 else 0) → wp_X3_setUntold_c81 Q (wp_X3_setUntold_c52 Q (m + 1)) (encG (zch t i)) (nI i) (nI x) (nI i) := by
        intro x hx
        unfold wp_X3_setUntold_c81
        refine ⟨vp_in_nI (by omega) (by decide), ?_⟩
        rw [nI_clamp (by omega)]
        intro v ev y ey
        have ev2 : v = encG (za (zch t i) 6 i x) := by
          rw [ev]
          unfold setA
          rw [encG_r, nRow_upd, encG_setRA]
          rfl
        rw [ey, nI_1, ev2, hx]
        exact ih (i + 1) t (by omega) hq
      unfold wp_X3_setUntold_c52
      rw [rl_eF (show ¬ (9 : Int32) ≤ nI i from nI_ge (b := 9) (by omega) (by omega)), lit32 3, pk_rem (by omega) (by omega) (by omega), pk_div (by omega) (by omega) (by omega)]
      simp (disch := omega) only [nI_eq]
      exact ⟨fun c => step 0 (by rw [if_neg c]), fun c => step 100 (by rw [if_pos c])⟩
  unfold wp_X3_setUntold
  simp (disch := omega) only [forall_eq, lit32, encG_setI, w_put, encG_r, jput_row, encG_setRA, zu_2]
  exact ⟨10, loop 9 0 _ rfl h⟩
theorem zunt_1 (s : Ns) : (zunt s).1 7 = 0 ∧ (zunt s).1 8 = 20 ∧ (zunt s).1 9 = 50 ∧ (zunt s).1 10 = 500 ∧ (zunt s).1 11 = 0 ∧ (zunt s).1 12 = 10 ∧ (zunt s).1 13 = 1 ∧ (zunt s).1 14 = 0 := by
  unfold zunt
  simp (disch := omega) only [zu_s, zu_n, zch_1, za_1]
  exact ⟨trivial, trivial, trivial, trivial, trivial, trivial, trivial, trivial⟩
theorem zunt_5 (s : Ns) : (zunt s).2 5 0 = 12 := by
  unfold zunt
  rw [zu_2, zch_n _ (by decide), za_s]
theorem zunt_6 (s : Ns) {j : Nat} (hj : j < 9) : (zunt s).2 6 j = if j / 3 = j % 3 then 100 else 0 := by
  unfold zunt
  rw [zu_2, zch_6 _ 9 j hj]
theorem GR_unt (s : Ns) : GR (zunt s) := by
  obtain ⟨e7, e8, e9, e10, e11, e12, e13, e14⟩ := zunt_1 s
  unfold GR WfR
  rw [e7, e8, e9, e10, e11, e12, e13, e14]
  refine ⟨⟨by omega, by omega, by omega, by omega, by omega, by omega, by omega, by omega, by omega, by omega, by omega, fun i hi => ?_, fun i hi => ?_, fun i hi => ?_, fun l hl => absurd hl (Nat.not_lt_zero _)⟩, by omega⟩
  · obtain rfl : i = 0 := by omega
    rw [zunt_5]
    omega
  · rw [zunt_6 s hi]
    split <;> omega
  · rw [zunt_6 s (by omega), zunt_6 s (by omega), zunt_6 s (by omega)]
    have : i = 0 ∨ i = 1 ∨ i = 2 := by omega
    rcases this with rfl | rfl | rfl <;> rfl
/-! the model takes what was read -/
theorem m_tk3 {r s : Ns} {w0 : Vl} {Q : Vl → Prop} (hr : WfR r) (h30 : w0.1 30 = nI (s.1 16)) (h0 : w0.1 0 = nI (r.1 7)) (h2 : w0.1 2 = nI (r.1 8)) (h3 : w0.1 3 = nI (r.1 9)) (h4 : w0.1 4 = nI (r.1 10)) (h5 : w0.1 5 = nI (r.1 11)) (h6 : w0.1 6 = nI (r.1 12)) (h7 : w0.1 7 = nI (r.1 13)) (h8 : ∀ i, i < r.1 13 → w0.2.2.1 8 i = nI (r.2 5 i)) (h1 : ∀ l, l < r.1 7 → ∀ k, k < 5 → w0.2.2.1 1 (5 * l + k) = nI (r.2 k l)) (h44 : ∀ i, i < 9 → w0.2.2.1 44 i = nI (r.2 6 i))
    (hQ : ∀ w', MR r w' → MS r (zstart r s) 0 0 w' → MLi r (zstart r s) 0 w' → w'.1 56 = nI 0 → w'.2.2.1 50 0 = 0 → w'.2.2.1 50 1 = 0 → (∀ l, l < 9 → w'.2.2.1 59 l = nI 0) → fr [18, 21, 22, 23, 24, 27, 28, 56] [17, 19, 20, 25, 26] [9, 13, 14, 15, 16, 50, 59] [] w0 w' → Q w') :
    ∀ m i w, i + m = 9 → fr [] [] [9, 59] [] w0 w → (∀ j, j < i → w.2.2.1 9 j = nI (r.2 6 j) ∧ w.2.2.1 59 j = nI 0) → wp_X9_takeReef_c120 Q (m + 1) w (nI i)
  | 0, i, w, e, f, hw => by
    obtain rfl : i = 9 := by omega
    have c0 : Int32.toNatClampNeg 0 = 0 := by decide
    have c1 : Int32.toNatClampNeg 1 = 1 := by decide
    have n0 : vp_nar .boolean 0 = 0 := rfl
    have hv0 : vp_in 0 2 := vp_in_nI (n := 0) (by omega) (by decide)
    have hv1 : vp_in 1 2 := vp_in_nI (n := 1) (by omega) (by decide)
    unfold wp_X9_takeReef_c120
    rw [rl_eT (show (9 : Int32) ≤ nI 9 by decide), c0, c1, n0]
    intro a ea
    refine ⟨hv0, ?_⟩
    intro a2 ea2
    refine ⟨hv1, ?_⟩
    intro a3 ea3
    have f3 : fr [18, 21, 22, 23, 24, 27, 28, 56] [17, 19, 20, 25, 26] [9, 13, 14, 15, 16, 50, 59] [] w0 a3 := by
      rw [ea3, ea2, ea]
      exact fr_A (fr_A (fr_I (fr_m f (by decide) (by decide) (by decide) (by decide)) _ (by decide)) _ _ (by decide)) _ _ (by decide)
    have mr : MR r a3 := by
      unfold MR
      rw [f3.1 0 (by decide), f3.1 2 (by decide), f3.1 3 (by decide), f3.1 4 (by decide), f3.1 5 (by decide), f3.1 6 (by decide), f3.1 7 (by decide), f3.2.2.1 8 (by decide), f3.2.2.1 1 (by decide)]
      refine ⟨h0, h2, h3, h4, h5, h6, h7, h8, fun j hj => ?_, h1⟩
      rw [ea3, ea2, ea]
      exact (hw j hj).1
    have e30 : a3.1 30 = nI (s.1 16) := by rw [f3.1 30 (by decide)]; exact h30
    refine m_anew (s := s) hr e30 mr (fun w' q1 q2 q3 => hQ w' (MR_fr mr q3 (by decide) (by decide)) q1 q2 ?_ ?_ ?_ (fun l hl => ?_) (fr_t f3 (fr_m q3 (by decide) (by decide) (by decide) (by decide))))
    · rw [q3.1 56 (by decide), ea3, ea2, ea]
      rfl
    · rw [q3.2.2.1 50 (by decide), ea3, sA_3, if_pos rfl, upd_a, if_neg (by decide), ea2, sA_3, if_pos rfl, upd_a, if_pos rfl]
    · rw [q3.2.2.1 50 (by decide), ea3, sA_3, if_pos rfl, upd_a, if_pos rfl]
    · rw [q3.2.2.1 59 (by decide), ea3, ea2, ea]
      exact (hw l hl).2
  | m + 1, i, w, e, f, hw => by
    have e44 : w.2.2.1 44 = w0.2.2.1 44 := f.2.2.1 44 (by decide)
    have hv : vp_in (nI i) 9 := vp_in_nI (by omega) (by decide)
    unfold wp_X9_takeReef_c120
    rw [rl_eF (show ¬ (9 : Int32) ≤ nI i from nI_ge (b := 9) (by omega) (by omega)), nI_clamp (by omega), e44, h44 i (by omega)]
    refine ⟨hv, hv, ?_⟩
    intro a ea
    refine ⟨hv, ?_⟩
    intro a2 ea2 x ex
    rw [ex, nI_1, ea2, ea]
    refine m_tk3 hr h30 h0 h2 h3 h4 h5 h6 h7 h8 h1 h44 hQ m (i + 1) _ (by omega) (fr_A (fr_A f _ _ (by decide)) _ _ (by decide)) (fun j hj => ?_)
    simp only [sA_3, ↓reduceIte, Nat.reduceEqDiff, upd_a]
    by_cases c : j = i
    · rw [if_pos c, if_pos c, c]
      exact ⟨rfl, rfl⟩
    · rw [if_neg c, if_neg c]
      exact hw j (by omega)
theorem m_takeReef {b : Nat → Nat} {n p : Nat} {r s : Ns} {w : Vl} {Q : Vl → Prop} (hr : WfR r) (h30 : w.1 30 = nI (s.1 16)) (hw : PM b n r p w)
    (hQ : ∀ w', MR r w' → MS r (zstart r s) 0 0 w' → MLi r (zstart r s) 0 w' → w'.1 56 = nI 0 → w'.2.2.1 50 0 = 0 → w'.2.2.1 50 1 = 0 → (∀ l, l < 9 → w'.2.2.1 59 l = nI 0) → fr [0, 2, 3, 4, 5, 6, 7, 18, 21, 22, 23, 24, 27, 28, 56] [17, 19, 20, 25, 26] [1, 8, 9, 13, 14, 15, 16, 50, 59] [] (setI w 32 0) w' → Q w') : wp_X9_takeReef (setI w 32 0) Q := by
  obtain ⟨a1, h33, h39, h40, h41, h42, h43, h44, h45⟩ := hw
  have r7 := hr.1
  have r13 := hr.2.2.2.2.2.2.2.2.2.2.1
  have c0 : Int32.toNatClampNeg 0 = 0 := by decide
  have c1 : Int32.toNatClampNeg 1 = 1 := by decide
  have c2 : Int32.toNatClampNeg 2 = 2 := by decide
  have c3 : Int32.toNatClampNeg 3 = 3 := by decide
  have c4 : Int32.toNatClampNeg 4 = 4 := by decide
  have v0 : vp_in 0 5 := vp_in_nI (n := 0) (by omega) (by decide)
  have v1 : vp_in 1 5 := vp_in_nI (n := 1) (by omega) (by decide)
  have v2 : vp_in 2 5 := vp_in_nI (n := 2) (by omega) (by decide)
  have v3 : vp_in 3 5 := vp_in_nI (n := 3) (by omega) (by decide)
  have v4 : vp_in 4 5 := vp_in_nI (n := 4) (by omega) (by decide)
  have lp2 : ∀ (w1 : Vl), fr [0, 2, 3, 4, 5, 6, 7, 18, 21, 22, 23, 24, 27, 28, 56] [17, 19, 20, 25, 26] [1, 8, 9, 13, 14, 15, 16, 50, 59] [] (setI w 32 0) w1 → w1.1 0 = nI (r.1 7) → w1.1 2 = nI (r.1 8) → w1.1 3 = nI (r.1 9) → w1.1 4 = nI (r.1 10) → w1.1 5 = nI (r.1 11) → w1.1 6 = nI (r.1 12) → w1.1 7 = nI (r.1 13) → (∀ l, l < r.1 7 → ∀ k, k < 5 → w1.2.2.1 1 (5 * l + k) = nI (r.2 k l)) →
      ∀ m i u, i + m = 12 → fr [] [] [8] [] w1 u → (∀ j, j < i → j < r.1 13 → u.2.2.1 8 j = nI (r.2 5 j)) → wp_X9_takeReef_c94 Q (m + 1) u (nI i) := by
    intro w1 f1 g0 g2 g3 g4 g5 g6 g7 gl m
    have e43 : w1.2.2.1 43 = w.2.2.1 43 := f1.2.2.1 43 (by decide)
    have e44 : w1.2.2.1 44 = w.2.2.1 44 := f1.2.2.1 44 (by decide)
    have e30 : w1.1 30 = nI (s.1 16) := by rw [f1.1 30 (by decide)]; exact h30
    induction m with
    | zero =>
      intro i u ei fu hu
      obtain rfl : i = 12 := by omega
      unfold wp_X9_takeReef_c94
      rw [rl_eT (show (12 : Int32) ≤ nI 12 by decide)]
      refine ⟨10, m_tk3 (w0 := u) hr (by rw [fu.1 30 (by decide)]; exact e30) (by rw [fu.1 0 (by decide)]; exact g0) (by rw [fu.1 2 (by decide)]; exact g2) (by rw [fu.1 3 (by decide)]; exact g3) (by rw [fu.1 4 (by decide)]; exact g4) (by rw [fu.1 5 (by decide)]; exact g5) (by rw [fu.1 6 (by decide)]; exact g6) (by rw [fu.1 7 (by decide)]; exact g7) (fun j hj => hu j (by omega) hj) (by rw [fu.2.2.1 1 (by decide)]; exact gl) (by rw [fu.2.2.1 44 (by decide), e44]; exact h44) (fun w' q1 q2 q3 q4 q5 q6 q7 q8 => ?_) 9 0 u (by omega) (fr_r u) (fun j hj => absurd hj (Nat.not_lt_zero _))⟩
      exact hQ w' q1 q2 q3 q4 q5 q6 q7 (fr_t f1 (fr_t (fr_m fu (by decide) (by decide) (by decide) (by decide)) (fr_m q8 (by decide) (by decide) (by decide) (by decide))))
    | succ m ih =>
      intro i u ei fu hu
      have hv : vp_in (nI i) 12 := vp_in_nI (by omega) (by decide)
      unfold wp_X9_takeReef_c94
      rw [rl_eF (show ¬ (12 : Int32) ≤ nI i from nI_ge (b := 12) (by omega) (by omega)), nI_clamp (by omega), fu.2.2.1 43 (by decide), e43]
      refine ⟨hv, hv, ?_⟩
      intro a ea x ex
      rw [ex, nI_1, ea]
      refine ih (i + 1) _ (by omega) (fr_A fu _ _ (by decide)) (fun j hj hj13 => ?_)
      rw [sA_3, if_pos rfl, upd_a]
      by_cases c : j = i
      · rw [if_pos c, ← c]
        exact h43 j hj13
      · rw [if_neg c]
        exact hu j (by omega) hj13
  have lp1 : ∀ m i u, i + m = 45 → fr [0] [] [1] [] (setI w 32 0) u → u.1 0 = nI (r.1 7) → (∀ j, j < i → u.2.2.1 1 j = w.2.2.1 40 j) → wp_X9_takeReef_c10 Q (m + 1) u (nI i) := by
    intro m
    induction m with
    | zero =>
      intro i u ei fu hu0 hu
      obtain rfl : i = 45 := by omega
      have e41 : u.2.2.1 41 = w.2.2.1 41 := fu.2.2.1 41 (by decide)
      have e42 : u.1 42 = nI (r.1 13) := by rw [fu.1 42 (by decide)]; exact h42
      have k0 := h41 0 (by omega)
      have k1 := h41 1 (by omega)
      have k2 := h41 2 (by omega)
      have k3 := h41 3 (by omega)
      have k4 := h41 4 (by omega)
      unfold wp_X9_takeReef_c10
      rw [rl_eT (show (45 : Int32) ≤ nI 45 by decide), c0, c1, c2, c3, c4]
      refine ⟨v0, ?_⟩
      intro a ea
      refine ⟨v1, ?_⟩
      intro a2 ea2
      refine ⟨v2, ?_⟩
      intro a3 ea3
      refine ⟨v3, ?_⟩
      intro a4 ea4
      refine ⟨v4, ?_⟩
      intro a5 ea5 a6 ea6
      have x1 : a.2.2.1 41 1 = nI (r.1 9) := by rw [ea]; show u.2.2.1 41 1 = _; rw [e41]; exact k1
      have x2 : a2.2.2.1 41 2 = nI (r.1 10) := by rw [ea2, ea]; show u.2.2.1 41 2 = _; rw [e41]; exact k2
      have x3 : a3.2.2.1 41 3 = nI (r.1 11) := by rw [ea3, ea2, ea]; show u.2.2.1 41 3 = _; rw [e41]; exact k3
      have x4 : a4.2.2.1 41 4 = nI (r.1 12) := by rw [ea4, ea3, ea2, ea]; show u.2.2.1 41 4 = _; rw [e41]; exact k4
      have x5 : a5.1 42 = nI (r.1 13) := by rw [ea5, ea4, ea3, ea2, ea]; exact e42
      rw [e41, k0] at ea
      rw [x1] at ea2
      rw [x2] at ea3
      rw [x3] at ea4
      rw [x4] at ea5
      rw [x5] at ea6
      refine ⟨13, lp2 a6 ?_ ?_ ?_ ?_ ?_ ?_ ?_ ?_ ?_ 12 0 a6 (by omega) (fr_r a6) (fun j hj => absurd hj (Nat.not_lt_zero _))⟩
      · rw [ea6, ea5, ea4, ea3, ea2, ea]
        exact fr_I (fr_I (fr_I (fr_I (fr_I (fr_I (fr_m fu (by decide) (by decide) (by decide) (by decide)) _ (by decide)) _ (by decide)) _ (by decide)) _ (by decide)) _ (by decide)) _ (by decide)
      · rw [ea6, ea5, ea4, ea3, ea2, ea]; exact hu0
      · rw [ea6, ea5, ea4, ea3, ea2, ea]; rfl
      · rw [ea6, ea5, ea4, ea3, ea2, ea]; rfl
      · rw [ea6, ea5, ea4, ea3, ea2, ea]; rfl
      · rw [ea6, ea5, ea4, ea3, ea2, ea]; rfl
      · rw [ea6, ea5, ea4, ea3, ea2, ea]; rfl
      · rw [ea6]; rfl
      · intro l hl k hk
        rw [ea6, ea5, ea4, ea3, ea2, ea]
        show u.2.2.1 1 (5 * l + k) = _
        rw [hu _ (by omega)]
        exact h40 l hl k hk
    | succ m ih =>
      intro i u ei fu hu0 hu
      have hv : vp_in (nI i) 45 := vp_in_nI (by omega) (by decide)
      have e40 : u.2.2.1 40 = w.2.2.1 40 := fu.2.2.1 40 (by decide)
      unfold wp_X9_takeReef_c10
      rw [rl_eF (show ¬ (45 : Int32) ≤ nI i from nI_ge (b := 45) (by omega) (by omega)), nI_clamp (by omega), e40]
      refine ⟨hv, hv, ?_⟩
      intro a ea x ex
      rw [ex, nI_1, ea]
      refine ih (i + 1) _ (by omega) (fr_A fu _ _ (by decide)) hu0 (fun j hj => ?_)
      rw [sA_3, if_pos rfl, upd_a]
      by_cases c : j = i
      · rw [if_pos c, c]
      · rw [if_neg c]
        exact hu j (by omega)
  unfold wp_X9_takeReef
  intro a ea
  have e39 : (setI w 32 0).1 39 = nI (r.1 7) := h39
  rw [e39] at ea
  refine ⟨46, lp1 45 0 a (by omega) ?_ ?_ (fun j hj => absurd hj (Nat.not_lt_zero _))⟩
  · rw [ea]; exact fr_I (fr_r _) _ (by decide)
  · rw [ea]; rfl
