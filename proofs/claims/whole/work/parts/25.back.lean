/-! ===== load, keep, goBack ===== -/
theorem m_load2 {r t : Ns} {w0 : Vl} {o : Nat} {Q : Vl → Prop} (ho : o ≤ 820) (r7 : r.1 7 ≤ 9) (mi : MI r t o w0) (hQ : ∀ w', MS r t 0 0 w' → MLi r t 0 w' → fr [18, 21, 22, 23, 24, 27, 28, 30] [17, 19, 20, 25, 26] [13, 14, 15, 16, 29] [] w0 w' → Q w') :
    ∀ m i w, i + m = 360 → MS r t 0 0 w → fr [18, 21, 22, 23, 24, 27, 28, 30] [17, 19, 20, 25, 26] [13, 14, 15, 16, 29] [] w0 w → (∀ j, j < i → w.2.2.1 29 j = (w0.2.2.2 49 (o + 50 + j)).toInt32) → wp_X9_load_c277 Q (m + 1) w (nI o) (nI i)
  | 0, i, w, e, h1, h2, h3 => by
    obtain rfl : i = 360 := by omega
    unfold wp_X9_load_c277
    rw [rl_eT (show (360 : Int32) ≤ nI 360 by decide)]
    refine hQ w h1 (fun l hl d hd hc => ?_) h2
    rw [h3 _ (by omega)]
    exact mi.2.2.2.2.2.2.2.2.2.2.2.2.2 l hl d hd (by omega)
  | m + 1, i, w, e, h1, h2, h3 => by
    have e49 : w.2.2.2 49 = w0.2.2.2 49 := h2.2.2.2 49 (by decide)
    unfold wp_X9_load_c277
    rw [rl_eF (show ¬ (360 : Int32) ≤ nI i from nI_ge (b := 360) (by omega) (by omega)), e49]
    simp (disch := omega) only [lit32, nI_add, nI_clamp, vp_inN, forall_eq]
    refine ⟨by omega, by omega, ?_⟩
    refine m_load2 ho r7 mi hQ m (i + 1) _ (by omega) ?_ (fr_A h2 _ _ (by decide)) ?_
    · exact MS_fr (LI := []) (LJ := []) (LA := [29]) (LB := []) h1 (fr_A (fr_r w) _ _ (by decide)) (by decide) (by decide) (by decide)
    · intro j hj
      rw [sA_3, if_pos rfl, upd_a]
      by_cases c : j = i
      · rw [if_pos c, c]
      · rw [if_neg c]
        exact h3 j (by omega)
theorem m_load1 {r t : Ns} {w0 : Vl} {o : Nat} {Q : Vl → Prop} (ho : o ≤ 820) (hr : WfR r) (hs : WfS r t 0 0) (mi : MI r t o w0) (hQ : ∀ w', MS r t 0 0 w' → MLi r t 0 w' → fr [18, 21, 22, 23, 24, 27, 28, 30] [17, 19, 20, 25, 26] [13, 14, 15, 16, 29] [] w0 w' → Q w') :
    ∀ m i w, i + m = 9 → fr [18, 21, 22, 23, 24, 27, 28, 30] [17, 19, 20, 25, 26] [13, 14, 15, 16, 29] [] w0 w → (∀ l, l < i → l < r.1 7 → w.2.2.1 13 l = nI (t.2 0 l) ∧ w.2.2.1 14 l = nI (t.2 1 l) ∧ w.2.2.1 15 l = nI (t.2 2 l) ∧ w.2.2.1 16 l = nI (t.2 3 l)) → wp_X9_load_c8 Q (m + 1) w (nI o) (nI i)
  | 0, i, w, e, h2, h3 => by
    obtain rfl : i = 9 := by omega
    have r7 := hr.1
    have e49 : w.2.2.2 49 = w0.2.2.2 49 := h2.2.2.2 49 (by decide)
    have mi' := mi
    obtain ⟨c36, c37, c38, c39, c40, c41, c42, c43, c44, c45, c46, c48, ca, cb⟩ := mi'
    unfold wp_X9_load_c8
    rw [rl_eT (show (9 : Int32) ≤ nI 9 by decide)]
    simp (disch := omega) only [lit32, nI_add, nI_clamp, vp_inN, forall_eq, sI_2, sJ_3, e49, c36, c37, c38, c39, c40, c41, c42, c43, c44, c45, c46, c48, lN_i, Int32.toInt32_toInt64]
    refine ⟨by omega, by omega, by omega, by omega, by omega, by omega, by omega, by omega, by omega, by omega, by omega, by omega, by omega, ?_⟩
    refine ⟨361, m_load2 ho r7 mi hQ 360 0 _ (by omega) ?_ ?_ (fun j hj => absurd hj (Nat.not_lt_zero _))⟩
    · unfold MS
      simp only [sI_1, sI_2, sJ_1, sJ_2, sJ_3, ↓reduceIte, Nat.reduceEqDiff, Nat.add_zero]
      exact ⟨trivial, trivial, trivial, trivial, trivial, trivial, trivial, trivial, trivial, trivial, trivial, trivial, fun l hl => h3 l (by omega) hl⟩
    · exact fr_I (fr_I (fr_I (fr_J (fr_J (fr_I (fr_I (fr_I (fr_I (fr_J (fr_J (fr_I (fr_J h2 _ (by decide)) _ (by decide)) _ (by decide)) _ (by decide)) _ (by decide)) _ (by decide)) _ (by decide)) _ (by decide)) _ (by decide)) _ (by decide)) _ (by decide)) _ (by decide)) _ (by decide)
  | m + 1, i, w, e, h2, h3 => by
    have r7 := hr.1
    have e49 : w.2.2.2 49 = w0.2.2.2 49 := h2.2.2.2 49 (by decide)
    have ca := mi.2.2.2.2.2.2.2.2.2.2.2.2.1
    have sl := hs.2.2.2.2.2.2.2.2.2.2.2
    have f1 : fr [18, 21, 22, 23, 24, 27, 28, 30] [17, 19, 20, 25, 26] [13, 14, 15, 16, 29] [] w0 (setA w 13 i (w0.2.2.2 49 (o + i)).toInt32) := fr_A h2 _ _ (by decide)
    have step : ∀ b : Nat, b ≤ 1 → (i < r.1 7 → b = t.2 1 i) → wp_X9_load_c55 Q (wp_X9_load_c8 Q (m + 1)) (setA w 13 i (w0.2.2.2 49 (o + i)).toInt32) (nI o) (nI i) (nI b) (nI i) := by
      intro b hb1 hb
      unfold wp_X9_load_c55
      simp (disch := omega) only [lit32, nI_add, nI_clamp, vp_inN, forall_eq, sA_4, e49, rl_nar]
      refine ⟨by omega, by omega, by omega, by omega, by omega, ?_⟩
      refine m_load1 ho hr hs mi hQ m (i + 1) _ (by omega) (fr_A (fr_A (fr_A f1 _ _ (by decide)) _ _ (by decide)) _ _ (by decide)) ?_
      intro l hl hl7
      simp only [sA_3, ↓reduceIte, Nat.reduceEqDiff, upd_a]
      by_cases c : l = i
      · subst c
        obtain ⟨a0, a1, a2, a3⟩ := ca l hl7
        simp only [↓reduceIte]
        rw [a0, a2, a3, lN_i, lN_i, lN_i, hb hl7]
        exact ⟨rfl, rfl, rfl, rfl⟩
      · simp only [c, ↓reduceIte]
        exact h3 l (by omega) hl7
    have e9 : nI o + 9 + nI i = nI (o + 9 + i) := by rw [lit32 9, nI_add, nI_add]
    unfold wp_X9_load_c8
    rw [rl_eF (show ¬ (9 : Int32) ≤ nI i from nI_ge (b := 9) (by omega) (by omega))]
    simp (disch := omega) only [e9, nI_add, nI_clamp, vp_inN, forall_eq, sA_4, e49]
    refine ⟨by omega, by omega, by omega, ?_⟩
    by_cases c : i < r.1 7
    · have a1 := (ca i c).2.1
      have l1 := (sl i c).2.1
      have : t.2 1 i = 0 ∨ t.2 1 i = 1 := by omega
      rw [a1]
      rcases this with q | q
      · rw [q, rl_fF (show ¬ lN 0 = 1 by decide)]
        exact step 0 (by omega) (fun _ => q.symm)
      · rw [q, rl_fT (show lN 1 = 1 from rfl)]
        exact step 1 (by omega) (fun _ => q.symm)
    · exact ⟨fun _ => step 0 (by omega) (fun q => absurd q c), fun _ => step 1 (by omega) (fun q => absurd q c)⟩
theorem m_load {r t : Ns} {w : Vl} {i : Nat} {Q : Vl → Prop} (hi : i ≤ 2) (hr : WfR r) (hs : WfS r t 0 0) (mi : MI r t (410 * i) w) (hQ : ∀ w', MS r t 0 0 w' → MLi r t 0 w' → fr [18, 21, 22, 23, 24, 27, 28, 30] [17, 19, 20, 25, 26] [13, 14, 15, 16, 29] [] w w' → Q w') : wp_X9_load w (nI i) Q := by
  unfold wp_X9_load
  simp only [forall_eq, lit32 410, pk_mul]
  exact ⟨10, m_load1 (by omega) hr hs mi hQ 9 0 w (by omega) (fr_r w) (fun l hl => absurd hl (Nat.not_lt_zero _))⟩
theorem MI_o {r t : Ns} {o : Nat} {w w' : Vl} (r7 : r.1 7 ≤ 9) (h : MI r t o w) (e : ∀ j, o ≤ j → j < o + 410 → w'.2.2.2 49 j = w.2.2.2 49 j) : MI r t o w' := by
  obtain ⟨c36, c37, c38, c39, c40, c41, c42, c43, c44, c45, c46, c48, ca, cb⟩ := h
  unfold MI
  rw [e (o + 36) (by omega) (by omega), e (o + 37) (by omega) (by omega), e (o + 38) (by omega) (by omega), e (o + 39) (by omega) (by omega), e (o + 40) (by omega) (by omega), e (o + 41) (by omega) (by omega), e (o + 42) (by omega) (by omega), e (o + 43) (by omega) (by omega), e (o + 44) (by omega) (by omega), e (o + 45) (by omega) (by omega), e (o + 46) (by omega) (by omega), e (o + 48) (by omega) (by omega)]
  refine ⟨c36, c37, c38, c39, c40, c41, c42, c43, c44, c45, c46, c48, fun l hl => ?_, fun l hl d hd hd2 => ?_⟩
  · rw [e (o + l) (by omega) (by omega), e (o + 9 + l) (by omega) (by omega), e (o + 18 + l) (by omega) (by omega), e (o + 27 + l) (by omega) (by omega)]
    exact ca l hl
  · rw [e (o + 50 + (40 * l + d)) (by omega) (by omega)]
    exact cb l hl d hd hd2
theorem rl_img {x : Int32} {vx : Vl} {f : Nat → Int32} {Q : Int32 → Prop} : ((∃ i : Nat, i ≤ 1 ∧ x = nI i) ∧ (wp_X8_isNoImage vx f x Q ↔ Q 0)) ∨ (¬ (nI 0 ≤ x ∧ x ≤ nI 1) ∧ (wp_X8_isNoImage vx f x Q ↔ Q 1)) := by
  unfold wp_X8_isNoImage
  rcases rl_rg x 0 1 (by omega) (by omega) with ⟨i, _, hi, rfl⟩ | ⟨h1, h2⟩
  · refine Or.inl ⟨⟨i, hi, rfl⟩, ?_⟩
    rw [rl_eF (nI_pos (by omega)), rl_eF (show ¬ (2 : Int32) ≤ nI i from nI_ge (b := 2) (by omega) (by omega)), rl_eT (show nI i < 2 from nI_lt (b := 2) (by omega) (by omega))]
  · refine Or.inr ⟨h2, ?_⟩
    by_cases h0 : x < 0
    · rw [rl_eT h0]
    · obtain ⟨j, hj, rfl⟩ := nI_of h0
      have : ¬ j ≤ 1 := fun q => h2 ⟨nI_pos' hj, nI_le q (by omega)⟩
      rw [rl_eF h0, rl_eT (show (2 : Int32) ≤ nI j from nI_le (a := 2) (by omega) hj)]
theorem p_keep {c : Nat} {r s : Ns} {vx x1 x20 x21 x9 w : Vl} {f : Nat → Int32} (x : Int32) (hc : c ≤ 64) (hR : IR r x9 w) (hS : IS c r s x1 w) (h0 : II c r 0 x20 f w) (h1 : II c r 1 x21 f w) : ∃ z u0 u1 f', (∀ Q : Int32 → Vl → Vl → (Nat → Int32) → Prop, Q z u0 u1 f' → wp_X8_keep vx x1 x20 x21 f x Q) ∧ (∀ Q : Int32 → Vl → Prop, (∀ w', II c r 0 u0 f' w' → II c r 1 u1 f' w' → fr [] [] [50] [49] w w' → Q z w') → wp_X9_keep w x Q) := by
  obtain ⟨e9, wr, mr⟩ := hR
  obtain ⟨e1, ws, hd, ms, ml⟩ := hS
  have r7 := wr.1
  unfold wp_X8_keep wp_X9_keep
  rcases rl_rg x 0 1 (by omega) (by omega) with ⟨i, i0, hi, rfl⟩ | ⟨g1, g2⟩
  · have hno : ∀ Q : Int32 → Prop, wp_X8_isNoImage vx f (nI i) Q ↔ Q 0 := by
      intro Q
      rcases rl_img (x := nI i) (vx := vx) (f := f) (Q := Q) with q | q
      · exact q.2
      · exact absurd ⟨nI_pos' (by omega), nI_le hi (by omega)⟩ q.1
    have i2 : vp_in (nI i) 2 := vp_in_nI (by omega) (by decide)
    have mo : ∀ Q : Int32 → Vl → Prop, (∀ g, svO w (410 * i) g → MI r s (410 * i) (setRB w 49 g) → Q 1 (setA (setRB w 49 g) 50 i 1)) → (wp_X9_in (Int32.toInt64 (nI i)) 0 1 (fun r_1 => ((¬ r_1 = 0 → wp_X9_save w (nI i) (fun u_2 => vp_in (nI i) 2 ∧ (∀ v0s_3 : Vl, v0s_3 = setA u_2 50 (Int32.toNatClampNeg (nI i)) (vp_nar .boolean 1) → Q 1 v0s_3))) ∧ (r_1 = 0 → Q (-1000000001) w)))) := by
      intro Q h
      rw [rl_iy i0 hi (by omega) (by decide +kernel) (by decide +kernel), rl_b11]
      refine m_save wr ws (by omega) (by omega) ms ml (fun g q1 q2 => ?_)
      simp only [forall_eq, nI_clamp (show i < 2 ^ 31 by omega)]
      exact ⟨i2, h g q1 q2⟩
    obtain ⟨t0, et0, h0⟩ := h0
    obtain ⟨t1, et1, h1⟩ := h1
    have : i = 0 ∨ i = 1 := by omega
    rcases this with rfl | rfl
    · refine ⟨1, encS (zcopy 360 t0 s), x21, upd f 0 1, fun Q h => ?_, fun Q h => mo Q (fun g q1 q2 => h _ ?_ ?_ (fr_A (fr_RB w 49 g (by decide)) _ _ (by decide)))⟩
      · rw [hno, rl_b00]
        refine ⟨i2, fun _ => ?_, fun q => absurd q (by decide)⟩
        rw [et0, e1]
        refine q_copyFrom (by decide) (by decide) ⟨i2, ?_⟩
        intro f' ef
        rw [ef]
        exact h
      · refine ⟨_, rfl, Or.inr ⟨rfl, ?_, WfS_eq wr (zcopy_eq 360 t0 s) ws, ?_, MI_eq wr (zcopy_eq 360 t0 s) q2⟩⟩
        · rw [sA_3, if_pos rfl, upd_a, if_pos rfl]
        · rw [(zcopy_eq 360 t0 s).1.2.2.2.2.2.2.2.1]
          exact hd
      · refine ⟨t1, et1, ?_⟩
        have ef : upd f 0 1 1 = f 1 := rfl
        have ew : (setA (setRB w 49 g) 50 0 1).2.2.1 50 1 = w.2.2.1 50 1 := rfl
        rw [ef, ew]
        refine h1.elim Or.inl (fun q => Or.inr ⟨q.1, q.2.1, q.2.2.1, q.2.2.2.1, MI_o r7 q.2.2.2.2 (fun j j1 j2 => ?_)⟩)
        rw [sA_4, RB_4]
        exact q1 j (by omega)
    · refine ⟨1, x20, encS (zcopy 360 t1 s), upd f 1 1, fun Q h => ?_, fun Q h => mo Q (fun g q1 q2 => h _ ?_ ?_ (fr_A (fr_RB w 49 g (by decide)) _ _ (by decide)))⟩
      · rw [hno, rl_b00]
        refine ⟨i2, fun q => absurd q (by decide), fun _ => ?_⟩
        rw [et1, e1]
        refine q_copyFrom (by decide) (by decide) ⟨i2, ?_⟩
        intro f' ef
        rw [ef]
        exact h
      · refine ⟨t0, et0, ?_⟩
        have ef : upd f 1 1 0 = f 0 := rfl
        have ew : (setA (setRB w 49 g) 50 1 1).2.2.1 50 0 = w.2.2.1 50 0 := rfl
        rw [ef, ew]
        refine h0.elim Or.inl (fun q => Or.inr ⟨q.1, q.2.1, q.2.2.1, q.2.2.2.1, MI_o r7 q.2.2.2.2 (fun j j1 j2 => ?_)⟩)
        rw [sA_4, RB_4]
        exact q1 j (by omega)
      · refine ⟨_, rfl, Or.inr ⟨rfl, ?_, WfS_eq wr (zcopy_eq 360 t1 s) ws, ?_, MI_eq wr (zcopy_eq 360 t1 s) q2⟩⟩
        · rw [sA_3, if_pos rfl, upd_a, if_pos rfl]
        · rw [(zcopy_eq 360 t1 s).1.2.2.2.2.2.2.2.1]
          exact hd
  · refine ⟨-1000000001, x20, x21, f, fun Q h => ?_, fun Q h => ?_⟩
    · rcases rl_img (x := x) (vx := vx) (f := f) (Q := fun r_1 => ((r_1 = 0 → vp_in x 2 ∧ ((x = 0 → wp_X6_copyFrom 360 x20 360 x1 (fun u_2 => vp_in x 2 ∧ (∀ f03s_3 : Nat → Int32, f03s_3 = upd f (Int32.toNatClampNeg x) (vp_nar .boolean 1) → Q 1 u_2 x21 f03s_3))) ∧ (x = 1 → wp_X6_copyFrom 360 x21 360 x1 (fun u_4 => vp_in x 2 ∧ (∀ f03s_5 : Nat → Int32, f03s_5 = upd f (Int32.toNatClampNeg x) (vp_nar .boolean 1) → Q 1 x20 u_4 f03s_5))))) ∧ (¬ r_1 = 0 → Q (-1000000001) x20 x21 f))) with q | q
      · obtain ⟨⟨i, hi, rfl⟩, _⟩ := q
        exact absurd ⟨nI_pos' (by omega), nI_le hi (by omega)⟩ g2
      · exact q.2.mpr (rl_b01.mpr h)
    · rw [rl_ino g2 (by decide +kernel) (by decide +kernel), rl_b10]
      exact h w h0 h1 (fr_r w)
theorem p_goBack {c : Nat} {r s : Ns} {vx x1 x20 x21 x9 w : Vl} {f : Nat → Int32} (x : Int32) (hR : IR r x9 w) (hS : IS c r s x1 w) (h0 : II c r 0 x20 f w) (h1 : II c r 1 x21 f w) : ∃ z s' u, (∀ Q : Int32 → Vl → Prop, Q z u → wp_X8_goBack vx x1 x20 x21 f x Q) ∧ (∀ Q : Int32 → Vl → Prop, (∀ w', IS c r s' u w' → fr [18, 21, 22, 23, 24, 27, 28, 30] [17, 19, 20, 25, 26] [13, 14, 15, 16, 29] [] w w' → Q z w') → wp_X9_goBack w x Q) := by
  have hS' := hS
  obtain ⟨e9, wr, mr⟩ := hR
  obtain ⟨e1, ws, hd, ms, ml⟩ := hS'
  unfold wp_X8_goBack wp_X9_goBack
  rcases rl_rg x 0 1 (by omega) (by omega) with ⟨i, i0, hi, rfl⟩ | ⟨g1, g2⟩
  · have hno : ∀ Q : Int32 → Prop, wp_X8_isNoImage vx f (nI i) Q ↔ Q 0 := by
      intro Q
      rcases rl_img (x := nI i) (vx := vx) (f := f) (Q := Q) with q | q
      · exact q.2
      · exact absurd ⟨nI_pos' (by omega), nI_le hi (by omega)⟩ q.1
    have i2 : vp_in (nI i) 2 := vp_in_nI (by omega) (by decide)
    have hx : ∃ xi, II c r i xi f w ∧ (∀ Q : Int32 → Vl → Prop, wp_X6_copyFrom 360 x1 360 xi (fun u => Q 1 u) → ((nI i = 0 → wp_X6_copyFrom 360 x1 360 x20 (fun u_2 => Q 1 u_2)) ∧ (nI i = 1 → wp_X6_copyFrom 360 x1 360 x21 (fun u_3 => Q 1 u_3)))) := by
      have : i = 0 ∨ i = 1 := by omega
      rcases this with rfl | rfl
      · exact ⟨x20, h0, fun Q h => ⟨fun _ => h, fun q => absurd q (by decide)⟩⟩
      · exact ⟨x21, h1, fun Q h => ⟨fun q => absurd q (by decide), fun _ => h⟩⟩
    obtain ⟨xi, ⟨t, et, ht⟩, hcp⟩ := hx
    rcases ht with ⟨f0, w0⟩ | ⟨f1, w1, wt, dt, mi⟩
    · refine ⟨-1000000003, s, x1, fun Q h => ?_, fun Q h => ?_⟩
      · rw [hno, rl_b00, nI_clamp (by omega), f0, rl_fT rfl]
        exact ⟨i2, h⟩
      · rw [rl_iy i0 hi (by omega) (by decide +kernel) (by decide +kernel), rl_b11, nI_clamp (by omega), w0, rl_fT rfl]
        exact ⟨i2, h w hS (fr_r w)⟩
    · refine ⟨1, zcopy 360 s t, encS (zcopy 360 s t), fun Q h => ?_, fun Q h => ?_⟩
      · rw [hno, rl_b00, nI_clamp (by omega), f1, rl_fF (by decide)]
        refine ⟨i2, i2, hcp Q ?_⟩
        rw [et, e1]
        exact q_copyFrom (by decide) (by decide) h
      · rw [rl_iy i0 hi (by omega) (by decide +kernel) (by decide +kernel), rl_b11, nI_clamp (by omega), w1, rl_fF (by decide)]
        refine ⟨i2, m_load (by omega) wr wt mi (fun w' q1 q2 q3 => h w' ⟨rfl, WfS_eq wr (zcopy_eq 360 s t) wt, ?_, MS_eq wr (zcopy_eq 360 s t) q1, ML_eq wr (zcopy_eq 360 s t) q2⟩ q3)⟩
        rw [(zcopy_eq 360 s t).1.2.2.2.2.2.2.2.1]
        exact dt
  · refine ⟨-1000000001, s, x1, fun Q h => ?_, fun Q h => ?_⟩
    · rcases rl_img (x := x) (vx := vx) (f := f) (Q := fun r_1 => ((r_1 = 0 → vp_in x 2 ∧ (((¬ (f (Int32.toNatClampNeg x)) = 0 → vp_in x 2 ∧ ((x = 0 → wp_X6_copyFrom 360 x1 360 x20 (fun u_2 => Q 1 u_2)) ∧ (x = 1 → wp_X6_copyFrom 360 x1 360 x21 (fun u_3 => Q 1 u_3)))) ∧ ((f (Int32.toNatClampNeg x)) = 0 → Q (-1000000003) x1)))) ∧ (¬ r_1 = 0 → Q (-1000000001) x1))) with q | q
      · obtain ⟨⟨i, hi, rfl⟩, _⟩ := q
        exact absurd ⟨nI_pos' (by omega), nI_le hi (by omega)⟩ g2
      · exact q.2.mpr (rl_b01.mpr h)
    · rw [rl_ino g2 (by decide +kernel) (by decide +kernel), rl_b10]
      exact h w hS (fr_r w)
