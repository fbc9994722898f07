/-! ===== goal, wick, pour, seed, begin ===== -/
theorem rl_nm1 {j : Nat} (h : j < 2 ^ 30) : ¬ nI j = -1 := fun q => absurd ((gI_eq0 (g := j + 1) (by omega)).mp q) (by omega)
theorem IS_goal {c g : Nat} {r s : Ns} {x1 w : Vl} (h : IS c r s x1 w) (hg : g ≤ r.1 7) : IS c r (zu s 9 g) (encS (zu s 9 g)) (setI w 23 (gI g)) := by
  obtain ⟨_, ws, hd, ms, ml⟩ := h
  obtain ⟨s7, s8, s6, s9, s13, s16, s5, s15, s10, s11, s14, sl⟩ := ws
  obtain ⟨m17, m18, m19, m20, m21, m22, m23, m24, m25, m26, m27, m30, mrow⟩ := ms
  refine ⟨rfl, ?_, ?_, ?_, ?_⟩
  · unfold WfS
    simp (disch := omega) only [zu_s, zu_n, zu_2]
    exact ⟨s7, s8, s6, hg, s13, s16, s5, s15, s10, s11, s14, sl⟩
  · rw [zu_n _ _ (by decide)]
    exact hd
  · unfold MS
    simp (disch := omega) only [zu_s, zu_n, zu_2, sI_1, sI_2, ↓reduceIte, Nat.reduceEqDiff]
    exact ⟨m17, m18, m19, m20, m21, m22, trivial, m24, m25, m26, m27, m30, mrow⟩
  · exact ml
theorem p_goal {c : Nat} {r s : Ns} {vx x1 x9 w : Vl} (x : Int32) (hR : IR r x9 w) (hS : IS c r s x1 w) : ∃ a s' u w', (∀ Q : Int32 → Vl → Prop, Q a u → wp_X8_goal vx x1 x9 x Q) ∧ (∀ Q : Int32 → Vl → Prop, Q a w' → wp_X9_goal w x Q) ∧ IS c r s' u w' ∧ fr [23] [] [] [] w w' := by
  obtain ⟨e9, wr, mr⟩ := hR
  have mr0 := mr.1
  have r7 := wr.1
  have m23 := hS.2.2.2.1.2.2.2.2.2.2.1
  have e1 := hS.1
  subst e9
  have key : ∀ g, g ≤ r.1 7 → (∀ Q : Int32 → Vl → Prop, Q (gI (s.1 9)) (encS (zu s 9 g)) → wp_X8_goal_c16 vx (encG r) Q x1 (gI g)) ∧ (∀ Q : Int32 → Vl → Prop, Q (gI (s.1 9)) (setI w 23 (gI g)) → wp_X9_goal_c17 Q w (gI g)) := by
    intro g hg
    refine ⟨fun Q h => ?_, fun Q h => ?_⟩
    · unfold wp_X8_goal_c16
      rw [e1]
      simp only [forall_eq, encS_9, encS_set9]
      exact h
    · unfold wp_X9_goal_c17
      simp only [forall_eq, m23]
      exact h
  unfold wp_X8_goal wp_X9_goal
  by_cases hx : x = -1
  · subst hx
    refine ⟨gI (s.1 9), zu s 9 0, _, _, fun Q h => ?_, fun Q h => ?_, IS_goal (g := 0) hS (Nat.zero_le _), fr_I (fr_r w) _ (by decide)⟩
    · rw [rl_eT rfl]
      exact (key 0 (Nat.zero_le _)).1 Q h
    · rw [rl_eT rfl]
      exact (key 0 (Nat.zero_le _)).2 Q h
  · rcases rl_lt x (r.1 7) r7 with ⟨j, hj, rfl⟩ | ⟨g1, g2⟩
    · refine ⟨gI (s.1 9), zu s 9 (j + 1), _, _, fun Q h => ?_, fun Q h => ?_, IS_goal (g := j + 1) hS hj, fr_I (fr_r w) _ (by decide)⟩
      · rw [rl_eF hx, rl_nly hj r7, rl_b00]
        exact (key (j + 1) hj).1 Q h
      · rw [rl_eF hx, rl_ily mr0 hj r7, rl_b11]
        exact (key (j + 1) hj).2 Q h
    · refine ⟨-1000000001, s, x1, w, fun Q h => ?_, fun Q h => ?_, hS, fr_r w⟩
      · rw [rl_eF hx, rl_nln g1, rl_b01]
        exact h
      · rw [rl_eF hx, rl_iln mr0 g2, rl_b10]
        exact h
theorem rl_nar {b : Nat} (hb : b ≤ 1) : vp_nar .boolean (nI b) = nI b := by
  have : b = 0 ∨ b = 1 := by omega
  rcases this with rfl | rfl <;> rfl
theorem p_wick {c b : Nat} {r s : Ns} {vx x1 x9 w : Vl} (x : Int32) (hb : b ≤ 1) (hR : IR r x9 w) (hS : IS c r s x1 w) : ∃ a s' u w', (∀ Q : Int32 → Vl → Prop, Q a u → wp_X8_wick vx x1 x9 x (nI b) Q) ∧ (∀ Q : Int32 → Vl → Prop, Q a w' → wp_X9_wick w x (nI b) Q) ∧ IS c r s' u w' ∧ fr [] [] [14] [] w w' := by
  obtain ⟨e9, wr, mr⟩ := hR
  have mr0 := mr.1
  have r7 := wr.1
  subst e9
  unfold wp_X8_wick wp_X9_wick
  rcases rl_lt x (r.1 7) r7 with ⟨j, hj, rfl⟩ | ⟨g1, g2⟩
  · have j9 : j < 9 := by omega
    have hS' := hS
    obtain ⟨e1, ws, hd, ms, ml⟩ := hS'
    obtain ⟨s7, s8, s6, s9, s13, s16, s5, s15, s10, s11, s14, sl⟩ := ws
    obtain ⟨m17, m18, m19, m20, m21, m22, m23, m24, m25, m26, m27, m30, mrow⟩ := ms
    have a14 := (mrow j hj).2.1
    have l1 := (sl j hj).2.1
    subst e1
    refine ⟨nI (s.2 1 j), za s 1 j b, encS (za s 1 j b), setA w 14 j (nI b), fun Q h => ?_, fun Q h => ?_, ⟨rfl, ?_, hd, ?_, ?_⟩, fr_A (fr_r w) _ _ (by decide)⟩
    · rw [rl_nly hj r7, rl_b00, w_at (by decide), encS_r, jat_row _ j9 (by decide)]
      unfold wp_X8_wick_c40
      simp (disch := omega) only [w_put, encS_r, lit32, jput_row, forall_eq, encS_setRA]
      have : b = 0 ∨ b = 1 := by omega
      rcases this with rfl | rfl
      · exact ⟨fun _ => h, fun q => absurd rfl q⟩
      · exact ⟨fun q => absurd q (by decide), fun _ => h⟩
    · rw [rl_ily mr0 hj r7, rl_b11]
      unfold wp_X9_wick_c26
      rw [nI_clamp (by omega), a14, rl_nar hb]
      refine ⟨vp_in_nI j9 (by decide), ?_⟩
      simp only [forall_eq]
      have : s.2 1 j = 0 ∨ s.2 1 j = 1 := by omega
      rcases this with e | e
      · rw [e] at h ⊢
        exact ⟨fun _ => ⟨vp_in_nI j9 (by decide), h⟩, fun q => absurd rfl q⟩
      · rw [e] at h ⊢
        exact ⟨fun q => absurd q (by decide), fun _ => ⟨vp_in_nI j9 (by decide), h⟩⟩
    · unfold WfS
      simp (disch := omega) only [za_1, za_n]
      refine ⟨s7, s8, s6, s9, s13, s16, s5, s15, s10, s11, s14, fun l hl => ?_⟩
      by_cases e : l = j
      · subst e
        rw [za_s]
        exact ⟨(sl l hl).1, hb, (sl l hl).2.2⟩
      · rw [za_r _ _ _ _ e]
        exact sl l hl
    · unfold MS
      simp (disch := omega) only [za_1, za_n, sA_1, sA_2, sA_3, ↓reduceIte, Nat.reduceEqDiff]
      refine ⟨m17, m18, m19, m20, m21, m22, m23, m24, m25, m26, m27, m30, fun l hl => ?_⟩
      by_cases e : l = j
      · subst e
        rw [za_s, upd_a, if_pos rfl]
        exact ⟨(mrow l hl).1, rfl, (mrow l hl).2.2⟩
      · rw [za_r _ _ _ _ e, upd_a, if_neg e]
        exact mrow l hl
    · unfold MLi
      simp (disch := omega) only [za_1, za_n, sA_3, ↓reduceIte, Nat.reduceEqDiff]
      exact ml
  · refine ⟨-1000000001, s, x1, w, fun Q h => ?_, fun Q h => ?_, hS, fr_r w⟩
    · rw [rl_nln g1, rl_b01]
      exact h
    · rw [rl_iln mr0 g2, rl_b10]
      exact h
theorem p_seed {c : Nat} {r s : Ns} {vx x1 w : Vl} (x : Int32) (hS : IS c r s x1 w) : ∃ a s' u w', (∀ Q : Int32 → Vl → Prop, Q a u → wp_X8_seed vx x1 x Q) ∧ (∀ Q : Int32 → Vl → Prop, Q a w' → wp_X9_seed w x Q) ∧ IS c r s' u w' ∧ fr [30] [] [] [] w w' := by
  unfold wp_X8_seed wp_X9_seed
  by_cases h0 : 0 ≤ x
  · have h1 : ¬ x < 0 := fun q => rl_lt_not.mp q h0
    obtain ⟨j, hj, rfl⟩ := nI_of h1
    obtain ⟨e1, ws, hd, ms, ml⟩ := hS
    obtain ⟨s7, s8, s6, s9, s13, s16, s5, s15, s10, s11, s14, sl⟩ := ws
    obtain ⟨m17, m18, m19, m20, m21, m22, m23, m24, m25, m26, m27, m30, mrow⟩ := ms
    subst e1
    refine ⟨nI (s.1 16), zu s 16 j, encS (zu s 16 j), setI w 30 (nI j), fun Q h => ?_, fun Q h => ?_, ⟨rfl, ?_, ?_, ?_, ml⟩, fr_I (fr_r w) _ (by decide)⟩
    · rw [rl_eT h0]
      simp only [forall_eq, encS_J, lN_i, nI_l hj, encS_setJ]
      exact h
    · rw [rl_eT h0]
      simp only [forall_eq, m30]
      exact h
    · unfold WfS
      simp (disch := omega) only [zu_s, zu_n, zu_2]
      exact ⟨s7, s8, s6, s9, s13, hj, s5, s15, s10, s11, s14, sl⟩
    · rw [zu_n _ _ (by decide)]
      exact hd
    · unfold MS
      simp (disch := omega) only [zu_s, zu_n, zu_2, sI_1, sI_2, ↓reduceIte, Nat.reduceEqDiff]
      exact ⟨m17, m18, m19, m20, m21, m22, m23, m24, m25, m26, m27, trivial, mrow⟩
  · refine ⟨-1000000002, s, x1, w, fun Q h => ?_, fun Q h => ?_, hS, fr_r w⟩
    · rw [rl_eF h0]
      exact h
    · rw [rl_eF h0]
      exact h
theorem p_pour {c : Nat} {r s : Ns} {vx x1 x9 w : Vl} (x : Int32) (hc : c ≤ 64) (hR : IR r x9 w) (hS : IS c r s x1 w) : ∃ a s' u w', (∀ Q : Int32 → Vl → Prop, Q a u → wp_X8_pour vx x1 x9 x Q) ∧ (∀ Q : Int32 → Vl → Prop, Q a w' → wp_X9_pour w x Q) ∧ IS c r s' u w' ∧ fr [22] [17] [] [] w w' := by
  have hS' := hS
  obtain ⟨e1, ws, hd, ms, ml⟩ := hS'
  obtain ⟨s7, s8, s6, s9, s13, s16, s5, s15, s10, s11, s14, sl⟩ := ws
  obtain ⟨m17, m18, m19, m20, m21, m22, m23, m24, m25, m26, m27, m30, mrow⟩ := ms
  obtain ⟨e9, wr, mr⟩ := hR
  have n3 := mr.2.2.1
  have r9' := wr.2.2.2.2.1
  subst e9
  unfold wp_X8_pour wp_X9_pour
  rcases rl_rg x 0 999 (by omega) (by omega) with ⟨j, j0, hj, rfl⟩ | ⟨h1, h2⟩
  · by_cases h0 : s.1 7 = 0
    · have et : ztake r s j = min (min j (s.1 5)) (r.1 9 - s.1 8) := by
        unfold ztake
        omega
      have t5 : ztake r s j ≤ s.1 5 := by rw [et]; omega
      have t8 : ztake r s j ≤ r.1 9 - s.1 8 := by rw [et]; omega
      refine ⟨nI (ztake r s j), ztakeOil r s j, encS (ztakeOil r s j), setI (setJ w 17 (lN (s.1 5 - ztake r s j))) 22 (nI (s.1 8 + ztake r s j)), fun Q h => ?_, fun Q h => ?_, ⟨rfl, ?_, ?_, ?_, ?_⟩, fr_I (fr_J (fr_r w) _ (by decide)) _ (by decide)⟩
      · refine rl_cy j0 hj (by decide) ?_
        rw [e1, encS_1 _ (by decide) (by decide), h0]
        rw [rl_eT (show nI 0 = 0 from rfl)]
        exact q_takeOil (by omega) s8 (by omega) (by omega) h
      · rw [rl_iy j0 hj (by omega) (by decide +kernel) (by decide +kernel), rl_b11, m21, h0, rl_eT (show nI 0 = 0 from rfl)]
        simp (disch := omega) only [nI_l, m17, w_lesser, n3, m22, pk_sub, forall_eq, lN_i, lN_sub, sJ_1, nI_add]
        rw [← et]
        exact h
      · unfold WfS ztakeOil
        simp (disch := omega) only [zu_s, zu_n, zu_2]
        exact ⟨s7, by omega, s6, s9, s13, s16, by omega, s15, s10, s11, s14, sl⟩
      · unfold ztakeOil
        simp (disch := omega) only [zu_n]
        exact hd
      · unfold MS ztakeOil
        simp (disch := omega) only [zu_s, zu_n, zu_2, sI_1, sI_2, sJ_1, sJ_2, sJ_3, ↓reduceIte, Nat.reduceEqDiff]
        exact ⟨trivial, m18, m19, m20, m21, trivial, m23, m24, m25, m26, m27, m30, mrow⟩
      · exact ml
    · have hn : ¬ nI (s.1 7) = 0 := fun q => h0 ((nI_eq (b := 0) (by omega) (by omega)).mp q)
      refine ⟨-1000000003, s, x1, w, fun Q h => ?_, fun Q h => ?_, hS, fr_r w⟩
      · refine rl_cy j0 hj (by decide) ?_
        rw [e1, encS_1 _ (by decide) (by decide), rl_eF hn, ← e1]
        exact h
      · rw [rl_iy j0 hj (by omega) (by decide +kernel) (by decide +kernel), rl_b11, m21, rl_eF hn]
        exact h
  · refine ⟨-1000000002, s, x1, w, fun Q h => rl_cn h1 h, fun Q h => ?_, hS, fr_r w⟩
    rw [rl_ino h2 (by decide +kernel) (by decide +kernel), rl_b10]
    exact h
/-! begin -/
def zbeg (r s : Ns) : Nat → Ns
  | 0 => s
  | i + 1 => za (za (za (za (zbeg r s i) 0 i (r.2 3 i)) 1 i 0) 2 i 0) 3 i 0
def zfst (r t : Ns) : Ns := zu (zu (zu (zu (zu (zu (zu (zu (zu (zu (zu t 5 (r.1 10)) 6 0) 7 0) 8 0) 9 0) 10 0) 11 0) 12 0) 13 0) 14 0) 15 0
def zstart (r s : Ns) : Ns := zfst r (zbeg r s 9)
theorem zbeg_1 (r s : Ns) : ∀ i, (zbeg r s i).1 = s.1
  | 0 => rfl
  | i + 1 => zbeg_1 r s i
theorem zbeg_4 (r s : Ns) : ∀ i, (zbeg r s i).2 4 = s.2 4
  | 0 => rfl
  | i + 1 => by
    show (za (za (za (za (zbeg r s i) 0 i (r.2 3 i)) 1 i 0) 2 i 0) 3 i 0).2 4 = _
    simp (disch := omega) only [za_n]
    exact zbeg_4 r s i
theorem zbeg_r (r s : Ns) : ∀ i l, l < i → (zbeg r s i).2 0 l = r.2 3 l ∧ (zbeg r s i).2 1 l = 0 ∧ (zbeg r s i).2 2 l = 0 ∧ (zbeg r s i).2 3 l = 0
  | 0, _, h => absurd h (Nat.not_lt_zero _)
  | i + 1, l, h => by
    show (za (za (za (za (zbeg r s i) 0 i (r.2 3 i)) 1 i 0) 2 i 0) 3 i 0).2 0 l = _ ∧ (za (za (za (za (zbeg r s i) 0 i (r.2 3 i)) 1 i 0) 2 i 0) 3 i 0).2 1 l = _ ∧ (za (za (za (za (zbeg r s i) 0 i (r.2 3 i)) 1 i 0) 2 i 0) 3 i 0).2 2 l = _ ∧ (za (za (za (za (zbeg r s i) 0 i (r.2 3 i)) 1 i 0) 2 i 0) 3 i 0).2 3 l = _
    by_cases e : l = i
    · subst e
      simp (disch := omega) only [za_n, za_s]
      exact ⟨trivial, trivial, trivial, trivial⟩
    · have hl : l < i := by omega
      simp (disch := omega) only [za_n, za_r]
      exact zbeg_r r s i l hl
theorem q_over_loop {nl : Nat} {r s : Ns} {Q : Vl → Prop} (h : Q (encS (zstart r s))) : ∀ m i, i + m = 9 → wp_X6_startOver_c2 nl (encG r) Q (m + 1) (encS (zbeg r s i)) (nI i)
  | 0, i, e => by
    obtain rfl : i = 9 := by omega
    have em : (-1 : Int32) = gI 0 := rfl
    unfold wp_X6_startOver_c2
    rw [em]
    simp (disch := omega) only [forall_eq, lit32, encG_1, encS_setI, encS_set9, nI_leI]
    exact ⟨fun _ => h, fun q => absurd (Nat.le_refl _) q⟩
  | m + 1, i, e => by
    unfold wp_X6_startOver_c2
    have IH := q_over_loop (nl := nl) h m (i + 1) (by omega)
    simp (disch := omega) only [forall_eq, lit32, encG_r, encS_r, w_at, w_put, jat_row, jput_row, encS_setRA, nI_leI, nI_add, zw_n]
    exact ⟨fun q => absurd q (by omega), fun _ => IH⟩
theorem q_over {nl : Nat} {r s : Ns} {Q : Vl → Prop} (h : Q (encS (zstart r s))) : wp_X6_startOver nl (encS s) (encG r) Q := ⟨10, q_over_loop h 9 0 rfl⟩
theorem wf_start {r s : Ns} (h16 : s.1 16 < 2 ^ 31) (hr : WfR r) : WfS r (zstart r s) 0 0 := by
  obtain ⟨r7, r8, r8', r9, r9', r10, r11, r12, r12', r13, r13', _, _, _, rl⟩ := hr
  unfold WfS zstart zfst
  simp (disch := omega) only [zu_s, zu_n, zu_2, zbeg_1]
  refine ⟨by omega, by omega, by omega, by omega, by omega, h16, by omega, by omega, by omega, by omega, by omega, fun l hl => ?_⟩
  have := zbeg_r r s 9 l (by omega)
  rw [this.1, this.2.1, this.2.2.1, this.2.2.2]
  exact ⟨Nat.le_refl _, by omega, Nat.zero_le _, Nat.zero_le _⟩
theorem zstart_12 (r s : Ns) : (zstart r s).1 12 = 0 := by
  unfold zstart zfst
  simp (disch := omega) only [zu_s, zu_n]
theorem m_anew_loop {r s : Ns} {w0 : Vl} {Q : Vl → Prop} (hr : WfR r) (h30 : w0.1 30 = nI (s.1 16)) (hm : MR r w0) (hQ : ∀ w', MS r (zstart r s) 0 0 w' → MLi r (zstart r s) 0 w' → fr [18, 21, 22, 23, 24, 27, 28] [17, 19, 20, 25, 26] [13, 14, 15, 16] [] w0 w' → Q w') :
    ∀ m i w, i + m = 9 → fr [18, 21, 22, 23, 24, 27, 28] [17, 19, 20, 25, 26] [13, 14, 15, 16] [] w0 w → (∀ l, l < i → l < r.1 7 → w.2.2.1 13 l = nI (r.2 3 l) ∧ w.2.2.1 14 l = nI 0 ∧ w.2.2.1 15 l = nI 0 ∧ w.2.2.1 16 l = nI 0) → wp_X9_anew_c2 Q (m + 1) w (nI i)
  | 0, i, w, e, f, hw => by
    obtain rfl : i = 9 := by omega
    have r7 := hr.1
    have r10 := hr.2.2.2.2.2.1
    have e4 : w.1 4 = nI (r.1 10) := by rw [f.1 4 (by decide)]; exact hm.2.2.2.1
    have e30 : w.1 30 = nI (s.1 16) := by rw [f.1 30 (by decide)]; exact h30
    unfold wp_X9_anew_c2
    simp (disch := omega) only [forall_eq, lit32, lit64N, nI_leI, e4, nI_l]
    refine ⟨fun _ => hQ _ ?_ ?_ ?_, fun q => absurd (Nat.le_refl _) q⟩
    · unfold MS zstart zfst
      simp (disch := omega) only [zu_s, zu_n, zu_2, zbeg_1, sI_1, sI_2, sJ_1, sJ_2, sJ_3, ↓reduceIte, Nat.reduceEqDiff]
      refine ⟨trivial, trivial, trivial, trivial, trivial, trivial, rfl, trivial, trivial, trivial, trivial, e30, fun l hl => ?_⟩
      have := zbeg_r r s 9 l (by omega)
      rw [this.1, this.2.1, this.2.2.1, this.2.2.2]
      exact hw l (by omega) hl
    · intro l hl d hd hc
      rw [zstart_12] at hc
      omega
    · exact fr_I (fr_I (fr_J (fr_J (fr_I (fr_I (fr_I (fr_I (fr_J (fr_J (fr_I (fr_J f _ (by decide)) _ (by decide)) _ (by decide)) _ (by decide)) _ (by decide)) _ (by decide)) _ (by decide)) _ (by decide)) _ (by decide)) _ (by decide)) _ (by decide)) _ (by decide)
  | m + 1, i, w, e, f, hw => by
    have r7 := hr.1
    have e0 : w.1 0 = nI (r.1 7) := by rw [f.1 0 (by decide)]; exact hm.1
    have en : vp_nar .boolean (nI 0) = nI 0 := rfl
    have step : ∀ x : Nat, (i < r.1 7 → x = r.2 3 i) → wp_X9_anew_c35 Q (wp_X9_anew_c2 Q (m + 1)) w (nI i) (nI x) (nI i) := by
      intro x hx
      unfold wp_X9_anew_c35
      simp (disch := omega) only [forall_eq, lit32, en, nI_clamp, vp_inN, nI_add]
      refine ⟨by omega, by omega, by omega, by omega, ?_⟩
      refine m_anew_loop hr h30 hm hQ m (i + 1) _ (by omega) (fr_A (fr_A (fr_A (fr_A f _ _ (by decide)) _ _ (by decide)) _ _ (by decide)) _ _ (by decide)) ?_
      intro l hl hl7
      simp (disch := omega) only [sA_3, ↓reduceIte, Nat.reduceEqDiff, upd_a]
      by_cases c : l = i
      · subst c
        simp only [↓reduceIte]
        rw [hx hl7]
        exact ⟨rfl, trivial, trivial, trivial⟩
      · simp only [c, ↓reduceIte]
        exact hw l (by omega) hl7
    unfold wp_X9_anew_c2
    simp (disch := omega) only [lit32, nI_leI, e0]
    refine ⟨fun q => absurd q (by omega), fun _ => ⟨fun q => step 0 (fun h => absurd q (by omega)), fun q => ?_⟩⟩
    have e3 : w.2.2.1 1 (5 * i + 3) = nI (r.2 3 i) := by
      rw [f.2.2.1 1 (by decide)]
      exact hm.2.2.2.2.2.2.2.2.2 i (by omega) 3 (by omega)
    simp (disch := omega) only [pk_mul, nI_add, nI_clamp, vp_inN, e3]
    exact ⟨by omega, step _ (fun _ => rfl)⟩
theorem m_anew {r s : Ns} {w : Vl} {Q : Vl → Prop} (hr : WfR r) (h30 : w.1 30 = nI (s.1 16)) (hm : MR r w) (hQ : ∀ w', MS r (zstart r s) 0 0 w' → MLi r (zstart r s) 0 w' → fr [18, 21, 22, 23, 24, 27, 28] [17, 19, 20, 25, 26] [13, 14, 15, 16] [] w w' → Q w') : wp_X9_anew w Q :=
  ⟨10, m_anew_loop hr h30 hm hQ 9 0 w rfl (fr_r w) (fun l h => absurd h (Nat.not_lt_zero _))⟩
