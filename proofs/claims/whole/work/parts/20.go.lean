/-! ===== begin, go, drift ===== -/
theorem p_begin {c : Nat} {r s : Ns} {vx x1 x9 w : Vl} (hR : IR r x9 w) (hS : IS c r s x1 w) : ∃ a s' u, (∀ Q : Int32 → Vl → Prop, Q a u → wp_X8_begin vx x1 x9 Q) ∧ (∀ Q : Int32 → Vl → Prop, (∀ w', IS c r s' u w' → fr [18, 21, 22, 23, 24, 27, 28] [17, 19, 20, 25, 26] [13, 14, 15, 16] [] w w' → Q a w') → wp_X9_begin w Q) := by
  obtain ⟨e9, wr, mr⟩ := hR
  obtain ⟨e1, ws, hd, ms, ml⟩ := hS
  subst e9 e1
  have m24 := ms.2.2.2.2.2.2.2.1
  have m30 := ms.2.2.2.2.2.2.2.2.2.2.2.1
  refine ⟨nI (s.1 12), zstart r s, encS (zstart r s), fun Q h => ?_, fun Q h => ?_⟩
  · unfold wp_X8_begin
    simp (disch := omega) only [forall_eq, encS_1]
    exact q_over h
  · unfold wp_X9_begin
    simp only [forall_eq, m24]
    refine m_anew (s := s) wr m30 mr (fun w' q1 q2 q3 => h w' ⟨rfl, wf_start ws.2.2.2.2.2.1 wr, ?_, q1, q2⟩ q3)
    rw [zstart_12]
    exact Nat.zero_le _
def zgo (r k s : Ns) : Nat → Ns
  | 0 => s
  | i + 1 => zday 360 r (zgo r k s i) (zsky k ((zgo r k s i).1 12))
def zgoD (r k s : Ns) : Nat → Int32
  | 0 => 0
  | i + 1 => zdayD 360 r (zgo r k s i) (zsky k ((zgo r k s i).1 12))
theorem zgo_12 (r k s : Ns) : ∀ i, (zgo r k s i).1 12 = s.1 12 + i
  | 0 => rfl
  | i + 1 => (zday_12 _ _ _ _).trans (by rw [zgo_12 r k s i]; omega)
theorem wf_go {r k s : Ns} (hr : WfR r) (hk : WfK k) (hs : WfS r s 0 0) : ∀ i, WfS r (zgo r k s i) 0 0
  | 0 => hs
  | i + 1 => wf_day hr (wf_go hr hk hs i) (zsky_le hk _)
theorem q_go_loop {r k s : Ns} {vx : Vl} {Q : Int32 → Vl → Prop} {n : Nat} (hr : WfR r) (hk : WfK k) (hs : WfS r s 0 0) (hd : s.1 12 + n ≤ 12900) (hn : n ≤ 200) (h : Q (zgoD r k s n) (encS (zgo r k s n))) : ∀ m i, i + m = n → wp_X8_go_c19 vx (encG r) (encG k) Q (m + 1) (encS (zgo r k s i)) (nI n) (zgoD r k s i) (nI i)
  | 0, i, e => by
    obtain rfl : i = n := by omega
    unfold wp_X8_go_c19
    rw [rl_eT (nI_le (Nat.le_refl _) (by omega))]
    exact h
  | m + 1, i, e => by
    have e12 := zgo_12 r k s i
    unfold wp_X8_go_c19
    rw [rl_eF (nI_ge (by omega) (by omega)), encS_1 _ (by decide) (by decide)]
    refine q_skyOf hk (by omega) ?_
    refine q_live hr (wf_go hr hk hs i) (by omega) (zsky_le hk _) (by omega) ?_
    simp only [forall_eq, nI_1]
    exact q_go_loop hr hk hs hd hn h m (i + 1) (by omega)
theorem m_go_loop {r k s : Ns} {w0 : Vl} {Q : Int32 → Vl → Prop} {n : Nat} (hr : WfR r) (hk : WfK k) (hs : WfS r s 0 0) (hd : s.1 12 + n ≤ 12900) (hn : n ≤ 200) (h1 : 1 ≤ n) (hr0 : MR r w0) (hk0 : MK k w0)
    (h : ∀ w', MS r (zgo r k s n) 0 0 w' → MLi r (zgo r k s n) 0 w' → fr [18, 21, 22, 24, 27, 28] [17, 19, 20, 25, 26] [13, 15, 16, 29] [] w0 w' → Q (zgoD r k s n) w') :
    ∀ m i w, i + m = n → MS r (zgo r k s i) 0 0 w → MLi r (zgo r k s i) 0 w → (i = 0 ∨ w.1 28 = zgoD r k s i) → fr [18, 21, 22, 24, 27, 28] [17, 19, 20, 25, 26] [13, 15, 16, 29] [] w0 w → wp_X9_go_c12 Q (m + 1) w (nI n) (nI i)
  | 0, i, w, e, ms, ml, h28, f => by
    obtain rfl : i = n := by omega
    have e28 : w.1 28 = zgoD r k s i := h28.elim (fun q => absurd q (by omega)) id
    unfold wp_X9_go_c12
    rw [rl_eT (nI_le (Nat.le_refl _) (by omega)), e28]
    exact h w ms ml f
  | m + 1, i, w, e, ms, ml, h28, f => by
    have e12 := zgo_12 r k s i
    unfold wp_X9_go_c12
    rw [rl_eF (nI_ge (by omega) (by omega)), ms.2.2.2.2.2.2.2.1]
    refine m_skyOf hk (MK_fr hk0 f (by decide) (by decide)) (by omega) ?_
    refine m_dayOf (nl := 360) hr (MR_fr hr0 f (by decide) (by decide)) (wf_go hr hk hs i) ms (fun _ => ml) (by omega) (zsky_le hk _) ?_
    intro w' q1 q2 q3 q4
    simp only [forall_eq, nI_1]
    exact m_go_loop hr hk hs hd hn h1 hr0 hk0 h m (i + 1) w' (by omega) q1 (q3 rfl) (Or.inr q2) (fr_t f q4)
theorem p_go {c : Nat} {r s k : Ns} {vx x1 x9 x11 w : Vl} (x : Int32) (hc : c ≤ 63) (hR : IR r x9 w) (hS : IS c r s x1 w) (hK : IK k x11 w) : ∃ a s' u, (∀ Q : Int32 → Vl → Prop, Q a u → wp_X8_go vx x1 x9 x11 x Q) ∧ (∀ Q : Int32 → Vl → Prop, (∀ w', IS (c + 1) r s' u w' → fr [18, 21, 22, 24, 27, 28] [17, 19, 20, 25, 26] [13, 15, 16, 29] [] w w' → Q a w') → wp_X9_go w x Q) := by
  have hS' := hS
  obtain ⟨e9, wr, mr⟩ := hR
  obtain ⟨e1, ws, hd, ms, ml⟩ := hS'
  obtain ⟨e11, wk, mk⟩ := hK
  rcases rl_rg x 1 200 (by omega) (by omega) with ⟨n, n1, hn, rfl⟩ | ⟨h1, h2⟩
  · refine ⟨zgoD r k s n, zgo r k s n, encS (zgo r k s n), fun Q h => ?_, fun Q h => ?_⟩
    · unfold wp_X8_go
      refine rl_cy n1 hn (by decide) ⟨n + 1, ?_⟩
      rw [e1, e9, e11]
      exact q_go_loop wr wk ws (by omega) hn h n 0 (by omega)
    · unfold wp_X9_go wp_X9_isDays
      rw [rl_iy n1 hn (by omega) (by decide +kernel) (by decide +kernel)]
      refine ⟨rfl, rl_b11.mpr ⟨n + 1, ?_⟩⟩
      refine m_go_loop (w0 := w) wr wk ws (by omega) hn n1 mr mk (fun w' q1 q2 q3 => h w' ⟨rfl, wf_go wr wk ws n, ?_, q1, q2⟩ q3) n 0 w (by omega) ms ml (Or.inl rfl) (fr_r w)
      rw [zgo_12]
      omega
  · refine ⟨-1000000002, s, x1, fun Q h => rl_cn h1 h, fun Q h => ?_⟩
    unfold wp_X9_go wp_X9_isDays
    rw [rl_ino h2 (by decide +kernel) (by decide +kernel)]
    exact ⟨rfl, rl_b10.mpr (h w (IS_up hS (by omega)) (fr_r w))⟩
/-! draws -/
def zlot (s : Ns) : Nat := (s.1 16 * 1103515245 + 12345) % 2147483648
def zpick (r s : Ns) : Nat := if zlot s / 65536 % 100 < r.2 6 (s.1 13 * 3) then 0 else if zlot s / 65536 % 100 < r.2 6 (s.1 13 * 3) + r.2 6 (s.1 13 * 3 + 1) then 1 else 2
theorem zpick_le (r s : Ns) : zpick r s ≤ 2 := by
  unfold zpick
  split
  · omega
  · split <;> omega
theorem lN_tn {n : Nat} (h : n < 2 ^ 64) : (lN n).toBitVec.toNat = n := Nat.mod_eq_of_lt h
theorem lN_and31 {a : Nat} (h : a < 2 ^ 63) : lN a &&& lN 2147483647 = lN (a % 2147483648) := by
  apply Int64.toBitVec_inj.mp
  apply BitVec.eq_of_toNat_eq
  rw [Int64.toBitVec_and, BitVec.toNat_and, lN_tn (by omega), lN_tn (by omega), lN_tn (by omega)]
  exact Nat.and_two_pow_sub_one_eq_mod a 31
theorem zlot_lt (s : Ns) : zlot s < 2147483648 := Nat.mod_lt _ (by omega)
theorem q_draw {nl : Nat} {s : Ns} {Q : Int32 → Vl → Prop} (h16 : s.1 16 < 2 ^ 31) (h : Q (nI (zlot s / 65536 % 100)) (encS (zu s 16 (zlot s)))) : wp_X6_draw nl (encS s) 100 Q := by
  have hz := zlot_lt s
  have e1 : ((encS s).2.1 16 * 1103515245 + 12345) &&& 2147483647 = lN (zlot s) := by
    rw [encS_J, lit64N 1103515245, lit64N 12345, lit64N 2147483647, lN_mul, lN_add, lN_and31 (by omega)]
    rfl
  unfold wp_X6_draw
  simp only [e1, forall_eq]
  rw [encS_setJ, encS_J, zu_s, rl_eT (by decide)]
  have e2 : Int32.toInt64 100 = lN 100 := by decide +kernel
  rw [e2, lit64N 65536, pk_lDiv (by omega) (by omega) (by omega), pk_lRem (by omega) (by omega) (by omega), lN_i]
  exact ⟨by decide +kernel, h⟩
theorem q_drawSky {nl : Nat} {r s : Ns} {Q : Int32 → Vl → Prop} (hr : WfR r) (hs : WfS r s 0 0) (h : Q (nI (zpick r s)) (encS (zu s 16 (zlot s)))) : wp_X6_drawSky nl (encS s) (encG r) Q := by
  have s13 := hs.2.2.2.2.1
  have o0 := hr.2.2.2.2.2.2.2.2.2.2.2.2.1 (s.1 13 * 3) (by omega)
  have o1 := hr.2.2.2.2.2.2.2.2.2.2.2.2.1 (s.1 13 * 3 + 1) (by omega)
  unfold wp_X6_drawSky
  refine q_draw hs.2.2.2.2.2.1 ?_
  have e0 : (0 : Int32) = nI 0 := rfl
  have e1 : (1 : Int32) = nI 1 := rfl
  rw [encS_1 _ (by decide) (by decide), zu_n _ _ (by decide), e0, e1, w_X3_chanceOf (by omega) (by omega), w_X3_chanceOf (by omega) (by omega), Nat.add_zero]
  have hd : zlot s / 65536 % 100 < 100 := Nat.mod_lt _ (by omega)
  simp (disch := omega) only [nI_add, nI_leI]
  unfold zpick at h
  by_cases c1 : zlot s / 65536 % 100 < r.2 6 (s.1 13 * 3)
  · rw [if_pos c1] at h
    exact ⟨fun q => absurd c1 (by omega), fun _ => h⟩
  · rw [if_neg c1] at h
    refine ⟨fun _ => ?_, fun q => absurd (by omega) q⟩
    by_cases c2 : zlot s / 65536 % 100 < r.2 6 (s.1 13 * 3) + r.2 6 (s.1 13 * 3 + 1)
    · rw [if_pos c2] at h
      exact ⟨fun q => absurd c2 (by omega), fun _ => h⟩
    · rw [if_neg c2] at h
      exact ⟨fun _ => h, fun q => absurd (by omega) q⟩
def zdr (r s : Ns) : Nat → Ns
  | 0 => s
  | i + 1 => zday 360 r (zu (zdr r s i) 16 (zlot (zdr r s i))) (zpick r (zdr r s i))
def zdrD (r s : Ns) : Nat → Int32
  | 0 => 0
  | i + 1 => zdayD 360 r (zu (zdr r s i) 16 (zlot (zdr r s i))) (zpick r (zdr r s i))
theorem zdr_12 (r s : Ns) : ∀ i, (zdr r s i).1 12 = s.1 12 + i
  | 0 => rfl
  | i + 1 => (zday_12 _ _ _ _).trans (by rw [zu_n _ _ (by decide), zdr_12 r s i]; omega)
theorem wf_lot {r s : Ns} (hs : WfS r s 0 0) : WfS r (zu s 16 (zlot s)) 0 0 := by
  have hz := zlot_lt s
  obtain ⟨s7, s8, s6, s9, s13, s16, s5, s15, s10, s11, s14, sl⟩ := hs
  unfold WfS
  simp (disch := omega) only [zu_s, zu_n, zu_2]
  exact ⟨s7, s8, s6, s9, s13, by omega, s5, s15, s10, s11, s14, sl⟩
theorem wf_dr {r s : Ns} (hr : WfR r) (hs : WfS r s 0 0) : ∀ i, WfS r (zdr r s i) 0 0
  | 0 => hs
  | i + 1 => wf_day hr (wf_lot (wf_dr hr hs i)) (zpick_le r _)
theorem q_dr_loop {r s : Ns} {vx : Vl} {Q : Int32 → Vl → Prop} {n : Nat} (hr : WfR r) (hs : WfS r s 0 0) (hd : s.1 12 + n ≤ 12900) (hn : n ≤ 200) (h : Q (zdrD r s n) (encS (zdr r s n))) : ∀ m i, i + m = n → wp_X8_drift_c19 vx (encG r) Q (m + 1) (encS (zdr r s i)) (nI n) (zdrD r s i) (nI i)
  | 0, i, e => by
    obtain rfl : i = n := by omega
    unfold wp_X8_drift_c19
    rw [rl_eT (nI_le (Nat.le_refl _) (by omega))]
    exact h
  | m + 1, i, e => by
    have e12 := zdr_12 r s i
    have wi := wf_dr hr hs i
    unfold wp_X8_drift_c19
    rw [rl_eF (nI_ge (by omega) (by omega))]
    refine q_drawSky hr wi ?_
    refine q_live hr (wf_lot wi) (by rw [zu_n _ _ (by decide)]; omega) (zpick_le r _) (by omega) ?_
    simp only [forall_eq, nI_1]
    exact q_dr_loop hr hs hd hn h m (i + 1) (by omega)
theorem m_dr_loop {r s : Ns} {w0 : Vl} {Q : Int32 → Vl → Prop} {n : Nat} (hr : WfR r) (hs : WfS r s 0 0) (hd : s.1 12 + n ≤ 12900) (hn : n ≤ 200) (h1 : 1 ≤ n) (hr0 : MR r w0)
    (h : ∀ w', MS r (zdr r s n) 0 0 w' → MLi r (zdr r s n) 0 w' → fr [18, 21, 22, 24, 27, 28, 30] [17, 19, 20, 25, 26] [13, 15, 16, 29] [] w0 w' → Q (zdrD r s n) w') :
    ∀ m i w, i + m = n → MS r (zdr r s i) 0 0 w → MLi r (zdr r s i) 0 w → (i = 0 ∨ w.1 28 = zdrD r s i) → fr [18, 21, 22, 24, 27, 28, 30] [17, 19, 20, 25, 26] [13, 15, 16, 29] [] w0 w → wp_X9_drift_c12 Q (m + 1) w (nI n) (nI i)
  | 0, i, w, e, ms, ml, h28, f => by
    obtain rfl : i = n := by omega
    have e28 : w.1 28 = zdrD r s i := h28.elim (fun q => absurd q (by omega)) id
    unfold wp_X9_drift_c12
    rw [rl_eT (nI_le (Nat.le_refl _) (by omega)), e28]
    exact h w ms ml f
  | m + 1, i, w, e, ms, ml, h28, f => by
    have e12 := zdr_12 r s i
    have wi := wf_dr hr hs i
    have hz := zlot_lt (zdr r s i)
    have s13 := wi.2.2.2.2.1
    have s16 := wi.2.2.2.2.2.1
    have hm := MR_fr hr0 f (by decide) (by decide)
    have o0 := hr.2.2.2.2.2.2.2.2.2.2.2.2.1 ((zdr r s i).1 13 * 3) (by omega)
    have o1 := hr.2.2.2.2.2.2.2.2.2.2.2.2.1 ((zdr r s i).1 13 * 3 + 1) (by omega)
    have p0 := hm.2.2.2.2.2.2.2.2.1 ((zdr r s i).1 13 * 3) (by omega)
    have p1 := hm.2.2.2.2.2.2.2.2.1 ((zdr r s i).1 13 * 3 + 1) (by omega)
    have ms' := ms
    obtain ⟨m17, m18, m19, m20, m21, m22, m23, m24, m25, m26, m27, m30, mrow⟩ := ms'
    have e30 : (Int64.toInt32 ((((Int32.toInt64 (w.1 30)) * 1103515245) + 12345) - (((Int32.toInt64 (w.1 30)) * 1103515245) + 12345) / 2147483648 * 2147483648)) = nI (zlot (zdr r s i)) := by
      rw [m30, nI_l (by omega), lit64N 1103515245, lit64N 12345, lit64N 2147483648, lN_mul, lN_add, pk_lRem (by omega) (by omega) (by omega), lN_i]
      rfl
    have hd100 : zlot (zdr r s i) / 65536 % 100 < 100 := Nat.mod_lt _ (by omega)
    obtain ⟨w1, ew1⟩ : ∃ w1, w1 = setI w 30 (nI (zlot (zdr r s i))) := ⟨_, rfl⟩
    have f1 : fr [18, 21, 22, 24, 27, 28, 30] [17, 19, 20, 25, 26] [13, 15, 16, 29] [] w w1 := by
      rw [ew1]
      exact fr_I (fr_r w) _ (by decide)
    have ms1 : MS r (zu (zdr r s i) 16 (zlot (zdr r s i))) 0 0 w1 := by
      rw [ew1]
      unfold MS
      simp (disch := omega) only [zu_s, zu_n, zu_2, sI_1, sI_2, ↓reduceIte, Nat.reduceEqDiff]
      exact ⟨m17, m18, m19, m20, m21, m22, m23, m24, m25, m26, m27, trivial, mrow⟩
    have ml1 : MLi r (zu (zdr r s i) 16 (zlot (zdr r s i))) 0 w1 := by
      rw [ew1]
      exact ml
    have day : ∀ sk, zpick r (zdr r s i) = sk → wp_X9_drift_c74 Q (wp_X9_drift_c12 Q (m + 1)) w1 (nI n) (nI i) (nI sk) := by
      intro sk hsk
      subst hsk
      unfold wp_X9_drift_c74
      refine m_dayOf (nl := 360) hr (MR_fr hm f1 (by decide) (by decide)) (wf_lot wi) ms1 (fun _ => ml1) (by rw [zu_n _ _ (by decide)]; omega) (zpick_le r _) ?_
      intro w' q1 q2 q3 q4
      simp only [forall_eq, nI_1]
      exact m_dr_loop hr hs hd hn h1 hr0 h m (i + 1) w' (by omega) q1 (q3 rfl) (Or.inr q2) (fr_t f (fr_t f1 (fr_m q4 (by decide) (by decide) (by decide) (by decide))))
    have q9 : w1.2.2.1 9 = w.2.2.1 9 := f1.2.2.1 9 (by decide)
    have q27 : w1.1 27 = nI ((zdr r s i).1 13) := by rw [ew1]; exact m27
    have q30 : w1.1 30 = nI (zlot (zdr r s i)) := by rw [ew1, sI_1, if_pos rfl]
    unfold wp_X9_drift_c12 wp_X9_draw
    rw [rl_eF (nI_ge (by omega) (by omega))]
    simp only [e30, ← ew1, forall_eq, q27, q30, q9]
    have em : 3 * (zdr r s i).1 13 = (zdr r s i).1 13 * 3 := Nat.mul_comm _ _
    simp (disch := omega) only [lit32, pk_div, pk_rem2, pk_rem3, pk_mul, nI_add, nI_clamp, vp_inN, em, p0, p1, nI_leI, nI_eq]
    refine ⟨by omega, by omega, ?_, ?_⟩
    · intro c1
      refine ⟨by omega, by omega, fun c2 => ?_, fun c2 => ?_⟩
      · exact day 2 (by unfold zpick; rw [if_neg (by omega), if_neg (by omega)])
      · exact day 1 (by unfold zpick; rw [if_neg (by omega), if_pos (by omega)])
    · intro c1
      exact day 0 (by unfold zpick; rw [if_pos (by omega)])
theorem p_drift {c : Nat} {r s : Ns} {vx x1 x9 w : Vl} (x : Int32) (hc : c ≤ 63) (hR : IR r x9 w) (hS : IS c r s x1 w) : ∃ a s' u, (∀ Q : Int32 → Vl → Prop, Q a u → wp_X8_drift vx x1 x9 x Q) ∧ (∀ Q : Int32 → Vl → Prop, (∀ w', IS (c + 1) r s' u w' → fr [18, 21, 22, 24, 27, 28, 30] [17, 19, 20, 25, 26] [13, 15, 16, 29] [] w w' → Q a w') → wp_X9_drift w x Q) := by
  have hS' := hS
  obtain ⟨e9, wr, mr⟩ := hR
  obtain ⟨e1, ws, hd, ms, ml⟩ := hS'
  rcases rl_rg x 1 200 (by omega) (by omega) with ⟨n, n1, hn, rfl⟩ | ⟨h1, h2⟩
  · refine ⟨zdrD r s n, zdr r s n, encS (zdr r s n), fun Q h => ?_, fun Q h => ?_⟩
    · unfold wp_X8_drift
      refine rl_cy n1 hn (by decide) ⟨n + 1, ?_⟩
      rw [e1, e9]
      exact q_dr_loop wr ws (by omega) hn h n 0 (by omega)
    · unfold wp_X9_drift wp_X9_isDays
      rw [rl_iy n1 hn (by omega) (by decide +kernel) (by decide +kernel)]
      refine ⟨rfl, rl_b11.mpr ⟨n + 1, ?_⟩⟩
      refine m_dr_loop (w0 := w) wr ws (by omega) hn n1 mr (fun w' q1 q2 q3 => h w' ⟨rfl, wf_dr wr ws n, ?_, q1, q2⟩ q3) n 0 w (by omega) ms ml (Or.inl rfl) (fr_r w)
      rw [zdr_12]
      omega
  · refine ⟨-1000000002, s, x1, fun Q h => rl_cn h1 h, fun Q h => ?_⟩
    unfold wp_X9_drift wp_X9_isDays
    rw [rl_ino h2 (by decide +kernel) (by decide +kernel)]
    exact ⟨rfl, rl_b10.mpr (h w (IS_up hS (by omega)) (fr_r w))⟩
