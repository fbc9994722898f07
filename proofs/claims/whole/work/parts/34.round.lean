/-! ===== round ===== -/
def zs0 (s : Ns) : Ns := zu (zu s 10 0) 11 0
theorem wf_s0 {r s : Ns} (hs : WfS r s 0 0) : WfS r (zs0 s) 0 0 := by
  obtain ⟨s7, s8, s6, s9, s13, s16, s5, s15, s10, s11, s14, sl⟩ := hs
  unfold WfS zs0
  simp (disch := omega) only [zu_s, zu_n, zu_2]
  exact ⟨s7, s8, s6, s9, s13, s16, s5, s15, by omega, by omega, s14, sl⟩
theorem zs0_12 (s : Ns) : (zs0 s).1 12 = s.1 12 := by
  unfold zs0
  rw [zu_n _ _ (by decide), zu_n _ _ (by decide)]
theorem Rp_s0 {s t : Ns} (h : Rp s t) : Rp (zs0 s) (zs0 t) := by
  obtain ⟨⟨a1, a2, a3⟩, a5, a6, a7, a8, a12⟩ := h
  refine ⟨⟨?_, ?_, a3⟩, ?_, ?_, ?_, ?_, ?_⟩ <;> (unfold zs0; simp (disch := omega) only [zu_s, zu_n])
  · exact a5
  · exact a6
  · exact a7
  · exact a8
  · exact a12
theorem q_seek {r k s : Ns} {n : Nat} {v b0 b1 b2 b3 b4 : Vl} {Q : Vl → Vl → Vl → Vl → Vl → Vl → Prop} (hr : WfR r) (hk : WfK k) (hs : WfS r s 0 0) (hd : s.1 12 ≤ 12880) (hn : n ≤ 4) (h1 : 1 ≤ n) (e0 : ∃ a, b0 = encS a) (e1 : ∃ a, b1 = encS a) (e2 : ∃ a, b2 = encS a) (e3 : ∃ a, b3 = encS a) (e4 : ∃ a, b4 = encS a)
    (hQ : ∀ u a0 a1 a2 a3 a4, cR u (r.1 7 + 1) n (zb (zC r k (zs0 s) n) ((r.1 7 + 1) ^ n)) → Q u (encS a0) (encS a1) (encS a2) (encS a3) (encS a4)) : wp_X4_seek v (encG r) (encG k) 360 (encS s) b0 b1 b2 b3 b4 (nI n) Q := by
  obtain ⟨a0, rfl⟩ := e0
  obtain ⟨a1, rfl⟩ := e1
  obtain ⟨a2, rfl⟩ := e2
  obtain ⟨a3, rfl⟩ := e3
  obtain ⟨a4, rfl⟩ := e4
  unfold wp_X4_seek
  simp only [forall_eq]
  refine q_copyFrom (by decide) (by decide) ?_
  have z0 : (0 : Int32) = nI 0 := rfl
  rw [z0, encS_setI _ _ (by decide) (by decide), encS_setI _ _ (by decide) (by decide)]
  have wc := WfS_eq hr (zcopy_eq (min 360 0) a0 s) hs
  have rc := Rp_s0 (Rp_eq (zcopy_eq (min 360 0) a0 s))
  refine q_try0 (s := zs0 s) hr hk (wf_s0 hs) (by rw [zs0_12]; exact hd) hn (by omega) 0 (zs0 (zcopy (min 360 0) a0 s)) rc (wf_s0 wc) (fun u b1 b2 b3 b4 hu _ => ?_) _ a1 a2 a3 a4 ?_ (fun j hj => absurd hj (Nat.not_lt_zero _))
  · refine hQ u (zs0 (zcopy (min 360 0) a0 s)) b1 b2 b3 b4 ?_
    rw [Nat.zero_add, Nat.one_mul] at hu
    exact hu
  · rw [Nat.zero_mul]
    exact ⟨rfl, rfl⟩
/-! the model's rows -/
theorem m_power {w : Vl} {L n : Nat} {Q : Int32 → Prop} (h0 : w.1 0 = nI L) (h : Q (nI ((L + 1) ^ n))) : ∀ m i, i + m = n → n ≤ 9 → wp_X9_power_c4 w Q (m + 1) (nI n) (nI ((L + 1) ^ i)) (nI i)
  | 0, i, e, hn => by
    obtain rfl : i = n := by omega
    unfold wp_X9_power_c4
    rw [rl_eT (nI_le (Nat.le_refl _) (by omega))]
    exact h
  | m + 1, i, e, hn => by
    unfold wp_X9_power_c4
    rw [rl_eF (nI_ge (by omega) (by omega)), h0]
    simp only [forall_eq, nI_1, pk_mul, ← Nat.pow_succ]
    exact m_power h0 h m (i + 1) (by omega) hn
theorem gI_pred (g : Nat) : nI g - 1 = gI g := by
  cases g with
  | zero => decide
  | succ g => exact nI_pred g
theorem rl_pow {L j : Nat} (hL : L ≤ 9) (hj : j ≤ 4) : 1 ≤ (L + 1) ^ j ∧ (L + 1) ^ j ≤ 10000 := by
  refine ⟨Nat.one_le_pow _ _ (by omega), ?_⟩
  have h1 : (L + 1) ^ j ≤ 10 ^ j := Nat.pow_le_pow_left (by omega) j
  have h2 : 10 ^ j ≤ 10 ^ 4 := Nat.pow_le_pow_right (by omega) hj
  omega
theorem m_goalOf {w : Vl} {L n x d : Nat} {Q : Int32 → Prop} (h0 : w.1 0 = nI L) (hL : L ≤ 9) (hn : n ≤ 4) (hd : d < n) (hx : x < 2 ^ 31) (h : Q (gI (x / (L + 1) ^ (n - 1 - d) % (L + 1)))) : wp_X9_goalOf w (nI x) (nI n) (nI d) Q := by
  have hp := rl_pow (j := n - 1 - d) hL (by omega)
  have e1 : nI n - 1 - nI d = nI (n - 1 - d) := by
    rw [lit32 1, pk_sub (by omega), pk_sub (by omega)]
  have hq : x / (L + 1) ^ (n - 1 - d) ≤ x := Nat.div_le_self _ _
  unfold wp_X9_goalOf
  rw [e1]
  refine ⟨_, m_power h0 ?_ (n - 1 - d) 0 (by omega) (by omega)⟩
  rw [h0, nI_1, pk_div hx (by omega) (by omega), pk_rem (by omega) (by omega) (by omega), gI_pred]
  exact ⟨nI_ne0 (by omega) (by omega), nI_ne0 (by omega) (by omega), h⟩
def mr3 : Option (Nat × Nat × Nat) → Int32
  | none => -1
  | some p => nI p.2.2
def mr4 (H : Nat) : Option (Nat × Nat × Nat) → Int64
  | none => 0
  | some p => lN (p.1 + H)
def mr6 (B : Nat) : Option (Nat × Nat × Nat) → Int64
  | none => 0
  | some p => lN (p.2.1 + B)
theorem MS_s0 {r s : Ns} {w : Vl} (h : MS r s 0 0 w) : MS r (zs0 s) (s.1 10) (s.1 11) w := by
  obtain ⟨m17, m18, m19, m20, m21, m22, m23, m24, m25, m26, m27, m30, mrow⟩ := h
  unfold MS zs0
  simp (disch := omega) only [zu_s, zu_n, zu_2, Nat.zero_add]
  exact ⟨m17, m18, m19, m20, m21, m22, m23, m24, m25, m26, m27, m30, mrow⟩
theorem m_days {r k s : Ns} {w0 : Vl} {n x H B : Nat} {y2 y3 : Int32} {y4 y6 y8 y10 : Int64} {Q : Int32 → Vl → Prop} {B56 : Vl → Int32 → Int32 → Int32 → Int64 → Int64 → Int64 → Int64 → Int32 → Prop} (hr : WfR r) (hk : WfK k) (hs : WfS r s 0 0) (hd : s.1 12 ≤ 12880) (hn : n ≤ 4) (hx : x < 2 ^ 31) (hm0 : MR r w0) (mk0 : MK k w0)
    (h : ∀ w', MS r (zpre r k s n x) H B w' → fr [18, 21, 22, 23, 24, 27, 28, 30] [17, 19, 20, 25, 26] [13, 14, 15, 16, 29] [] w0 w' → wp_X9_round_c69 Q B56 1 w' (nI n) y2 y3 y4 y6 y8 y10 (nI x) (nI n)) :
    ∀ m d w, d + m = n → MS r (zpre r k s d (x / (r.1 7 + 1) ^ (n - d))) H B w → fr [18, 21, 22, 23, 24, 27, 28, 30] [17, 19, 20, 25, 26] [13, 14, 15, 16, 29] [] w0 w → wp_X9_round_c69 Q B56 (m + 1) w (nI n) y2 y3 y4 y6 y8 y10 (nI x) (nI d)
  | 0, d, w, e, ms, f => by
    obtain rfl : d = n := by omega
    rw [Nat.sub_self, Nat.pow_zero, Nat.div_one] at ms
    exact h w ms f
  | m + 1, d, w, e, ms, f => by
    have r7 := hr.1
    have hm := MR_fr hm0 f (by decide) (by decide)
    obtain ⟨wp, ep⟩ := wf_pre hr hk hs d (x / (r.1 7 + 1) ^ (n - d))
    have eq1 : x / (r.1 7 + 1) ^ (n - (d + 1)) / (r.1 7 + 1) = x / (r.1 7 + 1) ^ (n - d) := by
      have e2 : n - d = (n - (d + 1)) + 1 := by omega
      rw [Nat.div_div_eq_div_mul, e2, Nat.pow_succ]
    have e3 : n - 1 - d = n - (d + 1) := by omega
    obtain ⟨g, eg⟩ : ∃ g, g = x / (r.1 7 + 1) ^ (n - (d + 1)) % (r.1 7 + 1) := ⟨_, rfl⟩
    have hg : g ≤ r.1 7 := by
      rw [eg]
      exact Nat.le_of_lt_succ (Nat.mod_lt _ (Nat.succ_pos _))
    unfold wp_X9_round_c69
    rw [rl_eF (nI_ge (by omega) (by omega))]
    refine m_goalOf hm.1 r7 hn (by omega) hx ?_
    rw [e3, ← eg]
    intro w1 ew
    have f1 : fr [18, 21, 22, 23, 24, 27, 28, 30] [17, 19, 20, 25, 26] [13, 14, 15, 16, 29] [] w0 w1 := by
      rw [ew]
      exact fr_I f _ (by decide)
    have ms1 : MS r (zu (zpre r k s d (x / (r.1 7 + 1) ^ (n - d))) 9 g) H B w1 := by
      obtain ⟨m17, m18, m19, m20, m21, m22, m23, m24, m25, m26, m27, m30, mrow⟩ := ms
      rw [ew]
      unfold MS
      simp (disch := omega) only [zu_s, zu_n, zu_2, sI_1, sI_2, ↓reduceIte, Nat.reduceEqDiff]
      exact ⟨m17, m18, m19, m20, m21, m22, trivial, m24, m25, m26, m27, m30, mrow⟩
    have e24 : w1.1 24 = nI ((zpre r k s d (x / (r.1 7 + 1) ^ (n - d))).1 12) := by
      rw [ew]
      exact ms.2.2.2.2.2.2.2.1
    rw [e24]
    refine m_skyOf hk (MK_fr mk0 f1 (by decide) (by decide)) (by omega) ?_
    refine m_dayOf (nl := 0) hr (MR_fr hm0 f1 (by decide) (by decide)) (wf_goal wp hg) ms1 (fun q => absurd q (by decide)) (by rw [zu_n _ _ (by decide)]; omega) (zsky_le hk _) ?_
    intro w' q1 _ _ q4
    simp only [forall_eq, nI_1]
    refine m_days hr hk hs hd hn hx hm0 mk0 h m (d + 1) w' (by omega) ?_ (fr_t f1 (fr_m q4 (by decide) (by decide) (by decide) (by decide)))
    show MS r (zst r k (zpre r k s d (x / (r.1 7 + 1) ^ (n - (d + 1)) / (r.1 7 + 1))) (x / (r.1 7 + 1) ^ (n - (d + 1)) % (r.1 7 + 1))) H B w'
    rw [eq1, ← eg]
    exact q1
theorem m_rows {r k s : Ns} {w0 : Vl} {n t : Nat} {Q : Int32 → Vl → Prop} (hr : WfR r) (hk : WfK k) (hs : WfS r s 0 0) (hd : s.1 12 ≤ 12880) (hn : n ≤ 4) (h1 : 1 ≤ n) (ht : t ≤ n + 1) (hm0 : MR r w0) (mk0 : MK k w0) (mi : MI r s 820 w0) {p : Nat × Nat × Nat} (ep : zb (zC r k (zs0 s) n) ((r.1 7 + 1) ^ n) = some p)
    (h : ∀ w', MS r s 0 0 w' → MLi r s 0 w' → fr [18, 21, 22, 23, 24, 27, 28, 30] [17, 19, 20, 25, 26] [13, 14, 15, 16, 29] [] w0 w' → Q (if t = 0 then nI p.1 else if t = 1 then nI p.2.1 else gI (p.2.2 / (r.1 7 + 1) ^ (n - 1 - (t - 2)) % (r.1 7 + 1))) w') :
    ∀ m x w, x + m = (r.1 7 + 1) ^ n → MS r s 0 0 w → MLi r s 0 w → fr [18, 21, 22, 23, 24, 27, 28, 30] [17, 19, 20, 25, 26] [13, 14, 15, 16, 29] [] w0 w → wp_X9_round_c56 Q (m + 1) w (nI n) (nI t) (mr3 (zb (zC r k (zs0 s) n) x)) (mr4 (s.1 10) (zb (zC r k (zs0 s) n) x)) (mr6 (s.1 11) (zb (zC r k (zs0 s) n) x)) (lN (s.1 10)) (lN (s.1 11)) (nI x)
  | 0, x, w, e, ms, ml, f => by
    obtain rfl : x = (r.1 7 + 1) ^ n := by omega
    have r7 := hr.1
    have hp := rl_pow (j := n) r7 hn
    have hm := MR_fr hm0 f (by decide) (by decide)
    have pv := zb_val _ _ p ep
    have pc := zC_le hr hk (wf_s0 hs) (n := n) (by rw [zs0_12]; omega) p.2.2
    rw [← pv.2] at pc
    have s10 := hs.2.2.2.2.2.2.2.2.1
    have s11 := hs.2.2.2.2.2.2.2.2.2.1
    unfold wp_X9_round_c56
    refine ⟨n + 1, m_power hm.1 ?_ n 0 (by omega) (by omega)⟩
    rw [rl_eT (nI_le (Nat.le_refl _) (by omega)), ep]
    have hQ := h w ms ml f
    have ct : t = 0 ∨ t = 1 ∨ 2 ≤ t := by omega
    rcases ct with rfl | rfl | ct
    · rw [rl_fT (show nI 0 = 0 from rfl)]
      rw [if_pos rfl] at hQ
      show Q (Int64.toInt32 (lN (p.1 + s.1 10) - lN (s.1 10))) w
      rw [lN_sub (by omega), Nat.add_sub_cancel, lN_i]
      exact hQ
    · rw [rl_fF (show ¬ nI 1 = 0 by decide), rl_fT (show nI 1 = 1 from rfl)]
      rw [if_neg (by decide), if_pos rfl] at hQ
      show Q (Int64.toInt32 (lN (p.2.1 + s.1 11) - lN (s.1 11))) w
      rw [lN_sub (by omega), Nat.add_sub_cancel, lN_i]
      exact hQ
    · rw [if_neg (by omega), if_neg (by omega)] at hQ
      rw [rl_fF (nI_ne0 (by omega) (by omega)), rl_fF (show ¬ nI t = 1 from fun q => absurd ((nI_eq (b := 1) (by omega) (by omega)).mp q) (by omega)), lit32 2, pk_sub ct]
      refine m_goalOf hm.1 r7 hn (by omega) (by omega) ?_
      rw [Int32.toInt32_toInt64]
      exact hQ
  | m + 1, x, w, e, ms, ml, f => by
    have r7 := hr.1
    have hp := rl_pow (j := n) r7 hn
    have hm := MR_fr hm0 f (by decide) (by decide)
    have s10 := hs.2.2.2.2.2.2.2.2.1
    have s11 := hs.2.2.2.2.2.2.2.2.2.1
    have xc := zC_le hr hk (wf_s0 hs) (n := n) (by rw [zs0_12]; omega) x
    have IH := m_rows hr hk hs hd hn h1 ht hm0 mk0 mi ep h m (x + 1)
    obtain ⟨o, eo⟩ : ∃ o, o = zb (zC r k (zs0 s) n) x := ⟨_, rfl⟩
    have IH2 : ∀ w, MS r s 0 0 w → MLi r s 0 w → fr [18, 21, 22, 23, 24, 27, 28, 30] [17, 19, 20, 25, 26] [13, 14, 15, 16, 29] [] w0 w → wp_X9_round_c56 Q (m + 1) w (nI n) (nI t) (mr3 (zbu (zC r k (zs0 s) n x) x o)) (mr4 (s.1 10) (zbu (zC r k (zs0 s) n x) x o)) (mr6 (s.1 11) (zbu (zC r k (zs0 s) n x) x o)) (lN (s.1 10)) (lN (s.1 11)) (nI (x + 1)) := by
      intro w a b c
      rw [eo]
      exact IH w (by omega) a b c
    rw [← eo]
    unfold wp_X9_round_c56
    refine ⟨n + 1, m_power hm.1 ?_ n 0 (by omega) (by omega)⟩
    rw [rl_eF (nI_ge (by omega) (by omega))]
    refine ⟨n + 1, m_days (s := zs0 s) (H := s.1 10) (B := s.1 11) hr hk (wf_s0 hs) (by rw [zs0_12]; exact hd) hn (by omega) hm0 mk0 (fun w' ms' f' => ?_) n 0 w (by omega) (MS_s0 ms) f⟩
    have e25 : w'.2.1 25 = lN ((zC r k (zs0 s) n x).1 + s.1 10) := ms'.2.2.2.2.2.2.2.2.1
    have e26 : w'.2.1 26 = lN ((zC r k (zs0 s) n x).2 + s.1 11) := ms'.2.2.2.2.2.2.2.2.2.1
    obtain ⟨cx, ecx⟩ : ∃ cx, cx = zC r k (zs0 s) n x := ⟨_, rfl⟩
    rw [← ecx] at e25 e26 xc IH2
    have e49 : w'.2.2.2 49 = w0.2.2.2 49 := f'.2.2.2 49 (by decide)
    have mi' : MI r s 820 w' := MI_o r7 mi (fun j _ _ => by rw [e49])
    have fin : ∀ y3 y4 y6, (∀ w, MS r s 0 0 w → MLi r s 0 w → fr [18, 21, 22, 23, 24, 27, 28, 30] [17, 19, 20, 25, 26] [13, 14, 15, 16, 29] [] w0 w → wp_X9_round_c56 Q (m + 1) w (nI n) (nI t) y3 y4 y6 (lN (s.1 10)) (lN (s.1 11)) (nI (x + 1))) → wp_X9_round_c189 Q (wp_X9_round_c56 Q (m + 1)) w' (nI n) (nI t) y3 y4 (lN (s.1 10)) (lN (s.1 11)) (nI x) y6 := by
      intro y3 y4 y6 hh
      unfold wp_X9_round_c189
      refine m_load (i := 2) (by omega) hr hs mi' (fun w2 q1 q2 q3 => ?_)
      simp only [forall_eq, nI_1]
      exact hh w2 q1 q2 (fr_t f' q3)
    have yes : btr cx o → wp_X9_round_c140 Q (wp_X9_round_c56 Q (m + 1)) w' (nI n) (nI t) (mr3 o) (mr4 (s.1 10) o) (mr6 (s.1 11) o) (lN (s.1 10)) (lN (s.1 11)) (nI x) := by
      intro hb
      unfold wp_X9_round_c140 wp_X9_round_c145 wp_X9_round_c158 wp_X9_round_c173
      rw [rl_b01, rl_b01, rl_b01, e25, e26]
      rw [zbu_y hb] at IH2
      exact fin _ _ _ IH2
    have no : ¬ btr cx o → wp_X9_round_c144 Q (wp_X9_round_c56 Q (m + 1)) w' (nI n) (nI t) (mr3 o) (mr4 (s.1 10) o) (mr6 (s.1 11) o) (lN (s.1 10)) (lN (s.1 11)) (nI x) := by
      intro hb
      unfold wp_X9_round_c144 wp_X9_round_c145 wp_X9_round_c158 wp_X9_round_c173
      rw [rl_b00, rl_b00, rl_b00]
      rw [zbu_n hb] at IH2
      exact fin _ _ _ IH2
    unfold wp_X9_round_c69
    rw [rl_eT (nI_le (Nat.le_refl _) (by omega)), e25, e26]
    cases o with
    | none =>
      rw [rl_eT (show mr3 none < 0 by decide)]
      exact yes trivial
    | some q =>
      have qv := zb_val _ _ q eo.symm
      have qc := zC_le hr hk (wf_s0 hs) (n := n) (by rw [zs0_12]; omega) q.2.2
      rw [← qv.2] at qc
      rw [rl_eF (show ¬ mr3 (some q) < 0 from nI_pos (by omega))]
      have g4 : mr4 (s.1 10) (some q) = lN (q.1 + s.1 10) := rfl
      have g6 : mr6 (s.1 11) (some q) = lN (q.2.1 + s.1 11) := rfl
      rw [g4, g6] at yes no ⊢
      unfold btr at yes no
      dsimp only at yes no
      simp (disch := omega) only [lN_lt, lN_eq, lN_le]
      refine ⟨fun c => yes (by omega), fun c => ⟨fun c2 => no (by omega), fun c2 => ⟨fun c3 => no (by omega), fun c3 => yes (by omega)⟩⟩⟩
theorem p_round {c : Nat} {r k s : Ns} {vx x1 v4 b0 b1 b2 b3 b4 x9 x11 w : Vl} (x y : Int32) (hc : c ≤ 64) (hR : IR r x9 w) (hS : IS c r s x1 w) (hK : IK k x11 w) (e0 : ∃ a, b0 = encS a) (e1 : ∃ a, b1 = encS a) (e2 : ∃ a, b2 = encS a) (e3 : ∃ a, b3 = encS a) (e4 : ∃ a, b4 = encS a) :
    ∃ z, (∀ Q : Int32 → Vl → Vl → Vl → Vl → Vl → Vl → Prop, (∀ u c0 c1 c2 c3 c4, (∃ a, c0 = encS a) → (∃ a, c1 = encS a) → (∃ a, c2 = encS a) → (∃ a, c3 = encS a) → (∃ a, c4 = encS a) → Q z u c0 c1 c2 c3 c4) → wp_X8_round vx x1 v4 b0 b1 b2 b3 b4 x9 x11 x y Q) ∧
      (∀ Q : Int32 → Vl → Prop, (∀ w', MS r s 0 0 w' → MLi r s 0 w' → fr [18, 21, 22, 23, 24, 27, 28, 30] [17, 19, 20, 25, 26] [13, 14, 15, 16, 29] [49] w w' → (∀ j, j < 820 → w'.2.2.2 49 j = w.2.2.2 49 j) → Q z w') → wp_X9_round w x y Q) := by
  obtain ⟨e9, wr, mr⟩ := hR
  obtain ⟨ex1, ws, hd, ms, ml⟩ := hS
  obtain ⟨e11, wk, mk⟩ := hK
  have r7 := wr.1
  subst e9 ex1 e11
  unfold wp_X8_round wp_X9_round
  rcases rl_rg x 1 4 (by omega) (by omega) with ⟨n, n1, hn, rfl⟩ | ⟨h1, h2⟩
  · have en : (1 : Int32) + nI n = nI (n + 1) := by rw [lit32 1, nI_add, Nat.add_comm]
    have en2 : nI n + 1 = nI (n + 1) := nI_1 n
    have t1 : ∀ N R : Prop, ((nI n < 1 → N) ∧ (¬ nI n < 1 → ((4 < nI n → N) ∧ (¬ 4 < nI n → R)))) ↔ R := by
      intro N R
      rw [rl_eF (show ¬ nI n < 1 from nI_nlt (b := 1) n1 (by omega)), rl_eF (show ¬ (4 : Int32) < nI n from nI_nlt (a := 4) hn (by omega))]
    rcases rl_rg y 0 (n + 1) (by omega) (by omega) with ⟨t, t0, ht, rfl⟩ | ⟨h1, h2⟩
    · have hp := rl_pow (j := n) r7 hn
      obtain ⟨i, ei⟩ : ∃ i, (r.1 7 + 1) ^ n = i + 1 := ⟨(r.1 7 + 1) ^ n - 1, by omega⟩
      obtain ⟨p, ep, hp2, hpc⟩ := zb_some (zC r k (zs0 s) n) i
      rw [← ei] at ep
      refine ⟨if t = 0 then nI p.1 else if t = 1 then nI p.2.1 else gI (p.2.2 / (r.1 7 + 1) ^ (n - 1 - (t - 2)) % (r.1 7 + 1)), fun Q h => ?_, fun Q h => ?_⟩
      · rw [t1, en2]
        refine rl_cy t0 ht (by omega) ?_
        refine q_seek wr wk ws (by omega) hn n1 e0 e1 e2 e3 e4 (fun u a0 a1 a2 a3 a4 hu => ?_)
        rw [ep] at hu
        obtain ⟨u3, u4, ur⟩ := hu
        have hQ := h u (encS a0) (encS a1) (encS a2) (encS a3) (encS a4) ⟨_, rfl⟩ ⟨_, rfl⟩ ⟨_, rfl⟩ ⟨_, rfl⟩ ⟨_, rfl⟩
        have ct : t = 0 ∨ t = 1 ∨ 2 ≤ t := by omega
        rcases ct with rfl | rfl | ct
        · rw [if_pos rfl] at hQ
          refine ⟨fun q => absurd rfl q.1, fun _ => ?_, fun q => absurd q (by decide)⟩
          rw [u3]
          exact hQ
        · rw [if_neg (by decide), if_pos rfl] at hQ
          refine ⟨fun q => absurd rfl q.2, fun q => absurd q (by decide), fun _ => ?_⟩
          rw [u4]
          exact hQ
        · rw [if_neg (by omega), if_neg (by omega)] at hQ
          refine ⟨fun _ => ?_, fun q => absurd ((nI_eq (b := 0) (by omega) (by omega)).mp q) (by omega), fun q => absurd ((nI_eq (b := 1) (by omega) (by omega)).mp q) (by omega)⟩
          rw [w_at (by decide), lit32 2, pk_sub ct, jat_nI (by omega) (by decide), ur (t - 2) (by omega)]
          exact hQ
      · rw [rl_iy n1 hn (by omega) (by decide +kernel) (by decide +kernel), rl_b01, en, rl_iy t0 ht (by omega) (by decide +kernel) rfl, rl_b11]
        refine m_save (i := 2) wr ws (by omega) (by omega) ms ml (fun g q1 q2 => ?_)
        have f1 : fr [] [] [] [49] w (setRB w 49 g) := fr_RB w 49 g (by decide)
        have ms1 := MS_fr ms f1 (by decide) (by decide) (by decide)
        have ml1 := ML_fr ml f1 (by decide)
        have m25 : (setRB w 49 g).2.1 25 = lN (s.1 10) := ms1.2.2.2.2.2.2.2.2.1
        have m26 : (setRB w 49 g).2.1 26 = lN (s.1 11) := ms1.2.2.2.2.2.2.2.2.2.1
        simp only [forall_eq, m25, m26]
        refine ⟨(r.1 7 + 1) ^ n + 1, m_rows (w0 := setRB w 49 g) wr wk ws (by omega) hn n1 ht (MR_fr mr f1 (by decide) (by decide)) (MK_fr mk f1 (by decide) (by decide)) q2 ep (fun w' a b f' => ?_) ((r.1 7 + 1) ^ n) 0 _ (by omega) ms1 ml1 (fr_r _)⟩
        refine h w' a b (fr_t (fr_m f1 (by decide) (by decide) (by decide) (by decide)) (fr_m f' (by decide) (by decide) (by decide) (by decide))) (fun j hj => ?_)
        rw [f'.2.2.2 49 (by decide), RB_4]
        exact q1 j (by omega)
    · refine ⟨-1000000002, fun Q h => ?_, fun Q h => ?_⟩
      · rw [t1, en2]
        exact rl_cn h1 (h _ _ _ _ _ _ e0 e1 e2 e3 e4)
      · rw [rl_iy n1 hn (by omega) (by decide +kernel) (by decide +kernel), rl_b01, en, rl_ino h2 (by decide +kernel) rfl, rl_b10]
        exact h w ms ml (fr_r w) (fun j _ => rfl)
  · refine ⟨-1000000002, fun Q h => ?_, fun Q h => ?_⟩
    · have hN := h v4 b0 b1 b2 b3 b4 e0 e1 e2 e3 e4
      refine ⟨fun _ => hN, fun q => ⟨fun _ => hN, fun q2 => absurd ⟨?_, ?_⟩ h2⟩⟩
      · rw [rl_lt_not] at q
        exact Classical.not_not.mp q
      · rw [rl_lt_not] at q2
        exact Classical.not_not.mp q2
    · rw [rl_ino h2 (by decide +kernel) (by decide +kernel), rl_b00]
      exact h w ms ml (fr_r w) (fun j _ => rfl)
