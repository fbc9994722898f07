/-! ===== LASTS ===== -/
def zls (r k : Ns) (d l hv : Nat) : Nat → Nat → Nat → Nat
  | 0, _, i => i
  | m + 1, o, i => if o < zneed r l (zhours r (d + i)) (zsky k (d + i)) hv ∨ zout r l (zsky k (d + i)) = 1 then i else zls r k d l hv m (o - zneed r l (zhours r (d + i)) (zsky k (d + i)) hv - zleak r l (o - zneed r l (zhours r (d + i)) (zsky k (d + i)) hv)) (i + 1)
theorem zls_le (r k : Ns) (d l hv : Nat) : ∀ m o i, zls r k d l hv m o i ≤ i + m
  | 0, _, _ => Nat.le_refl _
  | m + 1, o, i => by
    unfold zls
    split
    · omega
    · have := zls_le r k d l hv m (o - zneed r l (zhours r (d + i)) (zsky k (d + i)) hv - zleak r l (o - zneed r l (zhours r (d + i)) (zsky k (d + i)) hv)) (i + 1)
      omega
theorem zneed_le {r : Ns} {l h sky hv : Nat} (hb : r.2 2 l ≤ 99) (hh : h ≤ 24) : zneed r l h sky hv ≤ 474 := by
  have e := (zneed0_le (h := h) hb hh).1
  unfold zneed
  split
  · omega
  · split
    · omega
    · split <;> omega
theorem zleak_le (r : Ns) (l x : Nat) : zleak r l x ≤ x := by
  unfold zleak
  split <;> omega
theorem zout_01 (r : Ns) (l sky : Nat) : zout r l sky = 0 ∨ zout r l sky = 1 := by
  unfold zout
  split
  · exact Or.inr rfl
  · exact Or.inl rfl
theorem q_ls_loop {r k s : Ns} {vx : Vl} {l hv : Nat} {Q : Int32 → Prop} (hr : WfR r) (hk : WfK k) (hl : l < r.1 7) (hv1 : hv ≤ 1) (hd : s.1 12 ≤ 12900) : ∀ m o i, i + m = 400 → o ≤ 9999 → Q (nI (zls r k (s.1 12) l hv m o i)) → wp_X8_nightsNotDark_c39 vx (encS s) (encG r) (encG k) Q (m + 1) (nI l) (nI o) (nI hv) (nI i)
  | 0, o, i, e, ho, h => by
    obtain rfl : i = 400 := by omega
    unfold wp_X8_nightsNotDark_c39
    rw [rl_eT (show (400 : Int32) ≤ nI 400 by decide)]
    exact h
  | m + 1, o, i, e, ho, h => by
    have r7 := hr.1
    obtain ⟨k0, k1, k2, k3, k4⟩ := hr.2.2.2.2.2.2.2.2.2.2.2.2.2.2 l hl
    have hh := zhours_le hr (s.1 12 + i)
    have hs := zsky_le hk (s.1 12 + i)
    have hn := zneed_le (l := l) (sky := zsky k (s.1 12 + i)) (hv := hv) k2 hh
    unfold zls at h
    unfold wp_X8_nightsNotDark_c39
    rw [rl_eF (show ¬ (400 : Int32) ≤ nI i from nI_ge (b := 400) (by omega) (by omega))]
    simp (disch := omega) only [forall_eq, encS_1, nI_add]
    refine q_skyOf hk (by omega) ?_
    rw [w_X3_hoursOf hr (by omega), w_X3_needOf (by omega) k0 k2 hh hs hv1, w_X3_isDarkBySky (by omega) k0 hs]
    obtain ⟨nd, end_⟩ : ∃ nd, nd = zneed r l (zhours r (s.1 12 + i)) (zsky k (s.1 12 + i)) hv := ⟨_, rfl⟩
    rw [← end_] at h hn ⊢
    rcases zout_01 r l (zsky k (s.1 12 + i)) with c | c
    · rw [c, rl_fT (show nI 0 = 0 from rfl)]
      rw [c] at h
      by_cases c2 : o < nd
      · rw [if_pos (Or.inl c2)] at h
        rw [rl_eF (nI_ge c2 (by omega))]
        exact h
      · rw [if_neg (fun q => q.elim c2 (by decide))] at h
        have hz := zleak_le r l (o - nd)
        rw [rl_eT (nI_le (by omega) (by omega))]
        simp (disch := omega) only [pk_sub, w_X3_leakOf, nI_1]
        exact q_ls_loop hr hk hl hv1 hd m _ (i + 1) (by omega) (by omega) h
    · rw [c, rl_fF (show ¬ nI 1 = 0 by decide)]
      rw [if_pos (Or.inr c)] at h
      exact h
theorem m_ls_loop {r k s : Ns} {w : Vl} {l hv : Nat} {Q : Int32 → Prop} (hr : WfR r) (hk : WfK k) (hm : MR r w) (mk : MK k w) (m24 : w.1 24 = nI (s.1 12)) (e14 : w.2.2.1 14 l = nI hv) (hl : l < r.1 7) (hv1 : hv ≤ 1) (hd : s.1 12 ≤ 12900) : ∀ m o i, i + m = 400 → o ≤ 9999 → Q (nI (zls r k (s.1 12) l hv m o i)) → wp_X9_lastsWith_c12 w Q (m + 1) (nI l) (nI o) (nI i)
  | 0, o, i, e, ho, h => by
    obtain rfl : i = 400 := by omega
    unfold wp_X9_lastsWith_c12
    rw [rl_eT (show (400 : Int32) ≤ nI 400 by decide)]
    exact h
  | m + 1, o, i, e, ho, h => by
    have r7 := hr.1
    obtain ⟨k0, k1, k2, k3, k4⟩ := hr.2.2.2.2.2.2.2.2.2.2.2.2.2.2 l hl
    have hh := zhours_le hr (s.1 12 + i)
    have hs := zsky_le hk (s.1 12 + i)
    have hn := zneed_le (l := l) (sky := zsky k (s.1 12 + i)) (hv := hv) k2 hh
    have e0 := hm.2.2.2.2.2.2.2.2.2 l hl 0 (by omega)
    rw [Nat.add_zero] at e0
    unfold zls at h
    unfold wp_X9_lastsWith_c12 wp_X9_lastsWith_c94
    rw [rl_eF (show ¬ (400 : Int32) ≤ nI i from nI_ge (b := 400) (by omega) (by omega)), m24]
    simp only [nI_add]
    refine m_skyOf hk mk (by omega) ?_
    rw [w_X9_needs hr hm hl (by omega) hs e14 hv1, w_X9_isOut hr hm hl hs]
    obtain ⟨nd, end_⟩ : ∃ nd, nd = zneed r l (zhours r (s.1 12 + i)) (zsky k (s.1 12 + i)) hv := ⟨_, rfl⟩
    rw [← end_] at h hn ⊢
    by_cases c2 : o < nd
    · rw [if_pos (Or.inl c2)] at h
      rw [rl_eT (nI_lt c2 (by omega))]
      exact h
    · rw [rl_eF (nI_nlt (by omega) (by omega))]
      rcases zout_01 r l (zsky k (s.1 12 + i)) with c | c
      · rw [c, rl_eT (show nI 0 = 0 from rfl)]
        rw [c, if_neg (fun q => q.elim c2 (by decide))] at h
        have hz := zleak_le r l (o - nd)
        have i1 : 5 * l < 45 := by omega
        have ea0 : nI (o - nd) - 0 = nI (o - nd - 0) := pk_sub (b := 0) (Nat.zero_le _)
        simp (disch := omega) only [forall_eq, lit32 5, pk_mul, nI_clamp, vp_inN, e0, pk_sub, w_X9_leak, nI_1, ea0]
        refine ⟨i1, fun c3 => ?_, fun c3 => ?_⟩
        · have ek : zleak r l (o - nd) = 0 := if_neg (fun q => c3 (by rw [q.1]; rfl))
          rw [ek] at h
          exact m_ls_loop hr hk hm mk m24 e14 hl hv1 hd m _ (i + 1) (by omega) (by omega) h
        · have c4 : r.2 0 l = 2 := (nI_eq (b := 2) (by omega) (by omega)).mp c3
          have ek : (if 0 < o - nd then max 1 ((o - nd) / 10) else 0) = zleak r l (o - nd) := by
            unfold zleak
            by_cases c5 : 0 < o - nd
            · rw [if_pos c5, if_pos ⟨c4, c5⟩]
            · rw [if_neg c5, if_neg (fun q => c5 q.2)]
          rw [ek, pk_sub hz]
          exact m_ls_loop hr hk hm mk m24 e14 hl hv1 hd m _ (i + 1) (by omega) (by omega) h
      · rw [c, rl_eF (show ¬ nI 1 = 0 by decide)]
        rw [if_pos (Or.inr c)] at h
        exact h
def zlast (r k s : Ns) (l x : Nat) : Nat := zls r k (s.1 12) l (s.2 1 l) 400 (s.2 0 l + x) 0
theorem zlast_le (r k s : Ns) (l x : Nat) : zlast r k s l x ≤ 400 := by
  have := zls_le r k (s.1 12) l (s.2 1 l) 400 (s.2 0 l + x) 0
  unfold zlast
  omega
theorem q_last {c : Nat} {r k s : Ns} {vx : Vl} {l x : Nat} {Q : Int32 → Prop} (hr : WfR r) (hk : WfK k) (hs : WfS r s 0 0) (hc : c ≤ 64) (hd : s.1 12 ≤ 200 * c) (hl : l < r.1 7) (hx : x ≤ 999) (h : Q (nI (zlast r k s l x))) : wp_X8_nightsNotDark vx (encS s) (encG r) (encG k) (nI l) (nI x) Q := by
  have r7 := hr.1
  have rl := (hr.2.2.2.2.2.2.2.2.2.2.2.2.2.2 l hl).2.2.2.1
  obtain ⟨l0, l1, l2, l3⟩ := hs.2.2.2.2.2.2.2.2.2.2.2 l hl
  have key := q_ls_loop (vx := vx) (s := s) (Q := Q) hr hk hl l1 (by omega) 400 (s.2 0 l + x) 0 (by omega) (by omega) h
  unfold wp_X8_nightsNotDark wp_X8_nightsNotDark_c34
  simp (disch := omega) only [w_at, encS_r, jat_row, forall_eq, nI_add]
  have : s.2 1 l = 0 ∨ s.2 1 l = 1 := by omega
  rcases this with q | q
  · rw [q] at key ⊢
    exact ⟨fun _ => ⟨_, key⟩, fun q => absurd q (by decide)⟩
  · rw [q] at key ⊢
    exact ⟨fun q => absurd rfl q, fun _ => ⟨_, key⟩⟩
theorem m_last {c : Nat} {r k s : Ns} {w : Vl} {H B : Nat} {l x : Nat} {Q : Int32 → Prop} (hr : WfR r) (hk : WfK k) (hm : MR r w) (mk : MK k w) (ms : MS r s H B w) (hs : WfS r s 0 0) (hc : c ≤ 64) (hd : s.1 12 ≤ 200 * c) (hl : l < r.1 7) (hx : x ≤ 999) (h : Q (nI (zlast r k s l x))) : wp_X9_lastsWith w (nI l) (nI x) Q := by
  have r7 := hr.1
  have rl := (hr.2.2.2.2.2.2.2.2.2.2.2.2.2.2 l hl).2.2.2.1
  obtain ⟨l0, l1, l2, l3⟩ := hs.2.2.2.2.2.2.2.2.2.2.2 l hl
  obtain ⟨a13, a14, a15, a16⟩ := ms.2.2.2.2.2.2.2.2.2.2.2.2 l hl
  have key := m_ls_loop (s := s) (Q := Q) hr hk hm mk ms.2.2.2.2.2.2.2.1 a14 hl l1 (by omega) 400 (s.2 0 l + x) 0 (by omega) (by omega) h
  unfold wp_X9_lastsWith
  simp (disch := omega) only [nI_clamp, vp_inN, a13, forall_eq, nI_add]
  exact ⟨by omega, _, key⟩
theorem p_lasts {c : Nat} {r k s : Ns} {vx x1 x9 x11 w : Vl} (x : Int32) (hc : c ≤ 64) (hR : IR r x9 w) (hS : IS c r s x1 w) (hK : IK k x11 w) : ∃ z, (∀ Q : Int32 → Prop, Q z → wp_X8_lasts vx x1 x9 x11 x Q) ∧ (∀ Q : Int32 → Prop, Q z → wp_X9_lasts w x Q) := by
  obtain ⟨e9, wr, mr⟩ := hR
  obtain ⟨e1, ws, hd, ms, ml⟩ := hS
  obtain ⟨e11, wk, mk⟩ := hK
  have mr0 := mr.1
  have r7 := wr.1
  subst e9 e1 e11
  unfold wp_X8_lasts wp_X9_lasts
  rcases rl_lt x (r.1 7) r7 with ⟨j, hj, rfl⟩ | ⟨g1, g2⟩
  · refine ⟨nI (zlast r k s j 0), fun Q h => ?_, fun Q h => ?_⟩
    · rw [rl_nly hj r7, rl_b00]
      exact q_last (x := 0) wr wk ws hc hd hj (by omega) h
    · rw [rl_ily mr0 hj r7, rl_b01]
      exact m_last (x := 0) wr wk mr mk ms ws hc hd hj (by omega) h
  · refine ⟨-1000000001, fun Q h => ?_, fun Q h => ?_⟩
    · rw [rl_nln g1, rl_b01]
      exact h
    · rw [rl_iln mr0 g2, rl_b00]
      exact h
