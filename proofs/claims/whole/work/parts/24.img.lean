/-! ===== COPIES AND IMAGES ===== -/
def zcp (n : Nat) (a b : Nat → Nat) : Nat → Nat := fun j => if j < n then a j else b j
theorem w_copyRow {n1 n2 : Nat} {a b : Nat → Nat} {Q : (Nat → Int32) → Prop} (h1 : n1 < 2 ^ 31) (h2 : n2 < 2 ^ 31) : wp_X8_copyRow n1 (nRow a) n2 (nRow b) Q ↔ Q (nRow (zcp (min n1 n2) a b)) := by
  have e0 : (if Int32.ofNat n2 < Int32.ofNat n1 then Int32.ofNat n2 else Int32.ofNat n1) = nI (min n1 n2) := i_min h1 h2
  have e1 : Int32.toNatClampNeg 0 = 0 := by decide
  have e2 : va_cpy (nRow a) (nRow b) 0 0 (min n1 n2) = nRow (zcp (min n1 n2) a b) := by
    funext j
    show (if 0 ≤ j ∧ j < 0 + min n1 n2 then nI (a (0 + (j - 0))) else nI (b j)) = nI (if j < min n1 n2 then a j else b j)
    by_cases c : j < min n1 n2
    · rw [if_pos ⟨Nat.zero_le _, by omega⟩, if_pos c, Nat.zero_add, Nat.sub_zero]
    · rw [if_neg (fun q => c (by omega)), if_neg c]
  unfold wp_X8_copyRow
  simp only [e0, e1, nI_clamp (show min n1 n2 < 2 ^ 31 by omega), forall_eq, e2]
  refine ⟨fun h => h.2, fun h => ⟨⟨by decide, by decide, nI_pos (by omega), by omega, by omega⟩, h⟩⟩
def zcpr (nl : Nat) (t s : Ns) : Ns := zw (zw (zw (zw (zw t 0 (zcp 9 (s.2 0) (t.2 0))) 1 (zcp 9 (s.2 1) (t.2 1))) 2 (zcp 9 (s.2 2) (t.2 2))) 3 (zcp 9 (s.2 3) (t.2 3))) 4 (zcp nl (s.2 4) (t.2 4))
def zcpi (t s : Ns) : Ns := zu (zu (zu (zu (zu (zu (zu (zu (zu (zu (zu (zu t 5 (s.1 5)) 6 (s.1 6)) 7 (s.1 7)) 8 (s.1 8)) 9 (s.1 9)) 10 (s.1 10)) 11 (s.1 11)) 12 (s.1 12)) 13 (s.1 13)) 14 (s.1 14)) 15 (s.1 15)) 16 (s.1 16)
def zcopy (nl : Nat) (t s : Ns) : Ns := zcpi (zcpr nl t s) s
theorem q_copyFrom {nl0 nl1 : Nat} {t s : Ns} {Q : Vl → Prop} (h0 : nl0 < 2 ^ 31) (h1 : nl1 < 2 ^ 31) (h : Q (encS (zcopy (min nl1 nl0) t s))) : wp_X6_copyFrom nl0 (encS t) nl1 (encS s) Q := by
  unfold wp_X6_copyFrom
  simp (disch := omega) only [encS_r, w_copyRow, forall_eq, encS_setRA, zw_n, encS_9, encS_J, encS_1, encS_setI, encS_set9, encS_setJ, Nat.min_self]
  exact h
/-- t has what s has, and nl of its log -/
def zeq (nl : Nat) (s t : Ns) : Prop := (t.1 5 = s.1 5 ∧ t.1 6 = s.1 6 ∧ t.1 7 = s.1 7 ∧ t.1 8 = s.1 8 ∧ t.1 9 = s.1 9 ∧ t.1 10 = s.1 10 ∧ t.1 11 = s.1 11 ∧ t.1 12 = s.1 12 ∧ t.1 13 = s.1 13 ∧ t.1 14 = s.1 14 ∧ t.1 15 = s.1 15 ∧ t.1 16 = s.1 16) ∧
  (∀ l, l < 9 → t.2 0 l = s.2 0 l ∧ t.2 1 l = s.2 1 l ∧ t.2 2 l = s.2 2 l ∧ t.2 3 l = s.2 3 l) ∧ (∀ j, j < nl → t.2 4 j = s.2 4 j)
theorem zcopy_eq (nl : Nat) (t s : Ns) : zeq nl s (zcopy nl t s) := by
  refine ⟨?_, fun l hl => ?_, fun j hj => ?_⟩
  · unfold zcopy zcpi
    simp (disch := omega) only [zu_s, zu_n]
    exact ⟨trivial, trivial, trivial, trivial, trivial, trivial, trivial, trivial, trivial, trivial, trivial, trivial⟩
  · unfold zcopy zcpi zcpr
    simp (disch := omega) only [zu_2, zw_s, zw_n]
    unfold zcp
    simp only [hl, ↓reduceIte]
    exact ⟨trivial, trivial, trivial, trivial⟩
  · unfold zcopy zcpi zcpr
    simp (disch := omega) only [zu_2, zw_s, zw_n]
    unfold zcp
    simp only [hj, ↓reduceIte]
theorem WfS_eq {nl : Nat} {r s t : Ns} {e i : Nat} (hr : WfR r) (h : zeq nl s t) (hs : WfS r s e i) : WfS r t e i := by
  have r7 := hr.1
  obtain ⟨⟨a5, a6, a7, a8, a9, a10, a11, a12, a13, a14, a15, a16⟩, hl, _⟩ := h
  obtain ⟨s7, s8, s6, s9, s13, s16, s5, s15, s10, s11, s14, sl⟩ := hs
  unfold WfS
  rw [a5, a6, a7, a8, a9, a10, a11, a12, a13, a14, a15, a16]
  refine ⟨s7, s8, s6, s9, s13, s16, s5, s15, s10, s11, s14, fun l q => ?_⟩
  obtain ⟨b0, b1, b2, b3⟩ := hl l (by omega)
  rw [b0, b1, b2, b3]
  exact sl l q
theorem MS_eq {nl : Nat} {r s t : Ns} {H B : Nat} {w : Vl} (hr : WfR r) (h : zeq nl s t) (hs : MS r s H B w) : MS r t H B w := by
  have r7 := hr.1
  obtain ⟨⟨a5, a6, a7, a8, a9, a10, a11, a12, a13, a14, a15, a16⟩, hl, _⟩ := h
  obtain ⟨m17, m18, m19, m20, m21, m22, m23, m24, m25, m26, m27, m30, mrow⟩ := hs
  unfold MS
  rw [a5, a6, a7, a8, a9, a10, a11, a12, a13, a14, a15, a16]
  refine ⟨m17, m18, m19, m20, m21, m22, m23, m24, m25, m26, m27, m30, fun l q => ?_⟩
  obtain ⟨b0, b1, b2, b3⟩ := hl l (by omega)
  rw [b0, b1, b2, b3]
  exact mrow l q
theorem ML_eq {r s t : Ns} {w : Vl} (hr : WfR r) (h : zeq 360 s t) (hs : MLi r s 0 w) : MLi r t 0 w := by
  have r7 := hr.1
  have a12 := h.1.2.2.2.2.2.2.2.1
  intro l hl d hd hc
  rw [a12] at hc
  rw [h.2.2 _ (by omega)]
  exact hs l hl d hd hc
theorem MI_eq {r s t : Ns} {o : Nat} {w : Vl} (hr : WfR r) (h : zeq 360 s t) (hs : MI r s o w) : MI r t o w := by
  have r7 := hr.1
  obtain ⟨⟨a5, a6, a7, a8, a9, a10, a11, a12, a13, a14, a15, a16⟩, hl, h4⟩ := h
  unfold MI at hs ⊢
  obtain ⟨c36, c37, c38, c39, c40, c41, c42, c43, c44, c45, c46, c48, ca, cb⟩ := hs
  rw [a5, a6, a7, a8, a9, a10, a11, a12, a13, a14, a15, a16]
  refine ⟨c36, c37, c38, c39, c40, c41, c42, c43, c44, c45, c46, c48, fun l q => ?_, fun l q d hd hd2 => ?_⟩
  · obtain ⟨b0, b1, b2, b3⟩ := hl l (by omega)
    rw [b0, b1, b2, b3]
    exact ca l q
  · rw [h4 _ (by omega)]
    exact cb l q d hd hd2
/-! the model's save -/
theorem sB_RB (w : Vl) (k : Nat) (g : Nat → Int64) (i : Nat) (x : Int64) : setB (setRB w k g) k i x = setRB w k (vp_updL g i x) := by
  unfold setB setRB
  simp only [va_up_s, bx_uu]
theorem RB_1 (w : Vl) (k : Nat) (g : Nat → Int64) : (setRB w k g).1 = w.1 := rfl
theorem RB_2 (w : Vl) (k : Nat) (g : Nat → Int64) : (setRB w k g).2.1 = w.2.1 := rfl
theorem RB_3 (w : Vl) (k : Nat) (g : Nat → Int64) : (setRB w k g).2.2.1 = w.2.2.1 := rfl
theorem RB_4 (w : Vl) (k : Nat) (g : Nat → Int64) : (setRB w k g).2.2.2 k = g := if_pos rfl
theorem RB_id (w : Vl) (k : Nat) : setRB w k (w.2.2.2 k) = w := by
  unfold setRB
  rw [va_up_id]
theorem fr_RB (w : Vl) (k : Nat) (g : Nat → Int64) {LI LJ LA LB : List Nat} (hk : k ∈ LB) : fr LI LJ LA LB w (setRB w k g) :=
  ⟨fun _ _ => rfl, fun _ _ => rfl, fun _ _ => rfl, fun j q => if_neg (fun e : j = k => q (e ▸ hk))⟩
/-- the rest of the images -/
def svO (w : Vl) (o : Nat) (g : Nat → Int64) : Prop := ∀ j, (j < o ∨ o + 410 ≤ j) → g j = w.2.2.2 49 j
def svL (r s : Ns) (o i : Nat) (g : Nat → Int64) : Prop := ∀ l, l < i → l < r.1 7 → g (o + l) = lN (s.2 0 l) ∧ g (o + 9 + l) = lN (s.2 1 l) ∧ g (o + 18 + l) = lN (s.2 2 l) ∧ g (o + 27 + l) = lN (s.2 3 l)
def svF (s : Ns) (o : Nat) (g : Nat → Int64) : Prop := g (o + 36) = lN (s.1 5) ∧ g (o + 37) = lN (s.1 6) ∧ g (o + 38) = lN (s.1 14) ∧ g (o + 39) = lN (s.1 15) ∧ g (o + 40) = lN (s.1 7) ∧ g (o + 41) = lN (s.1 8) ∧ g (o + 42) = (gI (s.1 9)).toInt64 ∧ g (o + 43) = lN (s.1 12) ∧ g (o + 44) = lN (s.1 10) ∧ g (o + 45) = lN (s.1 11) ∧ g (o + 46) = lN (s.1 13) ∧ g (o + 48) = lN (s.1 16)
theorem m_save2 {r s : Ns} {w : Vl} {o : Nat} {Q : Vl → Prop} (ho : o ≤ 820) (ml : MLi r s 0 w) (r7 : r.1 7 ≤ 9) (hQ : ∀ g, svO w o g → MI r s o (setRB w 49 g) → Q (setRB w 49 g)) :
    ∀ m i g, i + m = 360 → svO w o g → svL r s o 9 g → svF s o g → (∀ j, j < i → g (o + 50 + j) = (w.2.2.1 29 j).toInt64) → wp_X9_save_c275 Q (m + 1) (setRB w 49 g) (nI o) (nI i)
  | 0, i, g, e, h1, h2, h3, h4 => by
    obtain rfl : i = 360 := by omega
    unfold wp_X9_save_c275
    rw [rl_eT (show (360 : Int32) ≤ nI 360 by decide)]
    refine hQ g h1 ?_
    unfold MI
    rw [RB_4]
    obtain ⟨f36, f37, f38, f39, f40, f41, f42, f43, f44, f45, f46, f48⟩ := h3
    refine ⟨f36, f37, f38, f39, f40, f41, f42, f43, f44, f45, f46, f48, fun l hl => h2 l (by omega) hl, fun l hl d hd hd2 => ?_⟩
    rw [h4 _ (by omega), Int32.toInt32_toInt64]
    exact ml l hl d hd (Or.inl hd2)
  | m + 1, i, g, e, h1, h2, h3, h4 => by
    unfold wp_X9_save_c275
    rw [rl_eF (show ¬ (360 : Int32) ≤ nI i from nI_ge (b := 360) (by omega) (by omega))]
    simp (disch := omega) only [lit32, nI_add, nI_clamp, vp_inN, forall_eq, sB_RB, RB_3]
    refine ⟨by omega, by omega, ?_⟩
    refine m_save2 ho ml r7 hQ m (i + 1) _ (by omega) ?_ ?_ ?_ ?_
    · intro j hj
      rw [updL_a, if_neg (by omega)]
      exact h1 j hj
    · intro l hl hl7
      simp only [updL_a]
      rw [if_neg (by omega), if_neg (by omega), if_neg (by omega), if_neg (by omega)]
      exact h2 l hl hl7
    · unfold svF
      simp only [updL_a]
      rw [if_neg (by omega), if_neg (by omega), if_neg (by omega), if_neg (by omega), if_neg (by omega), if_neg (by omega), if_neg (by omega), if_neg (by omega), if_neg (by omega), if_neg (by omega), if_neg (by omega), if_neg (by omega)]
      exact h3
    · intro j hj
      rw [updL_a]
      by_cases c : j = i
      · rw [c, if_pos rfl]
      · rw [if_neg (by omega)]
        exact h4 j (by omega)
theorem m_save1 {r s : Ns} {w : Vl} {o : Nat} {Q : Vl → Prop} (hr : WfR r) (hs : WfS r s 0 0) (hd : s.1 12 ≤ 12900) (ho : o ≤ 820) (ms : MS r s 0 0 w) (ml : MLi r s 0 w) (hQ : ∀ g, svO w o g → MI r s o (setRB w 49 g) → Q (setRB w 49 g)) :
    ∀ m i g, i + m = 9 → svO w o g → svL r s o i g → wp_X9_save_c8 Q (m + 1) (setRB w 49 g) (nI o) (nI i)
  | 0, i, g, e, h1, h2 => by
    obtain rfl : i = 9 := by omega
    have r7 := hr.1
    obtain ⟨r7, r8, r8', r9, r9', r10, r11, r12, r12', r13, r13', _, _, _, rl⟩ := hr
    obtain ⟨s7, s8, s6, s9, s13, s16, s5, s15, s10, s11, s14, sl⟩ := hs
    obtain ⟨m17, m18, m19, m20, m21, m22, m23, m24, m25, m26, m27, m30, mrow⟩ := ms
    rw [Nat.add_zero] at m25 m26
    unfold wp_X9_save_c8
    rw [rl_eT (show (9 : Int32) ≤ nI 9 by decide)]
    simp (disch := omega) only [lit32, nI_add, nI_clamp, vp_inN, forall_eq, sB_RB, RB_1, RB_2, m17, m18, m19, m20, m21, m22, m23, m24, m25, m26, m27, m30, nI_l]
    refine ⟨by omega, by omega, by omega, by omega, by omega, by omega, by omega, by omega, by omega, by omega, by omega, by omega, by omega, ?_⟩
    refine ⟨361, m_save2 ho ml r7 hQ 360 0 _ (by omega) ?_ ?_ ?_ (fun j hj => absurd hj (Nat.not_lt_zero _))⟩
    · intro j hj
      simp (disch := omega) only [pk_uLn]
      exact h1 j hj
    · intro l hl hl7
      simp (disch := omega) only [pk_uLn]
      exact h2 l hl hl7
    · unfold svF
      simp (disch := omega) only [pk_uLn, pk_uLs]
      exact ⟨trivial, trivial, trivial, trivial, trivial, trivial, trivial, trivial, trivial, trivial, trivial, trivial⟩
  | m + 1, i, g, e, h1, h2 => by
    have r7 := hr.1
    have rl := hr.2.2.2.2.2.2.2.2.2.2.2.2.2.2
    have sl := hs.2.2.2.2.2.2.2.2.2.2.2
    have mrow := ms.2.2.2.2.2.2.2.2.2.2.2.2
    have step : ∀ b : Nat, (i < r.1 7 → b = s.2 1 i) → wp_X9_save_c53 Q (wp_X9_save_c8 Q (m + 1)) (setRB w 49 (vp_updL g (o + i) (w.2.2.1 13 i).toInt64)) (nI o) (nI i) (lN b) (nI (o + 9 + i)) := by
      intro b hb
      unfold wp_X9_save_c53
      simp (disch := omega) only [lit32, nI_add, nI_clamp, vp_inN, forall_eq, sB_RB, RB_3]
      refine ⟨by omega, by omega, by omega, by omega, by omega, ?_⟩
      refine m_save1 hr hs hd ho ms ml hQ m (i + 1) _ (by omega) ?_ ?_
      · intro j hj
        simp (disch := omega) only [pk_uLn]
        exact h1 j hj
      · intro l hl hl7
        by_cases c : l = i
        · subst c
          obtain ⟨a13, a14, a15, a16⟩ := mrow l hl7
          obtain ⟨b0, b1, b2, b3⟩ := sl l hl7
          rw [if_neg (Nat.not_lt_zero l)] at b2 b3
          have := (rl l hl7).2.2.2.1
          simp (disch := omega) only [pk_uLn, pk_uLs]
          rw [a13, a15, a16, nI_l (by omega), nI_l (by omega), nI_l (by omega), hb hl7]
          exact ⟨rfl, rfl, rfl, rfl⟩
        · simp (disch := omega) only [pk_uLn]
          exact h2 l (by omega) hl7
    unfold wp_X9_save_c8
    rw [rl_eF (show ¬ (9 : Int32) ≤ nI i from nI_ge (b := 9) (by omega) (by omega))]
    have e9 : nI o + 9 + nI i = nI (o + 9 + i) := by rw [lit32 9, nI_add, nI_add]
    simp (disch := omega) only [e9, nI_add, nI_clamp, vp_inN, forall_eq, sB_RB, RB_3]
    refine ⟨by omega, by omega, by omega, ?_⟩
    by_cases c : i < r.1 7
    · obtain ⟨a13, a14, a15, a16⟩ := mrow i c
      have l1 := (sl i c).2.1
      have : s.2 1 i = 0 ∨ s.2 1 i = 1 := by omega
      rw [a14]
      rcases this with q | q
      · rw [q, rl_eT (show nI 0 = 0 from rfl)]
        exact step 0 (fun _ => q.symm)
      · rw [q, rl_eF (show ¬ nI 1 = 0 by decide)]
        exact step 1 (fun _ => q.symm)
    · exact ⟨fun _ => step 0 (fun q => absurd q c), fun _ => step 1 (fun q => absurd q c)⟩
theorem m_save {r s : Ns} {w : Vl} {i : Nat} {Q : Vl → Prop} (hr : WfR r) (hs : WfS r s 0 0) (hd : s.1 12 ≤ 12900) (hi : i ≤ 2) (ms : MS r s 0 0 w) (ml : MLi r s 0 w) (hQ : ∀ g, svO w (410 * i) g → MI r s (410 * i) (setRB w 49 g) → Q (setRB w 49 g)) : wp_X9_save w (nI i) Q := by
  unfold wp_X9_save
  simp only [forall_eq, lit32 410, pk_mul]
  have h := m_save1 (o := 410 * i) hr hs hd (by omega) ms ml hQ 9 0 (w.2.2.2 49) (by omega) (fun _ _ => rfl) (fun l hl => absurd hl (Nat.not_lt_zero _))
  rw [RB_id] at h
  exact ⟨10, h⟩
