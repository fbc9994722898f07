/-! ===== THE MODEL'S LATE ===== -/
theorem RB_n (w : Vl) {k j : Nat} (g : Nat → Int64) (h : j ≠ k) : (setRB w k g).2.2.2 j = w.2.2.2 j := if_neg h
theorem m_add {r : Ns} {w : Vl} {s l : Nat} {x : Int64} {Q : Vl → Prop} (hr : WfR r) (hm : MR r w) (hs : s < 3) (hl : l < 100) (h : Q (setRB w 53 (addG ixM (w.2.2.2 53) s l (zby r s) x))) : wp_X9_add w (nI s) (nI l) x Q := by
  have hb := zby_le hr s
  unfold wp_X9_add
  rw [w_X9_pace hr hm (by omega)]
  simp only [forall_eq]
  unfold addG at h
  by_cases c : l ≤ zby r s
  · rw [if_pos c, RB_id] at h
    have c0 : nI l - nI (zby r s) ≤ 0 := by
      by_cases c1 : l = zby r s
      · rw [← c1, pk_sub (Nat.le_refl _), Nat.sub_self]
        decide
      · have := pk_sneg (a := l) (b := zby r s) (by omega) (by omega)
        rw [Int32.lt_iff_toInt_lt] at this
        rw [Int32.le_iff_toInt_le]
        omega
    rw [rl_eT c0]
    exact h
  · rw [if_neg c] at h
    rw [pk_sub (by omega), rl_eF (nI_nle (by omega) (by omega)), lit32 100, pk_mul, nI_add, nI_clamp (by omega)]
    have hv : vp_in (nI (100 * s + (l - zby r s))) 300 := vp_in_nI (by omega) (by decide)
    exact ⟨hv, hv, h⟩
theorem zsum_cg {f g : Nat → Nat} : ∀ n, (∀ i, i < n → f i = g i) → zsum f n = zsum g n
  | 0, _ => rfl
  | n + 1, h => by
    show zsum f n + f n = zsum g n + g n
    rw [zsum_cg n (fun i hi => h i (by omega)), h n (by omega)]
def hM (D : Nat → Nat → Nat) (i : Nat) : Nat := D (i / 100) (i % 100)
theorem hM_sum (D : Nat → Nat → Nat) : zsum (hM D) 300 = zM D := by
  have e1 : zsum (hM D) 300 = zsum (hM D) 200 + zsum (fun l => hM D (l + 200)) 100 := zsum_cat (hM D) 200 100
  have e2 : zsum (hM D) 200 = zsum (hM D) 100 + zsum (fun l => hM D (l + 100)) 100 := zsum_cat (hM D) 100 100
  have c0 : zsum (hM D) 100 = zsum (D 0) 100 := zsum_cg 100 (fun i hi => by
    unfold hM
    rw [show i / 100 = 0 by omega, show i % 100 = i by omega])
  have c1 : zsum (fun l => hM D (l + 100)) 100 = zsum (D 1) 100 := zsum_cg 100 (fun i hi => by
    show hM D (i + 100) = _
    unfold hM
    rw [show (i + 100) / 100 = 1 by omega, show (i + 100) % 100 = i by omega])
  have c2 : zsum (fun l => hM D (l + 200)) 100 = zsum (D 2) 100 := zsum_cg 100 (fun i hi => by
    show hM D (i + 200) = _
    unfold hM
    rw [show (i + 200) / 100 = 2 by omega, show (i + 200) % 100 = i by omega])
  unfold zM
  omega
theorem Rr_hM {f : Nat → Int64} {D : Nat → Nat → Nat} (h : Rr ixM f D) {i : Nat} (hi : i < 300) : f i = lN (hM D i) := by
  have := h (i / 100) (by omega) (i % 100) (by omega)
  have e : ixM (i / 100) (i % 100) = i := by unfold ixM; omega
  rw [e] at this
  exact this
theorem m_sum_loop {w : Vl} {D : Nat → Nat → Nat} {Q : Int32 → Vl → Prop} (hD : zM D ≤ 1000000000) (h0 : Rr ixM (w.2.2.2 52) D) (h : Q (nI (zM D / 1000)) w) : ∀ m i, i + m = 300 → wp_X9_lateWith_c296 Q (m + 1) w (lN (zsum (hM D) i)) (nI i)
  | 0, i, e => by
    obtain rfl : i = 300 := by omega
    unfold wp_X9_lateWith_c296
    rw [rl_eT (show (300 : Int32) ≤ nI 300 by decide), hM_sum, lit64N 1000, pk_lDiv (by omega) (by omega) (by omega), lN_i]
    exact h
  | m + 1, i, e => by
    unfold wp_X9_lateWith_c296
    rw [rl_eF (show ¬ (300 : Int32) ≤ nI i from nI_ge (b := 300) (by omega) (by omega)), nI_clamp (by omega), Rr_hM h0 (by omega)]
    simp only [forall_eq, nI_1, lN_add]
    exact ⟨vp_in_nI (by omega) (by decide), m_sum_loop hD h0 h m (i + 1) (by omega)⟩
theorem m_copy_loop {w0 : Vl} {g : Nat → Int64} {y5 y6 : Int32} {Q : Int32 → Vl → Prop} {B : Vl → Int32 → Int32 → Prop} (h : ∀ w', fr [] [] [] [52, 53] w0 w' → (∀ j, j < 300 → w'.2.2.2 52 j = g j) → B w' y5 (y6 + 1)) : ∀ m i w, i + m = 300 → fr [] [] [] [52, 53] w0 w → w.2.2.2 53 = g → (∀ j, j < i → w.2.2.2 52 j = g j) → wp_X9_lateWith_c256 Q B (m + 1) w y5 y6 (nI i)
  | 0, i, w, e, f, h53, h52 => by
    obtain rfl : i = 300 := by omega
    unfold wp_X9_lateWith_c256
    rw [rl_eT (show (300 : Int32) ≤ nI 300 by decide)]
    simp only [forall_eq]
    exact h w f h52
  | m + 1, i, w, e, f, h53, h52 => by
    unfold wp_X9_lateWith_c256
    rw [rl_eF (show ¬ (300 : Int32) ≤ nI i from nI_ge (b := 300) (by omega) (by omega)), nI_clamp (by omega)]
    simp only [forall_eq, nI_1]
    have hv : vp_in (nI i) 300 := vp_in_nI (by omega) (by decide)
    refine ⟨hv, hv, m_copy_loop h m (i + 1) _ (by omega) (fr_B f _ _ (by decide)) ?_ (fun j hj => ?_)⟩
    · rw [sB_4, if_neg (by decide)]
      exact h53
    · rw [sB_4, if_pos rfl, updL_a]
      by_cases c : j = i
      · rw [if_pos c, h53, c]
      · rw [if_neg c]
        exact h52 j (by omega)
theorem m_part_loop {r : Ns} {w0 : Vl} {D : Nat → Nat → Nat} {y5 y6 : Int32} {Q : Int32 → Vl → Prop} {B : Vl → Int32 → Int32 → Prop} (hr : WfR r) (hm0 : MR r w0) (hD : ∀ s l, s < 3 → l < 100 → D s l ≤ 1000000000) (h : ∀ w', fr [] [] [] [52, 53] w0 w' → Rr ixM (w'.2.2.2 52) (zDs (zF (r.2 6) D) (zby r)) → B w' y5 (y6 + 1)) :
    ∀ m k w, k + m = 300 → fr [] [] [] [52, 53] w0 w → Rr ixM (w.2.2.2 52) D → Rr ixM (w.2.2.2 53) (zacc ixM (zby r) (zF (r.2 6) D) k) → wp_X9_lateWith_c135 Q B (m + 1) w y5 y6 (nI k)
  | 0, k, w, e, f, h52, h53 => by
    obtain rfl : k = 300 := by omega
    unfold wp_X9_lateWith_c135
    rw [rl_eT (show (300 : Int32) ≤ nI 300 by decide)]
    refine ⟨301, m_copy_loop (w0 := w0) (g := w.2.2.2 53) (fun w' f' h' => h w' f' (fun s hs l hl => ?_)) 300 0 w (by omega) f rfl (fun j hj => absurd hj (Nat.not_lt_zero _))⟩
    rw [h' _ (by unfold ixM; omega), h53 s hs l hl, zacc_M]
  | m + 1, k, w, e, f, h52, h53 => by
    obtain ⟨sk, lk, hsk, hlk, ek⟩ : ∃ sk lk, sk < 3 ∧ lk < 100 ∧ k = ixM sk lk := ⟨k / 100, k % 100, by omega, Nat.mod_lt _ (by omega), by unfold ixM; omega⟩
    have e3 : k / 100 = sk := by unfold ixM at ek; omega
    have e4 : k % 100 = lk := by unfold ixM at ek; omega
    have hm := MR_fr hm0 f (by decide) (by decide)
    have hk : w.2.2.2 52 k = lN (D sk lk) := by
      rw [ek]
      exact h52 sk hsk lk hlk
    have hd := hD sk lk hsk hlk
    have o0 := hr.2.2.2.2.2.2.2.2.2.2.2.2.1 (sk * 3) (by omega)
    have o1 := hr.2.2.2.2.2.2.2.2.2.2.2.2.1 (sk * 3 + 1) (by omega)
    have o2 := ho_of hr sk hsk
    have p0 := hm.2.2.2.2.2.2.2.2.1 (sk * 3) (by omega)
    have p1 := hm.2.2.2.2.2.2.2.2.1 (sk * 3 + 1) (by omega)
    have m0 : D sk lk * r.2 6 (sk * 3) ≤ 1000000000 * 100 := Nat.mul_le_mul hd o0
    have m1 : D sk lk * r.2 6 (sk * 3 + 1) ≤ 1000000000 * 100 := Nat.mul_le_mul hd o1
    have hsum : D sk lk * r.2 6 (sk * 3) + D sk lk * r.2 6 (sk * 3 + 1) ≤ D sk lk * 100 := by
      rw [← Nat.mul_add]
      exact Nat.mul_le_mul_left _ o2
    have v0 : D sk lk * r.2 6 (sk * 3) / 100 = zF (r.2 6) D 0 sk lk := rfl
    have v1 : D sk lk * r.2 6 (sk * 3 + 1) / 100 = zF (r.2 6) D 1 sk lk := rfl
    have v2 : D sk lk - D sk lk * r.2 6 (sk * 3) / 100 - D sk lk * r.2 6 (sk * 3 + 1) / 100 = zF (r.2 6) D 2 sk lk := rfl
    have ed : nI k / 100 = nI sk := by
      rw [lit32 100, pk_div (by omega) (by omega) (by omega), e3]
    have em : nI k - nI sk * 100 = nI lk := by
      rw [← ed, lit32 100, pk_rem (by omega) (by omega) (by omega), e4]
    have e30 : 3 * nI sk = nI (sk * 3) := by rw [lit32 3, pk_mul, Nat.mul_comm]
    have hin : vp_in (nI k) 300 := vp_in_nI (by omega) (by decide)
    have q0 : lN (D sk lk) * (nI (r.2 6 (sk * 3))).toInt64 / 100 = lN (zF (r.2 6) D 0 sk lk) := by
      rw [nI_l (by omega), lN_mul, lit64N 100, pk_lDiv (by omega) (by omega) (by omega), v0]
    have q1 : lN (D sk lk) * (nI (r.2 6 (sk * 3 + 1))).toInt64 / 100 = lN (zF (r.2 6) D 1 sk lk) := by
      rw [nI_l (by omega), lN_mul, lit64N 100, pk_lDiv (by omega) (by omega) (by omega), v1]
    have q2 : lN (D sk lk) - lN (zF (r.2 6) D 0 sk lk) - lN (zF (r.2 6) D 1 sk lk) = lN (zF (r.2 6) D 2 sk lk) := by
      rw [← v0, ← v1, lN_sub (by omega), lN_sub (by omega), v2]
    have z0 : (0 : Int32) = nI 0 := rfl
    have i0 : vp_in (nI (sk * 3)) 9 := vp_in_nI (by omega) (by decide)
    have i1 : vp_in (nI (sk * 3 + 1)) 9 := vp_in_nI (by omega) (by decide)
    rw [ek] at h53
    unfold wp_X9_lateWith_c135
    rw [rl_eF (show ¬ (300 : Int32) ≤ nI k from nI_ge (b := 300) (by omega) (by omega))]
    simp only [forall_eq, ed, em, e30, nI_1, nI_clamp (show k < 2 ^ 31 by omega), nI_clamp (show sk * 3 < 2 ^ 31 by omega), nI_clamp (show sk * 3 + 1 < 2 ^ 31 by omega), hk, p0, p1, q0, q1]
    refine ⟨hin, i0, hin, i1, ?_⟩
    refine m_add (s := 0) hr hm (by omega) hlk ?_
    refine m_add (s := 1) hr (MR_fr (LI := []) (LJ := []) (LA := []) (LB := [53]) hm (fr_RB w 53 _ (by decide)) (by decide) (by decide)) (by omega) hlk ?_
    refine ⟨hin, ?_⟩
    rw [RB_n _ _ (by decide : (52 : Nat) ≠ 53), RB_n _ _ (by decide : (52 : Nat) ≠ 53), hk, q2, RB_4]
    have ew : ∀ g g', setRB (setRB w 53 g) 53 g' = setRB w 53 g' := fun g g' => by
      unfold setRB
      rw [bx_uu]
    rw [ew]
    refine m_add (s := 2) hr (MR_fr (LI := []) (LJ := []) (LA := []) (LB := [53]) hm (fr_RB w 53 _ (by decide)) (by decide) (by decide)) (by omega) hlk ?_
    rw [ew, RB_4]
    refine m_part_loop hr hm0 hD h m (k + 1) _ (by omega) (fr_t f (fr_RB w 53 _ (by decide))) ?_ ?_
    · rw [RB_n _ _ (by decide : (52 : Nat) ≠ 53)]
      exact h52
    · rw [RB_4, ek]
      exact Rr_step inj_M hsk hlk h53
theorem m_zero_loop {w0 : Vl} {g : Nat → Int64} {y5 y6 : Int32} {Q : Int32 → Vl → Prop} {B : Vl → Int32 → Int32 → Prop} (h : ∀ w', fr [] [] [] [52, 53] w0 w' → w'.2.2.2 52 = g → (∀ j, j < 300 → w'.2.2.2 53 j = lN 0) → ∃ n, wp_X9_lateWith_c135 Q B n w' y5 y6 0) : ∀ m i w, i + m = 300 → fr [] [] [] [52, 53] w0 w → w.2.2.2 52 = g → (∀ j, j < i → w.2.2.2 53 j = lN 0) → wp_X9_lateWith_c110 Q B (m + 1) w y5 y6 (nI i)
  | 0, i, w, e, f, h52, h53 => by
    obtain rfl : i = 300 := by omega
    unfold wp_X9_lateWith_c110
    rw [rl_eT (show (300 : Int32) ≤ nI 300 by decide)]
    exact h w f h52 h53
  | m + 1, i, w, e, f, h52, h53 => by
    unfold wp_X9_lateWith_c110
    rw [rl_eF (show ¬ (300 : Int32) ≤ nI i from nI_ge (b := 300) (by omega) (by omega)), nI_clamp (by omega)]
    simp only [forall_eq, nI_1]
    have hv : vp_in (nI i) 300 := vp_in_nI (by omega) (by decide)
    refine ⟨hv, m_zero_loop h m (i + 1) _ (by omega) (fr_B f _ _ (by decide)) ?_ (fun j hj => ?_)⟩
    · rw [sB_4, if_neg (by decide)]
      exact h52
    · rw [sB_4, if_pos rfl, updL_a]
      by_cases c : j = i
      · rw [if_pos c]
        rfl
      · rw [if_neg c]
        exact h53 j (by omega)
theorem m_late_days {r : Ns} {w0 : Vl} {sky M L : Nat} {Q : Int32 → Vl → Prop} (hr : WfR r) (hm0 : MR r w0) (hs : sky < 3) (hM : M ≤ 99) (hL : L ≤ 400) (h : ∀ w', fr [] [] [] [52, 53] w0 w' → Q (nI (zM (zD (r.2 6) (zby r) (zD0 sky M) L) / 1000)) w') :
    ∀ m d w, d + m = L → fr [] [] [] [52, 53] w0 w → Rr ixM (w.2.2.2 52) (zD (r.2 6) (zby r) (zD0 sky M) d) → wp_X9_lateWith_c100 Q (m + 1) w (nI L) (nI d)
  | 0, d, w, e, f, h52 => by
    obtain rfl : d = L := by omega
    have hMs := zM_D (o := r.2 6) (p := zby r) hM (zB_0 sky M) (ho_of hr) d
    have hM0 := zM_0 (sky := sky) (M := M) hs
    unfold wp_X9_lateWith_c100
    rw [rl_eT (nI_le (Nat.le_refl _) (by omega))]
    exact ⟨301, m_sum_loop (by omega) h52 (h w f) 300 0 (by omega)⟩
  | m + 1, d, w, e, f, h52 => by
    have hMs := zM_D (o := r.2 6) (p := zby r) hM (zB_0 sky M) (ho_of hr) d
    have hM0 := zM_0 (sky := sky) (M := M) hs
    unfold wp_X9_lateWith_c100
    rw [rl_eF (nI_ge (by omega) (by omega))]
    refine ⟨301, m_zero_loop (w0 := w0) (g := w.2.2.2 52) (fun w' f' q52 q53 => ⟨301, ?_⟩) 300 0 w (by omega) f rfl (fun j hj => absurd hj (Nat.not_lt_zero _))⟩
    refine m_part_loop (w0 := w0) (D := zD (r.2 6) (zby r) (zD0 sky M) d) hr hm0 (fun s' l' hs' hl' => ?_) (fun w2 f2 g2 => ?_) 300 0 w' (by omega) f' ?_ (fun s' hs' l' hl' => ?_)
    · have := zM_1 (D := zD (r.2 6) (zby r) (zD0 sky M) d) hs' hl'
      omega
    · rw [nI_1]
      exact m_late_days hr hm0 hs hM hL h m (d + 1) w2 (by omega) f2 g2
    · rw [q52]
      exact h52
    · rw [zacc_0]
      exact q53 _ (by unfold ixM; omega)
theorem m_late_init {r : Ns} {w0 : Vl} {sky M L : Nat} {Q : Int32 → Vl → Prop} (hr : WfR r) (hm0 : MR r w0) (h27 : w0.1 27 = nI sky) (hs : sky < 3) (hM : M ≤ 99) (hL : L ≤ 400) (h : ∀ w', fr [] [] [] [52, 53] w0 w' → Q (nI (zM (zD (r.2 6) (zby r) (zD0 sky M) L) / 1000)) w') :
    ∀ m i w, i + m = 300 → fr [] [] [] [52, 53] w0 w → (∀ j, j < i → w.2.2.2 52 j = lN (if j = 100 * sky + M then 1000000000 else 0)) → wp_X9_lateWith_c54 Q (m + 1) w (nI M) (nI L) (nI i)
  | 0, i, w, e, f, h52 => by
    obtain rfl : i = 300 := by omega
    unfold wp_X9_lateWith_c54
    rw [rl_eT (show (300 : Int32) ≤ nI 300 by decide)]
    refine ⟨L + 1, m_late_days hr hm0 hs hM hL h L 0 w (by omega) f (fun s hs' l hl => ?_)⟩
    rw [h52 _ (by unfold ixM; omega)]
    congr 1
    show _ = zD0 sky M s l
    unfold zD0 ixM
    by_cases c : s = sky ∧ l = M
    · rw [if_pos c, if_pos (by omega)]
    · rw [if_neg c, if_neg (by omega)]
  | m + 1, i, w, e, f, h52 => by
    have e27 : w.1 27 = nI sky := by rw [f.1 27 (by decide)]; exact h27
    have step : ∀ b : Nat, b = (if i = 100 * sky + M then 1000000000 else 0) → wp_X9_lateWith_c90 Q (wp_X9_lateWith_c54 Q (m + 1)) w (nI M) (nI L) (nI i) (lN b) (nI i) := by
      intro b hb
      unfold wp_X9_lateWith_c90
      rw [nI_clamp (by omega)]
      simp only [forall_eq, nI_1]
      refine ⟨vp_in_nI (by omega) (by decide), m_late_init hr hm0 h27 hs hM hL h m (i + 1) _ (by omega) (fr_B f _ _ (by decide)) (fun j hj => ?_)⟩
      rw [sB_4, if_pos rfl, updL_a]
      by_cases c : j = i
      · rw [if_pos c, c, hb]
      · rw [if_neg c]
        exact h52 j (by omega)
    unfold wp_X9_lateWith_c54
    rw [rl_eF (show ¬ (300 : Int32) ≤ nI i from nI_ge (b := 300) (by omega) (by omega)), e27, lit32 100, pk_mul, nI_add]
    by_cases c : i = 100 * sky + M
    · rw [← c, rl_fT rfl]
      exact step 1000000000 (by rw [if_pos c])
    · rw [rl_fF (fun q => c ((nI_eq (by omega) (by omega)).mp q))]
      exact step 0 (by rw [if_neg c])
theorem m_late {c : Nat} {r k s : Ns} {w : Vl} {l x : Nat} {Q : Int32 → Vl → Prop} (hr : WfR r) (hk : WfK k) (hm : MR r w) (mk : MK k w) (ms : MS r s 0 0 w) (hs : WfS r s 0 0) (hc : c ≤ 64) (hd : s.1 12 ≤ 200 * c) (hl : l < r.1 7) (hx : x ≤ 999) (h : ∀ w', fr [] [] [] [52, 53] w w' → Q (nI (zlate r k s l x)) w') : wp_X9_lateWith w (nI l) (nI x) Q := by
  have r7 := hr.1
  have hP := (hr.2.2.2.2.2.2.2.2.2.2.2.2.2.2 l hl).2.1
  have h7 := hs.1
  have h13 := hs.2.2.2.2.1
  have m21 := ms.2.2.2.2.1
  have m27 := ms.2.2.2.2.2.2.2.2.2.2.1
  have e1 := hm.2.2.2.2.2.2.2.2.2 l hl 1 (by omega)
  have hf : zfar r s l ≤ 99 := by
    unfold zfar
    split <;> omega
  have key : wp_X9_lateWith_c34 Q w (nI l) (nI x) (nI (zfar r s l)) := by
    unfold wp_X9_lateWith_c34
    unfold zlate at h
    by_cases c0 : zfar r s l = 0
    · rw [if_pos c0] at h
      rw [c0, rl_fT (show nI 0 = 0 from rfl)]
      exact h w (fr_r w)
    · rw [if_neg c0] at h
      rw [rl_fF (nI_ne0 (by omega) (by omega))]
      refine m_last hr hk hm mk ms hs hc hd hl hx ?_
      exact ⟨301, m_late_init hr hm m27 (by omega) hf (zlast_le r k s l x) h 300 0 w (by omega) (fr_r w) (fun j hj => absurd hj (Nat.not_lt_zero _))⟩
  unfold wp_X9_lateWith
  rw [m21]
  simp (disch := omega) only [lit32, pk_mul, nI_add, nI_clamp, vp_inN, e1, forall_eq, nI_leI]
  refine ⟨by omega, fun q => ?_, fun q => ?_⟩
  · rw [pk_sub q]
    have e : zfar r s l = s.1 7 - r.2 1 l := by
      unfold zfar
      split <;> omega
    rw [e] at key
    exact key
  · rw [pk_sub (by omega)]
    have e : zfar r s l = r.2 1 l - s.1 7 := by
      unfold zfar
      split <;> omega
    rw [e] at key
    exact key
theorem p_late {c : Nat} {r k s : Ns} {vx x1 x5 x9 x11 w : Vl} {f0 f1 : Nat → Int64} (x : Int32) (hc : c ≤ 64) (hR : IR r x9 w) (hS : IS c r s x1 w) (hK : IK k x11 w) : ∃ z, (∀ Q : Int32 → Vl → (Nat → Int64) → (Nat → Int64) → Prop, (∀ u g0 g1, Q z u g0 g1) → wp_X8_late vx x1 x5 f0 f1 x9 x11 x Q) ∧ (∀ Q : Int32 → Vl → Prop, (∀ w', fr [] [] [] [52, 53] w w' → Q z w') → wp_X9_late w x Q) := by
  obtain ⟨e9, wr, mr⟩ := hR
  obtain ⟨e1, ws, hd, ms, ml⟩ := hS
  obtain ⟨e11, wk, mk⟩ := hK
  have mr0 := mr.1
  have r7 := wr.1
  subst e9 e1 e11
  unfold wp_X8_late wp_X9_late
  rcases rl_lt x (r.1 7) r7 with ⟨j, hj, rfl⟩ | ⟨g1, g2⟩
  · refine ⟨nI (zlate r k s j 0), fun Q h => ?_, fun Q h => ?_⟩
    · rw [rl_nly hj r7, rl_b00]
      exact q_late (x := 0) wr wk ws hc hd hj (by omega) h
    · rw [rl_ily mr0 hj r7, rl_b01]
      exact m_late (x := 0) wr wk mr mk ms ws hc hd hj (by omega) h
  · refine ⟨-1000000001, fun Q h => ?_, fun Q h => ?_⟩
    · rw [rl_nln g1, rl_b01]
      exact h _ _ _
    · rw [rl_iln mr0 g2, rl_b00]
      exact h w (fr_r w)
theorem p_store {c : Nat} {r k s : Ns} {vx x1 x5 x9 x11 w : Vl} {f0 f1 : Nat → Int64} (x y : Int32) (hc : c ≤ 64) (hR : IR r x9 w) (hS : IS c r s x1 w) (hK : IK k x11 w) : ∃ z, (∀ Q : Int32 → Vl → (Nat → Int64) → (Nat → Int64) → Prop, (∀ u g0 g1, Q z u g0 g1) → wp_X8_store vx x1 x5 f0 f1 x9 x11 x y Q) ∧ (∀ Q : Int32 → Vl → Prop, (∀ w', fr [] [] [] [52, 53] w w' → Q z w') → wp_X9_store w x y Q) := by
  obtain ⟨e9, wr, mr⟩ := hR
  obtain ⟨e1, ws, hd, ms, ml⟩ := hS
  obtain ⟨e11, wk, mk⟩ := hK
  have mr0 := mr.1
  have r7 := wr.1
  subst e9 e1 e11
  unfold wp_X8_store wp_X9_store
  rcases rl_lt x (r.1 7) r7 with ⟨j, hj, rfl⟩ | ⟨g1, g2⟩
  · rcases rl_rg y 0 999 (by omega) (by omega) with ⟨t, t0, ht, rfl⟩ | ⟨h1, h2⟩
    · refine ⟨nI (zlate r k s j 0) - nI (zlate r k s j t), fun Q h => ?_, fun Q h => ?_⟩
      · rw [rl_nly hj r7, rl_b00]
        refine rl_cy t0 ht (by decide) ?_
        refine q_late (x := 0) wr wk ws hc hd hj (by omega) (fun u g0 g1 => ?_)
        exact q_late wr wk ws hc hd hj ht h
      · rw [rl_ily mr0 hj r7, rl_b11, rl_iy t0 ht (by omega) (by decide +kernel) (by decide +kernel), rl_b01]
        refine m_late (x := 0) wr wk mr mk ms ws hc hd hj (by omega) (fun w' f' => ?_)
        exact m_late wr wk (MR_fr mr f' (by decide) (by decide)) (MK_fr mk f' (by decide) (by decide)) (MS_fr ms f' (by decide) (by decide) (by decide)) ws hc hd hj ht (fun w2 f2 => h w2 (fr_t f' f2))
    · refine ⟨-1000000002, fun Q h => ?_, fun Q h => ?_⟩
      · rw [rl_nly hj r7, rl_b00]
        exact rl_cn h1 (h _ _ _)
      · rw [rl_ily mr0 hj r7, rl_b11, rl_ino h2 (by decide +kernel) (by decide +kernel), rl_b00]
        exact h w (fr_r w)
  · refine ⟨-1000000001, fun Q h => ?_, fun Q h => ?_⟩
    · rw [rl_nln g1, rl_b01]
      exact h _ _ _
    · rw [rl_iln mr0 g2, rl_b10]
      exact h w (fr_r w)
