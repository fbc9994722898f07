/-! ===== COMES ===== -/
def zp0 : Nat → Nat := fun _ => 0
theorem zD_l0 {o : Nat → Nat} {i : Nat} : ∀ d s, zD o zp0 (zD0 i 1) d s 0 = 0
  | 0, s => by
    show zD0 i 1 s 0 = 0
    unfold zD0
    rw [if_neg (fun q => absurd q.2 (by decide))]
  | d + 1, s => by
    show zDs _ _ s 0 = 0
    unfold zDs
    rw [if_pos (Or.inl rfl)]
theorem zD_l1 {o : Nat → Nat} {D : Nat → Nat → Nat} {d s : Nat} : zD o zp0 D (d + 1) s 1 = zF o (zD o zp0 D d) s 0 1 + zF o (zD o zp0 D d) s 1 1 + zF o (zD o zp0 D d) s 2 1 := by
  show zDs _ _ s 1 = _
  unfold zDs zp0
  rw [if_neg (by omega)]
def zcome (r : Ns) (i j m : Nat) : Nat := zD (r.2 6) zp0 (zD0 i 1) m j 1 / 1000
theorem q_comes {r : Ns} {vx x5 : Vl} {f0 f1 : Nat → Int64} {i j n : Nat} {Q : Int32 → Vl → (Nat → Int64) → (Nat → Int64) → Prop} (hr : WfR r) (hi : i < 3) (hj : j < 3) (hn : n ≤ 60) (h : ∀ u g0 g1, Q (nI (zcome r i j n)) u g0 g1) : wp_X2_start x5 f0 f1 (nI i) 1 (fun u_3 u_4 u_5 => (∃ k : Nat, wp_X8_comes_c42 vx (encG r) Q k u_3 u_4 u_5 (nI j) (nI n) 0)) := by
  refine q_start (M := 1) hi (by omega) (by omega) ?_
  intro u g0 g1 hu hg0 hg1
  have hB := zB_D (o := r.2 6) (p := zp0) (zB_0 i 1)
  have hMs := zM_D (o := r.2 6) (p := zp0) (by omega) (zB_0 i 1) (ho_of hr)
  have hM0 := zM_0 (sky := i) (M := 1) hi
  have loop : ∀ m d g0 g1, d + m = n → Rr ixC g0 (zD (r.2 6) zp0 (zD0 i 1) d) → Rr ixC g1 (fun _ _ => 0) → wp_X8_comes_c42 vx (encG r) Q (m + 1) u g0 g1 (nI j) (nI n) (nI d) := by
    intro m
    induction m with
    | zero =>
      intro d g0 g1 e q0 q1
      obtain rfl : d = n := by omega
      unfold wp_X8_comes_c42
      rw [rl_eT (nI_le (Nat.le_refl _) (by omega))]
      refine q_partsOf (M := 1) (by omega) hj hu q0 ?_
      have e2 : zsum (zD (r.2 6) zp0 (zD0 i 1) d j) (1 + 1) = zD (r.2 6) zp0 (zD0 i 1) d j 1 := by
        show 0 + zD (r.2 6) zp0 (zD0 i 1) d j 0 + zD (r.2 6) zp0 (zD0 i 1) d j 1 = _
        rw [zD_l0]
        omega
      have b1 := zM_1 (D := zD (r.2 6) zp0 (zD0 i 1) d) (l := 1) hj (by omega)
      have b2 := hMs d
      rw [e2, lit64N 1000, pk_lDiv (by omega) (by omega) (by omega), lN_i]
      exact h _ _ _
    | succ m ih =>
      intro d g0 g1 e q0 q1
      unfold wp_X8_comes_c42
      rw [rl_eF (nI_ge (by omega) (by omega))]
      refine q_passDay (M := 1) (p := zp0) hr (by omega) (hB d) (fun s' l' hs' hl' => ?_) hu (by decide) (by decide) rfl q0 q1 ?_
      · have := zM_1 (D := zD (r.2 6) zp0 (zD0 i 1) d) hs' hl'
        have := hMs d
        omega
      · intro a b ha hb
        simp only [forall_eq, nI_1]
        exact ih (d + 1) a b (by omega) ha hb
  exact ⟨n + 1, loop n 0 g0 g1 (by omega) hg0 hg1⟩
theorem m_cm_copy {w0 : Vl} {g : Nat → Int64} {y2 y3 y4 : Int32} {Q : Int32 → Vl → Prop} {B : Vl → Int32 → Int32 → Int32 → Prop} (h : ∀ w', fr [] [] [] [54, 55] w0 w' → (∀ j, j < 3 → w'.2.2.2 54 j = g j) → B w' y2 y3 (y4 + 1)) : ∀ m i w, i + m = 3 → fr [] [] [] [54, 55] w0 w → w.2.2.2 55 = g → (∀ j, j < i → w.2.2.2 54 j = g j) → wp_X9_comes_c212 Q B (m + 1) w y2 y3 y4 (nI i)
  | 0, i, w, e, f, h53, h52 => by
    obtain rfl : i = 3 := by omega
    unfold wp_X9_comes_c212
    rw [rl_eT (show (3 : Int32) ≤ nI 3 by decide)]
    simp only [forall_eq]
    exact h w f h52
  | m + 1, i, w, e, f, h53, h52 => by
    unfold wp_X9_comes_c212
    rw [rl_eF (show ¬ (3 : Int32) ≤ nI i from nI_ge (b := 3) (by omega) (by omega)), nI_clamp (by omega)]
    simp only [forall_eq, nI_1]
    have hv : vp_in (nI i) 3 := vp_in_nI (by omega) (by decide)
    refine ⟨hv, hv, m_cm_copy h m (i + 1) _ (by omega) (fr_B f _ _ (by decide)) ?_ (fun j hj => ?_)⟩
    · rw [sB_4, if_neg (by decide)]
      exact h53
    · rw [sB_4, if_pos rfl, updL_a]
      by_cases c : j = i
      · rw [if_pos c, h53, c]
      · rw [if_neg c]
        exact h52 j (by omega)
/-- sums of the cells below k -/
def zc3 (F : Nat → Nat → Nat → Nat) (s k : Nat) : Nat := zsum (fun sky => F s sky 1) k
theorem m_cm_part {r : Ns} {w0 : Vl} {D : Nat → Nat → Nat} {y2 y3 y4 : Int32} {Q : Int32 → Vl → Prop} {B : Vl → Int32 → Int32 → Int32 → Prop} (hr : WfR r) (hm0 : MR r w0) (hD : ∀ s, s < 3 → D s 1 ≤ 1000000000) (h : ∀ w', fr [] [] [] [54, 55] w0 w' → (∀ s, s < 3 → w'.2.2.2 54 s = lN (zc3 (zF (r.2 6) D) s 3)) → B w' y2 y3 (y4 + 1)) :
    ∀ m k w, k + m = 3 → fr [] [] [] [54, 55] w0 w → (∀ s, s < 3 → w.2.2.2 54 s = lN (D s 1)) → (∀ s, s < 3 → w.2.2.2 55 s = lN (zc3 (zF (r.2 6) D) s k)) → wp_X9_comes_c103 Q B (m + 1) w y2 y3 y4 (nI k)
  | 0, k, w, e, f, h54, h55 => by
    obtain rfl : k = 3 := by omega
    unfold wp_X9_comes_c103
    rw [rl_eT (show (3 : Int32) ≤ nI 3 by decide)]
    refine ⟨4, m_cm_copy (w0 := w0) (g := w.2.2.2 55) (fun w' f' h' => h w' f' (fun s hs => ?_)) 3 0 w (by omega) f rfl (fun j hj => absurd hj (Nat.not_lt_zero _))⟩
    rw [h' s hs, h55 s hs]
  | m + 1, k, w, e, f, h54, h55 => by
    have hm := MR_fr hm0 f (by decide) (by decide)
    have hk := h54 k (by omega)
    have hd := hD k (by omega)
    have o0 := hr.2.2.2.2.2.2.2.2.2.2.2.2.1 (k * 3) (by omega)
    have o1 := hr.2.2.2.2.2.2.2.2.2.2.2.2.1 (k * 3 + 1) (by omega)
    have o2 := ho_of hr k (by omega)
    have p0 := hm.2.2.2.2.2.2.2.2.1 (k * 3) (by omega)
    have p1 := hm.2.2.2.2.2.2.2.2.1 (k * 3 + 1) (by omega)
    have m0 : D k 1 * r.2 6 (k * 3) ≤ 1000000000 * 100 := Nat.mul_le_mul hd o0
    have m1 : D k 1 * r.2 6 (k * 3 + 1) ≤ 1000000000 * 100 := Nat.mul_le_mul hd o1
    have hsum : D k 1 * r.2 6 (k * 3) + D k 1 * r.2 6 (k * 3 + 1) ≤ D k 1 * 100 := by
      rw [← Nat.mul_add]
      exact Nat.mul_le_mul_left _ o2
    have v0 : D k 1 * r.2 6 (k * 3) / 100 = zF (r.2 6) D 0 k 1 := rfl
    have v1 : D k 1 * r.2 6 (k * 3 + 1) / 100 = zF (r.2 6) D 1 k 1 := rfl
    have v2 : D k 1 - D k 1 * r.2 6 (k * 3) / 100 - D k 1 * r.2 6 (k * 3 + 1) / 100 = zF (r.2 6) D 2 k 1 := rfl
    have q0 : lN (D k 1) * (nI (r.2 6 (k * 3))).toInt64 / 100 = lN (zF (r.2 6) D 0 k 1) := by
      rw [nI_l (by omega), lN_mul, lit64N 100, pk_lDiv (by omega) (by omega) (by omega), v0]
    have q1 : lN (D k 1) * (nI (r.2 6 (k * 3 + 1))).toInt64 / 100 = lN (zF (r.2 6) D 1 k 1) := by
      rw [nI_l (by omega), lN_mul, lit64N 100, pk_lDiv (by omega) (by omega) (by omega), v1]
    have q2 : lN (D k 1) - lN (zF (r.2 6) D 0 k 1) - lN (zF (r.2 6) D 1 k 1) = lN (zF (r.2 6) D 2 k 1) := by
      rw [← v0, ← v1, lN_sub (by omega), lN_sub (by omega), v2]
    have e30 : 3 * nI k = nI (k * 3) := by rw [lit32 3, pk_mul, Nat.mul_comm]
    have hin : vp_in (nI k) 3 := vp_in_nI (by omega) (by decide)
    have i0 : vp_in (nI (k * 3)) 9 := vp_in_nI (by omega) (by decide)
    have i1 : vp_in (nI (k * 3 + 1)) 9 := vp_in_nI (by omega) (by decide)
    have c0 : Int32.toNatClampNeg 0 = 0 := by decide
    have c1 : Int32.toNatClampNeg 1 = 1 := by decide
    have c2 : Int32.toNatClampNeg 2 = 2 := by decide
    have a0 := h55 0 (by omega)
    have a1 := h55 1 (by omega)
    have a2 := h55 2 (by omega)
    unfold wp_X9_comes_c103
    rw [rl_eF (show ¬ (3 : Int32) ≤ nI k from nI_ge (b := 3) (by omega) (by omega))]
    simp only [forall_eq, e30, nI_1, nI_clamp (show k < 2 ^ 31 by omega), nI_clamp (show k * 3 < 2 ^ 31 by omega), nI_clamp (show k * 3 + 1 < 2 ^ 31 by omega), hk, p0, p1, q0, q1, c0, c1, c2, sB_4, ↓reduceIte, Nat.reduceEqDiff, updL_a, a0, a1, a2, lN_add, q2]
    have w0' : vp_in 0 3 := vp_in_nI (n := 0) (by omega) (by decide)
    have w1' : vp_in 1 3 := vp_in_nI (n := 1) (by omega) (by decide)
    have w2' : vp_in 2 3 := vp_in_nI (n := 2) (by omega) (by decide)
    refine ⟨hin, i0, hin, i1, w0', w0', w1', w1', w2', hin, w2', ?_⟩
    refine m_cm_part hr hm0 hD h m (k + 1) _ (by omega) (fr_B (fr_B (fr_B f _ _ (by decide)) _ _ (by decide)) _ _ (by decide)) (fun s hs => ?_) (fun s hs => ?_)
    · simp only [sB_4, ↓reduceIte, Nat.reduceEqDiff]
      exact h54 s hs
    · simp only [sB_4, ↓reduceIte, updL_a]
      have : s = 0 ∨ s = 1 ∨ s = 2 := by omega
      rcases this with rfl | rfl | rfl
      · rfl
      · rfl
      · rfl
theorem m_cm_zero {w0 : Vl} {g : Nat → Int64} {y2 y3 y4 : Int32} {Q : Int32 → Vl → Prop} {B : Vl → Int32 → Int32 → Int32 → Prop} (h : ∀ w', fr [] [] [] [54, 55] w0 w' → w'.2.2.2 54 = g → (∀ j, j < 3 → w'.2.2.2 55 j = lN 0) → ∃ n, wp_X9_comes_c103 Q B n w' y2 y3 y4 0) : ∀ m i w, i + m = 3 → fr [] [] [] [54, 55] w0 w → w.2.2.2 54 = g → (∀ j, j < i → w.2.2.2 55 j = lN 0) → wp_X9_comes_c80 Q B (m + 1) w y2 y3 y4 (nI i)
  | 0, i, w, e, f, h52, h53 => by
    obtain rfl : i = 3 := by omega
    unfold wp_X9_comes_c80
    rw [rl_eT (show (3 : Int32) ≤ nI 3 by decide)]
    exact h w f h52 h53
  | m + 1, i, w, e, f, h52, h53 => by
    unfold wp_X9_comes_c80
    rw [rl_eF (show ¬ (3 : Int32) ≤ nI i from nI_ge (b := 3) (by omega) (by omega)), nI_clamp (by omega)]
    simp only [forall_eq, nI_1]
    have hv : vp_in (nI i) 3 := vp_in_nI (by omega) (by decide)
    refine ⟨hv, m_cm_zero h m (i + 1) _ (by omega) (fr_B f _ _ (by decide)) ?_ (fun j hj => ?_)⟩
    · rw [sB_4, if_neg (by decide)]
      exact h52
    · rw [sB_4, if_pos rfl, updL_a]
      by_cases c : j = i
      · rw [if_pos c]
        rfl
      · rw [if_neg c]
        exact h53 j (by omega)
theorem m_cm_days {r : Ns} {w0 : Vl} {i j n : Nat} {Q : Int32 → Vl → Prop} (hr : WfR r) (hm0 : MR r w0) (hi : i < 3) (hj : j < 3) (hn : n ≤ 60) (h : ∀ w', fr [] [] [] [54, 55] w0 w' → Q (nI (zcome r i j n)) w') :
    ∀ m d w, d + m = n → fr [] [] [] [54, 55] w0 w → (∀ s, s < 3 → w.2.2.2 54 s = lN (zD (r.2 6) zp0 (zD0 i 1) d s 1)) → wp_X9_comes_c71 Q (m + 1) w (nI j) (nI n) (nI d)
  | 0, d, w, e, f, h54 => by
    obtain rfl : d = n := by omega
    have hMs := zM_D (o := r.2 6) (p := zp0) (by omega) (zB_0 i 1) (ho_of hr) d
    have hM0 := zM_0 (sky := i) (M := 1) hi
    have b1 := zM_1 (D := zD (r.2 6) zp0 (zD0 i 1) d) (l := 1) hj (by omega)
    unfold wp_X9_comes_c71
    rw [rl_eT (nI_le (Nat.le_refl _) (by omega)), nI_clamp (by omega), h54 j hj, lit64N 1000, pk_lDiv (by omega) (by omega) (by omega), lN_i]
    exact ⟨vp_in_nI hj (by decide), h w f⟩
  | m + 1, d, w, e, f, h54 => by
    have hMs := zM_D (o := r.2 6) (p := zp0) (by omega) (zB_0 i 1) (ho_of hr) d
    have hM0 := zM_0 (sky := i) (M := 1) hi
    unfold wp_X9_comes_c71
    rw [rl_eF (nI_ge (by omega) (by omega))]
    refine ⟨4, m_cm_zero (w0 := w0) (g := w.2.2.2 54) (fun w' f' q54 q55 => ⟨4, ?_⟩) 3 0 w (by omega) f rfl (fun j hj => absurd hj (Nat.not_lt_zero _))⟩
    refine m_cm_part (w0 := w0) (D := zD (r.2 6) zp0 (zD0 i 1) d) hr hm0 (fun s' hs' => ?_) (fun w2 f2 g2 => ?_) 3 0 w' (by omega) f' ?_ (fun s' hs' => ?_)
    · have := zM_1 (D := zD (r.2 6) zp0 (zD0 i 1) d) (l := 1) hs' (by omega)
      omega
    · rw [nI_1]
      refine m_cm_days hr hm0 hi hj hn h m (d + 1) w2 (by omega) f2 (fun s hs => ?_)
      rw [g2 s hs, zD_l1]
      show lN (0 + _ + _ + _) = _
      rw [Nat.zero_add]
    · rw [q54]
      exact h54
    · exact q55 s' hs'
theorem m_cm_init {r : Ns} {w0 : Vl} {i j n : Nat} {Q : Int32 → Vl → Prop} (hr : WfR r) (hm0 : MR r w0) (hi : i < 3) (hj : j < 3) (hn : n ≤ 60) (h : ∀ w', fr [] [] [] [54, 55] w0 w' → Q (nI (zcome r i j n)) w') :
    ∀ m k w, k + m = 3 → fr [] [] [] [54, 55] w0 w → (∀ s, s < k → w.2.2.2 54 s = lN (if s = i then 1000000000 else 0)) → wp_X9_comes_c36 Q (m + 1) w (nI i) (nI j) (nI n) (nI k)
  | 0, k, w, e, f, h54 => by
    obtain rfl : k = 3 := by omega
    unfold wp_X9_comes_c36
    rw [rl_eT (show (3 : Int32) ≤ nI 3 by decide)]
    refine ⟨n + 1, m_cm_days hr hm0 hi hj hn h n 0 w (by omega) f (fun s hs => ?_)⟩
    rw [h54 s hs]
    congr 1
    show _ = zD0 i 1 s 1
    unfold zD0
    by_cases c : s = i
    · rw [if_pos c, if_pos ⟨c, rfl⟩]
    · rw [if_neg c, if_neg (fun q => c q.1)]
  | m + 1, k, w, e, f, h54 => by
    have step : ∀ b : Nat, b = (if k = i then 1000000000 else 0) → wp_X9_comes_c61 Q (wp_X9_comes_c36 Q (m + 1)) w (nI i) (nI j) (nI n) (nI k) (lN b) (nI k) := by
      intro b hb
      unfold wp_X9_comes_c61
      rw [nI_clamp (by omega)]
      simp only [forall_eq, nI_1]
      refine ⟨vp_in_nI (by omega) (by decide), m_cm_init hr hm0 hi hj hn h m (k + 1) _ (by omega) (fr_B f _ _ (by decide)) (fun s hs => ?_)⟩
      rw [sB_4, if_pos rfl, updL_a]
      by_cases c : s = k
      · rw [if_pos c, c, hb]
      · rw [if_neg c]
        exact h54 s (by omega)
    unfold wp_X9_comes_c36
    rw [rl_eF (show ¬ (3 : Int32) ≤ nI k from nI_ge (b := 3) (by omega) (by omega))]
    by_cases c : k = i
    · rw [← c, rl_fT rfl, c]
      rw [c] at step
      exact step 1000000000 (by rw [if_pos rfl])
    · rw [rl_fF (fun q => c ((nI_eq (by omega) (by omega)).mp q))]
      exact step 0 (by rw [if_neg c])
theorem p_comes {r : Ns} {vx x5 x9 w : Vl} {f0 f1 : Nat → Int64} (x y z : Int32) (hR : IR r x9 w) : ∃ v, (∀ Q : Int32 → Vl → (Nat → Int64) → (Nat → Int64) → Prop, (∀ u g0 g1, Q v u g0 g1) → wp_X8_comes vx x5 f0 f1 x9 x y z Q) ∧ (∀ Q : Int32 → Vl → Prop, (∀ w', fr [] [] [] [54, 55] w w' → Q v w') → wp_X9_comes w x y z Q) := by
  obtain ⟨e9, wr, mr⟩ := hR
  subst e9
  unfold wp_X8_comes wp_X9_comes
  rcases rl_rg x 0 2 (by omega) (by omega) with ⟨i, _, hi, rfl⟩ | ⟨h1, h2⟩
  · rcases rl_rg y 0 2 (by omega) (by omega) with ⟨j, _, hj, rfl⟩ | ⟨h1, h2⟩
    · rcases rl_rg z 0 60 (by omega) (by omega) with ⟨n, n0, hn, rfl⟩ | ⟨h1, h2⟩
      · refine ⟨nI (zcome r i j n), fun Q h => ?_, fun Q h => ?_⟩
        · rw [rl_nsy hi, rl_b10, rl_nsy hj, rl_b00]
          exact rl_cy n0 hn (by decide) (q_comes wr (by omega) (by omega) hn h)
        · rw [rl_isy hi, rl_b01, rl_isy hj, rl_b11, rl_iy n0 hn (by omega) (by decide +kernel) (by decide +kernel), rl_b11]
          exact ⟨4, m_cm_init wr mr (by omega) (by omega) hn h 3 0 w (by omega) (fr_r w) (fun s hs => absurd hs (Nat.not_lt_zero _))⟩
      · refine ⟨-1000000002, fun Q h => ?_, fun Q h => ?_⟩
        · rw [rl_nsy hi, rl_b10, rl_nsy hj, rl_b00]
          exact rl_cn h1 (h _ _ _)
        · rw [rl_isy hi, rl_b01, rl_isy hj, rl_b11, rl_ino h2 (by decide +kernel) (by decide +kernel), rl_b10]
          exact h w (fr_r w)
    · refine ⟨-1000000001, fun Q h => ?_, fun Q h => ?_⟩
      · rw [rl_nsy hi, rl_b10, rl_nsn h2, rl_b01]
        exact h _ _ _
      · rw [rl_isy hi, rl_b01, rl_isn h2, rl_b10]
        exact h w (fr_r w)
  · refine ⟨-1000000001, fun Q h => ?_, fun Q h => ?_⟩
    · rw [rl_nsn h2, rl_b11]
      exact h _ _ _
    · rw [rl_isn h2, rl_b00]
      exact h w (fr_r w)
