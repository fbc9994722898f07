/-! ===== THE CLASS'S CHANCES ===== -/
theorem q_add {f : Nat → Int64} {s l p : Nat} {X : Int32} {x : Int64} {Q : (Nat → Int64) → Prop} (hs : s < 3) (hl : l < 100) (hp : p < 100) (eX : X = nI l - nI p) (h : Q (addG ixC f s l p x)) : wp_X2_add 300 f (nI s) X x Q := by
  unfold wp_X2_add
  simp only [forall_eq]
  unfold addG ixC at h
  by_cases c : l ≤ p
  · rw [if_pos c] at h
    have c0 : X ≤ 0 := by
      rw [eX]
      by_cases c1 : l = p
      · rw [c1, pk_sub (Nat.le_refl _), Nat.sub_self]
        decide
      · have := pk_sneg (a := l) (b := p) (by omega) (by omega)
        rw [Int32.lt_iff_toInt_lt] at this
        rw [Int32.le_iff_toInt_le]
        omega
    rw [rl_eT c0]
    exact h
  · rw [if_neg c] at h
    have e1 : X = nI (l - p) := by rw [eX, pk_sub (by omega)]
    have e2 : X * 3 + nI s = nI ((l - p) * 3 + s) := by rw [e1, lit32 3, pk_mul, nI_add]
    rw [e2, rl_eF (show ¬ X ≤ 0 by rw [e1]; exact nI_nle (by omega) (by omega)), rl_eF (nI_pos (by omega)), rl_eF (show ¬ Int32.ofNat 300 ≤ nI ((l - p) * 3 + s) from nI_ge (b := 300) (by omega) (by omega)), nI_clamp (by omega)]
    have hv : vp_in (nI ((l - p) * 3 + s)) 300 := vp_in_nI (by omega) (by decide)
    exact ⟨hv, hv, h⟩
theorem q_pd_loop {r : Ns} {x5 : Vl} {D : Nat → Nat → Nat} {M : Nat} {p : Nat → Nat} {Q : (Nat → Int64) → (Nat → Int64) → Prop} (hr : WfR r) (hM : M ≤ 99) (hB : zB M D) (hD : ∀ s l, s < 3 → l < 100 → D s l ≤ 1000000000) (h5 : x5.1 2 = nI (3 * (M + 1))) (hp0 : p 0 < 100) (hp1 : p 1 < 100) (hp2 : p 2 = 0)
    (hQ : ∀ f0 f1, Rr ixC f0 (fun _ _ => 0) → Rr ixC f1 (zDs (zF (r.2 6) D) p) → Q f1 f0) : ∀ m k f0 f1, k + m = 3 * (M + 1) → (∀ s, s < 3 → ∀ l, l < 100 → f0 (ixC s l) = lN (if ixC s l < k then 0 else D s l)) → Rr ixC f1 (zacc ixC p (zF (r.2 6) D) k) → wp_X2_passDay_c3 x5 (encG r) Q (m + 1) f0 f1 (nI (p 0)) (nI (p 1)) (nI k)
  | 0, k, f0, f1, e, h0, h1 => by
    obtain rfl : k = 3 * (M + 1) := by omega
    unfold wp_X2_passDay_c3 wp_X2_passDay_c144
    rw [h5, rl_eT (nI_le (Nat.le_refl _) (by omega))]
    refine hQ f0 f1 (fun s hs l hl => ?_) (fun s hs l hl => ?_)
    · rw [h0 s hs l hl]
      by_cases c : ixC s l < 3 * (M + 1)
      · rw [if_pos c]
      · rw [if_neg c, hB s l (by unfold ixC at c; omega)]
    · rw [h1 s hs l hl, zacc_C hB]
  | m + 1, k, f0, f1, e, h0, h1 => by
    obtain ⟨sk, lk, hsk, hlk, ek⟩ : ∃ sk lk, sk < 3 ∧ lk < 100 ∧ k = ixC sk lk := ⟨k % 3, k / 3, Nat.mod_lt _ (by omega), by omega, by unfold ixC; omega⟩
    have e3 : k / 3 = lk := by unfold ixC at ek; omega
    have e4 : k % 3 = sk := by unfold ixC at ek; omega
    have hk : f0 k = lN (D sk lk) := by
      rw [ek, h0 sk hsk lk hlk, if_neg (by omega)]
    have hd := hD sk lk hsk hlk
    have o0 := hr.2.2.2.2.2.2.2.2.2.2.2.2.1 (sk * 3) (by omega)
    have o1 := hr.2.2.2.2.2.2.2.2.2.2.2.2.1 (sk * 3 + 1) (by omega)
    have o2 := hr.2.2.2.2.2.2.2.2.2.2.2.2.2.1 sk hsk
    rw [Nat.mul_comm 3 sk] at o2
    have em : (nI k - nI k / 3 * 3) = nI sk := by
      rw [lit32 3, pk_rem (by omega) (by omega) (by omega), e4]
    have ed : nI k / 3 = nI lk := by
      rw [lit32 3, pk_div (by omega) (by omega) (by omega), e3]
    have em2 : nI k - nI lk * 3 = nI sk := by rw [← ed]; exact em
    have hin : vp_in (nI k) 300 := vp_in_nI (by omega) (by decide)
    rw [ek] at h1
    unfold wp_X2_passDay_c3 wp_X2_passDay_c138
    rw [h5, rl_eF (nI_ge (by omega) (by omega)), rl_eF (show ¬ (300 : Int32) ≤ nI k from nI_ge (b := 300) (by omega) (by omega)), nI_clamp (by omega)]
    refine ⟨hin, ?_⟩
    simp only [forall_eq, hk, em, ed, em2, nI_1]
    by_cases c : D sk lk = 0
    · rw [rl_eT (show lN (D sk lk) ≤ 0 by rw [c]; decide)]
      refine q_pd_loop hr hM hB hD h5 hp0 hp1 hp2 hQ m (k + 1) f0 f1 (by omega) (fun s hs l hl => ?_) ?_
      · rw [h0 s hs l hl]
        by_cases c2 : ixC s l < k
        · rw [if_pos c2, if_pos (by omega)]
        · rw [if_neg c2]
          by_cases c3 : ixC s l = k
          · rw [if_pos (by omega)]
            obtain ⟨q1, q2⟩ := inj_C s hs l hl sk hsk lk hlk (by omega)
            rw [q1, q2, c]
          · rw [if_neg (by omega)]
      · rw [ek]
        exact Rr_0step inj_C hsk hlk h1 (fun s => zF_0 c)
    · have hn : ¬ lN (D sk lk) ≤ 0 := by
        intro q
        have := (pk_lLE (a := D sk lk) (b := 0) (by omega) (by omega)).mp q
        omega
      have m0 : D sk lk * r.2 6 (sk * 3) ≤ 1000000000 * 100 := Nat.mul_le_mul hd o0
      have m1 : D sk lk * r.2 6 (sk * 3 + 1) ≤ 1000000000 * 100 := Nat.mul_le_mul hd o1
      have hsum : D sk lk * r.2 6 (sk * 3) + D sk lk * r.2 6 (sk * 3 + 1) ≤ D sk lk * 100 := by
        rw [← Nat.mul_add]
        exact Nat.mul_le_mul_left _ (by omega)
      rw [rl_eF hn]
      refine (w_X3_chanceOf (b := 0) hsk (by omega)).mpr ?_
      refine (w_X3_chanceOf (b := 1) hsk (by omega)).mpr ?_
      rw [Nat.add_zero, nI_l (by omega), nI_l (by omega), lN_mul, lN_mul, lit64N 100, pk_lDiv (by omega) (by omega) (by omega), pk_lDiv (by omega) (by omega) (by omega), lN_sub (by omega), lN_sub (by omega)]
      have v0 : D sk lk * r.2 6 (sk * 3) / 100 = zF (r.2 6) D 0 sk lk := rfl
      have v1 : D sk lk * r.2 6 (sk * 3 + 1) / 100 = zF (r.2 6) D 1 sk lk := rfl
      have v2 : D sk lk - D sk lk * r.2 6 (sk * 3) / 100 - D sk lk * r.2 6 (sk * 3 + 1) / 100 = zF (r.2 6) D 2 sk lk := rfl
      rw [v2, v0, v1]
      refine q_add (s := 0) (by omega) hlk hp0 rfl ?_
      refine q_add (s := 1) (by omega) hlk hp1 rfl ?_
      refine q_add (s := 2) (p := p 2) (by omega) hlk (by omega) (by rw [hp2, pk_sub (Nat.zero_le _)]; rfl) ?_
      refine ⟨hin, ?_⟩
      refine q_pd_loop hr hM hB hD h5 hp0 hp1 hp2 hQ m (k + 1) _ _ (by omega) (fun s hs l hl => ?_) ?_
      · rw [updL_a]
        by_cases c3 : ixC s l = k
        · rw [if_pos c3, if_pos (by omega)]
          rfl
        · rw [if_neg c3, h0 s hs l hl]
          by_cases c2 : ixC s l < k
          · rw [if_pos c2, if_pos (by omega)]
          · rw [if_neg c2, if_neg (by omega)]
      · rw [ek]
        exact Rr_step inj_C hsk hlk h1
theorem q_passDay {r : Ns} {x5 : Vl} {D : Nat → Nat → Nat} {M : Nat} {p : Nat → Nat} {f0 f1 : Nat → Int64} {Q : (Nat → Int64) → (Nat → Int64) → Prop} (hr : WfR r) (hM : M ≤ 99) (hB : zB M D) (hD : ∀ s l, s < 3 → l < 100 → D s l ≤ 1000000000) (h5 : x5.1 2 = nI (3 * (M + 1))) (hp0 : p 0 < 100) (hp1 : p 1 < 100) (hp2 : p 2 = 0) (h0 : Rr ixC f0 D) (h1 : Rr ixC f1 (fun _ _ => 0))
    (hQ : ∀ f0 f1, Rr ixC f0 (zDs (zF (r.2 6) D) p) → Rr ixC f1 (fun _ _ => 0) → Q f0 f1) : wp_X2_passDay x5 (encG r) f0 f1 (nI (p 0)) (nI (p 1)) Q := by
  refine ⟨3 * (M + 1) + 1, q_pd_loop hr hM hB hD h5 hp0 hp1 hp2 (fun g0 g1 a b => hQ g1 g0 b a) (3 * (M + 1)) 0 f0 f1 (by omega) (fun s hs l hl => ?_) (fun s hs l hl => ?_)⟩
  · rw [if_neg (Nat.not_lt_zero _)]
    exact h0 s hs l hl
  · rw [zacc_0]
    exact h1 s hs l hl
theorem q_start {x5 : Vl} {f0 f1 : Nat → Int64} {sky M : Nat} {Q : Vl → (Nat → Int64) → (Nat → Int64) → Prop} (hs : sky < 3) (h1 : 1 ≤ M) (hM : M ≤ 99) (hQ : ∀ u g0 g1, u.1 2 = nI (3 * (M + 1)) → Rr ixC g0 (zD0 sky M) → Rr ixC g1 (fun _ _ => 0) → Q u g0 g1) : wp_X2_start x5 f0 f1 (nI sky) (nI M) Q := by
  have loop : ∀ m k g0 g1, k + m = 300 → (∀ i, i < k → g0 i = lN 0 ∧ g1 i = lN 0) → wp_X2_start_c2 Q (m + 1) x5 g0 g1 (nI sky) (nI M) (nI k) := by
    intro m
    induction m with
    | zero =>
      intro k g0 g1 e h
      obtain rfl : k = 300 := by omega
      unfold wp_X2_start_c2 wp_X2_start_c40
      rw [rl_eT (show (300 : Int32) ≤ nI 300 by decide)]
      simp only [forall_eq]
      refine q_add (l := M) (p := 0) hs (by omega) (by omega) (by rw [pk_sub (Nat.zero_le _)]; rfl) ?_
      have hz : Rr ixC g0 (fun _ _ => 0) := fun s hs l hl => (h _ (by unfold ixC; omega)).1
      have hz1 : Rr ixC g1 (fun _ _ => 0) := fun s hs l hl => (h _ (by unfold ixC; omega)).2
      refine hQ _ _ _ ?_ ?_ hz1
      · rw [sI_1, if_pos rfl, nI_1, lit32 3, pk_mul, Nat.mul_comm]
      · have := Rr_add inj_C hz (s := sky) (l := M) (p := 0) (x := 1000000000) hs (by omega)
        intro s' hs' l' hl'
        have q := this s' hs' l' hl'
        rw [lit64N 1000000000, q]
        congr 1
        show 0 + (if s' = sky ∧ l' + 0 = M ∧ l' ≠ 0 then 1000000000 else 0) = zD0 sky M s' l'
        unfold zD0
        by_cases c : s' = sky ∧ l' = M
        · rw [if_pos c, if_pos ⟨c.1, c.2, by omega⟩]
        · rw [if_neg c, if_neg (fun z => c ⟨z.1, z.2.1⟩)]
    | succ m ih =>
      intro k g0 g1 e h
      unfold wp_X2_start_c2
      have hc : ¬ (300 : Int32) ≤ nI k := nI_ge (b := 300) (by omega) (by omega)
      have hv : vp_in (nI k) 300 := vp_in_nI (by omega) (by decide)
      rw [rl_eF hc, rl_eF hc, nI_clamp (by omega)]
      simp only [forall_eq, nI_1]
      refine ⟨hv, hv, ih (k + 1) _ _ (by omega) (fun i hi => ?_)⟩
      rw [updL_a, updL_a]
      by_cases c : i = k
      · rw [if_pos c, if_pos c]
        exact ⟨rfl, rfl⟩
      · rw [if_neg c, if_neg c]
        exact h i (by omega)
  exact ⟨301, loop 300 0 f0 f1 rfl (fun i hi => absurd hi (Nat.not_lt_zero _))⟩
def zpo (D : Nat → Nat → Nat) (s : Nat) : Nat → Nat
  | 0 => 0
  | k + 1 => zpo D s k + if k % 3 = s then D s (k / 3) else 0
theorem zpo_3 (D : Nat → Nat → Nat) {s : Nat} (hs : s < 3) : ∀ n, zpo D s (3 * n) = zsum (D s) n
  | 0 => rfl
  | n + 1 => by
    show zpo D s (3 * n) + (if 3 * n % 3 = s then D s (3 * n / 3) else 0) + (if (3 * n + 1) % 3 = s then D s ((3 * n + 1) / 3) else 0) + (if (3 * n + 2) % 3 = s then D s ((3 * n + 2) / 3) else 0) = zsum (D s) n + D s n
    rw [zpo_3 D hs n]
    have e0 : 3 * n % 3 = 0 := by omega
    have e1 : (3 * n + 1) % 3 = 1 := by omega
    have e2 : (3 * n + 2) % 3 = 2 := by omega
    have f0 : 3 * n / 3 = n := by omega
    have f1 : (3 * n + 1) / 3 = n := by omega
    have f2 : (3 * n + 2) / 3 = n := by omega
    rw [e0, e1, e2, f0, f1, f2]
    have : s = 0 ∨ s = 1 ∨ s = 2 := by omega
    rcases this with rfl | rfl | rfl <;> simp
theorem q_partsOf {x5 : Vl} {f0 : Nat → Int64} {D : Nat → Nat → Nat} {M s : Nat} {Q : Int64 → Prop} (hM : M ≤ 99) (hs : s < 3) (h5 : x5.1 2 = nI (3 * (M + 1))) (h0 : Rr ixC f0 D) (h : Q (lN (zsum (D s) (M + 1)))) : wp_X2_partsOf x5 f0 (nI s) Q := by
  have loop : ∀ m k, k + m = 3 * (M + 1) → wp_X2_partsOf_c5 x5 f0 Q (m + 1) (nI s) (lN (zpo D s k)) (nI k) := by
    intro m
    induction m with
    | zero =>
      intro k e
      obtain rfl : k = 3 * (M + 1) := by omega
      unfold wp_X2_partsOf_c5
      rw [h5, rl_eT (nI_le (Nat.le_refl _) (by omega)), zpo_3 D hs]
      exact h
    | succ m ih =>
      intro k e
      have IH := ih (k + 1) (by omega)
      unfold zpo at IH
      have em : (nI k - nI k / 3 * 3) = nI (k % 3) := by
        rw [lit32 3, pk_rem (by omega) (by omega) (by omega)]
      unfold wp_X2_partsOf_c5 wp_X2_partsOf_c42
      rw [h5, rl_eF (nI_ge (by omega) (by omega)), rl_eF (show ¬ (300 : Int32) ≤ nI k from nI_ge (b := 300) (by omega) (by omega)), em, nI_clamp (by omega)]
      simp only [forall_eq, nI_1]
      by_cases c : k % 3 = s
      · have hk : f0 k = lN (D s (k / 3)) := by
          have := h0 s hs (k / 3) (by omega)
          have e2 : ixC s (k / 3) = k := by unfold ixC; omega
          rw [e2] at this
          exact this
        rw [if_pos c] at IH
        rw [c, rl_fT rfl, hk, lN_add]
        exact ⟨vp_in_nI (by omega) (by decide), IH⟩
      · rw [if_neg c] at IH
        rw [rl_fF (fun q => c ((nI_eq (by omega) (by omega)).mp q))]
        exact IH
  exact ⟨3 * (M + 1) + 1, loop _ 0 (by omega)⟩
def zfar (r s : Ns) (l : Nat) : Nat := if s.1 7 ≤ r.2 1 l then r.2 1 l - s.1 7 else s.1 7 - r.2 1 l
def zlate (r k s : Ns) (l x : Nat) : Nat := if zfar r s l = 0 then 0 else zM (zD (r.2 6) (zby r) (zD0 (s.1 13) (zfar r s l)) (zlast r k s l x)) / 1000
theorem ho_of {r : Ns} (hr : WfR r) : ∀ sky, sky < 3 → r.2 6 (sky * 3) + r.2 6 (sky * 3 + 1) ≤ 100 := by
  intro sky hs
  have o2 := hr.2.2.2.2.2.2.2.2.2.2.2.2.2.1 sky hs
  rw [Nat.mul_comm 3 sky] at o2
  omega
theorem q_late {c : Nat} {r k s : Ns} {vx x5 : Vl} {f0 f1 : Nat → Int64} {l x : Nat} {Q : Int32 → Vl → (Nat → Int64) → (Nat → Int64) → Prop} (hr : WfR r) (hk : WfK k) (hs : WfS r s 0 0) (hc : c ≤ 64) (hd : s.1 12 ≤ 200 * c) (hl : l < r.1 7) (hx : x ≤ 999) (h : ∀ u g0 g1, Q (nI (zlate r k s l x)) u g0 g1) : wp_X8_oddsTooLate vx (encS s) x5 f0 f1 (encG r) (encG k) (nI l) (nI x) Q := by
  have r7 := hr.1
  have hP := (hr.2.2.2.2.2.2.2.2.2.2.2.2.2.2 l hl).2.1
  have h7 := hs.1
  have h13 := hs.2.2.2.2.1
  have hf : zfar r s l ≤ 99 := by
    unfold zfar
    split <;> omega
  have ef : nI (if s.1 7 ≤ r.2 1 l then r.2 1 l - s.1 7 else s.1 7 - r.2 1 l) = nI (zfar r s l) := rfl
  unfold wp_X8_oddsTooLate
  simp (disch := omega) only [w_at, encG_r, jat_row, encS_1, i_abs, forall_eq]
  rw [ef]
  unfold zlate at h
  by_cases c0 : zfar r s l = 0
  · rw [if_pos c0] at h
    rw [c0, rl_fT (show nI 0 = 0 from rfl)]
    exact h _ _ _
  · rw [if_neg c0] at h
    rw [rl_fF (nI_ne0 (by omega) (by omega))]
    refine q_last hr hk hs hc hd hl hx ?_
    have hL := zlast_le r k s l x
    obtain ⟨L, eL⟩ : ∃ L, L = zlast r k s l x := ⟨_, rfl⟩
    rw [← eL] at h hL ⊢
    obtain ⟨M, eM⟩ : ∃ M, M = zfar r s l := ⟨_, rfl⟩
    rw [← eM] at h hf c0 ⊢
    have hB := zB_D (o := r.2 6) (p := zby r) (zB_0 (s.1 13) M)
    have hMs := zM_D (o := r.2 6) (p := zby r) hf (zB_0 (s.1 13) M) (ho_of hr)
    have hM0 := zM_0 (sky := s.1 13) (M := M) (by omega)
    refine q_start (by omega) (by omega) hf ?_
    intro u g0 g1 hu hg0 hg1
    have fin : ∀ u g0 g1, u.1 2 = nI (3 * (M + 1)) → Rr ixC g0 (zD (r.2 6) (zby r) (zD0 (s.1 13) M) L) → ∃ n, wp_X8_oddsTooLate_c101 vx (encS s) (encG r) (encG k) Q n u g0 g1 0 0 := by
      intro u g0 g1 hu hg
      have hz : ∀ s', zsum (zD (r.2 6) (zby r) (zD0 (s.1 13) M) L s') (M + 1) = zsum (zD (r.2 6) (zby r) (zD0 (s.1 13) M) L s') 100 := by
        intro s'
        have := zsum_z (g := zD (r.2 6) (zby r) (zD0 (s.1 13) M) L s') (n := M + 1) (fun l hl => hB L s' l (by omega)) (99 - M)
        have e : M + 1 + (99 - M) = 100 := by omega
        rw [e] at this
        exact this.symm
      refine ⟨4, ?_⟩
      have z0 : (0 : Int64) = lN 0 := rfl
      unfold wp_X8_oddsTooLate_c101
      rw [rl_eF (by decide)]
      refine q_partsOf (s := 0) hf (by omega) hu hg ?_
      rw [hz 0]
      intro y1 ey1 y2 ey2
      rw [z0, lN_add, Nat.zero_add] at ey1
      subst ey1
      have e2 : y2 = nI 1 := ey2
      subst e2
      unfold wp_X8_oddsTooLate_c101
      rw [rl_eF (by decide)]
      refine q_partsOf (s := 1) hf (by omega) hu hg ?_
      rw [hz 1]
      intro y1 ey1 y2 ey2
      rw [lN_add] at ey1
      subst ey1
      have e2 : y2 = nI 2 := ey2
      subst e2
      unfold wp_X8_oddsTooLate_c101
      rw [rl_eF (by decide)]
      refine q_partsOf (s := 2) hf (by omega) hu hg ?_
      rw [hz 2]
      intro y1 ey1 y2 ey2
      rw [lN_add] at ey1
      subst ey1
      have e2 : y2 = nI 3 := ey2
      subst e2
      unfold wp_X8_oddsTooLate_c101
      rw [rl_eT (show (3 : Int32) ≤ nI 3 by decide)]
      have hm := hMs L
      unfold zM at h hm
      unfold zM at hM0
      rw [lit64N 1000, pk_lDiv (by omega) (by omega) (by omega), lN_i]
      exact h _ _ _
    have loop : ∀ m d g0 g1, d + m = L → Rr ixC g0 (zD (r.2 6) (zby r) (zD0 (s.1 13) M) d) → Rr ixC g1 (fun _ _ => 0) → wp_X8_oddsTooLate_c55 vx (encS s) (encG r) (encG k) Q (m + 1) u g0 g1 (nI L) (nI d) := by
      intro m
      induction m with
      | zero =>
        intro d g0 g1 e q0 q1
        obtain rfl : d = L := by omega
        unfold wp_X8_oddsTooLate_c55
        rw [rl_eT (nI_le (Nat.le_refl _) (by omega))]
        exact fin u g0 g1 hu q0
      | succ m ih =>
        intro d g0 g1 e q0 q1
        have r8 := hr.2.2.1
        unfold wp_X8_oddsTooLate_c55
        rw [rl_eF (nI_ge (by omega) (by omega))]
        refine (w_X3_milesBy (sky := 0) (by omega) (by omega)).mpr ?_
        refine (w_X3_milesBy (sky := 1) (by omega) (by omega)).mpr ?_
        refine q_passDay (p := zby r) hr hf (hB d) (fun s' l' hs' hl' => ?_) hu (Nat.lt_succ_of_le (zby_le hr 0)) (Nat.lt_succ_of_le (zby_le hr 1)) rfl q0 q1 ?_
        · have := zM_1 (D := zD (r.2 6) (zby r) (zD0 (s.1 13) M) d) hs' hl'
          have := hMs d
          omega
        · intro a b ha hb
          simp only [forall_eq, nI_1]
          exact ih (d + 1) a b (by omega) ha hb
    exact ⟨L + 1, loop L 0 g0 g1 (by omega) hg0 hg1⟩
