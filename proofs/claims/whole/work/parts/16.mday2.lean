/-! ===== THE MODEL'S DAY, whole ===== -/
theorem w_lesser {a b : Nat} {Q : Int64 → Prop} (ha : a < 2 ^ 31) (hb : b < 2 ^ 31) : wp_X9_lesser (lN a) (lN b) Q ↔ Q (lN (min a b)) := by
  unfold wp_X9_lesser
  simp (disch := omega) only [lN_le]
  by_cases c : b ≤ a
  · rw [Nat.min_eq_right c]
    exact ⟨fun h => h.1 c, fun h => ⟨fun _ => h, fun q => absurd c q⟩⟩
  · rw [Nat.min_eq_left (by omega)]
    exact ⟨fun h => h.2 c, fun h => ⟨fun q => absurd q c, fun _ => h⟩⟩
theorem w_X9_pace {r : Ns} {w : Vl} {sky : Nat} {Q : Int32 → Prop} (hr : WfR r) (hm : MR r w) (h : sky < 2 ^ 31) : wp_X9_pace w (nI sky) Q ↔ Q (nI (zby r sky)) := by
  have h8 := hr.2.2.1
  unfold wp_X9_pace zby
  simp (disch := omega) only [hm.2.1, lit32, pk_div, nI_eq]
  by_cases h0 : sky = 0
  · simp [h0]
  · by_cases h1 : sky = 1
    · simp [h1]
    · simp [h0, h1]
theorem m_c90 {w : Vl} {Q : Vl → Prop} {r s : Ns} {sky H B : Nat} (hr : WfR r) (hm : MR r w) (hs : WfS r s 1 0) (ms : MS r s H B w) (hd : s.1 12 ≤ 12900)
    (hQ : ∀ w', MS r (zsail r s sky) H B w' → fr [21, 22] [17] [13] [] w w' → Q w') : wp_X9_sail_c90 Q w (nI (zto r (s.1 9))) (nI (zplace r s sky) - nI (s.1 7)) (nI (s.1 7)) := by
  have hp := zplace_le hr hs.2.2.2.1 hs.1 sky
  have ht := zto_le hr hs.2.2.2.1
  obtain ⟨n0, n2, n3, n4, n5, n6, n7, n8, n9, nl⟩ := hm
  obtain ⟨r7, r8, r8', r9, r9', r10, r11, r12, r12', r13, r13', _, _, _, rl⟩ := hr
  obtain ⟨s7, s8, s6, s9, s13, s16, s5, s15, s10, s11, s14, sl⟩ := hs
  obtain ⟨m17, m18, m19, m20, m21, m22, m23, m24, m25, m26, m27, m30, mrow⟩ := ms
  have e : nI (s.1 7) + (nI (zplace r s sky) - nI (s.1 7)) = nI (zplace r s sky) := by
    rw [Int32.add_comm, Int32.sub_add_cancel]
  have g0 := gI_neg (g := s.1 9) (by omega)
  unfold wp_X9_sail_c90
  simp only [forall_eq, e]
  simp (disch := omega) only [sI_1, sI_2, ↓reduceIte, Nat.reduceEqDiff, nI_eq, m23, g0]
  by_cases c : zplace r s sky = zto r (s.1 9)
  · refine ⟨fun _ => ⟨fun cg => ?_, fun cg => ?_⟩, fun q => absurd c q⟩
    · obtain ⟨l, e4⟩ : ∃ l, s.1 9 = l + 1 := ⟨s.1 9 - 1, by omega⟩
      have eg : gI (s.1 9) = nI l := by rw [e4]; rfl
      obtain ⟨k0, k1, k2, k3, k4⟩ := rl l (by omega)
      obtain ⟨a13, a14, a15, a16⟩ := mrow l (by omega)
      have l0 := (sl l (by omega)).1
      have e3 := nl l (by omega) 3 (by omega)
      have eS : zsail r s sky = zfill r (zu s 7 (zplace r s sky)) l := by
        unfold zsail
        rw [if_pos c, e4]
        rfl
      have ex : min (s.1 8) (r.2 3 l - s.2 0 l) = zgive r (zu s 7 (zplace r s sky)) l := rfl
      have ex1 : zgive r (zu s 7 (zplace r s sky)) l ≤ s.1 8 := Nat.min_le_left _ _
      rw [eg]
      simp (disch := omega) only [lit32, pk_mul, nI_add, nI_clamp, vp_inN, m22, e3, a13, pk_sub, nI_l, w_lesser, ex, lN_i]
      refine ⟨by omega, by omega, fun _ => ?_, fun q => absurd (nI_pos' (by omega)) q⟩
      unfold wp_X9_sail_c202
      simp (disch := omega) only [forall_eq, sI_1, sI_2, ↓reduceIte, Nat.reduceEqDiff, m22, m23, eg, nI_clamp, vp_inN, a13, pk_sub, nI_add]
      refine ⟨by omega, by omega, hQ _ ?_ (fr_A (fr_I (fr_I (fr_r w) _ (by decide)) _ (by decide)) _ _ (by decide))⟩
      rw [eS]
      unfold MS zfill
      simp (disch := omega) only [za_1, zu_s, zu_n, zu_2, sA_1, sA_2, sA_3, sI_1, sI_2, ↓reduceIte, Nat.reduceEqDiff]
      refine ⟨m17, m18, m19, m20, trivial, trivial, m23, m24, m25, m26, m27, m30, fun l' hl' => ?_⟩
      obtain ⟨b13, b14, b15, b16⟩ := mrow l' hl'
      by_cases c2 : l' = l
      · subst c2
        simp (disch := omega) only [upd_a, ↓reduceIte, za_s, za_n, zu_2]
        exact ⟨trivial, b14, b15, b16⟩
      · simp (disch := omega) only [upd_a, c2, ↓reduceIte, za_r, za_n, zu_2]
        exact ⟨b13, b14, b15, b16⟩
    · have e4 : s.1 9 = 0 := by omega
      have eS : zsail r s sky = ztakeOil r (zu s 7 (zplace r s sky)) (r.1 9) := by
        unfold zsail
        rw [if_pos c, e4]
        rfl
      have ex : min (s.1 5) (r.1 9 - s.1 8) = ztake r (zu s 7 (zplace r s sky)) (r.1 9) := by
        unfold ztake
        simp (disch := omega) only [zu_n]
        omega
      have ex1 : ztake r (zu s 7 (zplace r s sky)) (r.1 9) ≤ s.1 5 := by rw [← ex]; exact Nat.min_le_left _ _
      simp (disch := omega) only [forall_eq, m17, n3, m22, pk_sub, nI_l, w_lesser, ex, lN_i, lN_sub, nI_add, sI_1, sI_2, sJ_1, ↓reduceIte, Nat.reduceEqDiff]
      refine hQ _ ?_ (fr_I (fr_J (fr_I (fr_r w) _ (by decide)) _ (by decide)) _ (by decide))
      rw [eS]
      unfold MS ztakeOil
      simp (disch := omega) only [zu_s, zu_n, zu_2, sI_1, sI_2, sJ_1, sJ_2, sJ_3, ↓reduceIte, Nat.reduceEqDiff]
      exact ⟨trivial, m18, m19, m20, trivial, trivial, m23, m24, m25, m26, m27, m30, mrow⟩
  · refine ⟨fun q => absurd q c, fun _ => hQ _ ?_ (fr_I (fr_r w) _ (by decide))⟩
    have eS : zsail r s sky = zu s 7 (zplace r s sky) := if_neg c
    rw [eS]
    unfold MS
    simp (disch := omega) only [zu_s, zu_n, zu_2, sI_1, sI_2, ↓reduceIte, Nat.reduceEqDiff]
    exact ⟨m17, m18, m19, m20, trivial, m22, m23, m24, m25, m26, m27, m30, mrow⟩
theorem m_sail {w : Vl} {Q : Vl → Prop} {r s : Ns} {sky H B : Nat} (hr : WfR r) (hm : MR r w) (hs : WfS r s 1 0) (ms : MS r s H B w) (hd : s.1 12 ≤ 12900) (hk : sky ≤ 2)
    (hQ : ∀ w', MS r (zsail r s sky) H B w' → fr [21, 22] [17] [13] [] w w' → Q w') : wp_X9_sail w (nI sky) Q := by
  have key := m_c90 hr hm hs ms hd hQ
  have hp := zplace_le hr hs.2.2.2.1 hs.1 sky
  have ht := zto_le hr hs.2.2.2.1
  have hb := zby_le hr sky
  have r7 := hr.1
  have s7 := hs.1
  have s9 := hs.2.2.2.1
  have m21 := ms.2.2.2.2.1
  have m23 := ms.2.2.2.2.2.2.1
  have g0 := gI_neg (g := s.1 9) (by omega)
  have c24 : wp_X9_sail_c24 Q w (nI sky) (nI (zto r (s.1 9))) := by
    unfold wp_X9_sail_c24 wp_X9_sail_c48 wp_X9_sail_c67
    simp (disch := omega) only [m21, nI_leI, w_X9_pace hr hm]
    by_cases c : zto r (s.1 9) ≤ s.1 7
    · refine ⟨fun _ => ?_, fun q => absurd c q⟩
      have e3 : nI (zplace r s sky) - nI (s.1 7) = - nI (min (s.1 7 - zto r (s.1 9)) (zby r sky)) := by
        have e2 : zplace r s sky = s.1 7 - min (s.1 7 - zto r (s.1 9)) (zby r sky) := by
          unfold zplace
          split <;> omega
        rw [← Int32.neg_sub, pk_sub (by omega : zplace r s sky ≤ s.1 7)]
        congr 2
        omega
      rw [e3] at key
      simp (disch := omega) only [pk_sub, nI_leI]
      refine ⟨fun c2 => ⟨fun _ => ?_, fun q => absurd c q⟩, fun c2 => ⟨fun _ => ?_, fun q => absurd c q⟩⟩
      · rw [Nat.min_eq_left c2] at key
        exact key
      · rw [Nat.min_eq_right (by omega)] at key
        exact key
    · refine ⟨fun q => absurd q c, fun _ => ?_⟩
      have e3 : nI (zplace r s sky) - nI (s.1 7) = nI (min (zto r (s.1 9) - s.1 7) (zby r sky)) := by
        have e2 : zplace r s sky = s.1 7 + min (zto r (s.1 9) - s.1 7) (zby r sky) := by
          unfold zplace
          split <;> omega
        rw [pk_sub (by omega : s.1 7 ≤ zplace r s sky)]
        congr 1
        omega
      rw [e3] at key
      simp (disch := omega) only [pk_sub, nI_leI]
      refine ⟨fun c2 => ⟨fun q => absurd q c, fun _ => ?_⟩, fun c2 => ⟨fun q => absurd q c, fun _ => ?_⟩⟩
      · rw [Nat.min_eq_left c2] at key
        exact key
      · rw [Nat.min_eq_right (by omega)] at key
        exact key
  unfold wp_X9_sail
  rw [m23]
  simp only [g0]
  refine ⟨fun cg => ?_, fun cg => ?_⟩
  · obtain ⟨l, e4⟩ : ∃ l, s.1 9 = l + 1 := ⟨s.1 9 - 1, by omega⟩
    have eg : gI (s.1 9) = nI l := by rw [e4]; rfl
    have e1 := hm.2.2.2.2.2.2.2.2.2 l (by omega) 1 (by omega)
    have et : zto r (s.1 9) = r.2 1 l := by rw [e4]; rfl
    rw [et] at c24
    rw [eg]
    simp (disch := omega) only [lit32, pk_mul, nI_add, nI_clamp, vp_inN, e1]
    exact ⟨by omega, c24⟩
  · have et : zto r (s.1 9) = 0 := by
      have : s.1 9 = 0 := by omega
      rw [this]
      rfl
    rw [et] at c24
    exact c24
/-- the logs: for nights that are past, and in this night for the lights below i -/
def MLi (r s : Ns) (i : Nat) (w : Vl) : Prop := ∀ l, l < r.1 7 → ∀ d, d < 40 → (d < s.1 12 ∨ (d = s.1 12 ∧ l < i)) → w.2.2.1 29 (40 * l + d) = nI (s.2 4 (d * 9 + l))
theorem ml_step {r s : Ns} {w w' : Vl} {sky h i : Nat} (hr : WfR r) (hL : MLi r s i w) (hi : i < r.1 7) (e : w'.2.2.1 29 = (if 40 ≤ s.1 12 then w.2.2.1 29 else upd (w.2.2.1 29) (40 * i + s.1 12) (nI (zleft r s i (znd r s sky h i))))) : MLi r (zstep 360 r sky h i s) (i + 1) w' := by
  have r7 := hr.1
  have e12 : (zstep 360 r sky h i s).1 12 = s.1 12 := zstep_1 _ _ _ _ _ _ (by decide) (by decide) (by decide)
  have e4 : (zstep 360 r sky h i s).2 4 = if s.1 12 < 40 then va_up (s.2 4) (s.1 12 * 9 + i) (zleft r s i (znd r s sky h i)) else s.2 4 := by
    by_cases hd : zdk r s i sky (znd r s sky h i) = true
    · rw [zstep_dark hd]
      unfold zlog
      rw [zcount_1 _ _ _ _ (by decide) (by decide), zburn_1 _ _ _ _ (by decide)]
      by_cases c : s.1 12 < 40
      · rw [if_pos ⟨c, by omega⟩, if_pos c]
        unfold za
        rw [zw_s, zcount_r]
        simp (disch := omega) only [za_n, zburn_2, zburn_0]
      · rw [if_neg (fun q => c q.1), if_neg c, zcount_r]
        simp (disch := omega) only [za_n, zburn_2]
    · rw [zstep_lit hd]
      unfold zlog
      rw [za_1, zburn_1 _ _ _ _ (by decide)]
      by_cases c : s.1 12 < 40
      · rw [if_pos ⟨c, by omega⟩, if_pos c]
        unfold za
        simp (disch := omega) only [zw_s, zw_n, zburn_2, zburn_0]
      · rw [if_neg (fun q => c q.1), if_neg c]
        simp (disch := omega) only [za_n, zburn_2]
  intro l hl d hd40 hc
  rw [e12] at hc
  rw [e, e4]
  by_cases c : s.1 12 < 40
  · rw [if_neg (by omega), if_pos c]
    by_cases c2 : l = i ∧ d = s.1 12
    · obtain ⟨rfl, rfl⟩ := c2
      rw [upd_a, if_pos rfl, va_up_s]
    · rw [upd_a, if_neg (by omega), va_up_n _ _ (by omega)]
      exact hL l hl d hd40 (by omega)
  · rw [if_pos (by omega), if_neg c]
    exact hL l hl d hd40 (by omega)
theorem m_loop {nl : Nat} {Q : Vl → Prop} {r s : Ns} {sky H B : Nat} (w0 : Vl) (hr : WfR r) (hs : WfS r s 1 0) (hd : s.1 12 ≤ 12900) (hk : sky ≤ 2)
    (hQ : ∀ w', MS r (zeve (zloop nl r sky (zhours r (s.1 12)) s (r.1 7)) sky) H B w' → w'.1 28 = zloopD nl r sky (zhours r (s.1 12)) s (r.1 7) → (nl = 360 → MLi r (zeve (zloop nl r sky (zhours r (s.1 12)) s (r.1 7)) sky) 0 w') → fr [24, 27, 28] [19, 25, 26] [13, 15, 16, 29] [] w0 w' → Q w') :
    ∀ m i w, i + m = r.1 7 → MR r w → MS r (zloop nl r sky (zhours r (s.1 12)) s i) H B w → w.1 28 = zloopD nl r sky (zhours r (s.1 12)) s i → (nl = 360 → MLi r (zloop nl r sky (zhours r (s.1 12)) s i) i w) → fr [24, 27, 28] [19, 25, 26] [13, 15, 16, 29] [] w0 w → wp_X9_dayOf_c76 Q (m + 1) w (nI sky) (nI i)
  | 0, i, w, e, hm, ms, h28, hL, hf => by
    have r7 := hr.1
    obtain rfl : i = r.1 7 := by omega
    have e12 : (zloop nl r sky (zhours r (s.1 12)) s (r.1 7)).1 12 = s.1 12 := zloop_1 _ _ _ _ _ (by decide) (by decide) (by decide) _
    obtain ⟨m17, m18, m19, m20, m21, m22, m23, m24, m25, m26, m27, m30, mrow⟩ := ms
    unfold wp_X9_dayOf_c76
    simp (disch := omega) only [hm.1, nI_leI, forall_eq, sI_1, ↓reduceIte, Nat.reduceEqDiff, m24, nI_1]
    refine ⟨fun _ => hQ _ ?_ ?_ ?_ (fr_I (fr_I hf _ (by decide)) _ (by decide)), fun q => absurd (Nat.le_refl _) q⟩
    · unfold MS zeve
      simp (disch := omega) only [zu_s, zu_n, zu_2, sI_1, sI_2, ↓reduceIte, Nat.reduceEqDiff]
      exact ⟨m17, m18, m19, m20, m21, m22, m23, trivial, m25, m26, trivial, m30, mrow⟩
    · exact h28
    · intro e360 l hl d hd40 hc
      refine hL e360 l hl d hd40 ?_
      unfold zeve at hc
      rw [zu_s] at hc
      omega
  | m + 1, i, w, e, hm, ms, h28, hL, hf => by
    have r7 := hr.1
    have hi : i < r.1 7 := by omega
    have hw := wf_loop (nl := nl) (sky := sky) (h := zhours r (s.1 12)) hr hs i (by omega)
    have e12 : (zloop nl r sky (zhours r (s.1 12)) s i).1 12 = s.1 12 := zloop_1 _ _ _ _ _ (by decide) (by decide) (by decide) _
    unfold wp_X9_dayOf_c76
    simp (disch := omega) only [hm.1, nI_leI, forall_eq, nI_1]
    refine ⟨fun q => absurd q (by omega), fun _ => ?_⟩
    refine m_burn (nl := nl) hr hm hw ms (by omega) hi hk ?_
    rw [e12]
    intro w' ms' f' h28' h29'
    have f2 : fr [24, 27, 28] [19, 25, 26] [13, 15, 16, 29] [] w w' := fr_m f' (by decide) (by decide) (by decide) (by decide)
    refine m_loop w0 hr hs hd hk hQ m (i + 1) w' (by omega) (MR_fr hm f' (by decide) (by decide)) ms' ?_ ?_ (fr_t hf f2)
    · rw [h28', h28]
      rfl
    · intro e360
      subst e360
      refine ml_step hr (hL rfl) hi ?_
      rw [e12]
      exact h29'
theorem m_dayOf {nl : Nat} {w : Vl} {Q : Vl → Prop} {r s : Ns} {sky H B : Nat} (hr : WfR r) (hm : MR r w) (hs : WfS r s 0 0) (ms : MS r s H B w) (hL : nl = 360 → MLi r s 0 w) (hd : s.1 12 ≤ 12900) (hk : sky ≤ 2)
    (hQ : ∀ w', MS r (zday nl r s sky) H B w' → w'.1 28 = zdayD nl r s sky → (nl = 360 → MLi r (zday nl r s sky) 0 w') → fr [18, 21, 22, 24, 27, 28] [17, 19, 20, 25, 26] [13, 15, 16, 29] [] w w' → Q w') : wp_X9_dayOf w (nI sky) Q := by
  have we := wf_eggs hr hs
  have w2 := wf_morn (sky := sky) hr hs
  have e12 : (zmorn r s sky).1 12 = s.1 12 := zmorn_12 r s sky
  have e1 : (zeggs r s).1 12 = s.1 12 := zeggs_1 _ _ (by decide) (by decide) (by decide)
  have hm' := hm
  obtain ⟨n0, n2, n3, n4, n5, n6, n7, n8, n9, nl'⟩ := hm'
  have hr' := hr
  obtain ⟨r7, r8, r8', r9, r9', r10, r11, r12, r12', r13, r13', _, _, _, rl⟩ := hr'
  obtain ⟨s7, s8, s6, s9, s13, s16, s5, s15, s10, s11, s14, sl⟩ := hs
  obtain ⟨m17, m18, m19, m20, m21, m22, m23, m24, m25, m26, m27, m30, mrow⟩ := ms
  have hq : (s.1 6 + r.1 11) / r.1 12 ≤ 200 := Nat.le_trans (Nat.div_le_self _ _) (by omega)
  have i6 : ¬ r.1 12 = 0 := by omega
  unfold wp_X9_dayOf
  simp (disch := omega) only [forall_eq, m18, n5, n6, nI_add, sI_1, sI_2, sJ_1, sJ_2, ↓reduceIte, Nat.reduceEqDiff, lit32, nI_eq, pk_div, pk_rem2, nI_l, m17, m20, lN_add]
  refine ⟨i6, i6, i6, ?_⟩
  obtain ⟨v4, ev⟩ : ∃ v4, v4 = setI (setJ (setJ (setI w 18 (nI (s.1 6 + r.1 11))) 17 (lN (s.1 5 + (s.1 6 + r.1 11) / r.1 12))) 20 (lN (s.1 15 + (s.1 6 + r.1 11) / r.1 12))) 18 (nI ((s.1 6 + r.1 11) % r.1 12)) := ⟨_, rfl⟩
  rw [← ev]
  have f1 : fr [18, 21, 22, 24, 27, 28] [17, 19, 20, 25, 26] [13, 15, 16, 29] [] w v4 := by
    rw [ev]
    exact fr_I (fr_J (fr_J (fr_I (fr_r w) _ (by decide)) _ (by decide)) _ (by decide)) _ (by decide)
  have ms1 : MS r (zeggs r s) H B v4 := by
    rw [ev]
    unfold MS zeggs
    simp (disch := omega) only [zu_s, zu_n, zu_2, sI_1, sI_2, sJ_1, sJ_2, sJ_3, ↓reduceIte, Nat.reduceEqDiff]
    exact ⟨trivial, trivial, m19, trivial, m21, m22, m23, m24, m25, m26, m27, m30, mrow⟩
  have hm1 := MR_fr hm f1 (by decide) (by decide)
  refine m_sail hr hm1 we ms1 (by omega) hk ?_
  intro u ms2 f2
  have f2' : fr [18, 21, 22, 24, 27, 28] [17, 19, 20, 25, 26] [13, 15, 16, 29] [] v4 u := fr_m f2 (by decide) (by decide) (by decide) (by decide)
  have f3 : fr [18, 21, 22, 24, 27, 28] [17, 19, 20, 25, 26] [13, 15, 16, 29] [] w (setI u 28 (nI 0)) := fr_I (fr_t f1 f2') _ (by decide)
  have ms3 : MS r (zmorn r s sky) H B (setI u 28 (nI 0)) := MS_fr (LI := [28]) (LJ := []) (LA := []) (LB := []) ms2 (fr_I (fr_r u) _ (by decide)) (by decide) (by decide) (by decide)
  refine ⟨r.1 7 + 1, ?_⟩
  refine m_loop (nl := nl) (s := zmorn r s sky) (H := H) (B := B) (setI u 28 (nI 0)) hr w2 (by omega) hk ?_ (r.1 7) 0 _ (by omega) (MR_fr hm f3 (by decide) (by decide)) ms3 rfl ?_ (fr_r _)
  · rw [e12]
    intro w' q1 q2 q3 q4
    exact hQ w' q1 q2 q3 (fr_t f3 (fr_m q4 (by decide) (by decide) (by decide) (by decide)))
  · intro e360 l hl d hd40 hc
    have e4 : (zmorn r s sky).2 4 = s.2 4 := by
      unfold zmorn
      rw [zsail_2 _ _ _ (by decide), zeggs_2]
    have e29 : (setI u 28 (nI 0)).2.2.1 29 = w.2.2.1 29 := by
      rw [sI_2, f2.2.2.1 29 (by decide), ev]
      rfl
    have hc' : d < (zmorn r s sky).1 12 ∨ (d = (zmorn r s sky).1 12 ∧ l < 0) := hc
    show (setI u 28 (nI 0)).2.2.1 29 (40 * l + d) = nI ((zmorn r s sky).2 4 (d * 9 + l))
    rw [e29, e4]
    exact hL e360 l hl d hd40 (by omega)
