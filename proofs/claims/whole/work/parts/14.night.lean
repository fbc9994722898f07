/-! ===== THE CLASS'S NIGHT ===== -/
theorem q_isTooLittle {nl : Nat} {r s : Ns} {l nd : Nat} {Q : Int32 → Vl → Prop} (hl : l < 9) (hk : r.2 0 l ≤ 4) (h0 : s.2 0 l ≤ 999) (hn : nd ≤ 999) (h14 : s.1 14 < 2 ^ 30) (h : Q (if s.2 0 l < nd then 1 else 0) (encS (zburn r s l nd))) : wp_X6_isTooLittle nl (encS s) (encG r) (nI l) (nI nd) Q := by
  have e0 : s.2 0 l - min (s.2 0 l) nd = s.2 0 l - nd := by omega
  have e1 : zleak r l (s.2 0 l - nd) ≤ s.2 0 l - nd := by
    unfold zleak
    split <;> omega
  have e2 : s.2 0 l - nd - zleak r l (s.2 0 l - nd) = zleft r s l nd := rfl
  have e3 := zleft_le r s l nd
  unfold wp_X6_isTooLittle
  simp (disch := omega) only [forall_eq, encG_1, encS_1, encG_r, encS_r, w_at, w_put, jat_row, i_min, pk_sub, e0, w_X3_leakOf]
  rw [e2]
  simp (disch := omega) only [encS_setI, encS_r, zu_2, jput_row, encS_setRA, pk_sub, nI_add, nI_leI]
  rw [br_i]
  unfold zburn za at h
  rw [zu_2] at h
  by_cases c : nd ≤ s.2 0 l
  · rw [if_pos c]
    rw [if_neg (by omega)] at h
    exact h
  · rw [if_neg c]
    rw [if_pos (by omega)] at h
    exact h
theorem q_countDark {nl : Nat} {r s : Ns} {l sky : Nat} {Q : Vl → Prop} (hl : l < 9) (hk : sky ≤ 2) (h4 : r.2 4 l ≤ 99) (h2 : s.2 2 l < 2 ^ 30) (h3 : s.2 3 l < 2 ^ 30) (h : Q (encS (zcount r s l sky))) : wp_X6_countDark nl (encS s) (encG r) (nI l) (nI sky) Q := by
  have key : ∀ t : Ns, Q (encS (zu t 10 (t.1 10 + r.2 4 l * (if sky = 1 then 2 else 1)))) → wp_X6_countDark_c56 nl (encG r) Q (encS t) (nI l) (nI sky) := by
    intro t ht
    unfold wp_X6_countDark_c56
    simp (disch := omega) only [forall_eq, encG_r, w_at, jat_row, lit32, pk_mul, encS_1, nI_add, encS_setI, nI_eq]
    by_cases c : sky = 1
    · rw [if_pos c] at ht
      exact ⟨fun q => absurd c q, fun _ => ht⟩
    · rw [if_neg c] at ht
      exact ⟨fun _ => ht, fun q => absurd q c⟩
  unfold wp_X6_countDark
  simp (disch := omega) only [forall_eq, encS_1, encG_r, encS_r, w_at, w_put, jat_row, jput_row, lit32, nI_add, encS_setRA, encS_setI, zw_n, zw_1, nI_ltI]
  unfold zcount za at h
  simp (disch := omega) only [zw_n, zw_1, zu_s, zu_n, zu_2] at h
  by_cases c : s.2 2 l + 1 < 2
  · rw [if_pos c] at h
    exact ⟨fun _ => key _ h, fun q => absurd c q⟩
  · rw [if_neg c] at h
    exact ⟨fun q => absurd q c, fun _ => key _ h⟩
theorem w_X6_pageOf {l d : Nat} {Q : Int32 → Prop} (hl : l < 9) (hd : d < 2 ^ 31) : wp_X6_pageOf (nI l) (nI d) Q ↔ Q (if d < 40 then nI (d * 9 + l) else -1) := by
  unfold wp_X6_pageOf
  have e0 : ¬ nI d < 0 := nI_pos hd
  simp only [e0]
  simp (disch := omega) only [lit32, nI_leI, pk_mul, nI_add]
  by_cases c : d < 40
  · have : ¬ 40 ≤ d := by omega
    simp [c, this]
  · have : 40 ≤ d := by omega
    simp [c, this]
theorem q_live_c115 {nl : Nat} {r s : Ns} {Q : Int32 → Vl → Prop} {B : Vl → Int32 → Int32 → Int32 → Int32 → Prop} {y2 y3 y4 : Int32} {l : Nat} (hl : l < 9) (hd : s.1 12 ≤ 12900) (hn : nl ≤ 360) (h : B (encS (zlog nl s l)) y2 y3 y4 (nI (l + 1))) : wp_X6_live_c115 nl (encG r) Q B (encS s) y2 y3 y4 (nI l) := by
  unfold wp_X6_live_c115
  simp (disch := omega) only [forall_eq, encS_1, encS_r, w_X6_pageOf, w_at, w_put, jat_row, nI_1]
  unfold zlog at h
  by_cases c : s.1 12 < 40
  · rw [if_pos c]
    by_cases c2 : s.1 12 * 9 + l < nl
    · rw [if_pos ⟨c, c2⟩] at h
      rw [jput_row _ _ c2 (by omega), encS_setRA]
      exact h
    · rw [if_neg (fun q => c2 q.2)] at h
      rw [jput_out _ _ (by omega) (by omega), encS_setRA, zw_self]
      exact h
  · rw [if_neg c]
    rw [if_neg (fun q => c q.1)] at h
    rw [jput_m1, encS_setRA, zw_self]
    exact h
theorem znd_le {r s : Ns} {sky h l : Nat} (hb : r.2 2 l ≤ 99) (hh : h ≤ 24) : znd r s sky h l ≤ 474 := by
  have e := (zneed0_le (h := h) hb hh).1
  unfold znd zneed
  split
  · omega
  · split
    · omega
    · split <;> omega
theorem q_live_step {nl : Nat} {r s : Ns} {Q : Int32 → Vl → Prop} {B : Vl → Int32 → Int32 → Int32 → Int32 → Prop} {sky h i : Nat} {dk : Int32} (hr : WfR r) (hs : WfS r s 1 i) (hd : s.1 12 ≤ 12900) (hi : i < r.1 7) (hk : sky ≤ 2) (hh : h ≤ 24) (hn : nl ≤ 360)
    (hB : B (encS (zstep nl r sky h i s)) (nI sky) (nI h) (if zdk r s i sky (znd r s sky h i) = true then dk ||| (1 <<< (nI i &&& 31)) else dk) (nI (i + 1))) : wp_X6_live_c58 nl (encG r) Q B (encS s) (nI sky) (nI h) dk (nI i) (nI (s.2 1 i)) (nI sky) (nI h) (nI i) := by
  have r7 := hr.1
  obtain ⟨k0, k1, k2, k3, k4⟩ := hr.2.2.2.2.2.2.2.2.2.2.2.2.2.2 i hi
  obtain ⟨s7, s8, s6, s9, s13, s16, s5, s15, s10, s11, s14, sl⟩ := hs
  obtain ⟨l0, l1, l2, l3⟩ := sl i hi
  rw [if_neg (Nat.lt_irrefl i)] at l2 l3
  have hnd := znd_le (s := s) (sky := sky) (h := h) (l := i) k2 hh
  have e0 : zneed r i h sky (s.2 1 i) = znd r s sky h i := rfl
  unfold wp_X6_live_c58
  rw [w_X3_needOf (by omega) k0 k2 hh hk l1, e0]
  refine q_isTooLittle (by omega) k0 (by omega) (by omega) (by omega) ?_
  have dark : zdk r s i sky (znd r s sky h i) = true → wp_X6_live_c85 nl (encG r) Q B (encS (zburn r s i (znd r s sky h i))) (nI sky) (nI h) dk (nI i) := by
    intro hdk
    rw [if_pos hdk, zstep_dark hdk] at hB
    unfold wp_X6_live_c85
    simp only [forall_eq]
    refine q_countDark (by omega) hk k4 ?_ ?_ ?_
    · rw [zburn_2 _ _ _ _ (by decide)]; omega
    · rw [zburn_2 _ _ _ _ (by decide)]; omega
    · refine q_live_c115 (by omega) ?_ hn hB
      rw [zcount_1 _ _ _ _ (by decide) (by decide), zburn_1 _ _ _ _ (by decide)]
      exact hd
  by_cases c : s.2 0 i < znd r s sky h i
  · rw [if_pos c]
    exact ⟨fun _ => dark (decide_eq_true (Or.inl c)), fun q => absurd q (by decide)⟩
  · rw [if_neg c]
    refine ⟨fun q => absurd rfl q, fun _ => ?_⟩
    rw [w_X3_isDarkBySky (by omega) k0 hk]
    by_cases c2 : zout r i sky = 1
    · rw [c2]
      exact ⟨fun q => absurd q (by decide), fun _ => dark (decide_eq_true (Or.inr c2))⟩
    · have c3 : zout r i sky = 0 := by
        unfold zout at c2 ⊢
        split
        · rename_i q; rw [if_pos q] at c2; exact absurd rfl c2
        · rfl
      have hdk : ¬ zdk r s i sky (znd r s sky h i) = true := fun q => (of_decide_eq_true q).elim c c2
      rw [if_neg hdk, zstep_lit hdk] at hB
      rw [c3]
      refine ⟨fun _ => ?_, fun q => absurd rfl q⟩
      simp (disch := omega) only [encS_r, w_put, lit32, jput_row, forall_eq, encS_setRA]
      refine q_live_c115 (by omega) ?_ hn hB
      rw [zw_1, zburn_1 _ _ _ _ (by decide)]
      exact hd
theorem q_live_loop {nl : Nat} {r s : Ns} {Q : Int32 → Vl → Prop} {sky h : Nat} (hr : WfR r) (hs : WfS r s 1 0) (hd : s.1 12 ≤ 12900) (hk : sky ≤ 2) (hh : h ≤ 24) (hn : nl ≤ 360)
    (hQ : Q (zloopD nl r sky h s (r.1 7)) (encS (zeve (zloop nl r sky h s (r.1 7)) sky))) : ∀ m i, i + m = r.1 7 → wp_X6_live_c26 nl (encG r) Q (m + 1) (encS (zloop nl r sky h s i)) (nI sky) (nI h) (zloopD nl r sky h s i) (nI i)
  | 0, i, e => by
    have r7 := hr.1
    obtain rfl : i = r.1 7 := by omega
    unfold wp_X6_live_c26
    simp (disch := omega) only [forall_eq, encG_1, nI_leI, encS_setI, encS_1, zu_s, zu_n, lit32, nI_add]
    refine ⟨fun _ => ?_, fun q => absurd (Nat.le_refl _) q⟩
    unfold zeve at hQ
    exact hQ
  | m + 1, i, e => by
    have r7 := hr.1
    have hi : i < r.1 7 := by omega
    have hw := wf_loop (nl := nl) (sky := sky) (h := h) hr hs i (by omega)
    have hd' : (zloop nl r sky h s i).1 12 ≤ 12900 := by rw [zloop_1 _ _ _ _ _ (by decide) (by decide) (by decide)]; exact hd
    have l1 := (hw.2.2.2.2.2.2.2.2.2.2.2 i hi).2.1
    have IH := q_live_loop hr hs hd hk hh hn hQ m (i + 1) (by omega)
    have st := q_live_step (Q := Q) (dk := zloopD nl r sky h s i) hr hw hd' hi hk hh hn IH
    unfold wp_X6_live_c26
    simp (disch := omega) only [encG_1, nI_leI, encS_r, w_at, jat_row]
    refine ⟨fun q => absurd q (by omega), fun _ => ?_⟩
    by_cases c : (zloop nl r sky h s i).2 1 i = 1
    · rw [c] at st ⊢
      exact ⟨fun q => absurd rfl q, fun _ => st⟩
    · have c0 : (zloop nl r sky h s i).2 1 i = 0 := by omega
      rw [c0] at st ⊢
      exact ⟨fun _ => st, fun q => absurd q (by decide)⟩
theorem zhours_le {r : Ns} (hr : WfR r) (d : Nat) : zhours r d ≤ 24 := hr.2.2.2.2.2.2.2.2.2.2.2.1 _ (Nat.mod_lt _ hr.2.2.2.2.2.2.2.2.2.1)
theorem q_live {nl : Nat} {r s : Ns} {Q : Int32 → Vl → Prop} {sky : Nat} (hr : WfR r) (hs : WfS r s 0 0) (hd : s.1 12 ≤ 12900) (hk : sky ≤ 2) (hn : nl ≤ 360) (h : Q (zdayD nl r s sky) (encS (zday nl r s sky))) : wp_X6_live nl (encS s) (encG r) (nI sky) Q := by
  unfold wp_X6_live
  refine q_layEggs hr hs hd ?_
  have w1 := wf_eggs hr hs
  have e1 : (zeggs r s).1 12 = s.1 12 := zeggs_1 _ _ (by decide) (by decide) (by decide)
  refine q_sail hr w1 (by omega) hk ?_
  have w2 := wf_sail hr w1 sky
  have e2 : (zsail r (zeggs r s) sky).1 12 = s.1 12 := by rw [zsail_1 _ _ _ (by decide) (by decide) (by decide), e1]
  rw [encS_1 _ (by decide) (by decide), e2, w_X3_hoursOf hr (by omega)]
  exact ⟨r.1 7 + 1, q_live_loop hr w2 (by omega) hk (zhours_le hr _) hn h (r.1 7) 0 (by omega)⟩
