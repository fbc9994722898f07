/-! ===== THE CLASS'S DAY ===== -/
theorem pk_rem2 {a d : Nat} (ha : a < 2 ^ 31) (h0 : 0 < d) (hd : d < 2 ^ 31) : nI a - nI (a / d) * nI d = nI (a % d) := by
  rw [← pk_div ha h0 hd, pk_rem ha h0 hd]
theorem pk_rem3 {a d : Nat} (ha : a < 2 ^ 31) (h0 : 0 < d) (hd : d < 2 ^ 31) : nI a - nI (a / d * d) = nI (a % d) := by
  rw [← pk_mul, pk_rem2 ha h0 hd]
theorem q_layEggs {nl : Nat} {r s : Ns} {Q : Vl → Prop} (hr : WfR r) (hs : WfS r s 0 0) (hd : s.1 12 ≤ 12900) (h : Q (encS (zeggs r s))) : wp_X6_layEggs nl (encS s) (encG r) Q := by
  obtain ⟨r7, r8, r8', r9, r9', r10, r11, r12, r12', r13, r13', _, _, _, rl⟩ := hr
  obtain ⟨s7, s8, s6, s9, s13, s16, s5, s15, s10, s11, s14, sl⟩ := hs
  have hq : (s.1 6 + r.1 11) / r.1 12 ≤ 200 := Nat.le_trans (Nat.div_le_self _ _) (by omega)
  unfold wp_X6_layEggs
  simp (disch := omega) only [forall_eq, encG_1, encS_1, nI_add, encS_setI, zu_s, zu_n, pk_div, pk_rem2, lit32, nI_leI, nI_eq, zu_uu]
  have e1 : ¬ r.1 12 ≤ 0 := by omega
  have e2 : ¬ r.1 12 = 0 := by omega
  simp only [e1, e2, not_false_eq_true, true_and, forall_const, false_implies]
  exact h
theorem q_takeOil {nl : Nat} {r s : Ns} {w : Nat} {Q : Int32 → Vl → Prop} (h5 : s.1 5 < 2 ^ 31) (h8 : s.1 8 ≤ r.1 9) (h9 : r.1 9 < 2 ^ 31) (hw : w < 2 ^ 31) (h : Q (nI (ztake r s w)) (encS (ztakeOil r s w))) : wp_X6_takeOil nl (encS s) (encG r) (nI w) Q := by
  have e1 : ztake r s w ≤ s.1 5 := Nat.le_trans (Nat.min_le_right _ _) (Nat.min_le_left _ _)
  have e2 : min (s.1 5) (r.1 9 - s.1 8) < 2 ^ 31 := by omega
  unfold wp_X6_takeOil
  simp (disch := omega) only [forall_eq, encG_1, encS_1, pk_sub, i_min]
  have e : nI (min w (min (s.1 5) (r.1 9 - s.1 8))) = nI (ztake r s w) := rfl
  rw [e]
  simp (disch := omega) only [encG_1, encS_1, pk_sub, encS_setI, zu_s, zu_n, nI_add]
  exact h
theorem q_fillLight {nl : Nat} {r s : Ns} {l : Nat} {Q : Vl → Prop} (hl : l < 9) (h8 : s.1 8 < 2 ^ 31) (h3 : r.2 3 l ≤ 999) (h0 : s.2 0 l ≤ r.2 3 l) (h : Q (encS (zfill r s l))) : wp_X6_fillLight nl (encS s) (encG r) (nI l) Q := by
  have e1 : zgive r s l ≤ s.1 8 := Nat.min_le_left _ _
  unfold wp_X6_fillLight
  simp (disch := omega) only [forall_eq, encG_1, encS_1, encG_r, encS_r, w_at, w_put, jat_row, pk_sub, i_min]
  have e : nI (min (s.1 8) (r.2 3 l - s.2 0 l)) = nI (zgive r s l) := rfl
  rw [e]
  simp (disch := omega) only [forall_eq, encG_1, encS_1, encG_r, encS_r, w_at, w_put, jat_row, jput_row, pk_sub, encS_setI, encS_setRA, zu_s, zu_n, zu_2, nI_add]
  exact h
theorem zto_le {r : Ns} (hr : WfR r) {g : Nat} (hg : g ≤ r.1 7) : zto r g ≤ 99 := by
  cases g with
  | zero => exact Nat.zero_le _
  | succ l => exact (hr.2.2.2.2.2.2.2.2.2.2.2.2.2.2 l (by omega)).2.1
theorem zby_le {r : Ns} (hr : WfR r) (sky : Nat) : zby r sky ≤ 99 := by
  have := hr.2.2.1
  unfold zby
  split
  · exact this
  · split <;> omega
theorem zplace_le {r s : Ns} (hr : WfR r) (hg : s.1 9 ≤ r.1 7) (h7 : s.1 7 ≤ 99) (sky : Nat) : zplace r s sky ≤ 99 := by
  have := zto_le hr hg
  unfold zplace
  split <;> omega
theorem i_abs {a b : Nat} (ha : a < 2 ^ 30) (hb : b < 2 ^ 30) : (if 0 ≤ nI a - nI b then nI a - nI b else 0 - (nI a - nI b)) = nI (if b ≤ a then a - b else b - a) := by
  by_cases h : b ≤ a
  · have e := pk_sub h
    rw [e, if_pos (nI_pos' (by omega)), if_pos h]
  · have e := pk_sneg hb (by omega : a < b)
    rw [if_neg (fun c => by rw [Int32.le_iff_toInt_le] at c; rw [Int32.lt_iff_toInt_lt] at e; omega), if_neg h]
    have e2 : (0 : Int32) - (nI a - nI b) = nI b - nI a := by
      rw [Int32.sub_eq_add_neg, Int32.neg_sub, Int32.zero_add]
    rw [e2, pk_sub (by omega)]
theorem q_sail {nl : Nat} {r s : Ns} {sky : Nat} {Q : Vl → Prop} (hr : WfR r) (hs : WfS r s 1 0) (hd : s.1 12 ≤ 12900) (hk : sky ≤ 2) (h : Q (encS (zsail r s sky))) : wp_X6_sail nl (encS s) (encG r) (nI sky) Q := by
  have hp := zplace_le hr hs.2.2.2.1 hs.1 sky
  have ht := zto_le hr hs.2.2.2.1
  have hb := zby_le hr sky
  obtain ⟨r7, r8, r8', r9, r9', r10, r11, r12, r12', r13, r13', _, _, _, rl⟩ := hr
  obtain ⟨s7, s8, s6, s9, s13, s16, s5, s15, s10, s11, s14, sl⟩ := hs
  have key : wp_X6_sail_c45 nl (encG r) Q (encS s) (nI (zplace r s sky) - nI (s.1 7)) (nI (s.1 7)) := by
    unfold wp_X6_sail_c45
    have e : nI (s.1 7) + (nI (zplace r s sky) - nI (s.1 7)) = nI (zplace r s sky) := by
      rw [Int32.add_comm, Int32.sub_add_cancel]
    simp only [forall_eq, e]
    simp (disch := omega) only [encS_setI, encS_9, encS_1, w_X3_milesTo, zu_s, zu_n, nI_eq, encG_1]
    rw [br_i]
    unfold zsail at h
    split
    · rename_i e1
      rw [if_pos e1] at h
      have e2 := gI_eq0 (g := s.1 9) (by omega)
      rw [br_n]
      by_cases e3 : s.1 9 = 0
      · rw [if_pos (e2.mpr e3)]
        rw [e3] at h
        refine q_takeOil ?_ ?_ ?_ ?_ h <;> (try simp (disch := omega) only [zu_n]) <;> omega
      · rw [if_neg (fun c => e3 (e2.mp c))]
        obtain ⟨l, e4⟩ : ∃ l, s.1 9 = l + 1 := ⟨s.1 9 - 1, by omega⟩
        rw [e4] at h
        rw [e4]
        have := rl l (by omega)
        have := sl l (by omega)
        refine q_fillLight (by omega) ?_ ?_ ?_ h <;> (try simp (disch := omega) only [zu_n, zu_2]) <;> omega
    · rename_i e1
      rw [if_neg e1] at h
      exact h
  unfold wp_X6_sail
  simp (disch := omega) only [forall_eq, encS_9, encS_1, w_X3_milesTo, w_X3_milesBy]
  simp (disch := omega) only [i_abs]
  by_cases c : s.1 7 ≤ zto r (s.1 9)
  · have e1 : (0 : Int32) ≤ nI (zto r (s.1 9)) - nI (s.1 7) := by rw [pk_sub c]; exact nI_pos' (by omega)
    have e2 : zplace r s sky = s.1 7 + min (zto r (s.1 9) - s.1 7) (zby r sky) := if_pos c
    rw [if_pos c]
    simp (disch := omega) only [i_min]
    refine ⟨fun _ => ?_, fun q => absurd e1 q⟩
    have e3 : nI (zplace r s sky) - nI (s.1 7) = nI (min (zto r (s.1 9) - s.1 7) (zby r sky)) := by
      rw [pk_sub (by omega), e2]
      congr 1
      omega
    rw [e3] at key
    exact key
  · have e1 : ¬ (0 : Int32) ≤ nI (zto r (s.1 9)) - nI (s.1 7) := by
      have e := pk_sneg (a := zto r (s.1 9)) (b := s.1 7) (by omega) (by omega)
      intro c
      rw [Int32.le_iff_toInt_le] at c
      rw [Int32.lt_iff_toInt_lt] at e
      omega
    have e2 : zplace r s sky = s.1 7 - min (s.1 7 - zto r (s.1 9)) (zby r sky) := if_neg c
    rw [if_neg c]
    simp (disch := omega) only [i_min]
    refine ⟨fun q => absurd q e1, fun _ => ?_⟩
    have e3 : nI (zplace r s sky) - nI (s.1 7) = - nI (min (s.1 7 - zto r (s.1 9)) (zby r sky)) := by
      rw [← Int32.neg_sub, pk_sub (by omega : zplace r s sky ≤ s.1 7)]
      congr 2
      omega
    rw [e3] at key
    exact key
theorem wf_eggs {r s : Ns} (hr : WfR r) (hs : WfS r s 0 0) : WfS r (zeggs r s) 1 0 := by
  obtain ⟨r7, r8, r8', r9, r9', r10, r11, r12, r12', r13, r13', _, _, _, rl⟩ := hr
  obtain ⟨s7, s8, s6, s9, s13, s16, s5, s15, s10, s11, s14, sl⟩ := hs
  have hq : (s.1 6 + r.1 11) / r.1 12 ≤ 200 := Nat.le_trans (Nat.div_le_self _ _) (by omega)
  have hm : (s.1 6 + r.1 11) % r.1 12 < r.1 12 := Nat.mod_lt _ (by omega)
  unfold WfS zeggs
  simp (disch := omega) only [zu_s, zu_n, zu_2]
  refine ⟨s7, s8, hm, s9, s13, s16, by omega, by omega, s10, s11, s14, sl⟩
theorem zeggs_1 (r s : Ns) {k : Nat} (h5 : k ≠ 5) (h6 : k ≠ 6) (h15 : k ≠ 15) : (zeggs r s).1 k = s.1 k := by
  unfold zeggs
  rw [zu_n _ _ h15, zu_n _ _ h5, zu_n _ _ h6]
theorem zeggs_2 (r s : Ns) : (zeggs r s).2 = s.2 := rfl
theorem zsail_1 (r s : Ns) (sky : Nat) {k : Nat} (h5 : k ≠ 5) (h7 : k ≠ 7) (h8 : k ≠ 8) : (zsail r s sky).1 k = s.1 k := by
  unfold zsail
  split
  · cases s.1 9 with
    | zero => show (ztakeOil _ _ _).1 k = _; unfold ztakeOil; rw [zu_n _ _ h8, zu_n _ _ h5, zu_n _ _ h7]
    | succ l => show (zfill _ _ _).1 k = _; unfold zfill; rw [za_1, zu_n _ _ h8, zu_n _ _ h7]
  · rw [zu_n _ _ h7]
theorem zsail_2 (r s : Ns) (sky : Nat) {k : Nat} (h0 : k ≠ 0) : (zsail r s sky).2 k = s.2 k := by
  unfold zsail
  split
  · cases s.1 9 with
    | zero => rfl
    | succ l => show (zfill _ _ _).2 k = _; unfold zfill; rw [za_n _ _ _ h0]; rfl
  · rfl
theorem wf_sail {r s : Ns} (hr : WfR r) (hs : WfS r s 1 0) (sky : Nat) : WfS r (zsail r s sky) 1 0 := by
  have hp := zplace_le hr hs.2.2.2.1 hs.1 sky
  obtain ⟨s7, s8, s6, s9, s13, s16, s5, s15, s10, s11, s14, sl⟩ := hs
  have key : (zsail r s sky).1 7 ≤ 99 ∧ (zsail r s sky).1 8 ≤ r.1 9 ∧ (zsail r s sky).1 5 ≤ s.1 5 ∧ ∀ l, l < r.1 7 → (zsail r s sky).2 0 l ≤ r.2 3 l := by
    unfold zsail
    split
    · cases e : s.1 9 with
      | zero =>
        have e1 : ztake r (zu s 7 (zplace r s sky)) (r.1 9) ≤ r.1 9 - s.1 8 := by
          unfold ztake
          simp (disch := omega) only [zu_n]
          omega
        show (ztakeOil _ _ _).1 7 ≤ 99 ∧ (ztakeOil _ _ _).1 8 ≤ r.1 9 ∧ (ztakeOil _ _ _).1 5 ≤ s.1 5 ∧ _
        unfold ztakeOil
        simp (disch := omega) only [zu_s, zu_n]
        exact ⟨hp, by omega, by omega, fun l hl => (sl l hl).1⟩
      | succ l =>
        have e1 : zgive r (zu s 7 (zplace r s sky)) l ≤ r.2 3 l - s.2 0 l := Nat.min_le_right _ _
        have e2 := (sl l (by omega)).1
        show (zfill _ _ _).1 7 ≤ 99 ∧ (zfill _ _ _).1 8 ≤ r.1 9 ∧ (zfill _ _ _).1 5 ≤ s.1 5 ∧ _
        unfold zfill
        simp (disch := omega) only [za_1, zu_s, zu_n, zu_2]
        refine ⟨hp, by omega, Nat.le_refl _, fun l' hl' => ?_⟩
        show (zfill r (zu s 7 (zplace r s sky)) l).2 0 l' ≤ _
        unfold zfill
        by_cases c : l' = l
        · subst c
          rw [za_s, zu_2]
          omega
        · rw [za_r _ _ _ _ c, zu_2, zu_2]
          exact (sl l' hl').1
    · simp (disch := omega) only [zu_s, zu_n, zu_2]
      exact ⟨hp, s8, Nat.le_refl _, fun l hl => (sl l hl).1⟩
  obtain ⟨k7, k8, k5, k0⟩ := key
  unfold WfS
  simp (disch := omega) only [zsail_1, zsail_2]
  exact ⟨k7, k8, s6, s9, s13, s16, by omega, s15, s10, s11, s14, fun l hl => ⟨k0 l hl, (sl l hl).2⟩⟩
theorem zleft_le (r s : Ns) (l nd : Nat) : zleft r s l nd ≤ s.2 0 l := Nat.le_trans (Nat.sub_le _ _) (Nat.sub_le _ _)
theorem zburn_1 (r s : Ns) (l nd : Nat) {k : Nat} (h : k ≠ 14) : (zburn r s l nd).1 k = s.1 k := by unfold zburn; rw [za_1, zu_n _ _ h]
theorem zburn_14 (r s : Ns) (l nd : Nat) : (zburn r s l nd).1 14 = s.1 14 + (s.2 0 l - zleft r s l nd) := by unfold zburn; rw [za_1, zu_s]
theorem zburn_2 (r s : Ns) (l nd : Nat) {k : Nat} (h : k ≠ 0) : (zburn r s l nd).2 k = s.2 k := by unfold zburn; rw [za_n _ _ _ h, zu_2]
theorem zburn_0 (r s : Ns) (l nd : Nat) : (zburn r s l nd).2 0 l = zleft r s l nd := by unfold zburn; rw [za_s]
theorem zburn_0n (r s : Ns) (l nd : Nat) {j : Nat} (h : j ≠ l) : (zburn r s l nd).2 0 j = s.2 0 j := by unfold zburn; rw [za_r _ _ _ _ h, zu_2]
theorem zcount_1 (r s : Ns) (l sky : Nat) {k : Nat} (h : k ≠ 10) (h' : k ≠ 11) : (zcount r s l sky).1 k = s.1 k := by
  unfold zcount
  split
  · rw [zu_n _ _ h]; rfl
  · rw [zu_n _ _ h, zu_n _ _ h']; rfl
theorem zcount_10 (r s : Ns) (l sky : Nat) : (zcount r s l sky).1 10 = s.1 10 + r.2 4 l * (if sky = 1 then 2 else 1) := by
  unfold zcount
  split
  · rw [zu_s]
  · rw [zu_s]
theorem zcount_11 (r s : Ns) (l sky : Nat) : (zcount r s l sky).1 11 = s.1 11 + (if s.2 2 l + 1 < 2 then 0 else 1) := by
  unfold zcount
  split
  · rw [zu_n _ _ (by decide)]; rfl
  · rw [zu_n _ _ (by decide), zu_s]
theorem zcount_r (r s : Ns) (l sky : Nat) : (zcount r s l sky).2 = (za (za s 2 l (s.2 2 l + 1)) 3 l (s.2 3 l + 1)).2 := by
  unfold zcount
  split <;> rfl
theorem zlog_1 (nl : Nat) (s : Ns) (l : Nat) : (zlog nl s l).1 = s.1 := by
  unfold zlog
  split <;> rfl
theorem zlog_2 (nl : Nat) (s : Ns) (l : Nat) {k : Nat} (h : k ≠ 4) : (zlog nl s l).2 k = s.2 k := by
  unfold zlog
  split
  · rw [za_n _ _ _ h]
  · rfl
/-- what one light's night leaves, field by field -/
theorem zstep_dark {nl : Nat} {r s : Ns} {sky h l : Nat} (hd : zdk r s l sky (znd r s sky h l) = true) : zstep nl r sky h l s = zlog nl (zcount r (zburn r s l (znd r s sky h l)) l sky) l := by
  unfold zstep
  rw [if_pos hd]
theorem zstep_lit {nl : Nat} {r s : Ns} {sky h l : Nat} (hd : ¬ zdk r s l sky (znd r s sky h l) = true) : zstep nl r sky h l s = zlog nl (za (zburn r s l (znd r s sky h l)) 2 l 0) l := by
  unfold zstep
  rw [if_neg hd]
theorem wf_step {nl : Nat} {r s : Ns} {sky h i : Nat} (hr : WfR r) (hs : WfS r s 1 i) (hi : i < r.1 7) : WfS r (zstep nl r sky h i s) 1 (i + 1) := by
  obtain ⟨s7, s8, s6, s9, s13, s16, s5, s15, s10, s11, s14, sl⟩ := hs
  have rl := hr.2.2.2.2.2.2.2.2.2.2.2.2.2.2 i hi
  have hi' := sl i hi
  rw [if_neg (Nat.lt_irrefl i)] at hi'
  have hz := zleft_le r s i (znd r s sky h i)
  have hw : r.2 4 i * (if sky = 1 then 2 else 1) ≤ 198 := by
    split <;> omega
  by_cases hd : zdk r s i sky (znd r s sky h i) = true
  · rw [zstep_dark hd]
    unfold WfS
    simp (disch := omega) only [zlog_1, zlog_2, zcount_1, zcount_10, zcount_11, zcount_r, zburn_1, zburn_14, zburn_2]
    have h11 : (if s.2 2 i + 1 < 2 then 0 else 1) ≤ 1 := by split <;> omega
    refine ⟨s7, s8, s6, s9, s13, s16, s5, s15, by omega, by omega, by omega, fun l hl => ?_⟩
    have hl' := sl l hl
    by_cases c : l = i
    · subst c
      rw [if_pos (Nat.lt_succ_self l), za_s, za_n _ _ _ (by decide : (2 : Nat) ≠ 3), za_s, za_n _ _ _ (by decide : (0 : Nat) ≠ 3), za_n _ _ _ (by decide : (0 : Nat) ≠ 2), za_n _ _ _ (by decide : (1 : Nat) ≠ 3), za_n _ _ _ (by decide : (1 : Nat) ≠ 2), zburn_0, zburn_2 _ _ _ _ (by decide : (1 : Nat) ≠ 0)]
      exact ⟨by omega, by omega, by omega, by omega⟩
    · have e : (if l < i + 1 then 1 else 0) = (if l < i then 1 else 0) := by
        by_cases c1 : l < i
        · rw [if_pos c1, if_pos (by omega)]
        · rw [if_neg c1, if_neg (by omega)]
      rw [e, za_r _ _ _ _ c, za_n _ _ _ (by decide : (3 : Nat) ≠ 2), za_n _ _ _ (by decide : (2 : Nat) ≠ 3), za_r _ _ _ _ c, za_n _ _ _ (by decide : (0 : Nat) ≠ 3), za_n _ _ _ (by decide : (0 : Nat) ≠ 2), za_n _ _ _ (by decide : (1 : Nat) ≠ 3), za_n _ _ _ (by decide : (1 : Nat) ≠ 2), zburn_0n _ _ _ _ c, zburn_2 _ _ _ _ (by decide : (1 : Nat) ≠ 0), zburn_2 _ _ _ _ (by decide : (2 : Nat) ≠ 0), zburn_2 _ _ _ _ (by decide : (3 : Nat) ≠ 0)]
      exact hl'
  · rw [zstep_lit hd]
    unfold WfS
    simp (disch := omega) only [zlog_1, zlog_2, za_1, zburn_1, zburn_14]
    refine ⟨s7, s8, s6, s9, s13, s16, s5, s15, by omega, by omega, by omega, fun l hl => ?_⟩
    have hl' := sl l hl
    by_cases c : l = i
    · subst c
      rw [if_pos (Nat.lt_succ_self l), za_s, za_n _ _ _ (by decide : (0 : Nat) ≠ 2), za_n _ _ _ (by decide : (1 : Nat) ≠ 2), za_n _ _ _ (by decide : (3 : Nat) ≠ 2), zburn_0, zburn_2 _ _ _ _ (by decide : (1 : Nat) ≠ 0), zburn_2 _ _ _ _ (by decide : (3 : Nat) ≠ 0)]
      exact ⟨by omega, by omega, by omega, by omega⟩
    · have e : (if l < i + 1 then 1 else 0) = (if l < i then 1 else 0) := by
        by_cases c1 : l < i
        · rw [if_pos c1, if_pos (by omega)]
        · rw [if_neg c1, if_neg (by omega)]
      rw [e, za_r _ _ _ _ c, za_n _ _ _ (by decide : (0 : Nat) ≠ 2), za_n _ _ _ (by decide : (1 : Nat) ≠ 2), za_n _ _ _ (by decide : (3 : Nat) ≠ 2), zburn_0n _ _ _ _ c, zburn_2 _ _ _ _ (by decide : (1 : Nat) ≠ 0), zburn_2 _ _ _ _ (by decide : (2 : Nat) ≠ 0), zburn_2 _ _ _ _ (by decide : (3 : Nat) ≠ 0)]
      exact hl'
theorem zstep_1 (nl : Nat) (r s : Ns) (sky h l : Nat) {k : Nat} (h10 : k ≠ 10) (h11 : k ≠ 11) (h14 : k ≠ 14) : (zstep nl r sky h l s).1 k = s.1 k := by
  by_cases hd : zdk r s l sky (znd r s sky h l) = true
  · rw [zstep_dark hd, zlog_1, zcount_1 _ _ _ _ h10 h11, zburn_1 _ _ _ _ h14]
  · rw [zstep_lit hd, zlog_1, za_1, zburn_1 _ _ _ _ h14]
theorem zloop_1 (nl : Nat) (r s : Ns) (sky h : Nat) {k : Nat} (h10 : k ≠ 10) (h11 : k ≠ 11) (h14 : k ≠ 14) : ∀ i, (zloop nl r sky h s i).1 k = s.1 k
  | 0 => rfl
  | i + 1 => (zstep_1 nl r _ sky h i h10 h11 h14).trans (zloop_1 nl r s sky h h10 h11 h14 i)
theorem wf_loop {nl : Nat} {r s : Ns} {sky h : Nat} (hr : WfR r) (hs : WfS r s 1 0) : ∀ i, i ≤ r.1 7 → WfS r (zloop nl r sky h s i) 1 i
  | 0, _ => hs
  | i + 1, hi => wf_step hr (wf_loop hr hs i (by omega)) (by omega)
theorem wf_eve {r s : Ns} {sky : Nat} (hr : WfR r) (hs : WfS r s 1 (r.1 7)) (hk : sky ≤ 2) : WfS r (zeve s sky) 0 0 := by
  have r7 := hr.1
  obtain ⟨s7, s8, s6, s9, s13, s16, s5, s15, s10, s11, s14, sl⟩ := hs
  unfold WfS zeve
  simp (disch := omega) only [zu_s, zu_n, zu_2]
  refine ⟨s7, s8, s6, s9, hk, s16, by omega, by omega, by omega, by omega, by omega, fun l hl => ?_⟩
  have := sl l hl
  rw [if_pos hl] at this
  rw [if_neg (Nat.not_lt_zero l)]
  exact ⟨this.1, this.2.1, by omega, by omega⟩
theorem wf_morn {r s : Ns} {sky : Nat} (hr : WfR r) (hs : WfS r s 0 0) : WfS r (zmorn r s sky) 1 0 := wf_sail hr (wf_eggs hr hs) sky
theorem wf_day {nl : Nat} {r s : Ns} {sky : Nat} (hr : WfR r) (hs : WfS r s 0 0) (hk : sky ≤ 2) : WfS r (zday nl r s sky) 0 0 := wf_eve hr (wf_loop hr (wf_morn hr hs) _ (Nat.le_refl _)) hk
theorem zmorn_12 (r s : Ns) (sky : Nat) : (zmorn r s sky).1 12 = s.1 12 := by
  unfold zmorn
  rw [zsail_1 _ _ _ (by decide) (by decide) (by decide), zeggs_1 _ _ (by decide) (by decide) (by decide)]
theorem zday_12 (nl : Nat) (r s : Ns) (sky : Nat) : (zday nl r s sky).1 12 = s.1 12 + 1 := by
  unfold zday zeve
  rw [zu_s, zloop_1 _ _ _ _ _ (by decide) (by decide) (by decide), zmorn_12]
