/-! ===== THE MODEL'S DAY ===== -/
/-- the model's reef -/
def MR (r : Ns) (w : Vl) : Prop := w.1 0 = nI (r.1 7) ∧ w.1 2 = nI (r.1 8) ∧ w.1 3 = nI (r.1 9) ∧ w.1 4 = nI (r.1 10) ∧ w.1 5 = nI (r.1 11) ∧ w.1 6 = nI (r.1 12) ∧ w.1 7 = nI (r.1 13) ∧
  (∀ i, i < r.1 13 → w.2.2.1 8 i = nI (r.2 5 i)) ∧ (∀ i, i < 9 → w.2.2.1 9 i = nI (r.2 6 i)) ∧ (∀ l, l < r.1 7 → ∀ k, k < 5 → w.2.2.1 1 (5 * l + k) = nI (r.2 k l))
/-- the model's state; harm and breaches may have begun at H and B -/
def MS (r s : Ns) (H B : Nat) (w : Vl) : Prop := w.2.1 17 = lN (s.1 5) ∧ w.1 18 = nI (s.1 6) ∧ w.2.1 19 = lN (s.1 14) ∧ w.2.1 20 = lN (s.1 15) ∧ w.1 21 = nI (s.1 7) ∧ w.1 22 = nI (s.1 8) ∧ w.1 23 = gI (s.1 9) ∧ w.1 24 = nI (s.1 12) ∧
  w.2.1 25 = lN (s.1 10 + H) ∧ w.2.1 26 = lN (s.1 11 + B) ∧ w.1 27 = nI (s.1 13) ∧ w.1 30 = nI (s.1 16) ∧
  (∀ l, l < r.1 7 → w.2.2.1 13 l = nI (s.2 0 l) ∧ w.2.2.1 14 l = nI (s.2 1 l) ∧ w.2.2.1 15 l = nI (s.2 2 l) ∧ w.2.2.1 16 l = nI (s.2 3 l))
def dj (a b : List Nat) : Bool := a.all (fun x => ! b.contains x)
theorem dj_n {a b : List Nat} (h : dj a b = true) {k : Nat} (hk : k ∈ a) : k ∉ b := by
  have e := List.all_eq_true.mp h k hk
  intro c
  simp [c] at e
theorem MR_fr {r : Ns} {LI LJ LA LB : List Nat} {v w : Vl} (h : MR r v) (f : fr LI LJ LA LB v w) (d1 : dj [0, 2, 3, 4, 5, 6, 7] LI = true) (d3 : dj [1, 8, 9] LA = true) : MR r w := by
  unfold MR
  rw [f.1 0 (dj_n d1 (by decide)), f.1 2 (dj_n d1 (by decide)), f.1 3 (dj_n d1 (by decide)), f.1 4 (dj_n d1 (by decide)), f.1 5 (dj_n d1 (by decide)), f.1 6 (dj_n d1 (by decide)), f.1 7 (dj_n d1 (by decide)), f.2.2.1 8 (dj_n d3 (by decide)), f.2.2.1 9 (dj_n d3 (by decide)), f.2.2.1 1 (dj_n d3 (by decide))]
  exact h
theorem MS_fr {r s : Ns} {H B : Nat} {LI LJ LA LB : List Nat} {v w : Vl} (h : MS r s H B v) (f : fr LI LJ LA LB v w) (d1 : dj [18, 21, 22, 23, 24, 27, 30] LI = true) (d2 : dj [17, 19, 20, 25, 26] LJ = true) (d3 : dj [13, 14, 15, 16] LA = true) : MS r s H B w := by
  unfold MS
  rw [f.1 18 (dj_n d1 (by decide)), f.1 21 (dj_n d1 (by decide)), f.1 22 (dj_n d1 (by decide)), f.1 23 (dj_n d1 (by decide)), f.1 24 (dj_n d1 (by decide)), f.1 27 (dj_n d1 (by decide)), f.1 30 (dj_n d1 (by decide)), f.2.1 17 (dj_n d2 (by decide)), f.2.1 19 (dj_n d2 (by decide)), f.2.1 20 (dj_n d2 (by decide)), f.2.1 25 (dj_n d2 (by decide)), f.2.1 26 (dj_n d2 (by decide)), f.2.2.1 13 (dj_n d3 (by decide)), f.2.2.1 14 (dj_n d3 (by decide)), f.2.2.1 15 (dj_n d3 (by decide)), f.2.2.1 16 (dj_n d3 (by decide))]
  exact h
theorem w_X9_needs {r : Ns} {w : Vl} {l d sky hv : Nat} {Q : Int32 → Prop} (hr : WfR r) (hm : MR r w) (hl : l < r.1 7) (hd : d < 2 ^ 31) (hk : sky ≤ 2) (he : w.2.2.1 14 l = nI hv) (hv1 : hv ≤ 1) : wp_X9_needs w (nI l) (nI d) (nI sky) Q ↔ Q (nI (zneed r l (zhours r d) sky hv)) := by
  obtain ⟨m0, m2, m3, m4, m5, m6, m7, m8, m9, ml⟩ := hm
  have hh := zhours_le hr d
  obtain ⟨r7, r8, r8', r9, r9', r10, r11, r12, r12', r13, r13', rh, _, _, rl⟩ := hr
  obtain ⟨k0, k1, k2, k3, k4⟩ := rl l hl
  have h3 : d / 10 % r.1 13 < r.1 13 := Nat.mod_lt _ (by omega)
  have e0 := ml l hl 0 (by omega)
  have e2 := ml l hl 2 (by omega)
  rw [Nat.add_zero] at e0
  have e8 : w.2.2.1 8 (d / 10 % r.1 13) = nI (zhours r d) := m8 _ h3
  have eb := (zneed0_le (h := zhours r d) k2 hh).2
  have i1 : 5 * l < 45 := by omega
  have i2 : 5 * l + 2 < 45 := by omega
  have i3 : ¬ r.1 13 = 0 := by omega
  have i4 : d / 10 % r.1 13 < 12 := by omega
  unfold wp_X9_needs wp_X9_needs_c55 wp_X9_needs_c77 wp_X9_needs_c79 zneed zneed0
  simp (disch := omega) only [forall_eq, lit32, pk_mul, nI_add, nI_clamp, vp_inN, pk_div, m7, pk_rem3, e0, e2, e8, he, nI_eq]
  have c0 : (hv = 0) ↔ ¬ hv = 1 := by omega
  have i5 : l < 9 := by omega
  simp only [i1, i2, i3, i4, i5, true_and, not_false_eq_true, c0]
  have em : 2 * (r.2 2 l * zhours r d / 10) = r.2 2 l * zhours r d / 10 * 2 := Nat.mul_comm _ _
  rw [em]
  by_cases h1 : r.2 0 l = 4 <;> by_cases h2 : r.2 0 l = 3 <;> by_cases h3 : sky = 2 <;> by_cases h4 : r.2 0 l = 1 <;> by_cases h5 : hv = 1 <;> by_cases h6 : sky = 0 <;> first | omega | simp [h1, h2, h3, h4, h5, h6]
theorem w_X9_isOut {r : Ns} {w : Vl} {l sky : Nat} {Q : Int32 → Prop} (hr : WfR r) (hm : MR r w) (hl : l < r.1 7) (hk : sky ≤ 2) : wp_X9_isOut w (nI l) (nI sky) Q ↔ Q (nI (zout r l sky)) := by
  have r7 := hr.1
  obtain ⟨k0, k1, k2, k3, k4⟩ := hr.2.2.2.2.2.2.2.2.2.2.2.2.2.2 l hl
  have e0 := hm.2.2.2.2.2.2.2.2.2 l hl 0 (by omega)
  rw [Nat.add_zero] at e0
  have i1 : 5 * l < 45 := by omega
  unfold wp_X9_isOut wp_X9_isOut_c17 zout
  simp (disch := omega) only [lit32, pk_mul, nI_clamp, vp_inN, e0, nI_eq]
  simp only [i1, true_and]
  by_cases h1 : r.2 0 l = 4 <;> by_cases h2 : r.2 0 l = 3 <;> by_cases h3 : sky = 1 <;> by_cases h4 : sky = 2 <;> first | omega | simp [h1, h2, h3, h4]
theorem w_X9_leak {x : Nat} {Q : Int32 → Prop} (hx : x < 2 ^ 31) : wp_X9_leak (nI x) Q ↔ Q (nI (if 0 < x then max 1 (x / 10) else 0)) := by
  unfold wp_X9_leak
  simp (disch := omega) only [lit32, pk_div, nI_eq, nI_leI]
  by_cases h1 : x = 0
  · simp [h1]
  · by_cases h2 : 10 ≤ x
    · have e : max 1 (x / 10) = x / 10 := by omega
      have : 0 < x := by omega
      simp [h1, h2, this, e]
    · have e : max 1 (x / 10) = 1 := by omega
      have : 0 < x := by omega
      simp [h1, h2, this, e]
def bitI (l : Nat) : Int32 := 1 <<< (nI l &&& 31)
def mEnd (w : Vl) (l d : Nat) (o on al : Int32) (br hm : Int64) (ld : Int32) : Vl :=
  if 40 ≤ d then setI (setJ (setJ (setA (setA w 15 l on) 16 l al) 26 br) 25 hm) 28 ld
  else setA (setI (setJ (setJ (setA (setA w 15 l on) 16 l al) 26 br) 25 hm) 28 ld) 29 (40 * l + d) o
theorem mEnd_1 (w : Vl) (l d : Nat) (o on al : Int32) (br hm : Int64) (ld : Int32) (k : Nat) : (mEnd w l d o on al br hm ld).1 k = if k = 28 then ld else w.1 k := by
  unfold mEnd
  split <;> rfl
theorem mEnd_2 (w : Vl) (l d : Nat) (o on al : Int32) (br hm : Int64) (ld : Int32) (k : Nat) : (mEnd w l d o on al br hm ld).2.1 k = if k = 25 then hm else if k = 26 then br else w.2.1 k := by
  unfold mEnd
  split <;> rfl
theorem mEnd_3 (w : Vl) (l d : Nat) (o on al : Int32) (br hm : Int64) (ld : Int32) {k : Nat} (h : k ≠ 29) : (mEnd w l d o on al br hm ld).2.2.1 k = if k = 16 then upd (w.2.2.1 16) l al else if k = 15 then upd (w.2.2.1 15) l on else w.2.2.1 k := by
  unfold mEnd
  split
  · rfl
  · rw [sA_3, if_neg h]; rfl
theorem mEnd_29 (w : Vl) (l d : Nat) (o on al : Int32) (br hm : Int64) (ld : Int32) : (mEnd w l d o on al br hm ld).2.2.1 29 = if 40 ≤ d then w.2.2.1 29 else upd (w.2.2.1 29) (40 * l + d) o := by
  unfold mEnd
  split <;> rfl
theorem mEnd_4 (w : Vl) (l d : Nat) (o on al : Int32) (br hm : Int64) (ld : Int32) : (mEnd w l d o on al br hm ld).2.2.2 = w.2.2.2 := by
  unfold mEnd
  split <;> rfl
theorem m_end_dark {w : Vl} {Q : Vl → Prop} {l sky d o on al br hm sh : Nat} (hl : l < 9) (hd : d ≤ 12900) (hk : sky ≤ 2) (h24 : w.1 24 = nI d) (h13 : w.2.2.1 13 l = nI o) (h16 : w.2.2.1 16 l = nI al) (h26 : w.2.1 26 = lN br) (h25 : w.2.1 25 = lN hm) (h4 : w.2.2.1 1 (5 * l + 4) = nI sh) (hon : on < 2 ^ 30) (hsh : sh ≤ 99)
    (h : Q (mEnd w l d (nI o) (nI on) (nI (al + 1)) (lN (br + if on ≤ 1 then 0 else 1)) (lN (hm + sh * if sky = 1 then 2 else 1)) (w.1 28 ||| bitI l))) : wp_X9_burn_c145 Q w (nI l) (nI sky) 1 (nI on) (nI l) := by
  have eb : (1 : Int32) <<< (nI l &&& 31) = bitI l := rfl
  have i1 : 5 * l + 4 < 45 := by omega
  unfold wp_X9_burn_c145 wp_X9_burn_c163 wp_X9_burn_c185 wp_X9_burn_c219 wp_X9_burn_c225 wp_X9_burn_c246
  simp only [eb]
  simp (disch := omega) only [forall_eq, lit32, lit64N, pk_mul, nI_add, nI_clamp, vp_inN, nI_eq, nI_leI, sI_1, sI_2, sJ_1, sJ_2, sJ_3, sA_1, sA_2, sA_3, upd_a, ↓reduceIte, Nat.reduceEqDiff, h24, h13, h16, h26, h25, h4, nI_l, lN_add]
  have i2 : ¬ 40 ≤ d → 40 * l + d < 360 := by omega
  unfold mEnd at h
  by_cases c1 : on ≤ 1 <;> by_cases c2 : sky = 1 <;> by_cases c3 : 40 ≤ d <;> simp only [c1, c2, c3, hl, i1, i2, not_true_eq_false, not_false_eq_true, true_and, true_implies, false_implies, and_true, if_true, if_false, Nat.mul_one, Nat.add_zero, reduceCtorEq, Nat.one_ne_zero] at h ⊢ <;> exact h
theorem m_end_lit {w : Vl} {Q : Vl → Prop} {l sky d o al br hm : Nat} (hl : l < 9) (hd : d ≤ 12900) (h24 : w.1 24 = nI d) (h13 : w.2.2.1 13 l = nI o) (h16 : w.2.2.1 16 l = nI al) (h26 : w.2.1 26 = lN br) (h25 : w.2.1 25 = lN hm)
    (h : Q (mEnd w l d (nI o) (nI 0) (nI al) (lN br) (lN hm) (w.1 28))) : wp_X9_burn_c145 Q w (nI l) (nI sky) 0 0 (nI l) := by
  unfold wp_X9_burn_c145 wp_X9_burn_c163 wp_X9_burn_c185 wp_X9_burn_c219 wp_X9_burn_c225 wp_X9_burn_c246
  simp only [Int32.or_zero]
  simp (disch := omega) only [forall_eq, lit32, lit64N, pk_mul, nI_add, nI_clamp, vp_inN, nI_eq, nI_leI, sI_1, sI_2, sJ_1, sJ_2, sJ_3, sA_1, sA_2, sA_3, upd_a, ↓reduceIte, Nat.reduceEqDiff, h24, h13, h16, h26, h25, nI_l, lN_add]
  have i2 : ¬ 40 ≤ d → 40 * l + d < 360 := by omega
  unfold mEnd at h
  by_cases c3 : 40 ≤ d <;> simp only [c3, hl, i2, not_true_eq_false, not_false_eq_true, true_and, true_implies, false_implies, and_true, if_true, if_false, Nat.zero_le, Nat.add_zero] at h ⊢ <;> exact h
theorem m_c57 {w : Vl} {Q : Vl → Prop} {r : Ns} {l sky has nd bt : Nat} {dk : Int32} (hl : l < 9) (hb : has ≤ 999) (hn : nd ≤ 999) (h13 : w.2.2.1 13 l = nI has) (h19 : w.2.1 19 = lN bt) (h1 : w.2.2.1 1 (5 * l) = nI (r.2 0 l)) (hk0 : r.2 0 l ≤ 4) {z : Nat} (hz : z = has - nd - zleak r l (has - nd))
    (h : ∀ w', w' = setJ (setA w 13 l (nI z)) 19 (lN (bt + (has - z))) → ((dk = 0 → wp_X9_burn_c145 Q w' (nI l) (nI sky) dk 0 (nI l)) ∧ (¬ dk = 0 → wp_X9_burn_c145 Q w' (nI l) (nI sky) dk (w.2.2.1 15 l + 1) (nI l)))) : wp_X9_burn_c57 Q w (nI l) (nI sky) dk (nI (min has nd)) := by
  have i1 : 5 * l < 45 := by omega
  have e0 : has - min has nd = has - nd := by omega
  have ek : zleak r l (has - nd) ≤ has - nd := by
    unfold zleak
    split <;> omega
  have key : wp_X9_burn_c95 Q (setA w 13 l (nI (has - nd))) (nI l) (nI sky) dk (nI (min has nd)) (nI (zleak r l (has - nd))) := by
    unfold wp_X9_burn_c95
    have ez : has - nd - zleak r l (has - nd) = z := hz.symm
    have eb : min has nd + zleak r l (has - nd) = has - z := by omega
    have ew : setA (setA w 13 l (nI (has - nd))) 13 l (nI z) = setA w 13 l (nI z) := by
      unfold setA setRA
      simp only [va_up_s, bx_uu, upd_up]
    simp (disch := omega) only [forall_eq, lit32, nI_clamp, vp_inN, sA_2, sA_3, sJ_3, upd_a, ↓reduceIte, Nat.reduceEqDiff, pk_sub, ez, nI_add, eb, h19, nI_l, lN_add, ew]
    simp only [hl, true_and]
    have h' := h _ rfl
    simp only [lit32] at h'
    exact h'
  unfold wp_X9_burn_c57
  simp (disch := omega) only [forall_eq, lit32, pk_mul, nI_clamp, vp_inN, sA_3, upd_a, ↓reduceIte, Nat.reduceEqDiff, h13, pk_sub, e0, h1, nI_eq, w_X9_leak]
  simp only [hl, i1, true_and]
  by_cases c : r.2 0 l = 2
  · refine ⟨fun q => absurd c q, fun _ => ?_⟩
    have e : (if 0 < has - nd then max 1 ((has - nd) / 10) else 0) = zleak r l (has - nd) := by
      unfold zleak
      by_cases c2 : 0 < has - nd
      · rw [if_pos c2, if_pos ⟨c, c2⟩]
      · rw [if_neg c2, if_neg (fun q => c2 q.2)]
    rw [e]
    exact key
  · refine ⟨fun _ => ?_, fun q => absurd q c⟩
    have e : zleak r l (has - nd) = 0 := if_neg (fun q => c q.1)
    rw [e] at key
    exact key
/-- one light's night in the model -/
theorem m_burn {nl : Nat} {w : Vl} {Q : Vl → Prop} {r s : Ns} {sky i H B : Nat} (hr : WfR r) (hm : MR r w) (hs : WfS r s 1 i) (ms : MS r s H B w) (hd : s.1 12 ≤ 12900) (hi : i < r.1 7) (hk : sky ≤ 2)
    (hQ : ∀ w', MS r (zstep nl r sky (zhours r (s.1 12)) i s) H B w' → fr [28] [19, 25, 26] [13, 15, 16, 29] [] w w' →
      w'.1 28 = (if zdk r s i sky (znd r s sky (zhours r (s.1 12)) i) = true then w.1 28 ||| bitI i else w.1 28) →
      w'.2.2.1 29 = (if 40 ≤ s.1 12 then w.2.2.1 29 else upd (w.2.2.1 29) (40 * i + s.1 12) (nI (zleft r s i (znd r s sky (zhours r (s.1 12)) i)))) → Q w') : wp_X9_burn w (nI i) (nI sky) Q := by
  have r7 := hr.1
  obtain ⟨k0, k1, k2, k3, k4⟩ := hr.2.2.2.2.2.2.2.2.2.2.2.2.2.2 i hi
  have hh := zhours_le hr (s.1 12)
  obtain ⟨s7, s8, s6, s9, s13, s16, s5, s15, s10, s11, s14, sl⟩ := hs
  obtain ⟨l0, l1, l2, l3⟩ := sl i hi
  rw [if_neg (Nat.lt_irrefl i)] at l2 l3
  have hnd := znd_le (s := s) (sky := sky) (h := zhours r (s.1 12)) (l := i) k2 hh
  have ms' := ms
  obtain ⟨m17, m18, m19, m20, m21, m22, m23, m24, m25, m26, m27, m30, mrow⟩ := ms'
  obtain ⟨a13, a14, a15, a16⟩ := mrow i hi
  have e1 := hm.2.2.2.2.2.2.2.2.2 i hi 0 (by omega)
  rw [Nat.add_zero] at e1
  have e4 := hm.2.2.2.2.2.2.2.2.2 i hi 4 (by omega)
  have e0 : zneed r i (zhours r (s.1 12)) sky (s.2 1 i) = znd r s sky (zhours r (s.1 12)) i := rfl
  have hz := zleft_le r s i (znd r s sky (zhours r (s.1 12)) i)
  obtain ⟨nd, end_⟩ : ∃ nd, nd = znd r s sky (zhours r (s.1 12)) i := ⟨_, rfl⟩
  unfold wp_X9_burn
  rw [m24, w_X9_needs hr hm hi (by omega) hk a14 l1, e0]
  rw [← end_] at hz hnd hQ ⊢
  have i9 : i < 9 := by omega
  have step : ∀ dk : Int32, ((dk = 0 ∧ zdk r s i sky nd = false) ∨ (dk = 1 ∧ zdk r s i sky nd = true)) → wp_X9_burn_c35 Q w (nI i) (nI sky) (nI nd) dk := by
    intro dk hdk
    have c57 : wp_X9_burn_c57 Q w (nI i) (nI sky) dk (nI (min (s.2 0 i) nd)) := by
      refine m_c57 (r := r) i9 (by omega) (by omega) a13 m19 e1 k0 (z := zleft r s i nd) rfl ?_
      intro w' ew
      have f1 : fr [28] [19, 25, 26] [13, 15, 16, 29] [] w w' := by
        rw [ew]
        exact fr_J (fr_A (fr_r w) _ _ (by decide)) _ (by decide)
      rcases hdk with ⟨d0, d1⟩ | ⟨d0, d1⟩
      · refine ⟨fun _ => ?_, fun q => absurd d0 q⟩
        rw [d0]
        have hf : ¬ zdk r s i sky (znd r s sky (zhours r (s.1 12)) i) = true := by rw [← end_, d1]; decide
        refine m_end_lit (d := s.1 12) (o := zleft r s i nd) (al := s.2 3 i) (br := s.1 11 + B) (hm := s.1 10 + H) i9 hd ?_ ?_ ?_ ?_ ?_ ?_
        · rw [ew]; exact m24
        · rw [ew, sJ_3, sA_3, if_pos rfl, upd_a, if_pos rfl]
        · rw [ew]; exact a16
        · rw [ew]; exact m26
        · rw [ew]; exact m25
        · refine hQ _ ?_ ?_ ?_ ?_
          · rw [zstep_lit hf, ← end_]
            unfold MS
            simp (disch := omega) only [mEnd_1, mEnd_2, mEnd_3, zlog_1, zlog_2, za_1, zburn_1, zburn_14, ↓reduceIte, Nat.reduceEqDiff, ew, sJ_1, sJ_2, sJ_3, sA_1, sA_2, sA_3]
            refine ⟨m17, m18, trivial, m20, m21, m22, m23, m24, trivial, trivial, m27, m30, fun l hl => ?_⟩
            obtain ⟨b13, b14, b15, b16⟩ := mrow l hl
            by_cases c : l = i
            · subst c
              simp (disch := omega) only [upd_a, ↓reduceIte, za_s, za_n, zburn_0, zburn_2]
              exact ⟨trivial, b14, trivial, trivial⟩
            · simp (disch := omega) only [upd_a, c, ↓reduceIte, za_r, za_n, zburn_0n, zburn_2]
              exact ⟨b13, b14, b15, b16⟩
          · refine ⟨fun k q => ?_, fun k q => ?_, fun k q => ?_, fun k q => ?_⟩
            · rw [mEnd_1, if_neg (fun e => q (by rw [e]; decide))]; exact f1.1 k q
            · rw [mEnd_2, if_neg (fun e => q (by rw [e]; decide)), if_neg (fun e => q (by rw [e]; decide))]; exact f1.2.1 k q
            · rw [mEnd_3 _ _ _ _ _ _ _ _ _ (fun e => q (by rw [e]; decide)), if_neg (fun e => q (by rw [e]; decide)), if_neg (fun e => q (by rw [e]; decide))]; exact f1.2.2.1 k q
            · rw [mEnd_4]; exact f1.2.2.2 k q
          · rw [mEnd_1, if_pos rfl, d1, ew]; rfl
          · rw [mEnd_29, ew]; rfl
      · refine ⟨fun q => absurd (d0.symm.trans q) (by decide), fun _ => ?_⟩
        rw [d0, a15, nI_1]
        have hf : zdk r s i sky (znd r s sky (zhours r (s.1 12)) i) = true := by rw [← end_, d1]
        refine m_end_dark (d := s.1 12) (o := zleft r s i nd) (on := s.2 2 i + 1) (al := s.2 3 i) (br := s.1 11 + B) (hm := s.1 10 + H) (sh := r.2 4 i) i9 hd hk ?_ ?_ ?_ ?_ ?_ ?_ (by omega) k4 ?_
        · rw [ew]; exact m24
        · rw [ew, sJ_3, sA_3, if_pos rfl, upd_a, if_pos rfl]
        · rw [ew]; exact a16
        · rw [ew]; exact m26
        · rw [ew]; exact m25
        · rw [ew]; exact e4
        · refine hQ _ ?_ ?_ ?_ ?_
          · rw [zstep_dark hf, ← end_]
            unfold MS
            simp (disch := omega) only [mEnd_1, mEnd_2, mEnd_3, zlog_1, zlog_2, zcount_1, zcount_10, zcount_11, zcount_r, zburn_1, zburn_14, zburn_2, ↓reduceIte, Nat.reduceEqDiff, ew, sJ_1, sJ_2, sJ_3, sA_1, sA_2, sA_3]
            refine ⟨m17, m18, trivial, m20, m21, m22, m23, m24, ?_, ?_, m27, m30, fun l hl => ?_⟩
            · congr 1
              omega
            · congr 1
              by_cases c : s.2 2 i + 1 < 2
              · rw [if_pos (by omega : s.2 2 i + 1 ≤ 1), if_pos c]; omega
              · rw [if_neg (by omega : ¬ s.2 2 i + 1 ≤ 1), if_neg c]; omega
            obtain ⟨b13, b14, b15, b16⟩ := mrow l hl
            by_cases c : l = i
            · subst c
              simp (disch := omega) only [upd_a, ↓reduceIte, za_s, za_n, zburn_0, zburn_2]
              exact ⟨trivial, b14, trivial, trivial⟩
            · simp (disch := omega) only [upd_a, c, ↓reduceIte, za_r, za_n, zburn_0n, zburn_2]
              exact ⟨b13, b14, b15, b16⟩
          · refine ⟨fun k q => ?_, fun k q => ?_, fun k q => ?_, fun k q => ?_⟩
            · rw [mEnd_1, if_neg (fun e => q (by rw [e]; decide))]; exact f1.1 k q
            · rw [mEnd_2, if_neg (fun e => q (by rw [e]; decide)), if_neg (fun e => q (by rw [e]; decide))]; exact f1.2.1 k q
            · rw [mEnd_3 _ _ _ _ _ _ _ _ _ (fun e => q (by rw [e]; decide)), if_neg (fun e => q (by rw [e]; decide)), if_neg (fun e => q (by rw [e]; decide))]; exact f1.2.2.1 k q
            · rw [mEnd_4]; exact f1.2.2.2 k q
          · rw [mEnd_1, if_pos rfl, d1, ew]; rfl
          · rw [mEnd_29, ew]; rfl
    unfold wp_X9_burn_c35
    simp (disch := omega) only [nI_clamp, vp_inN, a13, nI_leI]
    refine ⟨i9, fun c => ?_, fun c => ⟨i9, ?_⟩⟩
    · rw [Nat.min_eq_right c] at c57
      exact c57
    · rw [Nat.min_eq_left (by omega)] at c57
      exact c57
  simp (disch := omega) only [nI_clamp, vp_inN, a13, nI_ltI, w_X9_isOut hr hm hi hk]
  unfold wp_X9_burn_c30
  refine ⟨i9, fun c => step 1 (Or.inr ⟨rfl, decide_eq_true (Or.inl c)⟩), fun c => ?_⟩
  by_cases c2 : zout r i sky = 1
  · rw [c2]
    exact ⟨fun q => absurd q (by decide), fun _ => step 1 (Or.inr ⟨rfl, decide_eq_true (Or.inr c2)⟩)⟩
  · have c3 : zout r i sky = 0 := by
      unfold zout at c2 ⊢
      split
      · rename_i q; rw [if_pos q] at c2; exact absurd rfl c2
      · rfl
    rw [c3]
    exact ⟨fun _ => step 0 (Or.inl ⟨rfl, decide_eq_false (fun q => q.elim c c2)⟩), fun q => absurd rfl q⟩
