/-! ===== DARKENED ===== -/
def znn (r s : Ns) (l i : Nat) : Nat := if r.2 0 l = 2 then zneed r l (zhours r (s.1 12 + i)) 0 (s.2 1 l) + zneed r l (zhours r (s.1 12 + i)) 0 (s.2 1 l) / 10 else zneed r l (zhours r (s.1 12 + i)) 0 (s.2 1 l)
theorem znn_le {r s : Ns} {l i : Nat} (hr : WfR r) (hl : l < r.1 7) : znn r s l i ≤ 521 := by
  have k2 := (hr.2.2.2.2.2.2.2.2.2.2.2.2.2.2 l hl).2.2.1
  have := zneed_le (sky := 0) (hv := s.2 1 l) k2 (zhours_le hr (s.1 12 + i))
  unfold znn
  split <;> omega
def zns (r s : Ns) (n l : Nat) : Nat := zsum (znn r s l) n
theorem zns_le {r s : Ns} {n l : Nat} (hr : WfR r) (hl : l < r.1 7) : zns r s n l ≤ 521 * n := zsum_le n (fun _ _ => znn_le hr hl)
theorem q_nn_loop {r s : Ns} {vx : Vl} {l n y : Nat} {Q : Int32 → Prop} (hr : WfR r) (hl : l < r.1 7) (hv1 : s.2 1 l ≤ 1) (hd : s.1 12 ≤ 12900) (hn : n ≤ 99) (hy : y = if r.2 0 l = 2 then 1 else 0) (h : Q (nI (zns r s n l))) : ∀ m i, i + m = n → wp_X8_needOfNights_c49 vx (encS s) (encG r) Q (m + 1) (nI l) (nI n) (nI (s.2 1 l)) (nI y) (nI (zsum (znn r s l) i)) (nI i)
  | 0, i, e => by
    obtain rfl : i = n := by omega
    unfold wp_X8_needOfNights_c49
    rw [rl_eT (nI_le (Nat.le_refl _) (by omega))]
    exact h
  | m + 1, i, e => by
    have r7 := hr.1
    obtain ⟨k0, k1, k2, k3, k4⟩ := hr.2.2.2.2.2.2.2.2.2.2.2.2.2.2 l hl
    have hh := zhours_le hr (s.1 12 + i)
    have hnd := zneed_le (l := l) (sky := 0) (hv := s.2 1 l) k2 hh
    have IH := q_nn_loop (vx := vx) hr hl hv1 hd hn hy h m (i + 1) (by omega)
    have e0 : (0 : Int32) = nI 0 := rfl
    unfold wp_X8_needOfNights_c49 wp_X8_needOfNights_c104
    rw [rl_eF (nI_ge (by omega) (by omega)), encS_1 _ (by decide) (by decide), nI_add, w_X3_hoursOf hr (by omega), e0, w_X3_needOf (by omega) k0 k2 hh (by omega) hv1]
    unfold zsum znn at IH
    by_cases c : r.2 0 l = 2
    · rw [if_pos c] at hy IH
      rw [hy] at IH ⊢
      rw [rl_eF (show ¬ nI 1 = nI 0 by decide)]
      simp (disch := omega) only [lit32 10, pk_div, forall_eq, nI_add, nI_1]
      exact IH
    · rw [if_neg c] at hy IH
      rw [hy] at IH ⊢
      rw [rl_eT rfl]
      simp only [forall_eq, nI_add, nI_1]
      exact IH
theorem q_nn {r s : Ns} {vx : Vl} {l n : Nat} {Q : Int32 → Prop} (hr : WfR r) (hl : l < r.1 7) (hv1 : s.2 1 l ≤ 1) (hd : s.1 12 ≤ 12900) (hn : n ≤ 99) (h : Q (nI (zns r s n l))) : wp_X8_needOfNights vx (encS s) (encG r) (nI l) (nI n) Q := by
  have r7 := hr.1
  have k0 := (hr.2.2.2.2.2.2.2.2.2.2.2.2.2.2 l hl).1
  have key : ∀ y, y = (if r.2 0 l = 2 then 1 else 0) → wp_X8_needOfNights_c41 vx (encS s) (encG r) Q (nI l) (nI n) (nI (s.2 1 l)) (nI y) := fun y hy => ⟨_, q_nn_loop hr hl hv1 hd hn hy h n 0 (by omega)⟩
  have key2 : wp_X8_needOfNights_c20 vx (encS s) (encG r) Q (nI l) (nI n) (nI (s.2 1 l)) := by
    unfold wp_X8_needOfNights_c20
    simp (disch := omega) only [w_at, encG_r, jat_row]
    by_cases c : r.2 0 l = 2
    · rw [c]
      exact ⟨fun q => absurd rfl q, fun _ => key 1 (by rw [if_pos c])⟩
    · refine ⟨fun _ => key 0 (by rw [if_neg c]), fun q => absurd ((nI_eq (b := 2) (by omega) (by omega)).mp q) c⟩
  unfold wp_X8_needOfNights
  simp (disch := omega) only [w_at, encS_r, jat_row]
  have : s.2 1 l = 0 ∨ s.2 1 l = 1 := by omega
  rcases this with q | q
  · rw [q] at key2 ⊢
    exact ⟨fun _ => key2, fun q => absurd q (by decide)⟩
  · rw [q] at key2 ⊢
    exact ⟨fun q => absurd rfl q, fun _ => key2⟩
theorem m_nn_loop {r s : Ns} {w : Vl} {l n : Nat} {Q : Int32 → Prop} (hr : WfR r) (hm : MR r w) (m24 : w.1 24 = nI (s.1 12)) (e14 : w.2.2.1 14 l = nI (s.2 1 l)) (hl : l < r.1 7) (hv1 : s.2 1 l ≤ 1) (hd : s.1 12 ≤ 12900) (hn : n ≤ 99) (h : Q (nI (zns r s n l))) : ∀ m i, i + m = n → wp_X9_needsOn_c5 w Q (m + 1) (nI l) (nI n) (nI (zsum (znn r s l) i)) (nI i)
  | 0, i, e => by
    obtain rfl : i = n := by omega
    unfold wp_X9_needsOn_c5
    rw [rl_eT (nI_le (Nat.le_refl _) (by omega))]
    exact h
  | m + 1, i, e => by
    have r7 := hr.1
    obtain ⟨k0, k1, k2, k3, k4⟩ := hr.2.2.2.2.2.2.2.2.2.2.2.2.2.2 l hl
    have hh := zhours_le hr (s.1 12 + i)
    have hnd := zneed_le (l := l) (sky := 0) (hv := s.2 1 l) k2 hh
    have IH := m_nn_loop hr hm m24 e14 hl hv1 hd hn h m (i + 1) (by omega)
    have ek := hm.2.2.2.2.2.2.2.2.2 l hl 0 (by omega)
    rw [Nat.add_zero] at ek
    have e0 : (0 : Int32) = nI 0 := rfl
    unfold wp_X9_needsOn_c5 wp_X9_needsOn_c52
    rw [rl_eF (nI_ge (by omega) (by omega)), m24, nI_add, e0, w_X9_needs hr hm hl (by omega) (by omega) e14 hv1]
    unfold zsum znn at IH
    simp (disch := omega) only [lit32 10, lit32 5, pk_mul, nI_clamp, vp_inN, ek, pk_div, forall_eq, nI_add, nI_1]
    refine ⟨by omega, fun c => ?_, fun c => ?_⟩
    · rw [if_neg (fun q => c (by rw [q]; rfl))] at IH
      exact IH
    · rw [if_pos ((nI_eq (b := 2) (by omega) (by omega)).mp c)] at IH
      exact IH
/-! sets -/
def zht (x : Int32) (l : Nat) : Prop := (x >>> (nI l &&& 31)) &&& 1 = 1
noncomputable def zso (g : Nat → Nat) (x : Int32) : Nat → Nat
  | 0 => 0
  | l + 1 => zso g x l + (@ite Nat ((x >>> (nI l &&& 31)) &&& 1 = 1) (instDecidableEqInt32 _ _) (g l) 0)
noncomputable def zsn (g : Nat → Nat) (x : Int32) : Nat → Nat
  | 0 => 0
  | l + 1 => zsn g x l + (@ite Nat ((x >>> (nI l &&& 31)) &&& 1 = 1) (instDecidableEqInt32 _ _) 0 (g l))
theorem bit_not : ∀ j, j < 512 → ∀ l, l < 9 → ((((nI j ^^^ (-1)) >>> (nI l &&& 31)) &&& 1 = 1) ↔ ¬ ((nI j >>> (nI l &&& 31)) &&& 1 = 1)) := by decide +kernel
theorem bit_all : ∀ n, n < 10 → ∀ l, l < n → ((nI (2 ^ n - 1) >>> (nI l &&& 31)) &&& 1 = 1) := by decide +kernel
theorem zso_not {g : Nat → Nat} {j : Nat} (hj : j < 512) : ∀ l, l ≤ 9 → zso g (nI j ^^^ (-1)) l = zsn g (nI j) l
  | 0, _ => rfl
  | l + 1, h => by
    unfold zso zsn
    rw [zso_not hj l (by omega)]
    by_cases c : (nI j >>> (nI l &&& 31)) &&& 1 = 1
    · rw [if_pos c, if_neg (fun q => (bit_not j hj l (by omega)).mp q c)]
    · rw [if_neg c, if_pos ((bit_not j hj l (by omega)).mpr c)]
theorem zsn_all {g : Nat → Nat} {n : Nat} (hn : n ≤ 9) : ∀ l, l ≤ n → zsn g (nI (2 ^ n - 1)) l = 0
  | 0, _ => rfl
  | l + 1, h => by
    unfold zsn
    rw [zsn_all hn l (by omega), if_pos (bit_all n (by omega) l (by omega))]
theorem zso_le {g : Nat → Nat} {m : Nat} {x : Int32} : ∀ n, (∀ i, i < n → g i ≤ m) → zso g x n ≤ m * n
  | 0, _ => Nat.zero_le _
  | n + 1, h => by
    have h1 := zso_le (g := g) (m := m) (x := x) n (fun i hi => h i (by omega))
    have h2 := h n (by omega)
    unfold zso
    rw [Nat.mul_succ]
    split <;> omega
theorem zsn_le {g : Nat → Nat} {m : Nat} {x : Int32} : ∀ n, (∀ i, i < n → g i ≤ m) → zsn g x n ≤ m * n
  | 0, _ => Nat.zero_le _
  | n + 1, h => by
    have h1 := zsn_le (g := g) (m := m) (x := x) n (fun i hi => h i (by omega))
    have h2 := h n (by omega)
    unfold zsn
    rw [Nat.mul_succ]
    split <;> omega
theorem q_so4 {r : Ns} {vx : Vl} {x : Int32} {Q : Int32 → Prop} (r7 : r.1 7 ≤ 9) (h : Q (nI (zso (r.2 4) x (r.1 7)))) : ∀ m l, l + m = r.1 7 → wp_X8_sumOver_kt9_4_c5 vx (encG r) Q (m + 1) x (nI (zso (r.2 4) x l)) (nI l)
  | 0, l, e => by
    obtain rfl : l = r.1 7 := by omega
    unfold wp_X8_sumOver_kt9_4_c5
    rw [encG_1, rl_eT (nI_le (Nat.le_refl _) (by omega))]
    exact h
  | m + 1, l, e => by
    have IH := q_so4 (vx := vx) r7 h m (l + 1) (by omega)
    unfold zso at IH
    unfold wp_X8_sumOver_kt9_4_c5 wp_X8_sumOver_kt9_4_c36
    rw [encG_1, rl_eF (nI_ge (by omega) (by omega))]
    simp (disch := omega) only [w_at, encG_r, jat_row, forall_eq, nI_add, nI_1]
    by_cases c : (x >>> (nI l &&& 31)) &&& 1 = 1
    · rw [if_pos c] at IH
      rw [rl_fT c]
      exact IH
    · rw [if_neg c] at IH
      rw [rl_fF c]
      exact IH
theorem q_so8 {r : Ns} {vx : Vl} {f : Nat → Int32} {g : Nat → Nat} {x : Int32} {Q : Int32 → Prop} (r7 : r.1 7 ≤ 9) (hf : ∀ l, l < r.1 7 → f l = nI (g l)) (h : Q (nI (zso g x (r.1 7)))) : ∀ m l, l + m = r.1 7 → wp_X8_sumOver_kt8_c5 vx f (encG r) Q (m + 1) x (nI (zso g x l)) (nI l)
  | 0, l, e => by
    obtain rfl : l = r.1 7 := by omega
    unfold wp_X8_sumOver_kt8_c5
    rw [encG_1, rl_eT (nI_le (Nat.le_refl _) (by omega))]
    exact h
  | m + 1, l, e => by
    have IH := q_so8 (vx := vx) r7 hf h m (l + 1) (by omega)
    have el := hf l (by omega)
    unfold zso at IH
    unfold wp_X8_sumOver_kt8_c5 wp_X8_sumOver_kt8_c36
    rw [encG_1, rl_eF (nI_ge (by omega) (by omega))]
    simp (disch := omega) only [w_at, jat_nI, el, forall_eq, nI_add, nI_1]
    by_cases c : (x >>> (nI l &&& 31)) &&& 1 = 1
    · rw [if_pos c] at IH
      rw [rl_fT c]
      exact IH
    · rw [if_neg c] at IH
      rw [rl_fF c]
      exact IH
/-- the best set of those below i -/
def zdn (a b q i : Nat) : Option (Nat × Nat) → Option (Nat × Nat)
  | none => if b ≤ q then some (i, a) else none
  | some p => if b ≤ q ∧ a < p.2 then some (i, a) else some p
noncomputable def zdb (sh nd : Nat → Nat) (L q : Nat) : Nat → Option (Nat × Nat)
  | 0 => none
  | i + 1 => zdn (zso sh (nI i) L) (zsn nd (nI i) L) q i (zdb sh nd L q i)
def cB : Option (Nat × Nat) → Int32
  | none => 0
  | some p => nI p.1
def cL : Option (Nat × Nat) → Int32
  | none => 2147483647
  | some p => nI p.2
def mB : Option (Nat × Nat) → Int32
  | none => -1
  | some p => nI p.1
def mL : Option (Nat × Nat) → Int32
  | none => 0
  | some p => nI p.2
theorem zdb_lt (sh nd : Nat → Nat) (L q : Nat) (hsh : ∀ i, i < L → sh i ≤ 99) : ∀ i p, zdb sh nd L q i = some p → p.1 < i ∧ p.2 ≤ 99 * L
  | 0, p, h => by cases h
  | i + 1, p, h => by
    unfold zdb at h
    have hz := zso_le (x := nI i) L hsh
    cases e : zdb sh nd L q i with
    | none =>
      rw [e] at h
      unfold zdn at h
      dsimp only at h
      by_cases c : zsn nd (nI i) L ≤ q
      · rw [if_pos c] at h
        cases h
        exact ⟨Nat.lt_succ_self _, hz⟩
      · rw [if_neg c] at h
        cases h
    | some p' =>
      have := zdb_lt sh nd L q hsh i p' e
      rw [e] at h
      unfold zdn at h
      dsimp only at h
      by_cases c : zsn nd (nI i) L ≤ q ∧ zso sh (nI i) L < p'.2
      · rw [if_pos c] at h
        cases h
        exact ⟨Nat.lt_succ_self _, hz⟩
      · rw [if_neg c] at h
        cases h
        exact ⟨by omega, this.2⟩
theorem zdb_some (sh nd : Nat → Nat) {L : Nat} (q : Nat) (hL : L ≤ 9) : ∃ p, zdb sh nd L q (2 ^ L) = some p := by
  have hp := rl_p9 hL
  obtain ⟨i, ei⟩ : ∃ i, 2 ^ L = i + 1 := ⟨2 ^ L - 1, by omega⟩
  have e0 : zsn nd (nI i) L = 0 := by
    have := zsn_all (g := nd) hL L (Nat.le_refl _)
    rw [ei] at this
    exact this
  rw [ei]
  unfold zdb zdn
  cases zdb sh nd L q i with
  | none => exact ⟨_, if_pos (by omega)⟩
  | some p =>
    by_cases c : zsn nd (nI i) L ≤ q ∧ zso sh (nI i) L < p.2
    · exact ⟨_, if_pos c⟩
    · exact ⟨_, if_neg c⟩
theorem q_dk_loop {r s : Ns} {vx : Vl} {f : Nat → Int32} {nd : Nat → Nat} {q : Nat} {Q : Int32 → (Nat → Int32) → Prop} (hr : WfR r) (hq : q ≤ 99999) (hf : ∀ l, l < r.1 7 → f l = nI (nd l)) (hn : ∀ l, l < r.1 7 → nd l ≤ 51579) (h : Q (cB (zdb (r.2 4) nd (r.1 7) q (2 ^ r.1 7))) f) :
    ∀ m i, i + m = 2 ^ r.1 7 → wp_X8_darken_c66 vx (encS s) (encG r) Q (m + 1) f (nI q) (cB (zdb (r.2 4) nd (r.1 7) q i)) (cL (zdb (r.2 4) nd (r.1 7) q i)) (nI i)
  | 0, i, e => by
    have hp := rl_p9 hr.1
    obtain rfl : i = 2 ^ r.1 7 := by omega
    unfold wp_X8_darken_c66
    rw [encG_1, rl_shl hr.1, rl_eT (nI_le (Nat.le_refl _) (by omega))]
    exact h
  | m + 1, i, e => by
    have r7 := hr.1
    have hp := rl_p9 hr.1
    have rl := hr.2.2.2.2.2.2.2.2.2.2.2.2.2.2
    have IH := q_dk_loop (vx := vx) (s := s) hr hq hf hn h m (i + 1) (by omega)
    have b1 := zso_le (g := r.2 4) (m := 99) (x := nI i) (r.1 7) (fun l hl => (rl l hl).2.2.2.2)
    have b2 := zsn_le (g := nd) (m := 51579) (x := nI i) (r.1 7) hn
    unfold zdb at IH
    unfold wp_X8_darken_c66 wp_X8_darken_c125
    rw [encG_1, rl_shl r7, rl_eF (nI_ge (by omega) (by omega))]
    refine ⟨r.1 7 + 1, q_so4 r7 ?_ (r.1 7) 0 (by omega)⟩
    simp only [forall_eq, nI_1]
    have sec : ∀ A B : Prop, (if zsn nd (nI i) (r.1 7) ≤ q then A else B) → wp_X8_sumOver_kt8 vx f (encG r) (nI i ^^^ (-1)) (fun r_3 => ((nI q < r_3 → B) ∧ (¬ nI q < r_3 → A))) := by
      intro A B hAB
      refine ⟨r.1 7 + 1, q_so8 r7 hf ?_ (r.1 7) 0 (by omega)⟩
      rw [zso_not (by omega) _ r7]
      by_cases c : zsn nd (nI i) (r.1 7) ≤ q
      · rw [if_pos c] at hAB
        rw [rl_eF (nI_nlt c (by omega))]
        exact hAB
      · rw [if_neg c] at hAB
        rw [rl_eT (nI_lt (by omega) (by omega))]
        exact hAB
    cases ez : zdb (r.2 4) nd (r.1 7) q i with
    | none =>
      rw [ez] at IH
      unfold zdn at IH
      dsimp only at IH
      rw [rl_eF (show ¬ cL none ≤ nI (zso (r.2 4) (nI i) (r.1 7)) from nI_ge (b := 2147483647) (by omega) (by omega))]
      refine sec _ _ ?_
      by_cases c : zsn nd (nI i) (r.1 7) ≤ q
      · rw [if_pos c] at IH ⊢
        exact IH
      · rw [if_neg c] at IH ⊢
        exact IH
    | some p =>
      have hp2 := zdb_lt (r.2 4) nd (r.1 7) q (fun l hl => (rl l hl).2.2.2.2) i p ez
      rw [ez] at IH
      unfold zdn at IH
      dsimp only at IH
      by_cases c2 : zso (r.2 4) (nI i) (r.1 7) < p.2
      · rw [rl_eF (show ¬ cL (some p) ≤ nI (zso (r.2 4) (nI i) (r.1 7)) from nI_ge c2 (by omega))]
        refine sec _ _ ?_
        by_cases c : zsn nd (nI i) (r.1 7) ≤ q
        · rw [if_pos ⟨c, c2⟩] at IH
          rw [if_pos c]
          exact IH
        · rw [if_neg (fun z => c z.1)] at IH
          rw [if_neg c]
          exact IH
      · rw [rl_eT (show cL (some p) ≤ nI (zso (r.2 4) (nI i) (r.1 7)) from nI_le (by omega) (by omega))]
        rw [if_neg (fun z => c2 z.2)] at IH
        exact IH
theorem m_dk_in {r : Ns} {w : Vl} {nd : Nat → Nat} {q : Nat} {o : Option (Nat × Nat)} {Q : Int32 → Vl → Prop} {B : Vl → Int32 → Int32 → Int32 → Int32 → Prop} {i : Nat} (hr : WfR r) (hm : MR r w) (hq : q ≤ 99999) (hf : ∀ l, l < r.1 7 → w.2.2.1 51 l = nI (nd l)) (hn : ∀ l, l < r.1 7 → nd l ≤ 51579) (ho : ∀ p, o = some p → p.1 < 512 ∧ p.2 ≤ 891)
    (h : B w (nI q) (mB (zdn (zso (r.2 4) (nI i) (r.1 7)) (zsn nd (nI i) (r.1 7)) q i o)) (mL (zdn (zso (r.2 4) (nI i) (r.1 7)) (zsn nd (nI i) (r.1 7)) q i o)) (nI (i + 1))) :
    ∀ m l, l + m = r.1 7 → wp_X9_darken_c83 Q B (m + 1) w (nI q) (mB o) (mL o) (nI i) (nI (zsn nd (nI i) l)) (nI (zso (r.2 4) (nI i) l)) (nI l)
  | 0, l, e => by
    obtain rfl : l = r.1 7 := by omega
    have r7 := hr.1
    have rl := hr.2.2.2.2.2.2.2.2.2.2.2.2.2.2
    have b1 := zso_le (g := r.2 4) (m := 99) (x := nI i) (r.1 7) (fun l hl => (rl l hl).2.2.2.2)
    have b2 := zsn_le (g := nd) (m := 51579) (x := nI i) (r.1 7) hn
    unfold wp_X9_darken_c83 wp_X9_darken_c175 wp_X9_darken_c171 wp_X9_darken_c176 wp_X9_darken_c189 wp_X9_darken_c202
    rw [hm.1, rl_eT (nI_le (Nat.le_refl _) (by omega))]
    simp only [forall_eq, nI_1, rl_b00, rl_b01, true_implies, not_true_eq_false, false_implies, and_true]
    by_cases c : zsn nd (nI i) (r.1 7) ≤ q
    · rw [rl_eF (nI_nlt c (by omega))]
      cases o with
      | none =>
        unfold zdn at h
        dsimp only at h
        rw [if_pos c] at h
        rw [rl_eT (show mB none < 0 by decide)]
        exact h
      | some p =>
        have hp := ho p rfl
        unfold zdn at h
        dsimp only at h
        rw [rl_eF (show ¬ mB (some p) < 0 from nI_pos (by omega))]
        by_cases c2 : zso (r.2 4) (nI i) (r.1 7) < p.2
        · rw [if_pos ⟨c, c2⟩] at h
          rw [rl_eF (show ¬ mL (some p) ≤ nI (zso (r.2 4) (nI i) (r.1 7)) from nI_ge c2 (by omega))]
          exact h
        · rw [if_neg (fun z => c2 z.2)] at h
          rw [rl_eT (show mL (some p) ≤ nI (zso (r.2 4) (nI i) (r.1 7)) from nI_le (by omega) (by omega))]
          exact h
    · rw [rl_eT (nI_lt (by omega) (by omega))]
      cases o with
      | none =>
        unfold zdn at h
        dsimp only at h
        rw [if_neg c] at h
        exact h
      | some p =>
        unfold zdn at h
        dsimp only at h
        rw [if_neg (fun z => c z.1)] at h
        exact h
  | m + 1, l, e => by
    have r7 := hr.1
    have IH := m_dk_in (Q := Q) hr hm hq hf hn ho h m (l + 1) (by omega)
    have e4 := hm.2.2.2.2.2.2.2.2.2 l (by omega) 4 (by omega)
    have e51 := hf l (by omega)
    have ea0 : ∀ z, nI z + 0 = nI (z + 0) := fun z => nI_add z 0
    unfold zsn zso at IH
    unfold wp_X9_darken_c83 wp_X9_darken_c115 wp_X9_darken_c145 wp_X9_has
    rw [hm.1, rl_eF (nI_ge (by omega) (by omega))]
    simp (disch := omega) only [forall_eq, lit32 5, lit32 4, pk_mul, nI_add, nI_clamp, vp_inN, e4, e51, nI_1, ea0, rl_b00, rl_b01, true_implies, not_true_eq_false, false_implies, and_true]
    by_cases c : (nI i >>> (nI l &&& 31)) &&& 1 = 1
    · rw [if_pos c, if_pos c] at IH
      simp only [rl_fT c, rl_b00, rl_b01, true_implies, not_true_eq_false, false_implies, and_true]
      exact ⟨by omega, IH⟩
    · rw [if_neg c, if_neg c] at IH
      simp only [rl_fF c, rl_b00, rl_b01, true_implies, not_true_eq_false, false_implies, and_true]
      exact ⟨by omega, IH⟩
theorem m_dk_loop {r : Ns} {w : Vl} {nd : Nat → Nat} {q : Nat} {Q : Int32 → Vl → Prop} (hr : WfR r) (hm : MR r w) (hq : q ≤ 99999) (hf : ∀ l, l < r.1 7 → w.2.2.1 51 l = nI (nd l)) (hn : ∀ l, l < r.1 7 → nd l ≤ 51579) (h : Q (mB (zdb (r.2 4) nd (r.1 7) q (2 ^ r.1 7))) w) :
    ∀ m i, i + m = 2 ^ r.1 7 → wp_X9_darken_c63 Q (m + 1) w (nI q) (mB (zdb (r.2 4) nd (r.1 7) q i)) (mL (zdb (r.2 4) nd (r.1 7) q i)) (nI i)
  | 0, i, e => by
    have hp := rl_p9 hr.1
    obtain rfl : i = 2 ^ r.1 7 := by omega
    unfold wp_X9_darken_c63
    rw [hm.1, rl_shl hr.1, rl_eT (nI_le (Nat.le_refl _) (by omega))]
    exact h
  | m + 1, i, e => by
    have r7 := hr.1
    have hp := rl_p9 hr.1
    have rl := hr.2.2.2.2.2.2.2.2.2.2.2.2.2.2
    have IH := m_dk_loop hr hm hq hf hn h m (i + 1) (by omega)
    unfold zdb at IH
    unfold wp_X9_darken_c63
    rw [hm.1, rl_shl r7, rl_eF (nI_ge (by omega) (by omega))]
    refine ⟨r.1 7 + 1, m_dk_in hr hm hq hf hn (fun p ep => ?_) IH (r.1 7) 0 (by omega)⟩
    have := zdb_lt (r.2 4) nd (r.1 7) q (fun l hl => (rl l hl).2.2.2.2) i p ep
    omega
theorem q_dk_row {r s : Ns} {vx : Vl} {q n : Nat} {Q : Int32 → (Nat → Int32) → Prop} (hr : WfR r) (hs : WfS r s 0 0) (hd : s.1 12 ≤ 12900) (hn : n ≤ 99) (hq : q ≤ 99999) (h : ∀ f, Q (cB (zdb (r.2 4) (zns r s n) (r.1 7) q (2 ^ r.1 7))) f) :
    ∀ m l f, l + m = r.1 7 → (∀ j, j < l → f j = nI (zns r s n j)) → wp_X8_darken_c26 vx (encS s) (encG r) Q (m + 1) f (nI q) (nI n) (nI l)
  | 0, l, f, e, hf => by
    obtain rfl : l = r.1 7 := by omega
    have r7 := hr.1
    have hp := rl_p9 hr.1
    unfold wp_X8_darken_c26
    rw [encG_1, rl_eT (nI_le (Nat.le_refl _) (by omega))]
    refine ⟨2 ^ r.1 7 + 1, q_dk_loop hr hq hf (fun l hl => ?_) (h f) (2 ^ r.1 7) 0 (by omega)⟩
    have := zns_le (s := s) (n := n) hr hl
    omega
  | m + 1, l, f, e, hf => by
    have r7 := hr.1
    have sl := hs.2.2.2.2.2.2.2.2.2.2.2 l (by omega)
    unfold wp_X8_darken_c26
    rw [encG_1, rl_eF (nI_ge (by omega) (by omega))]
    refine q_nn hr (by omega) sl.2.1 hd hn ?_
    simp (disch := omega) only [w_put, jput_nI, forall_eq, nI_1]
    refine q_dk_row hr hs hd hn hq h m (l + 1) _ (by omega) (fun j hj => ?_)
    rw [upd_a]
    by_cases c : j = l
    · rw [if_pos c, c]
    · rw [if_neg c]
      exact hf j (by omega)
theorem m_dk_row {r s : Ns} {w0 : Vl} {q n : Nat} {Q : Int32 → Vl → Prop} (hr : WfR r) (hm : MR r w0) (ms : MS r s 0 0 w0) (hs : WfS r s 0 0) (hd : s.1 12 ≤ 12900) (hn : n ≤ 99) (hq : q ≤ 99999) (h : ∀ w', fr [] [] [51] [] w0 w' → Q (mB (zdb (r.2 4) (zns r s n) (r.1 7) q (2 ^ r.1 7))) w') :
    ∀ m l w, l + m = r.1 7 → fr [] [] [51] [] w0 w → (∀ j, j < l → w.2.2.1 51 j = nI (zns r s n j)) → wp_X9_darken_c29 Q (m + 1) w (nI q) (nI n) (nI l)
  | 0, l, w, e, f, hf => by
    obtain rfl : l = r.1 7 := by omega
    have r7 := hr.1
    have hp := rl_p9 hr.1
    have hm' := MR_fr hm f (by decide) (by decide)
    unfold wp_X9_darken_c29
    rw [hm'.1, rl_eT (nI_le (Nat.le_refl _) (by omega))]
    refine ⟨2 ^ r.1 7 + 1, m_dk_loop hr hm' hq hf (fun l hl => ?_) (h w f) (2 ^ r.1 7) 0 (by omega)⟩
    have := zns_le (s := s) (n := n) hr hl
    omega
  | m + 1, l, w, e, f, hf => by
    have r7 := hr.1
    have sl := hs.2.2.2.2.2.2.2.2.2.2.2 l (by omega)
    have hm' := MR_fr hm f (by decide) (by decide)
    have ms' := MS_fr ms f (by decide) (by decide) (by decide)
    have a14 := (ms'.2.2.2.2.2.2.2.2.2.2.2.2 l (by omega)).2.1
    unfold wp_X9_darken_c29
    rw [hm'.1, rl_eF (nI_ge (by omega) (by omega))]
    refine ⟨n + 1, m_nn_loop hr hm' ms'.2.2.2.2.2.2.2.1 a14 (by omega) sl.2.1 hd hn ?_ n 0 (by omega)⟩
    simp (disch := omega) only [nI_clamp, vp_inN, forall_eq, nI_1]
    refine ⟨by omega, m_dk_row hr hm ms hs hd hn hq h m (l + 1) _ (by omega) (fr_A f _ _ (by decide)) (fun j hj => ?_)⟩
    rw [sA_3, if_pos rfl, upd_a]
    by_cases c : j = l
    · rw [if_pos c, c]
    · rw [if_neg c]
      exact hf j (by omega)
theorem p_darken {c : Nat} {r s : Ns} {vx x1 x9 w : Vl} {f : Nat → Int32} (x y : Int32) (hc : c ≤ 64) (hR : IR r x9 w) (hS : IS c r s x1 w) : ∃ z, (∀ Q : Int32 → (Nat → Int32) → Prop, (∀ f', Q z f') → wp_X8_darken vx x1 f x9 x y Q) ∧ (∀ Q : Int32 → Vl → Prop, (∀ w', fr [] [] [51] [] w w' → Q z w') → wp_X9_darken w x y Q) := by
  obtain ⟨e9, wr, mr⟩ := hR
  obtain ⟨e1, ws, hd, ms, ml⟩ := hS
  subst e9 e1
  unfold wp_X8_darken wp_X9_darken
  rcases rl_rg x 0 99999 (by omega) (by omega) with ⟨q, q0, hq, rfl⟩ | ⟨h1, h2⟩
  · rcases rl_rg y 1 99 (by omega) (by omega) with ⟨n, n1, hn, rfl⟩ | ⟨h1, h2⟩
    · obtain ⟨p, ep⟩ := zdb_some (r.2 4) (zns r s n) q wr.1
      refine ⟨nI p.1, fun Q h => ?_, fun Q h => ?_⟩
      · refine (rl_dy (b := 99999) hq (by decide)).mpr (rl_cy n1 hn (by decide) ⟨r.1 7 + 1, ?_⟩)
        refine q_dk_row wr ws (by omega) hn hq (fun f' => ?_) (r.1 7) 0 f (by omega) (fun j hj => absurd hj (Nat.not_lt_zero _))
        rw [ep]
        exact h f'
      · rw [rl_iy q0 hq (by omega) (by decide +kernel) (by decide +kernel), rl_b01, rl_iy n1 hn (by omega) (by decide +kernel) (by decide +kernel), rl_b11]
        refine ⟨r.1 7 + 1, m_dk_row wr mr ms ws (by omega) hn hq (fun w' fw => ?_) (r.1 7) 0 w (by omega) (fr_r w) (fun j hj => absurd hj (Nat.not_lt_zero _))⟩
        rw [ep]
        exact h w' fw
    · refine ⟨-1000000002, fun Q h => ?_, fun Q h => ?_⟩
      · exact (rl_dy (b := 99999) hq (by decide)).mpr (rl_cn h1 (h f))
      · rw [rl_iy q0 hq (by omega) (by decide +kernel) (by decide +kernel), rl_b01, rl_ino h2 (by decide +kernel) (by decide +kernel), rl_b10]
        exact h w (fr_r w)
  · refine ⟨-1000000002, fun Q h => ?_, fun Q h => ?_⟩
    · exact rl_dn (b := 99999) h2 (h f)
    · rw [rl_ino h2 (by decide +kernel) (by decide +kernel), rl_b00]
      exact h w (fr_r w)
