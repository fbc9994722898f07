/-! ===== NUMBERS, AND THE MODEL'S TOKENS ===== -/
def zval (b : Nat → Nat) (p : Nat) : Nat → Nat
  | 0 => 0
  | i + 1 => 10 * zval b p i + (b (p + i) - 48)
theorem zval_lt {b : Nat → Nat} {p : Nat} : ∀ i, (∀ j, j < i → b (p + j) ≤ 57) → zval b p i < 10 ^ i
  | 0, _ => Nat.zero_lt_one
  | i + 1, h => by
    have h1 := zval_lt (b := b) (p := p) i (fun j hj => h j (by omega))
    have h2 := h i (by omega)
    unfold zval
    rw [Nat.pow_succ]
    omega
def isNum (b : Nat → Nat) (n lo hi p v e : Nat) : Prop := (zE isB b n p < n ∧ isF (b (zE isB b n p)) = true) ∧ e = zE isF b n (zE isB b n p) ∧ e - zE isB b n p ≤ 4 ∧ v = zval b (zE isB b n p) (e - zE isB b n p) ∧ lo ≤ v ∧ v ≤ hi
def isBad (b : Nat → Nat) (n lo hi p f pl : Nat) : Prop := pl = zE isB b n p ∧ ((f = 1 ∧ ¬ (pl < n ∧ isF (b pl) = true)) ∨ (f = 2 ∧ (pl < n ∧ isF (b pl) = true) ∧ (4 < zE isF b n pl - pl ∨ ¬ (lo ≤ zval b pl (zE isF b n pl - pl) ∧ zval b pl (zE isF b n pl - pl) ≤ hi))))
theorem num_cases (b : Nat → Nat) (n lo hi p : Nat) : (∃ f pl, isBad b n lo hi p f pl) ∨ (∃ v e, isNum b n lo hi p v e) := by
  by_cases c : zE isB b n p < n ∧ isF (b (zE isB b n p)) = true
  · by_cases c2 : 4 < zE isF b n (zE isB b n p) - zE isB b n p ∨ ¬ (lo ≤ zval b (zE isB b n p) (zE isF b n (zE isB b n p) - zE isB b n p) ∧ zval b (zE isB b n p) (zE isF b n (zE isB b n p) - zE isB b n p) ≤ hi)
    · exact Or.inl ⟨2, _, rfl, Or.inr ⟨rfl, c, c2⟩⟩
    · refine Or.inr ⟨_, _, c, rfl, by omega, rfl, ?_, ?_⟩ <;> omega
  · exact Or.inl ⟨1, _, rfl, Or.inl ⟨rfl, c⟩⟩
theorem bad_le {b : Nat → Nat} {n lo hi p f pl : Nat} (hp : p ≤ n) (h : isBad b n lo hi p f pl) : 1 ≤ f ∧ f ≤ 4 ∧ pl ≤ n := by
  have := zE_le (P := isB) (b := b) hp
  obtain ⟨e, h⟩ := h
  rw [e]
  rcases h with h | h <;> omega
theorem num_le {b : Nat → Nat} {n lo hi p v e : Nat} (hp : p ≤ n) (h : isNum b n lo hi p v e) : p < e ∧ e ≤ n ∧ lo ≤ v ∧ v ≤ hi ∧ v ≤ 9999 := by
  obtain ⟨h1, h2, h3, h4, h5, h6⟩ := h
  have g1 := zE_ge isB b n p
  have g2 := zE_le (P := isF) (b := b) (Nat.le_of_lt h1.1)
  have g3 := zE_ge isF b n (zE isB b n p + 1)
  rw [← zE_y h1, ← h2] at g3
  rw [← h2] at g2
  have g4 := zval_lt (b := b) (p := zE isB b n p) (e - zE isB b n p) (fun j hj => by
    have := (zE_in (P := isF) (b := b) (n := n) (p := zE isB b n p) (i := zE isB b n p + j) (by omega) (by omega)).2
    exact (of_decide_eq_true this).2)
  have g5 : 10 ^ (e - zE isB b n p) ≤ 10 ^ 4 := Nat.pow_le_pow_right (by omega) h3
  rw [← h4] at g4
  omega
theorem q_num_loop {b : Nat → Nat} {n lo hi p0 e : Nat} {v0 : Vl} {Q : Int32 → Vl → Prop} (T : Tx b n) (hp : p0 < n) (he : e = zE isF b n p0)
    (h1 : e - p0 ≤ 4 → ∀ u, TC b n e u → u.1 4 = nI (zval b p0 (e - p0)) → u.1 5 = nI p0 → fr [2, 4, 5] [] [] [] v0 u → wp_X7_readNumber_c118 Q u (nI lo) (nI hi)) (h2 : 4 < e - p0 → ∀ u, FC 2 p0 u → Q 0 u) :
    ∀ m i v, p0 + i + m = e → i ≤ 4 → TC b n (p0 + i) v → v.1 4 = nI (zval b p0 i) → v.1 5 = nI p0 → fr [2, 4, 5] [] [] [] v0 v → wp_X7_readNumber_c46 Q (m + 1) v (nI lo) (nI hi) (nI (p0 + i)) := by
  intro m
  have hn := T.1
  have hle : e ≤ n := by rw [he]; exact zE_le (Nat.le_of_lt hp)
  have hge : p0 ≤ e := by rw [he]; exact zE_ge isF b n p0
  induction m with
  | zero =>
    intro i v ei hi h h4 h5 f
    have e1 : p0 + i = e := by omega
    have e2 : i = e - p0 := by omega
    have key := h1 (by omega) v (by rw [← e1]; exact h) (by rw [← e2]; exact h4) h5 f
    have hs := zE_stop isF b n p0
    rw [← he, ← e1] at hs
    unfold wp_X7_readNumber_c46
    rw [h.1, w_byteAt T h (by omega), w_fig T, if_neg hs, rl_b00]
    exact ⟨fun _ => key, fun _ => key⟩
  | succ m ih =>
    intro i v ei hi h h4 h5 f
    have hin := zE_in (P := isF) (b := b) (n := n) (p := p0) (i := p0 + i) (by omega) (by rw [← he]; omega)
    have hb := of_decide_eq_true hin.2
    unfold wp_X7_readNumber_c46
    rw [h.1, rl_eF (nI_ge (by omega) (by omega)), w_byteAt T h (by omega), w_fig T, if_pos hin, rl_b01, h5, pk_sub (by omega), w_byteAt T h (by omega), if_pos hin.1]
    by_cases c : i < 4
    · rw [rl_eT (show nI (p0 + i - p0) < 4 from nI_lt (b := 4) (by omega) (by omega)), h4]
      have ev : nI (zval b p0 i) * 10 + nI (b (p0 + i)) - 48 = nI (zval b p0 (i + 1)) := by
        rw [lit32 10, lit32 48, pk_mul, nI_add, pk_sub (by omega)]
        congr 1
        show _ = 10 * zval b p0 i + (b (p0 + i) - 48)
        omega
      simp only [forall_eq, ev, nI_1]
      exact ih (i + 1) _ (by omega) (by omega) ⟨h.1, rfl, h.2.2⟩ rfl h5 (fr_I (fr_I f _ (by decide)) _ (by decide))
    · rw [rl_eF (show ¬ nI (p0 + i - p0) < 4 from nI_nlt (b := 4) (by omega) (by omega))]
      exact q_fail (f := 2) (fun u hu _ => ⟨nar0, h2 (by omega) u hu⟩)
theorem q_num_s {b : Nat → Nat} {n lo hi p x e : Nat} {v : Vl} {Q : Int32 → Vl → Prop} (T : Tx b n) (hp : p ≤ n) (h : TC b n p v) (hN : isNum b n lo hi p x e) (hhi : hi < 2 ^ 30) (hQ : ∀ u, TC b n e u → u.1 4 = nI x → u.1 5 = nI (zE isB b n p) → fr [2, 4, 5] [] [] [] v u → Q 1 u) : wp_X7_readNumber v (nI lo) (nI hi) Q := by
  have hn := T.1
  have hle := zE_le (P := isB) (b := b) hp
  have hl2 := num_le hp hN
  obtain ⟨c1, c2, c3, c4, c5, c6⟩ := hN
  unfold wp_X7_readNumber
  refine q_skip T hp h (fun u hu fu => ?_)
  simp only [forall_eq]
  have hu3 : TC b n (zE isB b n p) (setI u 5 (u.1 2)) := hu
  have e2 : (setI u 5 (u.1 2)).1 2 = nI (zE isB b n p) := hu.2.1
  have e3 : (setI (setI u 5 (u.1 2)) 4 0).1 2 = nI (zE isB b n p) := hu.2.1
  rw [e2, w_byteAt T hu3 (by omega), w_fig T, if_pos c1, rl_b11, e3]
  refine ⟨_, q_num_loop (e := e) T c1.1 c2 (fun _ u' hu' h4 h5 f => ?_) (fun q => absurd q (by omega)) (e - zE isB b n p) 0 (setI (setI u 5 (u.1 2)) 4 0) (by have := zE_ge isF b n (zE isB b n p); omega) (by omega) hu rfl hu.2.1 (fr_I (fr_I (fr_m fu (by decide) (by decide) (by decide) (by decide)) _ (by decide)) _ (by decide))⟩
  unfold wp_X7_readNumber_c118
  rw [← c4] at h4
  rw [h4, rl_eF (nI_nlt c5 (by omega)), rl_eT (nI_le c6 (by omega))]
  exact hQ u' hu' h4 h5 f
theorem q_num_f {b : Nat → Nat} {n lo hi p f pl : Nat} {v : Vl} {Q : Int32 → Vl → Prop} (T : Tx b n) (hp : p ≤ n) (h : TC b n p v) (hN : isBad b n lo hi p f pl) (hhi : hi < 2 ^ 30) (hlo : lo < 2 ^ 30) (hQ : ∀ u, FC f pl u → Q 0 u) : wp_X7_readNumber v (nI lo) (nI hi) Q := by
  have hn := T.1
  have hle := zE_le (P := isB) (b := b) hp
  obtain ⟨c0, cc⟩ := hN
  unfold wp_X7_readNumber
  refine q_skip T hp h (fun u hu fu => ?_)
  simp only [forall_eq]
  have hu3 : TC b n (zE isB b n p) (setI u 5 (u.1 2)) := hu
  have e2 : (setI u 5 (u.1 2)).1 2 = nI (zE isB b n p) := hu.2.1
  have e3 : (setI (setI u 5 (u.1 2)) 4 0).1 2 = nI (zE isB b n p) := hu.2.1
  rw [e2, w_byteAt T hu3 (by omega), w_fig T, e3]
  rw [← c0]
  rcases cc with ⟨f1, c1⟩ | ⟨f2, c1, c2⟩
  · rw [if_neg c1, rl_b10]
    rw [f1] at hQ
    exact q_fail (f := 1) (fun u' hu' _ => ⟨nar0, hQ u' hu'⟩)
  · rw [if_pos c1, rl_b11]
    rw [f2] at hQ
    have hfig : ∀ j, j < zE isF b n pl - pl → b (pl + j) ≤ 57 := fun j hj => by
      have := (zE_in (P := isF) (b := b) (n := n) (p := pl) (i := pl + j) (by omega) (by omega)).2
      exact (of_decide_eq_true this).2
    refine ⟨_, q_num_loop (e := zE isF b n pl) T c1.1 rfl (fun q4 u' hu' h4 h5 f => ?_) (fun _ u' hu' => hQ u' hu') (zE isF b n pl - pl) 0 (setI (setI u 5 (u.1 2)) 4 0) (by have := zE_ge isF b n pl; omega) (by omega) (by rw [c0]; exact hu) rfl (by rw [c0]; exact hu.2.1) (fr_r _)⟩
    have g4 := zval_lt (b := b) (p := pl) (zE isF b n pl - pl) hfig
    have g5 : 10 ^ (zE isF b n pl - pl) ≤ 10 ^ 4 := Nat.pow_le_pow_right (by omega) q4
    have c134 : wp_X7_readNumber_c134 Q u' := by
      unfold wp_X7_readNumber_c134
      rw [h5]
      exact q_fail (f := 2) (fun u2 hu2 _ => rl_b00.mpr (hQ u2 hu2))
    unfold wp_X7_readNumber_c118
    rw [h4]
    simp (disch := omega) only [nI_ltI, nI_leI]
    exact ⟨fun _ => c134, fun q1 => ⟨fun q2 => absurd c2 (by omega), fun _ => c134⟩⟩
/-! the model: here -/
theorem TM_set {b : Nat → Nat} {n p q : Nat} {w : Vl} (h : TM b n p w) : TM b n q (setI w 34 (nI q)) := ⟨h.1, rfl, h.2.2⟩
theorem m_here_c {b : Nat → Nat} {n p : Nat} {w : Vl} {Q : Int32 → Vl → Prop} (T : Tx b n) (hp : p ≤ n) (h : TM b n p w) (hQ : Q (if p < n then nI (b p) else -1) w) : wp_X9_here_c38 Q w := by
  have hn := T.1
  unfold wp_X9_here_c38
  rw [h.1, h.2.1]
  by_cases c : p < n
  · rw [if_pos c] at hQ
    rw [rl_eF (nI_ge c (by omega)), nI_clamp (by omega), h.2.2 p c]
    exact ⟨vp_in_nI (by omega) (by decide), hQ⟩
  · rw [if_neg c] at hQ
    rw [rl_eT (nI_le (by omega) (by omega))]
    exact hQ
theorem m_here_loop {b : Nat → Nat} {n : Nat} {Q : Int32 → Vl → Prop} (T : Tx b n) : ∀ m p w, n - p = m → p ≤ n → TM b n p w → (∀ u, TM b n (zE isB b n p) u → fr [34] [] [] [] w u → Q (if zE isB b n p < n then nI (b (zE isB b n p)) else -1) u) → wp_X9_here_c0 Q (m + 1) w := by
  intro m
  induction m with
  | zero =>
    intro p w e hp h hQ
    have hn := T.1
    rw [zE_n (by omega)] at hQ
    unfold wp_X9_here_c0
    rw [h.1, h.2.1, rl_eT (nI_le (by omega) (by omega))]
    exact m_here_c T hp h (hQ w h (fr_r w))
  | succ m ih =>
    intro p w e hp h hQ
    have hn := T.1
    have hb := T.2 p (by omega)
    unfold wp_X9_here_c0
    rw [h.1, h.2.1, rl_eF (nI_ge (by omega) (by omega)), nI_clamp (by omega), h.2.2 p (by omega)]
    refine ⟨vp_in_nI (by omega) (by decide), ?_⟩
    by_cases c : b p = 32
    · rw [rl_fT (show nI (b p) = 32 by rw [c]; rfl)]
      simp only [forall_eq, nI_1]
      rw [zE_y ⟨by omega, decide_eq_true c⟩] at hQ
      exact ih (p + 1) _ (by omega) (by omega) (TM_set h) (fun u hu fu => hQ u hu (fr_t (fr_I (fr_r w) _ (by decide)) fu))
    · rw [rl_fF (show ¬ nI (b p) = 32 from fun q => c ((nI_eq (b := 32) (by omega) (by omega)).mp q))]
      rw [zE_n (fun q => c (of_decide_eq_true q.2))] at hQ
      exact m_here_c T hp h (hQ w h (fr_r w))
theorem m_here {b : Nat → Nat} {n p : Nat} {w : Vl} {Q : Int32 → Vl → Prop} (T : Tx b n) (hp : p ≤ n) (h : TM b n p w) (hQ : ∀ u, TM b n (zE isB b n p) u → fr [34] [] [] [] w u → Q (if zE isB b n p < n then nI (b (zE isB b n p)) else -1) u) : wp_X9_here w Q := by
  have hn := T.1
  unfold wp_X9_here
  rw [h.1, h.2.1]
  by_cases c0 : p < n
  · have hb := T.2 p c0
    rw [rl_eF (nI_ge c0 (by omega)), nI_clamp (by omega), h.2.2 p c0]
    refine ⟨vp_in_nI (by omega) (by decide), ?_⟩
    by_cases c : b p = 32
    · rw [rl_fT (show nI (b p) = 32 by rw [c]; rfl)]
      simp only [forall_eq, nI_1]
      rw [zE_y ⟨by omega, decide_eq_true c⟩] at hQ
      exact ⟨_, m_here_loop T (n - (p + 1)) (p + 1) _ rfl (by omega) (TM_set h) (fun u hu fu => hQ u hu (fr_t (fr_I (fr_r w) _ (by decide)) fu))⟩
    · rw [rl_fF (show ¬ nI (b p) = 32 from fun q => c ((nI_eq (b := 32) (by omega) (by omega)).mp q))]
      rw [zE_n (fun q => c (of_decide_eq_true q.2))] at hQ
      exact m_here_c T hp h (hQ w h (fr_r w))
  · rw [zE_n (fun q => c0 q.1)] at hQ
    rw [rl_eT (nI_le (by omega) (by omega))]
    exact m_here_c T hp h (hQ w h (fr_r w))
theorem w_mfig {b : Nat → Nat} {n i : Nat} {Q : Int32 → Prop} (T : Tx b n) : wp_X9_in (Int32.toInt64 (if i < n then nI (b i) else -1)) 48 57 Q ↔ Q (if i < n ∧ isF (b i) = true then 1 else 0) := by
  rw [rl_in (a := nI 48) (b := nI 57) (by decide +kernel) (by decide +kernel)]
  have e : (nI 48 ≤ (if i < n then nI (b i) else -1) ∧ (if i < n then nI (b i) else -1) ≤ nI 57) ↔ (i < n ∧ isF (b i) = true) := by
    by_cases c : i < n
    · have hb := T.2 i c
      rw [if_pos c, nI_leI (by omega) (by omega), nI_leI (by omega) (by omega)]
      unfold isF
      exact ⟨fun q => ⟨c, decide_eq_true q⟩, fun q => of_decide_eq_true q.2⟩
    · rw [if_neg c]
      exact ⟨fun q => absurd q.1 (by decide), fun q => absurd q.1 c⟩
  by_cases c : i < n ∧ isF (b i) = true
  · rw [if_pos (e.mpr c), if_pos c]
  · rw [if_neg (fun q => c (e.mp q)), if_neg c]
theorem w_mlet {b : Nat → Nat} {n i : Nat} {Q : Int32 → Prop} (T : Tx b n) : wp_X9_in (Int32.toInt64 (if i < n then nI (b i) else -1)) 97 122 Q ↔ Q (if i < n ∧ isL (b i) = true then 1 else 0) := by
  rw [rl_in (a := nI 97) (b := nI 122) (by decide +kernel) (by decide +kernel)]
  have e : (nI 97 ≤ (if i < n then nI (b i) else -1) ∧ (if i < n then nI (b i) else -1) ≤ nI 122) ↔ (i < n ∧ isL (b i) = true) := by
    by_cases c : i < n
    · have hb := T.2 i c
      rw [if_pos c, nI_leI (by omega) (by omega), nI_leI (by omega) (by omega)]
      unfold isL
      exact ⟨fun q => ⟨c, decide_eq_true q⟩, fun q => of_decide_eq_true q.2⟩
    · rw [if_neg c]
      exact ⟨fun q => absurd q.1 (by decide), fun q => absurd q.1 c⟩
  by_cases c : i < n ∧ isL (b i) = true
  · rw [if_pos (e.mpr c), if_pos c]
  · rw [if_neg (fun q => c (e.mp q)), if_neg c]
theorem m_num_loop {b : Nat → Nat} {n p0 e : Nat} {w0 : Vl} {y1 y2 : Int32} {Q : Int32 → Vl → Prop} (T : Tx b n) (hp : p0 < n) (he : e = zE isF b n p0)
    (h1 : ∀ u, TM b n e u → (e - p0 ≤ 4 → u.1 37 = nI (zval b p0 (e - p0))) → u.1 38 = nI p0 → fr [34, 37] [] [] [] w0 u → wp_X9_takeNumber_c128 Q u y1 y2) :
    ∀ m i w, p0 + i + m = e → TM b n (p0 + i) w → (i ≤ 4 → w.1 37 = nI (zval b p0 i)) → w.1 38 = nI p0 → fr [34, 37] [] [] [] w0 w → wp_X9_takeNumber_c42 Q (m + 1) w y1 y2 := by
  intro m
  have hn := T.1
  have hle : e ≤ n := by rw [he]; exact zE_le (Nat.le_of_lt hp)
  induction m with
  | zero =>
    intro i w ei h h4 h5 f
    have e1 : p0 + i = e := by omega
    have e2 : i = e - p0 := by omega
    have key := h1 w (by rw [← e1]; exact h) (by rw [← e2]; exact h4) h5 f
    have hs := zE_stop isF b n p0
    rw [← he, ← e1] at hs
    unfold wp_X9_takeNumber_c42
    rw [h.1, h.2.1]
    by_cases c : p0 + i < n
    · have hb := w_mfig (b := b) (i := p0 + i) (Q := fun r_9 => ((r_9 = 0 → wp_X9_takeNumber_c128 Q w y1 y2) ∧ (¬ r_9 = 0 → (((w.1 37) ≤ 100000 → vp_in (nI (p0 + i)) 500 ∧ (wp_X9_takeNumber_c112 Q (wp_X9_takeNumber_c42 Q 0) w y1 y2 (((10 * (w.1 37)) + (w.2.2.1 31 (Int32.toNatClampNeg (nI (p0 + i))))) - 48))) ∧ (¬ (w.1 37) ≤ 100000 → wp_X9_takeNumber_c112 Q (wp_X9_takeNumber_c42 Q 0) w y1 y2 (w.1 37)))))) T
      rw [if_pos c] at hb
      rw [rl_eF (nI_ge c (by omega)), nI_clamp (by omega), h.2.2 _ c]
      refine ⟨vp_in_nI (by omega) (by decide), ?_⟩
      rw [nI_clamp (by omega), h.2.2 _ c] at hb
      rw [hb, if_neg hs, rl_b00]
      exact key
    · rw [rl_eT (nI_le (by omega) (by omega))]
      exact key
  | succ m ih =>
    intro i w ei h h4 h5 f
    have hin := zE_in (P := isF) (b := b) (n := n) (p := p0) (i := p0 + i) (by omega) (by rw [← he]; omega)
    have hb57 := of_decide_eq_true hin.2
    have step : ∀ x, (i + 1 ≤ 4 → x = nI (zval b p0 (i + 1))) → wp_X9_takeNumber_c112 Q (wp_X9_takeNumber_c42 Q (m + 1)) w y1 y2 x := by
      intro x hx
      unfold wp_X9_takeNumber_c112
      have e34 : (setI w 37 x).1 34 = nI (p0 + i) := h.2.1
      simp only [forall_eq, e34, nI_1]
      exact ih (i + 1) _ (by omega) ⟨h.1, rfl, h.2.2⟩ hx h5 (fr_I (fr_I f _ (by decide)) _ (by decide))
    have hb := w_mfig (b := b) (i := p0 + i) (Q := fun r_9 => ((r_9 = 0 → wp_X9_takeNumber_c128 Q w y1 y2) ∧ (¬ r_9 = 0 → (((w.1 37) ≤ 100000 → vp_in (nI (p0 + i)) 500 ∧ (wp_X9_takeNumber_c112 Q (wp_X9_takeNumber_c42 Q (m + 1)) w y1 y2 (((10 * (w.1 37)) + nI (b (p0 + i))) - 48))) ∧ (¬ (w.1 37) ≤ 100000 → wp_X9_takeNumber_c112 Q (wp_X9_takeNumber_c42 Q (m + 1)) w y1 y2 (w.1 37)))))) T
    rw [if_pos hin.1] at hb
    unfold wp_X9_takeNumber_c42
    rw [h.1, h.2.1, rl_eF (nI_ge (by omega) (by omega)), nI_clamp (by omega), h.2.2 _ hin.1]
    refine ⟨vp_in_nI (by omega) (by decide), ?_⟩
    rw [hb, if_pos hin, rl_b01]
    by_cases c : i + 1 ≤ 4
    · have hx := h4 (by omega)
      have hfig : ∀ j, j < i → b (p0 + j) ≤ 57 := fun j hj => by
        have := (zE_in (P := isF) (b := b) (n := n) (p := p0) (i := p0 + j) (by omega) (by rw [← he]; omega)).2
        exact (of_decide_eq_true this).2
      have g4 := zval_lt (b := b) (p := p0) i hfig
      have g5 : 10 ^ i ≤ 10 ^ 4 := Nat.pow_le_pow_right (by omega) (by omega)
      rw [hx, rl_eT (show nI (zval b p0 i) ≤ 100000 from nI_le (b := 100000) (by omega) (by omega))]
      refine ⟨vp_in_nI (by omega) (by decide), step _ (fun _ => ?_)⟩
      rw [lit32 10, lit32 48, pk_mul, nI_add, pk_sub (by omega)]
      congr 1
      show _ = 10 * zval b p0 i + (b (p0 + i) - 48)
      omega
    · exact ⟨fun _ => ⟨vp_in_nI (by omega) (by decide), step _ (fun q => absurd q c)⟩, fun _ => step _ (fun q => absurd q c)⟩
/-- the model's fault -/
def FM (pl : Nat) (w : Vl) : Prop := w.1 33 = nI pl
theorem m_num_s {b : Nat → Nat} {n lo hi p x e : Nat} {w : Vl} {Q : Int32 → Vl → Prop} (T : Tx b n) (hp : p ≤ n) (h : TM b n p w) (hN : isNum b n lo hi p x e) (hhi : hi < 2 ^ 30) (hQ : ∀ u, TM b n e u → u.1 37 = nI x → u.1 38 = nI (zE isB b n p) → fr [34, 37, 38] [] [] [] w u → Q 0 u) : wp_X9_takeNumber w (nI lo) (nI hi) Q := by
  have hn := T.1
  have hle := zE_le (P := isB) (b := b) hp
  have hl2 := num_le hp hN
  obtain ⟨c1, c2, c3, c4, c5, c6⟩ := hN
  have hge := zE_ge isF b n (zE isB b n p)
  unfold wp_X9_takeNumber
  refine m_here T hp h (fun u hu fu => ?_)
  rw [w_mfig T, if_pos c1, rl_b11]
  simp only [forall_eq]
  refine ⟨_, m_num_loop (e := e) T c1.1 c2 (fun u' hu' h4 h5 f => ?_) (e - zE isB b n p) 0 (setI (setI u 38 (u.1 34)) 37 0) (by omega) hu (fun _ => rfl) hu.2.1 (fr_r _)⟩
  have h4' := h4 c3
  rw [← c4] at h4'
  unfold wp_X9_takeNumber_c128
  rw [hu'.2.1, h5, pk_sub (by omega), h4', rl_eF (show ¬ (4 : Int32) < nI (e - zE isB b n p) from nI_nlt (a := 4) (by omega) (by omega)), rl_in (a := nI lo) (b := nI hi) rfl rfl, if_pos ⟨nI_le c5 (by omega), nI_le c6 (by omega)⟩, rl_b11]
  exact hQ u' hu' h4' h5 (fr_t (fr_m fu (by decide) (by decide) (by decide) (by decide)) (fr_t (fr_I (fr_I (fr_r u) _ (by decide)) _ (by decide)) (fr_m f (by decide) (by decide) (by decide) (by decide))))
theorem m_fails {f pl : Nat} {w : Vl} {Q : Int32 → Vl → Prop} (h : ∀ u, FM pl u → fr [33] [] [] [] w u → Q (nI f) u) : wp_X9_fails w (nI f) (nI pl) Q := by
  unfold wp_X9_fails
  simp only [forall_eq]
  exact h _ rfl (fr_I (fr_r w) _ (by decide))
theorem m_num_f {b : Nat → Nat} {n lo hi p f pl : Nat} {w : Vl} {Q : Int32 → Vl → Prop} (T : Tx b n) (hp : p ≤ n) (h : TM b n p w) (hN : isBad b n lo hi p f pl) (hhi : hi < 2 ^ 30) (hlo : lo < 2 ^ 30) (hQ : ∀ u, FM pl u → fr [33, 34, 37, 38] [] [] [] w u → Q (nI f) u) : wp_X9_takeNumber w (nI lo) (nI hi) Q := by
  have hn := T.1
  have hle := zE_le (P := isB) (b := b) hp
  obtain ⟨c0, cc⟩ := hN
  unfold wp_X9_takeNumber
  refine m_here T hp h (fun u hu fu => ?_)
  rw [w_mfig T]
  rcases cc with ⟨f1, c1⟩ | ⟨f2, c1, c2⟩
  · rw [c0] at c1
    rw [if_neg c1, rl_b10, hu.2.1]
    rw [f1, c0] at hQ
    exact m_fails (f := 1) (fun u' hu' f' => hQ u' hu' (fr_t (fr_m fu (by decide) (by decide) (by decide) (by decide)) (fr_m f' (by decide) (by decide) (by decide) (by decide))))
  · have c1' := c1
    rw [c0] at c1'
    rw [if_pos c1', rl_b11]
    simp only [forall_eq]
    rw [f2] at hQ
    have hge := zE_ge isF b n pl
    have hle2 := zE_le (P := isF) (b := b) (Nat.le_of_lt c1.1)
    refine ⟨_, m_num_loop (e := zE isF b n pl) T c1.1 rfl (fun u' hu' h4 h5 f => ?_) (zE isF b n pl - pl) 0 (setI (setI u 38 (u.1 34)) 37 0) (by omega) (by rw [c0]; exact hu) (fun _ => rfl) (by rw [c0]; exact hu.2.1) (fr_r _)⟩
    have c156 : wp_X9_takeNumber_c156 Q u' := by
      unfold wp_X9_takeNumber_c156
      rw [h5]
      exact m_fails (f := 2) (fun u2 hu2 f2 => hQ u2 hu2 (fr_t (fr_m fu (by decide) (by decide) (by decide) (by decide)) (fr_t (fr_I (fr_I (fr_r u) _ (by decide)) _ (by decide)) (fr_t (fr_m f (by decide) (by decide) (by decide) (by decide)) (fr_m f2 (by decide) (by decide) (by decide) (by decide))))))
    unfold wp_X9_takeNumber_c128
    rw [hu'.2.1, h5, pk_sub hge]
    by_cases c4 : 4 < zE isF b n pl - pl
    · rw [rl_eT (show (4 : Int32) < nI (zE isF b n pl - pl) from nI_lt (a := 4) c4 (by omega))]
      exact c156
    · have h4' := h4 (by omega)
      have hfig : ∀ j, j < zE isF b n pl - pl → b (pl + j) ≤ 57 := fun j hj => by
        have := (zE_in (P := isF) (b := b) (n := n) (p := pl) (i := pl + j) (by omega) (by omega)).2
        exact (of_decide_eq_true this).2
      have g4 := zval_lt (b := b) (p := pl) (zE isF b n pl - pl) hfig
      have g5 : 10 ^ (zE isF b n pl - pl) ≤ 10 ^ 4 := Nat.pow_le_pow_right (by omega) (by omega)
      rw [rl_eF (show ¬ (4 : Int32) < nI (zE isF b n pl - pl) from nI_nlt (a := 4) (by omega) (by omega)), h4', rl_in (a := nI lo) (b := nI hi) rfl rfl, if_neg, rl_b10]
      · exact c156
      · rw [nI_leI (by omega) (by omega), nI_leI (by omega) (by omega)]
        omega
/-! the model's words -/
def zcod (b : Nat → Nat) (p : Nat) : Nat → Nat
  | 0 => 0
  | i + 1 => if zcod b p i ≤ 10000000000000 then 27 * zcod b p i + (b (p + i) - 96) else 20000000000000
def zKF (f : Nat → Nat) : Nat → Nat
  | 0 => 0
  | i + 1 => 27 * zKF f i + (f i - 96)
theorem zcod_lt {b : Nat → Nat} {p : Nat} : ∀ i, (∀ j, j < i → b (p + j) ≤ 122) → zcod b p i ≤ 270000000000026
  | 0, _ => Nat.zero_le _
  | i + 1, h => by
    have := h i (by omega)
    unfold zcod
    split <;> omega
theorem cod_iff {b : Nat → Nat} {p : Nat} {f : Nat → Nat} : ∀ len m, (∀ i, i < m → 97 ≤ b (p + i) ∧ b (p + i) ≤ 122) → (∀ i, i < len → 97 ≤ f i ∧ f i ≤ 122) → zKF f len ≤ 10000000000000 → (zcod b p m = zKF f len ↔ (m = len ∧ ∀ i, i < len → b (p + i) = f i)) := by
  intro len
  induction len with
  | zero =>
    intro m hm _ _
    cases m with
    | zero => exact ⟨fun _ => ⟨rfl, fun i hi => absurd hi (Nat.not_lt_zero _)⟩, fun _ => rfl⟩
    | succ m =>
      refine ⟨fun q => ?_, fun q => absurd q.1 (by omega)⟩
      have := hm m (by omega)
      unfold zcod zKF at q
      by_cases c : zcod b p m ≤ 10000000000000
      · rw [if_pos c] at q
        omega
      · rw [if_neg c] at q
        omega
  | succ len ih =>
    intro m hm hf hK
    have hl := hf len (by omega)
    have e0 : zKF f (len + 1) = 27 * zKF f len + (f len - 96) := rfl
    cases m with
    | zero =>
      refine ⟨fun q => ?_, fun q => absurd q.1 (by omega)⟩
      have : (0 : Nat) = zKF f (len + 1) := q
      omega
    | succ m =>
      have hmm := hm m (by omega)
      have IH := ih m (fun i hi => hm i (by omega)) (fun i hi => hf i (by omega)) (by omega)
      have e1 : zcod b p (m + 1) = if zcod b p m ≤ 10000000000000 then 27 * zcod b p m + (b (p + m) - 96) else 20000000000000 := rfl
      constructor
      · intro q
        rw [e1, e0] at q
        by_cases c : zcod b p m ≤ 10000000000000
        · rw [if_pos c] at q
          have q1 : zcod b p m = zKF f len := by omega
          have q2 : b (p + m) = f len := by omega
          obtain ⟨h1, h2⟩ := IH.mp q1
          subst h1
          refine ⟨rfl, fun i hi => ?_⟩
          by_cases ci : i = m
          · rw [ci]; exact q2
          · exact h2 i (by omega)
        · rw [if_neg c] at q
          omega
      · rintro ⟨h1, h2⟩
        have hml : m = len := by omega
        subst hml
        have q1 := IH.mpr ⟨rfl, fun i hi => h2 i (by omega)⟩
        rw [e1, e0, if_pos (by omega), q1, h2 m (by omega)]
theorem wl_K : ∀ k, k < 15 → zKF (wf k) (wlen k) ≤ 10000000000000 := by decide +kernel
theorem m_isW {b : Nat → Nat} {n p k : Nat} {x : Int64} (hk : k < 15) (hx : x = lN (zcod b p (zE isL b n p - p))) : (x = lN (zKF (wf k) (wlen k))) ↔ isW b k p (zE isL b n p - p) := by
  have hl : ∀ i, i < zE isL b n p - p → 97 ≤ b (p + i) ∧ b (p + i) ≤ 122 := fun i hi => by
    have := (zE_in (P := isL) (b := b) (n := n) (p := p) (i := p + i) (by omega) (by omega)).2
    exact of_decide_eq_true this
  have h1 := zcod_lt (b := b) (p := p) (zE isL b n p - p) (fun j hj => (hl j hj).2)
  have h2 := wl_K k hk
  rw [hx, pk_lEQ (by omega) (by omega)]
  exact cod_iff (wlen k) _ hl (fun i hi => (wl_byt k hk i hi).2) h2
theorem m_word_loop {b : Nat → Nat} {n p0 : Nat} {w0 : Vl} {Q : Vl → Prop} (T : Tx b n) (hp : p0 ≤ n)
    (h1 : ∀ u, TM b n p0 u → u.1 36 = nI (zE isL b n p0) → u.2.1 35 = lN (zcod b p0 (zE isL b n p0 - p0)) → fr [34, 36] [35] [] [] w0 u → Q u) :
    ∀ m i w, p0 + i + m = zE isL b n p0 → TM b n p0 w → w.1 36 = nI (p0 + i) → w.2.1 35 = lN (zcod b p0 i) → fr [34, 36] [35] [] [] w0 w → wp_X9_readWord_c18 Q (m + 1) w := by
  intro m
  have hn := T.1
  have hle := zE_le (P := isL) (b := b) hp
  induction m with
  | zero =>
    intro i w ei h h36 h35 f
    have e1 : p0 + i = zE isL b n p0 := by omega
    have e2 : i = zE isL b n p0 - p0 := by omega
    have key := h1 w h (by rw [← e1]; exact h36) (by rw [← e2]; exact h35) f
    have hs := zE_stop isL b n p0
    rw [← e1] at hs
    unfold wp_X9_readWord_c18
    rw [h.1, h36]
    by_cases c : p0 + i < n
    · rw [rl_eF (nI_ge c (by omega)), nI_clamp (by omega), h.2.2 _ c]
      refine ⟨vp_in_nI (by omega) (by decide), ?_⟩
      have hb : (if p0 + i < n then nI (b (p0 + i)) else -1) = nI (b (p0 + i)) := if_pos c
      rw [← hb, w_mlet T, if_neg hs, rl_b00]
      exact key
    · rw [rl_eT (nI_le (by omega) (by omega))]
      exact key
  | succ m ih =>
    intro i w ei h h36 h35 f
    have hin := zE_in (P := isL) (b := b) (n := n) (p := p0) (i := p0 + i) (by omega) (by omega)
    have hb122 := of_decide_eq_true hin.2
    have hlt := zcod_lt (b := b) (p := p0) i (fun j hj => by
      have := (zE_in (P := isL) (b := b) (n := n) (p := p0) (i := p0 + j) (by omega) (by omega)).2
      exact (of_decide_eq_true this).2)
    have step : ∀ x, x = lN (zcod b p0 (i + 1)) → wp_X9_readWord_c92 Q (wp_X9_readWord_c18 Q (m + 1)) w x := by
      intro x hx
      unfold wp_X9_readWord_c92
      have e36 : (setJ w 35 x).1 36 = nI (p0 + i) := h36
      simp only [forall_eq, e36, nI_1]
      exact ih (i + 1) _ (by omega) h rfl (by rw [hx]; rfl) (fr_I (fr_J f _ (by decide)) _ (by decide))
    unfold wp_X9_readWord_c18
    rw [h.1, h36, rl_eF (nI_ge (by omega) (by omega)), nI_clamp (by omega), h.2.2 _ hin.1]
    refine ⟨vp_in_nI (by omega) (by decide), ?_⟩
    have hb : wp_X9_in (Int32.toInt64 (nI (b (p0 + i)))) 97 122 (fun r_5 => ((r_5 = 0 → Q w) ∧ (¬ r_5 = 0 → (((w.2.1 35) ≤ 10000000000000 → vp_in (nI (p0 + i)) 500 ∧ (wp_X9_readWord_c92 Q (wp_X9_readWord_c18 Q (m + 1)) w (((27 * (w.2.1 35)) + (Int32.toInt64 (nI (b (p0 + i))))) - 96))) ∧ (¬ (w.2.1 35) ≤ 10000000000000 → wp_X9_readWord_c92 Q (wp_X9_readWord_c18 Q (m + 1)) w 20000000000000))))) := by
      have hb2 : (if p0 + i < n then nI (b (p0 + i)) else -1) = nI (b (p0 + i)) := if_pos hin.1
      rw [← hb2, w_mlet T, if_pos hin, rl_b01, hb2, h35]
      have e0 : zcod b p0 (i + 1) = if zcod b p0 i ≤ 10000000000000 then 27 * zcod b p0 i + (b (p0 + i) - 96) else 20000000000000 := rfl
      rw [lit64N 10000000000000, pk_lLE (by omega) (by omega)]
      refine ⟨fun c => ⟨vp_in_nI (by omega) (by decide), step _ ?_⟩, fun c => step _ ?_⟩
      · rw [e0, if_pos c, nI_l (by omega), lit64N 27, lit64N 96, lN_mul, lN_add, lN_sub (by omega)]
        congr 1
        omega
      · rw [e0, if_neg c]
        rfl
    exact hb
theorem m_word {b : Nat → Nat} {n p : Nat} {w : Vl} {Q : Vl → Prop} (T : Tx b n) (hp : p ≤ n) (h : TM b n p w) (hQ : ∀ u, TM b n (zE isB b n p) u → u.1 36 = nI (zE isL b n (zE isB b n p)) → u.2.1 35 = lN (zcod b (zE isB b n p) (zE isL b n (zE isB b n p) - zE isB b n p)) → fr [34, 36] [35] [] [] w u → Q u) : wp_X9_readWord w Q := by
  have hle := zE_le (P := isB) (b := b) hp
  have hge := zE_ge isL b n (zE isB b n p)
  unfold wp_X9_readWord
  refine m_here T hp h (fun u hu fu => ?_)
  simp only [forall_eq]
  exact ⟨_, m_word_loop T hle (fun u' a1 a2 a3 f => hQ u' a1 a2 a3 (fr_t (fr_m fu (by decide) (by decide) (by decide) (by decide)) (fr_t (fr_I (fr_J (fr_r u) _ (by decide)) _ (by decide)) f))) (zE isL b n (zE isB b n p) - zE isB b n p) 0 _ (by omega) hu hu.2.1 rfl (fr_r _)⟩
theorem w_cd {x0 x1 x2 : Int32} {Q : Int64 → Prop} : wp_X9_code x0 x1 x2 Q ↔ Q (((27 * (((27 * ((Int32.toInt64 x0) - 96)) + (Int32.toInt64 x1)) - 96)) + (Int32.toInt64 x2)) - 96) := Iff.rfl
theorem w_lg {x0 : Int64} {x2 x3 : Int32} {Q : Int64 → Prop} (h : ¬ x3 = 0) : wp_X9_longer x0 x2 x3 Q ↔ Q (((27 * (((27 * x0) + (Int32.toInt64 x2)) - 96)) + (Int32.toInt64 x3)) - 96) := by
  unfold wp_X9_longer
  rw [rl_fF h]
theorem w_lg0 {x0 : Int64} {x2 : Int32} {Q : Int64 → Prop} : wp_X9_longer x0 x2 0 Q ↔ Q (((27 * x0) + (Int32.toInt64 x2)) - 96) := by
  unfold wp_X9_longer
  rw [rl_fT rfl]
theorem w_k9 {Q : Int64 → Prop} : wp_X9_code 108 105 103 (fun r0 => wp_X9_longer r0 104 116 Q) ↔ Q (lN (zKF (wf 9) (wlen 9))) := by
  rw [w_cd, w_lg (by decide)]
  refine iff_of_eq (congrArg Q ?_)
  decide +kernel
theorem w_k10 {Q : Int64 → Prop} : wp_X9_code 98 111 97 (fun r0 => wp_X9_longer r0 116 0 Q) ↔ Q (lN (zKF (wf 10) (wlen 10))) := by
  rw [w_cd, w_lg0]
  refine iff_of_eq (congrArg Q ?_)
  decide +kernel
theorem w_k11 {Q : Int64 → Prop} : wp_X9_code 98 97 114 (fun r0 => wp_X9_longer r0 114 101 (fun r1 => wp_X9_longer r1 108 0 Q)) ↔ Q (lN (zKF (wf 11) (wlen 11))) := by
  rw [w_cd, w_lg (by decide), w_lg0]
  refine iff_of_eq (congrArg Q ?_)
  decide +kernel
theorem w_k12 {Q : Int64 → Prop} : wp_X9_code 104 101 110 (fun r0 => wp_X9_longer r0 115 0 Q) ↔ Q (lN (zKF (wf 12) (wlen 12))) := by
  rw [w_cd, w_lg0]
  refine iff_of_eq (congrArg Q ?_)
  decide +kernel
theorem w_k13 {Q : Int64 → Prop} : wp_X9_code 110 105 103 (fun r0 => wp_X9_longer r0 104 116 Q) ↔ Q (lN (zKF (wf 13) (wlen 13))) := by
  rw [w_cd, w_lg (by decide)]
  refine iff_of_eq (congrArg Q ?_)
  decide +kernel
theorem w_k14 {Q : Int64 → Prop} : wp_X9_code 111 100 100 (fun r0 => wp_X9_longer r0 115 0 Q) ↔ Q (lN (zKF (wf 14) (wlen 14))) := by
  rw [w_cd, w_lg0]
  refine iff_of_eq (congrArg Q ?_)
  decide +kernel
theorem w_k0 {Q : Int64 → Prop} : wp_X9_code 112 108 97 (fun r0 => wp_X9_longer r0 105 110 Q) ↔ Q (lN (zKF (wf 0) (wlen 0))) := by
  rw [w_cd, w_lg (by decide)]
  refine iff_of_eq (congrArg Q ?_)
  decide +kernel
theorem w_k1 {Q : Int64 → Prop} : wp_X9_code 100 111 117 (fun r0 => wp_X9_longer r0 98 108 (fun r1 => wp_X9_longer r1 101 0 Q)) ↔ Q (lN (zKF (wf 1) (wlen 1))) := by
  rw [w_cd, w_lg (by decide), w_lg0]
  refine iff_of_eq (congrArg Q ?_)
  decide +kernel
theorem w_k2 {Q : Int64 → Prop} : wp_X9_code 108 101 97 (fun r0 => wp_X9_longer r0 107 121 Q) ↔ Q (lN (zKF (wf 2) (wlen 2))) := by
  rw [w_cd, w_lg (by decide)]
  refine iff_of_eq (congrArg Q ?_)
  decide +kernel
theorem w_k3 {Q : Int64 → Prop} : wp_X9_code 102 108 111 (fun r0 => wp_X9_longer r0 97 116 (fun r1 => wp_X9_longer r1 105 110 (fun r2 => wp_X9_longer r2 103 0 Q))) ↔ Q (lN (zKF (wf 3) (wlen 3))) := by
  rw [w_cd, w_lg (by decide), w_lg (by decide), w_lg0]
  refine iff_of_eq (congrArg Q ?_)
  decide +kernel
theorem w_k4 {Q : Int64 → Prop} : wp_X9_code 103 97 115 Q ↔ Q (lN (zKF (wf 4) (wlen 4))) := by
  rw [w_cd]
  refine iff_of_eq (congrArg Q ?_)
  decide +kernel
theorem w_k6 {Q : Int64 → Prop} : wp_X9_code 102 105 110 (fun r0 => wp_X9_longer r0 101 0 Q) ↔ Q (lN (zKF (wf 6) (wlen 6))) := by
  rw [w_cd, w_lg0]
  refine iff_of_eq (congrArg Q ?_)
  decide +kernel
theorem w_k7 {Q : Int64 → Prop} : wp_X9_code 114 111 117 (fun r0 => wp_X9_longer r0 103 104 Q) ↔ Q (lN (zKF (wf 7) (wlen 7))) := by
  rw [w_cd, w_lg (by decide)]
  refine iff_of_eq (congrArg Q ?_)
  decide +kernel
theorem w_k8 {Q : Int64 → Prop} : wp_X9_code 105 99 101 Q ↔ Q (lN (zKF (wf 8) (wlen 8))) := by
  rw [w_cd]
  refine iff_of_eq (congrArg Q ?_)
  decide +kernel
