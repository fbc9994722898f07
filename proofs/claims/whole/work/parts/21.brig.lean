/-! ===== THE BRIG ===== -/
theorem rl_10 {n : Nat} (hn : n ≤ 9) : n = 0 ∨ n = 1 ∨ n = 2 ∨ n = 3 ∨ n = 4 ∨ n = 5 ∨ n = 6 ∨ n = 7 ∨ n = 8 ∨ n = 9 := by omega
theorem rl_sm {n : Nat} (hn : n ≤ 9) : ((nI n &&& 31).toBitVec.smod 32).toNat = n := by
  rcases rl_10 hn with rfl | rfl | rfl | rfl | rfl | rfl | rfl | rfl | rfl | rfl <;> decide +kernel
theorem rl_p9 {n : Nat} (hn : n ≤ 9) : 1 ≤ 2 ^ n ∧ 2 ^ n ≤ 512 := ⟨Nat.one_le_two_pow, Nat.pow_le_pow_right (by omega) hn⟩
theorem rl_shl {n : Nat} (hn : n ≤ 9) : (1 : Int32) <<< (nI n &&& 31) = nI (2 ^ n) := by
  have := rl_p9 hn
  have e := pk_shlN (n := 1) (nI n &&& 31) n (rl_sm hn) (by omega)
  rw [Nat.one_mul] at e
  exact e
theorem rl_shr {n j : Nat} (hn : n ≤ 9) (hj : j < 2 ^ 31) : nI j >>> (nI n &&& 31) = nI (j / 2 ^ n) := pk_shrN hj _ _ (rl_sm hn)
theorem rl_dy {j b : Nat} {N R : Prop} (h : j ≤ b) (hb : b < 2 ^ 31) : ((nI j < 0 → N) ∧ (¬ nI j < 0 → ((nI b < nI j → N) ∧ (¬ nI b < nI j → R)))) ↔ R := by
  rw [rl_eF (nI_pos (by omega)), rl_eF (nI_nlt h hb)]
theorem rl_dn {x : Int32} {b : Nat} {N R : Prop} (h : ¬ (nI 0 ≤ x ∧ x ≤ nI b)) (hN : N) : ((x < 0 → N) ∧ (¬ x < 0 → ((nI b < x → N) ∧ (¬ nI b < x → R)))) := by
  refine ⟨fun _ => hN, fun q => ⟨fun _ => hN, fun q2 => absurd ⟨?_, ?_⟩ h⟩⟩
  · obtain ⟨j, hj, rfl⟩ := nI_of q
    exact nI_pos' hj
  · rw [rl_lt_not] at q2
    exact Classical.not_not.mp q2
theorem p_say {r : Ns} {a b : Nat → Nat} {n f : Nat} {vx x6 x9 w : Vl} (x : Int32) (hf : f ≤ 1) (hR : IR r x9 w) (hB : IB a b n x6 w) : ∃ z u w' a' b' n', (∀ Q : Int32 → Vl → Prop, Q z u → wp_X8_say vx x6 x9 x (nI f) Q) ∧ (∀ Q : Int32 → Vl → Prop, Q z w' → wp_X9_say w x (nI f) Q) ∧ IB a' b' n' u w' ∧ fr [56] [] [57, 58] [] w w' := by
  obtain ⟨e9, wr, mr⟩ := hR
  have mr0 := mr.1
  have r7 := wr.1
  subst e9
  have hB' := hB
  obtain ⟨b1, b2, b3, b4⟩ := hB'
  have hp := rl_p9 r7
  unfold wp_X8_say wp_X9_say
  rw [mr0, encG_1, rl_shl r7]
  have em : nI (2 ^ r.1 7) - 1 = nI (2 ^ r.1 7 - 1) := pk_sub (b := 1) hp.1
  rw [em]
  rcases rl_rg x 0 (2 ^ r.1 7 - 1) (by omega) (by omega) with ⟨j, j0, hj, rfl⟩ | ⟨h1, h2⟩
  · have ed : j / 2 ^ r.1 7 = 0 := Nat.div_eq_of_lt (by omega)
    by_cases h12 : n = 12
    · refine ⟨-1000000004, x6, w, a, b, n, fun Q h => ?_, fun Q h => ?_, hB, fr_r w⟩
      · rw [rl_eF (nI_pos (by omega)), rl_shr r7 (by omega), ed, rl_eT (show nI 0 = 0 from rfl), b1, h12, rl_eF (by decide)]
        exact h
      · rw [rl_iy j0 hj (by omega) (by decide +kernel) rfl, rl_b11, b2, h12, rl_fT (show nI 12 = 12 from rfl)]
        exact h
    · have hn : n < 12 := by omega
      refine ⟨nI (n + 1), setI (setRA (setRA x6 0 (upd (x6.2.2.1 0) n (nI j))) 1 (upd (x6.2.2.1 1) n (nI f))) 2 (nI (n + 1)), setI (setA (setA w 57 n (nI j)) 58 n (nI f)) 56 (nI (n + 1)), va_up a n j, va_up b n f, n + 1, fun Q h => ?_, fun Q h => ?_, ⟨rfl, rfl, by omega, fun i hi => ?_⟩, fr_I (fr_A (fr_A (fr_r w) _ _ (by decide)) _ _ (by decide)) _ (by decide)⟩
      · rw [rl_eF (nI_pos (by omega)), rl_shr r7 (by omega), ed, rl_eT (show nI 0 = 0 from rfl), b1, rl_eT (show nI n < 12 from nI_lt (b := 12) hn (by omega))]
        unfold wp_X1_add wp_X1_add_c29
        have e2 : (setRA x6 0 (upd (x6.2.2.1 0) n (nI j))).1 2 = nI n := b1
        have e3 : ∀ g, (setRA (setRA x6 0 (upd (x6.2.2.1 0) n (nI j))) 1 g).1 2 = nI n := fun _ => b1
        have e4 : (setRA x6 0 (upd (x6.2.2.1 0) n (nI j))).2.2.1 1 = x6.2.2.1 1 := rfl
        simp (disch := omega) only [w_put, b1, jput_nI, forall_eq, e2, e3, e4, nI_1]
        have : f = 0 ∨ f = 1 := by omega
        rcases this with rfl | rfl
        · exact ⟨fun _ => h, fun q => absurd rfl q⟩
        · exact ⟨fun q => absurd q (by decide), fun _ => h⟩
      · rw [rl_iy j0 hj (by omega) (by decide +kernel) rfl, rl_b11, b2, rl_nar hf, rl_fF (show ¬ nI n = 12 from fun q => h12 ((nI_eq (b := 12) (by omega) (by omega)).mp q))]
        have e2 : (setA w 57 n (nI j)).1 56 = nI n := b2
        have e3 : (setA (setA w 57 n (nI j)) 58 n (nI f)).1 56 = nI n := b2
        simp (disch := omega) only [nI_clamp, forall_eq, e2, e3, nI_1, vp_inN, sI_1, ↓reduceIte]
        exact ⟨hn, hn, h⟩
      · show upd (x6.2.2.1 0) n (nI j) i = _ ∧ upd (x6.2.2.1 1) n (nI f) i = _ ∧ upd (w.2.2.1 57) n (nI j) i = _ ∧ upd (w.2.2.1 58) n (nI f) i = _ ∧ _
        by_cases e : i = n
        · subst e
          simp only [upd_a, ↓reduceIte, va_up_s]
          exact ⟨trivial, trivial, trivial, trivial, by omega, hf⟩
        · rw [va_up_n _ _ e, va_up_n _ _ e]
          simp only [upd_a, e, ↓reduceIte]
          exact b4 i (by omega)
  · refine ⟨-1000000001, x6, w, a, b, n, fun Q h => ?_, fun Q h => ?_, hB, fr_r w⟩
    · rcases h1 with h1 | ⟨h1, h3⟩
      · rw [rl_eT (show x < 0 from h1)]
        exact h
      · rw [rl_eF (show ¬ x < 0 from h1)]
        obtain ⟨j, hj, rfl⟩ := nI_of h1
        have hj2 : ¬ j ≤ 2 ^ r.1 7 - 1 := fun q => h3 (nI_le q (by omega))
        have hd : 1 ≤ j / 2 ^ r.1 7 := (Nat.le_div_iff_mul_le (by omega)).mpr (by omega)
        have hd2 : j / 2 ^ r.1 7 ≤ j := Nat.div_le_self _ _
        rw [rl_shr r7 hj, rl_eF (nI_ne0 (by omega) (by omega))]
        exact h
    · rw [rl_ino h2 (by decide +kernel) rfl, rl_b10]
      exact h
theorem p_forget {a b : Nat → Nat} {n : Nat} {vx x6 w : Vl} (hB : IB a b n x6 w) : ∃ z u w', (∀ Q : Int32 → Vl → Prop, Q z u → wp_X8_forget vx x6 Q) ∧ (∀ Q : Int32 → Vl → Prop, Q z w' → wp_X9_forget w Q) ∧ IB a b 0 u w' ∧ fr [56] [] [] [] w w' := by
  obtain ⟨b1, b2, b3, b4⟩ := hB
  refine ⟨nI n, setI x6 2 0, setI w 56 0, fun Q h => ?_, fun Q h => ?_, ⟨rfl, rfl, by omega, fun i hi => absurd hi (Nat.not_lt_zero _)⟩, fr_I (fr_r w) _ (by decide)⟩
  · unfold wp_X8_forget wp_X1_clear
    simp only [forall_eq, b1]
    exact h
  · unfold wp_X9_forget
    simp only [forall_eq, b2]
    exact h
def zwr (a b : Nat → Nat) (x : Int32) : Nat → Nat
  | 0 => 0
  | i + 1 => zwr a b x i + (if decide (nI (a i) &&& x = 0) = decide (b i = 1) then 0 else 1)
theorem zwr_le (a b : Nat → Nat) (x : Int32) : ∀ i, zwr a b x i ≤ i
  | 0 => Nat.le_refl _
  | i + 1 => by
    have := zwr_le a b x i
    unfold zwr
    split <;> omega
theorem q_wr_loop {a b : Nat → Nat} {n : Nat} {x6 w : Vl} {x : Int32} {Q : Int32 → Prop} (hB : IB a b n x6 w) (h : Q (nI (zwr a b x n))) : ∀ m i, i + m = n → wp_X1_wrongWith_c4 x6 Q (m + 1) x (nI (zwr a b x i)) (nI i)
  | 0, i, e => by
    have b1 := hB.1
    have b3 := hB.2.2.1
    obtain rfl : i = n := by omega
    unfold wp_X1_wrongWith_c4
    rw [b1, rl_eT (nI_le (Nat.le_refl _) (by omega))]
    exact h
  | m + 1, i, e => by
    have IH := q_wr_loop hB h m (i + 1) (by omega)
    obtain ⟨b1, b2, b3, b4⟩ := hB
    obtain ⟨c1, c2, c3, c4, c5, c6⟩ := b4 i (by omega)
    unfold zwr at IH
    unfold wp_X1_wrongWith_c4 wp_X1_wrongWith_c30 wp_X1_wrongWith_c51 wp_X1_wrongWith_c57
    rw [b1, rl_eF (nI_ge (by omega) (by omega))]
    simp (disch := omega) only [w_at, jat_nI, c1, c2, forall_eq, nI_1]
    have hb : b i = 0 ∨ b i = 1 := by omega
    by_cases g : nI (a i) &&& x = 0
    · rw [rl_fT g]
      rcases hb with hb | hb
      · rw [hb] at IH ⊢
        rw [rl_fF (by decide), rl_eF (by decide)]
        rw [if_neg (by simp [g])] at IH
        exact IH
      · rw [hb] at IH ⊢
        rw [rl_fT (show nI 1 = 1 from rfl), rl_eT trivial]
        rw [if_pos (by simp [g])] at IH
        exact IH
    · rw [rl_fF g]
      rcases hb with hb | hb
      · rw [hb] at IH ⊢
        rw [rl_fF (by decide), rl_eT trivial]
        rw [if_pos (by simp [g])] at IH
        exact IH
      · rw [hb] at IH ⊢
        rw [rl_fT (show nI 1 = 1 from rfl), rl_eF (by decide)]
        rw [if_neg (by simp [g])] at IH
        exact IH
theorem m_wr_loop {a b : Nat → Nat} {n : Nat} {x6 w : Vl} {x : Int32} {Q : Int32 → Prop} (hB : IB a b n x6 w) (h : Q (nI (zwr a b x n))) : ∀ m i, i + m = n → wp_X9_wrongOf_c4 w Q (m + 1) x (nI (zwr a b x i)) (nI i)
  | 0, i, e => by
    have b2 := hB.2.1
    have b3 := hB.2.2.1
    obtain rfl : i = n := by omega
    unfold wp_X9_wrongOf_c4
    rw [b2, rl_eT (nI_le (Nat.le_refl _) (by omega))]
    exact h
  | m + 1, i, e => by
    have IH := m_wr_loop hB h m (i + 1) (by omega)
    obtain ⟨b1, b2, b3, b4⟩ := hB
    obtain ⟨c1, c2, c3, c4, c5, c6⟩ := b4 i (by omega)
    have i12 : vp_in (nI i) 12 := vp_in_nI (by omega) (by decide)
    unfold zwr at IH
    unfold wp_X9_wrongOf_c4 wp_X9_wrongOf_c28 wp_X9_wrongOf_c47
    rw [b2, rl_eF (nI_ge (by omega) (by omega))]
    have ea0 : ∀ z, nI z + 0 = nI (z + 0) := fun z => nI_add z 0
    simp (disch := omega) only [nI_clamp, c3, c4, forall_eq, nI_1, ea0]
    refine ⟨i12, ?_⟩
    have hb : b i = 0 ∨ b i = 1 := by omega
    by_cases g : nI (a i) &&& x = 0
    · rw [rl_fT g]
      refine ⟨i12, ?_⟩
      rcases hb with hb | hb
      · rw [hb] at IH ⊢
        rw [rl_fF (by decide)]
        rw [if_neg (by simp [g])] at IH
        exact IH
      · rw [hb] at IH ⊢
        rw [rl_fT (show (1 : Int32) = nI 1 from rfl)]
        rw [if_pos (by simp [g])] at IH
        exact IH
    · rw [rl_fF g]
      refine ⟨i12, ?_⟩
      rcases hb with hb | hb
      · rw [hb] at IH ⊢
        rw [rl_fT (show (0 : Int32) = nI 0 from rfl)]
        rw [if_pos (by simp [g])] at IH
        exact IH
      · rw [hb] at IH ⊢
        rw [rl_fF (by decide)]
        rw [if_neg (by simp [g])] at IH
        exact IH
/-! bits -/
def zbit (x : Int32) : Nat → Int32
  | 0 => 0
  | i + 1 => zbit x i + ((x >>> (nI i &&& 31)) &&& 1)
def jbc (x : Int32) : Int32 :=
  let a := x - (((Int32.toUInt32 x >>> (Int32.toUInt32 1 &&& Int32.toUInt32 31)).toInt32) &&& 1431655765)
  let b := (a &&& 858993459) + (((Int32.toUInt32 a >>> (Int32.toUInt32 2 &&& Int32.toUInt32 31)).toInt32) &&& 858993459)
  let c := (b + ((Int32.toUInt32 b >>> (Int32.toUInt32 4 &&& Int32.toUInt32 31)).toInt32)) &&& 252645135
  let d := c + ((Int32.toUInt32 c >>> (Int32.toUInt32 8 &&& Int32.toUInt32 31)).toInt32)
  let e := d + ((Int32.toUInt32 d >>> (Int32.toUInt32 16 &&& Int32.toUInt32 31)).toInt32)
  e &&& 63
theorem jbc_zbit : ∀ j, j < 512 → jbc (nI j) = zbit (nI j) 9 := by decide +kernel
theorem q_bc {x : Int32} {Q : Int32 → Prop} (h : Q (jbc x)) : wp_J6_bitCount_0f7a4 x Q := by
  unfold wp_J6_bitCount_0f7a4
  simp only [forall_eq]
  exact h
theorem m_bits_loop {x : Int32} {Q : Int32 → Prop} (h : Q (zbit x 9)) : ∀ m i, i + m = 9 → wp_X9_bits_c4 Q (m + 1) x (zbit x i) (nI i)
  | 0, i, e => by
    obtain rfl : i = 9 := by omega
    unfold wp_X9_bits_c4
    rw [rl_eT (by decide)]
    exact h
  | m + 1, i, e => by
    unfold wp_X9_bits_c4
    rw [rl_eF (show ¬ (9 : Int32) ≤ nI i from nI_ge (b := 9) (by omega) (by omega))]
    simp only [forall_eq, nI_1]
    exact m_bits_loop h m (i + 1) (by omega)
/-! out -/
def zo (a b : Nat → Nat) (n : Nat) (L m e : Nat) : Nat → Int32 × Int32 × Int32
  | 0 => (0, nI (2 ^ L - 1), 0)
  | i + 1 => if zbit (nI i) 9 = nI m ∧ ¬ nI e < nI (zwr a b (nI i) n) then ((zo a b n L m e i).1 + 1, (zo a b n L m e i).2.1 &&& nI i, (zo a b n L m e i).2.2 ||| nI i) else zo a b n L m e i
def zoa (t : Nat) (p : Int32 × Int32 × Int32) : Int32 := if t = 0 then p.1 else if p.1 = 0 then -1 else if t = 1 then p.2.1 else p.2.2
theorem zoa_fin {t : Nat} (ht : t ≤ 2) {p : Int32 × Int32 × Int32} {Q : Int32 → Prop} (h : Q (zoa t p)) : ((¬ nI t = 0 → ((¬ p.1 = 0 → ((¬ nI t = 1 → Q p.2.2) ∧ (nI t = 1 → Q p.2.1))) ∧ (p.1 = 0 → Q (-1)))) ∧ (nI t = 0 → Q p.1)) := by
  unfold zoa at h
  have : t = 0 ∨ t = 1 ∨ t = 2 := by omega
  rcases this with rfl | rfl | rfl
  · exact ⟨fun q => absurd rfl q, fun _ => h⟩
  · refine ⟨fun _ => ?_, fun q => absurd q (by decide)⟩
    rw [if_neg (by decide)] at h
    by_cases c : p.1 = 0
    · rw [if_pos c] at h
      exact ⟨fun q => absurd c q, fun _ => h⟩
    · rw [if_neg c, if_pos rfl] at h
      exact ⟨fun _ => ⟨fun q => absurd rfl q, fun _ => h⟩, fun q => absurd q c⟩
  · refine ⟨fun _ => ?_, fun q => absurd q (by decide)⟩
    rw [if_neg (by decide)] at h
    by_cases c : p.1 = 0
    · rw [if_pos c] at h
      exact ⟨fun q => absurd c q, fun _ => h⟩
    · rw [if_neg c, if_neg (by decide)] at h
      exact ⟨fun _ => ⟨fun _ => h, fun q => absurd q (by decide)⟩, fun q => absurd q c⟩
theorem q_out_loop {r : Ns} {a b : Nat → Nat} {n : Nat} {vx x6 w : Vl} {m e t : Nat} {Q : Int32 → Prop} (r7 : r.1 7 ≤ 9) (ht : t ≤ 2) (hB : IB a b n x6 w) (h : Q (zoa t (zo a b n (r.1 7) m e (2 ^ r.1 7)))) :
    ∀ k i, i + k = 2 ^ r.1 7 → wp_X8_out_c54 vx x6 (encG r) Q (k + 1) (nI m) (nI e) (nI t) (zo a b n (r.1 7) m e i).1 (zo a b n (r.1 7) m e i).2.1 (zo a b n (r.1 7) m e i).2.2 (nI i)
  | 0, i, e1 => by
    have hp := rl_p9 r7
    obtain rfl : i = 2 ^ r.1 7 := by omega
    unfold wp_X8_out_c54
    rw [encG_1, rl_shl r7, rl_eT (nI_le (Nat.le_refl _) (by omega))]
    exact zoa_fin ht h
  | k + 1, i, e1 => by
    have hp := rl_p9 r7
    have IH := q_out_loop (vx := vx) r7 ht hB h k (i + 1) (by omega)
    unfold zo at IH
    unfold wp_X8_out_c54 wp_X8_out_c107
    rw [encG_1, rl_shl r7, rl_eF (nI_ge (by omega) (by omega))]
    refine q_bc ?_
    rw [jbc_zbit i (by omega)]
    simp only [forall_eq, nI_1]
    by_cases c1 : zbit (nI i) 9 = nI m
    · rw [rl_fT c1]
      refine ⟨n + 1, q_wr_loop hB ?_ n 0 (by omega)⟩
      by_cases c2 : nI e < nI (zwr a b (nI i) n)
      · rw [rl_eT c2]
        rw [if_neg (fun q => q.2 c2)] at IH
        exact IH
      · rw [rl_eF c2]
        rw [if_pos ⟨c1, c2⟩] at IH
        exact IH
    · rw [rl_fF c1]
      rw [if_neg (fun q => c1 q.1)] at IH
      exact IH
theorem m_out_loop {r : Ns} {a b : Nat → Nat} {n : Nat} {x6 w : Vl} {m e t : Nat} {Q : Int32 → Prop} (r7 : r.1 7 ≤ 9) (m0 : w.1 0 = nI (r.1 7)) (ht : t ≤ 2) (hB : IB a b n x6 w) (h : Q (zoa t (zo a b n (r.1 7) m e (2 ^ r.1 7)))) :
    ∀ k i, i + k = 2 ^ r.1 7 → wp_X9_out_c58 w Q (k + 1) (nI m) (nI e) (nI t) (zo a b n (r.1 7) m e i).1 (zo a b n (r.1 7) m e i).2.1 (zo a b n (r.1 7) m e i).2.2 (nI i)
  | 0, i, e1 => by
    have hp := rl_p9 r7
    obtain rfl : i = 2 ^ r.1 7 := by omega
    unfold wp_X9_out_c58
    rw [m0, rl_shl r7, rl_eT (nI_le (Nat.le_refl _) (by omega))]
    exact zoa_fin ht h
  | k + 1, i, e1 => by
    have hp := rl_p9 r7
    have IH := m_out_loop r7 m0 ht hB h k (i + 1) (by omega)
    unfold zo at IH
    unfold wp_X9_out_c58 wp_X9_out_c105
    rw [m0, rl_shl r7, rl_eF (nI_ge (by omega) (by omega))]
    refine ⟨10, m_bits_loop ?_ 9 0 (by omega)⟩
    simp only [forall_eq, nI_1]
    by_cases c1 : zbit (nI i) 9 = nI m
    · rw [rl_fT c1]
      refine ⟨n + 1, m_wr_loop hB ?_ n 0 (by omega)⟩
      by_cases c2 : nI e < nI (zwr a b (nI i) n)
      · rw [rl_eT c2]
        rw [if_neg (fun q => q.2 c2)] at IH
        exact IH
      · rw [rl_eF c2]
        rw [if_pos ⟨c1, c2⟩] at IH
        exact IH
    · rw [rl_fF c1]
      rw [if_neg (fun q => c1 q.1)] at IH
      exact IH
theorem p_out {r : Ns} {a b : Nat → Nat} {n : Nat} {vx x6 x9 w : Vl} (x y z : Int32) (hR : IR r x9 w) (hB : IB a b n x6 w) : ∃ v, (∀ Q : Int32 → Prop, Q v → wp_X8_out vx x6 x9 x y z Q) ∧ (∀ Q : Int32 → Prop, Q v → wp_X9_out w x y z Q) := by
  obtain ⟨e9, wr, mr⟩ := hR
  have mr0 := mr.1
  have r7 := wr.1
  subst e9
  have hp := rl_p9 r7
  have em : nI (2 ^ r.1 7) - 1 = nI (2 ^ r.1 7 - 1) := pk_sub (b := 1) hp.1
  unfold wp_X8_out wp_X9_out
  rcases rl_rg x 0 9 (by omega) (by omega) with ⟨m, m0, hm, rfl⟩ | ⟨_, h2⟩
  · rcases rl_rg y 0 12 (by omega) (by omega) with ⟨e, e0, he, rfl⟩ | ⟨_, h2⟩
    · rcases rl_rg z 0 2 (by omega) (by omega) with ⟨t, t0, ht, rfl⟩ | ⟨h1, h2⟩
      · refine ⟨zoa t (zo a b n (r.1 7) m e (2 ^ r.1 7)), fun Q h => ?_, fun Q h => ?_⟩
        · refine (rl_dy (b := 9) hm (by omega)).mpr ((rl_dy (b := 12) he (by omega)).mpr (rl_cy t0 ht (by decide) ?_))
          simp only [forall_eq, encG_1, rl_shl r7, em]
          exact ⟨2 ^ r.1 7 + 1, q_out_loop r7 ht hB h _ 0 (by omega)⟩
        · rw [rl_iy m0 hm (by omega) (by decide +kernel) (by decide +kernel), rl_b01, rl_iy e0 he (by omega) (by decide +kernel) (by decide +kernel), rl_b01, rl_iy t0 ht (by omega) (by decide +kernel) (by decide +kernel), rl_b11]
          simp only [forall_eq, mr0, rl_shl r7, em]
          exact ⟨2 ^ r.1 7 + 1, m_out_loop r7 mr0 ht hB h _ 0 (by omega)⟩
      · refine ⟨-1000000002, fun Q h => ?_, fun Q h => ?_⟩
        · exact (rl_dy (b := 9) hm (by omega)).mpr ((rl_dy (b := 12) he (by omega)).mpr (rl_cn h1 h))
        · rw [rl_iy m0 hm (by omega) (by decide +kernel) (by decide +kernel), rl_b01, rl_iy e0 he (by omega) (by decide +kernel) (by decide +kernel), rl_b01, rl_ino h2 (by decide +kernel) (by decide +kernel), rl_b10]
          exact h
    · refine ⟨-1000000002, fun Q h => ?_, fun Q h => ?_⟩
      · exact (rl_dy (b := 9) hm (by omega)).mpr (rl_dn (b := 12) h2 h)
      · rw [rl_iy m0 hm (by omega) (by decide +kernel) (by decide +kernel), rl_b01, rl_ino h2 (by decide +kernel) (by decide +kernel), rl_b00]
        exact h
  · refine ⟨-1000000002, fun Q h => ?_, fun Q h => ?_⟩
    · exact rl_dn (b := 9) h2 h
    · rw [rl_ino h2 (by decide +kernel) (by decide +kernel), rl_b00]
      exact h
