/-! ===== reef: odds ===== -/
def GO (r : Ns) (i : Nat) : Prop := (r.1 7 ≤ 9 ∧ 1 ≤ r.1 8 ∧ r.1 8 ≤ 99 ∧ 1 ≤ r.1 9 ∧ r.1 9 ≤ 999 ∧ r.1 10 ≤ 9999 ∧ r.1 11 ≤ 99 ∧ 1 ≤ r.1 12 ∧ r.1 12 ≤ 99 ∧ 1 ≤ r.1 13 ∧ r.1 13 ≤ 12 ∧ (∀ i, i < r.1 13 → r.2 5 i ≤ 24) ∧ (∀ l, l < r.1 7 → r.2 0 l ≤ 4 ∧ r.2 1 l ≤ 99 ∧ r.2 2 l ≤ 99 ∧ r.2 3 l ≤ 999 ∧ r.2 4 l ≤ 99)) ∧ r.1 14 < 32 ∧ (∀ j, j < i → r.2 6 j ≤ 100) ∧ (∀ t, 3 * t + 3 ≤ i → r.2 6 (3 * t) + r.2 6 (3 * t + 1) + r.2 6 (3 * t + 2) = 100)
theorem GO_0 {r : Ns} (h : GR r) : GO r 0 := by
  obtain ⟨⟨r7, r8, r8', r9, r9', r10, r11, r12, r12', r13, r13', ra, rb, rc, rl⟩, r14⟩ := h
  exact ⟨⟨r7, r8, r8', r9, r9', r10, r11, r12, r12', r13, r13', ra, rl⟩, r14, fun j hj => absurd hj (Nat.not_lt_zero _), fun t ht => absurd ht (by omega)⟩
theorem GO_9 {r : Ns} (h : GO r 9) : GR r := by
  obtain ⟨⟨r7, r8, r8', r9, r9', r10, r11, r12, r12', r13, r13', ra, rl⟩, r14, rb, rc⟩ := h
  exact ⟨⟨r7, r8, r8', r9, r9', r10, r11, r12, r12', r13, r13', ra, rb, fun t ht => rc t (by omega), rl⟩, r14⟩
theorem GO_s {r : Ns} {i x : Nat} (h : GO r i) (hx : x ≤ 100) (h2 : i % 3 = 2 → r.2 6 (i - 2) + r.2 6 (i - 1) + x = 100) : GO (za r 6 i x) (i + 1) := by
  obtain ⟨g, r14, rb, rc⟩ := h
  have e : ∀ k, k ≠ 6 → (za r 6 i x).2 k = r.2 k := fun k hk => za_n _ _ _ hk
  have e6 : ∀ j, j ≠ i → (za r 6 i x).2 6 j = r.2 6 j := fun j hj => za_r _ _ _ _ hj
  unfold GO
  rw [za_1, e 5 (by decide), e 0 (by decide), e 1 (by decide), e 2 (by decide), e 3 (by decide), e 4 (by decide)]
  refine ⟨g, r14, fun j hj => ?_, fun t ht => ?_⟩
  · by_cases c : j = i
    · rw [c, za_s]; exact hx
    · rw [e6 j c]; exact rb j (by omega)
  · by_cases c : 3 * t + 3 = i + 1
    · have q := h2 (by omega)
      have e2 : 3 * t + 2 = i := by omega
      rw [e2, za_s, e6 _ (by omega), e6 _ (by omega)]
      have e3 : 3 * t = i - 2 := by omega
      have e4 : 3 * t + 1 = i - 1 := by omega
      rw [e4, e3]
      exact q
    · rw [e6 _ (by omega), e6 _ (by omega), e6 _ (by omega)]
      exact rc t (by omega)
def tg (r : Ns) (i : Nat) : Nat := if i % 3 = 0 then 0 else if i % 3 = 1 then r.2 6 (i - 1) else r.2 6 (i - 2) + r.2 6 (i - 1)
theorem tg_s {r : Ns} {i x : Nat} : (i % 3 ≠ 2 → tg (za r 6 i x) (i + 1) = tg r i + x) ∧ (i % 3 = 2 → tg (za r 6 i x) (i + 1) = 0 ∧ tg r i = r.2 6 (i - 2) + r.2 6 (i - 1)) := by
  unfold tg
  have : i % 3 = 0 ∨ i % 3 = 1 ∨ i % 3 = 2 := by omega
  rcases this with c | c | c
  · refine ⟨fun _ => ?_, fun q => absurd q (by omega)⟩
    rw [if_neg (by omega), if_pos (by omega), if_pos c, Nat.add_sub_cancel, za_s, Nat.zero_add]
  · refine ⟨fun _ => ?_, fun q => absurd q (by omega)⟩
    have e : i + 1 - 2 = i - 1 := by omega
    rw [if_neg (by omega), if_neg (by omega), if_neg (by omega), if_pos c, Nat.add_sub_cancel, za_s, e, za_r _ _ _ _ (by omega)]
  · refine ⟨fun q => absurd c q, fun _ => ⟨?_, ?_⟩⟩
    · rw [if_pos (by omega)]
    · rw [if_neg (by omega), if_neg (by omega)]
theorem PM_44 {b : Nat → Nat} {n p i x : Nat} {r : Ns} {w : Vl} (h : PM b n r p w) : PM b n (za r 6 i x) p (setA w 44 i (nI x)) := by
  obtain ⟨a1, h33, h39, h40, h41, h42, h43, h44, h45⟩ := h
  unfold PM
  rw [za_1]
  refine ⟨a1, h33, h39, fun l hl k hk => ?_, h41, h42, ?_, fun j hj => ?_, h45⟩
  · rw [za_n _ _ _ (by omega)]; exact h40 l hl k hk
  · rw [za_n _ _ _ (by decide)]; exact h43
  · rw [sA_3, if_pos rfl, upd_a]
    by_cases c : j = i
    · rw [if_pos c, c, za_s]
    · rw [if_neg c, za_r _ _ _ _ c]; exact h44 j hj
theorem o_loop {b : Nat → Nat} {n : Nat} (T : Tx b n) : ∀ m i p r, i + m = 9 → p ≤ n → GO r i →
    (∃ f pl, 1 ≤ f ∧ f ≤ 4 ∧ pl ≤ n ∧ (∀ v1, TC b n p v1 → ∀ Q : Int32 → Vl → Vl → Prop, (∀ r' u, FC f pl u → Q 0 (encG r') u) → wp_X3_readChances_c4 Q (m + 1) (encG r) v1 (nI (tg r i)) (nI i)) ∧ (∀ w, PM b n r p w → ∀ Q : Int32 → Vl → Prop, (∀ w', FM pl w' → frR w w' → Q (nI f) w') → wp_X9_takeOdds_c2 Q (m + 1) w (nI i))) ∨
    (∃ r' p', GR r' ∧ p ≤ p' ∧ p' ≤ n ∧ (∀ v1, TC b n p v1 → ∀ Q : Int32 → Vl → Vl → Prop, (∀ u, TC b n p' u → Q 1 (encG r') u) → wp_X3_readChances_c4 Q (m + 1) (encG r) v1 (nI (tg r i)) (nI i)) ∧ (∀ w, PM b n r p w → ∀ Q : Int32 → Vl → Prop, (∀ w', PM b n r' p' w' → frR w w' → Q 0 w') → wp_X9_takeOdds_c2 Q (m + 1) w (nI i))) := by
  intro m
  induction m with
  | zero =>
    intro i p r ei hp hr
    obtain rfl : i = 9 := by omega
    refine Or.inr ⟨r, p, GO_9 hr, Nat.le_refl _, hp, fun v1 hv Q h => ?_, fun w hw Q h => ?_⟩
    · unfold wp_X3_readChances_c4
      rw [rl_eT (show (9 : Int32) ≤ nI 9 by decide)]
      exact h v1 hv
    · unfold wp_X9_takeOdds_c2
      rw [rl_eT (show (9 : Int32) ≤ nI 9 by decide)]
      exact h w hw (fr_r w)
  | succ m ih =>
    intro i p r ei hp hr
    have hn := T.1
    have h9 : ¬ (9 : Int32) ≤ nI i := nI_ge (b := 9) (by omega) (by omega)
    have em : nI i - nI i / 3 * 3 = nI (i % 3) := by rw [lit32 3, pk_rem (by omega) (by omega) (by omega)]
    have i9 : vp_in (nI i) 9 := vp_in_nI (by omega) (by decide)
    have ei1 : 1 ≤ i → nI i - 1 = nI (i - 1) := fun q => pk_sub (b := 1) q
    have ei2 : 2 ≤ i → nI i - 2 = nI (i - 2) := fun q => pk_sub (b := 2) q
    have h3 : i % 3 < 3 := Nat.mod_lt _ (by omega)
    rcases num_cases b n 0 100 p with ⟨f, pl, hb⟩ | ⟨x, e, hb⟩
    · have hbl := bad_le hp hb
      refine Or.inl ⟨f, pl, hbl.1, hbl.2.1, hbl.2.2, fun v1 hv Q h => ?_, fun w hw Q h => ?_⟩
      · unfold wp_X3_readChances_c4
        rw [rl_eF h9]
        refine q_num_f (lo := 0) (hi := 100) T hp hv hb (by omega) (by omega) (fun u hu => ?_)
        rw [rl_b10]
        exact h r u hu
      · unfold wp_X9_takeOdds_c2 wp_X9_into_kt_44
        rw [rl_eF h9, em]
        refine m_num_f (lo := 0) (hi := 100) T hp hw.1 hb (by omega) (by omega) (fun u hu fu => ⟨i9, ?_⟩)
        intro v ev
        subst ev
        have fin : ∀ s0, wp_X9_takeOdds_c62 Q (wp_X9_takeOdds_c2 Q (m + 1)) (setA u 44 (Int32.toNatClampNeg (nI i)) (u.1 37)) (nI i) (nI f) s0 := by
          intro s0
          unfold wp_X9_takeOdds_c62 wp_X9_takeOdds_c71
          rw [rl_eT (show (0 : Int32) < nI f from nI_lt (a := 0) (by omega) (by omega)), rl_eF (nI_nle (by omega) (by omega))]
          exact h _ hu (fr_A (fr_m fu (by decide) (by decide) (by decide) (by decide)) _ _ (by decide))
        refine ⟨fun _ => fin 0, fun q => ?_⟩
        have hi2 : i % 3 = 2 := (nI_eq (b := 2) (by omega) (by omega)).mp q
        rw [ei1 (by omega), ei2 (by omega)]
        exact ⟨i9, vp_in_nI (by omega) (by decide), vp_in_nI (by omega) (by decide), fun _ => fin 0, fun _ => fin 1⟩
    · have hbl := num_le hp hb
      have cst : ∀ v1, TC b n p v1 → ∀ Q : Int32 → Vl → Vl → Prop, (∀ u, TC b n e u → u.1 5 = nI (zE isB b n p) → ((¬ nI (i % 3) = 2 → wp_X3_readChances_c4 Q (m + 1) (encG (za r 6 i x)) u (nI (tg r i + x)) (nI (i + 1))) ∧ (nI (i % 3) = 2 → ((nI (tg r i + x) = 100 → wp_X3_readChances_c4 Q (m + 1) (encG (za r 6 i x)) u 0 (nI (i + 1))) ∧ (¬ nI (tg r i + x) = 100 → wp_X7_fail u 4 (u.1 5) (fun r_8 u_7 => narrow .boolean (.int r_8) = .int r_8 ∧ Q r_8 (encG (za r 6 i x)) u_7)))))) → wp_X3_readChances_c4 Q (m + 1 + 1) (encG r) v1 (nI (tg r i)) (nI i) := by
        intro v1 hv Q h
        unfold wp_X3_readChances_c4
        rw [rl_eF h9]
        refine q_num_s (lo := 0) (hi := 100) T hp hv hb (by omega) (fun u hu h4 h5 f' => ?_)
        rw [rl_b11, h4, w_put (by decide), encG_r, jput_row _ _ (by omega) (by decide), em]
        intro v2 ev2 x5 ex5
        rw [encG_setRA] at ev2
        rw [nI_add] at ex5
        subst ev2 ex5
        unfold wp_X3_readChances_c69
        have hh := h u hu h5
        refine ⟨fun q => ?_, fun q => ⟨fun q2 => ?_, fun q2 => ?_⟩⟩
        · intro x6 ex6
          rw [ex6, nI_1]
          exact hh.1 q
        · intro x6 ex6
          rw [ex6, nI_1]
          exact (hh.2 q).1 q2
        · exact (hh.2 q).2 q2
      have mst : ∀ w, PM b n r p w → ∀ Q : Int32 → Vl → Prop, (∀ u, PM b n (za r 6 i x) e u → u.1 38 = nI (zE isB b n p) → frR w u → ((¬ nI (i % 3) = 2 → wp_X9_takeOdds_c2 Q (m + 1) u (nI (i + 1))) ∧ (nI (i % 3) = 2 → ((nI (x + r.2 6 (i - 1) + r.2 6 (i - 2)) = 100 → wp_X9_takeOdds_c2 Q (m + 1) u (nI (i + 1))) ∧ (¬ nI (x + r.2 6 (i - 1) + r.2 6 (i - 2)) = 100 → wp_X9_fails u 4 (u.1 38) (fun r_4 u_3 => Q r_4 u_3)))))) → wp_X9_takeOdds_c2 Q (m + 1 + 1) w (nI i) := by
        intro w hw Q h
        unfold wp_X9_takeOdds_c2 wp_X9_into_kt_44
        rw [rl_eF h9, em]
        refine m_num_s (lo := 0) (hi := 100) T hp hw.1 hb (by omega) (fun u hu h37 h38 fu => ⟨i9, ?_⟩)
        rw [h37, nI_clamp (by omega)]
        intro v ev
        subst ev
        have hu2 := PM_44 (i := i) (x := x) (PM_fr hw fu hu (by decide) (by decide))
        have hh := h _ hu2 h38 (fr_A (fr_m fu (by decide) (by decide) (by decide) (by decide)) _ _ (by decide))
        have h44 := hu2.2.2.2.2.2.2.2.1
        unfold wp_X9_takeOdds_c61 wp_X9_takeOdds_c62 wp_X9_takeOdds_c71
        refine ⟨fun q => ?_, fun q => ?_⟩
        · rw [rl_eF (by decide), rl_b00]
          intro x5 ex5
          rw [ex5, nI_1]
          exact hh.1 q
        · have hi2 : i % 3 = 2 := (nI_eq (b := 2) (by omega) (by omega)).mp q
          rw [ei1 (by omega), ei2 (by omega), nI_clamp (by omega), nI_clamp (by omega), h44 i (by omega), h44 (i - 1) (by omega), h44 (i - 2) (by omega), za_s, za_r _ _ _ _ (by omega), za_r _ _ _ _ (by omega), nI_add, nI_add]
          refine ⟨i9, vp_in_nI (by omega) (by decide), vp_in_nI (by omega) (by decide), fun q2 => ?_, fun q2 => ?_⟩
          · rw [rl_eF (by decide), rl_b00]
            intro x5 ex5
            rw [ex5, nI_1]
            exact (hh.2 q).1 q2
          · rw [rl_eF (by decide), rl_b01, rl_eT (by decide)]
            exact (hh.2 q).2 q2
      have rb := hr.2.2.1
      by_cases c2 : i % 3 = 2
      · have t2 := (tg_s (r := r) (i := i) (x := x)).2 c2
        have b1 := rb (i - 1) (by omega)
        have b2 := rb (i - 2) (by omega)
        have q2 : nI (i % 3) = 2 := by rw [c2]; rfl
        by_cases c100 : r.2 6 (i - 2) + r.2 6 (i - 1) + x = 100
        · have q100 : nI (tg r i + x) = 100 := by rw [t2.2, c100]; rfl
          have p100 : nI (x + r.2 6 (i - 1) + r.2 6 (i - 2)) = 100 := by
            have : x + r.2 6 (i - 1) + r.2 6 (i - 2) = 100 := by omega
            rw [this]; rfl
          rcases ih (i + 1) e (za r 6 i x) (by omega) hbl.2.1 (GO_s hr hbl.2.2.2.1 (fun _ => c100)) with ⟨f, pl, f1, f4, hpl, hC, hM⟩ | ⟨r', p', hr', hpp, hpn, hC, hM⟩
          · rw [t2.1] at hC
            refine Or.inl ⟨f, pl, f1, f4, hpl, fun v1 hv Q h => cst v1 hv Q (fun u hu h5 => ⟨fun q => absurd q2 q, fun _ => ⟨fun _ => hC u hu Q h, fun q => absurd q100 q⟩⟩), fun w hw Q h => mst w hw Q (fun u hu h38 fu => ⟨fun q => absurd q2 q, fun _ => ⟨fun _ => hM u hu Q (fun w' hw' f' => h w' hw' (fr_t fu f')), fun q => absurd p100 q⟩⟩)⟩
          · rw [t2.1] at hC
            refine Or.inr ⟨r', p', hr', by omega, hpn, fun v1 hv Q h => cst v1 hv Q (fun u hu h5 => ⟨fun q => absurd q2 q, fun _ => ⟨fun _ => hC u hu Q h, fun q => absurd q100 q⟩⟩), fun w hw Q h => mst w hw Q (fun u hu h38 fu => ⟨fun q => absurd q2 q, fun _ => ⟨fun _ => hM u hu Q (fun w' hw' f' => h w' hw' (fr_t fu f')), fun q => absurd p100 q⟩⟩)⟩
        · have q100 : ¬ nI (tg r i + x) = 100 := fun q => c100 (by rw [t2.2] at q; exact (nI_eq (b := 100) (by omega) (by omega)).mp q)
          have p100 : ¬ nI (x + r.2 6 (i - 1) + r.2 6 (i - 2)) = 100 := fun q => c100 (by have := (nI_eq (b := 100) (by omega) (by omega)).mp q; omega)
          refine Or.inl ⟨4, zE isB b n p, by omega, by omega, zE_le hp, fun v1 hv Q h => cst v1 hv Q (fun u hu h5 => ⟨fun q => absurd q2 q, fun _ => ⟨fun q => absurd q q100, fun _ => ?_⟩⟩), fun w hw Q h => mst w hw Q (fun u hu h38 fu => ⟨fun q => absurd q2 q, fun _ => ⟨fun q => absurd q p100, fun _ => ?_⟩⟩)⟩
          · rw [h5]
            exact q_fail (f := 4) (fun u' hu' _ => ⟨nar0, h _ u' hu'⟩)
          · rw [h38]
            exact m_fails (f := 4) (fun u' hu' f' => h u' hu' (fr_t fu (fr_m f' (by decide) (by decide) (by decide) (by decide))))
      · have t1 := (tg_s (r := r) (i := i) (x := x)).1 c2
        have q2 : ¬ nI (i % 3) = 2 := fun q => c2 ((nI_eq (b := 2) (by omega) (by omega)).mp q)
        rcases ih (i + 1) e (za r 6 i x) (by omega) hbl.2.1 (GO_s hr hbl.2.2.2.1 (fun q => absurd q c2)) with ⟨f, pl, f1, f4, hpl, hC, hM⟩ | ⟨r', p', hr', hpp, hpn, hC, hM⟩
        · rw [t1] at hC
          refine Or.inl ⟨f, pl, f1, f4, hpl, fun v1 hv Q h => cst v1 hv Q (fun u hu h5 => ⟨fun _ => hC u hu Q h, fun q => absurd q q2⟩), fun w hw Q h => mst w hw Q (fun u hu h38 fu => ⟨fun _ => hM u hu Q (fun w' hw' f' => h w' hw' (fr_t fu f')), fun q => absurd q q2⟩)⟩
        · rw [t1] at hC
          refine Or.inr ⟨r', p', hr', by omega, hpn, fun v1 hv Q h => cst v1 hv Q (fun u hu h5 => ⟨fun _ => hC u hu Q h, fun q => absurd q q2⟩), fun w hw Q h => mst w hw Q (fun u hu h38 fu => ⟨fun _ => hM u hu Q (fun w' hw' f' => h w' hw' (fr_t fu f')), fun q => absurd q q2⟩)⟩
theorem ls_odds {b : Nat → Nat} {n p : Nat} {r : Ns} (T : Tx b n) (hr : GR r) (hp : p ≤ n) : rLS b n r p wp_X3_readChances wp_X9_takeOdds := by
  have et : tg r 0 = 0 := rfl
  rcases o_loop T 9 0 p r (by omega) hp (GO_0 hr) with ⟨f, pl, f1, f4, hpl, hC, hM⟩ | ⟨r', p', hr', hpp, hpn, hC, hM⟩
  · exact Or.inl ⟨f, pl, f1, f4, hpl, fun v1 hv Q h => ⟨_, hC v1 hv Q h⟩, fun w hw Q h => ⟨_, hM w hw Q h⟩⟩
  · exact Or.inr ⟨r', p', hr', hpp, hpn, fun v1 hv Q h => ⟨_, hC v1 hv Q h⟩, fun w hw Q h => ⟨_, hM w hw Q h⟩⟩
/-! a clause's end -/
def tk (K Q : Int32 → Vl → Vl → Prop) : Prop := (∀ a u, Q 0 a u → K 0 a u) ∧ (∀ a u, wp_X7_readSign u 59 (fun r9 u8 => ((¬ r9 = 0 → Q 1 a u8) ∧ (r9 = 0 → Q 0 a u8))) → K 1 a u)
def rLSt (b : Nat → Nat) (n : Nat) (r : Ns) (p : Nat) (C : Vl → Vl → (Int32 → Vl → Vl → Prop) → Prop) (M : Vl → (Int32 → Vl → Prop) → Prop) : Prop :=
  (∃ f pl, 1 ≤ f ∧ f ≤ 4 ∧ pl ≤ n ∧ (∀ v1, TC b n p v1 → ∀ K Q : Int32 → Vl → Vl → Prop, tk K Q → (∀ r' u, FC f pl u → Q 0 (encG r') u) → C (encG r) v1 K) ∧ (∀ w, PM b n r p w → ∀ Q : Int32 → Vl → Prop, (∀ w', FM pl w' → frR w w' → Q (nI f) w') → M w (fun f u => wp_X9_takeClause_c296 Q u f))) ∨
  (∃ r' p', GR r' ∧ p < p' ∧ p' ≤ n ∧ (∀ v1, TC b n p v1 → ∀ K Q : Int32 → Vl → Vl → Prop, tk K Q → (∀ u, TC b n p' u → Q 1 (encG r') u) → C (encG r) v1 K) ∧ (∀ w, PM b n r p w → ∀ Q : Int32 → Vl → Prop, (∀ w', PM b n r' p' w' → frR w w' → Q 0 w') → M w (fun f u => wp_X9_takeClause_c296 Q u f)))
theorem c296_f {Q : Int32 → Vl → Prop} {u : Vl} {f : Nat} (f1 : 1 ≤ f) (f4 : f ≤ 4) (h : Q (nI f) (setI u 34 (u.1 34 + 1))) : wp_X9_takeClause_c296 Q u (nI f) := by
  unfold wp_X9_takeClause_c296 wp_X9_takeClause_c320
  rw [rl_fF (nI_ne0 (by omega) (by omega))]
  simp only [forall_eq]
  exact h
theorem c296_s {b : Nat → Nat} {n p : Nat} {r : Ns} {w : Vl} {Q : Int32 → Vl → Prop} (T : Tx b n) (hp : p ≤ n) (h : PM b n r p w) (hs : zE isB b n p < n ∧ b (zE isB b n p) = 59) (hQ : ∀ w', PM b n r (zE isB b n p + 1) w' → frR w w' → Q 0 w') : wp_X9_takeClause_c296 Q w 0 := by
  unfold wp_X9_takeClause_c296 wp_X9_takeClause_c320
  rw [rl_b10]
  refine m_here T hp h.1 (fun u hu fu => ?_)
  rw [if_pos hs.1, hs.2, rl_eT (show nI 59 = 59 from rfl), hu.2.1, nI_1]
  intro v ev
  rw [ev]
  have f2 : fr [34] [] [] [] w (setI u 34 (nI (zE isB b n p + 1))) := fr_I fu _ (by decide)
  exact hQ _ (PM_fr h f2 (TM_set hu) (by decide) (by decide)) (fr_m f2 (by decide) (by decide) (by decide) (by decide))
theorem c296_n {b : Nat → Nat} {n p : Nat} {r : Ns} {w : Vl} {Q : Int32 → Vl → Prop} (T : Tx b n) (hp : p ≤ n) (h : PM b n r p w) (hs : ¬ (zE isB b n p < n ∧ b (zE isB b n p) = 59)) (hQ : ∀ w', FM (zE isB b n p) w' → frR w w' → Q (nI 1) w') : wp_X9_takeClause_c296 Q w 0 := by
  unfold wp_X9_takeClause_c296 wp_X9_takeClause_c320
  rw [rl_b10]
  refine m_here T hp h.1 (fun u hu fu => ?_)
  have hne59 : ¬ (if zE isB b n p < n then nI (b (zE isB b n p)) else -1) = 59 := by
    by_cases c1 : zE isB b n p < n
    · have hb2 := T.2 _ c1
      rw [if_pos c1]
      exact fun q => hs ⟨c1, (nI_eq (b := 59) (by omega) (by omega)).mp q⟩
    · rw [if_neg c1]
      decide
  rw [rl_eF hne59, hu.2.1]
  exact m_fails (f := 1) (fun u2 hu2 f2 => hQ u2 hu2 (fr_t (fr_m fu (by decide) (by decide) (by decide) (by decide)) (fr_m f2 (by decide) (by decide) (by decide) (by decide))))
theorem ls_tail {b : Nat → Nat} {n p : Nat} {r : Ns} {C : Vl → Vl → (Int32 → Vl → Vl → Prop) → Prop} {M : Vl → (Int32 → Vl → Prop) → Prop} (T : Tx b n) (h : rLS b n r p C M) : rLSt b n r p C M := by
  rcases h with ⟨f, pl, f1, f4, hpl, hC, hM⟩ | ⟨r', p', hr', hpp, hpn, hC, hM⟩
  · refine Or.inl ⟨f, pl, f1, f4, hpl, fun v1 hv K Q ht h => hC v1 hv K (fun r' u hu => ht.1 _ _ (h r' u hu)), fun w hw Q h => hM w hw _ (fun w' hw' f' => c296_f f1 f4 (h _ hw' (fr_I f' _ (by decide))))⟩
  · have g1 := zE_ge isB b n p'
    have g2 := zE_le (P := isB) (b := b) hpn
    by_cases hs : zE isB b n p' < n ∧ b (zE isB b n p') = 59
    · refine Or.inr ⟨r', zE isB b n p' + 1, hr', by omega, hs.1, fun v1 hv K Q ht h => hC v1 hv K (fun u hu => ht.2 _ _ ?_), fun w hw Q h => hM w hw _ (fun w' hw' f' => ?_)⟩
      · refine q_sign_s (c := 59) T hpn hu hs (fun u' hu' f' => ?_)
        rw [rl_b11]
        exact h u' hu'
      · exact c296_s T hpn hw' hs (fun w2 hw2 f2 => h w2 hw2 (fr_t f' f2))
    · refine Or.inl ⟨1, zE isB b n p', by omega, by omega, g2, fun v1 hv K Q ht h => hC v1 hv K (fun u hu => ht.2 _ _ ?_), fun w hw Q h => hM w hw _ (fun w' hw' f' => ?_)⟩
      · refine q_sign_f (c := 59) T hpn hu (by omega) hs (fun u' hu' => ?_)
        rw [rl_b10]
        exact h r' u' hu'
      · exact c296_n T hpn hw' hs (fun w2 hw2 f2 => h w2 hw2 (fr_t f' f2))
