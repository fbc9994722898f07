/-! ===== reef: nights ===== -/
def GN (r : Ns) : Prop := (r.1 7 ≤ 9 ∧ 1 ≤ r.1 8 ∧ r.1 8 ≤ 99 ∧ 1 ≤ r.1 9 ∧ r.1 9 ≤ 999 ∧ r.1 10 ≤ 9999 ∧ r.1 11 ≤ 99 ∧ 1 ≤ r.1 12 ∧ r.1 12 ≤ 99) ∧ r.1 14 < 32 ∧ (∀ i, i < r.1 13 → r.2 5 i ≤ 24) ∧ (∀ i, i < 9 → r.2 6 i ≤ 100) ∧ (∀ i, i < 3 → r.2 6 (3 * i) + r.2 6 (3 * i + 1) + r.2 6 (3 * i + 2) = 100) ∧ (∀ l, l < r.1 7 → r.2 0 l ≤ 4 ∧ r.2 1 l ≤ 99 ∧ r.2 2 l ≤ 99 ∧ r.2 3 l ≤ 999 ∧ r.2 4 l ≤ 99)
theorem GN_R {r : Ns} (h : GN r) (h1 : 1 ≤ r.1 13) (h12 : r.1 13 ≤ 12) : GR r := by
  obtain ⟨⟨r7, r8, r8', r9, r9', r10, r11, r12, r12'⟩, r14, ra, rb, rc, rl⟩ := h
  exact ⟨⟨r7, r8, r8', r9, r9', r10, r11, r12, r12', h1, h12, ra, rb, rc, rl⟩, r14⟩
theorem GN_0 {r : Ns} (h : GR r) : GN (zu r 13 0) := by
  obtain ⟨⟨r7, r8, r8', r9, r9', r10, r11, r12, r12', r13, r13', ra, rb, rc, rl⟩, r14⟩ := h
  unfold GN
  simp (disch := omega) only [zu_s, zu_n, zu_2]
  exact ⟨⟨r7, r8, r8', r9, r9', r10, r11, r12, r12'⟩, r14, fun i hi => absurd hi (Nat.not_lt_zero _), rb, rc, rl⟩
def znx (r : Ns) (x : Nat) : Ns := zu (za r 5 (r.1 13) x) 13 (r.1 13 + 1)
theorem znx_13 (r : Ns) (x : Nat) : (znx r x).1 13 = r.1 13 + 1 := by
  unfold znx
  rw [zu_s]
theorem GN_s {r : Ns} {x : Nat} (h : GN r) (hx : x ≤ 24) : GN (znx r x) := by
  obtain ⟨⟨r7, r8, r8', r9, r9', r10, r11, r12, r12'⟩, r14, ra, rb, rc, rl⟩ := h
  have e : ∀ k, k ≠ 5 → (za r 5 (r.1 13) x).2 k = r.2 k := fun k hk => za_n _ _ _ hk
  unfold GN znx
  simp (disch := omega) only [zu_s, zu_n, zu_2, za_1]
  rw [e 6 (by decide), e 0 (by decide), e 1 (by decide), e 2 (by decide), e 3 (by decide), e 4 (by decide)]
  refine ⟨⟨r7, r8, r8', r9, r9', r10, r11, r12, r12'⟩, r14, fun i hi => ?_, rb, rc, rl⟩
  by_cases c : i = r.1 13
  · rw [c, za_s]; exact hx
  · rw [za_r _ _ _ _ c]; exact ra i (by omega)
theorem PM_43 {b : Nat → Nat} {n p x : Nat} {r : Ns} {w : Vl} (h : PM b n r p w) : PM b n (znx r x) p (setI (setA w 43 (r.1 13) (nI x)) 42 (nI (r.1 13 + 1))) := by
  obtain ⟨a1, h33, h39, h40, h41, h42, h43, h44, h45⟩ := h
  unfold PM znx
  refine ⟨a1, h33, ?_, fun l hl k hk => ?_, fun i hi => ?_, ?_, fun i hi => ?_, fun j hj => ?_, ?_⟩
  · rw [zu_n _ _ (by decide), za_1]; exact h39
  · rw [zu_n _ _ (by decide), za_1] at hl
    rw [zu_2, za_n _ _ _ (by omega)]; exact h40 l hl k hk
  · rw [zu_n _ _ (by omega), za_1]; exact h41 i hi
  · rw [zu_s]; rfl
  · rw [zu_s] at hi
    rw [zu_2]
    show upd (w.2.2.1 43) (r.1 13) (nI x) i = _
    rw [upd_a]
    by_cases c : i = r.1 13
    · rw [if_pos c, c, za_s]
    · rw [if_neg c, za_r _ _ _ _ c]; exact h43 i (by omega)
  · rw [zu_2, za_n _ _ _ (by decide)]; exact h44 j hj
  · rw [zu_n _ _ (by decide), za_1]; exact h45
theorem zE_id (b : Nat → Nat) (n p : Nat) : zE isB b n (zE isB b n p) = zE isB b n p := zE_n (zE_stop isB b n p)
theorem n_loop {b : Nat → Nat} {n : Nat} (T : Tx b n) : ∀ m p r, r.1 13 + m = 12 → p ≤ n → GN r →
    (∃ f pl, 1 ≤ f ∧ f ≤ 4 ∧ pl ≤ n ∧ (∀ v1, TC b n p v1 → ∀ K Q : Int32 → Vl → Vl → Prop, tk K Q → (∀ r' u, FC f pl u → Q 0 (encG r') u) → wp_X3_readNights_c26 K (wp_X3_readNights_c7 K (m + 1)) (encG r) v1 (nI (r.1 13))) ∧ (∀ w, PM b n r p w → ∀ Q : Int32 → Vl → Prop, (∀ w', FM pl w' → frR w w' → Q (nI f) w') → wp_X9_takeNights_c7 (fun f u => wp_X9_takeClause_c296 Q u f) (m + 2) w 1)) ∨
    (∃ r' p', GR r' ∧ p < p' ∧ p' ≤ n ∧ (∀ v1, TC b n p v1 → ∀ K Q : Int32 → Vl → Vl → Prop, tk K Q → (∀ u, TC b n p' u → Q 1 (encG r') u) → wp_X3_readNights_c26 K (wp_X3_readNights_c7 K (m + 1)) (encG r) v1 (nI (r.1 13))) ∧ (∀ w, PM b n r p w → ∀ Q : Int32 → Vl → Prop, (∀ w', PM b n r' p' w' → frR w w' → Q 0 w') → wp_X9_takeNights_c7 (fun f u => wp_X9_takeClause_c296 Q u f) (m + 2) w 1)) := by
  intro m
  induction m with
  | zero =>
    intro p r e12 hp hr
    have hn := T.1
    have h12 : r.1 13 = 12 := by omega
    rcases num_cases b n 1 24 p with ⟨f, pl, hb⟩ | ⟨x, e, hb⟩
    · have hbl := bad_le hp hb
      refine Or.inl ⟨f, pl, hbl.1, hbl.2.1, hbl.2.2, fun v1 hv K Q ht h => ?_, fun w hw Q h => ?_⟩
      · unfold wp_X3_readNights_c26
        refine q_num_f (lo := 1) (hi := 24) T hp hv hb (by omega) (by omega) (fun u hu => ?_)
        rw [rl_b10]
        exact ht.1 _ _ (h r u hu)
      · unfold wp_X9_takeNights_c7
        rw [rl_b01]
        refine m_num_f (lo := 1) (hi := 24) T hp hw.1 hb (by omega) (by omega) (fun u hu fu => ?_)
        rw [rl_eF (nI_nle (by omega) (by omega))]
        exact c296_f hbl.1 hbl.2.1 (h _ hu (fr_I (fr_m fu (by decide) (by decide) (by decide) (by decide)) _ (by decide)))
    · refine Or.inl ⟨3, zE isB b n p, by omega, by omega, zE_le hp, fun v1 hv K Q ht h => ?_, fun w hw Q h => ?_⟩
      · unfold wp_X3_readNights_c26
        refine q_num_s (lo := 1) (hi := 24) T hp hv hb (by omega) (fun u hu h4 h5 f' => ?_)
        rw [rl_b11, h12, rl_fT (show nI 12 = 12 from rfl), h5]
        exact q_fail (f := 3) (fun u' hu' _ => ⟨nar0, ht.1 _ _ (h r u' hu')⟩)
      · unfold wp_X9_takeNights_c7
        rw [rl_b01]
        refine m_num_s (lo := 1) (hi := 24) T hp hw.1 hb (by omega) (fun u hu h37 h38 fu => ?_)
        have hu2 := PM_fr hw fu hu (by decide) (by decide)
        rw [rl_eT (by decide), hu2.2.2.2.2.2.1, h12, rl_fT (show nI 12 = 12 from rfl), h38]
        refine m_fails (f := 3) (fun u' hu' f' => c296_f (by omega) (by omega) (h _ hu' (fr_I (fr_t (fr_m fu (by decide) (by decide) (by decide) (by decide)) (fr_m f' (by decide) (by decide) (by decide) (by decide))) _ (by decide))))
  | succ m ih =>
    intro p r e12 hp hr
    have hn := T.1
    have h12 : r.1 13 < 12 := by omega
    have hne12 : ¬ nI (r.1 13) = 12 := fun q => absurd ((nI_eq (b := 12) (by omega) (by omega)).mp q) (by omega)
    rcases num_cases b n 1 24 p with ⟨f, pl, hb⟩ | ⟨x, e, hb⟩
    · have hbl := bad_le hp hb
      refine Or.inl ⟨f, pl, hbl.1, hbl.2.1, hbl.2.2, fun v1 hv K Q ht h => ?_, fun w hw Q h => ?_⟩
      · unfold wp_X3_readNights_c26
        refine q_num_f (lo := 1) (hi := 24) T hp hv hb (by omega) (by omega) (fun u hu => ?_)
        rw [rl_b10]
        exact ht.1 _ _ (h r u hu)
      · unfold wp_X9_takeNights_c7
        rw [rl_b01]
        refine m_num_f (lo := 1) (hi := 24) T hp hw.1 hb (by omega) (by omega) (fun u hu fu => ?_)
        rw [rl_eF (nI_nle (by omega) (by omega))]
        exact c296_f hbl.1 hbl.2.1 (h _ hu (fr_I (fr_m fu (by decide) (by decide) (by decide) (by decide)) _ (by decide)))
    · have hbl := num_le hp hb
      have g1 := zE_ge isB b n e
      have g2 : zE isB b n e ≤ n := zE_le hbl.2.1
      have gn := GN_s hr hbl.2.2.2.1
      have z13 := znx_13 r x
      have cst : ∀ v1, TC b n p v1 → ∀ K : Int32 → Vl → Vl → Prop, (∀ u, TC b n (zE isB b n e) u → (((if zE isB b n e < n ∧ b (zE isB b n e) = 59 then (1 : Int32) else 0) = 0 → wp_X3_readNights_c7 K (m + 1 + 1) (encG (znx r x)) u (nI (r.1 13 + 1))) ∧ (¬ (if zE isB b n e < n ∧ b (zE isB b n e) = 59 then (1 : Int32) else 0) = 0 → K 1 (encG (znx r x)) u))) → wp_X3_readNights_c26 K (wp_X3_readNights_c7 K (m + 1 + 1)) (encG r) v1 (nI (r.1 13)) := by
        intro v1 hv K h
        unfold wp_X3_readNights_c26
        refine q_num_s (lo := 1) (hi := 24) T hp hv hb (by omega) (fun u hu h4 h5 f' => ?_)
        rw [rl_b11, rl_fF hne12, h4, w_put (by decide), encG_r, jput_row _ _ (by omega) (by decide)]
        intro v2 ev2 v3 ev3
        rw [encG_setRA] at ev2
        rw [nI_1] at ev3
        rw [ev2, encG_setI] at ev3
        have ev4 : v3 = encG (znx r x) := ev3
        rw [ev4]
        refine q_next (c := 59) T hbl.2.1 hu (by omega) (fun u2 hu2 f2 => ?_)
        have hh := h u2 hu2
        refine ⟨fun q x9 ex9 => ?_, hh.2⟩
        rw [ex9, nI_1]
        exact hh.1 q
      have mst : ∀ w, PM b n r p w → ∀ Q : Int32 → Vl → Prop, (∀ u, PM b n (znx r x) (zE isB b n e) u → frR w u → ((¬ (if zE isB b n e < n then nI (b (zE isB b n e)) else -1) = 44 → wp_X9_takeNights_c7 (fun f u => wp_X9_takeClause_c296 Q u f) (m + 2) u 0) ∧ ((if zE isB b n e < n then nI (b (zE isB b n e)) else -1) = 44 → wp_X9_takeNights_c7 (fun f u => wp_X9_takeClause_c296 Q u f) (m + 2) (setI u 34 (nI (zE isB b n e + 1))) 1))) → wp_X9_takeNights_c7 (fun f u => wp_X9_takeClause_c296 Q u f) (m + 1 + 2) w 1 := by
        intro w hw Q h
        unfold wp_X9_takeNights_c7
        rw [rl_b01]
        refine m_num_s (lo := 1) (hi := 24) T hp hw.1 hb (by omega) (fun u hu h37 h38 fu => ?_)
        have hu2 := PM_fr hw fu hu (by decide) (by decide)
        rw [rl_eT (by decide), hu2.2.2.2.2.2.1, rl_fF hne12, nI_clamp (by omega), h37]
        refine ⟨vp_in_nI h12 (by decide), ?_⟩
        intro v2 ev2 v3 ev3
        have e42 : v2.1 42 = nI (r.1 13) := by rw [ev2]; exact hu2.2.2.2.2.2.1
        rw [e42, nI_1, ev2] at ev3
        have h3 : PM b n (znx r x) e v3 := by rw [ev3]; exact PM_43 hu2
        have f3 : frR w v3 := by rw [ev3]; exact fr_I (fr_A (fr_m fu (by decide) (by decide) (by decide) (by decide)) _ _ (by decide)) _ (by decide)
        refine m_here T hbl.2.1 h3.1 (fun u4 hu4 f4 => ?_)
        have h4 := PM_fr h3 f4 hu4 (by decide) (by decide)
        have hh := h u4 h4 (fr_t f3 (fr_m f4 (by decide) (by decide) (by decide) (by decide)))
        unfold wp_X9_takeNights_c81 wp_X9_takeNights_c96
        refine ⟨fun q => ?_, fun q => ?_⟩
        · rw [rl_b00]
          intro v5 ev5
          have e5 : v5 = u4 := by
            have : u4.1 34 + 0 = u4.1 34 := Int32.add_zero _
            rw [ev5, this, sI_self]
          rw [e5]
          exact hh.1 q
        · rw [rl_b01]
          intro v5 ev5
          rw [hu4.2.1, nI_1] at ev5
          rw [ev5]
          exact hh.2 q
      by_cases hs : zE isB b n e < n ∧ b (zE isB b n e) = 59
      · have hs2 : zE isB b n (zE isB b n e) < n ∧ b (zE isB b n (zE isB b n e)) = 59 := by rw [zE_id]; exact hs
        refine Or.inr ⟨znx r x, zE isB b n e + 1, GN_R gn (by omega) (by omega), by omega, hs.1, fun v1 hv K Q ht h => cst v1 hv K (fun u hu => ⟨fun q => ?_, fun _ => ?_⟩), fun w hw Q h => mst w hw Q (fun u hu fu => ⟨fun _ => ?_, fun q => ?_⟩)⟩
        · rw [if_pos hs] at q
          exact absurd q (by decide)
        · refine ht.2 _ _ ?_
          refine q_sign_s (c := 59) T g2 hu hs2 (fun u' hu' f' => ?_)
          rw [zE_id] at hu'
          rw [rl_b11]
          exact h u' hu'
        · unfold wp_X9_takeNights_c7
          rw [rl_b00]
          refine c296_s T g2 hu hs2 (fun w2 hw2 f2 => ?_)
          rw [zE_id] at hw2
          exact h w2 hw2 (fr_t fu f2)
        · rw [if_pos hs.1, hs.2] at q
          exact absurd q (by decide)
      · by_cases hc : zE isB b n e < n ∧ b (zE isB b n e) = 44
        · have hc2 : zE isB b n (zE isB b n e) < n ∧ b (zE isB b n (zE isB b n e)) = 44 := by rw [zE_id]; exact hc
          have c7 : ∀ u, TC b n (zE isB b n e) u → ∀ K : Int32 → Vl → Vl → Prop, (∀ u', TC b n (zE isB b n e + 1) u' → wp_X3_readNights_c26 K (wp_X3_readNights_c7 K (m + 1)) (encG (znx r x)) u' (nI ((znx r x).1 13))) → wp_X3_readNights_c7 K (m + 1 + 1) (encG (znx r x)) u (nI (r.1 13 + 1)) := by
            intro u hu K h
            unfold wp_X3_readNights_c7
            rw [rl_eF (show ¬ (12 : Int32) < nI (r.1 13 + 1) from nI_nlt (a := 12) (by omega) (by omega)), rl_eF (nI_nle (by omega) (by omega))]
            refine q_sign_s (c := 44) T g2 hu hc2 (fun u' hu' f' => ?_)
            rw [zE_id] at hu'
            rw [rl_b01, ← z13]
            exact h u' hu'
          rcases ih (zE isB b n e + 1) (znx r x) (by omega) hc.1 gn with ⟨f, pl, f1, f4, hpl, hC, hM⟩ | ⟨r', p', hr', hpp, hpn, hC, hM⟩
          · refine Or.inl ⟨f, pl, f1, f4, hpl, fun v1 hv K Q ht h => cst v1 hv K (fun u hu => ⟨fun _ => c7 u hu K (fun u' hu' => hC u' hu' K Q ht h), fun q => ?_⟩), fun w hw Q h => mst w hw Q (fun u hu fu => ⟨fun q => ?_, fun _ => ?_⟩)⟩
            · rw [if_neg hs] at q
              exact absurd rfl q
            · rw [if_pos hc.1, hc.2] at q
              exact absurd rfl q
            · have f2 : fr [34] [] [] [] u (setI u 34 (nI (zE isB b n e + 1))) := fr_I (fr_r u) _ (by decide)
              exact hM _ (PM_fr hu f2 (TM_set hu.1) (by decide) (by decide)) Q (fun w2 hw2 f3 => h w2 hw2 (fr_t fu (fr_t (fr_m f2 (by decide) (by decide) (by decide) (by decide)) f3)))
          · refine Or.inr ⟨r', p', hr', by omega, hpn, fun v1 hv K Q ht h => cst v1 hv K (fun u hu => ⟨fun _ => c7 u hu K (fun u' hu' => hC u' hu' K Q ht h), fun q => ?_⟩), fun w hw Q h => mst w hw Q (fun u hu fu => ⟨fun q => ?_, fun _ => ?_⟩)⟩
            · rw [if_neg hs] at q
              exact absurd rfl q
            · rw [if_pos hc.1, hc.2] at q
              exact absurd rfl q
            · have f2 : fr [34] [] [] [] u (setI u 34 (nI (zE isB b n e + 1))) := fr_I (fr_r u) _ (by decide)
              exact hM _ (PM_fr hu f2 (TM_set hu.1) (by decide) (by decide)) Q (fun w2 hw2 f3 => h w2 hw2 (fr_t fu (fr_t (fr_m f2 (by decide) (by decide) (by decide) (by decide)) f3)))
        · have hc2 : ¬ (zE isB b n (zE isB b n e) < n ∧ b (zE isB b n (zE isB b n e)) = 44) := by rw [zE_id]; exact hc
          have hs2 : ¬ (zE isB b n (zE isB b n e) < n ∧ b (zE isB b n (zE isB b n e)) = 59) := by rw [zE_id]; exact hs
          have hne44 : ¬ (if zE isB b n e < n then nI (b (zE isB b n e)) else -1) = 44 := by
            by_cases c1 : zE isB b n e < n
            · have hb2 := T.2 _ c1
              rw [if_pos c1]
              exact fun q => hc ⟨c1, (nI_eq (b := 44) (by omega) (by omega)).mp q⟩
            · rw [if_neg c1]
              decide
          refine Or.inl ⟨1, zE isB b n e, by omega, by omega, g2, fun v1 hv K Q ht h => cst v1 hv K (fun u hu => ⟨fun _ => ?_, fun q => ?_⟩), fun w hw Q h => mst w hw Q (fun u hu fu => ⟨fun _ => ?_, fun q => absurd q hne44⟩)⟩
          · unfold wp_X3_readNights_c7
            rw [rl_eF (show ¬ (12 : Int32) < nI (r.1 13 + 1) from nI_nlt (a := 12) (by omega) (by omega)), rl_eF (nI_nle (by omega) (by omega))]
            refine q_sign_f (c := 44) T g2 hu (by omega) hc2 (fun u' hu' => ?_)
            rw [zE_id] at hu'
            rw [rl_b00]
            exact ht.1 _ _ (h _ u' hu')
          · rw [if_neg hs] at q
            exact absurd rfl q
          · unfold wp_X9_takeNights_c7
            rw [rl_b00]
            refine c296_n T g2 hu hs2 (fun w2 hw2 f2 => ?_)
            rw [zE_id] at hw2
            exact h w2 hw2 (fr_t fu f2)
theorem ls_nights {b : Nat → Nat} {n p : Nat} {r : Ns} (T : Tx b n) (hr : GR r) (hp : p ≤ n) : rLSt b n r p wp_X3_readNights wp_X9_takeNights := by
  have e13 : (zu r 13 0).1 13 = 0 := zu_s _ _ _
  have z0 : (0 : Int32) = nI 0 := rfl
  have cl : ∀ v1, ∀ K : Int32 → Vl → Vl → Prop, wp_X3_readNights_c26 K (wp_X3_readNights_c7 K (12 + 1)) (encG (zu r 13 0)) v1 (nI ((zu r 13 0).1 13)) → wp_X3_readNights (encG r) v1 K := by
    intro v1 K h
    unfold wp_X3_readNights
    intro v ev
    rw [z0, encG_setI] at ev
    rw [ev]
    refine ⟨12 + 1 + 1, ?_⟩
    rw [e13] at h
    unfold wp_X3_readNights_c7
    rw [rl_eF (by decide), rl_eT (by decide)]
    exact h
  have ml : ∀ w, PM b n r p w → ∀ Q : Int32 → Vl → Prop, (∀ u, PM b n (zu r 13 0) p u → frR w u → wp_X9_takeNights_c7 (fun f u => wp_X9_takeClause_c296 Q u f) (12 + 2) u 1) → wp_X9_takeNights w (fun f u => wp_X9_takeClause_c296 Q u f) := by
    intro w hw Q h
    unfold wp_X9_takeNights
    intro v ev
    subst ev
    obtain ⟨a1, h33, h39, h40, h41, h42, h43, h44, h45⟩ := hw
    refine ⟨_, h _ ⟨a1, h33, ?_, ?_, fun i hi => ?_, ?_, fun i hi => ?_, h44, ?_⟩ (fr_I (fr_r w) _ (by decide))⟩
    · rw [zu_n _ _ (by decide)]; exact h39
    · rw [zu_n _ _ (by decide)]; exact h40
    · rw [zu_n _ _ (by omega)]; exact h41 i hi
    · rw [zu_s]; rfl
    · rw [zu_s] at hi; omega
    · rw [zu_n _ _ (by decide)]; exact h45
  rcases n_loop T 12 p (zu r 13 0) (by omega) hp (GN_0 hr) with ⟨f, pl, f1, f4, hpl, hC, hM⟩ | ⟨r', p', hr', hpp, hpn, hC, hM⟩
  · exact Or.inl ⟨f, pl, f1, f4, hpl, fun v1 hv K Q ht h => cl v1 K (hC v1 hv K Q ht h), fun w hw Q h => ml w hw Q (fun u hu fu => hM u hu Q (fun w' hw' f' => h w' hw' (fr_t fu f')))⟩
  · exact Or.inr ⟨r', p', hr', hpp, hpn, fun v1 hv K Q ht h => cl v1 K (hC v1 hv K Q ht h), fun w hw Q h => ml w hw Q (fun u hu fu => hM u hu Q (fun w' hw' f' => h w' hw' (fr_t fu f')))⟩
/-! a clause -/
theorem tldA : ∀ t, t < 32 → ∀ z, z < 2 → ∀ d, d < 5 → ((nI t &&& nI (2 ^ d)) = 0 ↔ ¬ (((nI (2 * t + z) >>> (nI (d + 1) &&& 31)) &&& 1) = 1)) := by decide +kernel
theorem tldB : ∀ t, t < 32 → ∀ d, d < 5 → ((nI t &&& nI (2 ^ d)) = 0 → t + 2 ^ d < 32) := by decide +kernel
theorem tldC : ∀ t, t < 32 → ∀ d, d < 5 → ((nI t &&& nI (2 ^ d)) = 0 → (nI t ||| nI (2 ^ d)) = nI (t + 2 ^ d)) := by decide +kernel
theorem tldD : ∀ t, t < 32 → ∀ z, z < 2 → ∀ d, d < 5 → ((nI t &&& nI (2 ^ d)) = 0 → (nI (2 * t + z) ||| (1 <<< (nI (d + 1) &&& 31))) = nI (2 * (t + 2 ^ d) + z)) := by decide +kernel
theorem tld (t : Nat) (ht : t < 32) (z : Nat) (hz : z < 2) (d : Nat) (hd : d < 5) : (((nI t &&& nI (2 ^ d)) = 0 ↔ ¬ (((nI (2 * t + z) >>> (nI (d + 1) &&& 31)) &&& 1) = 1)) ∧ ((nI t &&& nI (2 ^ d)) = 0 → t + 2 ^ d < 32 ∧ (nI t ||| nI (2 ^ d)) = nI (t + 2 ^ d) ∧ (nI (2 * t + z) ||| (1 <<< (nI (d + 1) &&& 31))) = nI (2 * (t + 2 ^ d) + z))) :=
  ⟨tldA t ht z hz d hd, fun q => ⟨tldB t ht d hd q, tldC t ht d hd q, tldD t ht z hz d hd q⟩⟩
theorem tl0 : ∀ t, t < 32 → ∀ z, z < 2 → (nI (2 * t + z) ||| (1 <<< (nI 0 &&& 31))) = nI (2 * t + 1) := by decide +kernel
theorem GR_14 {r : Ns} {t : Nat} (h : GR r) (ht : t < 32) : GR (zu r 14 t) := by
  obtain ⟨⟨r7, r8, r8', r9, r9', r10, r11, r12, r12', r13, r13', ra, rb, rc, rl⟩, r14⟩ := h
  unfold GR WfR
  simp (disch := omega) only [zu_s, zu_n, zu_2]
  exact ⟨⟨r7, r8, r8', r9, r9', r10, r11, r12, r12', r13, r13', ra, rb, rc, rl⟩, ht⟩
theorem PM_14 {b : Nat → Nat} {n p e t z : Nat} {r : Ns} {w : Vl} {x : Int32} (h : PM b n r p w) (hz : z ≤ 1) (hx : x = nI (2 * t + z)) : PM b n (zu r 14 t) e (setI (setI w 34 (nI e)) 45 x) := by
  obtain ⟨a1, h33, h39, h40, h41, h42, h43, h44, h45⟩ := h
  refine ⟨⟨a1.1, rfl, a1.2.2⟩, h33, ?_, ?_, fun i hi => ?_, ?_, ?_, h44, z, hz, ?_⟩
  · rw [zu_n _ _ (by decide)]; exact h39
  · rw [zu_n _ _ (by decide)]; exact h40
  · rw [zu_n _ _ (by omega)]; exact h41 i hi
  · rw [zu_n _ _ (by decide)]; exact h42
  · rw [zu_n _ _ (by decide)]; exact h43
  · rw [zu_s]; exact hx
theorem tk_w {K Q : Int32 → Vl → Vl → Prop} (h : tk K Q) : tk (fun r u1 u2 => ((r = 0 → K 0 u1 u2) ∧ (¬ r = 0 → K 1 u1 u2))) Q :=
  ⟨fun a u q => rl_b00.mpr (h.1 a u q), fun a u q => rl_b01.mpr (h.2 a u q)⟩
theorem tk_n {K Q : Int32 → Vl → Vl → Prop} (h : tk K Q) : tk (fun r u1 u2 => narrow .boolean (.int r) = .int r ∧ K r u1 u2) Q :=
  ⟨fun a u q => ⟨rfl, h.1 a u q⟩, fun a u q => ⟨rfl, h.2 a u q⟩⟩
/-- one clause told once -/
theorem o_clause {b : Nat → Nat} {n p e d : Nat} {r : Ns} {C : Vl → Vl → (Int32 → Vl → Vl → Prop) → Prop} {M : Vl → (Int32 → Vl → Prop) → Prop} (T : Tx b n) (hr : GR r) (hd : d < 5) (hpe : p ≤ e) (he : e ≤ n)
    (hM236 : ∀ w Q, PM b n r p w → w.1 36 = nI e → (M (setI (setI w 34 (nI e)) 45 (w.1 45 ||| (1 <<< (nI (d + 1) &&& 31)))) (fun f u => wp_X9_takeClause_c296 Q u f)) → wp_X9_takeClause_c236 Q w (nI (d + 1)))
    (body : ∀ r1, GR r1 → rLSt b n r1 e C M) :
    (∃ f pl, 1 ≤ f ∧ f ≤ 4 ∧ pl ≤ n ∧ (∀ u, TC b n e u → u.1 3 = nI p → ∀ K Q : Int32 → Vl → Vl → Prop, tk K Q → (∀ r' u, FC f pl u → Q 0 (encG r') u) → wp_X3_isFirst (encG r) u (nI (2 ^ d)) (fun r_13 u_11 u_12 => ((r_13 = 0 → K 0 u_11 u_12) ∧ (¬ r_13 = 0 → C u_11 u_12 (fun r_16 u_14 u_15 => ((r_16 = 0 → K 0 u_14 u_15) ∧ (¬ r_16 = 0 → K 1 u_14 u_15))))))) ∧ (∀ w, PM b n r p w → w.1 36 = nI e → ∀ Q : Int32 → Vl → Prop, (∀ w', FM pl w' → frR w w' → Q (nI f) w') → wp_X9_takeClause_c186 Q w (nI (d + 1)))) ∨
    (∃ r' p', GR r' ∧ e < p' ∧ p' ≤ n ∧ (∀ u, TC b n e u → u.1 3 = nI p → ∀ K Q : Int32 → Vl → Vl → Prop, tk K Q → (∀ u, TC b n p' u → Q 1 (encG r') u) → wp_X3_isFirst (encG r) u (nI (2 ^ d)) (fun r_13 u_11 u_12 => ((r_13 = 0 → K 0 u_11 u_12) ∧ (¬ r_13 = 0 → C u_11 u_12 (fun r_16 u_14 u_15 => ((r_16 = 0 → K 0 u_14 u_15) ∧ (¬ r_16 = 0 → K 1 u_14 u_15))))))) ∧ (∀ w, PM b n r p w → w.1 36 = nI e → ∀ Q : Int32 → Vl → Prop, (∀ w', PM b n r' p' w' → frR w w' → Q 0 w') → wp_X9_takeClause_c186 Q w (nI (d + 1)))) := by
  have hn := T.1
  have h14 := hr.2
  have c186 : ∀ w Q, PM b n r p w → (∃ z, z ≤ 1 ∧ w.1 45 = nI (2 * r.1 14 + z)) → ((nI (r.1 14) &&& nI (2 ^ d)) = 0 → wp_X9_takeClause_c236 Q w (nI (d + 1))) → (¬ (nI (r.1 14) &&& nI (2 ^ d)) = 0 → wp_X9_fails w 3 (w.1 34) (fun r_16 u_15 => Q r_16 u_15)) → wp_X9_takeClause_c186 Q w (nI (d + 1)) := by
    intro w Q hw hz hy hno
    obtain ⟨z, hz1, hz2⟩ := hz
    have tt := (tld (r.1 14) h14 z (by omega) d hd).1
    unfold wp_X9_takeClause_c186 wp_X9_has
    rw [rl_eF (nI_pos (by omega)), rl_fF (nI_ne0 (by omega) (by omega)), hz2]
    refine ⟨fun q => ?_, fun q => ?_⟩
    · exact rl_b00.mpr (hy (tt.mpr q))
    · refine rl_b01.mpr ?_
      unfold wp_X9_takeClause_c218 wp_X9_takeClause_c228
      rw [rl_eT (nI_pos' (by omega))]
      exact hno (fun q2 => (tt.mp q2) q)
  by_cases ht : (nI (r.1 14) &&& nI (2 ^ d)) = 0
  · have t0 := (tld (r.1 14) h14 0 (by omega) d hd).2 ht
    have g1 := GR_14 hr t0.1
    have cl : ∀ u, TC b n e u → ∀ K : Int32 → Vl → Vl → Prop, C (encG (zu r 14 (r.1 14 + 2 ^ d))) u (fun r_16 u_14 u_15 => ((r_16 = 0 → K 0 u_14 u_15) ∧ (¬ r_16 = 0 → K 1 u_14 u_15))) → wp_X3_isFirst (encG r) u (nI (2 ^ d)) (fun r_13 u_11 u_12 => ((r_13 = 0 → K 0 u_11 u_12) ∧ (¬ r_13 = 0 → C u_11 u_12 (fun r_16 u_14 u_15 => ((r_16 = 0 → K 0 u_14 u_15) ∧ (¬ r_16 = 0 → K 1 u_14 u_15)))))) := by
      intro u hu K h
      unfold wp_X3_isFirst
      rw [encG_1, rl_eT ht, t0.2.1]
      intro v ev
      rw [encG_setI] at ev
      rw [ev, rl_b01]
      exact h
    have ml : ∀ w, PM b n r p w → w.1 36 = nI e → ∀ Q : Int32 → Vl → Prop, (∀ u, PM b n (zu r 14 (r.1 14 + 2 ^ d)) e u → frR w u → M u (fun f u => wp_X9_takeClause_c296 Q u f)) → wp_X9_takeClause_c186 Q w (nI (d + 1)) := by
      intro w hw h36 Q h
      obtain ⟨z, hz1, hz2⟩ := hw.2.2.2.2.2.2.2.2
      have tt := (tld (r.1 14) h14 z (by omega) d hd).2 ht
      refine c186 w Q hw ⟨z, hz1, hz2⟩ (fun _ => hM236 w Q hw h36 (h _ (PM_14 hw hz1 (by rw [hz2]; exact tt.2.2)) (fr_I (fr_I (fr_r w) _ (by decide)) _ (by decide)))) (fun q => absurd ht q)
    rcases body _ g1 with ⟨f, pl, f1, f4, hpl, hC, hM⟩ | ⟨r', p', hr', hpp, hpn, hC, hM⟩
    · exact Or.inl ⟨f, pl, f1, f4, hpl, fun u hu _ K Q hk h => cl u hu K (hC u hu _ Q (tk_w hk) h), fun w hw h36 Q h => ml w hw h36 Q (fun u hu fu => hM u hu Q (fun w' hw' f' => h w' hw' (fr_t fu f')))⟩
    · exact Or.inr ⟨r', p', hr', hpp, hpn, fun u hu _ K Q hk h => cl u hu K (hC u hu _ Q (tk_w hk) h), fun w hw h36 Q h => ml w hw h36 Q (fun u hu fu => hM u hu Q (fun w' hw' f' => h w' hw' (fr_t fu f')))⟩
  · refine Or.inl ⟨3, p, by omega, by omega, by omega, fun u hu h3 K Q hk h => ?_, fun w hw h36 Q h => ?_⟩
    · unfold wp_X3_isFirst
      rw [encG_1, rl_eF ht, h3]
      exact q_fail (f := 3) (fun u' hu' _ => ⟨nar0, rl_b00.mpr (hk.1 _ _ (h r u' hu'))⟩)
    · refine c186 w Q hw hw.2.2.2.2.2.2.2.2 (fun q => absurd q ht) (fun _ => ?_)
      rw [hw.1.2.1]
      exact m_fails (f := 3) (fun u' hu' f' => h u' hu' (fr_m f' (by decide) (by decide) (by decide) (by decide)))
