/-! ===== skies ===== -/
def oI : Option Nat → Int32
  | none => -1
  | some j => nI j
/-- the first of c words from base + i on that this is -/
noncomputable def zkF (b : Nat → Nat) (p m base : Nat) : Nat → Nat → Option Nat
  | 0, _ => none
  | c + 1, i => @ite _ (isW b (base + i) p m) (Classical.propDecidable _) (some i) (zkF b p m base c (i + 1))
theorem zkF_y {b : Nat → Nat} {p m base c i : Nat} (h : isW b (base + i) p m) : zkF b p m base (c + 1) i = some i := if_pos h
theorem zkF_n {b : Nat → Nat} {p m base c i : Nat} (h : ¬ isW b (base + i) p m) : zkF b p m base (c + 1) i = zkF b p m base c (i + 1) := if_neg h
theorem zkF_lt {b : Nat → Nat} {p m base : Nat} : ∀ c i j, zkF b p m base c i = some j → j < i + c ∧ isW b (base + j) p m
  | 0, i, j, h => by cases h
  | c + 1, i, j, h => by
    by_cases g : isW b (base + i) p m
    · rw [zkF_y g] at h
      cases h
      exact ⟨by omega, g⟩
    · rw [zkF_n g] at h
      have := zkF_lt c (i + 1) j h
      exact ⟨by omega, this.2⟩
theorem q_skyWord {i : Nat} {Q : Nat → Prop} (hi : i < 3) (h : Q (6 + i)) : wp_X8_skyWord (nI i) Q := by
  have : i = 0 ∨ i = 1 ∨ i = 2 := by omega
  rcases this with rfl | rfl | rfl
  · exact ⟨fun _ => h, fun q => absurd q (by decide), fun q => absurd q (by decide), fun q => absurd q (by decide)⟩
  · exact ⟨fun q => absurd q (by decide), fun _ => h, fun q => absurd q (by decide), fun q => absurd q (by decide)⟩
  · exact ⟨fun q => absurd q (by decide), fun q => absurd q (by decide), fun _ => h, fun q => absurd q (by decide)⟩
theorem q_skyNamed {b : Nat → Nat} {n p e : Nat} {v : Vl} {Q : Int32 → Prop} (T : Tx b n) (hpe : p ≤ e) (he : e ≤ n) (h : TC b n e v) (h3 : v.1 3 = nI p) (hQ : Q (oI (zkF b p (e - p) 6 3 0))) : wp_X5_skyNamed v Q := by
  have loop : ∀ c i, i + c = 3 → Q (oI (zkF b p (e - p) 6 c i)) → wp_X5_skyNamed_c2 v Q (c + 1) (nI i) := by
    intro c
    induction c with
    | zero =>
      intro i ei hq
      obtain rfl : i = 3 := by omega
      unfold wp_X5_skyNamed_c2
      rw [rl_eT (show (3 : Int32) ≤ nI 3 by decide)]
      exact hq
    | succ c ih =>
      intro i ei hq
      unfold wp_X5_skyNamed_c2
      rw [rl_eF (show ¬ (3 : Int32) ≤ nI i from nI_ge (b := 3) (by omega) (by omega))]
      refine q_skyWord (by omega) ?_
      refine q_isWord T (by omega) hpe he h h3 (fun g => ?_) (fun g => ?_)
      · rw [rl_b01]
        rw [zkF_y g] at hq
        exact hq
      · rw [rl_b00]
        rw [zkF_n g] at hq
        simp only [forall_eq, nI_1]
        exact ih (i + 1) (by omega) hq
  exact ⟨4, loop 3 0 rfl hQ⟩
theorem m_skyNamed {b : Nat → Nat} {n p : Nat} {u : Vl} {Q : Int32 → Vl → Prop} (h35 : u.2.1 35 = lN (zcod b p (zE isL b n p - p))) (h : wp_X9_takeSky_c81 Q u (oI (zkF b p (zE isL b n p - p) 6 3 0))) :
    wp_X9_code 102 105 110 (fun r_2 => wp_X9_longer r_2 101 0 (fun r_3 => ((¬ (u.2.1 35) = r_3 → wp_X9_code 114 111 117 (fun r_4 => wp_X9_longer r_4 103 104 (fun r_5 => ((¬ (u.2.1 35) = r_5 → wp_X9_code 105 99 101 (fun r_6 => ((¬ (u.2.1 35) = r_6 → wp_X9_takeSky_c81 Q u (-1)) ∧ ((u.2.1 35) = r_6 → wp_X9_takeSky_c81 Q u 2)))) ∧ ((u.2.1 35) = r_5 → wp_X9_takeSky_c81 Q u 1))))) ∧ ((u.2.1 35) = r_3 → wp_X9_takeSky_c81 Q u 0)))) := by
  have e6 := m_isW (n := n) (k := 6) (by decide) h35
  have e7 := m_isW (n := n) (k := 7) (by decide) h35
  have e8 := m_isW (n := n) (k := 8) (by decide) h35
  rw [w_k6]
  by_cases g6 : isW b 6 p (zE isL b n p - p)
  · rw [rl_fT (e6.mpr g6)]
    rw [zkF_y g6] at h
    exact h
  · rw [rl_fF (fun q => g6 (e6.mp q)), w_k7]
    rw [zkF_n g6] at h
    by_cases g7 : isW b 7 p (zE isL b n p - p)
    · rw [rl_fT (e7.mpr g7)]
      rw [zkF_y g7] at h
      exact h
    · rw [rl_fF (fun q => g7 (e7.mp q)), w_k8]
      rw [zkF_n g7] at h
      by_cases g8 : isW b 8 p (zE isL b n p - p)
      · rw [rl_fT (e8.mpr g8)]
        rw [zkF_y g8] at h
        exact h
      · rw [rl_fF (fun q => g8 (e8.mp q))]
        rw [zkF_n g8] at h
        exact h
def PK (b : Nat → Nat) (n : Nat) (k : Ns) (p : Nat) (w : Vl) : Prop := TM b n p w ∧ w.1 33 = -1 ∧ w.1 46 = nI (k.1 2) ∧ ∀ c, c < k.1 2 → w.2.2.1 47 c = nI (k.2 0 c) ∧ w.2.2.1 48 c = nI (k.2 1 c)
theorem PK_fr {b : Nat → Nat} {n p q : Nat} {k : Ns} {v w : Vl} {LI LJ LA LB : List Nat} (h : PK b n k p v) (f : fr LI LJ LA LB v w) (ht : TM b n q w) (d1 : dj [33, 46] LI = true) (d3 : dj [47, 48] LA = true) : PK b n k q w := by
  obtain ⟨_, h1, h2, h3⟩ := h
  refine ⟨ht, ?_, ?_, ?_⟩
  · rw [f.1 33 (dj_n d1 (by decide))]; exact h1
  · rw [f.1 46 (dj_n d1 (by decide))]; exact h2
  · rw [f.2.2.1 47 (dj_n d3 (by decide)), f.2.2.1 48 (dj_n d3 (by decide))]; exact h3
/-- one clause more -/
def zkc (k : Ns) (j x : Nat) : Ns := zu (zu (za (za k 0 (k.1 2) j) 1 (k.1 2) x) 2 (k.1 2 + 1)) 3 (k.1 3 + x)
theorem zsum_up {f : Nat → Nat} {x : Nat} {c : Nat} : ∀ n, n ≤ c → zsum (va_up f c x) n = zsum f n
  | 0, _ => rfl
  | n + 1, h => by
    show zsum (va_up f c x) n + va_up f c x n = zsum f n + f n
    rw [zsum_up n (by omega), va_up_n _ _ (by omega)]
theorem WfK_zkc {k : Ns} {j x : Nat} (hk : WfK k) (h30 : k.1 2 < 30) (hj : j ≤ 2) (h1 : 1 ≤ x) (h99 : x ≤ 99) : WfK (zkc k j x) := by
  obtain ⟨a1, a2, a3⟩ := hk
  have e0 : (zkc k j x).2 0 = va_up (k.2 0) (k.1 2) j := by
    unfold zkc
    rw [zu_2, zu_2, za_n _ _ _ (by decide)]
    unfold za
    rw [zw_s]
  have e1 : (zkc k j x).2 1 = va_up (k.2 1) (k.1 2) x := by
    unfold zkc
    rw [zu_2, zu_2]
    unfold za
    rw [zw_s, zw_n _ _ (by decide)]
  have e2 : (zkc k j x).1 2 = k.1 2 + 1 := by
    unfold zkc
    rw [zu_n _ _ (by decide), zu_s]
  have e3 : (zkc k j x).1 3 = k.1 3 + x := by
    unfold zkc
    rw [zu_s]
  refine ⟨by omega, ?_, fun c hc => ?_⟩
  · rw [e1, e2, e3]
    show _ = zsum (va_up (k.2 1) (k.1 2) x) (k.1 2) + va_up (k.2 1) (k.1 2) x (k.1 2)
    rw [zsum_up _ (Nat.le_refl _), va_up_s, a2]
  · rw [e2] at hc
    rw [e0, e1]
    by_cases c1 : c = k.1 2
    · rw [c1, va_up_s, va_up_s]
      exact ⟨hj, h1, h99⟩
    · rw [va_up_n _ _ c1, va_up_n _ _ c1]
      exact a3 c (by omega)
theorem k_clause {b : Nat → Nat} {n p : Nat} {k : Ns} (T : Tx b n) (hk : WfK k) (hp : p ≤ n) :
    (∃ f pl, 1 ≤ f ∧ f ≤ 4 ∧ pl ≤ n ∧ (∀ v1, TC b n p v1 → ∀ Q : Int32 → Vl → Vl → Prop, (∀ k' u, FC f pl u → Q 0 (encG k') u) → wp_X5_readClause (encG k) v1 Q) ∧ (∀ w, PK b n k p w → ∀ Q : Int32 → Vl → Prop, (∀ w', FM pl w' → fr [33, 34, 36, 37, 38, 46] [35] [47, 48] [] w w' → Q (nI f) w') → wp_X9_takeSky w Q)) ∨
    (∃ k' p', WfK k' ∧ p < p' ∧ p' ≤ n ∧ (∀ v1, TC b n p v1 → ∀ Q : Int32 → Vl → Vl → Prop, (∀ u, TC b n p' u → Q 1 (encG k') u) → wp_X5_readClause (encG k) v1 Q) ∧ (∀ w, PK b n k p w → ∀ Q : Int32 → Vl → Prop, (∀ w', PK b n k' p' w' → fr [33, 34, 36, 37, 38, 46] [35] [47, 48] [] w w' → Q 0 w') → wp_X9_takeSky w Q)) := by
  have hn := T.1
  have h30 := hk.1
  have g0 := zE_ge isB b n p
  have g1 := zE_le (P := isB) (b := b) hp
  obtain ⟨p0, ep0⟩ : ∃ p0, p0 = zE isB b n p := ⟨_, rfl⟩
  have g2 := zE_ge isL b n p0
  have g3 : zE isL b n p0 ≤ n := zE_le (by omega)
  obtain ⟨e, ee⟩ : ∃ e, e = zE isL b n p0 := ⟨_, rfl⟩
  have mst : ∀ w, PK b n k p w → ∀ Q : Int32 → Vl → Prop, (∀ u, PK b n k p0 u → u.1 36 = nI e → fr [34, 36] [35] [] [] w u → wp_X9_takeSky_c81 Q u (oI (zkF b p0 (e - p0) 6 3 0))) → wp_X9_takeSky w Q := by
    intro w hw Q h
    unfold wp_X9_takeSky
    refine m_word T hp hw.1 (fun u hu h36 h35 fu => ?_)
    rw [← ep0] at hu h36 h35
    rw [← ee] at h36
    refine m_skyNamed (n := n) (p := p0) h35 ?_
    rw [← ee]
    exact h u (PK_fr hw fu hu (by decide) (by decide)) h36 fu
  by_cases hL : p0 < n ∧ isL (b p0) = true
  · have cst : ∀ v1, TC b n p v1 → ∀ Q : Int32 → Vl → Vl → Prop, (∀ u, TC b n e u → u.1 3 = nI p0 → ((¬ oI (zkF b p0 (e - p0) 6 3 0) = (-1) → (((encG k).1 2 < 30 → wp_X7_readNumber u 1 99 (fun r_5 u_4 => ((r_5 = 0 → Q 0 (encG k) u_4) ∧ (¬ r_5 = 0 → wp_X7_readSign u_4 59 (fun r_7 u_6 => ((¬ r_7 = 0 → wp_X8_put 30 ((encG k).2.2.1 0) ((encG k).1 2) (oI (zkF b p0 (e - p0) 6 3 0)) (fun u_8 => ∀ v0s_9 : Vl, v0s_9 = setRA (encG k) 0 u_8 → wp_X8_put 30 (v0s_9.2.2.1 1) (v0s_9.1 2) (u_6.1 4) (fun u_10 => ∀ v0s_11 : Vl, v0s_11 = setRA v0s_9 1 u_10 → ∀ v0s_12 : Vl, v0s_12 = setI v0s_11 2 ((v0s_11.1 2) + 1) → ∀ v0s_13 : Vl, v0s_13 = setI v0s_12 3 ((v0s_12.1 3) + (u_6.1 4)) → Q 1 v0s_13 u_6))) ∧ (r_7 = 0 → Q 0 (encG k) u_6))))))) ∧ (¬ (encG k).1 2 < 30 → wp_X7_fail u 3 (u.1 3) (fun r_15 u_14 => narrow .boolean (.int r_15) = .int r_15 ∧ Q r_15 (encG k) u_14)))) ∧ (oI (zkF b p0 (e - p0) 6 3 0) = (-1) → wp_X7_fail u 1 (u.1 3) (fun r_17 u_16 => narrow .boolean (.int r_17) = .int r_17 ∧ Q r_17 (encG k) u_16)))) → wp_X5_readClause (encG k) v1 Q := by
      intro v1 hv Q h
      unfold wp_X5_readClause
      rw [ep0] at hL
      refine q_word_s T hp hv hL (fun u hu h3 => ?_)
      rw [← ep0] at hu h3
      rw [← ee] at hu
      rw [rl_b11]
      exact q_skyNamed T (by omega) (by omega) hu h3 (h u hu h3)
    cases ez : zkF b p0 (e - p0) 6 3 0 with
    | none =>
      rw [ez] at mst cst
      refine Or.inl ⟨1, p0, by omega, by omega, by omega, fun v1 hv Q h => ?_, fun w hw Q h => ?_⟩
      · refine cst v1 hv Q (fun u hu h3 => ?_)
        rw [rl_fT (show oI none = -1 from rfl), h3]
        exact q_fail (f := 1) (fun u' hu' _ => ⟨nar0, h k u' hu'⟩)
      · refine mst w hw Q (fun u hu h36 fu => ?_)
        unfold wp_X9_takeSky_c81 wp_X9_takeSky_c95 wp_X9_takeSky_c105
        rw [rl_eT (show oI none < 0 by decide), rl_eF (show ¬ 0 ≤ oI none by decide), hu.1.2.1]
        exact m_fails (f := 1) (fun u' hu' f' => h u' hu' (fr_t (fr_m fu (by decide) (by decide) (by decide) (by decide)) (fr_m f' (by decide) (by decide) (by decide) (by decide))))
    | some j =>
      have hj := (zkF_lt 3 0 j ez).1
      rw [ez] at mst cst
      have hj1 : ¬ oI (some j) = -1 := rl_nm1 (by omega)
      have hj2 : ¬ oI (some j) < 0 := nI_pos (by omega)
      by_cases c30 : k.1 2 = 30
      · refine Or.inl ⟨3, p0, by omega, by omega, by omega, fun v1 hv Q h => ?_, fun w hw Q h => ?_⟩
        · refine cst v1 hv Q (fun u hu h3 => ?_)
          rw [rl_fF hj1, encG_1, c30, rl_eF (show ¬ nI 30 < 30 by decide), h3]
          exact q_fail (f := 3) (fun u' hu' _ => ⟨nar0, h k u' hu'⟩)
        · refine mst w hw Q (fun u hu h36 fu => ?_)
          unfold wp_X9_takeSky_c81 wp_X9_takeSky_c95 wp_X9_takeSky_c105
          rw [rl_eF hj2, hu.2.2.1, c30, rl_fT (show nI 30 = 30 from rfl), rl_eT (show 0 ≤ oI (some j) from nI_pos' (by omega)), hu.1.2.1]
          exact m_fails (f := 3) (fun u' hu' f' => h u' hu' (fr_t (fr_m fu (by decide) (by decide) (by decide) (by decide)) (fr_m f' (by decide) (by decide) (by decide) (by decide))))
      · have c30' : k.1 2 < 30 := by omega
        have hne : ¬ nI (k.1 2) = 30 := fun q => c30 ((nI_eq (b := 30) (by omega) (by omega)).mp q)
        have m2 : ∀ w, PK b n k p w → ∀ Q : Int32 → Vl → Prop, (∀ u, TM b n e u → PK b n k e u → u.2.2.1 47 (k.1 2) = nI j → fr [34, 36] [35] [47] [] w u → wp_X9_takeNumber u (nI 1) (nI 99) (fun r_2 u_1 => vp_in (nI (k.1 2)) 30 ∧ (∀ v0s_3 : Vl, v0s_3 = setA u_1 48 (k.1 2) (u_1.1 37) → (∀ v0s_13 : Vl, v0s_13 = setI v0s_3 46 ((v0s_3.1 46) + 1) → ((¬ r_2 = 0 → wp_X9_takeSky_c180 Q v0s_13 r_2) ∧ (r_2 = 0 → wp_X9_here v0s_13 (fun r_16 u_15 => ((r_16 = 59 → wp_X9_takeSky_c180 Q u_15 r_2) ∧ (¬ r_16 = 59 → wp_X9_fails u_15 1 (u_15.1 34) (fun r_18 u_17 => Q r_18 u_17)))))))))) → wp_X9_takeSky w Q := by
          intro w hw Q h
          refine mst w hw Q (fun u hu h36 fu => ?_)
          unfold wp_X9_takeSky_c81 wp_X9_into_kt_48
          rw [rl_eF hj2, hu.2.2.1, rl_fF hne, h36]
          have e46 : (setI u 34 (nI e)).1 46 = nI (k.1 2) := hu.2.2.1
          have e46b : ∀ i x, (setA (setI u 34 (nI e)) 47 i x).1 46 = nI (k.1 2) := fun _ _ => hu.2.2.1
          simp only [forall_eq, e46, e46b, nI_clamp (show k.1 2 < 2 ^ 31 by omega)]
          refine ⟨vp_in_nI c30' (by decide), ?_⟩
          have htm : TM b n e (setA (setI u 34 (nI e)) 47 (k.1 2) (oI (some j))) := ⟨hu.1.1, rfl, hu.1.2.2⟩
          have hpk : PK b n k e (setA (setI u 34 (nI e)) 47 (k.1 2) (oI (some j))) := by
            refine ⟨htm, hu.2.1, hu.2.2.1, fun c hc => ?_⟩
            show upd (u.2.2.1 47) (k.1 2) (oI (some j)) c = _ ∧ _
            rw [upd_a, if_neg (by omega)]
            exact hu.2.2.2 c hc
          have h47 : (setA (setI u 34 (nI e)) 47 (k.1 2) (oI (some j))).2.2.1 47 (k.1 2) = nI j := by
            rw [sA_3, if_pos rfl, upd_a, if_pos rfl]
            rfl
          have hh := h _ htm hpk h47 (fr_A (fr_I (fr_m fu (by decide) (by decide) (by decide) (by decide)) _ (by decide)) _ _ (by decide))
          simp only [forall_eq] at hh
          exact hh
        rcases num_cases b n 1 99 e with ⟨f, pl, hb⟩ | ⟨x, e2, hb⟩
        · have hbl := bad_le (p := e) (by omega) hb
          refine Or.inl ⟨f, pl, hbl.1, hbl.2.1, hbl.2.2, fun v1 hv Q h => ?_, fun w hw Q h => ?_⟩
          · refine cst v1 hv Q (fun u hu h3 => ?_)
            rw [rl_fF hj1, encG_1, rl_eT (show nI (k.1 2) < 30 from nI_lt (b := 30) c30' (by omega))]
            refine q_num_f (lo := 1) (hi := 99) T (by omega) hu hb (by omega) (by omega) (fun u' hu' => ?_)
            rw [rl_b00]
            exact h k u' hu'
          · refine m2 w hw Q (fun u hu hpk h47 fu => ?_)
            refine m_num_f T (by omega) hu hb (by omega) (by omega) (fun u' hu' f' => ⟨vp_in_nI c30' (by decide), ?_⟩)
            simp only [forall_eq]
            rw [rl_fF (nI_ne0 (by omega) (by omega))]
            unfold wp_X9_takeSky_c180
            simp only [forall_eq]
            exact h _ hu' (fr_I (fr_I (fr_A (fr_t (fr_m fu (by decide) (by decide) (by decide) (by decide)) (fr_m f' (by decide) (by decide) (by decide) (by decide))) _ _ (by decide)) _ (by decide)) _ (by decide))
        · have hbl := num_le (p := e) (by omega) hb
          have g4 := zE_ge isB b n e2
          have g5 : zE isB b n e2 ≤ n := zE_le (by omega)
          have cnum : ∀ v1, TC b n p v1 → ∀ Q : Int32 → Vl → Vl → Prop, (∀ u, TC b n e2 u → u.1 4 = nI x → wp_X7_readSign u (nI 59) (fun r_7 u_6 => ((¬ r_7 = 0 → wp_X8_put 30 ((encG k).2.2.1 0) ((encG k).1 2) (oI (some j)) (fun u_8 => ∀ v0s_9 : Vl, v0s_9 = setRA (encG k) 0 u_8 → wp_X8_put 30 (v0s_9.2.2.1 1) (v0s_9.1 2) (u_6.1 4) (fun u_10 => ∀ v0s_11 : Vl, v0s_11 = setRA v0s_9 1 u_10 → ∀ v0s_12 : Vl, v0s_12 = setI v0s_11 2 ((v0s_11.1 2) + 1) → ∀ v0s_13 : Vl, v0s_13 = setI v0s_12 3 ((v0s_12.1 3) + (u_6.1 4)) → Q 1 v0s_13 u_6))) ∧ (r_7 = 0 → Q 0 (encG k) u_6)))) → wp_X5_readClause (encG k) v1 Q := by
            intro v1 hv Q h
            refine cst v1 hv Q (fun u hu h3 => ?_)
            rw [rl_fF hj1, encG_1, rl_eT (show nI (k.1 2) < 30 from nI_lt (b := 30) c30' (by omega))]
            refine q_num_s (lo := 1) (hi := 99) T (by omega) hu hb (by omega) (fun u' hu' h4 h5 f' => ?_)
            rw [rl_b01]
            exact h u' hu' h4
          have mnum : ∀ w, PK b n k p w → ∀ Q : Int32 → Vl → Prop, (∀ u, PK b n (zkc k j x) e2 u → fr [34, 36, 37, 38, 46] [35] [47, 48] [] w u → wp_X9_here u (fun r_16 u_15 => ((r_16 = 59 → wp_X9_takeSky_c180 Q u_15 0) ∧ (¬ r_16 = 59 → wp_X9_fails u_15 1 (u_15.1 34) (fun r_18 u_17 => Q r_18 u_17))))) → wp_X9_takeSky w Q := by
            intro w hw Q h
            refine m2 w hw Q (fun u hu hpk h47 fu => ?_)
            refine m_num_s T (by omega) hu hb (by omega) (fun u' hu' h37 h38 f' => ⟨vp_in_nI c30' (by decide), ?_⟩)
            have e46 : ∀ i y, (setA u' 48 i y).1 46 = nI (k.1 2) := fun _ _ => by
              show u'.1 46 = _
              rw [f'.1 46 (by decide)]
              exact hpk.2.2.1
            simp only [forall_eq, h37, e46, nI_1]
            rw [rl_fT trivial]
            refine h _ ⟨hu', ?_, ?_, fun c hc => ?_⟩ (fr_I (fr_A (fr_t (fr_m fu (by decide) (by decide) (by decide) (by decide)) (fr_m f' (by decide) (by decide) (by decide) (by decide))) _ _ (by decide)) _ (by decide))
            · show u'.1 33 = -1
              rw [f'.1 33 (by decide)]
              exact hpk.2.1
            · show nI (k.1 2 + 1) = _
              unfold zkc
              rw [zu_n _ _ (by decide), zu_s]
            · have ec : (zkc k j x).1 2 = k.1 2 + 1 := by
                unfold zkc
                rw [zu_n _ _ (by decide), zu_s]
              rw [ec] at hc
              show u'.2.2.1 47 c = _ ∧ upd (u'.2.2.1 48) (k.1 2) (nI x) c = _
              rw [f'.2.2.1 47 (by decide), f'.2.2.1 48 (by decide)]
              unfold zkc
              rw [zu_2, zu_2, upd_a, za_n _ _ _ (by decide : (0 : Nat) ≠ 1)]
              by_cases c1 : c = k.1 2
              · subst c1
                rw [if_pos rfl, za_s, za_s]
                exact ⟨h47, rfl⟩
              · rw [if_neg c1, za_r _ _ _ _ c1, za_r _ _ _ _ c1, za_n _ _ _ (by decide : (1 : Nat) ≠ 0)]
                exact hpk.2.2.2 c (by omega)
          by_cases hs : zE isB b n e2 < n ∧ b (zE isB b n e2) = 59
          · refine Or.inr ⟨zkc k j x, zE isB b n e2 + 1, WfK_zkc hk c30' (by omega) hbl.2.2.1 hbl.2.2.2.1, by omega, hs.1, fun v1 hv Q h => ?_, fun w hw Q h => ?_⟩
            · refine cnum v1 hv Q (fun u hu h4 => ?_)
              refine q_sign_s T (by omega) hu hs (fun u' hu' f' => ?_)
              have h4' : u'.1 4 = nI x := by rw [f'.1 4 (by decide)]; exact h4
              rw [rl_b11, h4']
              have eo : oI (some j) = nI j := rfl
              simp (disch := omega) only [w_put, encG_1, encG_r, eo, jput_row, forall_eq, encG_setRA, encG_setI, zw_1, zw_n, nI_add, nI_1, zu_s, zu_n]
              exact h u' hu'
            · refine mnum w hw Q (fun u hu fu => ?_)
              refine m_here T (by omega) hu.1 (fun u' hu' f' => ?_)
              rw [if_pos hs.1, hs.2, rl_eT (show nI 59 = 59 from rfl)]
              unfold wp_X9_takeSky_c180
              simp only [forall_eq]
              rw [hu'.2.1, nI_1]
              have f2 : fr [34] [] [] [] u (setI u' 34 (nI (zE isB b n e2 + 1))) := fr_I f' _ (by decide)
              exact h _ (PK_fr hu f2 (TM_set hu') (by decide) (by decide)) (fr_t (fr_m fu (by decide) (by decide) (by decide) (by decide)) (fr_m f2 (by decide) (by decide) (by decide) (by decide)))
          · refine Or.inl ⟨1, zE isB b n e2, by omega, by omega, g5, fun v1 hv Q h => ?_, fun w hw Q h => ?_⟩
            · refine cnum v1 hv Q (fun u hu h4 => ?_)
              refine q_sign_f T (by omega) hu (by omega) hs (fun u' hu' => ?_)
              rw [rl_b10]
              exact h k u' hu'
            · refine mnum w hw Q (fun u hu fu => ?_)
              refine m_here T (by omega) hu.1 (fun u' hu' f' => ?_)
              have hne59 : ¬ (if zE isB b n e2 < n then nI (b (zE isB b n e2)) else -1) = 59 := by
                by_cases c1 : zE isB b n e2 < n
                · have hb2 := T.2 _ c1
                  rw [if_pos c1]
                  exact fun q => hs ⟨c1, (nI_eq (b := 59) (by omega) (by omega)).mp q⟩
                · rw [if_neg c1]
                  decide
              rw [rl_eF hne59, hu'.2.1]
              exact m_fails (f := 1) (fun u2 hu2 f2 => h u2 hu2 (fr_t (fr_m fu (by decide) (by decide) (by decide) (by decide)) (fr_t (fr_m f' (by decide) (by decide) (by decide) (by decide)) (fr_m f2 (by decide) (by decide) (by decide) (by decide)))))
  · refine Or.inl ⟨1, p0, by omega, by omega, by omega, fun v1 hv Q h => ?_, fun w hw Q h => ?_⟩
    · unfold wp_X5_readClause
      rw [ep0] at hL
      refine q_word_f T hp hv hL (fun u hu => ?_)
      rw [← ep0] at hu
      rw [rl_b10]
      exact h k u hu
    · refine mst w hw Q (fun u hu h36 fu => ?_)
      have e0 : e = p0 := by rw [ee, zE_n hL]
      have ez : zkF b p0 (e - p0) 6 3 0 = none := by
        cases ez : zkF b p0 (e - p0) 6 3 0 with
        | none => rfl
        | some j =>
          obtain ⟨h1, h2, _⟩ := zkF_lt 3 0 j ez
          have hw8 : 1 ≤ wlen (6 + j) := by
            have : j = 0 ∨ j = 1 ∨ j = 2 := by omega
            rcases this with rfl | rfl | rfl <;> decide
          omega
      rw [ez]
      unfold wp_X9_takeSky_c81 wp_X9_takeSky_c95 wp_X9_takeSky_c105
      rw [rl_eT (show oI none < 0 by decide), rl_eF (show ¬ 0 ≤ oI none by decide), hu.1.2.1]
      exact m_fails (f := 1) (fun u' hu' f' => h u' hu' (fr_t (fr_m fu (by decide) (by decide) (by decide) (by decide)) (fr_m f' (by decide) (by decide) (by decide) (by decide))))
