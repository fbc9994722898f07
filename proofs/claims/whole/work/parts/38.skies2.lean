/-! ===== skies, whole ===== -/
theorem k_loop {b : Nat → Nat} {n : Nat} (T : Tx b n) : ∀ m p i k, n - p ≤ m → p ≤ n → i ≤ p → WfK k →
    (∃ f pl, 1 ≤ f ∧ f ≤ 4 ∧ pl ≤ n ∧ (∀ v1, TC b n p v1 → ∀ Q : Int32 → Vl → Vl → Prop, (∀ k' u, FC f pl u → Q 0 (encG k') u) → wp_X5_readFrom_c16 Q (m + 1) (encG k) v1 (nI i)) ∧ (∀ w, PK b n k p w → ∀ Q : Int32 → Vl → Prop, (∀ w', FM pl w' → fr [33, 34, 36, 37, 38, 46] [35] [47, 48] [] w w' → wp_X9_skies_c50 Q w' (nI f)) → wp_X9_skies_c31 Q (m + 2) w 0)) ∨
    (∃ k', WfK k' ∧ (∀ v1, TC b n p v1 → ∀ Q : Int32 → Vl → Vl → Prop, (∀ u, Q 1 (encG k') u) → wp_X5_readFrom_c16 Q (m + 1) (encG k) v1 (nI i)) ∧ (∀ w, PK b n k p w → ∀ Q : Int32 → Vl → Prop, (∀ w' q, PK b n k' q w' → fr [33, 34, 36, 37, 38, 46] [35] [47, 48] [] w w' → wp_X9_skies_c50 Q w' 0) → wp_X9_skies_c31 Q (m + 2) w 0)) := by
  intro m
  induction m with
  | zero =>
    intro p i k em hp hi hk
    have hn := T.1
    obtain rfl : p = n := by omega
    have hci : ¬ (500 : Int32) < nI i := nI_nlt (a := 500) (by omega) (by omega)
    have ez : zE isB b p p = p := zE_n (by omega)
    refine Or.inr ⟨k, hk, fun v1 hv Q h => ?_, fun w hw Q h => ?_⟩
    · unfold wp_X5_readFrom_c16
      rw [rl_eF hci]
      refine q_atEnd T hp hv (fun u hu fu => ?_)
      rw [ez, if_neg (Nat.lt_irrefl _), rl_b01]
      exact h u
    · unfold wp_X9_skies_c31
      rw [rl_b10]
      refine m_here T hp hw.1 (fun u hu fu => ?_)
      rw [ez] at hu ⊢
      rw [if_neg (Nat.lt_irrefl _), rl_eT (by decide)]
      exact h u p (PK_fr hw fu hu (by decide) (by decide)) (fr_m fu (by decide) (by decide) (by decide) (by decide))
  | succ m ih =>
    intro p i k em hp hi hk
    have hn := T.1
    have g0 := zE_ge isB b n p
    have g1 := zE_le (P := isB) (b := b) hp
    obtain ⟨p0, ep0⟩ : ∃ p0, p0 = zE isB b n p := ⟨_, rfl⟩
    rw [← ep0] at g0 g1
    have hci : ¬ (500 : Int32) < nI i := nI_nlt (a := 500) (by omega) (by omega)
    by_cases hend : p0 < n
    · have hb := T.2 p0 hend
      have hz : ∀ v1, TC b n p v1 → ∀ Q : Int32 → Vl → Vl → Prop, (∀ u, TC b n p0 u → wp_X5_readClause (encG k) u (fun r_8 u_6 u_7 => ((¬ r_8 = 0 → ∀ x_9 : Int32, x_9 = nI i + 1 → wp_X5_readFrom_c16 Q (m + 1) u_6 u_7 x_9) ∧ (r_8 = 0 → Q 0 u_6 u_7)))) → wp_X5_readFrom_c16 Q (m + 1 + 1) (encG k) v1 (nI i) := by
        intro v1 hv Q h
        unfold wp_X5_readFrom_c16
        rw [rl_eF hci]
        refine q_atEnd T hp hv (fun u hu fu => ?_)
        rw [← ep0] at hu ⊢
        rw [if_pos hend, rl_b00]
        exact h u hu
      have hzm : ∀ w, PK b n k p w → ∀ Q : Int32 → Vl → Prop, (∀ u, PK b n k p0 u → fr [34] [] [] [] w u → wp_X9_takeSky u (fun r_13 u_12 => wp_X9_skies_c31 Q (m + 2) u_12 r_13)) → wp_X9_skies_c31 Q (m + 1 + 2) w 0 := by
        intro w hw Q h
        unfold wp_X9_skies_c31
        rw [rl_b10]
        refine m_here T hp hw.1 (fun u hu fu => ?_)
        rw [← ep0] at hu ⊢
        rw [if_pos hend, rl_eF (nI_pos (by omega))]
        exact h u (PK_fr hw fu hu (by decide) (by decide)) fu
      rcases k_clause (k := k) T hk g1 with ⟨f, pl, f1, f4, hpl, hC, hM⟩ | ⟨k', p', hk', hpp, hpn, hC, hM⟩
      · refine Or.inl ⟨f, pl, f1, f4, hpl, fun v1 hv Q h => ?_, fun w hw Q h => ?_⟩
        · refine hz v1 hv Q (fun u hu => hC u hu _ (fun k' u' hu' => ?_))
          rw [rl_b10]
          exact h k' u' hu'
        · refine hzm w hw Q (fun u hu fu => hM u hu _ (fun w' hw' f' => ?_))
          unfold wp_X9_skies_c31
          rw [rl_fF (nI_ne0 (by omega) (by omega))]
          exact h w' hw' (fr_t (fr_m fu (by decide) (by decide) (by decide) (by decide)) f')
      · rcases ih p' (i + 1) k' (by omega) hpn (by omega) hk' with ⟨f, pl, f1, f4, hpl, hC2, hM2⟩ | ⟨k2, hk2, hC2, hM2⟩
        · refine Or.inl ⟨f, pl, f1, f4, hpl, fun v1 hv Q h => ?_, fun w hw Q h => ?_⟩
          · refine hz v1 hv Q (fun u hu => hC u hu _ (fun u' hu' => ?_))
            rw [rl_b11]
            intro x ex
            rw [ex, nI_1]
            exact hC2 u' hu' Q h
          · refine hzm w hw Q (fun u hu fu => hM u hu _ (fun w' hw' f' => ?_))
            exact hM2 w' hw' Q (fun w2 hw2 f2 => h w2 hw2 (fr_t (fr_m fu (by decide) (by decide) (by decide) (by decide)) (fr_t f' f2)))
        · refine Or.inr ⟨k2, hk2, fun v1 hv Q h => ?_, fun w hw Q h => ?_⟩
          · refine hz v1 hv Q (fun u hu => hC u hu _ (fun u' hu' => ?_))
            rw [rl_b11]
            intro x ex
            rw [ex, nI_1]
            exact hC2 u' hu' Q h
          · refine hzm w hw Q (fun u hu fu => hM u hu _ (fun w' hw' f' => ?_))
            exact hM2 w' hw' Q (fun w2 q hw2 f2 => h w2 q hw2 (fr_t (fr_m fu (by decide) (by decide) (by decide) (by decide)) (fr_t f' f2)))
    · have e0 : p0 = n := by omega
      refine Or.inr ⟨k, hk, fun v1 hv Q h => ?_, fun w hw Q h => ?_⟩
      · unfold wp_X5_readFrom_c16
        rw [rl_eF hci]
        refine q_atEnd T hp hv (fun u hu fu => ?_)
        rw [← ep0, if_neg hend, rl_b01]
        exact h u
      · unfold wp_X9_skies_c31
        rw [rl_b10]
        refine m_here T hp hw.1 (fun u hu fu => ?_)
        rw [← ep0] at hu ⊢
        rw [if_neg hend, rl_eT (by decide)]
        exact h u p0 (PK_fr hw fu hu (by decide) (by decide)) (fr_m fu (by decide) (by decide) (by decide) (by decide))
theorem m_sk_copy {k : Ns} {w0 : Vl} {Q : Int32 → Vl → Prop} (hk : WfK k) (h47 : ∀ c, c < k.1 2 → w0.2.2.1 47 c = nI (k.2 0 c) ∧ w0.2.2.1 48 c = nI (k.2 1 c)) (h10 : w0.1 10 = nI (k.1 2)) (h : ∀ w', MK k w' → fr [] [] [11, 12] [] w0 w' → Q (nI (k.1 3)) w') :
    ∀ m i w, i + m = 30 → fr [] [] [11, 12] [] w0 w → (∀ c, c < i → c < k.1 2 → w.2.2.1 11 c = nI (k.2 0 c) ∧ w.2.2.1 12 c = nI (k.2 1 c)) → wp_X9_skies_c74 Q (m + 1) w (nI i)
  | 0, i, w, e, f, hc => by
    obtain rfl : i = 30 := by omega
    have mk : MK k w := ⟨by rw [f.1 10 (by decide)]; exact h10, fun c hcc => hc c (by have := hk.1; omega) hcc⟩
    unfold wp_X9_skies_c74
    rw [rl_eT (show (30 : Int32) ≤ nI 30 by decide)]
    exact m_skyAll hk mk (h w mk f)
  | m + 1, i, w, e, f, hc => by
    have e47 : w.2.2.1 47 = w0.2.2.1 47 := f.2.2.1 47 (by decide)
    have e48 : w.2.2.1 48 = w0.2.2.1 48 := f.2.2.1 48 (by decide)
    have hv : vp_in (nI i) 30 := vp_in_nI (by omega) (by decide)
    have e48' : ∀ x, (setA w 11 i x).2.2.1 48 = w0.2.2.1 48 := fun _ => e48
    unfold wp_X9_skies_c74
    rw [rl_eF (show ¬ (30 : Int32) ≤ nI i from nI_ge (b := 30) (by omega) (by omega)), nI_clamp (by omega), e47]
    simp only [forall_eq, e48', nI_1]
    refine ⟨hv, hv, hv, hv, ?_⟩
    refine m_sk_copy hk h47 h10 h m (i + 1) _ (by omega) (fr_A (fr_A f _ _ (by decide)) _ _ (by decide)) (fun c hci hck => ?_)
    simp only [sA_3, ↓reduceIte, Nat.reduceEqDiff, upd_a]
    by_cases c1 : c = i
    · rw [if_pos c1, if_pos c1, c1]
      rw [c1] at hck
      exact h47 i hck
    · rw [if_neg c1, if_neg c1]
      exact hc c (by omega) hck
theorem p_skies {b : Nat → Nat} {n : Nat} {k : Ns} {vx x0 x11 x12 w : Vl} (hT : IT b n vx x0 w) (hK : IK k x11 w) (h12 : ∃ t, x12 = encG t) :
    ∃ z, ((∀ Q : Int32 → Vl → Vl → Vl → Vl → Prop, Q z vx x0 x11 x12 → wp_X8_skies vx x0 x11 x12 Q) ∧ (∀ Q : Int32 → Vl → Prop, Q z w → wp_X9_skies w Q)) ∨
      (∃ fv k2, WfK k2 ∧ (∀ Q : Int32 → Vl → Vl → Vl → Vl → Prop, (∀ a0 a1 a2 a3, a0.1 13 = fv → a1.1 1 = nI 0 → a2 = encG k2 → (∃ t, a3 = encG t) → Q z a0 a1 a2 a3) → wp_X8_skies vx x0 x11 x12 Q) ∧
        (∀ Q : Int32 → Vl → Prop, (∀ w', w'.1 33 = fv → w'.1 32 = nI 0 → MK k2 w' → fr [10, 32, 33, 34, 36, 37, 38, 46] [35] [11, 12, 47, 48] [] w w' → Q z w') → wp_X9_skies w Q)) := by
  obtain ⟨t1, t2, t3, t4, t5⟩ := hT
  obtain ⟨e11, wk, mk⟩ := hK
  obtain ⟨kk, rfl⟩ := h12
  subst e11
  unfold wp_X8_skies wp_X9_skies
  rw [t1, t2]
  by_cases c200 : n ≤ 200
  · have T : Tx b n := ⟨by omega, fun i hi => (t5 i hi).2.2⟩
    have hc : nI n ≤ 200 := nI_le (b := 200) c200 (by omega)
    have wz : WfK (zu (zu kk 2 0) 3 0) := by
      refine ⟨?_, ?_, ?_⟩
      · rw [zu_n _ _ (by decide), zu_s]
        omega
      · rw [zu_s, zu_n _ _ (by decide), zu_s]
        rfl
      · intro c hcc
        rw [zu_n _ _ (by decide), zu_s] at hcc
        omega
    have cst : ∀ Q : Int32 → Vl → Vl → Vl → Vl → Prop, (∀ v1, TC b n 0 v1 → ∃ c, wp_X5_readFrom_c16 (fun r_3 u_1 u_2 => wp_X7_clear u_2 (fun u_4 => ((¬ r_3 = 0 → ∀ v0s_5 : Vl, v0s_5 = setI vx 13 (-1) → Q (u_1.1 3) v0s_5 u_4 u_1 (encG k)) ∧ (r_3 = 0 → wp_X8_refuseText vx u_4 (fun r_7 u_6 => Q r_7 u_6 u_4 (encG k) u_1))))) c (encG (zu (zu kk 2 0) 3 0)) v1 (nI 0)) → wp_X5_readFrom (encG kk) x0 (fun r_3 u_1 u_2 => wp_X7_clear u_2 (fun u_4 => ((¬ r_3 = 0 → ∀ v0s_5 : Vl, v0s_5 = setI vx 13 (-1) → Q (u_1.1 3) v0s_5 u_4 u_1 (encG k)) ∧ (r_3 = 0 → wp_X8_refuseText vx u_4 (fun r_7 u_6 => Q r_7 u_6 u_4 (encG k) u_1))))) := by
      intro Q h
      have z0 : (0 : Int32) = nI 0 := rfl
      have ez : setI (setI (encG kk) 2 0) 3 0 = encG (zu (zu kk 2 0) 3 0) := by rw [z0, encG_setI, encG_setI]
      unfold wp_X5_readFrom wp_X7_startReading
      intro a1 e1 a2 e2 a3 e3 a4 e4 a5 e5
      subst e1 e2 e3 e4 e5
      rw [ez]
      exact h (setI (setI (setI x0 2 0) 6 0) 7 (-1)) ⟨t1, rfl, fun i hi => (t5 i hi).1⟩
    have pk0 : PK b n (zu (zu kk 2 0) 3 0) 0 (setI (setI (setI w 33 (-1)) 34 0) 46 0) := by
      refine ⟨⟨t2, rfl, fun i hi => (t5 i hi).2.1⟩, rfl, ?_, fun c hcc => ?_⟩
      · rw [zu_n _ _ (by decide), zu_s]
        rfl
      · rw [zu_n _ _ (by decide), zu_s] at hcc
        omega
    have f0 : fr [10, 32, 33, 34, 36, 37, 38, 46] [35] [11, 12, 47, 48] [] w (setI (setI (setI w 33 (-1)) 34 0) 46 0) := fr_I (fr_I (fr_I (fr_r w) _ (by decide)) _ (by decide)) _ (by decide)
    rcases k_loop T n 0 0 _ (by omega) (by omega) (by omega) wz with ⟨f, pl, f1, f4, hpl, hC, hM⟩ | ⟨k2, hk2, hC, hM⟩
    · refine ⟨-10 - nI f, Or.inr ⟨nI pl, k, wk, fun Q h => ?_, fun Q h => ?_⟩⟩
      · rw [rl_eT hc]
        refine cst Q (fun v1 hv => ⟨_, hC v1 hv _ (fun k' u hu => ?_)⟩)
        unfold wp_X7_clear wp_X8_refuseText
        have e6 : (setI u 1 0).1 6 = nI f := hu.1
        have e7 : (setI u 1 0).1 7 = nI pl := hu.2
        intro u4 eu4
        subst eu4
        refine rl_b10.mpr ?_
        intro v5 ev5
        rw [e6]
        exact h _ _ _ _ (by rw [ev5, e7]; rfl) rfl rfl ⟨k', rfl⟩
      · rw [rl_eT hc]
        simp only [forall_eq]
        refine ⟨_, hM _ pk0 Q (fun w' hw' f' => ?_)⟩
        unfold wp_X9_skies_c50
        simp only [forall_eq]
        rw [rl_eF (nI_nle (by omega) (by omega))]
        have f2 := fr_t f0 (fr_m (LI' := [10, 32, 33, 34, 36, 37, 38, 46]) (LJ' := [35]) (LA' := [11, 12, 47, 48]) (LB' := []) f' (by decide) (by decide) (by decide) (by decide))
        have hm : MK k w' := MK_fr (LI := [33, 34, 36, 37, 38, 46]) (LJ := [35]) (LA := [47, 48]) (LB := []) mk (fr_t (fr_I (fr_I (fr_I (fr_r w) _ (by decide)) _ (by decide)) _ (by decide)) f') (by decide) (by decide)
        exact h _ hw' rfl hm (fr_I f2 _ (by decide))
    · have k23 := WfK_3 hk2
      refine ⟨nI (k2.1 3), Or.inr ⟨-1, k2, hk2, fun Q h => ?_, fun Q h => ?_⟩⟩
      · rw [rl_eT hc]
        refine cst Q (fun v1 hv => ⟨_, hC v1 hv _ (fun u => ?_)⟩)
        unfold wp_X7_clear
        intro u4 eu4
        subst eu4
        refine rl_b11.mpr ?_
        intro v5 ev5
        rw [encG_1]
        exact h _ _ _ _ (by rw [ev5]; rfl) rfl rfl ⟨k, rfl⟩
      · rw [rl_eT hc]
        simp only [forall_eq]
        refine ⟨_, hM _ pk0 Q (fun w' q hw' f' => ?_)⟩
        unfold wp_X9_skies_c50
        simp only [forall_eq]
        rw [rl_eT (by decide)]
        have f2 := fr_t f0 (fr_m (LI' := [10, 32, 33, 34, 36, 37, 38, 46]) (LJ' := [35]) (LA' := [11, 12, 47, 48]) (LB' := []) f' (by decide) (by decide) (by decide) (by decide))
        have e46 : (setI w' 32 0).1 46 = nI (k2.1 2) := hw'.2.2.1
        rw [e46]
        refine ⟨31, m_sk_copy (w0 := setI (setI w' 32 0) 10 (nI (k2.1 2))) hk2 hw'.2.2.2 rfl (fun w2 hmk f3 => ?_) 30 0 _ (by omega) (fr_r _) (fun c hcc => absurd hcc (Nat.not_lt_zero _))⟩
        refine h w2 ?_ ?_ hmk (fr_t (fr_I (fr_I f2 _ (by decide)) _ (by decide)) (fr_m f3 (by decide) (by decide) (by decide) (by decide)))
        · rw [f3.1 33 (by decide)]
          exact hw'.2.1
        · rw [f3.1 32 (by decide)]
          rfl
  · have hc : ¬ nI n ≤ 200 := nI_ge (a := 200) (by omega) (by omega)
    refine ⟨-1000000003, Or.inl ⟨fun Q h => ?_, fun Q h => ?_⟩⟩
    · rw [rl_eF hc]
      exact h
    · rw [rl_eF hc]
      exact h
