/-! ===== reef: the clauses ===== -/
def frR (w w' : Vl) : Prop := fr [33, 34, 36, 37, 38, 39, 42, 45] [35] [40, 41, 43, 44] [] w w'
def PM (b : Nat → Nat) (n : Nat) (r : Ns) (p : Nat) (w : Vl) : Prop := TM b n p w ∧ w.1 33 = -1 ∧ w.1 39 = nI (r.1 7) ∧ (∀ l, l < r.1 7 → ∀ k, k < 5 → w.2.2.1 40 (5 * l + k) = nI (r.2 k l)) ∧ (∀ i, i < 5 → w.2.2.1 41 i = nI (r.1 (8 + i))) ∧ w.1 42 = nI (r.1 13) ∧ (∀ i, i < r.1 13 → w.2.2.1 43 i = nI (r.2 5 i)) ∧ (∀ i, i < 9 → w.2.2.1 44 i = nI (r.2 6 i)) ∧ (∃ z, z ≤ 1 ∧ w.1 45 = nI (2 * r.1 14 + z))
theorem PM_fr {b : Nat → Nat} {n p q : Nat} {r : Ns} {v w : Vl} {LI LJ LA LB : List Nat} (h : PM b n r p v) (f : fr LI LJ LA LB v w) (ht : TM b n q w) (d1 : dj [33, 39, 42, 45] LI = true) (d3 : dj [40, 41, 43, 44] LA = true) : PM b n r q w := by
  obtain ⟨_, h33, h39, h40, h41, h42, h43, h44, h45⟩ := h
  unfold PM
  rw [f.1 33 (dj_n d1 (by decide)), f.1 39 (dj_n d1 (by decide)), f.1 42 (dj_n d1 (by decide)), f.1 45 (dj_n d1 (by decide)), f.2.2.1 40 (dj_n d3 (by decide)), f.2.2.1 41 (dj_n d3 (by decide)), f.2.2.1 43 (dj_n d3 (by decide)), f.2.2.1 44 (dj_n d3 (by decide))]
  exact ⟨ht, h33, h39, h40, h41, h42, h43, h44, h45⟩
theorem m_into41_s {b : Nat → Nat} {n lo hi p x e i : Nat} {r : Ns} {w : Vl} {Q : Int32 → Vl → Prop} (T : Tx b n) (hp : p ≤ n) (h : PM b n r p w) (hi5 : i < 5) (hN : isNum b n lo hi p x e) (hhi : hi < 2 ^ 30) (hQ : ∀ u, PM b n (zu r (8 + i) x) e u → frR w u → Q 0 u) : wp_X9_into_kt_41 w (nI i) (nI lo) (nI hi) Q := by
  unfold wp_X9_into_kt_41
  refine m_num_s T hp h.1 hN hhi (fun u hu h37 h38 fu => ⟨vp_in_nI hi5 (by decide), ?_⟩)
  have hu2 := PM_fr h fu hu (by decide) (by decide)
  rw [nI_clamp (by omega), h37]
  intro v ev
  subst ev
  obtain ⟨a1, h33, h39, h40, h41, h42, h43, h44, h45⟩ := hu2
  refine hQ _ ⟨a1, h33, ?_, ?_, fun j hj => ?_, ?_, ?_, h44, ?_⟩ (fr_A (fr_m fu (by decide) (by decide) (by decide) (by decide)) _ _ (by decide))
  · rw [zu_n _ _ (by omega)]; exact h39
  · rw [zu_n _ _ (by omega)]; exact h40
  · rw [sA_3, if_pos rfl, upd_a]
    by_cases c : j = i
    · rw [if_pos c, c, zu_s]
    · rw [if_neg c, zu_n _ _ (by omega)]
      exact h41 j hj
  · rw [zu_n _ _ (by omega)]; exact h42
  · rw [zu_n _ _ (by omega)]; exact h43
  · rw [zu_n _ _ (by omega)]; exact h45
theorem m_into41_f {b : Nat → Nat} {n lo hi p f pl i : Nat} {r : Ns} {w : Vl} {Q : Int32 → Vl → Prop} (T : Tx b n) (hp : p ≤ n) (h : PM b n r p w) (hi5 : i < 5) (hN : isBad b n lo hi p f pl) (hhi : hi < 2 ^ 30) (hlo : lo < 2 ^ 30) (hQ : ∀ u, FM pl u → frR w u → Q (nI f) u) : wp_X9_into_kt_41 w (nI i) (nI lo) (nI hi) Q := by
  unfold wp_X9_into_kt_41
  refine m_num_f T hp h.1 hN hhi hlo (fun u hu fu => ⟨vp_in_nI hi5 (by decide), ?_⟩)
  intro v ev
  subst ev
  exact hQ _ hu (fr_A (fr_m fu (by decide) (by decide) (by decide) (by decide)) _ _ (by decide))
def GR (r : Ns) : Prop := WfR r ∧ r.1 14 < 32
/-- a reading of both, in step -/
def rLS (b : Nat → Nat) (n : Nat) (r : Ns) (p : Nat) (C : Vl → Vl → (Int32 → Vl → Vl → Prop) → Prop) (M : Vl → (Int32 → Vl → Prop) → Prop) : Prop :=
  (∃ f pl, 1 ≤ f ∧ f ≤ 4 ∧ pl ≤ n ∧ (∀ v1, TC b n p v1 → ∀ Q : Int32 → Vl → Vl → Prop, (∀ r' u, FC f pl u → Q 0 (encG r') u) → C (encG r) v1 Q) ∧ (∀ w, PM b n r p w → ∀ Q : Int32 → Vl → Prop, (∀ w', FM pl w' → frR w w' → Q (nI f) w') → M w Q)) ∨
  (∃ r' p', GR r' ∧ p ≤ p' ∧ p' ≤ n ∧ (∀ v1, TC b n p v1 → ∀ Q : Int32 → Vl → Vl → Prop, (∀ u, TC b n p' u → Q 1 (encG r') u) → C (encG r) v1 Q) ∧ (∀ w, PM b n r p w → ∀ Q : Int32 → Vl → Prop, (∀ w', PM b n r' p' w' → frR w w' → Q 0 w') → M w Q))
theorem wfr_set {r : Ns} {i x : Nat} (h : GR r) (hi : i < 5) (h0 : i = 0 → 1 ≤ x ∧ x ≤ 99) (h1 : i = 1 → 1 ≤ x ∧ x ≤ 999) (h2 : i = 2 → x ≤ 9999) (h3 : i = 3 → x ≤ 99) (h4 : i = 4 → 1 ≤ x ∧ x ≤ 99) : GR (zu r (8 + i) x) := by
  obtain ⟨⟨r7, r8, r8', r9, r9', r10, r11, r12, r12', r13, r13', ra, rb, rc, rl⟩, r14⟩ := h
  have : i = 0 ∨ i = 1 ∨ i = 2 ∨ i = 3 ∨ i = 4 := by omega
  unfold GR WfR
  rcases this with rfl | rfl | rfl | rfl | rfl
  · have q := h0 rfl
    simp (disch := omega) only [zu_s, zu_n, zu_2]
    exact ⟨⟨r7, q.1, q.2, r9, r9', r10, r11, r12, r12', r13, r13', ra, rb, rc, rl⟩, r14⟩
  · have q := h1 rfl
    simp (disch := omega) only [zu_s, zu_n, zu_2]
    exact ⟨⟨r7, r8, r8', q.1, q.2, r10, r11, r12, r12', r13, r13', ra, rb, rc, rl⟩, r14⟩
  · have q := h2 rfl
    simp (disch := omega) only [zu_s, zu_n, zu_2]
    exact ⟨⟨r7, r8, r8', r9, r9', q, r11, r12, r12', r13, r13', ra, rb, rc, rl⟩, r14⟩
  · have q := h3 rfl
    simp (disch := omega) only [zu_s, zu_n, zu_2]
    exact ⟨⟨r7, r8, r8', r9, r9', r10, q, r12, r12', r13, r13', ra, rb, rc, rl⟩, r14⟩
  · have q := h4 rfl
    simp (disch := omega) only [zu_s, zu_n, zu_2]
    exact ⟨⟨r7, r8, r8', r9, r9', r10, r11, q.1, q.2, r13, r13', ra, rb, rc, rl⟩, r14⟩
theorem ls_barrel {b : Nat → Nat} {n p : Nat} {r : Ns} (T : Tx b n) (hr : GR r) (hp : p ≤ n) : rLS b n r p wp_X3_readBarrel (fun w Q => wp_X9_takeOnce w 2 Q) := by
  rcases num_cases b n 0 9999 p with ⟨f, pl, hb⟩ | ⟨x, e, hb⟩
  · have hbl := bad_le hp hb
    refine Or.inl ⟨f, pl, hbl.1, hbl.2.1, hbl.2.2, fun v1 hv Q h => ?_, fun w hw Q h => ?_⟩
    · unfold wp_X3_readBarrel
      refine q_num_f (lo := 0) (hi := 9999) T hp hv hb (by omega) (by omega) (fun u hu => ?_)
      rw [rl_b10]
      exact h r u hu
    · show wp_X9_takeOnce w 2 Q
      unfold wp_X9_takeOnce
      rw [rl_fT rfl]
      exact m_into41_f (i := 2) (lo := 0) (hi := 9999) T hp hw (by omega) hb (by omega) (by omega) h
  · have hbl := num_le hp hb
    refine Or.inr ⟨zu r (8 + 2) x, e, wfr_set hr (by omega) (by omega) (by omega) (by omega) (by omega) (by omega), by omega, hbl.2.1, fun v1 hv Q h => ?_, fun w hw Q h => ?_⟩
    · unfold wp_X3_readBarrel
      refine q_num_s (lo := 0) (hi := 9999) T hp hv hb (by omega) (fun u hu h4 h5 f' => ?_)
      rw [rl_b11, h4]
      intro v ev
      rw [ev, encG_setI]
      exact h u hu
    · show wp_X9_takeOnce w 2 Q
      unfold wp_X9_takeOnce
      rw [rl_fT rfl]
      exact m_into41_s (i := 2) (lo := 0) (hi := 9999) T hp hw (by omega) hb (by omega) h
theorem ls_boat {b : Nat → Nat} {n p : Nat} {r : Ns} (T : Tx b n) (hr : GR r) (hp : p ≤ n) : rLS b n r p wp_X3_readBoat (fun w Q => wp_X9_takeOnce w 1 Q) := by
  have m1 : ∀ w Q, wp_X9_takeOnce w 1 Q ↔ wp_X9_into_kt_41 w 0 1 99 (fun r_8 u_7 => wp_X9_takeOnce_c51 Q u_7 1 r_8) := by
    intro w Q
    unfold wp_X9_takeOnce
    rw [rl_fF (by decide), rl_fT rfl]
  have m2 : ∀ w Q, wp_X9_takeOnce_c51 Q w 1 0 ↔ wp_X9_into_kt_41 w 1 1 999 (fun r_6 u_5 => Q r_6 u_5) := by
    intro w Q
    unfold wp_X9_takeOnce_c51
    rw [rl_eT (by decide), rl_fT rfl]
  have m3 : ∀ w Q f, 1 ≤ f → f ≤ 4 → (wp_X9_takeOnce_c51 Q w 1 (nI f) ↔ Q (nI f) w) := by
    intro w Q f f1 f4
    unfold wp_X9_takeOnce_c51
    rw [rl_eF (nI_nle (by omega) (by omega))]
  rcases num_cases b n 1 99 p with ⟨f, pl, hb⟩ | ⟨x, e, hb⟩
  · have hbl := bad_le hp hb
    refine Or.inl ⟨f, pl, hbl.1, hbl.2.1, hbl.2.2, fun v1 hv Q h => ?_, fun w hw Q h => ?_⟩
    · unfold wp_X3_readBoat
      refine q_num_f (lo := 1) (hi := 99) T hp hv hb (by omega) (by omega) (fun u hu => ?_)
      rw [rl_b10]
      exact h r u hu
    · show wp_X9_takeOnce w 1 Q
      rw [m1]
      refine m_into41_f (i := 0) (lo := 1) (hi := 99) T hp hw (by omega) hb (by omega) (by omega) (fun u hu fu => ?_)
      rw [m3 _ _ _ hbl.1 hbl.2.1]
      exact h u hu fu
  · have hbl := num_le hp hb
    rcases num_cases b n 1 999 e with ⟨f, pl, hb2⟩ | ⟨x2, e2, hb2⟩
    · have hbl2 := bad_le hbl.2.1 hb2
      refine Or.inl ⟨f, pl, hbl2.1, hbl2.2.1, hbl2.2.2, fun v1 hv Q h => ?_, fun w hw Q h => ?_⟩
      · unfold wp_X3_readBoat
        refine q_num_s (lo := 1) (hi := 99) T hp hv hb (by omega) (fun u hu h4 h5 f' => ?_)
        rw [rl_b11, h4]
        intro v ev
        rw [ev, encG_setI]
        refine q_num_f (lo := 1) (hi := 999) T hbl.2.1 hu hb2 (by omega) (by omega) (fun u2 hu2 => ?_)
        rw [rl_b10]
        exact h _ u2 hu2
      · show wp_X9_takeOnce w 1 Q
        rw [m1]
        refine m_into41_s (i := 0) (lo := 1) (hi := 99) T hp hw (by omega) hb (by omega) (fun u hu fu => ?_)
        rw [m2]
        exact m_into41_f (i := 1) (lo := 1) (hi := 999) T hbl.2.1 hu (by omega) hb2 (by omega) (by omega) (fun u2 hu2 f2 => h u2 hu2 (fr_t fu f2))
    · have hbl2 := num_le hbl.2.1 hb2
      refine Or.inr ⟨zu (zu r (8 + 0) x) (8 + 1) x2, e2, wfr_set (wfr_set hr (by omega) (by omega) (by omega) (by omega) (by omega) (by omega)) (by omega) (by omega) (by omega) (by omega) (by omega) (by omega), by omega, hbl2.2.1, fun v1 hv Q h => ?_, fun w hw Q h => ?_⟩
      · unfold wp_X3_readBoat
        refine q_num_s (lo := 1) (hi := 99) T hp hv hb (by omega) (fun u hu h4 h5 f' => ?_)
        rw [rl_b11, h4]
        intro v ev
        rw [ev, encG_setI]
        refine q_num_s (lo := 1) (hi := 999) T hbl.2.1 hu hb2 (by omega) (fun u2 hu2 h42 h52 f2 => ?_)
        rw [rl_b11, h42]
        intro v2 ev2
        rw [ev2, encG_setI]
        exact h u2 hu2
      · show wp_X9_takeOnce w 1 Q
        rw [m1]
        refine m_into41_s (i := 0) (lo := 1) (hi := 99) T hp hw (by omega) hb (by omega) (fun u hu fu => ?_)
        rw [m2]
        exact m_into41_s (i := 1) (lo := 1) (hi := 999) T hbl.2.1 hu (by omega) hb2 (by omega) (fun u2 hu2 f2 => h u2 hu2 (fr_t fu f2))
theorem ls_hens {b : Nat → Nat} {n p : Nat} {r : Ns} (T : Tx b n) (hr : GR r) (hp : p ≤ n) : rLS b n r p wp_X3_readHens (fun w Q => wp_X9_takeOnce w 3 Q) := by
  have m1 : ∀ w Q, wp_X9_takeOnce w 3 Q ↔ wp_X9_into_kt_41 w 3 0 99 (fun r_8 u_7 => wp_X9_takeOnce_c51 Q u_7 3 r_8) := by
    intro w Q
    unfold wp_X9_takeOnce
    rw [rl_fF (by decide), rl_fF (by decide)]
  have m2 : ∀ w Q, wp_X9_takeOnce_c51 Q w 3 0 ↔ wp_X9_into_kt_41 w 4 1 99 (fun r_6 u_5 => Q r_6 u_5) := by
    intro w Q
    unfold wp_X9_takeOnce_c51
    rw [rl_eT (by decide), rl_fF (by decide)]
  have m3 : ∀ w Q f, 1 ≤ f → f ≤ 4 → (wp_X9_takeOnce_c51 Q w 3 (nI f) ↔ Q (nI f) w) := by
    intro w Q f f1 f4
    unfold wp_X9_takeOnce_c51
    rw [rl_eF (nI_nle (by omega) (by omega))]
  rcases num_cases b n 0 99 p with ⟨f, pl, hb⟩ | ⟨x, e, hb⟩
  · have hbl := bad_le hp hb
    refine Or.inl ⟨f, pl, hbl.1, hbl.2.1, hbl.2.2, fun v1 hv Q h => ?_, fun w hw Q h => ?_⟩
    · unfold wp_X3_readHens
      refine q_num_f (lo := 0) (hi := 99) T hp hv hb (by omega) (by omega) (fun u hu => ?_)
      rw [rl_b10]
      exact h r u hu
    · show wp_X9_takeOnce w 3 Q
      rw [m1]
      refine m_into41_f (i := 3) (lo := 0) (hi := 99) T hp hw (by omega) hb (by omega) (by omega) (fun u hu fu => ?_)
      rw [m3 _ _ _ hbl.1 hbl.2.1]
      exact h u hu fu
  · have hbl := num_le hp hb
    rcases num_cases b n 1 99 e with ⟨f, pl, hb2⟩ | ⟨x2, e2, hb2⟩
    · have hbl2 := bad_le hbl.2.1 hb2
      refine Or.inl ⟨f, pl, hbl2.1, hbl2.2.1, hbl2.2.2, fun v1 hv Q h => ?_, fun w hw Q h => ?_⟩
      · unfold wp_X3_readHens
        refine q_num_s (lo := 0) (hi := 99) T hp hv hb (by omega) (fun u hu h4 h5 f' => ?_)
        rw [rl_b11, h4]
        intro v ev
        rw [ev, encG_setI]
        refine q_num_f (lo := 1) (hi := 99) T hbl.2.1 hu hb2 (by omega) (by omega) (fun u2 hu2 => ?_)
        rw [rl_b10]
        exact h _ u2 hu2
      · show wp_X9_takeOnce w 3 Q
        rw [m1]
        refine m_into41_s (i := 3) (lo := 0) (hi := 99) T hp hw (by omega) hb (by omega) (fun u hu fu => ?_)
        rw [m2]
        exact m_into41_f (i := 4) (lo := 1) (hi := 99) T hbl.2.1 hu (by omega) hb2 (by omega) (by omega) (fun u2 hu2 f2 => h u2 hu2 (fr_t fu f2))
    · have hbl2 := num_le hbl.2.1 hb2
      refine Or.inr ⟨zu (zu r (8 + 3) x) (8 + 4) x2, e2, wfr_set (wfr_set hr (by omega) (by omega) (by omega) (by omega) (by omega) (by omega)) (by omega) (by omega) (by omega) (by omega) (by omega) (by omega), by omega, hbl2.2.1, fun v1 hv Q h => ?_, fun w hw Q h => ?_⟩
      · unfold wp_X3_readHens
        refine q_num_s (lo := 0) (hi := 99) T hp hv hb (by omega) (fun u hu h4 h5 f' => ?_)
        rw [rl_b11, h4]
        intro v ev
        rw [ev, encG_setI]
        refine q_num_s (lo := 1) (hi := 99) T hbl.2.1 hu hb2 (by omega) (fun u2 hu2 h42 h52 f2 => ?_)
        rw [rl_b11, h42]
        intro v2 ev2
        rw [ev2, encG_setI]
        exact h u2 hu2
      · show wp_X9_takeOnce w 3 Q
        rw [m1]
        refine m_into41_s (i := 3) (lo := 0) (hi := 99) T hp hw (by omega) hb (by omega) (fun u hu fu => ?_)
        rw [m2]
        exact m_into41_s (i := 4) (lo := 1) (hi := 99) T hbl.2.1 hu (by omega) hb2 (by omega) (fun u2 hu2 f2 => h u2 hu2 (fr_t fu f2))
