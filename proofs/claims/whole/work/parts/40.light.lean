/-! ===== reef: a light ===== -/
def PLt (b : Nat → Nat) (n : Nat) (r : Ns) (c p : Nat) (w : Vl) : Prop := TM b n p w ∧ w.1 33 = -1 ∧ w.1 39 = nI (r.1 7 + 1) ∧ (∀ l, l < r.1 7 → ∀ k, k < 5 → w.2.2.1 40 (5 * l + k) = nI (r.2 k l)) ∧ (∀ k, k < c → w.2.2.1 40 (5 * r.1 7 + k) = nI (r.2 k (r.1 7))) ∧ (∀ i, i < 5 → w.2.2.1 41 i = nI (r.1 (8 + i))) ∧ w.1 42 = nI (r.1 13) ∧ (∀ i, i < r.1 13 → w.2.2.1 43 i = nI (r.2 5 i)) ∧ (∀ i, i < 9 → w.2.2.1 44 i = nI (r.2 6 i)) ∧ (∃ z, z ≤ 1 ∧ w.1 45 = nI (2 * r.1 14 + z))
def Bdl (r : Ns) (c : Nat) : Prop := (1 ≤ c → r.2 0 (r.1 7) ≤ 4) ∧ (2 ≤ c → r.2 1 (r.1 7) ≤ 99) ∧ (3 ≤ c → r.2 2 (r.1 7) ≤ 99) ∧ (4 ≤ c → r.2 3 (r.1 7) ≤ 999) ∧ (5 ≤ c → r.2 4 (r.1 7) ≤ 99)
theorem GR_za {r : Ns} {c x : Nat} (h : GR r) (hc : c < 5) : GR (za r c (r.1 7) x) := by
  obtain ⟨⟨r7, r8, r8', r9, r9', r10, r11, r12, r12', r13, r13', ra, rb, rc, rl⟩, r14⟩ := h
  have e5 : (za r c (r.1 7) x).2 5 = r.2 5 := za_n _ _ _ (by omega)
  have e6 : (za r c (r.1 7) x).2 6 = r.2 6 := za_n _ _ _ (by omega)
  have el : ∀ k l, l < r.1 7 → (za r c (r.1 7) x).2 k l = r.2 k l := by
    intro k l hl
    by_cases e : k = c
    · subst e
      exact za_r _ _ _ _ (by omega)
    · rw [za_n _ _ _ e]
  unfold GR WfR
  rw [za_1, e5, e6]
  refine ⟨⟨r7, r8, r8', r9, r9', r10, r11, r12, r12', r13, r13', ra, rb, rc, fun l hl => ?_⟩, r14⟩
  rw [el 0 l hl, el 1 l hl, el 2 l hl, el 3 l hl, el 4 l hl]
  exact rl l hl
theorem PLt_za {b : Nat → Nat} {n c p x : Nat} {r : Ns} {w : Vl} (h : PLt b n r c p w) (hc : c < 5) (h7 : r.1 7 < 9) : PLt b n (za r c (r.1 7) x) (c + 1) p (setA w 40 (5 * r.1 7 + c) (nI x)) := by
  obtain ⟨a1, h33, h39, h40, hk, h41, h42, h43, h44, h45⟩ := h
  have e5 : (za r c (r.1 7) x).2 5 = r.2 5 := za_n _ _ _ (by omega)
  have e6 : (za r c (r.1 7) x).2 6 = r.2 6 := za_n _ _ _ (by omega)
  unfold PLt
  rw [za_1, e5, e6]
  refine ⟨a1, h33, h39, fun l hl k hk5 => ?_, fun k hkc => ?_, h41, h42, h43, h44, h45⟩
  · rw [sA_3, if_pos rfl, upd_a, if_neg (by omega)]
    by_cases e : k = c
    · subst e
      rw [za_r _ _ _ _ (by omega)]
      exact h40 l hl k hk5
    · rw [za_n _ _ _ e]
      exact h40 l hl k hk5
  · rw [sA_3, if_pos rfl, upd_a]
    by_cases e : k = c
    · subst e
      rw [if_pos rfl, za_s]
    · rw [if_neg (by omega), za_n _ _ _ e]
      exact hk k (by omega)
theorem PLt_fr {b : Nat → Nat} {n p q c : Nat} {r : Ns} {v w : Vl} {LI LJ LA LB : List Nat} (h : PLt b n r c p v) (f : fr LI LJ LA LB v w) (ht : TM b n q w) (d1 : dj [33, 39, 42, 45] LI = true) (d3 : dj [40, 41, 43, 44] LA = true) : PLt b n r c q w := by
  obtain ⟨_, h33, h39, h40, hk, h41, h42, h43, h44, h45⟩ := h
  unfold PLt
  rw [f.1 33 (dj_n d1 (by decide)), f.1 39 (dj_n d1 (by decide)), f.1 42 (dj_n d1 (by decide)), f.1 45 (dj_n d1 (by decide)), f.2.2.1 40 (dj_n d3 (by decide)), f.2.2.1 41 (dj_n d3 (by decide)), f.2.2.1 43 (dj_n d3 (by decide)), f.2.2.1 44 (dj_n d3 (by decide))]
  exact ⟨ht, h33, h39, h40, hk, h41, h42, h43, h44, h45⟩
theorem m_into40_s {b : Nat → Nat} {n lo hi p x e c : Nat} {r : Ns} {w : Vl} {Q : Int32 → Vl → Prop} (T : Tx b n) (hp : p ≤ n) (h : PLt b n r c p w) (hc : c < 5) (h7 : r.1 7 < 9) (hN : isNum b n lo hi p x e) (hhi : hi < 2 ^ 30) (hQ : ∀ u, PLt b n (za r c (r.1 7) x) (c + 1) e u → frR w u → Q 0 u) : wp_X9_into_kt_40 w (nI (5 * r.1 7 + c)) (nI lo) (nI hi) Q := by
  unfold wp_X9_into_kt_40
  refine m_num_s T hp h.1 hN hhi (fun u hu h37 h38 fu => ⟨vp_in_nI (by omega) (by decide), ?_⟩)
  rw [nI_clamp (by omega), h37]
  intro v ev
  subst ev
  exact hQ _ (PLt_za (PLt_fr h fu hu (by decide) (by decide)) hc h7) (fr_A (fr_m fu (by decide) (by decide) (by decide) (by decide)) _ _ (by decide))
theorem m_into40_f {b : Nat → Nat} {n lo hi p f pl c : Nat} {r : Ns} {w : Vl} {Q : Int32 → Vl → Prop} (T : Tx b n) (hp : p ≤ n) (h : PLt b n r c p w) (hc : c < 5) (h7 : r.1 7 < 9) (hN : isBad b n lo hi p f pl) (hhi : hi < 2 ^ 30) (hlo : lo < 2 ^ 30) (hQ : ∀ u, FM pl u → frR w u → Q (nI f) u) : wp_X9_into_kt_40 w (nI (5 * r.1 7 + c)) (nI lo) (nI hi) Q := by
  unfold wp_X9_into_kt_40
  refine m_num_f T hp h.1 hN hhi hlo (fun u hu fu => ⟨vp_in_nI (by omega) (by decide), ?_⟩)
  intro v ev
  subst ev
  exact hQ _ hu (fr_A (fr_m fu (by decide) (by decide) (by decide) (by decide)) _ _ (by decide))
def kW (v : Vl) (Q : Int32 → Vl → Vl → Prop) (u : Vl) : Prop := wp_X7_readNumber u 0 99 (fun r_19 u_18 => ((¬ r_19 = 0 → wp_X8_put 9 (v.2.2.1 4) (v.1 7) (u_18.1 4) (fun u_20 => ∀ v0s_21 : Vl, v0s_21 = setRA v 4 u_20 → ∀ v0s_22 : Vl, v0s_22 = setI v0s_21 7 ((v0s_21.1 7) + 1) → Q 1 v0s_22 u_18)) ∧ (r_19 = 0 → Q 0 v u_18)))
def kC (v : Vl) (Q : Int32 → Vl → Vl → Prop) (u : Vl) : Prop := wp_X7_readNumber u 0 999 (fun r_15 u_14 => ((¬ r_15 = 0 → wp_X8_put 9 (v.2.2.1 3) (v.1 7) (u_14.1 4) (fun u_16 => ∀ v0s_17 : Vl, v0s_17 = setRA v 3 u_16 → kW v0s_17 Q u_14)) ∧ (r_15 = 0 → Q 0 v u_14)))
def kB (v : Vl) (Q : Int32 → Vl → Vl → Prop) (u : Vl) : Prop := wp_X7_readNumber u 0 99 (fun r_11 u_10 => ((¬ r_11 = 0 → wp_X8_put 9 (v.2.2.1 2) (v.1 7) (u_10.1 4) (fun u_12 => ∀ v0s_13 : Vl, v0s_13 = setRA v 2 u_12 → kC v0s_13 Q u_10)) ∧ (r_11 = 0 → Q 0 v u_10)))
def kP (v : Vl) (Q : Int32 → Vl → Vl → Prop) (u : Vl) : Prop := wp_X7_readNumber u 0 99 (fun r_7 u_6 => ((¬ r_7 = 0 → wp_X8_put 9 (v.2.2.1 1) (v.1 7) (u_6.1 4) (fun u_8 => ∀ v0s_9 : Vl, v0s_9 = setRA v 1 u_8 → kB v0s_9 Q u_6)) ∧ (r_7 = 0 → Q 0 v u_6)))
/-- the rest of a light, in step -/
def tLS (b : Nat → Nat) (n : Nat) (r : Ns) (c p : Nat) (K : Vl → (Int32 → Vl → Vl → Prop) → Vl → Prop) (M : Vl → (Int32 → Vl → Prop) → Prop) : Prop :=
  (∃ f pl, 1 ≤ f ∧ f ≤ 4 ∧ pl ≤ n ∧ (∀ u, TC b n p u → ∀ Q : Int32 → Vl → Vl → Prop, (∀ r' u, FC f pl u → Q 0 (encG r') u) → K (encG r) Q u) ∧ (∀ w, PLt b n r c p w → ∀ Q : Int32 → Vl → Prop, (∀ w', FM pl w' → frR w w' → Q (nI f) w') → M w Q)) ∨
  (∃ r' p', GR r' ∧ p ≤ p' ∧ p' ≤ n ∧ (∀ u, TC b n p u → ∀ Q : Int32 → Vl → Vl → Prop, (∀ u, TC b n p' u → Q 1 (encG r') u) → K (encG r) Q u) ∧ (∀ w, PLt b n r c p w → ∀ Q : Int32 → Vl → Prop, (∀ w', PM b n r' p' w' → frR w w' → Q 0 w') → M w Q))
theorem t_W {b : Nat → Nat} {n p : Nat} {r : Ns} (T : Tx b n) (hr : GR r) (h7 : r.1 7 < 9) (hb4 : Bdl r 4) (hp : p ≤ n) : tLS b n r 4 p kW (fun w Q => wp_X9_into_kt_40 w (nI (5 * r.1 7 + 4)) (nI 0) (nI 99) Q) := by
  rcases num_cases b n 0 99 p with ⟨f, pl, hb⟩ | ⟨x, e, hb⟩
  · have hbl := bad_le hp hb
    refine Or.inl ⟨f, pl, hbl.1, hbl.2.1, hbl.2.2, fun v1 hv Q h => ?_, fun w hw Q h => ?_⟩
    · unfold kW
      refine q_num_f (lo := 0) (hi := 99) T hp hv hb (by omega) (by omega) (fun u hu => ?_)
      rw [rl_b10]
      exact h r u hu
    · exact m_into40_f T hp hw (by omega) h7 hb (by omega) (by omega) h
  · have hbl := num_le hp hb
    have g1 := GR_za (c := 4) (x := x) hr (by omega)
    refine Or.inr ⟨zu (za r 4 (r.1 7) x) 7 (r.1 7 + 1), e, ?_, by omega, hbl.2.1, fun v1 hv Q h => ?_, fun w hw Q h => ?_⟩
    · obtain ⟨⟨r7, r8, r8', r9, r9', r10, r11, r12, r12', r13, r13', ra, rb, rc, rl⟩, r14⟩ := g1
      unfold GR WfR
      simp (disch := omega) only [zu_s, zu_n, zu_2]
      refine ⟨⟨by omega, r8, r8', r9, r9', r10, r11, r12, r12', r13, r13', ra, rb, rc, fun l hl => ?_⟩, r14⟩
      by_cases e1 : l = r.1 7
      · subst e1
        rw [za_s, za_n _ _ _ (by decide), za_n _ _ _ (by decide), za_n _ _ _ (by decide), za_n _ _ _ (by decide)]
        exact ⟨hb4.1 (by omega), hb4.2.1 (by omega), hb4.2.2.1 (by omega), hb4.2.2.2.1 (by omega), hbl.2.2.2.1⟩
      · exact rl l (by rw [za_1]; omega)
    · unfold kW
      refine q_num_s (lo := 0) (hi := 99) T hp hv hb (by omega) (fun u hu h4 h5 f' => ?_)
      rw [rl_b11, h4, w_put (by decide), encG_1, encG_r, jput_row _ _ h7 (by decide)]
      intro v2 ev2 v3 ev3
      rw [encG_setRA] at ev2
      rw [ev3, ev2, encG_1, zw_1, nI_1, encG_setI]
      exact h u hu
    · refine m_into40_s T hp hw (by omega) h7 hb (by omega) (fun u hu fu => h u ?_ fu)
      obtain ⟨a1, h33, h39, h40, hk, h41, h42, h43, h44, h45⟩ := hu
      rw [za_1] at h39 h40 hk h41 h42 h43 h45
      unfold PM
      refine ⟨a1, h33, ?_, fun l hl k hk5 => ?_, fun i hi => ?_, ?_, ?_, h44, ?_⟩
      · rw [zu_s]; exact h39
      · rw [zu_s] at hl
        rw [zu_2]
        by_cases e1 : l = r.1 7
        · rw [e1]; exact hk k hk5
        · exact h40 l (by omega) k hk5
      · rw [zu_n _ _ (by omega)]; exact h41 i hi
      · rw [zu_n _ _ (by decide)]; exact h42
      · rw [zu_n _ _ (by decide)]; exact h43
      · rw [zu_n _ _ (by decide)]; exact h45
theorem t_step {b : Nat → Nat} {n p c hi : Nat} {r : Ns} {K K' : Vl → (Int32 → Vl → Vl → Prop) → Vl → Prop} {M M' : Vl → (Int32 → Vl → Prop) → Prop} (T : Tx b n) (hc : c < 5) (h7 : r.1 7 < 9) (hp : p ≤ n) (hhi : hi ≤ 999)
    (hK : ∀ v Q u, (wp_X7_readNumber u (nI 0) (nI hi) (fun r_ u_ => ((¬ r_ = 0 → wp_X8_put 9 (v.2.2.1 c) (v.1 7) (u_.1 4) (fun x => ∀ s : Vl, s = setRA v c x → K' s Q u_)) ∧ (r_ = 0 → Q 0 v u_)))) → K v Q u)
    (hM : ∀ w Q, ∃ N : Int32 → Vl → Prop, (wp_X9_into_kt_40 w (nI (5 * r.1 7 + c)) (nI 0) (nI hi) N → M w Q) ∧ (∀ u, M' u Q → N 0 u) ∧ (∀ f u, 1 ≤ f → f ≤ 4 → Q (nI f) u → N (nI f) u))
    (tail : ∀ x e, x ≤ hi → p ≤ e → e ≤ n → tLS b n (za r c (r.1 7) x) (c + 1) e K' M') : tLS b n r c p K M := by
  rcases num_cases b n 0 hi p with ⟨f, pl, hb⟩ | ⟨x, e, hb⟩
  · have hbl := bad_le hp hb
    refine Or.inl ⟨f, pl, hbl.1, hbl.2.1, hbl.2.2, fun v1 hv Q h => hK _ _ _ ?_, fun w hw Q h => ?_⟩
    · refine q_num_f (lo := 0) (hi := hi) T hp hv hb (by omega) (by omega) (fun u hu => ?_)
      rw [rl_b10]
      exact h r u hu
    · obtain ⟨N, n1, n2, n3⟩ := hM w Q
      exact n1 (m_into40_f T hp hw hc h7 hb (by omega) (by omega) (fun u hu fu => n3 f u hbl.1 hbl.2.1 (h u hu fu)))
  · have hbl := num_le hp hb
    have cl : ∀ v1, TC b n p v1 → ∀ Q : Int32 → Vl → Vl → Prop, (∀ u, TC b n e u → K' (encG (za r c (r.1 7) x)) Q u) → K (encG r) Q v1 := by
      intro v1 hv Q h
      refine hK _ _ _ (q_num_s (lo := 0) (hi := hi) T hp hv hb (by omega) (fun u hu h4 h5 f' => ?_))
      rw [rl_b11, h4, w_put (by decide), encG_1, encG_r, jput_row _ _ h7 (by decide)]
      intro v2 ev2
      rw [encG_setRA] at ev2
      rw [ev2]
      exact h u hu
    have ml : ∀ w, PLt b n r c p w → ∀ Q : Int32 → Vl → Prop, (∀ u, PLt b n (za r c (r.1 7) x) (c + 1) e u → frR w u → M' u Q) → M w Q := by
      intro w hw Q h
      obtain ⟨N, n1, n2, n3⟩ := hM w Q
      exact n1 (m_into40_s T hp hw hc h7 hb (by omega) (fun u hu fu => n2 u (h u hu fu)))
    rcases tail x e hbl.2.2.2.1 (by omega) hbl.2.1 with ⟨f, pl, f1, f4, hpl, hC, hMm⟩ | ⟨r', p', hr', hpp, hpn, hC, hMm⟩
    · refine Or.inl ⟨f, pl, f1, f4, hpl, fun v1 hv Q h => cl v1 hv Q (fun u hu => hC u hu Q h), fun w hw Q h => ml w hw Q (fun u hu fu => hMm u hu Q (fun w' hw' f' => h w' hw' (fr_t fu f')))⟩
    · refine Or.inr ⟨r', p', hr', by omega, hpn, fun v1 hv Q h => cl v1 hv Q (fun u hu => hC u hu Q h), fun w hw Q h => ml w hw Q (fun u hu fu => hMm u hu Q (fun w' hw' f' => h w' hw' (fr_t fu f')))⟩
theorem bd_za {r : Ns} {c x : Nat} (h : Bdl r c) (hx : (c = 0 → x ≤ 4) ∧ (c = 1 → x ≤ 99) ∧ (c = 2 → x ≤ 99) ∧ (c = 3 → x ≤ 999)) (hc : c < 4) : Bdl (za r c (r.1 7) x) (c + 1) := by
  have : c = 0 ∨ c = 1 ∨ c = 2 ∨ c = 3 := by omega
  unfold Bdl at h ⊢
  rw [za_1]
  rcases this with rfl | rfl | rfl | rfl
  · refine ⟨fun _ => ?_, fun q => absurd q (by omega), fun q => absurd q (by omega), fun q => absurd q (by omega), fun q => absurd q (by omega)⟩
    rw [za_s]; exact hx.1 rfl
  · refine ⟨fun _ => ?_, fun _ => ?_, fun q => absurd q (by omega), fun q => absurd q (by omega), fun q => absurd q (by omega)⟩
    · rw [za_n _ _ _ (by decide)]; exact h.1 (by omega)
    · rw [za_s]; exact hx.2.1 rfl
  · refine ⟨fun _ => ?_, fun _ => ?_, fun _ => ?_, fun q => absurd q (by omega), fun q => absurd q (by omega)⟩
    · rw [za_n _ _ _ (by decide)]; exact h.1 (by omega)
    · rw [za_n _ _ _ (by decide)]; exact h.2.1 (by omega)
    · rw [za_s]; exact hx.2.2.1 rfl
  · refine ⟨fun _ => ?_, fun _ => ?_, fun _ => ?_, fun _ => ?_, fun q => absurd q (by omega)⟩
    · rw [za_n _ _ _ (by decide)]; exact h.1 (by omega)
    · rw [za_n _ _ _ (by decide)]; exact h.2.1 (by omega)
    · rw [za_n _ _ _ (by decide)]; exact h.2.2.1 (by omega)
    · rw [za_s]; exact hx.2.2.2 rfl
theorem t_light {b : Nat → Nat} {n p : Nat} {r : Ns} (T : Tx b n) (hr : GR r) (h7 : r.1 7 < 9) (hb1 : Bdl r 1) (hp : p ≤ n) : tLS b n r 1 p kP (fun w Q => wp_X9_into_kt_40 w (nI (5 * r.1 7) + 1) 0 99 (fun r_19 u_18 => ((r_19 ≤ 0 → wp_X9_into_kt_40 u_18 (nI (5 * r.1 7) + 2) 0 99 (fun r_21 u_20 => wp_X9_takeLight_c241 Q u_20 (nI (5 * r.1 7)) r_21)) ∧ (¬ r_19 ≤ 0 → wp_X9_takeLight_c241 Q u_18 (nI (5 * r.1 7)) r_19)))) := by
  have e1 : nI (5 * r.1 7) + 1 = nI (5 * r.1 7 + 1) := nI_1 _
  have e2 : nI (5 * r.1 7) + 2 = nI (5 * r.1 7 + 2) := by rw [lit32 2, nI_add]
  have e3 : nI (5 * r.1 7) + 3 = nI (5 * r.1 7 + 3) := by rw [lit32 3, nI_add]
  have e4 : nI (5 * r.1 7) + 4 = nI (5 * r.1 7 + 4) := by rw [lit32 4, nI_add]
  have f265 : ∀ (Q : Int32 → Vl → Prop) f u, 1 ≤ f → f ≤ 4 → Q (nI f) u → wp_X9_takeLight_c265 Q u (nI (5 * r.1 7)) (nI f) := by
    intro Q f u f1 f4 h
    unfold wp_X9_takeLight_c265
    rw [rl_eF (nI_nle (by omega) (by omega))]
    exact h
  have f241 : ∀ (Q : Int32 → Vl → Prop) f u, 1 ≤ f → f ≤ 4 → Q (nI f) u → wp_X9_takeLight_c241 Q u (nI (5 * r.1 7)) (nI f) := by
    intro Q f u f1 f4 h
    unfold wp_X9_takeLight_c241
    rw [rl_eF (nI_nle (by omega) (by omega))]
    exact f265 Q f u f1 f4 h
  refine t_step (c := 1) (hi := 99) (K' := kB) (M' := fun w Q => wp_X9_into_kt_40 w (nI (5 * r.1 7 + 2)) (nI 0) (nI 99) (fun r_21 u_20 => wp_X9_takeLight_c241 Q u_20 (nI (5 * r.1 7)) r_21)) T (by omega) h7 hp (by omega) (fun v Q u h => h) (fun w Q => ⟨_, fun h => by rw [e1]; exact h, fun u h => ?_, fun f u f1 f4 h => ?_⟩) ?_
  · refine ⟨fun _ => ?_, fun q => absurd (by decide) q⟩
    rw [e2]
    exact h
  · exact ⟨fun q => absurd q (nI_nle (by omega) (by omega)), fun _ => f241 Q f u f1 f4 h⟩
  intro x1 p1 hx1 hp1 hp1n
  have b2 := bd_za (x := x1) hb1 ⟨by omega, by omega, by omega, by omega⟩ (by omega)
  have g1 := GR_za (c := 1) (x := x1) hr (by omega)
  refine t_step (r := za r 1 (r.1 7) x1) (c := 2) (hi := 99) (K' := kC) (M' := fun w Q => wp_X9_into_kt_40 w (nI (5 * r.1 7 + 3)) (nI 0) (nI 999) (fun r_23 u_22 => wp_X9_takeLight_c265 Q u_22 (nI (5 * r.1 7)) r_23)) T (by omega) h7 hp1n (by omega) (fun v Q u h => h) (fun w Q => ⟨_, fun h => h, fun u h => ?_, fun f u f1 f4 h => f241 Q f u f1 f4 h⟩) ?_
  · unfold wp_X9_takeLight_c241
    rw [rl_eT (by decide), e3]
    exact h
  intro x2 p2 hx2 hp2 hp2n
  have b3 := bd_za (x := x2) b2 ⟨by omega, by omega, by omega, by omega⟩ (by omega)
  have g2 := GR_za (c := 2) (x := x2) g1 (by omega)
  refine t_step (r := za (za r 1 (r.1 7) x1) 2 ((za r 1 (r.1 7) x1).1 7) x2) (c := 3) (hi := 999) (K' := kW) (M' := fun w Q => wp_X9_into_kt_40 w (nI (5 * r.1 7 + 4)) (nI 0) (nI 99) Q) T (by omega) h7 hp2n (by omega) (fun v Q u h => h) (fun w Q => ⟨_, fun h => h, fun u h => ?_, fun f u f1 f4 h => f265 Q f u f1 f4 h⟩) ?_
  · unfold wp_X9_takeLight_c265
    rw [rl_eT (by decide), e4]
    exact h
  intro x3 p3 hx3 hp3 hp3n
  have b4 := bd_za (x := x3) b3 ⟨by omega, by omega, by omega, by omega⟩ (by omega)
  have g3 := GR_za (c := 3) (x := x3) g2 (by omega)
  exact t_W T g3 h7 b4 hp3n
theorem q_kindWord {i : Nat} {Q : Nat → Prop} (hi : i < 5) (h : Q (0 + i)) : wp_X8_kindWord (nI i) Q := by
  rw [Nat.zero_add] at h
  have : i = 0 ∨ i = 1 ∨ i = 2 ∨ i = 3 ∨ i = 4 := by omega
  unfold wp_X8_kindWord
  rcases this with rfl | rfl | rfl | rfl | rfl <;> refine ⟨fun q => ?_, fun q => ?_, fun q => ?_, fun q => ?_, fun q => ?_, fun q => ?_⟩ <;> first | exact absurd q (by decide) | exact h
theorem q_kindNamed {b : Nat → Nat} {n p e : Nat} {v : Vl} {Q : Int32 → Prop} (T : Tx b n) (hpe : p ≤ e) (he : e ≤ n) (h : TC b n e v) (h3 : v.1 3 = nI p) (hQ : Q (oI (zkF b p (e - p) 0 5 0))) : wp_X3_kindNamed v Q := by
  have loop : ∀ c i, i + c = 5 → Q (oI (zkF b p (e - p) 0 c i)) → wp_X3_kindNamed_c2 v Q (c + 1) (nI i) := by
    intro c
    induction c with
    | zero =>
      intro i ei hq
      obtain rfl : i = 5 := by omega
      unfold wp_X3_kindNamed_c2
      rw [rl_eT (show (5 : Int32) ≤ nI 5 by decide)]
      exact hq
    | succ c ih =>
      intro i ei hq
      unfold wp_X3_kindNamed_c2
      rw [rl_eF (show ¬ (5 : Int32) ≤ nI i from nI_ge (b := 5) (by omega) (by omega))]
      refine q_kindWord (by omega) ?_
      refine q_isWord T (by omega) hpe he h h3 (fun g => ?_) (fun g => ?_)
      · rw [rl_b01]
        rw [zkF_y g] at hq
        exact hq
      · rw [rl_b00]
        rw [zkF_n g] at hq
        simp only [forall_eq, nI_1]
        exact ih (i + 1) (by omega) hq
  exact ⟨6, loop 5 0 rfl hQ⟩
theorem ls_light {b : Nat → Nat} {n p : Nat} {r : Ns} (T : Tx b n) (hr : GR r) (h7 : r.1 7 < 9) (hp : p ≤ n) : rLS b n r p wp_X3_readLight wp_X9_takeLight := by
  have hn := T.1
  have g0 := zE_ge isB b n p
  have g1 := zE_le (P := isB) (b := b) hp
  obtain ⟨p0, ep0⟩ : ∃ p0, p0 = zE isB b n p := ⟨_, rfl⟩
  have g2 := zE_ge isL b n p0
  have g3 : zE isL b n p0 ≤ n := zE_le (by omega)
  obtain ⟨e, ee⟩ : ∃ e, e = zE isL b n p0 := ⟨_, rfl⟩
  have h9 : (encG r).1 7 < 9 := nI_lt (b := 9) h7 (by omega)
  have mst : ∀ w, PM b n r p w → ∀ Q : Int32 → Vl → Prop, (∀ u, PM b n r p0 u → u.1 36 = nI e → fr [34, 36] [35] [] [] w u → wp_X9_takeLight_c164 Q u (nI (5 * r.1 7)) (oI (zkF b p0 (e - p0) 0 5 0))) → wp_X9_takeLight w Q := by
    intro w hw Q h
    unfold wp_X9_takeLight
    rw [hw.2.2.1, lit32 5, pk_mul]
    intro x1 ex1
    subst ex1
    refine m_word T hp hw.1 (fun u hu h36 h35 fu => ?_)
    rw [← ep0] at hu h36 h35
    rw [← ee] at h36
    have hh := h u (PM_fr hw fu hu (by decide) (by decide)) h36 fu
    have i0 := m_isW (n := n) (k := 0) (by decide) h35
    have i1 := m_isW (n := n) (k := 1) (by decide) h35
    have i2 := m_isW (n := n) (k := 2) (by decide) h35
    have i3 := m_isW (n := n) (k := 3) (by decide) h35
    have i4 := m_isW (n := n) (k := 4) (by decide) h35
    rw [← ee] at i0 i1 i2 i3 i4
    rw [w_k0]
    by_cases c0 : isW b 0 p0 (e - p0)
    · rw [rl_fT (i0.mpr c0)]
      rw [zkF_y c0] at hh
      exact hh
    · rw [rl_fF (fun q => c0 (i0.mp q)), w_k1]
      rw [zkF_n c0] at hh
      by_cases c1 : isW b 1 p0 (e - p0)
      · rw [rl_fT (i1.mpr c1)]
        rw [zkF_y c1] at hh
        exact hh
      · rw [rl_fF (fun q => c1 (i1.mp q)), w_k2]
        rw [zkF_n c1] at hh
        by_cases c2 : isW b 2 p0 (e - p0)
        · rw [rl_fT (i2.mpr c2)]
          rw [zkF_y c2] at hh
          exact hh
        · rw [rl_fF (fun q => c2 (i2.mp q)), w_k3]
          rw [zkF_n c2] at hh
          by_cases c3 : isW b 3 p0 (e - p0)
          · rw [rl_fT (i3.mpr c3)]
            rw [zkF_y c3] at hh
            exact hh
          · rw [rl_fF (fun q => c3 (i3.mp q)), w_k4]
            rw [zkF_n c3] at hh
            by_cases c4 : isW b 4 p0 (e - p0)
            · rw [rl_fT (i4.mpr c4)]
              rw [zkF_y c4] at hh
              exact hh
            · rw [rl_fF (fun q => c4 (i4.mp q))]
              rw [zkF_n c4] at hh
              exact hh
  by_cases hL : p0 < n ∧ isL (b p0) = true
  · have cst : ∀ v1, TC b n p v1 → ∀ Q : Int32 → Vl → Vl → Prop, (∀ u, TC b n e u → u.1 3 = nI p0 → ((¬ oI (zkF b p0 (e - p0) 0 5 0) = (-1) → wp_X8_put 9 ((encG r).2.2.1 0) ((encG r).1 7) (oI (zkF b p0 (e - p0) 0 5 0)) (fun u_4 => ∀ v0s_5 : Vl, v0s_5 = setRA (encG r) 0 u_4 → kP v0s_5 Q u)) ∧ (oI (zkF b p0 (e - p0) 0 5 0) = (-1) → wp_X7_fail u 1 (u.1 3) (fun r_24 u_23 => narrow .boolean (.int r_24) = .int r_24 ∧ Q r_24 (encG r) u_23)))) → wp_X3_readLight (encG r) v1 Q := by
      intro v1 hv Q h
      unfold wp_X3_readLight
      rw [rl_eT h9]
      rw [ep0] at hL
      refine q_word_s T hp hv hL (fun u hu h3 => ?_)
      rw [← ep0] at hu h3
      rw [← ee] at hu
      rw [rl_b11]
      exact q_kindNamed T (by omega) (by omega) hu h3 (h u hu h3)
    cases ez : zkF b p0 (e - p0) 0 5 0 with
    | none =>
      rw [ez] at mst cst
      refine Or.inl ⟨1, p0, by omega, by omega, by omega, fun v1 hv Q h => ?_, fun w hw Q h => ?_⟩
      · refine cst v1 hv Q (fun u hu h3 => ?_)
        rw [rl_fT (show oI none = -1 from rfl), h3]
        exact q_fail (f := 1) (fun u' hu' _ => ⟨nar0, h r u' hu'⟩)
      · refine mst w hw Q (fun u hu h36 fu => ?_)
        unfold wp_X9_takeLight_c164
        rw [rl_eF (show ¬ 0 ≤ oI none by decide), hu.1.2.1]
        exact m_fails (f := 1) (fun u' hu' f' => h u' hu' (fr_t (fr_m fu (by decide) (by decide) (by decide) (by decide)) (fr_m f' (by decide) (by decide) (by decide) (by decide))))
    | some j =>
      have hj := (zkF_lt 5 0 j ez).1
      rw [ez] at mst cst
      have hj1 : ¬ oI (some j) = -1 := rl_nm1 (by omega)
      have eo : oI (some j) = nI j := rfl
      have gz := GR_za (c := 0) (x := j) hr (by omega)
      have bz : Bdl (za r 0 (r.1 7) j) 1 := bd_za (r := r) (c := 0) ⟨fun q => absurd q (by omega), fun q => absurd q (by omega), fun q => absurd q (by omega), fun q => absurd q (by omega), fun q => absurd q (by omega)⟩ ⟨by omega, by omega, by omega, by omega⟩ (by omega)
      have cl : ∀ v1, TC b n p v1 → ∀ Q : Int32 → Vl → Vl → Prop, (∀ u, TC b n e u → kP (encG (za r 0 (r.1 7) j)) Q u) → wp_X3_readLight (encG r) v1 Q := by
        intro v1 hv Q h
        refine cst v1 hv Q (fun u hu h3 => ?_)
        rw [rl_fF hj1, eo, w_put (by decide), encG_1, encG_r, jput_row _ _ h7 (by decide)]
        intro v2 ev2
        rw [encG_setRA] at ev2
        rw [ev2]
        exact h u hu
      have ml : ∀ w, PM b n r p w → ∀ Q : Int32 → Vl → Prop, (∀ u, PLt b n (za r 0 (r.1 7) j) 1 e u → frR w u → wp_X9_into_kt_40 u (nI (5 * r.1 7) + 1) 0 99 (fun r_19 u_18 => ((r_19 ≤ 0 → wp_X9_into_kt_40 u_18 (nI (5 * r.1 7) + 2) 0 99 (fun r_21 u_20 => wp_X9_takeLight_c241 Q u_20 (nI (5 * r.1 7)) r_21)) ∧ (¬ r_19 ≤ 0 → wp_X9_takeLight_c241 Q u_18 (nI (5 * r.1 7)) r_19)))) → wp_X9_takeLight w Q := by
        intro w hw Q h
        refine mst w hw Q (fun u hu h36 fu => ?_)
        unfold wp_X9_takeLight_c164
        rw [rl_eT (show 0 ≤ oI (some j) from nI_pos' (by omega)), h36]
        intro v1 ev1 v2 ev2
        subst ev1 ev2
        refine ⟨vp_in_nI (by omega) (by decide), ?_⟩
        rw [nI_clamp (by omega), eo]
        intro v3 ev3
        have e39 : (setI u 34 (nI e)).1 39 = nI (r.1 7) := hu.2.2.1
        rw [e39, nI_1] at ev3
        subst ev3
        obtain ⟨a1, h33, h39, h40, h41, h42, h43, h44, h45⟩ := hu
        have pl0 : PLt b n r 0 e (setI (setI u 34 (nI e)) 39 (nI (r.1 7 + 1))) := ⟨⟨a1.1, rfl, a1.2.2⟩, h33, rfl, h40, fun k hk => absurd hk (Nat.not_lt_zero _), h41, h42, h43, h44, h45⟩
        exact h _ (PLt_za (c := 0) (x := j) pl0 (by omega) h7) (fr_A (fr_I (fr_I (fr_m fu (by decide) (by decide) (by decide) (by decide)) _ (by decide)) _ (by decide)) _ _ (by decide))
      rcases t_light (r := za r 0 (r.1 7) j) T gz h7 bz (show e ≤ n by omega) with ⟨f, pl, f1, f4, hpl, hC, hMm⟩ | ⟨r', p', hr', hpp, hpn, hC, hMm⟩
      · exact Or.inl ⟨f, pl, f1, f4, hpl, fun v1 hv Q h => cl v1 hv Q (fun u hu => hC u hu Q h), fun w hw Q h => ml w hw Q (fun u hu fu => hMm u hu Q (fun w' hw' f' => h w' hw' (fr_t fu f')))⟩
      · exact Or.inr ⟨r', p', hr', by omega, hpn, fun v1 hv Q h => cl v1 hv Q (fun u hu => hC u hu Q h), fun w hw Q h => ml w hw Q (fun u hu fu => hMm u hu Q (fun w' hw' f' => h w' hw' (fr_t fu f')))⟩
  · refine Or.inl ⟨1, p0, by omega, by omega, by omega, fun v1 hv Q h => ?_, fun w hw Q h => ?_⟩
    · unfold wp_X3_readLight
      rw [rl_eT h9]
      rw [ep0] at hL
      refine q_word_f T hp hv hL (fun u hu => ?_)
      rw [← ep0] at hu
      rw [rl_b10]
      exact h r u hu
    · refine mst w hw Q (fun u hu h36 fu => ?_)
      have e0 : e = p0 := by rw [ee, zE_n hL]
      have ez : zkF b p0 (e - p0) 0 5 0 = none := by
        cases ez : zkF b p0 (e - p0) 0 5 0 with
        | none => rfl
        | some j =>
          obtain ⟨h1, h2, _⟩ := zkF_lt 5 0 j ez
          have hw8 : 1 ≤ wlen (0 + j) := by
            have : j = 0 ∨ j = 1 ∨ j = 2 ∨ j = 3 ∨ j = 4 := by omega
            rcases this with rfl | rfl | rfl | rfl | rfl <;> decide
          omega
      rw [ez]
      unfold wp_X9_takeLight_c164
      rw [rl_eF (show ¬ 0 ≤ oI none by decide), hu.1.2.1]
      exact m_fails (f := 1) (fun u' hu' f' => h u' hu' (fr_t (fr_m fu (by decide) (by decide) (by decide) (by decide)) (fr_m f' (by decide) (by decide) (by decide) (by decide))))
