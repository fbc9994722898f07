/-! ===== the start, pure ===== -/
def zN : Ns := (fun _ => 0, fun _ _ => 0)
theorem vz_G : vz = encG zN := by
  unfold vz encG zN
  refine Prod.ext ?_ (Prod.ext rfl (Prod.ext ?_ rfl))
  · rfl
  · funext k j
    rfl
theorem vz_S : setI vz 9 (-1) = encS zN := by
  refine Prod.ext ?_ (Prod.ext ?_ (Prod.ext ?_ rfl))
  · funext k
    show (if k = 9 then (-1 : Int32) else (0 : Int32)) = (if k = 9 then gI 0 else if k = 16 then 0 else nI 0)
    by_cases c : k = 9
    · rw [if_pos c, if_pos c]; rfl
    · rw [if_neg c, if_neg c]
      by_cases c2 : k = 16
      · rw [if_pos c2]
      · rw [if_neg c2]; rfl
  · funext k
    show (0 : Int64) = (if k = 16 then lN 0 else 0)
    by_cases c2 : k = 16
    · rw [if_pos c2]; rfl
    · rw [if_neg c2]
  · funext k j
    rfl
theorem q_init8 {Q : Vl → Vl → Vl → Prop} (h : Q (encG (zunt zN)) (encG (zunt zN)) (encS (zstart (zunt zN) zN))) : wp_X8_init Q := by
  unfold wp_X8_init wp_X3_init
  rw [vz_S, vz_G]
  exact q_untold (q_untold (q_over h))
/-- what stands after the model's own beginning -/
def MZ (i : Nat) (w : Vl) : Prop := (w.1 0 = nI 0 ∧ w.1 2 = nI 20 ∧ w.1 3 = nI 50 ∧ w.1 4 = nI 500 ∧ w.1 5 = nI 0 ∧ w.1 6 = nI 10 ∧ w.1 7 = nI 1 ∧ w.1 30 = nI 0 ∧ w.1 10 = nI 0 ∧ w.1 32 = nI 0 ∧ w.1 33 = -1 ∧ w.1 56 = nI 0) ∧ w.2.2.1 8 0 = nI 12 ∧ (∀ j, j < i → w.2.2.1 9 j = nI (if j / 3 = j % 3 then 100 else 0)) ∧ (∀ j, w.2.2.1 50 j = 0) ∧ (∀ j, w.2.2.1 59 j = nI 0)
theorem m_init_loop {Q : Vl → Prop} (hQ : ∀ w, MZ 9 w → wp_X9_anew w Q) : ∀ m i w, i + m = 9 → MZ i w → wp_X9_init_c280 Q (m + 1) w (nI i) := by
  intro m
  induction m with
  | zero =>
    intro i w e hz
    obtain rfl : i = 9 := by omega
    unfold wp_X9_init_c280
    exact ⟨fun _ => hQ w hz, fun h => absurd (show (9 : Int32) ≤ nI 9 by decide) h⟩
  | succ m ih =>
    intro i w e hz
    have step : ∀ x, x = (if i / 3 = i % 3 then 100 else 0) → wp_X9_init_c303 Q (wp_X9_init_c280 Q (m + 1)) w (nI i) (nI x) (nI i) := by
      intro x hx
      unfold wp_X9_init_c303
      refine ⟨vp_in_nI (by omega) (by decide), ?_⟩
      rw [nI_clamp (by omega)]
      intro v ev y ey
      rw [ey, nI_1]
      refine ih (i + 1) v (by omega) ?_
      obtain ⟨z1, z2, z3, z4, z5⟩ := hz
      rw [ev]
      refine ⟨z1, z2, fun j hj => ?_, z4, z5⟩
      show (upd (w.2.2.1 9) i (nI x)) j = _
      by_cases c : j = i
      · rw [c, pk_us, hx]
      · rw [pk_un c]
        exact z3 j (by omega)
    have e34 := i34 i (by omega)
    unfold wp_X9_init_c280
    rw [rl_eF (show ¬ (9 : Int32) ≤ nI i from nI_ge (b := 9) (by omega) (by omega)), lit32 4, pk_rem (by omega) (by omega) (by omega)]
    have e0 : (nI (i % 4) = 0) ↔ i % 4 = 0 := nI_eq (b := 0) (by omega) (by omega)
    exact ⟨fun c => step 0 (by rw [if_neg (fun g => c (e0.mpr (e34.mpr g)))]), fun c => step 100 (by rw [if_pos (e34.mp (e0.mp c))])⟩
theorem m_init9 {Q : Vl → Prop} (hQ : ∀ w, MZ 9 w → wp_X9_anew w Q) : wp_X9_init Q := by
  unfold wp_X9_init wp_X9_init_c270
  refine ⟨vp_in_nI (n := 0) (by decide) (by decide), fun v ev => ⟨10, ?_⟩⟩
  refine m_init_loop hQ 9 0 v rfl ?_
  rw [ev]
  refine ⟨⟨rfl, rfl, rfl, rfl, rfl, rfl, rfl, rfl, rfl, rfl, rfl, rfl⟩, rfl, fun j hj => absurd hj (Nat.not_lt_zero j), fun j => rfl, fun j => rfl⟩
theorem pure_all {L : Nat} {xs : Nat → Int32} (hL : L ≤ 256) : wpAll L xs := by
  unfold wpAll
  refine q_init8 (m_init9 fun w hz => ?_)
  obtain ⟨⟨z0, z2, z3, z4, z5, z6, z7, z30, z10, z32, z33, z56⟩, y8, y9, y50, y59⟩ := hz
  obtain ⟨e7, e8, e9, e10, e11, e12, e13, e14⟩ := zunt_1 zN
  have mr : MR (zunt zN) w := by
    unfold MR
    rw [e7, e8, e9, e10, e11, e12, e13]
    refine ⟨z0, z2, z3, z4, z5, z6, z7, fun i hi => ?_, fun i hi => ?_, fun l hl => absurd hl (Nat.not_lt_zero l)⟩
    · obtain rfl : i = 0 := by omega
      rw [zunt_5]
      exact y8
    · rw [zunt_6 zN hi]
      exact y9 i hi
  have wr : WfR (zunt zN) := (GR_unt zN).1
  refine m_anew (s := zN) wr z30 mr (fun w2 ms ml f => ?_)
  refine ⟨65, law_loop hL 64 0 rfl _ _ _ _ _ _ _ _ _ _ _ _ _ _ _ _ _ _ _ _ _ _ _ ?_⟩
  refine ⟨⟨zunt zN, zstart (zunt zN) zN, zN, ⟨rfl, wr, MR_fr mr f (by decide) (by decide)⟩, ⟨rfl, wf_start (by decide) wr, by rw [zstart_12]; exact Nat.zero_le _, ms, ml⟩, ⟨zN, vz_S, Or.inl ⟨rfl, ?_⟩⟩, ⟨zN, vz_S, Or.inl ⟨rfl, ?_⟩⟩, ⟨vz_G, ?_, ?_⟩⟩, ⟨fun _ => 0, 0, IT_0 (fv := -1) rfl rfl ?_ ?_⟩, ⟨fun _ => 0, fun _ => 0, 0, IB_0 rfl ?_⟩, ⟨fun _ => 0, IW_0 (fun l hl => rfl) (fun l hl => ?_)⟩, ⟨_, rfl⟩, ⟨zN, vz_G⟩, ⟨zN, vz_S⟩, ⟨zN, vz_S⟩, ⟨zN, vz_S⟩, ⟨zN, vz_S⟩, ⟨zN, vz_S⟩⟩
  · rw [f.2.2.1 50 (by decide)]; exact y50 0
  · rw [f.2.2.1 50 (by decide)]; exact y50 1
  · exact ⟨by decide, rfl, fun c hc => absurd hc (Nat.not_lt_zero c)⟩
  · exact ⟨(f.1 10 (by decide)).trans z10, fun c hc => absurd hc (Nat.not_lt_zero c)⟩
  · exact (f.1 33 (by decide)).trans z33
  · exact (f.1 32 (by decide)).trans z32
  · exact (f.1 56 (by decide)).trans z56
  · rw [f.2.2.1 59 (by decide)]; exact y59 l
