theorem law_ex {L i : Nat} (hL : L ≤ 256) (hi : i ≤ 64) (h : ¬ (Int32.ofNat L) - 4 < nI (4 * i)) : 4 * i + 4 ≤ L := by
  rcases Nat.lt_or_ge L 4 with h4 | h4
  · exfalso
    apply h
    have e1 : nI L - nI 4 < 0 := pk_sneg (by omega) h4
    have e2 : ¬ nI (4 * i) < 0 := nI_pos (by omega)
    rw [Int32.lt_iff_toInt_lt] at e1 e2 ⊢
    exact Int.lt_of_lt_of_le e1 (Int.not_lt.mp e2)
  · have e1 : nI L - nI 4 = nI (L - 4) := pk_sub h4
    have e2 : Int32.ofNat L - 4 = nI (L - 4) := e1
    rw [e2, nI_ltI (by omega) (by omega)] at h
    omega
set_option maxHeartbeats 1000000 in
theorem law_loop {L : Nat} {xs : Nat → Int32} (hL : L ≤ 256) : ∀ m i, i + m = 64 → ∀ (vx : Vl) (vx_0 : Vl) (vx_1 : Vl) (vx_2_0 : Vl) (vx_2_1 : Vl) (fx_3 : Nat → Int32) (vx_4 : Vl) (vx_4_0_0 : Vl) (vx_4_0_1 : Vl) (vx_4_0_2 : Vl) (vx_4_0_3 : Vl) (vx_4_0_4 : Vl) (vx_5 : Vl) (fx_5_0 : Nat → Int64) (fx_5_1 : Nat → Int64) (vx_6 : Vl) (vx_7 : Vl) (fx_8 : Nat → Int32) (vx_9 : Vl) (vx_10 : Vl) (vx_11 : Vl) (vx_12 : Vl) (vm : Vl), JI i vx vx_0 vx_1 vx_2_0 vx_2_1 fx_3 vx_4_0_0 vx_4_0_1 vx_4_0_2 vx_4_0_3 vx_4_0_4 vx_6 vx_7 vx_9 vx_10 vx_11 vx_12 vm → wp_L_law_c18 L xs (fun r => r = 1) (m + 1) vx vx_0 vx_1 vx_2_0 vx_2_1 fx_3 vx_4 vx_4_0_0 vx_4_0_1 vx_4_0_2 vx_4_0_3 vx_4_0_4 vx_5 fx_5_0 fx_5_1 vx_6 vx_7 fx_8 vx_9 vx_10 vx_11 vx_12 vm (nI (4 * i)) := by
  intro m
  induction m with
  | zero =>
    intro i him vx vx_0 vx_1 vx_2_0 vx_2_1 fx_3 vx_4 vx_4_0_0 vx_4_0_1 vx_4_0_2 vx_4_0_3 vx_4_0_4 vx_5 fx_5_0 fx_5_1 vx_6 vx_7 fx_8 vx_9 vx_10 vx_11 vx_12 vm hI
    exact ⟨fun _ => rfl, fun h => absurd (law_ex hL (by omega) h) (by omega)⟩
  | succ m ih =>
    intro i him vx vx_0 vx_1 vx_2_0 vx_2_1 fx_3 vx_4 vx_4_0_0 vx_4_0_1 vx_4_0_2 vx_4_0_3 vx_4_0_4 vx_5 fx_5_0 fx_5_1 vx_6 vx_7 fx_8 vx_9 vx_10 vx_11 vx_12 vm hI
    refine ⟨fun _ => rfl, fun h => ?_⟩
    have hb := law_ex hL (by omega) h
    have hc : i ≤ 63 := by omega
    have i0 : vp_in (nI (4 * i)) L := vp_in_nI (by omega) (by omega)
    have i1 : vp_in (nI (4 * i) + 1) L := (nI_add (4 * i) 1) ▸ (vp_in_nI (by omega) (by omega))
    have i2 : vp_in (nI (4 * i) + 2) L := (nI_add (4 * i) 2) ▸ (vp_in_nI (by omega) (by omega))
    have i3 : vp_in (nI (4 * i) + 3) L := (nI_add (4 * i) 3) ▸ (vp_in_nI (by omega) (by omega))
    have hG : ∀ (vx : Vl) (vx_0 : Vl) (vx_1 : Vl) (vx_2_0 : Vl) (vx_2_1 : Vl) (fx_3 : Nat → Int32) (vx_4 : Vl) (vx_4_0_0 : Vl) (vx_4_0_1 : Vl) (vx_4_0_2 : Vl) (vx_4_0_3 : Vl) (vx_4_0_4 : Vl) (vx_5 : Vl) (fx_5_0 : Nat → Int64) (fx_5_1 : Nat → Int64) (vx_6 : Vl) (vx_7 : Vl) (fx_8 : Nat → Int32) (vx_9 : Vl) (vx_10 : Vl) (vx_11 : Vl) (vx_12 : Vl) (vm : Vl), JI (i + 1) vx vx_0 vx_1 vx_2_0 vx_2_1 fx_3 vx_4_0_0 vx_4_0_1 vx_4_0_2 vx_4_0_3 vx_4_0_4 vx_6 vx_7 vx_9 vx_10 vx_11 vx_12 vm → wp_L_law_c974 L xs (fun r => r = 1) (wp_L_law_c18 L xs (fun r => r = 1) (m + 1)) vx vx_0 vx_1 vx_2_0 vx_2_1 fx_3 vx_4 vx_4_0_0 vx_4_0_1 vx_4_0_2 vx_4_0_3 vx_4_0_4 vx_5 fx_5_0 fx_5_1 vx_6 vx_7 fx_8 vx_9 vx_10 vx_11 vx_12 vm (nI (4 * i)) := by
      intro vx vx_0 vx_1 vx_2_0 vx_2_1 fx_3 vx_4 vx_4_0_0 vx_4_0_1 vx_4_0_2 vx_4_0_3 vx_4_0_4 vx_5 fx_5_0 fx_5_1 vx_6 vx_7 fx_8 vx_9 vx_10 vx_11 vx_12 vm hJ x5 e5
      have e : nI (4 * i) + 4 = nI (4 * (i + 1)) := nI_add (4 * i) 4
      rw [e5, e]
      exact ih (i + 1) (by omega) _ _ _ _ _ _ _ _ _ _ _ _ _ _ _ _ _ _ _ _ _ _ _ hJ
    refine ⟨i0, fun _ => law_0 hc i1 i2 i3 hI hG, fun _ => law_1 hc i1 i2 i3 hI hG, fun _ => law_2 hc i1 i2 i3 hI hG, fun _ => law_3 hc i1 i2 i3 hI hG, fun _ => law_4 hc i1 i2 i3 hI hG, fun _ => law_5 hc i1 i2 i3 hI hG, fun _ => law_6 hc i1 i2 i3 hI hG, fun _ => law_7 hc i1 i2 i3 hI hG, fun _ => law_8 hc i1 i2 i3 hI hG, fun _ => law_9 hc i1 i2 i3 hI hG, fun _ => law_10 hc i1 i2 i3 hI hG, fun _ => law_11 hc i1 i2 i3 hI hG, fun _ => law_12 hc i1 i2 i3 hI hG, fun _ => law_13 hc i1 i2 i3 hI hG, fun _ => law_14 hc i1 i2 i3 hI hG, fun _ => law_15 hc i1 i2 i3 hI hG, fun _ => law_16 hc i1 i2 i3 hI hG, fun _ => law_17 hc i1 i2 i3 hI hG, fun _ => law_18 hc i1 i2 i3 hI hG, fun _ => law_19 hc i1 i2 i3 hI hG, fun _ => law_20 hc i1 i2 i3 hI hG, fun _ => law_21 hc i1 i2 i3 hI hG, fun _ => law_22 hc i1 i2 i3 hI hG, fun _ => law_23 hc i1 i2 i3 hI hG, fun _ => law_24 hc i1 i2 i3 hI hG, fun _ => law_25 hc i1 i2 i3 hI hG, fun _ => law_26 hc i1 i2 i3 hI hG, fun _ => law_27 hc i1 i2 i3 hI hG, fun _ => law_28 hc i1 i2 i3 hI hG, fun _ => hG vx vx_0 vx_1 vx_2_0 vx_2_1 fx_3 vx_4 vx_4_0_0 vx_4_0_1 vx_4_0_2 vx_4_0_3 vx_4_0_4 vx_5 fx_5_0 fx_5_1 vx_6 vx_7 fx_8 vx_9 vx_10 vx_11 vx_12 vm ?_⟩
    obtain ⟨⟨r, s, k, hR, hS, h0, h1, hK⟩, hRest⟩ := hI
    exact ⟨⟨_, _, _, hR, IS_up hS (Nat.le_succ _), II_up h0 (Nat.le_succ _), II_up h1 (Nat.le_succ _), hK⟩, hRest⟩
