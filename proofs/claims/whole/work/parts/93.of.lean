set_option maxHeartbeats 4000000 in
set_option maxRecDepth 100000 in
/-- the claim's walk out of the one predicate -/
theorem whole_of {p : Program} {e : Env} {s : State} {m : MethodId} {below : List Frame} {meth : Method} {c : Code} (l : Launch) {b L : Nat} {xs : Nat → Int32} (C0 : lw_At p s m meth c b L xs) (h : wpAll L xs) : W p l e room_1 s m #[Value.ref b] below meth c s.heap [] 0 0 (lw_Z below #[Value.ref b] s) (entryFrame m ([Value.ref b] : List Value).toArray 4) := by
  obtain ⟨hx, hb, hr, hml, hown, hts, hX, hbl, hlocks, hgv⟩ := C0
  have htw : ∀ w ∈ wsL_law, w.before #[Value.ref b] s = true := fun w hw => hts w (wsL_in w hw)
  obtain ⟨c0, iS0, hKn0⟩ := u_known (C := RX0) (T := TX0) (N := 2) (n := 2) htw inlX0 (htw (.instantiable RX0 2) wd47)
  obtain ⟨c1, iS1, hKn1⟩ := u_known (C := RX1) (T := TX1) (N := 3) (n := 3) htw inlX1 (htw (.instantiable RX1 3) wd43)
  obtain ⟨c2, iS2, hKn2⟩ := u_known (C := RX2) (T := TX2) (N := 3) (n := 3) htw inlX2 (htw (.instantiable RX2 3) wd39)
  obtain ⟨c3, iS3, hKn3⟩ := u_known (C := RX3) (T := TX3) (N := 15) (n := 15) htw inlX3 (htw (.instantiable RX3 15) wd18)
  obtain ⟨c4, iS4, hKn4⟩ := u_known (C := RX4) (T := TX4) (N := 5) (n := 5) htw inlX4 (htw (.instantiable RX4 5) wd35)
  obtain ⟨c5, iS5, hKn5⟩ := u_known (C := RX5) (T := TX5) (N := 4) (n := 4) htw inlX5 (htw (.instantiable RX5 4) wd23)
  obtain ⟨c6, iS6, hKn6⟩ := u_known (C := RX6) (T := TX6) (N := 17) (n := 17) htw inlX6 (htw (.instantiable RX6 17) wd28)
  obtain ⟨c7, iS7, hKn7⟩ := u_known (C := RX7) (T := TX7) (N := 8) (n := 8) htw inlX7 (htw (.instantiable RX7 8) wd14)
  obtain ⟨c8, iS8, hKn8⟩ := u_known (C := RX8) (T := TX8) (N := 14) (n := 14) htw inlX8 (htw (.instantiable RX8 14) wd1)
  obtain ⟨c9, iS9, hKn9⟩ := u_known (C := RX9) (T := TX9) (N := 61) (n := 61) htw inlX9 (htw (.instantiable RX9 61) wd4)
  obtain ⟨dC, dI, hKc⟩ : ∃ (dC : Nat → ClassId) (dI : Nat → Nat → Nat), ∀ (k : Nat) (q : vw_C), vwCl[k]? = some q → u_Kn s q.1 q.2.1 q.2.2 (dC k) (dI k) := by
    refine ⟨fun k => [c0, c1, c2, c3, c4, c5, c6, c7, c8, c9].getD k c0, fun k => [iS0, iS1, iS2, iS3, iS4, iS5, iS6, iS7, iS8, iS9].getD k iS0, ?_⟩
    intro k q hq
    match k, hq with
    | 0, hq => cases hq; exact hKn0
    | 1, hq => cases hq; exact hKn1
    | 2, hq => cases hq; exact hKn2
    | 3, hq => cases hq; exact hKn3
    | 4, hq => cases hq; exact hKn4
    | 5, hq => cases hq; exact hKn5
    | 6, hq => cases hq; exact hKn6
    | 7, hq => cases hq; exact hKn7
    | 8, hq => cases hq; exact hKn8
    | 9, hq => cases hq; exact hKn9
    | k + 10, hq => simp [vwCl] at hq
  obtain ⟨cI, kI, mI, gI1, gI2, gI3⟩ := Cond.arrayClass_spec (htw (.arrayClass .int) wd50)
  obtain ⟨cJ, kJ, mJ, gJ1, gJ2, gJ3⟩ := Cond.arrayClass_spec (htw (.arrayClass .long) wd117)
  obtain ⟨cZ, kZ, mZ, gZ1, gZ2, gZ3⟩ := Cond.arrayClass_spec (htw (.arrayClass .boolean) wd32)
  obtain ⟨mS, cS, kS, gS1, gS2, gS3, gS4, gS5⟩ := Cond.arrayOver_spec (hts _ st_in.2.2.1)
  have hK : va_K (dC, dI) vwCl (tyL cI cJ cZ cS) s := by
    refine ⟨hKc, fun k q hk => ?_⟩
    match k, hk with
    | 0, hk => cases hk; exact ⟨fun n z => ⟨fun k h => (by cases h), kI, gI2, mI, gI3⟩, gI1⟩
    | 1, hk => cases hk; exact ⟨fun n z => ⟨fun k h => (by cases h), kJ, gJ2, mJ, gJ3⟩, gJ1⟩
    | 2, hk => cases hk; exact ⟨fun n z => ⟨fun k h => (by cases h), kZ, gZ2, mZ, gZ3⟩, gZ1⟩
    | 3, hk => cases hk; exact ⟨fun n z => ⟨fun k h => (by cases h), kS, gS3, mS, gS4⟩, kS, mS, gS3, gS4, gS1, gS5⟩
    | k + 4, hk => simp [tyL] at hk
  obtain ⟨adK, adV, hSC⟩ := start_SC (dC, dI) hts hgv
  obtain ⟨D, eD⟩ : ∃ D : GG, D = ((dC, dI), adK, adV) := ⟨_, rfl⟩
  rw [← eD] at hSC
  have hK : va_K D.1 vwCl (tyL cI cJ cZ cS) s := by rw [eD]; exact hK
  have C : Cx p s m #[Value.ref b] c D (tyL cI cJ cZ cS) (fun q : Nat => s.heap.size ≤ q) RL cL_law 4 := ⟨hx, hb, hml, hown, htw, hK, fun w hw => va_Nw.of (List.all_eq_true.mp (show nestL.all (fun w => w.onTables) = true by decide +kernel) w hw) (hts w (nestL_in w hw)), fun _ hq => hq, hSC⟩
  have hJ : J p l e room_1 s m #[Value.ref b] below meth c D (fun q : Nat => s.heap.size ≤ q) 4 0 0 (lw_Z below #[Value.ref b] s) 0 [(0, .ref b)] [] (List.flatten []) := start_J C hr hlocks hX hbl h
  have hl := lv_entry ([.ref b]) (n := 4) (Nat.le_of_ble_eq_true rfl)
  rw [lg_entry_eq]
  exact hJ s.heap [] _ (fun k q h => by simp at h) ⟨fun i j p q h => by simp at h, fun k q h => by simp at h⟩ va_S.rf hl
