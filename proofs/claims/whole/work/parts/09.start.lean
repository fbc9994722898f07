theorem start_SC {b : Nat} {s : State} (dg : va_G) (hts : ∀ w ∈ lw_tbl, w.before #[Value.ref b] s = true) (hgv : (Jvm.Cond.and given_1 narrow_1).before #[Value.ref b] s = true) : ∃ adK adV : Nat → Nat, SC (dg, adK, adV) (fun q : Nat => s.heap.size ≤ q) s s.heap := by
  have hs := flat_of_before _ hgv
  have hA : ∀ a : Nat, a < s.heap.size → ¬ (fun q : Nat => s.heap.size ≤ q) a := fun a h => Nat.not_le.mpr h
  obtain ⟨adK, adV, h1, h2⟩ := vk_Sof (args := #[Value.ref b]) (s := s) (N := 15) (tm := tmS) (len := lenS) (byt := bytS) (A := fun q : Nat => s.heap.size ≤ q) (by decide +kernel) (fun i hi => hs _ (fs_ex i hi)) (fun i hi => hs _ (fs_co i hi)) (fun i hi => hs _ (fs_ar i hi)) (fun i hi => hs _ (fs_le i hi)) (fun i hi j hj => hs _ (fs_el i hi j hj)) (fun i j hi hj hij => (fs_ne i hi j hj hij).elim (fun h => Or.inl (hs _ h)) (fun h => Or.inr (hs _ h))) hA
  refine ⟨adK, adV, h1, fun i q hq => ?_, va_Zof (hts _ st_in.1) (hts _ st_in.2.2.2.1) (va_eqi (hs _ fs_st.1)) hA, va_Zqof (hts _ st_in.2.1) (hts _ st_in.2.2.2.2) (hs _ fs_st.2) hA, va_AO.of (hts _ st_in.2.2.1)⟩
  have hi : i < 15 := by
    have := (List.getElem?_eq_some_iff.mp hq).1
    exact this
  have e1 := h2 i hi
  have e2 : tmS i = .string q.1 q.2.1 := by
    unfold tmS
    rw [List.getD_eq_getElem?_getD, hq]
    rfl
  rw [e2] at e1
  have e3 : lw_tbl[strP.getD i 0]? = some (Cond.stringRef q.1 q.2.1 q.2.2) := by
    have e4 := of_decide_eq_true (at_all sr_all i hi)
    rw [List.getD_eq_getElem?_getD (l := strL), hq] at e4
    exact e4
  exact vk_R.of (hts _ (List.mem_of_getElem? e3)) e1
def wpAll (L : Nat) (xs : Nat → Int32) : Prop := wp_X8_init (fun v1 v2 v3 => wp_X9_init (fun v9 => wp_L_law_c16 L xs (fun r => r = 1) (setI vz 13 (-1)) (setI vz 7 (-1)) v3 (setI vz 9 (-1)) (setI vz 9 (-1)) (fun _ => 0) vz (setI vz 9 (-1)) (setI vz 9 (-1)) (setI vz 9 (-1)) (setI vz 9 (-1)) (setI vz 9 (-1)) vz (fun _ => 0) (fun _ => 0) vz vz (fun _ => 0) v1 v2 vz vz v9))
theorem hdX8_init : yX8_init.cls ≠ "java/lang/invoke/MethodHandle" ∧ yX8_init.cls ≠ "java/lang/invoke/VarHandle" ∧ (parseMethodDescriptor yX8_init.desc).map (fun d => d.parameters.length) = some 0 := by decide +kernel
theorem hdX9_init : yX9_init.cls ≠ "java/lang/invoke/MethodHandle" ∧ yX9_init.cls ≠ "java/lang/invoke/VarHandle" ∧ (parseMethodDescriptor yX9_init.desc).map (fun d => d.parameters.length) = some 0 := by decide +kernel
set_option maxHeartbeats 4000000 in
set_option maxRecDepth 100000 in
/-- the claim's walk out of the one predicate -/
theorem whole_of {p : Program} {e : Env} {s : State} {m : MethodId} {below : List Frame} {meth : Method} {c : Code} (l : Launch) {b L : Nat} {xs : Nat → Int32} (C0 : lw_At p s m meth c b L xs) (h : wpAll L xs) : W p l e room_1 s m #[Value.ref b] below meth c s.heap [] 0 0 (lw_Z below #[Value.ref b] s) (entryFrame m ([Value.ref b] : List Value).toArray 4) := by
  obtain ⟨hx, hb, hr, hml, hown, hts, hX, hbl, hlocks, hgv⟩ := C0
  have htw : ∀ w ∈ wsL_law, w.before #[Value.ref b] s = true := fun w hw => hts w (wsL_in w hw)
  obtain ⟨c0, iS0, hKn0⟩ := u_known (C := RX0) (T := TX0) (N := 2) (n := 2) htw inlX0 (htw (.instantiable RX0 2) wd47)
  obtain ⟨c1, iS1, hKn1⟩ := u_known (C := RX1) (T := TX1) (N := 3) (n := 3) htw inlX1 (htw (.instantiable RX1 3) wd43)
  obtain ⟨c2, iS2, hKn2⟩ := u_known (C := RX2) (T := TX2) (N := 3) (n := 3) htw inlX2 (htw (.instantiable RX2 3) wd39)
  obtain ⟨c3, iS3, hKn3⟩ := u_known (C := RX3) (T := TX3) (N := 15) (n := 15) htw inlX3 (htw (.instantiable RX3 15) wd18)
  obtain ⟨c4, iS4, hKn4⟩ := u_known (C := RX4) (T := TX4) (N := 5) (n := 5) htw inlX4 (htw (.instantiable RX4 5) wd35)
  obtain ⟨c5, iS5, hKn5⟩ := u_known (C := RX5) (T := TX5) (N := 4) (n := 4) htw inlX5 (htw (.instantiable RX5 4) wd23)
  obtain ⟨c6, iS6, hKn6⟩ := u_known (C := RX6) (T := TX6) (N := 17) (n := 17) htw inlX6 (htw (.instantiable RX6 17) wd28)
  obtain ⟨c7, iS7, hKn7⟩ := u_known (C := RX7) (T := TX7) (N := 8) (n := 8) htw inlX7 (htw (.instantiable RX7 8) wd14)
  obtain ⟨c8, iS8, hKn8⟩ := u_known (C := RX8) (T := TX8) (N := 14) (n := 14) htw inlX8 (htw (.instantiable RX8 14) wd1)
  obtain ⟨c9, iS9, hKn9⟩ := u_known (C := RX9) (T := TX9) (N := 61) (n := 61) htw inlX9 (htw (.instantiable RX9 61) wd4)
  obtain ⟨dC, dI, hKc⟩ : ∃ (dC : Nat → ClassId) (dI : Nat → Nat → Nat), ∀ (k : Nat) (q : vw_C), vwCl[k]? = some q → u_Kn s q.1 q.2.1 q.2.2 (dC k) (dI k) := by
    refine ⟨fun k => [c0, c1, c2, c3, c4, c5, c6, c7, c8, c9].getD k c0, fun k => [iS0, iS1, iS2, iS3, iS4, iS5, iS6, iS7, iS8, iS9].getD k iS0, ?_⟩
    intro k q hq
    match k, hq with
    | 0, hq => cases hq; exact hKn0
    | 1, hq => cases hq; exact hKn1
    | 2, hq => cases hq; exact hKn2
    | 3, hq => cases hq; exact hKn3
    | 4, hq => cases hq; exact hKn4
    | 5, hq => cases hq; exact hKn5
    | 6, hq => cases hq; exact hKn6
    | 7, hq => cases hq; exact hKn7
    | 8, hq => cases hq; exact hKn8
    | 9, hq => cases hq; exact hKn9
    | k + 10, hq => simp [vwCl] at hq
  obtain ⟨cI, kI, mI, gI1, gI2, gI3⟩ := Cond.arrayClass_spec (htw (.arrayClass .int) wd50)
  obtain ⟨cJ, kJ, mJ, gJ1, gJ2, gJ3⟩ := Cond.arrayClass_spec (htw (.arrayClass .long) wd117)
  obtain ⟨cZ, kZ, mZ, gZ1, gZ2, gZ3⟩ := Cond.arrayClass_spec (htw (.arrayClass .boolean) wd32)
  obtain ⟨mS, cS, kS, gS1, gS2, gS3, gS4, gS5⟩ := Cond.arrayOver_spec (hts _ st_in.2.2.1)
  have hK : va_K (dC, dI) vwCl (tyL cI cJ cZ cS) s := by
    refine ⟨hKc, fun k q hk => ?_⟩
    match k, hk with
    | 0, hk => cases hk; exact ⟨fun n z => ⟨fun k h => (by cases h), kI, gI2, mI, gI3⟩, gI1⟩
    | 1, hk => cases hk; exact ⟨fun n z => ⟨fun k h => (by cases h), kJ, gJ2, mJ, gJ3⟩, gJ1⟩
    | 2, hk => cases hk; exact ⟨fun n z => ⟨fun k h => (by cases h), kZ, gZ2, mZ, gZ3⟩, gZ1⟩
    | 3, hk => cases hk; exact ⟨fun n z => ⟨fun k h => (by cases h), kS, gS3, mS, gS4⟩, kS, mS, gS3, gS4, gS1, gS5⟩
    | k + 4, hk => simp [tyL] at hk
  obtain ⟨adK, adV, hSC⟩ := start_SC (dC, dI) hts hgv
  obtain ⟨D, eD⟩ : ∃ D : GG, D = ((dC, dI), adK, adV) := ⟨_, rfl⟩
  rw [← eD] at hSC
  have hK : va_K D.1 vwCl (tyL cI cJ cZ cS) s := by rw [eD]; exact hK
  have C : Cx p s m #[Value.ref b] c D (tyL cI cJ cZ cS) (fun q : Nat => s.heap.size ≤ q) RL cL_law 4 := ⟨hx, hb, hml, hown, htw, hK, fun w hw => va_Nw.of (List.all_eq_true.mp (show nestL.all (fun w => w.onTables) = true by decide +kernel) w hw) (hts w (nestL_in w hw)), fun _ hq => hq, hSC⟩
  have hJ : J p l e room_1 s m #[Value.ref b] below meth c D (fun q : Nat => s.heap.size ≤ q) 4 0 0 (lw_Z below #[Value.ref b] s) 0 [(0, .ref b)] [] (List.flatten []) := by
    refine J_newB (fs := [.null, .null, .null, .null, .null, .null, .null, .null, .null, .null, .null, .null, .null, .int 0]) C 3 8 inlX8 tyX8 tyX8_ok wd0 wd1 wd2 rfl (dv (by decide +kernel)) (Nat.le_of_ble_eq_true rfl) (Nat.le_of_ble_eq_true rfl) rfl dL_law_0 rfl (fun ax => [[(ax, .inr (8, [.null, .null, .null, .null, .null, .null, .null, .null, .null, .null, .null, .null, .null, .int 0]))]]) (fun _ => rfl) (fun ax => ?_)
    refine J_dup C 4 dL_law_3 rfl rfl ?_
    refine J_callBI (Bs := [[(ax, .inr (8, [.null, .null, .null, .null, .null, .null, .null, .null, .null, .null, .null, .null, .null, .int 0]))]]) (As := []) C 7 (c_X8_init l D cI cJ cZ cS ax _ h) wd9 wd7 wd2 wd8 rfl hdX8_init ⟨(Nat.le_of_ble_eq_true rfl), (Nat.le_of_ble_eq_true rfl)⟩ ⟨(Nat.le_of_ble_eq_true rfl), (Nat.le_of_ble_eq_true rfl)⟩ rfl (Nat.le_of_ble_eq_true rfl) [0] [] 1 rfl (by decide +kernel) rfl rfl (fun (u : Vl × Vl × Vl × (Nat → Nat → Nat)) => [bX8 cI cJ cZ ax (u.2.2.2 0) (setI vz 13 (-1)), bX7 cI cJ cZ (u.2.2.2 0 0) (u.2.2.2 1) (setI vz 7 (-1)), bX6 cI cJ cZ 360 (u.2.2.2 0 1) (u.2.2.2 2) u.2.2.1, bS cS 2 (u.2.2.2 0 2) (u.2.2.2 3), bX6 cI cJ cZ 360 (u.2.2.2 3 0) (u.2.2.2 4) (setI vz 9 (-1)), bX6 cI cJ cZ 360 (u.2.2.2 3 1) (u.2.2.2 5) (setI vz 9 (-1)), bI cZ 2 (u.2.2.2 0 3) (fun _ => 0), bX4 cI cJ cZ (u.2.2.2 0 4) (u.2.2.2 6) vz, bS cS 5 (u.2.2.2 6 0) (u.2.2.2 7), bX6 cI cJ cZ 0 (u.2.2.2 7 0) (u.2.2.2 8) (setI vz 9 (-1)), bX6 cI cJ cZ 0 (u.2.2.2 7 1) (u.2.2.2 9) (setI vz 9 (-1)), bX6 cI cJ cZ 0 (u.2.2.2 7 2) (u.2.2.2 10) (setI vz 9 (-1)), bX6 cI cJ cZ 0 (u.2.2.2 7 3) (u.2.2.2 11) (setI vz 9 (-1)), bX6 cI cJ cZ 0 (u.2.2.2 7 4) (u.2.2.2 12) (setI vz 9 (-1)), bX2 cI cJ cZ (u.2.2.2 0 5) (u.2.2.2 13) vz, bL cJ 300 (u.2.2.2 13 0) (fun _ => 0), bL cJ 300 (u.2.2.2 13 1) (fun _ => 0), bX1 cI cJ cZ (u.2.2.2 0 6) (u.2.2.2 14) vz, bX0 cI cJ cZ (u.2.2.2 0 7) (u.2.2.2 15) vz, bI cI 9 (u.2.2.2 0 8) (fun _ => 0), bX3 cI cJ cZ (u.2.2.2 0 9) (u.2.2.2 16) u.1, bX3 cI cJ cZ (u.2.2.2 0 10) (u.2.2.2 17) u.2.1, bX5 cI cJ cZ (u.2.2.2 0 11) (u.2.2.2 18) vz, bX5 cI cJ cZ (u.2.2.2 0 12) (u.2.2.2 19) vz]) (fun _ => rfl) (fun (u : Vl × Vl × Vl × (Nat → Nat → Nat)) => [bX8 cI cJ cZ ax (u.2.2.2 0) (setI vz 13 (-1)), bX7 cI cJ cZ (u.2.2.2 0 0) (u.2.2.2 1) (setI vz 7 (-1)), bX6 cI cJ cZ 360 (u.2.2.2 0 1) (u.2.2.2 2) u.2.2.1, bS cS 2 (u.2.2.2 0 2) (u.2.2.2 3), bX6 cI cJ cZ 360 (u.2.2.2 3 0) (u.2.2.2 4) (setI vz 9 (-1)), bX6 cI cJ cZ 360 (u.2.2.2 3 1) (u.2.2.2 5) (setI vz 9 (-1)), bI cZ 2 (u.2.2.2 0 3) (fun _ => 0), bX4 cI cJ cZ (u.2.2.2 0 4) (u.2.2.2 6) vz, bS cS 5 (u.2.2.2 6 0) (u.2.2.2 7), bX6 cI cJ cZ 0 (u.2.2.2 7 0) (u.2.2.2 8) (setI vz 9 (-1)), bX6 cI cJ cZ 0 (u.2.2.2 7 1) (u.2.2.2 9) (setI vz 9 (-1)), bX6 cI cJ cZ 0 (u.2.2.2 7 2) (u.2.2.2 10) (setI vz 9 (-1)), bX6 cI cJ cZ 0 (u.2.2.2 7 3) (u.2.2.2 11) (setI vz 9 (-1)), bX6 cI cJ cZ 0 (u.2.2.2 7 4) (u.2.2.2 12) (setI vz 9 (-1)), bX2 cI cJ cZ (u.2.2.2 0 5) (u.2.2.2 13) vz, bL cJ 300 (u.2.2.2 13 0) (fun _ => 0), bL cJ 300 (u.2.2.2 13 1) (fun _ => 0), bX1 cI cJ cZ (u.2.2.2 0 6) (u.2.2.2 14) vz, bX0 cI cJ cZ (u.2.2.2 0 7) (u.2.2.2 15) vz, bI cI 9 (u.2.2.2 0 8) (fun _ => 0), bX3 cI cJ cZ (u.2.2.2 0 9) (u.2.2.2 16) u.1, bX3 cI cJ cZ (u.2.2.2 0 10) (u.2.2.2 17) u.2.1, bX5 cI cJ cZ (u.2.2.2 0 11) (u.2.2.2 18) vz, bX5 cI cJ cZ (u.2.2.2 0 12) (u.2.2.2 19) vz]) (fun _ => rfl) dL_law_4 rfl (fun u h => ?_)
    obtain ⟨v1, v2, v3, rr⟩ := u
    refine J_astore_n C 8 [(1, .ref ax), (0, .ref b)] dL_law_7 rfl (by decide) rfl ?_
    refine J_newB (Bs := [bX8 cI cJ cZ ax (rr 0) (setI vz 13 (-1)), bX7 cI cJ cZ (rr 0 0) (rr 1) (setI vz 7 (-1)), bX6 cI cJ cZ 360 (rr 0 1) (rr 2) v3, bS cS 2 (rr 0 2) (rr 3), bX6 cI cJ cZ 360 (rr 3 0) (rr 4) (setI vz 9 (-1)), bX6 cI cJ cZ 360 (rr 3 1) (rr 5) (setI vz 9 (-1)), bI cZ 2 (rr 0 3) (fun _ => 0), bX4 cI cJ cZ (rr 0 4) (rr 6) vz, bS cS 5 (rr 6 0) (rr 7), bX6 cI cJ cZ 0 (rr 7 0) (rr 8) (setI vz 9 (-1)), bX6 cI cJ cZ 0 (rr 7 1) (rr 9) (setI vz 9 (-1)), bX6 cI cJ cZ 0 (rr 7 2) (rr 10) (setI vz 9 (-1)), bX6 cI cJ cZ 0 (rr 7 3) (rr 11) (setI vz 9 (-1)), bX6 cI cJ cZ 0 (rr 7 4) (rr 12) (setI vz 9 (-1)), bX2 cI cJ cZ (rr 0 5) (rr 13) vz, bL cJ 300 (rr 13 0) (fun _ => 0), bL cJ 300 (rr 13 1) (fun _ => 0), bX1 cI cJ cZ (rr 0 6) (rr 14) vz, bX0 cI cJ cZ (rr 0 7) (rr 15) vz, bI cI 9 (rr 0 8) (fun _ => 0), bX3 cI cJ cZ (rr 0 9) (rr 16) v1, bX3 cI cJ cZ (rr 0 10) (rr 17) v2, bX5 cI cJ cZ (rr 0 11) (rr 18) vz, bX5 cI cJ cZ (rr 0 12) (rr 19) vz]) (fs := [.int 0, .null, .int 0, .int 0, .int 0, .int 0, .int 0, .int 0, .null, .null, .int 0, .null, .null, .null, .null, .null, .null, .long 0, .int 0, .long 0, .long 0, .int 0, .int 0, .int 0, .int 0, .long 0, .long 0, .int 0, .int 0, .null, .int 0, .null, .int 0, .int 0, .int 0, .long 0, .int 0, .int 0, .int 0, .int 0, .null, .null, .int 0, .null, .null, .int 0, .int 0, .null, .null, .null, .null, .null, .null, .null, .null, .null, .int 0, .null, .null, .null, .null]) C 11 9 inlX9 tyX9 tyX9_ok wd3 wd4 wd5 rfl (dv (by decide +kernel)) (Nat.le_of_ble_eq_true rfl) (Nat.le_of_ble_eq_true rfl) rfl dL_law_8 rfl (fun am => [bX8 cI cJ cZ ax (rr 0) (setI vz 13 (-1)), bX7 cI cJ cZ (rr 0 0) (rr 1) (setI vz 7 (-1)), bX6 cI cJ cZ 360 (rr 0 1) (rr 2) v3, bS cS 2 (rr 0 2) (rr 3), bX6 cI cJ cZ 360 (rr 3 0) (rr 4) (setI vz 9 (-1)), bX6 cI cJ cZ 360 (rr 3 1) (rr 5) (setI vz 9 (-1)), bI cZ 2 (rr 0 3) (fun _ => 0), bX4 cI cJ cZ (rr 0 4) (rr 6) vz, bS cS 5 (rr 6 0) (rr 7), bX6 cI cJ cZ 0 (rr 7 0) (rr 8) (setI vz 9 (-1)), bX6 cI cJ cZ 0 (rr 7 1) (rr 9) (setI vz 9 (-1)), bX6 cI cJ cZ 0 (rr 7 2) (rr 10) (setI vz 9 (-1)), bX6 cI cJ cZ 0 (rr 7 3) (rr 11) (setI vz 9 (-1)), bX6 cI cJ cZ 0 (rr 7 4) (rr 12) (setI vz 9 (-1)), bX2 cI cJ cZ (rr 0 5) (rr 13) vz, bL cJ 300 (rr 13 0) (fun _ => 0), bL cJ 300 (rr 13 1) (fun _ => 0), bX1 cI cJ cZ (rr 0 6) (rr 14) vz, bX0 cI cJ cZ (rr 0 7) (rr 15) vz, bI cI 9 (rr 0 8) (fun _ => 0), bX3 cI cJ cZ (rr 0 9) (rr 16) v1, bX3 cI cJ cZ (rr 0 10) (rr 17) v2, bX5 cI cJ cZ (rr 0 11) (rr 18) vz, bX5 cI cJ cZ (rr 0 12) (rr 19) vz, [(am, .inr (9, [.int 0, .null, .int 0, .int 0, .int 0, .int 0, .int 0, .int 0, .null, .null, .int 0, .null, .null, .null, .null, .null, .null, .long 0, .int 0, .long 0, .long 0, .int 0, .int 0, .int 0, .int 0, .long 0, .long 0, .int 0, .int 0, .null, .int 0, .null, .int 0, .int 0, .int 0, .long 0, .int 0, .int 0, .int 0, .int 0, .null, .null, .int 0, .null, .null, .int 0, .int 0, .null, .null, .null, .null, .null, .null, .null, .null, .null, .int 0, .null, .null, .null, .null]))]]) (fun _ => rfl) (fun am => ?_)
    refine J_dup C 12 dL_law_11 rfl rfl ?_
    refine J_callBI (Bs := [bX8 cI cJ cZ ax (rr 0) (setI vz 13 (-1)), bX7 cI cJ cZ (rr 0 0) (rr 1) (setI vz 7 (-1)), bX6 cI cJ cZ 360 (rr 0 1) (rr 2) v3, bS cS 2 (rr 0 2) (rr 3), bX6 cI cJ cZ 360 (rr 3 0) (rr 4) (setI vz 9 (-1)), bX6 cI cJ cZ 360 (rr 3 1) (rr 5) (setI vz 9 (-1)), bI cZ 2 (rr 0 3) (fun _ => 0), bX4 cI cJ cZ (rr 0 4) (rr 6) vz, bS cS 5 (rr 6 0) (rr 7), bX6 cI cJ cZ 0 (rr 7 0) (rr 8) (setI vz 9 (-1)), bX6 cI cJ cZ 0 (rr 7 1) (rr 9) (setI vz 9 (-1)), bX6 cI cJ cZ 0 (rr 7 2) (rr 10) (setI vz 9 (-1)), bX6 cI cJ cZ 0 (rr 7 3) (rr 11) (setI vz 9 (-1)), bX6 cI cJ cZ 0 (rr 7 4) (rr 12) (setI vz 9 (-1)), bX2 cI cJ cZ (rr 0 5) (rr 13) vz, bL cJ 300 (rr 13 0) (fun _ => 0), bL cJ 300 (rr 13 1) (fun _ => 0), bX1 cI cJ cZ (rr 0 6) (rr 14) vz, bX0 cI cJ cZ (rr 0 7) (rr 15) vz, bI cI 9 (rr 0 8) (fun _ => 0), bX3 cI cJ cZ (rr 0 9) (rr 16) v1, bX3 cI cJ cZ (rr 0 10) (rr 17) v2, bX5 cI cJ cZ (rr 0 11) (rr 18) vz, bX5 cI cJ cZ (rr 0 12) (rr 19) vz, [(am, .inr (9, [.int 0, .null, .int 0, .int 0, .int 0, .int 0, .int 0, .int 0, .null, .null, .int 0, .null, .null, .null, .null, .null, .null, .long 0, .int 0, .long 0, .long 0, .int 0, .int 0, .int 0, .int 0, .long 0, .long 0, .int 0, .int 0, .null, .int 0, .null, .int 0, .int 0, .int 0, .long 0, .int 0, .int 0, .int 0, .int 0, .null, .null, .int 0, .null, .null, .int 0, .int 0, .null, .null, .null, .null, .null, .null, .null, .null, .null, .int 0, .null, .null, .null, .null]))]]) (As := []) C 15 (c_X9_init l D cI cJ cZ cS am _ h) wd150 wd148 wd5 wd149 rfl hdX9_init ⟨(Nat.le_of_ble_eq_true rfl), (Nat.le_of_ble_eq_true rfl)⟩ ⟨(Nat.le_of_ble_eq_true rfl), (Nat.le_of_ble_eq_true rfl)⟩ rfl (Nat.le_of_ble_eq_true rfl) [24] [0, 1, 2, 3, 4, 5, 6, 7, 8, 9, 10, 11, 12, 13, 14, 15, 16, 17, 18, 19, 20, 21, 22, 23] 25 rfl (by decide +kernel) rfl rfl (fun (u : Vl × (Nat → Nat)) => [bX9 cI cJ cZ am u.2 u.1]) (fun _ => rfl) (fun (u : Vl × (Nat → Nat)) => [bX8 cI cJ cZ ax (rr 0) (setI vz 13 (-1)), bX7 cI cJ cZ (rr 0 0) (rr 1) (setI vz 7 (-1)), bX6 cI cJ cZ 360 (rr 0 1) (rr 2) v3, bS cS 2 (rr 0 2) (rr 3), bX6 cI cJ cZ 360 (rr 3 0) (rr 4) (setI vz 9 (-1)), bX6 cI cJ cZ 360 (rr 3 1) (rr 5) (setI vz 9 (-1)), bI cZ 2 (rr 0 3) (fun _ => 0), bX4 cI cJ cZ (rr 0 4) (rr 6) vz, bS cS 5 (rr 6 0) (rr 7), bX6 cI cJ cZ 0 (rr 7 0) (rr 8) (setI vz 9 (-1)), bX6 cI cJ cZ 0 (rr 7 1) (rr 9) (setI vz 9 (-1)), bX6 cI cJ cZ 0 (rr 7 2) (rr 10) (setI vz 9 (-1)), bX6 cI cJ cZ 0 (rr 7 3) (rr 11) (setI vz 9 (-1)), bX6 cI cJ cZ 0 (rr 7 4) (rr 12) (setI vz 9 (-1)), bX2 cI cJ cZ (rr 0 5) (rr 13) vz, bL cJ 300 (rr 13 0) (fun _ => 0), bL cJ 300 (rr 13 1) (fun _ => 0), bX1 cI cJ cZ (rr 0 6) (rr 14) vz, bX0 cI cJ cZ (rr 0 7) (rr 15) vz, bI cI 9 (rr 0 8) (fun _ => 0), bX3 cI cJ cZ (rr 0 9) (rr 16) v1, bX3 cI cJ cZ (rr 0 10) (rr 17) v2, bX5 cI cJ cZ (rr 0 11) (rr 18) vz, bX5 cI cJ cZ (rr 0 12) (rr 19) vz, bX9 cI cJ cZ am u.2 u.1]) (fun _ => rfl) dL_law_12 rfl (fun u h => ?_)
    obtain ⟨v9, rm⟩ := u
    refine J_astore_n C 16 [(2, .ref am), (1, .ref ax), (0, .ref b)] dL_law_15 rfl (by decide) rfl ?_
    refine J_loc [2, 1, 0] rfl ?_
    exact wk_L_law_c16 (ax := ax) (am := am) (rm := rm) (rx_0 := rr 1) (rx_1 := rr 2) (qx_2 := rr 3) (rx_2_0 := rr 4) (rx_2_1 := rr 5) (rx_4 := rr 6) (qx_4_0 := rr 7) (rx_4_0_0 := rr 8) (rx_4_0_1 := rr 9) (rx_4_0_2 := rr 10) (rx_4_0_3 := rr 11) (rx_4_0_4 := rr 12) (rx_6 := rr 14) (rx_7 := rr 15) C hr hlocks hX hbl (fun _ h => h) (rr 0) (rr 13) (rr 16) (rr 17) (rr 18) (rr 19) (setI vz 13 (-1)) (setI vz 7 (-1)) v3 (setI vz 9 (-1)) (setI vz 9 (-1)) (fun _ => 0) vz (setI vz 9 (-1)) (setI vz 9 (-1)) (setI vz 9 (-1)) (setI vz 9 (-1)) (setI vz 9 (-1)) vz (fun _ => 0) (fun _ => 0) vz vz (fun _ => 0) v1 v2 vz vz v9 h
  have hl := lv_entry ([.ref b]) (n := 4) (Nat.le_of_ble_eq_true rfl)
  rw [lg_entry_eq]
  exact hJ s.heap [] _ (fun k q h => by simp at h) ⟨fun i j p q h => by simp at h, fun k q h => by simp at h⟩ va_S.rf hl
