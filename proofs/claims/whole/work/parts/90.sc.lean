theorem start_SC {b : Nat} {s : State} (dg : va_G) (hts : ∀ w ∈ lw_tbl, w.before #[Value.ref b] s = true) (hgv : (Jvm.Cond.and given_1 narrow_1).before #[Value.ref b] s = true) : ∃ adK adV : Nat → Nat, SC (dg, adK, adV) (fun q : Nat => s.heap.size ≤ q) s s.heap := by
  have hs := flat_of_before _ hgv
  have hA : ∀ a : Nat, a < s.heap.size → ¬ (fun q : Nat => s.heap.size ≤ q) a := fun a h => Nat.not_le.mpr h
  obtain ⟨adK, adV, h1, h2⟩ := vk_Sof (args := #[Value.ref b]) (s := s) (N := 15) (tm := tmS) (len := lenS) (byt := bytS) (A := fun q : Nat => s.heap.size ≤ q) (by decide +kernel) (fun i hi => hs _ (fs_ex i hi)) (fun i hi => hs _ (fs_co i hi)) (fun i hi => hs _ (fs_ar i hi)) (fun i hi => hs _ (fs_le i hi)) (fun i hi j hj => hs _ (fs_el i hi j hj)) (fun i j hi hj hij => (fs_ne i hi j hj hij).elim (fun h => Or.inl (hs _ h)) (fun h => Or.inr (hs _ h))) hA
  refine ⟨adK, adV, h1, fun i q hq => ?_, va_Zof (hts _ st_in.1) (hts _ st_in.2.2.2.1) (va_eqi (hs _ fs_st.1)) hA, va_Zqof (hts _ st_in.2.1) (hts _ st_in.2.2.2.2) (hs _ fs_st.2) hA, va_AO.of (hts _ st_in.2.2.1)⟩
  have hi : i < 15 := by
    have := (List.getElem?_eq_some_iff.mp hq).1
    exact this
  have e1 := h2 i hi
  have e2 : tmS i = .string q.1 q.2.1 := by
    unfold tmS
    rw [List.getD_eq_getElem?_getD, hq]
    rfl
  rw [e2] at e1
  have e3 : lw_tbl[strP.getD i 0]? = some (Cond.stringRef q.1 q.2.1 q.2.2) := by
    have e4 := of_decide_eq_true (at_all sr_all i hi)
    rw [List.getD_eq_getElem?_getD (l := strL), hq] at e4
    exact e4
  exact vk_R.of (hts _ (List.mem_of_getElem? e3)) e1
def wpAll (L : Nat) (xs : Nat → Int32) : Prop := wp_X8_init (fun v1 v2 v3 => wp_X9_init (fun v9 => wp_L_law_c16 L xs (fun r => r = 1) (setI vz 13 (-1)) (setI vz 7 (-1)) v3 (setI vz 9 (-1)) (setI vz 9 (-1)) (fun _ => 0) vz (setI vz 9 (-1)) (setI vz 9 (-1)) (setI vz 9 (-1)) (setI vz 9 (-1)) (setI vz 9 (-1)) vz (fun _ => 0) (fun _ => 0) vz vz (fun _ => 0) v1 v2 vz vz v9))
theorem hdX8_init : yX8_init.cls ≠ "java/lang/invoke/MethodHandle" ∧ yX8_init.cls ≠ "java/lang/invoke/VarHandle" ∧ (parseMethodDescriptor yX8_init.desc).map (fun d => d.parameters.length) = some 0 := by decide +kernel
theorem hdX9_init : yX9_init.cls ≠ "java/lang/invoke/MethodHandle" ∧ yX9_init.cls ≠ "java/lang/invoke/VarHandle" ∧ (parseMethodDescriptor yX9_init.desc).map (fun d => d.parameters.length) = some 0 := by decide +kernel
