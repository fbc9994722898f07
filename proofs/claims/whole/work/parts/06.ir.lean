def wp_X8_forgetImages_c2 (v0 : Vl) (Q : (Nat → Int32) → Prop) : Nat → (Nat → Int32) → Int32 → Prop
  | 0 => fun _ _ => False
  | n + 1 => fun f0_3 y1 => ((2 ≤ y1 → Q f0_3) ∧ (¬ 2 ≤ y1 → vp_in y1 2 ∧ (∀ f03s_1 : Nat → Int32, f03s_1 = upd f0_3 (Int32.toNatClampNeg y1) (vp_nar .boolean 0) → ∀ x_2 : Int32, x_2 = y1 + 1 → wp_X8_forgetImages_c2 v0 Q n f03s_1 x_2)))
set_option maxHeartbeats 4000000 in
set_option maxRecDepth 100000 in
theorem wk_X8_forgetImages_c2 {p : Program} {l : Launch} {e : Env} {s : State} {m : MethodId} {args : Array Value} {below : List Frame} {meth : Method} {c : Code} {D : GG} {A : Nat → Prop} {cI cJ cZ cS : ClassId} {a0 : Nat} {r0 : Nat → Nat} {v0 : Vl} {Q : (Nat → Int32) → Prop} (C : Cx p s m args c D (tyL cI cJ cZ cS) A RX8 cX8_forgetImages 2) (hr : meth.sig.returnType = none) (hk : meth.locks = false) : ∀ (n : Nat) (f0_3 : Nat → Int32) (y1 : Int32), wp_X8_forgetImages_c2 v0 Q n f0_3 y1 → J p l e (rmk 0 0) s m args below meth c D A 2 0 0 (MQ below (va_Qv (fun (u : (Nat → Int32)) => Q u) (fun u t => va_P D.1 vwCl ((fun (u : (Nat → Int32)) => List.flatten [bX8 cI cJ cZ a0 r0 v0, bI cZ 2 (r0 3) u]) u) t.heap ∧ va_D A ((fun (u : (Nat → Int32)) => List.flatten [bX8 cI cJ cZ a0 r0 v0, bI cZ 2 (r0 3) u]) u)) A) args s 0 0 A) 2 [(0, .ref a0), (1, .int y1)] [] (List.flatten [bX8 cI cJ cZ a0 r0 v0, bI cZ 2 (r0 3) f0_3]) := by
  intro n
  induction n with
  | zero =>
    intro f0_3 y1 h
    exact False.elim h
  | succ n ih =>
    intro f0_3 y1 h
    refine J_iload_n C 3 dX8_forgetImages_2 rfl rfl ?_
    refine J_aload_n C 4 dX8_forgetImages_3 rfl rfl ?_
    refine J_get C 7 8 inlX8 0 3 rfl rfl (by decide) wd33 rfl rfl dX8_forgetImages_4 rfl ?_
    refine J_alen C 8 1 2 rfl rfl kn_2 dX8_forgetImages_7 rfl ?_
    refine J_icmp_ge C 11 24 dX8_forgetImages_8 rfl rfl (fun c => ?_) (fun c => ?_)
    · have h := h.1 c
      exact J_vret C hr hk f0_3 rfl dX8_forgetImages_24 h
    · have h := h.2 c
      refine J_aload_n C 12 dX8_forgetImages_11 rfl rfl ?_
      refine J_get C 15 8 inlX8 0 3 rfl rfl (by decide) wd33 rfl rfl dX8_forgetImages_12 rfl ?_
      refine J_iload_n C 16 dX8_forgetImages_15 rfl rfl ?_
      refine J_iconst C 17 dX8_forgetImages_16 rfl ki_0 ?_
      obtain ⟨hi, h⟩ := h
      obtain ⟨f03s_1, ef03s_1⟩ : ∃ z : Nat → Int32, z = upd f0_3 (Int32.toNatClampNeg y1) (vp_nar .boolean 0) := ⟨_, rfl⟩
      have h := h f03s_1 ef03s_1
      refine J_zast C 18 1 2 rfl rfl hi (List.flatten [bX8 cI cJ cZ a0 r0 v0, bI cZ 2 (r0 3) f03s_1]) (by subst ef03s_1; rfl) dX8_forgetImages_17 rfl ?_
      obtain ⟨x_2, ex_2⟩ : ∃ z : Int32, z = y1 + 1 := ⟨_, rfl⟩
      have h := h x_2 ex_2
      refine J_iinc C 21 [(1, .int x_2), (0, .ref a0)] dX8_forgetImages_18 rfl rfl ((kinc_1 _).trans ex_2.symm) (by decide) rfl ?_
      refine J_goto C 2 dX8_forgetImages_21 rfl ?_
      refine J_loc [1, 0] rfl ?_
      exact ih f03s_1 x_2 h
def wp_X8_forgetImages (v0 : Vl) (f0_3 : Nat → Int32)  (Q : (Nat → Int32) → Prop) : Prop := (∃ k : Nat, wp_X8_forgetImages_c2 v0 Q k f0_3 0)
set_option maxHeartbeats 4000000 in
set_option maxRecDepth 100000 in
theorem c_X8_forgetImages (l : Launch) (D : GG) (cI cJ cZ cS : ClassId) (a0 : Nat) (r0 : Nat → Nat) (v0 : Vl) (f0_3 : Nat → Int32)  (Q : (Nat → Int32) → Prop) (h : wp_X8_forgetImages v0 f0_3 Q) : Mv l D (tyL cI cJ cZ cS) yX8_forgetImages cX8_forgetImages 2 0 0 [.ref a0] (List.flatten [bX8 cI cJ cZ a0 r0 v0, bI cZ 2 (r0 3) f0_3]) (fun (u : (Nat → Int32)) => Q u) (fun (u : (Nat → Int32)) => List.flatten [bX8 cI cJ cZ a0 r0 v0, bI cZ 2 (r0 3) u]) := by
  refine Mv_of RX8 [(0, .ref a0)] (by decide +kernel) rfl rfl (Nat.le_of_ble_eq_true rfl) ?_
  intro p e s m args below meth c A C hr hk
  refine J_iconst C 1 dX8_forgetImages_0 rfl ki_0 ?_
  refine J_istore_n C 2 [(1, .int 0), (0, .ref a0)] dX8_forgetImages_1 rfl (by decide) rfl ?_
  refine J_loc [1, 0] rfl ?_
  obtain ⟨n1, h⟩ := h
  exact wk_X8_forgetImages_c2 C hr hk n1 f0_3 0 h
def wp_X8_refuseText (v0 : Vl) (v0_0 : Vl)  (Q : Int32 → Vl → Prop) : Prop := ∀ v0s_1 : Vl, v0s_1 = setI v0 13 (v0_0.1 7) → Q ((-10) - (v0_0.1 6)) v0s_1
set_option maxHeartbeats 4000000 in
set_option maxRecDepth 100000 in
theorem c_X8_refuseText (l : Launch) (D : GG) (cI cJ cZ cS : ClassId) (a0 : Nat) (r0 : Nat → Nat) (v0 : Vl) (r0_0 : Nat → Nat) (v0_0 : Vl)  (Q : Int32 → Vl → Prop) (h : wp_X8_refuseText v0 v0_0 Q) : Mi l D (tyL cI cJ cZ cS) yX8_refuseText cX8_refuseText 1 .int 0 0 [.ref a0] (List.flatten [bX8 cI cJ cZ a0 r0 v0, bX7 cI cJ cZ (r0 0) r0_0 v0_0]) (fun (r : Int32) (u : Vl) => Q r u) (fun (u : Vl) => List.flatten [bX8 cI cJ cZ a0 r0 u, bX7 cI cJ cZ (r0 0) r0_0 v0_0]) := by
  refine Mi_of RX8 [(0, .ref a0)] (by decide +kernel) rfl rfl (Nat.le_of_ble_eq_true rfl) ?_
  intro p e s m args below meth c A C hr hk
  refine J_aload_n C 1 dX8_refuseText_0 rfl rfl ?_
  refine J_aload_n C 2 dX8_refuseText_1 rfl rfl ?_
  refine J_get C 5 8 inlX8 0 0 rfl rfl (by decide) wd16 rfl rfl dX8_refuseText_2 rfl ?_
  refine J_getN C 8 7 inlX7 1 7 rfl rfl (by decide) (mi 28 rfl) rfl rfl dX8_refuseText_5 rfl ?_
  obtain ⟨v0s_1, ev0s_1⟩ : ∃ z : Vl, z = setI v0 13 (v0_0.1 7) := ⟨_, rfl⟩
  have h := h v0s_1 ev0s_1
  refine J_put C 11 8 inlX8 tyX8 tyX8_ok nmX8 0 13 rfl rfl (by decide) wd52 rfl rfl rfl rfl rfl (List.flatten [bX8 cI cJ cZ a0 r0 v0s_1, bX7 cI cJ cZ (r0 0) r0_0 v0_0]) (by subst ev0s_1; rfl) dX8_refuseText_8 rfl ?_
  refine J_bipush C 13 dX8_refuseText_11 rfl kb_m10 ?_
  refine J_aload_n C 14 dX8_refuseText_13 rfl rfl ?_
  refine J_get C 17 8 inlX8 0 0 rfl rfl (by decide) wd16 rfl rfl dX8_refuseText_14 rfl ?_
  refine J_getN C 20 7 inlX7 1 6 rfl rfl (by decide) (mi 29 rfl) rfl rfl dX8_refuseText_17 rfl ?_
  refine J_isub C 21 dX8_refuseText_20 rfl ?_
  exact J_iret C hr hk v0s_1 rfl dX8_refuseText_21 h
def wp_X8_reef (v0 : Vl) (v0_0 : Vl) (v0_1 : Vl) (f0_3 : Nat → Int32) (v0_6 : Vl) (v0_7 : Vl) (v0_9 : Vl) (v0_10 : Vl)  (Q : Int32 → Vl → Vl → Vl → (Nat → Int32) → Vl → Vl → Vl → Vl → Prop) : Prop := wp_X3_readFrom v0_10 v0_0 (fun r_3 u_1 u_2 => wp_X7_clear u_2 (fun u_4 => ((¬ r_3 = 0 → ∀ v0s_5 : Vl, v0s_5 = setI v0 13 (-1) → wp_X1_clear v0_6 (fun u_6 => wp_X0_clear v0_7 (fun u_7 => wp_X8_forgetImages v0s_5 f0_3 (fun u_8 => wp_X6_startOver 360 v0_1 u_1 (fun u_9 => Q (u_1.1 7) v0s_5 u_4 u_9 u_8 u_6 u_7 u_1 v0_9))))) ∧ (r_3 = 0 → wp_X8_refuseText v0 u_4 (fun r_11 u_10 => Q r_11 u_10 u_4 v0_1 f0_3 v0_6 v0_7 v0_9 u_1)))))
set_option maxHeartbeats 4000000 in
set_option maxRecDepth 100000 in
theorem c_X8_reef (l : Launch) (D : GG) (cI cJ cZ cS : ClassId) (a0 : Nat) (r0 : Nat → Nat) (v0 : Vl) (r0_0 : Nat → Nat) (v0_0 : Vl) (r0_1 : Nat → Nat) (v0_1 : Vl) (f0_3 : Nat → Int32) (r0_6 : Nat → Nat) (v0_6 : Vl) (r0_7 : Nat → Nat) (v0_7 : Vl) (r0_9 : Nat → Nat) (v0_9 : Vl) (r0_10 : Nat → Nat) (v0_10 : Vl)  (Q : Int32 → Vl → Vl → Vl → (Nat → Int32) → Vl → Vl → Vl → Vl → Prop) (h : wp_X8_reef v0 v0_0 v0_1 f0_3 v0_6 v0_7 v0_9 v0_10 Q) : Mi l D (tyL cI cJ cZ cS) yX8_reef cX8_reef 3 .int 9 193 [.ref a0] (List.flatten [bX8 cI cJ cZ a0 r0 v0, bX7 cI cJ cZ (r0 0) r0_0 v0_0, bX6 cI cJ cZ 360 (r0 1) r0_1 v0_1, bI cZ 2 (r0 3) f0_3, bX1 cI cJ cZ (r0 6) r0_6 v0_6, bX0 cI cJ cZ (r0 7) r0_7 v0_7, bX3 cI cJ cZ (r0 9) r0_9 v0_9, bX3 cI cJ cZ (r0 10) r0_10 v0_10]) (fun (r : Int32) (u : Vl × Vl × Vl × (Nat → Int32) × Vl × Vl × Vl × Vl × (Nat → Nat) × (Nat → Nat) × (Nat → Nat)) => Q r u.1 u.2.1 u.2.2.1 u.2.2.2.1 u.2.2.2.2.1 u.2.2.2.2.2.1 u.2.2.2.2.2.2.1 u.2.2.2.2.2.2.2.1 ∧ (∀ k : Nat, k ≠ 9 → k ≠ 10 → u.2.2.2.2.2.2.2.2.1 k = r0 k)) (fun (u : Vl × Vl × Vl × (Nat → Int32) × Vl × Vl × Vl × Vl × (Nat → Nat) × (Nat → Nat) × (Nat → Nat)) => List.flatten [bX8 cI cJ cZ a0 u.2.2.2.2.2.2.2.2.1 u.1, bX7 cI cJ cZ (u.2.2.2.2.2.2.2.2.1 0) r0_0 u.2.1, bX6 cI cJ cZ 360 (u.2.2.2.2.2.2.2.2.1 1) r0_1 u.2.2.1, bI cZ 2 (u.2.2.2.2.2.2.2.2.1 3) u.2.2.2.1, bX1 cI cJ cZ (u.2.2.2.2.2.2.2.2.1 6) r0_6 u.2.2.2.2.1, bX0 cI cJ cZ (u.2.2.2.2.2.2.2.2.1 7) r0_7 u.2.2.2.2.2.1, bX3 cI cJ cZ (u.2.2.2.2.2.2.2.2.1 9) u.2.2.2.2.2.2.2.2.2.1 u.2.2.2.2.2.2.1, bX3 cI cJ cZ (u.2.2.2.2.2.2.2.2.1 10) u.2.2.2.2.2.2.2.2.2.2 u.2.2.2.2.2.2.2.1]) := by
  refine Mi_of RX8 [(0, .ref a0)] (by decide +kernel) rfl rfl (Nat.le_of_ble_eq_true rfl) ?_
  intro p e s m args below meth c A C hr hk
  refine J_aload_n C 1 dX8_reef_0 rfl rfl ?_
  refine J_get C 4 8 inlX8 0 10 rfl rfl (by decide) wd21 rfl rfl dX8_reef_1 rfl ?_
  refine J_aload_n C 5 dX8_reef_4 rfl rfl ?_
  refine J_get C 8 8 inlX8 0 0 rfl rfl (by decide) wd16 rfl rfl dX8_reef_5 rfl ?_
  refine J_callBiV (Bs := [bX8 cI cJ cZ a0 r0 v0, bX7 cI cJ cZ (r0 0) r0_0 v0_0, bX6 cI cJ cZ 360 (r0 1) r0_1 v0_1, bI cZ 2 (r0 3) f0_3, bX1 cI cJ cZ (r0 6) r0_6 v0_6, bX0 cI cJ cZ (r0 7) r0_7 v0_7, bX3 cI cJ cZ (r0 9) r0_9 v0_9, bX3 cI cJ cZ (r0 10) r0_10 v0_10]) (As := [.ref (r0 0)]) C 11 (c_X3_readFrom l D cI cJ cZ cS (r0 10) r0_10 v0_10 (r0 0) r0_0 v0_0 _ h) wd233 wd230 wd19 wd231 wd232 3 0 rfl rfl rfl hdX3_readFrom ⟨Nat.le_of_ble_eq_true rfl, Nat.le_of_ble_eq_true rfl⟩ ⟨Nat.zero_le _, Nat.zero_le _⟩ rfl (Nat.le_of_ble_eq_true rfl) [7, 1] [0, 2, 3, 4, 5, 6] 8 rfl (by decide +kernel) rfl rfl (fun (u : Vl × Vl) => [bX3 cI cJ cZ (r0 10) r0_10 u.1, bX7 cI cJ cZ (r0 0) r0_0 u.2]) (fun _ => rfl) [2, 1, 3, 4, 5, 6, 7, 0] (by decide +kernel) (fun _ => rfl) rfl (fun (u : Vl × Vl) => [bX8 cI cJ cZ a0 r0 v0, bX7 cI cJ cZ (r0 0) r0_0 u.2, bX6 cI cJ cZ 360 (r0 1) r0_1 v0_1, bI cZ 2 (r0 3) f0_3, bX1 cI cJ cZ (r0 6) r0_6 v0_6, bX0 cI cJ cZ (r0 7) r0_7 v0_7, bX3 cI cJ cZ (r0 9) r0_9 v0_9, bX3 cI cJ cZ (r0 10) r0_10 u.1]) (fun _ => rfl) dX8_reef_8 rfl (fun r_3 u h => ?_)
  obtain ⟨u_1, u_2⟩ := u
  refine J_istore_n C 12 [(1, .int r_3), (0, .ref a0)] dX8_reef_11 rfl (by decide) rfl ?_
  refine J_aload_n C 13 dX8_reef_12 rfl rfl ?_
  refine J_get C 16 8 inlX8 0 0 rfl rfl (by decide) wd16 rfl rfl dX8_reef_13 rfl ?_
  refine J_callBvV (Bs := [bX8 cI cJ cZ a0 r0 v0, bX7 cI cJ cZ (r0 0) r0_0 u_2, bX6 cI cJ cZ 360 (r0 1) r0_1 v0_1, bI cZ 2 (r0 3) f0_3, bX1 cI cJ cZ (r0 6) r0_6 v0_6, bX0 cI cJ cZ (r0 7) r0_7 v0_7, bX3 cI cJ cZ (r0 9) r0_9 v0_9, bX3 cI cJ cZ (r0 10) r0_10 u_1]) (As := []) C 19 (c_X7_clear l D cI cJ cZ cS (r0 0) r0_0 u_2 _ h) wd376 wd373 wd15 wd374 wd375 7 0 rfl rfl rfl hdX7_clear ⟨Nat.le_of_ble_eq_true rfl, Nat.le_of_ble_eq_true rfl⟩ ⟨Nat.zero_le _, Nat.zero_le _⟩ rfl (Nat.le_of_ble_eq_true rfl) [1] [0, 2, 3, 4, 5, 6, 7] 8 rfl (by decide +kernel) rfl rfl (fun (u : Vl) => [bX7 cI cJ cZ (r0 0) r0_0 u]) (fun _ => rfl) [1, 0, 2, 3, 4, 5, 6, 7] (by decide +kernel) (fun _ => rfl) rfl (fun (u : Vl) => [bX8 cI cJ cZ a0 r0 v0, bX7 cI cJ cZ (r0 0) r0_0 u, bX6 cI cJ cZ 360 (r0 1) r0_1 v0_1, bI cZ 2 (r0 3) f0_3, bX1 cI cJ cZ (r0 6) r0_6 v0_6, bX0 cI cJ cZ (r0 7) r0_7 v0_7, bX3 cI cJ cZ (r0 9) r0_9 v0_9, bX3 cI cJ cZ (r0 10) r0_10 u_1]) (fun _ => rfl) dX8_reef_16 rfl (fun u h => ?_)
  obtain ⟨u_4, hu⟩ : ∃ z, z = u := ⟨_, rfl⟩
  subst hu
  refine J_iload_n C 20 dX8_reef_19 rfl rfl ?_
  refine J_if_ne C 23 28 dX8_reef_20 rfl rfl (fun c => ?_) (fun c => ?_)
  · have h := h.1 c
    refine J_aload_n C 29 dX8_reef_28 rfl rfl ?_
    refine J_iconst C 30 dX8_reef_29 rfl ki_m1 ?_
    obtain ⟨v0s_5, ev0s_5⟩ : ∃ z : Vl, z = setI v0 13 (-1) := ⟨_, rfl⟩
    have h := h v0s_5 ev0s_5
    refine J_put C 33 8 inlX8 tyX8 tyX8_ok nmX8 0 13 rfl rfl (by decide) wd52 rfl rfl rfl rfl rfl (List.flatten [bX8 cI cJ cZ a0 r0 v0s_5, bX7 cI cJ cZ (r0 0) r0_0 u_4, bX6 cI cJ cZ 360 (r0 1) r0_1 v0_1, bI cZ 2 (r0 3) f0_3, bX1 cI cJ cZ (r0 6) r0_6 v0_6, bX0 cI cJ cZ (r0 7) r0_7 v0_7, bX3 cI cJ cZ (r0 9) r0_9 v0_9, bX3 cI cJ cZ (r0 10) r0_10 u_1]) (by subst ev0s_5; rfl) dX8_reef_30 rfl ?_
    refine J_aload_n C 34 dX8_reef_33 rfl rfl ?_
    refine J_get C 37 8 inlX8 0 9 rfl rfl (by decide) wd20 rfl rfl dX8_reef_34 rfl ?_
    refine J_astore_n C 38 [(2, .ref (r0 9)), (1, .int r_3), (0, .ref a0)] dX8_reef_37 rfl (by decide) rfl ?_
    refine J_aload_n C 39 dX8_reef_38 rfl rfl ?_
    refine J_aload_n C 40 dX8_reef_39 rfl rfl ?_
    refine J_get C 43 8 inlX8 0 10 rfl rfl (by decide) wd21 rfl rfl dX8_reef_40 rfl ?_
    refine J_put C 46 8 inlX8 tyX8 tyX8_ok nmX8 0 9 rfl rfl (by decide) wd20 rfl rfl rfl rfl rfl (List.flatten [bX8 cI cJ cZ a0 (va_up r0 9 (r0 10)) v0s_5, bX7 cI cJ cZ (r0 0) r0_0 u_4, bX6 cI cJ cZ 360 (r0 1) r0_1 v0_1, bI cZ 2 (r0 3) f0_3, bX1 cI cJ cZ (r0 6) r0_6 v0_6, bX0 cI cJ cZ (r0 7) r0_7 v0_7, bX3 cI cJ cZ (r0 9) r0_9 v0_9, bX3 cI cJ cZ (r0 10) r0_10 u_1]) rfl dX8_reef_43 rfl ?_
    refine J_aload_n C 47 dX8_reef_46 rfl rfl ?_
    refine J_aload_n C 48 dX8_reef_47 rfl rfl ?_
    refine J_put C 51 8 inlX8 tyX8 tyX8_ok nmX8 0 10 rfl rfl (by decide) wd21 rfl rfl rfl rfl rfl (List.flatten [bX8 cI cJ cZ a0 (va_up (va_up r0 9 (r0 10)) 10 (r0 9)) v0s_5, bX7 cI cJ cZ (r0 0) r0_0 u_4, bX6 cI cJ cZ 360 (r0 1) r0_1 v0_1, bI cZ 2 (r0 3) f0_3, bX1 cI cJ cZ (r0 6) r0_6 v0_6, bX0 cI cJ cZ (r0 7) r0_7 v0_7, bX3 cI cJ cZ (r0 9) r0_9 v0_9, bX3 cI cJ cZ (r0 10) r0_10 u_1]) rfl dX8_reef_48 rfl ?_
    refine J_aload_n C 52 dX8_reef_51 rfl rfl ?_
    refine J_get C 55 8 inlX8 0 6 rfl rfl (by decide) wd45 rfl rfl dX8_reef_52 rfl ?_
    refine J_callBvV (Bs := [bX8 cI cJ cZ a0 (va_up (va_up r0 9 (r0 10)) 10 (r0 9)) v0s_5, bX7 cI cJ cZ (r0 0) r0_0 u_4, bX6 cI cJ cZ 360 (r0 1) r0_1 v0_1, bI cZ 2 (r0 3) f0_3, bX1 cI cJ cZ (r0 6) r0_6 v0_6, bX0 cI cJ cZ (r0 7) r0_7 v0_7, bX3 cI cJ cZ (r0 9) r0_9 v0_9, bX3 cI cJ cZ (r0 10) r0_10 u_1]) (As := []) C 58 (c_X1_clear l D cI cJ cZ cS (r0 6) r0_6 v0_6 _ h) wd384 wd381 wd44 wd382 wd383 1 0 rfl rfl rfl hdX1_clear ⟨Nat.le_of_ble_eq_true rfl, Nat.le_of_ble_eq_true rfl⟩ ⟨Nat.zero_le _, Nat.zero_le _⟩ rfl (Nat.le_of_ble_eq_true rfl) [4] [0, 1, 2, 3, 5, 6, 7] 8 rfl (by decide +kernel) rfl rfl (fun (u : Vl) => [bX1 cI cJ cZ (r0 6) r0_6 u]) (fun _ => rfl) [1, 2, 3, 4, 0, 5, 6, 7] (by decide +kernel) (fun _ => rfl) rfl (fun (u : Vl) => [bX8 cI cJ cZ a0 (va_up (va_up r0 9 (r0 10)) 10 (r0 9)) v0s_5, bX7 cI cJ cZ (r0 0) r0_0 u_4, bX6 cI cJ cZ 360 (r0 1) r0_1 v0_1, bI cZ 2 (r0 3) f0_3, bX1 cI cJ cZ (r0 6) r0_6 u, bX0 cI cJ cZ (r0 7) r0_7 v0_7, bX3 cI cJ cZ (r0 9) r0_9 v0_9, bX3 cI cJ cZ (r0 10) r0_10 u_1]) (fun _ => rfl) dX8_reef_55 rfl (fun u h => ?_)
    obtain ⟨u_6, hu⟩ : ∃ z, z = u := ⟨_, rfl⟩
    subst hu
    refine J_aload_n C 59 dX8_reef_58 rfl rfl ?_
    refine J_get C 62 8 inlX8 0 7 rfl rfl (by decide) wd49 rfl rfl dX8_reef_59 rfl ?_
    refine J_callBvV (Bs := [bX8 cI cJ cZ a0 (va_up (va_up r0 9 (r0 10)) 10 (r0 9)) v0s_5, bX7 cI cJ cZ (r0 0) r0_0 u_4, bX6 cI cJ cZ 360 (r0 1) r0_1 v0_1, bI cZ 2 (r0 3) f0_3, bX1 cI cJ cZ (r0 6) r0_6 u_6, bX0 cI cJ cZ (r0 7) r0_7 v0_7, bX3 cI cJ cZ (r0 9) r0_9 v0_9, bX3 cI cJ cZ (r0 10) r0_10 u_1]) (As := []) C 65 (c_X0_clear l D cI cJ cZ cS (r0 7) r0_7 v0_7 _ h) wd389 wd386 wd48 wd387 wd388 0 0 rfl rfl rfl hdX0_clear ⟨Nat.le_of_ble_eq_true rfl, Nat.le_of_ble_eq_true rfl⟩ ⟨Nat.zero_le _, Nat.zero_le _⟩ rfl (Nat.le_of_ble_eq_true rfl) [5] [0, 1, 2, 3, 4, 6, 7] 8 rfl (by decide +kernel) rfl rfl (fun (u : Vl) => [bX0 cI cJ cZ (r0 7) r0_7 u]) (fun _ => rfl) [1, 2, 3, 4, 5, 0, 6, 7] (by decide +kernel) (fun _ => rfl) rfl (fun (u : Vl) => [bX8 cI cJ cZ a0 (va_up (va_up r0 9 (r0 10)) 10 (r0 9)) v0s_5, bX7 cI cJ cZ (r0 0) r0_0 u_4, bX6 cI cJ cZ 360 (r0 1) r0_1 v0_1, bI cZ 2 (r0 3) f0_3, bX1 cI cJ cZ (r0 6) r0_6 u_6, bX0 cI cJ cZ (r0 7) r0_7 u, bX3 cI cJ cZ (r0 9) r0_9 v0_9, bX3 cI cJ cZ (r0 10) r0_10 u_1]) (fun _ => rfl) dX8_reef_62 rfl (fun u h => ?_)
    obtain ⟨u_7, hu⟩ : ∃ z, z = u := ⟨_, rfl⟩
    subst hu
    refine J_aload_n C 66 dX8_reef_65 rfl rfl ?_
    refine J_callBvV (Bs := [bX8 cI cJ cZ a0 (va_up (va_up r0 9 (r0 10)) 10 (r0 9)) v0s_5, bX7 cI cJ cZ (r0 0) r0_0 u_4, bX6 cI cJ cZ 360 (r0 1) r0_1 v0_1, bI cZ 2 (r0 3) f0_3, bX1 cI cJ cZ (r0 6) r0_6 u_6, bX0 cI cJ cZ (r0 7) r0_7 u_7, bX3 cI cJ cZ (r0 9) r0_9 v0_9, bX3 cI cJ cZ (r0 10) r0_10 u_1]) (As := []) C 69 (c_X8_forgetImages l D cI cJ cZ cS a0 (va_up (va_up r0 9 (r0 10)) 10 (r0 9)) v0s_5 f0_3 _ h) wd397 wd394 wd2 wd395 wd396 8 0 rfl rfl rfl hdX8_forgetImages ⟨Nat.le_of_ble_eq_true rfl, Nat.le_of_ble_eq_true rfl⟩ ⟨Nat.zero_le _, Nat.zero_le _⟩ rfl (Nat.le_of_ble_eq_true rfl) [0, 3] [1, 2, 4, 5, 6, 7] 8 rfl (by decide +kernel) rfl rfl (fun (u : (Nat → Int32)) => [bX8 cI cJ cZ a0 (va_up (va_up r0 9 (r0 10)) 10 (r0 9)) v0s_5, bI cZ 2 (r0 3) u]) (fun _ => rfl) [0, 2, 3, 1, 4, 5, 6, 7] (by decide +kernel) (fun _ => rfl) rfl (fun (u : (Nat → Int32)) => [bX8 cI cJ cZ a0 (va_up (va_up r0 9 (r0 10)) 10 (r0 9)) v0s_5, bX7 cI cJ cZ (r0 0) r0_0 u_4, bX6 cI cJ cZ 360 (r0 1) r0_1 v0_1, bI cZ 2 (r0 3) u, bX1 cI cJ cZ (r0 6) r0_6 u_6, bX0 cI cJ cZ (r0 7) r0_7 u_7, bX3 cI cJ cZ (r0 9) r0_9 v0_9, bX3 cI cJ cZ (r0 10) r0_10 u_1]) (fun _ => rfl) dX8_reef_66 rfl (fun u h => ?_)
    obtain ⟨u_8, hu⟩ : ∃ z, z = u := ⟨_, rfl⟩
    subst hu
    refine J_aload_n C 70 dX8_reef_69 rfl rfl ?_
    refine J_get C 73 8 inlX8 0 1 rfl rfl (by decide) wd30 rfl rfl dX8_reef_70 rfl ?_
    refine J_aload_n C 74 dX8_reef_73 rfl rfl ?_
    refine J_get C 77 8 inlX8 0 9 rfl rfl (by decide) wd20 rfl rfl dX8_reef_74 rfl ?_
    refine J_callBvV (Bs := [bX8 cI cJ cZ a0 (va_up (va_up r0 9 (r0 10)) 10 (r0 9)) v0s_5, bX7 cI cJ cZ (r0 0) r0_0 u_4, bX6 cI cJ cZ 360 (r0 1) r0_1 v0_1, bI cZ 2 (r0 3) u_8, bX1 cI cJ cZ (r0 6) r0_6 u_6, bX0 cI cJ cZ (r0 7) r0_7 u_7, bX3 cI cJ cZ (r0 9) r0_9 v0_9, bX3 cI cJ cZ (r0 10) r0_10 u_1]) (As := [.ref (r0 10)]) C 80 (c_X6_startOver l D cI cJ cZ cS 360 (r0 1) r0_1 v0_1 (r0 10) r0_10 u_1 _ h) wd135 wd132 wd29 wd133 wd134 6 0 rfl rfl rfl hdX6_startOver ⟨Nat.le_of_ble_eq_true rfl, Nat.le_of_ble_eq_true rfl⟩ ⟨Nat.zero_le _, Nat.zero_le _⟩ rfl (Nat.le_of_ble_eq_true rfl) [2, 7] [0, 1, 3, 4, 5, 6] 8 rfl (by decide +kernel) rfl rfl (fun (u : Vl) => [bX6 cI cJ cZ 360 (r0 1) r0_1 u, bX3 cI cJ cZ (r0 10) r0_10 u_1]) (fun _ => rfl) [2, 3, 0, 4, 5, 6, 7, 1] (by decide +kernel) (fun _ => rfl) rfl (fun (u : Vl) => [bX8 cI cJ cZ a0 (va_up (va_up r0 9 (r0 10)) 10 (r0 9)) v0s_5, bX7 cI cJ cZ (r0 0) r0_0 u_4, bX6 cI cJ cZ 360 (r0 1) r0_1 u, bI cZ 2 (r0 3) u_8, bX1 cI cJ cZ (r0 6) r0_6 u_6, bX0 cI cJ cZ (r0 7) r0_7 u_7, bX3 cI cJ cZ (r0 9) r0_9 v0_9, bX3 cI cJ cZ (r0 10) r0_10 u_1]) (fun _ => rfl) dX8_reef_77 rfl (fun u h => ?_)
    obtain ⟨u_9, hu⟩ : ∃ z, z = u := ⟨_, rfl⟩
    subst hu
    refine J_aload_n C 81 dX8_reef_80 rfl rfl ?_
    refine J_get C 84 8 inlX8 0 9 rfl rfl (by decide) wd20 rfl rfl dX8_reef_81 rfl ?_
    refine J_getN C 87 3 inlX3 24 7 rfl rfl (by decide) (mi 0 rfl) rfl rfl dX8_reef_84 rfl ?_
    refine J_sub (ws' := List.flatten [bX8 cI cJ cZ a0 (va_up (va_up r0 9 (r0 10)) 10 (r0 9)) v0s_5, bX7 cI cJ cZ (r0 0) r0_0 u_4, bX6 cI cJ cZ 360 (r0 1) r0_1 u_9, bI cZ 2 (r0 3) u_8, bX1 cI cJ cZ (r0 6) r0_6 u_6, bX0 cI cJ cZ (r0 7) r0_7 u_7, bX3 cI cJ cZ (r0 10) r0_10 u_1, bX3 cI cJ cZ (r0 9) r0_9 v0_9]) [0, 1, 2, 3, 4, 5, 6, 7, 8, 9, 10, 11, 12, 13, 14, 15, 24, 25, 26, 27, 28, 29, 30, 31, 16, 17, 18, 19, 20, 21, 22, 23] rfl rfl ?_
    exact J_iret C hr hk (v0s_5, u_4, u_9, u_8, u_6, u_7, u_1, v0_9, va_up (va_up r0 9 (r0 10)) 10 (r0 9), r0_10, r0_9) rfl dX8_reef_87 ⟨h, fun k h9 h10 => by simp [va_up, h9, h10]⟩
  · have h := h.2 c
    refine J_aload_n C 24 dX8_reef_23 rfl rfl ?_
    refine J_callBiV (Bs := [bX8 cI cJ cZ a0 r0 v0, bX7 cI cJ cZ (r0 0) r0_0 u_4, bX6 cI cJ cZ 360 (r0 1) r0_1 v0_1, bI cZ 2 (r0 3) f0_3, bX1 cI cJ cZ (r0 6) r0_6 v0_6, bX0 cI cJ cZ (r0 7) r0_7 v0_7, bX3 cI cJ cZ (r0 9) r0_9 v0_9, bX3 cI cJ cZ (r0 10) r0_10 u_1]) (As := []) C 27 (c_X8_refuseText l D cI cJ cZ cS a0 r0 v0 r0_0 u_4 _ h) wd380 wd377 wd2 wd378 wd379 8 0 rfl rfl rfl hdX8_refuseText ⟨Nat.le_of_ble_eq_true rfl, Nat.le_of_ble_eq_true rfl⟩ ⟨Nat.zero_le _, Nat.zero_le _⟩ rfl (Nat.le_of_ble_eq_true rfl) [0, 1] [2, 3, 4, 5, 6, 7] 8 rfl (by decide +kernel) rfl rfl (fun (u : Vl) => [bX8 cI cJ cZ a0 r0 u, bX7 cI cJ cZ (r0 0) r0_0 u_4]) (fun _ => rfl) [0, 1, 2, 3, 4, 5, 6, 7] (by decide +kernel) (fun _ => rfl) rfl (fun (u : Vl) => [bX8 cI cJ cZ a0 r0 u, bX7 cI cJ cZ (r0 0) r0_0 u_4, bX6 cI cJ cZ 360 (r0 1) r0_1 v0_1, bI cZ 2 (r0 3) f0_3, bX1 cI cJ cZ (r0 6) r0_6 v0_6, bX0 cI cJ cZ (r0 7) r0_7 v0_7, bX3 cI cJ cZ (r0 9) r0_9 v0_9, bX3 cI cJ cZ (r0 10) r0_10 u_1]) (fun _ => rfl) dX8_reef_24 rfl (fun r_11 u h => ?_)
    obtain ⟨u_10, hu⟩ : ∃ z, z = u := ⟨_, rfl⟩
    subst hu
    exact J_iret C hr hk (u_10, u_4, v0_1, f0_3, v0_6, v0_7, v0_9, u_1, r0, r0_9, r0_10) rfl dX8_reef_27 ⟨h, fun k h9 h10 => by simp [va_up, h9, h10]⟩
def wp_X8_skies (v0 : Vl) (v0_0 : Vl) (v0_11 : Vl) (v0_12 : Vl)  (Q : Int32 → Vl → Vl → Vl → Vl → Prop) : Prop := (((v0_0.1 1) ≤ 200 → wp_X5_readFrom v0_12 v0_0 (fun r_3 u_1 u_2 => wp_X7_clear u_2 (fun u_4 => ((¬ r_3 = 0 → ∀ v0s_5 : Vl, v0s_5 = setI v0 13 (-1) → Q (u_1.1 3) v0s_5 u_4 u_1 v0_11) ∧ (r_3 = 0 → wp_X8_refuseText v0 u_4 (fun r_7 u_6 => Q r_7 u_6 u_4 v0_11 u_1)))))) ∧ (¬ (v0_0.1 1) ≤ 200 → Q (-1000000003) v0 v0_0 v0_11 v0_12))
set_option maxHeartbeats 4000000 in
set_option maxRecDepth 100000 in
theorem c_X8_skies (l : Launch) (D : GG) (cI cJ cZ cS : ClassId) (a0 : Nat) (r0 : Nat → Nat) (v0 : Vl) (r0_0 : Nat → Nat) (v0_0 : Vl) (r0_11 : Nat → Nat) (v0_11 : Vl) (r0_12 : Nat → Nat) (v0_12 : Vl)  (Q : Int32 → Vl → Vl → Vl → Vl → Prop) (h : wp_X8_skies v0 v0_0 v0_11 v0_12 Q) : Mi l D (tyL cI cJ cZ cS) yX8_skies cX8_skies 3 .int 8 172 [.ref a0] (List.flatten [bX8 cI cJ cZ a0 r0 v0, bX7 cI cJ cZ (r0 0) r0_0 v0_0, bX5 cI cJ cZ (r0 11) r0_11 v0_11, bX5 cI cJ cZ (r0 12) r0_12 v0_12]) (fun (r : Int32) (u : Vl × Vl × Vl × Vl × (Nat → Nat) × (Nat → Nat) × (Nat → Nat)) => Q r u.1 u.2.1 u.2.2.1 u.2.2.2.1 ∧ (∀ k : Nat, k ≠ 11 → k ≠ 12 → u.2.2.2.2.1 k = r0 k)) (fun (u : Vl × Vl × Vl × Vl × (Nat → Nat) × (Nat → Nat) × (Nat → Nat)) => List.flatten [bX8 cI cJ cZ a0 u.2.2.2.2.1 u.1, bX7 cI cJ cZ (u.2.2.2.2.1 0) r0_0 u.2.1, bX5 cI cJ cZ (u.2.2.2.2.1 11) u.2.2.2.2.2.1 u.2.2.1, bX5 cI cJ cZ (u.2.2.2.2.1 12) u.2.2.2.2.2.2 u.2.2.2.1]) := by
  refine Mi_of RX8 [(0, .ref a0)] (by decide +kernel) rfl rfl (Nat.le_of_ble_eq_true rfl) ?_
  intro p e s m args below meth c A C hr hk
  refine J_aload_n C 1 dX8_skies_0 rfl rfl ?_
  refine J_get C 4 8 inlX8 0 0 rfl rfl (by decide) wd16 rfl rfl dX8_skies_1 rfl ?_
  refine J_getN C 7 7 inlX7 1 1 rfl rfl (by decide) (mi 31 rfl) rfl rfl dX8_skies_4 rfl ?_
  refine J_sipush C 10 dX8_skies_7 rfl ks_200 ?_
  refine J_icmp_le C 13 16 dX8_skies_10 rfl rfl (fun c => ?_) (fun c => ?_)
  · have h := h.1 c
    refine J_aload_n C 17 dX8_skies_16 rfl rfl ?_
    refine J_get C 20 8 inlX8 0 12 rfl rfl (by decide) wd26 rfl rfl dX8_skies_17 rfl ?_
    refine J_aload_n C 21 dX8_skies_20 rfl rfl ?_
    refine J_get C 24 8 inlX8 0 0 rfl rfl (by decide) wd16 rfl rfl dX8_skies_21 rfl ?_
    refine J_callBiV (Bs := [bX8 cI cJ cZ a0 r0 v0, bX7 cI cJ cZ (r0 0) r0_0 v0_0, bX5 cI cJ cZ (r0 11) r0_11 v0_11, bX5 cI cJ cZ (r0 12) r0_12 v0_12]) (As := [.ref (r0 0)]) C 27 (c_X5_readFrom l D cI cJ cZ cS (r0 12) r0_12 v0_12 (r0 0) r0_0 v0_0 _ h) wd482 wd479 wd24 wd480 wd481 5 0 rfl rfl rfl hdX5_readFrom ⟨Nat.le_of_ble_eq_true rfl, Nat.le_of_ble_eq_true rfl⟩ ⟨Nat.zero_le _, Nat.zero_le _⟩ rfl (Nat.le_of_ble_eq_true rfl) [3, 1] [0, 2] 4 rfl (by decide +kernel) rfl rfl (fun (u : Vl × Vl) => [bX5 cI cJ cZ (r0 12) r0_12 u.1, bX7 cI cJ cZ (r0 0) r0_0 u.2]) (fun _ => rfl) [2, 1, 3, 0] (by decide +kernel) (fun _ => rfl) rfl (fun (u : Vl × Vl) => [bX8 cI cJ cZ a0 r0 v0, bX7 cI cJ cZ (r0 0) r0_0 u.2, bX5 cI cJ cZ (r0 11) r0_11 v0_11, bX5 cI cJ cZ (r0 12) r0_12 u.1]) (fun _ => rfl) dX8_skies_24 rfl (fun r_3 u h => ?_)
    obtain ⟨u_1, u_2⟩ := u
    refine J_istore_n C 28 [(1, .int r_3), (0, .ref a0)] dX8_skies_27 rfl (by decide) rfl ?_
    refine J_aload_n C 29 dX8_skies_28 rfl rfl ?_
    refine J_get C 32 8 inlX8 0 0 rfl rfl (by decide) wd16 rfl rfl dX8_skies_29 rfl ?_
    refine J_callBvV (Bs := [bX8 cI cJ cZ a0 r0 v0, bX7 cI cJ cZ (r0 0) r0_0 u_2, bX5 cI cJ cZ (r0 11) r0_11 v0_11, bX5 cI cJ cZ (r0 12) r0_12 u_1]) (As := []) C 35 (c_X7_clear l D cI cJ cZ cS (r0 0) r0_0 u_2 _ h) wd376 wd373 wd15 wd374 wd375 7 0 rfl rfl rfl hdX7_clear ⟨Nat.le_of_ble_eq_true rfl, Nat.le_of_ble_eq_true rfl⟩ ⟨Nat.zero_le _, Nat.zero_le _⟩ rfl (Nat.le_of_ble_eq_true rfl) [1] [0, 2, 3] 4 rfl (by decide +kernel) rfl rfl (fun (u : Vl) => [bX7 cI cJ cZ (r0 0) r0_0 u]) (fun _ => rfl) [1, 0, 2, 3] (by decide +kernel) (fun _ => rfl) rfl (fun (u : Vl) => [bX8 cI cJ cZ a0 r0 v0, bX7 cI cJ cZ (r0 0) r0_0 u, bX5 cI cJ cZ (r0 11) r0_11 v0_11, bX5 cI cJ cZ (r0 12) r0_12 u_1]) (fun _ => rfl) dX8_skies_32 rfl (fun u h => ?_)
    obtain ⟨u_4, hu⟩ : ∃ z, z = u := ⟨_, rfl⟩
    subst hu
    refine J_iload_n C 36 dX8_skies_35 rfl rfl ?_
    refine J_if_ne C 39 44 dX8_skies_36 rfl rfl (fun c => ?_) (fun c => ?_)
    · have h := h.1 c
      refine J_aload_n C 45 dX8_skies_44 rfl rfl ?_
      refine J_iconst C 46 dX8_skies_45 rfl ki_m1 ?_
      obtain ⟨v0s_5, ev0s_5⟩ : ∃ z : Vl, z = setI v0 13 (-1) := ⟨_, rfl⟩
      have h := h v0s_5 ev0s_5
      refine J_put C 49 8 inlX8 tyX8 tyX8_ok nmX8 0 13 rfl rfl (by decide) wd52 rfl rfl rfl rfl rfl (List.flatten [bX8 cI cJ cZ a0 r0 v0s_5, bX7 cI cJ cZ (r0 0) r0_0 u_4, bX5 cI cJ cZ (r0 11) r0_11 v0_11, bX5 cI cJ cZ (r0 12) r0_12 u_1]) (by subst ev0s_5; rfl) dX8_skies_46 rfl ?_
      refine J_aload_n C 50 dX8_skies_49 rfl rfl ?_
      refine J_get C 53 8 inlX8 0 11 rfl rfl (by decide) wd25 rfl rfl dX8_skies_50 rfl ?_
      refine J_astore_n C 54 [(2, .ref (r0 11)), (1, .int r_3), (0, .ref a0)] dX8_skies_53 rfl (by decide) rfl ?_
      refine J_aload_n C 55 dX8_skies_54 rfl rfl ?_
      refine J_aload_n C 56 dX8_skies_55 rfl rfl ?_
      refine J_get C 59 8 inlX8 0 12 rfl rfl (by decide) wd26 rfl rfl dX8_skies_56 rfl ?_
      refine J_put C 62 8 inlX8 tyX8 tyX8_ok nmX8 0 11 rfl rfl (by decide) wd25 rfl rfl rfl rfl rfl (List.flatten [bX8 cI cJ cZ a0 (va_up r0 11 (r0 12)) v0s_5, bX7 cI cJ cZ (r0 0) r0_0 u_4, bX5 cI cJ cZ (r0 11) r0_11 v0_11, bX5 cI cJ cZ (r0 12) r0_12 u_1]) rfl dX8_skies_59 rfl ?_
      refine J_aload_n C 63 dX8_skies_62 rfl rfl ?_
      refine J_aload_n C 64 dX8_skies_63 rfl rfl ?_
      refine J_put C 67 8 inlX8 tyX8 tyX8_ok nmX8 0 12 rfl rfl (by decide) wd26 rfl rfl rfl rfl rfl (List.flatten [bX8 cI cJ cZ a0 (va_up (va_up r0 11 (r0 12)) 12 (r0 11)) v0s_5, bX7 cI cJ cZ (r0 0) r0_0 u_4, bX5 cI cJ cZ (r0 11) r0_11 v0_11, bX5 cI cJ cZ (r0 12) r0_12 u_1]) rfl dX8_skies_64 rfl ?_
      refine J_aload_n C 68 dX8_skies_67 rfl rfl ?_
      refine J_get C 71 8 inlX8 0 11 rfl rfl (by decide) wd25 rfl rfl dX8_skies_68 rfl ?_
      refine J_getN C 74 5 inlX5 6 3 rfl rfl (by decide) (mi 1 rfl) rfl rfl dX8_skies_71 rfl ?_
      refine J_sub (ws' := List.flatten [bX8 cI cJ cZ a0 (va_up (va_up r0 11 (r0 12)) 12 (r0 11)) v0s_5, bX7 cI cJ cZ (r0 0) r0_0 u_4, bX5 cI cJ cZ (r0 12) r0_12 u_1, bX5 cI cJ cZ (r0 11) r0_11 v0_11]) [0, 1, 2, 6, 7, 8, 3, 4, 5] rfl rfl ?_
      exact J_iret C hr hk (v0s_5, u_4, u_1, v0_11, va_up (va_up r0 11 (r0 12)) 12 (r0 11), r0_12, r0_11) rfl dX8_skies_74 ⟨h, fun k h11 h12 => by simp [va_up, h11, h12]⟩
    · have h := h.2 c
      refine J_aload_n C 40 dX8_skies_39 rfl rfl ?_
      refine J_callBiV (Bs := [bX8 cI cJ cZ a0 r0 v0, bX7 cI cJ cZ (r0 0) r0_0 u_4, bX5 cI cJ cZ (r0 11) r0_11 v0_11, bX5 cI cJ cZ (r0 12) r0_12 u_1]) (As := []) C 43 (c_X8_refuseText l D cI cJ cZ cS a0 r0 v0 r0_0 u_4 _ h) wd380 wd377 wd2 wd378 wd379 8 0 rfl rfl rfl hdX8_refuseText ⟨Nat.le_of_ble_eq_true rfl, Nat.le_of_ble_eq_true rfl⟩ ⟨Nat.zero_le _, Nat.zero_le _⟩ rfl (Nat.le_of_ble_eq_true rfl) [0, 1] [2, 3] 4 rfl (by decide +kernel) rfl rfl (fun (u : Vl) => [bX8 cI cJ cZ a0 r0 u, bX7 cI cJ cZ (r0 0) r0_0 u_4]) (fun _ => rfl) [0, 1, 2, 3] (by decide +kernel) (fun _ => rfl) rfl (fun (u : Vl) => [bX8 cI cJ cZ a0 r0 u, bX7 cI cJ cZ (r0 0) r0_0 u_4, bX5 cI cJ cZ (r0 11) r0_11 v0_11, bX5 cI cJ cZ (r0 12) r0_12 u_1]) (fun _ => rfl) dX8_skies_40 rfl (fun r_7 u h => ?_)
      obtain ⟨u_6, hu⟩ : ∃ z, z = u := ⟨_, rfl⟩
      subst hu
      exact J_iret C hr hk (u_6, u_4, v0_11, u_1, r0, r0_11, r0_12) rfl dX8_skies_43 ⟨h, fun k h11 h12 => by simp [va_up, h11, h12]⟩
  · have h := h.2 c
    refine J_ldc C 15 wd478 dX8_skies_13 rfl ?_
    exact J_iret C hr hk (v0, v0_0, v0_11, v0_12, r0, r0_11, r0_12) rfl dX8_skies_15 ⟨h, fun k h11 h12 => by simp [va_up, h11, h12]⟩
