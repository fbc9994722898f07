def wp_X4_isBetter (v0 : Vl) (nl1 : Nat) (v1 : Vl)  (Q : Int32 → Prop) : Prop := (((v1.1 10) < (v0.1 3) → Q 1) ∧ (¬ (v1.1 10) < (v0.1 3) → ((¬ (v1.1 10) = (v0.1 3) → Q 0) ∧ ((v1.1 10) = (v0.1 3) → (((v0.1 4) ≤ (v1.1 11) → Q 0) ∧ (¬ (v0.1 4) ≤ (v1.1 11) → Q 1))))))
set_option maxHeartbeats 4000000 in
set_option maxRecDepth 100000 in
theorem c_X4_isBetter (l : Launch) (D : GG) (cI cJ cZ cS : ClassId) (a0 : Nat) (r0 : Nat → Nat) (v0 : Vl) (nl1 : Nat) (a1 : Nat) (r1 : Nat → Nat) (v1 : Vl)  (Q : Int32 → Prop) (h : wp_X4_isBetter v0 nl1 v1 Q) : Mi l D (tyL cI cJ cZ cS) yX4_isBetter cX4_isBetter 2 .boolean 0 0 [.ref a0, .ref a1] (List.flatten [bX4 cI cJ cZ a0 r0 v0, bX6 cI cJ cZ nl1 a1 r1 v1]) (fun (r : Int32) (u : Unit) => Q r) (fun (u : Unit) => List.flatten [bX4 cI cJ cZ a0 r0 v0, bX6 cI cJ cZ nl1 a1 r1 v1]) := by
  refine Mi_of RX4 [(0, .ref a0), (1, .ref a1)] (by decide +kernel) rfl rfl (Nat.le_of_ble_eq_true rfl) ?_
  intro p e s m args below meth c A C hr hk
  refine J_aload_n C 1 dX4_isBetter_0 rfl rfl ?_
  refine J_getN C 4 6 inlX6 3 10 rfl rfl (by decide) (mi 35 rfl) rfl rfl dX4_isBetter_1 rfl ?_
  refine J_aload_n C 5 dX4_isBetter_4 rfl rfl ?_
  refine J_get C 8 4 inlX4 0 3 rfl rfl (by decide) wd772 rfl rfl dX4_isBetter_5 rfl ?_
  refine J_icmp_lt C 11 33 dX4_isBetter_8 rfl rfl (fun c => ?_) (fun c => ?_)
  · have h := h.1 c
    refine J_iconst C 34 dX4_isBetter_33 rfl ki_1 ?_
    refine J_goto C 38 dX4_isBetter_34 rfl ?_
    exact J_zret C hr hk rfl () rfl dX4_isBetter_38 h
  · have h := h.2 c
    refine J_aload_n C 12 dX4_isBetter_11 rfl rfl ?_
    refine J_getN C 15 6 inlX6 3 10 rfl rfl (by decide) (mi 35 rfl) rfl rfl dX4_isBetter_12 rfl ?_
    refine J_aload_n C 16 dX4_isBetter_15 rfl rfl ?_
    refine J_get C 19 4 inlX4 0 3 rfl rfl (by decide) wd772 rfl rfl dX4_isBetter_16 rfl ?_
    refine J_icmp_ne C 22 37 dX4_isBetter_19 rfl rfl (fun c => ?_) (fun c => ?_)
    · have h := h.1 c
      refine J_iconst C 38 dX4_isBetter_37 rfl ki_0 ?_
      exact J_zret C hr hk rfl () rfl dX4_isBetter_38 h
    · have h := h.2 c
      refine J_aload_n C 23 dX4_isBetter_22 rfl rfl ?_
      refine J_getN C 26 6 inlX6 3 11 rfl rfl (by decide) (mi 36 rfl) rfl rfl dX4_isBetter_23 rfl ?_
      refine J_aload_n C 27 dX4_isBetter_26 rfl rfl ?_
      refine J_get C 30 4 inlX4 0 4 rfl rfl (by decide) wd773 rfl rfl dX4_isBetter_27 rfl ?_
      refine J_icmp_ge C 33 37 dX4_isBetter_30 rfl rfl (fun c => ?_) (fun c => ?_)
      · have h := h.1 c
        refine J_iconst C 38 dX4_isBetter_37 rfl ki_0 ?_
        exact J_zret C hr hk rfl () rfl dX4_isBetter_38 h
      · have h := h.2 c
        refine J_iconst C 34 dX4_isBetter_33 rfl ki_1 ?_
        refine J_goto C 38 dX4_isBetter_34 rfl ?_
        exact J_zret C hr hk rfl () rfl dX4_isBetter_38 h
def wp_X4_takeRow (v0 : Vl) (nl1 : Nat) (v1 : Vl)  (Q : Vl → Prop) : Prop := ∀ v0s_1 : Vl, v0s_1 = setI v0 3 (v1.1 10) → ∀ v0s_2 : Vl, v0s_2 = setI v0s_1 4 (v1.1 11) → wp_X8_copyRow 4 (v0s_2.2.2.1 1) 4 (v0s_2.2.2.1 2) (fun u_3 => ∀ v0s_4 : Vl, v0s_4 = setRA v0s_2 2 u_3 → Q v0s_4)
set_option maxHeartbeats 4000000 in
set_option maxRecDepth 100000 in
theorem c_X4_takeRow (l : Launch) (D : GG) (cI cJ cZ cS : ClassId) (a0 : Nat) (r0 : Nat → Nat) (v0 : Vl) (nl1 : Nat) (a1 : Nat) (r1 : Nat → Nat) (v1 : Vl)  (Q : Vl → Prop) (h : wp_X4_takeRow v0 nl1 v1 Q) : Mv l D (tyL cI cJ cZ cS) yX4_takeRow cX4_takeRow 2 2 61 [.ref a0, .ref a1] (List.flatten [bX4 cI cJ cZ a0 r0 v0, bX6 cI cJ cZ nl1 a1 r1 v1]) (fun (u : Vl) => Q u) (fun (u : Vl) => List.flatten [bX4 cI cJ cZ a0 r0 u, bX6 cI cJ cZ nl1 a1 r1 v1]) := by
  refine Mv_of RX4 [(0, .ref a0), (1, .ref a1)] (by decide +kernel) rfl rfl (Nat.le_of_ble_eq_true rfl) ?_
  intro p e s m args below meth c A C hr hk
  refine J_aload_n C 1 dX4_takeRow_0 rfl rfl ?_
  refine J_aload_n C 2 dX4_takeRow_1 rfl rfl ?_
  refine J_getN C 5 6 inlX6 3 10 rfl rfl (by decide) (mi 35 rfl) rfl rfl dX4_takeRow_2 rfl ?_
  obtain ⟨v0s_1, ev0s_1⟩ : ∃ z : Vl, z = setI v0 3 (v1.1 10) := ⟨_, rfl⟩
  have h := h v0s_1 ev0s_1
  refine J_put C 8 4 inlX4 tyX4 tyX4_ok nmX4 0 3 rfl rfl (by decide) wd772 rfl rfl rfl rfl rfl (List.flatten [bX4 cI cJ cZ a0 r0 v0s_1, bX6 cI cJ cZ nl1 a1 r1 v1]) (by subst ev0s_1; rfl) dX4_takeRow_5 rfl ?_
  refine J_aload_n C 9 dX4_takeRow_8 rfl rfl ?_
  refine J_aload_n C 10 dX4_takeRow_9 rfl rfl ?_
  refine J_getN C 13 6 inlX6 3 11 rfl rfl (by decide) (mi 36 rfl) rfl rfl dX4_takeRow_10 rfl ?_
  obtain ⟨v0s_2, ev0s_2⟩ : ∃ z : Vl, z = setI v0s_1 4 (v1.1 11) := ⟨_, rfl⟩
  have h := h v0s_2 ev0s_2
  refine J_put C 16 4 inlX4 tyX4 tyX4_ok nmX4 0 4 rfl rfl (by decide) wd773 rfl rfl rfl rfl rfl (List.flatten [bX4 cI cJ cZ a0 r0 v0s_2, bX6 cI cJ cZ nl1 a1 r1 v1]) (by subst ev0s_2; rfl) dX4_takeRow_13 rfl ?_
  refine J_aload_n C 17 dX4_takeRow_16 rfl rfl ?_
  refine J_get C 20 4 inlX4 0 1 rfl rfl (by decide) wd110 rfl rfl dX4_takeRow_17 rfl ?_
  refine J_aload_n C 21 dX4_takeRow_20 rfl rfl ?_
  refine J_get C 24 4 inlX4 0 2 rfl rfl (by decide) wd111 rfl rfl dX4_takeRow_21 rfl ?_
  refine J_call2vSN (As := [.ref (r0 1), .ref (r0 2)]) C 27 (c_X8_copyRow l D cI cJ cZ cS 4 (r0 1) (v0s_2.2.2.1 1) 4 (r0 2) (v0s_2.2.2.1 2) _ h) wd779 (mi 58 rfl) wd2 wd778 hdX8_copyRow ⟨Nat.le_of_ble_eq_true rfl, Nat.le_of_ble_eq_true rfl⟩ ⟨Nat.zero_le _, Nat.zero_le _⟩ rfl (Nat.le_of_ble_eq_true rfl) 1 2 rfl rfl (by decide) (fun u => .inl (cI, 4, .inl u)) (fun _ => rfl) (fun (u : (Nat → Int32)) => List.flatten [bX4 cI cJ cZ a0 r0 (setRA v0s_2 2 u), bX6 cI cJ cZ nl1 a1 r1 v1]) (fun _ => rfl) dX4_takeRow_24 rfl (fun u h => ?_)
  obtain ⟨u_3, hu⟩ : ∃ z, z = u := ⟨_, rfl⟩
  subst hu
  obtain ⟨v0s_4, ev0s_4⟩ : ∃ z : Vl, z = setRA v0s_2 2 u_3 := ⟨_, rfl⟩
  have h := h v0s_4 ev0s_4
  refine J_ws (ws' := List.flatten [bX4 cI cJ cZ a0 r0 v0s_4, bX6 cI cJ cZ nl1 a1 r1 v1]) (by subst ev0s_4; rfl) ?_
  exact J_vret C hr hk v0s_4 rfl dX4_takeRow_27 h
def wp_X4_tryDay_d4 (v0 : Vl) (v1 : Vl) (v2 : Vl) (x3 : Int32) (Q : Prop) : Prop := ((x3 ≤ 4 → Q) ∧ (¬ x3 ≤ 4 → Q))
set_option maxHeartbeats 4000000 in
set_option maxRecDepth 100000 in
theorem c_X4_tryDay_d4 (l : Launch) (D : GG) (cI cJ cZ cS : ClassId) (a0 : Nat) (r0 : Nat → Nat) (v0 : Vl) (a1 : Nat) (r1 : Nat → Nat) (v1 : Vl) (a2 : Nat) (r2 : Nat → Nat) (v2 : Vl) (q0_0 : Nat → Nat) (x3 : Int32) (Q : Prop) (h : wp_X4_tryDay_d4 v0 v1 v2 x3 Q) : Mv l D (tyL cI cJ cZ cS) yX4_tryDay cX4_tryDay 9 0 0 [.ref a0, .ref a1, .ref a2, .int x3, .int 4] (List.flatten [bX4 cI cJ cZ a0 r0 v0, bX3 cI cJ cZ a1 r1 v1, bX5 cI cJ cZ a2 r2 v2, bS cS 5 (r0 0) q0_0]) (fun (u : Unit) => Q) (fun (u : Unit) => List.flatten [bX4 cI cJ cZ a0 r0 v0, bX3 cI cJ cZ a1 r1 v1, bX5 cI cJ cZ a2 r2 v2, bS cS 5 (r0 0) q0_0]) := by
  refine Mv_of RX4 [(0, .ref a0), (1, .ref a1), (2, .ref a2), (3, .int x3), (4, .int 4)] (by decide +kernel) rfl rfl (Nat.le_of_ble_eq_true rfl) ?_
  intro p e s m args below meth c A C hr hk
  refine J_iload C 2 dX4_tryDay_0 rfl rfl ?_
  refine J_if_lt C 5 23 dX4_tryDay_2 rfl rfl (fun c => ?_) (fun c => ?_)
  · exact absurd c (by decide)
  · refine J_iload C 7 dX4_tryDay_5 rfl rfl ?_
    refine J_iload_n C 8 dX4_tryDay_7 rfl rfl ?_
    refine J_icmp_ge C 11 23 dX4_tryDay_8 rfl rfl (fun c => ?_) (fun c => ?_)
    · have h := h.1 c
      exact J_vret C hr hk () rfl dX4_tryDay_23 h
    · have h := h.2 c
      refine J_iload C 13 dX4_tryDay_11 rfl rfl ?_
      refine J_iconst C 14 dX4_tryDay_13 rfl ki_1 ?_
      refine J_iadd C 15 dX4_tryDay_14 rfl ?_
      refine J_nmi (y := 5) (by decide) ?_
      refine J_aload_n C 16 dX4_tryDay_15 rfl rfl ?_
      refine J_get C 19 4 inlX4 0 0 rfl rfl (by decide) wd109 rfl rfl dX4_tryDay_16 rfl ?_
      refine J_alen C 20 14 3 rfl rfl kn_5 dX4_tryDay_19 rfl ?_
      refine J_icmp_lt C 23 24 dX4_tryDay_20 rfl rfl (fun c => ?_) (fun c => ?_)
      · exact absurd c (by decide)
      · exact J_vret C hr hk () rfl dX4_tryDay_23 h
def wp_X4_tryDay_d3_c186 (v1 : Vl) (v2 : Vl) (v0_0_3 : Vl) (Q : Vl → Vl → Prop) (B69 : Vl → Vl → Int32 → Int32 → Int32 → Int32 → Prop) (v0 : Vl) (v0_0_4 : Vl) (y3 : Int32) (y6 : Int32) (y7 : Int32) (y8 : Int32) : Prop := ∀ x_9 : Int32, x_9 = y8 + 1 → B69 v0 v0_0_4 y3 y6 y7 x_9
set_option maxHeartbeats 4000000 in
set_option maxRecDepth 100000 in
theorem wk_X4_tryDay_d3_c186 {p : Program} {l : Launch} {e : Env} {s : State} {m : MethodId} {args : Array Value} {below : List Frame} {meth : Method} {c : Code} {D : GG} {A : Nat → Prop} {cI cJ cZ cS : ClassId} {a0 : Nat} {r0 : Nat → Nat} {a1 : Nat} {r1 : Nat → Nat} {a2 : Nat} {r2 : Nat → Nat} {q0_0 : Nat → Nat} {r0_0_3 : Nat → Nat} {r0_0_4 : Nat → Nat} {v1 : Vl} {v2 : Vl} {v0_0_3 : Vl} {B69 : Vl → Vl → Int32 → Int32 → Int32 → Int32 → Prop} {Q : Vl → Vl → Prop} (C : Cx p s m args c D (tyL cI cJ cZ cS) A RX4 cX4_tryDay 9) (hr : meth.sig.returnType = none) (hk : meth.locks = false) (hB69 : ∀ (v0 : Vl) (v0_0_4 : Vl) (y3 : Int32) (y6 : Int32) (y7 : Int32) (y8 : Int32), B69 v0 v0_0_4 y3 y6 y7 y8 → J p l e (rmk 4 95) s m args below meth c D A 9 0 0 (MQ below (va_Qv (fun (u : Vl × Vl) => Q u.1 u.2) (fun u t => va_P D.1 vwCl ((fun (u : Vl × Vl) => List.flatten [bX4 cI cJ cZ a0 r0 u.1, bX3 cI cJ cZ a1 r1 v1, bX5 cI cJ cZ a2 r2 v2, bS cS 5 (r0 0) q0_0, bX6 cI cJ cZ 0 (q0_0 3) r0_0_3 v0_0_3, bX6 cI cJ cZ 0 (q0_0 4) r0_0_4 u.2]) u) t.heap ∧ va_D A ((fun (u : Vl × Vl) => List.flatten [bX4 cI cJ cZ a0 r0 u.1, bX3 cI cJ cZ a1 r1 v1, bX5 cI cJ cZ a2 r2 v2, bS cS 5 (r0 0) q0_0, bX6 cI cJ cZ 0 (q0_0 3) r0_0_3 v0_0_3, bX6 cI cJ cZ 0 (q0_0 4) r0_0_4 u.2]) u)) A) args s 0 0 A) 69 [(0, .ref a0), (1, .ref a1), (2, .ref a2), (3, .int y3), (4, .int 3), (5, .ref (q0_0 4)), (6, .int y6), (7, .int y7), (8, .int y8)] [] (List.flatten [bX4 cI cJ cZ a0 r0 v0, bX3 cI cJ cZ a1 r1 v1, bX5 cI cJ cZ a2 r2 v2, bS cS 5 (r0 0) q0_0, bX6 cI cJ cZ 0 (q0_0 3) r0_0_3 v0_0_3, bX6 cI cJ cZ 0 (q0_0 4) r0_0_4 v0_0_4])) : ∀ (v0 : Vl) (v0_0_4 : Vl) (y3 : Int32) (y6 : Int32) (y7 : Int32) (y8 : Int32), wp_X4_tryDay_d3_c186 v1 v2 v0_0_3 Q B69 v0 v0_0_4 y3 y6 y7 y8 → J p l e (rmk 4 95) s m args below meth c D A 9 0 0 (MQ below (va_Qv (fun (u : Vl × Vl) => Q u.1 u.2) (fun u t => va_P D.1 vwCl ((fun (u : Vl × Vl) => List.flatten [bX4 cI cJ cZ a0 r0 u.1, bX3 cI cJ cZ a1 r1 v1, bX5 cI cJ cZ a2 r2 v2, bS cS 5 (r0 0) q0_0, bX6 cI cJ cZ 0 (q0_0 3) r0_0_3 v0_0_3, bX6 cI cJ cZ 0 (q0_0 4) r0_0_4 u.2]) u) t.heap ∧ va_D A ((fun (u : Vl × Vl) => List.flatten [bX4 cI cJ cZ a0 r0 u.1, bX3 cI cJ cZ a1 r1 v1, bX5 cI cJ cZ a2 r2 v2, bS cS 5 (r0 0) q0_0, bX6 cI cJ cZ 0 (q0_0 3) r0_0_3 v0_0_3, bX6 cI cJ cZ 0 (q0_0 4) r0_0_4 u.2]) u)) A) args s 0 0 A) 186 [(0, .ref a0), (1, .ref a1), (2, .ref a2), (3, .int y3), (4, .int 3), (5, .ref (q0_0 4)), (6, .int y6), (7, .int y7), (8, .int y8)] [] (List.flatten [bX4 cI cJ cZ a0 r0 v0, bX3 cI cJ cZ a1 r1 v1, bX5 cI cJ cZ a2 r2 v2, bS cS 5 (r0 0) q0_0, bX6 cI cJ cZ 0 (q0_0 3) r0_0_3 v0_0_3, bX6 cI cJ cZ 0 (q0_0 4) r0_0_4 v0_0_4]) := by
  intro v0 v0_0_4 y3 y6 y7 y8 h
  obtain ⟨x_9, ex_9⟩ : ∃ z : Int32, z = y8 + 1 := ⟨_, rfl⟩
  have h := h x_9 ex_9
  refine J_iinc C 189 [(8, .int x_9), (0, .ref a0), (1, .ref a1), (2, .ref a2), (3, .int y3), (4, .int 3), (5, .ref (q0_0 4)), (6, .int y6), (7, .int y7)] dX4_tryDay_186 rfl rfl ((kinc_1 _).trans ex_9.symm) (by decide) rfl ?_
  refine J_goto C 69 dX4_tryDay_189 rfl ?_
  refine J_loc [1, 2, 3, 4, 5, 6, 7, 8, 0] rfl ?_
  exact hB69 v0 v0_0_4 y3 y6 y7 x_9 h
def wp_X4_tryDay_d3_c110 (v1 : Vl) (v2 : Vl) (v0_0_3 : Vl) (Q : Vl → Vl → Prop) (B69 : Vl → Vl → Int32 → Int32 → Int32 → Int32 → Prop) (v0 : Vl) (v0_0_4 : Vl) (y3 : Int32) (y6 : Int32) (y7 : Int32) (y8 : Int32) : Prop := wp_X6_copyFrom 0 v0_0_4 0 v0_0_3 (fun u_2 => ∀ v004s_3 : Vl, v004s_3 = setI u_2 9 y8 → wp_X6_live 0 v004s_3 v1 y6 (fun r_5 u_4 => wp_X8_put 4 (v0.2.2.1 1) 3 y8 (fun u_6 => ∀ v0s_7 : Vl, v0s_7 = setRA v0 1 u_6 → wp_X4_isBetter v0s_7 0 u_4 (fun r_8 => ((¬ r_8 = 0 → ((y7 = 0 → wp_X4_tryDay_d4 v0s_7 v1 v2 y3 (wp_X4_tryDay_d3_c186 v1 v2 v0_0_3 Q B69 v0s_7 u_4 y3 y6 y7 y8)) ∧ (¬ y7 = 0 → wp_X4_takeRow v0s_7 0 u_4 (fun u_10 => wp_X4_tryDay_d3_c186 v1 v2 v0_0_3 Q B69 u_10 u_4 y3 y6 y7 y8)))) ∧ (r_8 = 0 → wp_X4_tryDay_d3_c186 v1 v2 v0_0_3 Q B69 v0s_7 u_4 y3 y6 y7 y8))))))
set_option maxHeartbeats 4000000 in
set_option maxRecDepth 100000 in
theorem wk_X4_tryDay_d3_c110 {p : Program} {l : Launch} {e : Env} {s : State} {m : MethodId} {args : Array Value} {below : List Frame} {meth : Method} {c : Code} {D : GG} {A : Nat → Prop} {cI cJ cZ cS : ClassId} {a0 : Nat} {r0 : Nat → Nat} {a1 : Nat} {r1 : Nat → Nat} {a2 : Nat} {r2 : Nat → Nat} {q0_0 : Nat → Nat} {r0_0_3 : Nat → Nat} {r0_0_4 : Nat → Nat} {v1 : Vl} {v2 : Vl} {v0_0_3 : Vl} {B69 : Vl → Vl → Int32 → Int32 → Int32 → Int32 → Prop} {Q : Vl → Vl → Prop} (C : Cx p s m args c D (tyL cI cJ cZ cS) A RX4 cX4_tryDay 9) (hr : meth.sig.returnType = none) (hk : meth.locks = false) (hB69 : ∀ (v0 : Vl) (v0_0_4 : Vl) (y3 : Int32) (y6 : Int32) (y7 : Int32) (y8 : Int32), B69 v0 v0_0_4 y3 y6 y7 y8 → J p l e (rmk 4 95) s m args below meth c D A 9 0 0 (MQ below (va_Qv (fun (u : Vl × Vl) => Q u.1 u.2) (fun u t => va_P D.1 vwCl ((fun (u : Vl × Vl) => List.flatten [bX4 cI cJ cZ a0 r0 u.1, bX3 cI cJ cZ a1 r1 v1, bX5 cI cJ cZ a2 r2 v2, bS cS 5 (r0 0) q0_0, bX6 cI cJ cZ 0 (q0_0 3) r0_0_3 v0_0_3, bX6 cI cJ cZ 0 (q0_0 4) r0_0_4 u.2]) u) t.heap ∧ va_D A ((fun (u : Vl × Vl) => List.flatten [bX4 cI cJ cZ a0 r0 u.1, bX3 cI cJ cZ a1 r1 v1, bX5 cI cJ cZ a2 r2 v2, bS cS 5 (r0 0) q0_0, bX6 cI cJ cZ 0 (q0_0 3) r0_0_3 v0_0_3, bX6 cI cJ cZ 0 (q0_0 4) r0_0_4 u.2]) u)) A) args s 0 0 A) 69 [(0, .ref a0), (1, .ref a1), (2, .ref a2), (3, .int y3), (4, .int 3), (5, .ref (q0_0 4)), (6, .int y6), (7, .int y7), (8, .int y8)] [] (List.flatten [bX4 cI cJ cZ a0 r0 v0, bX3 cI cJ cZ a1 r1 v1, bX5 cI cJ cZ a2 r2 v2, bS cS 5 (r0 0) q0_0, bX6 cI cJ cZ 0 (q0_0 3) r0_0_3 v0_0_3, bX6 cI cJ cZ 0 (q0_0 4) r0_0_4 v0_0_4])) : ∀ (v0 : Vl) (v0_0_4 : Vl) (y3 : Int32) (y6 : Int32) (y7 : Int32) (y8 : Int32), wp_X4_tryDay_d3_c110 v1 v2 v0_0_3 Q B69 v0 v0_0_4 y3 y6 y7 y8 → J p l e (rmk 4 95) s m args below meth c D A 9 0 0 (MQ below (va_Qv (fun (u : Vl × Vl) => Q u.1 u.2) (fun u t => va_P D.1 vwCl ((fun (u : Vl × Vl) => List.flatten [bX4 cI cJ cZ a0 r0 u.1, bX3 cI cJ cZ a1 r1 v1, bX5 cI cJ cZ a2 r2 v2, bS cS 5 (r0 0) q0_0, bX6 cI cJ cZ 0 (q0_0 3) r0_0_3 v0_0_3, bX6 cI cJ cZ 0 (q0_0 4) r0_0_4 u.2]) u) t.heap ∧ va_D A ((fun (u : Vl × Vl) => List.flatten [bX4 cI cJ cZ a0 r0 u.1, bX3 cI cJ cZ a1 r1 v1, bX5 cI cJ cZ a2 r2 v2, bS cS 5 (r0 0) q0_0, bX6 cI cJ cZ 0 (q0_0 3) r0_0_3 v0_0_3, bX6 cI cJ cZ 0 (q0_0 4) r0_0_4 u.2]) u)) A) args s 0 0 A) 110 [(0, .ref a0), (1, .ref a1), (2, .ref a2), (3, .int y3), (4, .int 3), (5, .ref (q0_0 4)), (6, .int y6), (7, .int y7), (8, .int y8)] [] (List.flatten [bX4 cI cJ cZ a0 r0 v0, bX3 cI cJ cZ a1 r1 v1, bX5 cI cJ cZ a2 r2 v2, bS cS 5 (r0 0) q0_0, bX6 cI cJ cZ 0 (q0_0 3) r0_0_3 v0_0_3, bX6 cI cJ cZ 0 (q0_0 4) r0_0_4 v0_0_4]) := by
  intro v0 v0_0_4 y3 y6 y7 y8 h
  refine J_aload C 112 dX4_tryDay_110 rfl rfl ?_
  refine J_aload_n C 113 dX4_tryDay_112 rfl rfl ?_
  refine J_get C 116 4 inlX4 0 0 rfl rfl (by decide) wd109 rfl rfl dX4_tryDay_113 rfl ?_
  refine J_iload C 118 dX4_tryDay_116 rfl rfl ?_
  refine J_aald C 119 14 3 rfl rfl (by decide) (by unfold vp_in; decide) dX4_tryDay_118 rfl ?_
  refine J_callBvV (Bs := [bX4 cI cJ cZ a0 r0 v0, bX3 cI cJ cZ a1 r1 v1, bX5 cI cJ cZ a2 r2 v2, bS cS 5 (r0 0) q0_0, bX6 cI cJ cZ 0 (q0_0 3) r0_0_3 v0_0_3, bX6 cI cJ cZ 0 (q0_0 4) r0_0_4 v0_0_4]) (As := [.ref (q0_0 3)]) C 122 (c_X6_copyFrom l D cI cJ cZ cS 0 (q0_0 4) r0_0_4 v0_0_4 0 (q0_0 3) r0_0_3 v0_0_3 _ h) wd777 wd774 wd29 wd775 wd776 6 0 rfl rfl rfl hdX6_copyFrom ⟨Nat.le_of_ble_eq_true rfl, Nat.le_of_ble_eq_true rfl⟩ ⟨Nat.zero_le _, Nat.zero_le _⟩ rfl (Nat.le_of_ble_eq_true rfl) [5, 4] [0, 1, 2, 3] 6 rfl (by decide +kernel) rfl rfl (fun (u : Vl) => [bX6 cI cJ cZ 0 (q0_0 4) r0_0_4 u, bX6 cI cJ cZ 0 (q0_0 3) r0_0_3 v0_0_3]) (fun _ => rfl) [2, 3, 4, 5, 1, 0] (by decide +kernel) (fun _ => rfl) rfl (fun (u : Vl) => [bX4 cI cJ cZ a0 r0 v0, bX3 cI cJ cZ a1 r1 v1, bX5 cI cJ cZ a2 r2 v2, bS cS 5 (r0 0) q0_0, bX6 cI cJ cZ 0 (q0_0 3) r0_0_3 v0_0_3, bX6 cI cJ cZ 0 (q0_0 4) r0_0_4 u]) (fun _ => rfl) dX4_tryDay_119 rfl (fun u h => ?_)
  obtain ⟨u_2, hu⟩ : ∃ z, z = u := ⟨_, rfl⟩
  subst hu
  refine J_aload C 124 dX4_tryDay_122 rfl rfl ?_
  refine J_iload C 126 dX4_tryDay_124 rfl rfl ?_
  obtain ⟨v004s_3, ev004s_3⟩ : ∃ z : Vl, z = setI u_2 9 y8 := ⟨_, rfl⟩
  have h := h v004s_3 ev004s_3
  refine J_putN C 129 6 inlX6 tyX6 tyX6_ok nmX6 21 9 rfl rfl (by decide) (mi 39 rfl) rfl rfl rfl rfl rfl (List.flatten [bX4 cI cJ cZ a0 r0 v0, bX3 cI cJ cZ a1 r1 v1, bX5 cI cJ cZ a2 r2 v2, bS cS 5 (r0 0) q0_0, bX6 cI cJ cZ 0 (q0_0 3) r0_0_3 v0_0_3, bX6 cI cJ cZ 0 (q0_0 4) r0_0_4 v004s_3]) (by subst ev004s_3; rfl) dX4_tryDay_126 rfl ?_
  refine J_aload C 131 dX4_tryDay_129 rfl rfl ?_
  refine J_aload_n C 132 dX4_tryDay_131 rfl rfl ?_
  refine J_iload C 134 dX4_tryDay_132 rfl rfl ?_
  refine J_callBiV (Bs := [bX4 cI cJ cZ a0 r0 v0, bX3 cI cJ cZ a1 r1 v1, bX5 cI cJ cZ a2 r2 v2, bS cS 5 (r0 0) q0_0, bX6 cI cJ cZ 0 (q0_0 3) r0_0_3 v0_0_3, bX6 cI cJ cZ 0 (q0_0 4) r0_0_4 v004s_3]) (As := [.ref a1, .int y6]) C 137 (c_X6_live l D cI cJ cZ cS 0 (q0_0 4) r0_0_4 v004s_3 a1 r1 v1 y6 _ h) wd613 wd794 wd29 wd611 wd612 6 0 rfl rfl rfl hdX6_live ⟨Nat.le_of_ble_eq_true rfl, Nat.le_of_ble_eq_true rfl⟩ ⟨Nat.zero_le _, Nat.zero_le _⟩ rfl (Nat.le_of_ble_eq_true rfl) [5, 1] [0, 2, 3, 4] 6 rfl (by decide +kernel) rfl rfl (fun (u : Vl) => [bX6 cI cJ cZ 0 (q0_0 4) r0_0_4 u, bX3 cI cJ cZ a1 r1 v1]) (fun _ => rfl) [2, 1, 3, 4, 5, 0] (by decide +kernel) (fun _ => rfl) rfl (fun (u : Vl) => [bX4 cI cJ cZ a0 r0 v0, bX3 cI cJ cZ a1 r1 v1, bX5 cI cJ cZ a2 r2 v2, bS cS 5 (r0 0) q0_0, bX6 cI cJ cZ 0 (q0_0 3) r0_0_3 v0_0_3, bX6 cI cJ cZ 0 (q0_0 4) r0_0_4 u]) (fun _ => rfl) dX4_tryDay_134 rfl (fun r_5 u h => ?_)
  obtain ⟨u_4, hu⟩ : ∃ z, z = u := ⟨_, rfl⟩
  subst hu
  refine J_pop C 138 dX4_tryDay_137 rfl rfl ?_
  refine J_aload_n C 139 dX4_tryDay_138 rfl rfl ?_
  refine J_get C 142 4 inlX4 0 1 rfl rfl (by decide) wd110 rfl rfl dX4_tryDay_139 rfl ?_
  refine J_iload C 144 dX4_tryDay_142 rfl rfl ?_
  refine J_iload C 146 dX4_tryDay_144 rfl rfl ?_
  refine J_call1vSN (As := [.ref (r0 1), .int 3, .int y8]) C 149 (c_X8_put l D cI cJ cZ cS 4 (r0 1) (v0.2.2.1 1) 3 y8 _ h) wd83 (mi 57 rfl) wd2 wd82 hdX8_put ⟨Nat.le_of_ble_eq_true rfl, Nat.le_of_ble_eq_true rfl⟩ ⟨Nat.zero_le _, Nat.zero_le _⟩ rfl (Nat.le_of_ble_eq_true rfl) 1 rfl (fun u => .inl (cI, 4, .inl u)) (fun _ => rfl) (fun (u : (Nat → Int32)) => List.flatten [bX4 cI cJ cZ a0 r0 (setRA v0 1 u), bX3 cI cJ cZ a1 r1 v1, bX5 cI cJ cZ a2 r2 v2, bS cS 5 (r0 0) q0_0, bX6 cI cJ cZ 0 (q0_0 3) r0_0_3 v0_0_3, bX6 cI cJ cZ 0 (q0_0 4) r0_0_4 u_4]) (fun _ => rfl) dX4_tryDay_146 rfl (fun u h => ?_)
  obtain ⟨u_6, hu⟩ : ∃ z, z = u := ⟨_, rfl⟩
  subst hu
  obtain ⟨v0s_7, ev0s_7⟩ : ∃ z : Vl, z = setRA v0 1 u_6 := ⟨_, rfl⟩
  have h := h v0s_7 ev0s_7
  refine J_ws (ws' := List.flatten [bX4 cI cJ cZ a0 r0 v0s_7, bX3 cI cJ cZ a1 r1 v1, bX5 cI cJ cZ a2 r2 v2, bS cS 5 (r0 0) q0_0, bX6 cI cJ cZ 0 (q0_0 3) r0_0_3 v0_0_3, bX6 cI cJ cZ 0 (q0_0 4) r0_0_4 u_4]) (by subst ev0s_7; rfl) ?_
  refine J_aload_n C 150 dX4_tryDay_149 rfl rfl ?_
  refine J_aload C 152 dX4_tryDay_150 rfl rfl ?_
  refine J_callBiV (Bs := [bX4 cI cJ cZ a0 r0 v0s_7, bX3 cI cJ cZ a1 r1 v1, bX5 cI cJ cZ a2 r2 v2, bS cS 5 (r0 0) q0_0, bX6 cI cJ cZ 0 (q0_0 3) r0_0_3 v0_0_3, bX6 cI cJ cZ 0 (q0_0 4) r0_0_4 u_4]) (As := [.ref (q0_0 4)]) C 155 (c_X4_isBetter l D cI cJ cZ cS a0 r0 v0s_7 0 (q0_0 4) r0_0_4 u_4 _ h) wd798 wd795 wd36 wd796 wd797 4 0 rfl rfl rfl hdX4_isBetter ⟨Nat.le_of_ble_eq_true rfl, Nat.le_of_ble_eq_true rfl⟩ ⟨Nat.zero_le _, Nat.zero_le _⟩ rfl (Nat.le_of_ble_eq_true rfl) [0, 5] [1, 2, 3, 4] 6 rfl (by decide +kernel) rfl rfl (fun (u : Unit) => [bX4 cI cJ cZ a0 r0 v0s_7, bX6 cI cJ cZ 0 (q0_0 4) r0_0_4 u_4]) (fun _ => rfl) [0, 2, 3, 4, 5, 1] (by decide +kernel) (fun _ => rfl) rfl (fun (u : Unit) => [bX4 cI cJ cZ a0 r0 v0s_7, bX3 cI cJ cZ a1 r1 v1, bX5 cI cJ cZ a2 r2 v2, bS cS 5 (r0 0) q0_0, bX6 cI cJ cZ 0 (q0_0 3) r0_0_3 v0_0_3, bX6 cI cJ cZ 0 (q0_0 4) r0_0_4 u_4]) (fun _ => rfl) dX4_tryDay_152 rfl (fun r_8 u h => ?_)
  refine J_if_ne C 158 161 dX4_tryDay_155 rfl rfl (fun c => ?_) (fun c => ?_)
  · have h := h.1 c
    refine J_iload C 163 dX4_tryDay_161 rfl rfl ?_
    refine J_if_eq C 166 175 dX4_tryDay_163 rfl rfl (fun c => ?_) (fun c => ?_)
    · have h := h.1 c
      refine J_aload_n C 176 dX4_tryDay_175 rfl rfl ?_
      refine J_aload_n C 177 dX4_tryDay_176 rfl rfl ?_
      refine J_aload_n C 178 dX4_tryDay_177 rfl rfl ?_
      refine J_iload_n C 179 dX4_tryDay_178 rfl rfl ?_
      refine J_iload C 181 dX4_tryDay_179 rfl rfl ?_
      refine J_iconst C 182 dX4_tryDay_181 rfl ki_1 ?_
      refine J_iadd C 183 dX4_tryDay_182 rfl ?_
      refine J_nmi (y := 4) (by decide) ?_
      refine J_callBvV (Bs := [bX4 cI cJ cZ a0 r0 v0s_7, bX3 cI cJ cZ a1 r1 v1, bX5 cI cJ cZ a2 r2 v2, bS cS 5 (r0 0) q0_0, bX6 cI cJ cZ 0 (q0_0 3) r0_0_3 v0_0_3, bX6 cI cJ cZ 0 (q0_0 4) r0_0_4 u_4]) (As := [.ref a1, .ref a2, .int y3, .int 4]) C 186 (c_X4_tryDay_d4 l D cI cJ cZ cS a0 r0 v0s_7 a1 r1 v1 a2 r2 v2 q0_0 y3 _ h) wd788 wd785 wd36 wd786 wd787 4 0 rfl rfl rfl hdX4_tryDay ⟨Nat.le_of_ble_eq_true rfl, Nat.le_of_ble_eq_true rfl⟩ ⟨Nat.zero_le _, Nat.zero_le _⟩ rfl (Nat.le_of_ble_eq_true rfl) [0, 1, 2, 3] [4, 5] 6 rfl (by decide +kernel) rfl rfl (fun (u : Unit) => [bX4 cI cJ cZ a0 r0 v0s_7, bX3 cI cJ cZ a1 r1 v1, bX5 cI cJ cZ a2 r2 v2, bS cS 5 (r0 0) q0_0]) (fun _ => rfl) [0, 1, 2, 3, 4, 5] (by decide +kernel) (fun _ => rfl) rfl (fun (u : Unit) => [bX4 cI cJ cZ a0 r0 v0s_7, bX3 cI cJ cZ a1 r1 v1, bX5 cI cJ cZ a2 r2 v2, bS cS 5 (r0 0) q0_0, bX6 cI cJ cZ 0 (q0_0 3) r0_0_3 v0_0_3, bX6 cI cJ cZ 0 (q0_0 4) r0_0_4 u_4]) (fun _ => rfl) dX4_tryDay_183 rfl (fun u h => ?_)
      refine J_loc [0, 1, 2, 3, 4, 5, 6, 7, 8] rfl ?_
      exact wk_X4_tryDay_d3_c186 C hr hk hB69 v0s_7 u_4 y3 y6 y7 y8 h
    · have h := h.2 c
      refine J_aload_n C 167 dX4_tryDay_166 rfl rfl ?_
      refine J_aload C 169 dX4_tryDay_167 rfl rfl ?_
      refine J_callBvV (Bs := [bX4 cI cJ cZ a0 r0 v0s_7, bX3 cI cJ cZ a1 r1 v1, bX5 cI cJ cZ a2 r2 v2, bS cS 5 (r0 0) q0_0, bX6 cI cJ cZ 0 (q0_0 3) r0_0_3 v0_0_3, bX6 cI cJ cZ 0 (q0_0 4) r0_0_4 u_4]) (As := [.ref (q0_0 4)]) C 172 (c_X4_takeRow l D cI cJ cZ cS a0 r0 v0s_7 0 (q0_0 4) r0_0_4 u_4 _ h) wd802 wd799 wd36 wd800 wd801 4 0 rfl rfl rfl hdX4_takeRow ⟨Nat.le_of_ble_eq_true rfl, Nat.le_of_ble_eq_true rfl⟩ ⟨Nat.zero_le _, Nat.zero_le _⟩ rfl (Nat.le_of_ble_eq_true rfl) [0, 5] [1, 2, 3, 4] 6 rfl (by decide +kernel) rfl rfl (fun (u : Vl) => [bX4 cI cJ cZ a0 r0 u, bX6 cI cJ cZ 0 (q0_0 4) r0_0_4 u_4]) (fun _ => rfl) [0, 2, 3, 4, 5, 1] (by decide +kernel) (fun _ => rfl) rfl (fun (u : Vl) => [bX4 cI cJ cZ a0 r0 u, bX3 cI cJ cZ a1 r1 v1, bX5 cI cJ cZ a2 r2 v2, bS cS 5 (r0 0) q0_0, bX6 cI cJ cZ 0 (q0_0 3) r0_0_3 v0_0_3, bX6 cI cJ cZ 0 (q0_0 4) r0_0_4 u_4]) (fun _ => rfl) dX4_tryDay_169 rfl (fun u h => ?_)
      obtain ⟨u_10, hu⟩ : ∃ z, z = u := ⟨_, rfl⟩
      subst hu
      refine J_goto C 186 dX4_tryDay_172 rfl ?_
      refine J_loc [0, 1, 2, 3, 4, 5, 6, 7, 8] rfl ?_
      exact wk_X4_tryDay_d3_c186 C hr hk hB69 u_10 u_4 y3 y6 y7 y8 h
  · have h := h.2 c
    refine J_goto C 186 dX4_tryDay_158 rfl ?_
    refine J_loc [0, 1, 2, 3, 4, 5, 6, 7, 8] rfl ?_
    exact wk_X4_tryDay_d3_c186 C hr hk hB69 v0s_7 u_4 y3 y6 y7 y8 h
def wp_X4_tryDay_d3_c69 (v1 : Vl) (v2 : Vl) (v0_0_3 : Vl) (Q : Vl → Vl → Prop) : Nat → Vl → Vl → Int32 → Int32 → Int32 → Int32 → Prop
  | 0 => fun _ _ _ _ _ _ => False
  | n + 1 => fun v0 v0_0_4 y3 y6 y7 y8 => (((v1.1 7) ≤ y8 → Q v0 v0_0_4) ∧ (¬ (v1.1 7) ≤ y8 → ((y7 = 0 → wp_X4_tryDay_d3_c110 v1 v2 v0_0_3 Q (wp_X4_tryDay_d3_c69 v1 v2 v0_0_3 Q n) v0 v0_0_4 y3 y6 y7 y8) ∧ (¬ y7 = 0 → ((y8 = (-1) → wp_X4_tryDay_d3_c110 v1 v2 v0_0_3 Q (wp_X4_tryDay_d3_c69 v1 v2 v0_0_3 Q n) v0 v0_0_4 y3 y6 y7 y8) ∧ (¬ y8 = (-1) → wp_X6_isFillingBy 0 v0_0_3 v1 y6 y8 (fun r_11 => ((¬ r_11 = 0 → wp_X4_tryDay_d3_c110 v1 v2 v0_0_3 Q (wp_X4_tryDay_d3_c69 v1 v2 v0_0_3 Q n) v0 v0_0_4 y3 y6 y7 y8) ∧ (r_11 = 0 → wp_X4_tryDay_d3_c186 v1 v2 v0_0_3 Q (wp_X4_tryDay_d3_c69 v1 v2 v0_0_3 Q n) v0 v0_0_4 y3 y6 y7 y8)))))))))
set_option maxHeartbeats 4000000 in
set_option maxRecDepth 100000 in
theorem wk_X4_tryDay_d3_c69 {p : Program} {l : Launch} {e : Env} {s : State} {m : MethodId} {args : Array Value} {below : List Frame} {meth : Method} {c : Code} {D : GG} {A : Nat → Prop} {cI cJ cZ cS : ClassId} {a0 : Nat} {r0 : Nat → Nat} {a1 : Nat} {r1 : Nat → Nat} {a2 : Nat} {r2 : Nat → Nat} {q0_0 : Nat → Nat} {r0_0_3 : Nat → Nat} {r0_0_4 : Nat → Nat} {v1 : Vl} {v2 : Vl} {v0_0_3 : Vl} {Q : Vl → Vl → Prop} (C : Cx p s m args c D (tyL cI cJ cZ cS) A RX4 cX4_tryDay 9) (hr : meth.sig.returnType = none) (hk : meth.locks = false) : ∀ (n : Nat) (v0 : Vl) (v0_0_4 : Vl) (y3 : Int32) (y6 : Int32) (y7 : Int32) (y8 : Int32), wp_X4_tryDay_d3_c69 v1 v2 v0_0_3 Q n v0 v0_0_4 y3 y6 y7 y8 → J p l e (rmk 4 95) s m args below meth c D A 9 0 0 (MQ below (va_Qv (fun (u : Vl × Vl) => Q u.1 u.2) (fun u t => va_P D.1 vwCl ((fun (u : Vl × Vl) => List.flatten [bX4 cI cJ cZ a0 r0 u.1, bX3 cI cJ cZ a1 r1 v1, bX5 cI cJ cZ a2 r2 v2, bS cS 5 (r0 0) q0_0, bX6 cI cJ cZ 0 (q0_0 3) r0_0_3 v0_0_3, bX6 cI cJ cZ 0 (q0_0 4) r0_0_4 u.2]) u) t.heap ∧ va_D A ((fun (u : Vl × Vl) => List.flatten [bX4 cI cJ cZ a0 r0 u.1, bX3 cI cJ cZ a1 r1 v1, bX5 cI cJ cZ a2 r2 v2, bS cS 5 (r0 0) q0_0, bX6 cI cJ cZ 0 (q0_0 3) r0_0_3 v0_0_3, bX6 cI cJ cZ 0 (q0_0 4) r0_0_4 u.2]) u)) A) args s 0 0 A) 69 [(0, .ref a0), (1, .ref a1), (2, .ref a2), (3, .int y3), (4, .int 3), (5, .ref (q0_0 4)), (6, .int y6), (7, .int y7), (8, .int y8)] [] (List.flatten [bX4 cI cJ cZ a0 r0 v0, bX3 cI cJ cZ a1 r1 v1, bX5 cI cJ cZ a2 r2 v2, bS cS 5 (r0 0) q0_0, bX6 cI cJ cZ 0 (q0_0 3) r0_0_3 v0_0_3, bX6 cI cJ cZ 0 (q0_0 4) r0_0_4 v0_0_4]) := by
  intro n
  induction n with
  | zero =>
    intro v0 v0_0_4 y3 y6 y7 y8 h
    exact False.elim h
  | succ n ih =>
    intro v0 v0_0_4 y3 y6 y7 y8 h
    refine J_iload C 71 dX4_tryDay_69 rfl rfl ?_
    refine J_aload_n C 72 dX4_tryDay_71 rfl rfl ?_
    refine J_getN C 75 3 inlX3 3 7 rfl rfl (by decide) (mi 38 rfl) rfl rfl dX4_tryDay_72 rfl ?_
    refine J_icmp_ge C 78 192 dX4_tryDay_75 rfl rfl (fun c => ?_) (fun c => ?_)
    · have h := h.1 c
      exact J_vret C hr hk (v0, v0_0_4) rfl dX4_tryDay_192 h
    · have h := h.2 c
      refine J_iload C 80 dX4_tryDay_78 rfl rfl ?_
      refine J_if_eq C 83 110 dX4_tryDay_80 rfl rfl (fun c => ?_) (fun c => ?_)
      · have h := h.1 c
        refine J_loc [0, 1, 2, 3, 4, 5, 6, 7, 8] rfl ?_
        exact wk_X4_tryDay_d3_c110 C hr hk ih v0 v0_0_4 y3 y6 y7 y8 h
      · have h := h.2 c
        refine J_iload C 85 dX4_tryDay_83 rfl rfl ?_
        refine J_iconst C 86 dX4_tryDay_85 rfl ki_m1 ?_
        refine J_icmp_eq C 89 110 dX4_tryDay_86 rfl rfl (fun c => ?_) (fun c => ?_)
        · have h := h.1 c
          refine J_loc [0, 1, 2, 3, 4, 5, 6, 7, 8] rfl ?_
          exact wk_X4_tryDay_d3_c110 C hr hk ih v0 v0_0_4 y3 y6 y7 y8 h
        · have h := h.2 c
          refine J_aload_n C 90 dX4_tryDay_89 rfl rfl ?_
          refine J_get C 93 4 inlX4 0 0 rfl rfl (by decide) wd109 rfl rfl dX4_tryDay_90 rfl ?_
          refine J_iload C 95 dX4_tryDay_93 rfl rfl ?_
          refine J_aald C 96 14 3 rfl rfl (by decide) (by unfold vp_in; decide) dX4_tryDay_95 rfl ?_
          refine J_aload_n C 97 dX4_tryDay_96 rfl rfl ?_
          refine J_iload C 99 dX4_tryDay_97 rfl rfl ?_
          refine J_iload C 101 dX4_tryDay_99 rfl rfl ?_
          refine J_callBiV (Bs := [bX4 cI cJ cZ a0 r0 v0, bX3 cI cJ cZ a1 r1 v1, bX5 cI cJ cZ a2 r2 v2, bS cS 5 (r0 0) q0_0, bX6 cI cJ cZ 0 (q0_0 3) r0_0_3 v0_0_3, bX6 cI cJ cZ 0 (q0_0 4) r0_0_4 v0_0_4]) (As := [.ref a1, .int y6, .int y8]) C 104 (c_X6_isFillingBy l D cI cJ cZ cS 0 (q0_0 3) r0_0_3 v0_0_3 a1 r1 v1 y6 y8 _ h) wd793 wd790 wd29 wd791 wd792 6 0 rfl rfl rfl hdX6_isFillingBy ⟨Nat.le_of_ble_eq_true rfl, Nat.le_of_ble_eq_true rfl⟩ ⟨Nat.zero_le _, Nat.zero_le _⟩ rfl (Nat.le_of_ble_eq_true rfl) [4, 1] [0, 2, 3, 5] 6 rfl (by decide +kernel) rfl rfl (fun (u : Unit) => [bX6 cI cJ cZ 0 (q0_0 3) r0_0_3 v0_0_3, bX3 cI cJ cZ a1 r1 v1]) (fun _ => rfl) [2, 1, 3, 4, 0, 5] (by decide +kernel) (fun _ => rfl) rfl (fun (u : Unit) => [bX4 cI cJ cZ a0 r0 v0, bX3 cI cJ cZ a1 r1 v1, bX5 cI cJ cZ a2 r2 v2, bS cS 5 (r0 0) q0_0, bX6 cI cJ cZ 0 (q0_0 3) r0_0_3 v0_0_3, bX6 cI cJ cZ 0 (q0_0 4) r0_0_4 v0_0_4]) (fun _ => rfl) dX4_tryDay_101 rfl (fun r_11 u h => ?_)
          refine J_if_ne C 107 110 dX4_tryDay_104 rfl rfl (fun c => ?_) (fun c => ?_)
          · have h := h.1 c
            refine J_loc [0, 1, 2, 3, 4, 5, 6, 7, 8] rfl ?_
            exact wk_X4_tryDay_d3_c110 C hr hk ih v0 v0_0_4 y3 y6 y7 y8 h
          · have h := h.2 c
            refine J_goto C 186 dX4_tryDay_107 rfl ?_
            refine J_loc [0, 1, 2, 3, 4, 5, 6, 7, 8] rfl ?_
            exact wk_X4_tryDay_d3_c186 C hr hk ih v0 v0_0_4 y3 y6 y7 y8 h
def wp_X4_tryDay_d3_c64 (v1 : Vl) (v2 : Vl) (v0_0_3 : Vl) (Q : Vl → Vl → Prop) (v0 : Vl) (v0_0_4 : Vl) (y3 : Int32) (y6 : Int32) (s0 : Int32) : Prop := (∃ k : Nat, wp_X4_tryDay_d3_c69 v1 v2 v0_0_3 Q k v0 v0_0_4 y3 y6 s0 (-1))
set_option maxHeartbeats 4000000 in
set_option maxRecDepth 100000 in
theorem wk_X4_tryDay_d3_c64 {p : Program} {l : Launch} {e : Env} {s : State} {m : MethodId} {args : Array Value} {below : List Frame} {meth : Method} {c : Code} {D : GG} {A : Nat → Prop} {cI cJ cZ cS : ClassId} {a0 : Nat} {r0 : Nat → Nat} {a1 : Nat} {r1 : Nat → Nat} {a2 : Nat} {r2 : Nat → Nat} {q0_0 : Nat → Nat} {r0_0_3 : Nat → Nat} {r0_0_4 : Nat → Nat} {v1 : Vl} {v2 : Vl} {v0_0_3 : Vl} {Q : Vl → Vl → Prop} (C : Cx p s m args c D (tyL cI cJ cZ cS) A RX4 cX4_tryDay 9) (hr : meth.sig.returnType = none) (hk : meth.locks = false) : ∀ (v0 : Vl) (v0_0_4 : Vl) (y3 : Int32) (y6 : Int32) (s0 : Int32), wp_X4_tryDay_d3_c64 v1 v2 v0_0_3 Q v0 v0_0_4 y3 y6 s0 → J p l e (rmk 4 95) s m args below meth c D A 9 0 0 (MQ below (va_Qv (fun (u : Vl × Vl) => Q u.1 u.2) (fun u t => va_P D.1 vwCl ((fun (u : Vl × Vl) => List.flatten [bX4 cI cJ cZ a0 r0 u.1, bX3 cI cJ cZ a1 r1 v1, bX5 cI cJ cZ a2 r2 v2, bS cS 5 (r0 0) q0_0, bX6 cI cJ cZ 0 (q0_0 3) r0_0_3 v0_0_3, bX6 cI cJ cZ 0 (q0_0 4) r0_0_4 u.2]) u) t.heap ∧ va_D A ((fun (u : Vl × Vl) => List.flatten [bX4 cI cJ cZ a0 r0 u.1, bX3 cI cJ cZ a1 r1 v1, bX5 cI cJ cZ a2 r2 v2, bS cS 5 (r0 0) q0_0, bX6 cI cJ cZ 0 (q0_0 3) r0_0_3 v0_0_3, bX6 cI cJ cZ 0 (q0_0 4) r0_0_4 u.2]) u)) A) args s 0 0 A) 64 [(0, .ref a0), (1, .ref a1), (2, .ref a2), (3, .int y3), (4, .int 3), (5, .ref (q0_0 4)), (6, .int y6)] [.int s0] (List.flatten [bX4 cI cJ cZ a0 r0 v0, bX3 cI cJ cZ a1 r1 v1, bX5 cI cJ cZ a2 r2 v2, bS cS 5 (r0 0) q0_0, bX6 cI cJ cZ 0 (q0_0 3) r0_0_3 v0_0_3, bX6 cI cJ cZ 0 (q0_0 4) r0_0_4 v0_0_4]) := by
  intro v0 v0_0_4 y3 y6 s0 h
  refine J_istore C 66 [(7, .int s0), (0, .ref a0), (1, .ref a1), (2, .ref a2), (3, .int y3), (4, .int 3), (5, .ref (q0_0 4)), (6, .int y6)] dX4_tryDay_64 rfl (by decide) rfl ?_
  refine J_iconst C 67 dX4_tryDay_66 rfl ki_m1 ?_
  refine J_istore C 69 [(8, .int (-1)), (7, .int s0), (0, .ref a0), (1, .ref a1), (2, .ref a2), (3, .int y3), (4, .int 3), (5, .ref (q0_0 4)), (6, .int y6)] dX4_tryDay_67 rfl (by decide) rfl ?_
  refine J_loc [2, 3, 4, 5, 6, 7, 8, 1, 0] rfl ?_
  obtain ⟨n1, h⟩ := h
  exact wk_X4_tryDay_d3_c69 C hr hk n1 v0 v0_0_4 y3 y6 s0 (-1) h
def wp_X4_tryDay_d3 (v0 : Vl) (v1 : Vl) (v2 : Vl) (v0_0_3 : Vl) (v0_0_4 : Vl) (x3 : Int32) (Q : Vl → Vl → Prop) : Prop := ((x3 ≤ 3 → Q v0 v0_0_4) ∧ (¬ x3 ≤ 3 → wp_X5_skyOf v2 (v0_0_3.1 12) (fun r_1 => ((¬ 4 = x3 → wp_X4_tryDay_d3_c64 v1 v2 v0_0_3 Q v0 v0_0_4 x3 r_1 0) ∧ (4 = x3 → wp_X4_tryDay_d3_c64 v1 v2 v0_0_3 Q v0 v0_0_4 x3 r_1 1)))))
set_option maxHeartbeats 4000000 in
set_option maxRecDepth 100000 in
theorem c_X4_tryDay_d3 (l : Launch) (D : GG) (cI cJ cZ cS : ClassId) (a0 : Nat) (r0 : Nat → Nat) (v0 : Vl) (a1 : Nat) (r1 : Nat → Nat) (v1 : Vl) (a2 : Nat) (r2 : Nat → Nat) (v2 : Vl) (q0_0 : Nat → Nat) (r0_0_3 : Nat → Nat) (v0_0_3 : Vl) (r0_0_4 : Nat → Nat) (v0_0_4 : Vl) (x3 : Int32) (Q : Vl → Vl → Prop) (h : wp_X4_tryDay_d3 v0 v1 v2 v0_0_3 v0_0_4 x3 Q) : Mv l D (tyL cI cJ cZ cS) yX4_tryDay cX4_tryDay 9 4 95 [.ref a0, .ref a1, .ref a2, .int x3, .int 3] (List.flatten [bX4 cI cJ cZ a0 r0 v0, bX3 cI cJ cZ a1 r1 v1, bX5 cI cJ cZ a2 r2 v2, bS cS 5 (r0 0) q0_0, bX6 cI cJ cZ 0 (q0_0 3) r0_0_3 v0_0_3, bX6 cI cJ cZ 0 (q0_0 4) r0_0_4 v0_0_4]) (fun (u : Vl × Vl) => Q u.1 u.2) (fun (u : Vl × Vl) => List.flatten [bX4 cI cJ cZ a0 r0 u.1, bX3 cI cJ cZ a1 r1 v1, bX5 cI cJ cZ a2 r2 v2, bS cS 5 (r0 0) q0_0, bX6 cI cJ cZ 0 (q0_0 3) r0_0_3 v0_0_3, bX6 cI cJ cZ 0 (q0_0 4) r0_0_4 u.2]) := by
  refine Mv_of RX4 [(0, .ref a0), (1, .ref a1), (2, .ref a2), (3, .int x3), (4, .int 3)] (by decide +kernel) rfl rfl (Nat.le_of_ble_eq_true rfl) ?_
  intro p e s m args below meth c A C hr hk
  refine J_iload C 2 dX4_tryDay_0 rfl rfl ?_
  refine J_if_lt C 5 23 dX4_tryDay_2 rfl rfl (fun c => ?_) (fun c => ?_)
  · exact absurd c (by decide)
  · refine J_iload C 7 dX4_tryDay_5 rfl rfl ?_
    refine J_iload_n C 8 dX4_tryDay_7 rfl rfl ?_
    refine J_icmp_ge C 11 23 dX4_tryDay_8 rfl rfl (fun c => ?_) (fun c => ?_)
    · have h := h.1 c
      exact J_vret C hr hk (v0, v0_0_4) rfl dX4_tryDay_23 h
    · have h := h.2 c
      refine J_iload C 13 dX4_tryDay_11 rfl rfl ?_
      refine J_iconst C 14 dX4_tryDay_13 rfl ki_1 ?_
      refine J_iadd C 15 dX4_tryDay_14 rfl ?_
      refine J_nmi (y := 4) (by decide) ?_
      refine J_aload_n C 16 dX4_tryDay_15 rfl rfl ?_
      refine J_get C 19 4 inlX4 0 0 rfl rfl (by decide) wd109 rfl rfl dX4_tryDay_16 rfl ?_
      refine J_alen C 20 14 3 rfl rfl kn_5 dX4_tryDay_19 rfl ?_
      refine J_icmp_lt C 23 24 dX4_tryDay_20 rfl rfl (fun c => ?_) (fun c => ?_)
      · refine J_aload_n C 25 dX4_tryDay_24 rfl rfl ?_
        refine J_get C 28 4 inlX4 0 0 rfl rfl (by decide) wd109 rfl rfl dX4_tryDay_25 rfl ?_
        refine J_iload C 30 dX4_tryDay_28 rfl rfl ?_
        refine J_iconst C 31 dX4_tryDay_30 rfl ki_1 ?_
        refine J_iadd C 32 dX4_tryDay_31 rfl ?_
        refine J_nmi (y := 4) (by decide) ?_
        refine J_aald C 33 14 4 rfl rfl (by decide) (by unfold vp_in; decide) dX4_tryDay_32 rfl ?_
        refine J_astore C 35 [(5, .ref (q0_0 4)), (0, .ref a0), (1, .ref a1), (2, .ref a2), (3, .int x3), (4, .int 3)] dX4_tryDay_33 rfl (by decide) rfl ?_
        refine J_aload_n C 36 dX4_tryDay_35 rfl rfl ?_
        refine J_aload_n C 37 dX4_tryDay_36 rfl rfl ?_
        refine J_get C 40 4 inlX4 0 0 rfl rfl (by decide) wd109 rfl rfl dX4_tryDay_37 rfl ?_
        refine J_iload C 42 dX4_tryDay_40 rfl rfl ?_
        refine J_aald C 43 14 3 rfl rfl (by decide) (by unfold vp_in; decide) dX4_tryDay_42 rfl ?_
        refine J_getN C 46 6 inlX6 15 12 rfl rfl (by decide) (mi 37 rfl) rfl rfl dX4_tryDay_43 rfl ?_
        refine J_callBiV (Bs := [bX4 cI cJ cZ a0 r0 v0, bX3 cI cJ cZ a1 r1 v1, bX5 cI cJ cZ a2 r2 v2, bS cS 5 (r0 0) q0_0, bX6 cI cJ cZ 0 (q0_0 3) r0_0_3 v0_0_3, bX6 cI cJ cZ 0 (q0_0 4) r0_0_4 v0_0_4]) (As := [.int (v0_0_3.1 12)]) C 49 (c_X5_skyOf l D cI cJ cZ cS a2 r2 v2 (v0_0_3.1 12) _ h) wd560 wd789 wd24 wd558 wd559 5 0 rfl rfl rfl hdX5_skyOf ⟨Nat.le_of_ble_eq_true rfl, Nat.le_of_ble_eq_true rfl⟩ ⟨Nat.zero_le _, Nat.zero_le _⟩ rfl (Nat.le_of_ble_eq_true rfl) [2] [0, 1, 3, 4, 5] 6 rfl (by decide +kernel) rfl rfl (fun (u : Unit) => [bX5 cI cJ cZ a2 r2 v2]) (fun _ => rfl) [1, 2, 0, 3, 4, 5] (by decide +kernel) (fun _ => rfl) rfl (fun (u : Unit) => [bX4 cI cJ cZ a0 r0 v0, bX3 cI cJ cZ a1 r1 v1, bX5 cI cJ cZ a2 r2 v2, bS cS 5 (r0 0) q0_0, bX6 cI cJ cZ 0 (q0_0 3) r0_0_3 v0_0_3, bX6 cI cJ cZ 0 (q0_0 4) r0_0_4 v0_0_4]) (fun _ => rfl) dX4_tryDay_46 rfl (fun r_1 u h => ?_)
        refine J_istore C 51 [(6, .int r_1), (5, .ref (q0_0 4)), (0, .ref a0), (1, .ref a1), (2, .ref a2), (3, .int x3), (4, .int 3)] dX4_tryDay_49 rfl (by decide) rfl ?_
        refine J_iload C 53 dX4_tryDay_51 rfl rfl ?_
        refine J_iconst C 54 dX4_tryDay_53 rfl ki_1 ?_
        refine J_iadd C 55 dX4_tryDay_54 rfl ?_
        refine J_nmi (y := 4) (by decide) ?_
        refine J_iload_n C 56 dX4_tryDay_55 rfl rfl ?_
        refine J_icmp_ne C 59 63 dX4_tryDay_56 rfl rfl (fun c => ?_) (fun c => ?_)
        · have h := h.1 c
          refine J_iconst C 64 dX4_tryDay_63 rfl ki_0 ?_
          refine J_loc [2, 3, 4, 5, 6, 1, 0] rfl ?_
          exact wk_X4_tryDay_d3_c64 C hr hk v0 v0_0_4 x3 r_1 0 h
        · have h := h.2 c
          refine J_iconst C 60 dX4_tryDay_59 rfl ki_1 ?_
          refine J_goto C 64 dX4_tryDay_60 rfl ?_
          refine J_loc [2, 3, 4, 5, 6, 1, 0] rfl ?_
          exact wk_X4_tryDay_d3_c64 C hr hk v0 v0_0_4 x3 r_1 1 h
      · exact absurd c (by decide)
def wp_X4_tryDay_d2_c186 (v1 : Vl) (v2 : Vl) (v0_0_2 : Vl) (Q : Vl → Vl → Vl → Prop) (B69 : Vl → Vl → Vl → Int32 → Int32 → Int32 → Int32 → Prop) (v0 : Vl) (v0_0_3 : Vl) (v0_0_4 : Vl) (y3 : Int32) (y6 : Int32) (y7 : Int32) (y8 : Int32) : Prop := ∀ x_11 : Int32, x_11 = y8 + 1 → B69 v0 v0_0_3 v0_0_4 y3 y6 y7 x_11
set_option maxHeartbeats 4000000 in
set_option maxRecDepth 100000 in
theorem wk_X4_tryDay_d2_c186 {p : Program} {l : Launch} {e : Env} {s : State} {m : MethodId} {args : Array Value} {below : List Frame} {meth : Method} {c : Code} {D : GG} {A : Nat → Prop} {cI cJ cZ cS : ClassId} {a0 : Nat} {r0 : Nat → Nat} {a1 : Nat} {r1 : Nat → Nat} {a2 : Nat} {r2 : Nat → Nat} {q0_0 : Nat → Nat} {r0_0_2 : Nat → Nat} {r0_0_3 : Nat → Nat} {r0_0_4 : Nat → Nat} {v1 : Vl} {v2 : Vl} {v0_0_2 : Vl} {B69 : Vl → Vl → Vl → Int32 → Int32 → Int32 → Int32 → Prop} {Q : Vl → Vl → Vl → Prop} (C : Cx p s m args c D (tyL cI cJ cZ cS) A RX4 cX4_tryDay 9) (hr : meth.sig.returnType = none) (hk : meth.locks = false) (hB69 : ∀ (v0 : Vl) (v0_0_3 : Vl) (v0_0_4 : Vl) (y3 : Int32) (y6 : Int32) (y7 : Int32) (y8 : Int32), B69 v0 v0_0_3 v0_0_4 y3 y6 y7 y8 → J p l e (rmk 5 123) s m args below meth c D A 9 0 0 (MQ below (va_Qv (fun (u : Vl × Vl × Vl) => Q u.1 u.2.1 u.2.2) (fun u t => va_P D.1 vwCl ((fun (u : Vl × Vl × Vl) => List.flatten [bX4 cI cJ cZ a0 r0 u.1, bX3 cI cJ cZ a1 r1 v1, bX5 cI cJ cZ a2 r2 v2, bS cS 5 (r0 0) q0_0, bX6 cI cJ cZ 0 (q0_0 2) r0_0_2 v0_0_2, bX6 cI cJ cZ 0 (q0_0 3) r0_0_3 u.2.1, bX6 cI cJ cZ 0 (q0_0 4) r0_0_4 u.2.2]) u) t.heap ∧ va_D A ((fun (u : Vl × Vl × Vl) => List.flatten [bX4 cI cJ cZ a0 r0 u.1, bX3 cI cJ cZ a1 r1 v1, bX5 cI cJ cZ a2 r2 v2, bS cS 5 (r0 0) q0_0, bX6 cI cJ cZ 0 (q0_0 2) r0_0_2 v0_0_2, bX6 cI cJ cZ 0 (q0_0 3) r0_0_3 u.2.1, bX6 cI cJ cZ 0 (q0_0 4) r0_0_4 u.2.2]) u)) A) args s 0 0 A) 69 [(0, .ref a0), (1, .ref a1), (2, .ref a2), (3, .int y3), (4, .int 2), (5, .ref (q0_0 3)), (6, .int y6), (7, .int y7), (8, .int y8)] [] (List.flatten [bX4 cI cJ cZ a0 r0 v0, bX3 cI cJ cZ a1 r1 v1, bX5 cI cJ cZ a2 r2 v2, bS cS 5 (r0 0) q0_0, bX6 cI cJ cZ 0 (q0_0 2) r0_0_2 v0_0_2, bX6 cI cJ cZ 0 (q0_0 3) r0_0_3 v0_0_3, bX6 cI cJ cZ 0 (q0_0 4) r0_0_4 v0_0_4])) : ∀ (v0 : Vl) (v0_0_3 : Vl) (v0_0_4 : Vl) (y3 : Int32) (y6 : Int32) (y7 : Int32) (y8 : Int32), wp_X4_tryDay_d2_c186 v1 v2 v0_0_2 Q B69 v0 v0_0_3 v0_0_4 y3 y6 y7 y8 → J p l e (rmk 5 123) s m args below meth c D A 9 0 0 (MQ below (va_Qv (fun (u : Vl × Vl × Vl) => Q u.1 u.2.1 u.2.2) (fun u t => va_P D.1 vwCl ((fun (u : Vl × Vl × Vl) => List.flatten [bX4 cI cJ cZ a0 r0 u.1, bX3 cI cJ cZ a1 r1 v1, bX5 cI cJ cZ a2 r2 v2, bS cS 5 (r0 0) q0_0, bX6 cI cJ cZ 0 (q0_0 2) r0_0_2 v0_0_2, bX6 cI cJ cZ 0 (q0_0 3) r0_0_3 u.2.1, bX6 cI cJ cZ 0 (q0_0 4) r0_0_4 u.2.2]) u) t.heap ∧ va_D A ((fun (u : Vl × Vl × Vl) => List.flatten [bX4 cI cJ cZ a0 r0 u.1, bX3 cI cJ cZ a1 r1 v1, bX5 cI cJ cZ a2 r2 v2, bS cS 5 (r0 0) q0_0, bX6 cI cJ cZ 0 (q0_0 2) r0_0_2 v0_0_2, bX6 cI cJ cZ 0 (q0_0 3) r0_0_3 u.2.1, bX6 cI cJ cZ 0 (q0_0 4) r0_0_4 u.2.2]) u)) A) args s 0 0 A) 186 [(0, .ref a0), (1, .ref a1), (2, .ref a2), (3, .int y3), (4, .int 2), (5, .ref (q0_0 3)), (6, .int y6), (7, .int y7), (8, .int y8)] [] (List.flatten [bX4 cI cJ cZ a0 r0 v0, bX3 cI cJ cZ a1 r1 v1, bX5 cI cJ cZ a2 r2 v2, bS cS 5 (r0 0) q0_0, bX6 cI cJ cZ 0 (q0_0 2) r0_0_2 v0_0_2, bX6 cI cJ cZ 0 (q0_0 3) r0_0_3 v0_0_3, bX6 cI cJ cZ 0 (q0_0 4) r0_0_4 v0_0_4]) := by
  intro v0 v0_0_3 v0_0_4 y3 y6 y7 y8 h
  obtain ⟨x_11, ex_11⟩ : ∃ z : Int32, z = y8 + 1 := ⟨_, rfl⟩
  have h := h x_11 ex_11
  refine J_iinc C 189 [(8, .int x_11), (0, .ref a0), (1, .ref a1), (2, .ref a2), (3, .int y3), (4, .int 2), (5, .ref (q0_0 3)), (6, .int y6), (7, .int y7)] dX4_tryDay_186 rfl rfl ((kinc_1 _).trans ex_11.symm) (by decide) rfl ?_
  refine J_goto C 69 dX4_tryDay_189 rfl ?_
  refine J_loc [1, 2, 3, 4, 5, 6, 7, 8, 0] rfl ?_
  exact hB69 v0 v0_0_3 v0_0_4 y3 y6 y7 x_11 h
def wp_X4_tryDay_d2_c110 (v1 : Vl) (v2 : Vl) (v0_0_2 : Vl) (Q : Vl → Vl → Vl → Prop) (B69 : Vl → Vl → Vl → Int32 → Int32 → Int32 → Int32 → Prop) (v0 : Vl) (v0_0_3 : Vl) (v0_0_4 : Vl) (y3 : Int32) (y6 : Int32) (y7 : Int32) (y8 : Int32) : Prop := wp_X6_copyFrom 0 v0_0_3 0 v0_0_2 (fun u_2 => ∀ v003s_3 : Vl, v003s_3 = setI u_2 9 y8 → wp_X6_live 0 v003s_3 v1 y6 (fun r_5 u_4 => wp_X8_put 4 (v0.2.2.1 1) 2 y8 (fun u_6 => ∀ v0s_7 : Vl, v0s_7 = setRA v0 1 u_6 → wp_X4_isBetter v0s_7 0 u_4 (fun r_8 => ((¬ r_8 = 0 → ((y7 = 0 → wp_X4_tryDay_d3 v0s_7 v1 v2 u_4 v0_0_4 y3 (fun u_9 u_10 => wp_X4_tryDay_d2_c186 v1 v2 v0_0_2 Q B69 u_9 u_4 u_10 y3 y6 y7 y8)) ∧ (¬ y7 = 0 → wp_X4_takeRow v0s_7 0 u_4 (fun u_12 => wp_X4_tryDay_d2_c186 v1 v2 v0_0_2 Q B69 u_12 u_4 v0_0_4 y3 y6 y7 y8)))) ∧ (r_8 = 0 → wp_X4_tryDay_d2_c186 v1 v2 v0_0_2 Q B69 v0s_7 u_4 v0_0_4 y3 y6 y7 y8))))))
set_option maxHeartbeats 4000000 in
set_option maxRecDepth 100000 in
theorem wk_X4_tryDay_d2_c110 {p : Program} {l : Launch} {e : Env} {s : State} {m : MethodId} {args : Array Value} {below : List Frame} {meth : Method} {c : Code} {D : GG} {A : Nat → Prop} {cI cJ cZ cS : ClassId} {a0 : Nat} {r0 : Nat → Nat} {a1 : Nat} {r1 : Nat → Nat} {a2 : Nat} {r2 : Nat → Nat} {q0_0 : Nat → Nat} {r0_0_2 : Nat → Nat} {r0_0_3 : Nat → Nat} {r0_0_4 : Nat → Nat} {v1 : Vl} {v2 : Vl} {v0_0_2 : Vl} {B69 : Vl → Vl → Vl → Int32 → Int32 → Int32 → Int32 → Prop} {Q : Vl → Vl → Vl → Prop} (C : Cx p s m args c D (tyL cI cJ cZ cS) A RX4 cX4_tryDay 9) (hr : meth.sig.returnType = none) (hk : meth.locks = false) (hB69 : ∀ (v0 : Vl) (v0_0_3 : Vl) (v0_0_4 : Vl) (y3 : Int32) (y6 : Int32) (y7 : Int32) (y8 : Int32), B69 v0 v0_0_3 v0_0_4 y3 y6 y7 y8 → J p l e (rmk 5 123) s m args below meth c D A 9 0 0 (MQ below (va_Qv (fun (u : Vl × Vl × Vl) => Q u.1 u.2.1 u.2.2) (fun u t => va_P D.1 vwCl ((fun (u : Vl × Vl × Vl) => List.flatten [bX4 cI cJ cZ a0 r0 u.1, bX3 cI cJ cZ a1 r1 v1, bX5 cI cJ cZ a2 r2 v2, bS cS 5 (r0 0) q0_0, bX6 cI cJ cZ 0 (q0_0 2) r0_0_2 v0_0_2, bX6 cI cJ cZ 0 (q0_0 3) r0_0_3 u.2.1, bX6 cI cJ cZ 0 (q0_0 4) r0_0_4 u.2.2]) u) t.heap ∧ va_D A ((fun (u : Vl × Vl × Vl) => List.flatten [bX4 cI cJ cZ a0 r0 u.1, bX3 cI cJ cZ a1 r1 v1, bX5 cI cJ cZ a2 r2 v2, bS cS 5 (r0 0) q0_0, bX6 cI cJ cZ 0 (q0_0 2) r0_0_2 v0_0_2, bX6 cI cJ cZ 0 (q0_0 3) r0_0_3 u.2.1, bX6 cI cJ cZ 0 (q0_0 4) r0_0_4 u.2.2]) u)) A) args s 0 0 A) 69 [(0, .ref a0), (1, .ref a1), (2, .ref a2), (3, .int y3), (4, .int 2), (5, .ref (q0_0 3)), (6, .int y6), (7, .int y7), (8, .int y8)] [] (List.flatten [bX4 cI cJ cZ a0 r0 v0, bX3 cI cJ cZ a1 r1 v1, bX5 cI cJ cZ a2 r2 v2, bS cS 5 (r0 0) q0_0, bX6 cI cJ cZ 0 (q0_0 2) r0_0_2 v0_0_2, bX6 cI cJ cZ 0 (q0_0 3) r0_0_3 v0_0_3, bX6 cI cJ cZ 0 (q0_0 4) r0_0_4 v0_0_4])) : ∀ (v0 : Vl) (v0_0_3 : Vl) (v0_0_4 : Vl) (y3 : Int32) (y6 : Int32) (y7 : Int32) (y8 : Int32), wp_X4_tryDay_d2_c110 v1 v2 v0_0_2 Q B69 v0 v0_0_3 v0_0_4 y3 y6 y7 y8 → J p l e (rmk 5 123) s m args below meth c D A 9 0 0 (MQ below (va_Qv (fun (u : Vl × Vl × Vl) => Q u.1 u.2.1 u.2.2) (fun u t => va_P D.1 vwCl ((fun (u : Vl × Vl × Vl) => List.flatten [bX4 cI cJ cZ a0 r0 u.1, bX3 cI cJ cZ a1 r1 v1, bX5 cI cJ cZ a2 r2 v2, bS cS 5 (r0 0) q0_0, bX6 cI cJ cZ 0 (q0_0 2) r0_0_2 v0_0_2, bX6 cI cJ cZ 0 (q0_0 3) r0_0_3 u.2.1, bX6 cI cJ cZ 0 (q0_0 4) r0_0_4 u.2.2]) u) t.heap ∧ va_D A ((fun (u : Vl × Vl × Vl) => List.flatten [bX4 cI cJ cZ a0 r0 u.1, bX3 cI cJ cZ a1 r1 v1, bX5 cI cJ cZ a2 r2 v2, bS cS 5 (r0 0) q0_0, bX6 cI cJ cZ 0 (q0_0 2) r0_0_2 v0_0_2, bX6 cI cJ cZ 0 (q0_0 3) r0_0_3 u.2.1, bX6 cI cJ cZ 0 (q0_0 4) r0_0_4 u.2.2]) u)) A) args s 0 0 A) 110 [(0, .ref a0), (1, .ref a1), (2, .ref a2), (3, .int y3), (4, .int 2), (5, .ref (q0_0 3)), (6, .int y6), (7, .int y7), (8, .int y8)] [] (List.flatten [bX4 cI cJ cZ a0 r0 v0, bX3 cI cJ cZ a1 r1 v1, bX5 cI cJ cZ a2 r2 v2, bS cS 5 (r0 0) q0_0, bX6 cI cJ cZ 0 (q0_0 2) r0_0_2 v0_0_2, bX6 cI cJ cZ 0 (q0_0 3) r0_0_3 v0_0_3, bX6 cI cJ cZ 0 (q0_0 4) r0_0_4 v0_0_4]) := by
  intro v0 v0_0_3 v0_0_4 y3 y6 y7 y8 h
  refine J_aload C 112 dX4_tryDay_110 rfl rfl ?_
  refine J_aload_n C 113 dX4_tryDay_112 rfl rfl ?_
  refine J_get C 116 4 inlX4 0 0 rfl rfl (by decide) wd109 rfl rfl dX4_tryDay_113 rfl ?_
  refine J_iload C 118 dX4_tryDay_116 rfl rfl ?_
  refine J_aald C 119 14 2 rfl rfl (by decide) (by unfold vp_in; decide) dX4_tryDay_118 rfl ?_
  refine J_callBvV (Bs := [bX4 cI cJ cZ a0 r0 v0, bX3 cI cJ cZ a1 r1 v1, bX5 cI cJ cZ a2 r2 v2, bS cS 5 (r0 0) q0_0, bX6 cI cJ cZ 0 (q0_0 2) r0_0_2 v0_0_2, bX6 cI cJ cZ 0 (q0_0 3) r0_0_3 v0_0_3, bX6 cI cJ cZ 0 (q0_0 4) r0_0_4 v0_0_4]) (As := [.ref (q0_0 2)]) C 122 (c_X6_copyFrom l D cI cJ cZ cS 0 (q0_0 3) r0_0_3 v0_0_3 0 (q0_0 2) r0_0_2 v0_0_2 _ h) wd777 wd774 wd29 wd775 wd776 6 0 rfl rfl rfl hdX6_copyFrom ⟨Nat.le_of_ble_eq_true rfl, Nat.le_of_ble_eq_true rfl⟩ ⟨Nat.zero_le _, Nat.zero_le _⟩ rfl (Nat.le_of_ble_eq_true rfl) [5, 4] [0, 1, 2, 3, 6] 7 rfl (by decide +kernel) rfl rfl (fun (u : Vl) => [bX6 cI cJ cZ 0 (q0_0 3) r0_0_3 u, bX6 cI cJ cZ 0 (q0_0 2) r0_0_2 v0_0_2]) (fun _ => rfl) [2, 3, 4, 5, 1, 0, 6] (by decide +kernel) (fun _ => rfl) rfl (fun (u : Vl) => [bX4 cI cJ cZ a0 r0 v0, bX3 cI cJ cZ a1 r1 v1, bX5 cI cJ cZ a2 r2 v2, bS cS 5 (r0 0) q0_0, bX6 cI cJ cZ 0 (q0_0 2) r0_0_2 v0_0_2, bX6 cI cJ cZ 0 (q0_0 3) r0_0_3 u, bX6 cI cJ cZ 0 (q0_0 4) r0_0_4 v0_0_4]) (fun _ => rfl) dX4_tryDay_119 rfl (fun u h => ?_)
  obtain ⟨u_2, hu⟩ : ∃ z, z = u := ⟨_, rfl⟩
  subst hu
  refine J_aload C 124 dX4_tryDay_122 rfl rfl ?_
  refine J_iload C 126 dX4_tryDay_124 rfl rfl ?_
  obtain ⟨v003s_3, ev003s_3⟩ : ∃ z : Vl, z = setI u_2 9 y8 := ⟨_, rfl⟩
  have h := h v003s_3 ev003s_3
  refine J_putN C 129 6 inlX6 tyX6 tyX6_ok nmX6 21 9 rfl rfl (by decide) (mi 39 rfl) rfl rfl rfl rfl rfl (List.flatten [bX4 cI cJ cZ a0 r0 v0, bX3 cI cJ cZ a1 r1 v1, bX5 cI cJ cZ a2 r2 v2, bS cS 5 (r0 0) q0_0, bX6 cI cJ cZ 0 (q0_0 2) r0_0_2 v0_0_2, bX6 cI cJ cZ 0 (q0_0 3) r0_0_3 v003s_3, bX6 cI cJ cZ 0 (q0_0 4) r0_0_4 v0_0_4]) (by subst ev003s_3; rfl) dX4_tryDay_126 rfl ?_
  refine J_aload C 131 dX4_tryDay_129 rfl rfl ?_
  refine J_aload_n C 132 dX4_tryDay_131 rfl rfl ?_
  refine J_iload C 134 dX4_tryDay_132 rfl rfl ?_
  refine J_callBiV (Bs := [bX4 cI cJ cZ a0 r0 v0, bX3 cI cJ cZ a1 r1 v1, bX5 cI cJ cZ a2 r2 v2, bS cS 5 (r0 0) q0_0, bX6 cI cJ cZ 0 (q0_0 2) r0_0_2 v0_0_2, bX6 cI cJ cZ 0 (q0_0 3) r0_0_3 v003s_3, bX6 cI cJ cZ 0 (q0_0 4) r0_0_4 v0_0_4]) (As := [.ref a1, .int y6]) C 137 (c_X6_live l D cI cJ cZ cS 0 (q0_0 3) r0_0_3 v003s_3 a1 r1 v1 y6 _ h) wd613 wd794 wd29 wd611 wd612 6 0 rfl rfl rfl hdX6_live ⟨Nat.le_of_ble_eq_true rfl, Nat.le_of_ble_eq_true rfl⟩ ⟨Nat.zero_le _, Nat.zero_le _⟩ rfl (Nat.le_of_ble_eq_true rfl) [5, 1] [0, 2, 3, 4, 6] 7 rfl (by decide +kernel) rfl rfl (fun (u : Vl) => [bX6 cI cJ cZ 0 (q0_0 3) r0_0_3 u, bX3 cI cJ cZ a1 r1 v1]) (fun _ => rfl) [2, 1, 3, 4, 5, 0, 6] (by decide +kernel) (fun _ => rfl) rfl (fun (u : Vl) => [bX4 cI cJ cZ a0 r0 v0, bX3 cI cJ cZ a1 r1 v1, bX5 cI cJ cZ a2 r2 v2, bS cS 5 (r0 0) q0_0, bX6 cI cJ cZ 0 (q0_0 2) r0_0_2 v0_0_2, bX6 cI cJ cZ 0 (q0_0 3) r0_0_3 u, bX6 cI cJ cZ 0 (q0_0 4) r0_0_4 v0_0_4]) (fun _ => rfl) dX4_tryDay_134 rfl (fun r_5 u h => ?_)
  obtain ⟨u_4, hu⟩ : ∃ z, z = u := ⟨_, rfl⟩
  subst hu
  refine J_pop C 138 dX4_tryDay_137 rfl rfl ?_
  refine J_aload_n C 139 dX4_tryDay_138 rfl rfl ?_
  refine J_get C 142 4 inlX4 0 1 rfl rfl (by decide) wd110 rfl rfl dX4_tryDay_139 rfl ?_
  refine J_iload C 144 dX4_tryDay_142 rfl rfl ?_
  refine J_iload C 146 dX4_tryDay_144 rfl rfl ?_
  refine J_call1vSN (As := [.ref (r0 1), .int 2, .int y8]) C 149 (c_X8_put l D cI cJ cZ cS 4 (r0 1) (v0.2.2.1 1) 2 y8 _ h) wd83 (mi 57 rfl) wd2 wd82 hdX8_put ⟨Nat.le_of_ble_eq_true rfl, Nat.le_of_ble_eq_true rfl⟩ ⟨Nat.zero_le _, Nat.zero_le _⟩ rfl (Nat.le_of_ble_eq_true rfl) 1 rfl (fun u => .inl (cI, 4, .inl u)) (fun _ => rfl) (fun (u : (Nat → Int32)) => List.flatten [bX4 cI cJ cZ a0 r0 (setRA v0 1 u), bX3 cI cJ cZ a1 r1 v1, bX5 cI cJ cZ a2 r2 v2, bS cS 5 (r0 0) q0_0, bX6 cI cJ cZ 0 (q0_0 2) r0_0_2 v0_0_2, bX6 cI cJ cZ 0 (q0_0 3) r0_0_3 u_4, bX6 cI cJ cZ 0 (q0_0 4) r0_0_4 v0_0_4]) (fun _ => rfl) dX4_tryDay_146 rfl (fun u h => ?_)
  obtain ⟨u_6, hu⟩ : ∃ z, z = u := ⟨_, rfl⟩
  subst hu
  obtain ⟨v0s_7, ev0s_7⟩ : ∃ z : Vl, z = setRA v0 1 u_6 := ⟨_, rfl⟩
  have h := h v0s_7 ev0s_7
  refine J_ws (ws' := List.flatten [bX4 cI cJ cZ a0 r0 v0s_7, bX3 cI cJ cZ a1 r1 v1, bX5 cI cJ cZ a2 r2 v2, bS cS 5 (r0 0) q0_0, bX6 cI cJ cZ 0 (q0_0 2) r0_0_2 v0_0_2, bX6 cI cJ cZ 0 (q0_0 3) r0_0_3 u_4, bX6 cI cJ cZ 0 (q0_0 4) r0_0_4 v0_0_4]) (by subst ev0s_7; rfl) ?_
  refine J_aload_n C 150 dX4_tryDay_149 rfl rfl ?_
  refine J_aload C 152 dX4_tryDay_150 rfl rfl ?_
  refine J_callBiV (Bs := [bX4 cI cJ cZ a0 r0 v0s_7, bX3 cI cJ cZ a1 r1 v1, bX5 cI cJ cZ a2 r2 v2, bS cS 5 (r0 0) q0_0, bX6 cI cJ cZ 0 (q0_0 2) r0_0_2 v0_0_2, bX6 cI cJ cZ 0 (q0_0 3) r0_0_3 u_4, bX6 cI cJ cZ 0 (q0_0 4) r0_0_4 v0_0_4]) (As := [.ref (q0_0 3)]) C 155 (c_X4_isBetter l D cI cJ cZ cS a0 r0 v0s_7 0 (q0_0 3) r0_0_3 u_4 _ h) wd798 wd795 wd36 wd796 wd797 4 0 rfl rfl rfl hdX4_isBetter ⟨Nat.le_of_ble_eq_true rfl, Nat.le_of_ble_eq_true rfl⟩ ⟨Nat.zero_le _, Nat.zero_le _⟩ rfl (Nat.le_of_ble_eq_true rfl) [0, 5] [1, 2, 3, 4, 6] 7 rfl (by decide +kernel) rfl rfl (fun (u : Unit) => [bX4 cI cJ cZ a0 r0 v0s_7, bX6 cI cJ cZ 0 (q0_0 3) r0_0_3 u_4]) (fun _ => rfl) [0, 2, 3, 4, 5, 1, 6] (by decide +kernel) (fun _ => rfl) rfl (fun (u : Unit) => [bX4 cI cJ cZ a0 r0 v0s_7, bX3 cI cJ cZ a1 r1 v1, bX5 cI cJ cZ a2 r2 v2, bS cS 5 (r0 0) q0_0, bX6 cI cJ cZ 0 (q0_0 2) r0_0_2 v0_0_2, bX6 cI cJ cZ 0 (q0_0 3) r0_0_3 u_4, bX6 cI cJ cZ 0 (q0_0 4) r0_0_4 v0_0_4]) (fun _ => rfl) dX4_tryDay_152 rfl (fun r_8 u h => ?_)
  refine J_if_ne C 158 161 dX4_tryDay_155 rfl rfl (fun c => ?_) (fun c => ?_)
  · have h := h.1 c
    refine J_iload C 163 dX4_tryDay_161 rfl rfl ?_
    refine J_if_eq C 166 175 dX4_tryDay_163 rfl rfl (fun c => ?_) (fun c => ?_)
    · have h := h.1 c
      refine J_aload_n C 176 dX4_tryDay_175 rfl rfl ?_
      refine J_aload_n C 177 dX4_tryDay_176 rfl rfl ?_
      refine J_aload_n C 178 dX4_tryDay_177 rfl rfl ?_
      refine J_iload_n C 179 dX4_tryDay_178 rfl rfl ?_
      refine J_iload C 181 dX4_tryDay_179 rfl rfl ?_
      refine J_iconst C 182 dX4_tryDay_181 rfl ki_1 ?_
      refine J_iadd C 183 dX4_tryDay_182 rfl ?_
      refine J_nmi (y := 3) (by decide) ?_
      refine J_callBvV (Bs := [bX4 cI cJ cZ a0 r0 v0s_7, bX3 cI cJ cZ a1 r1 v1, bX5 cI cJ cZ a2 r2 v2, bS cS 5 (r0 0) q0_0, bX6 cI cJ cZ 0 (q0_0 2) r0_0_2 v0_0_2, bX6 cI cJ cZ 0 (q0_0 3) r0_0_3 u_4, bX6 cI cJ cZ 0 (q0_0 4) r0_0_4 v0_0_4]) (As := [.ref a1, .ref a2, .int y3, .int 3]) C 186 (c_X4_tryDay_d3 l D cI cJ cZ cS a0 r0 v0s_7 a1 r1 v1 a2 r2 v2 q0_0 r0_0_3 u_4 r0_0_4 v0_0_4 y3 _ h) wd788 wd785 wd36 wd786 wd787 4 0 rfl rfl rfl hdX4_tryDay ⟨Nat.le_of_ble_eq_true rfl, Nat.le_of_ble_eq_true rfl⟩ ⟨Nat.zero_le _, Nat.zero_le _⟩ rfl (Nat.le_of_ble_eq_true rfl) [0, 1, 2, 3, 5, 6] [4] 7 rfl (by decide +kernel) rfl rfl (fun (u : Vl × Vl) => [bX4 cI cJ cZ a0 r0 u.1, bX3 cI cJ cZ a1 r1 v1, bX5 cI cJ cZ a2 r2 v2, bS cS 5 (r0 0) q0_0, bX6 cI cJ cZ 0 (q0_0 3) r0_0_3 u_4, bX6 cI cJ cZ 0 (q0_0 4) r0_0_4 u.2]) (fun _ => rfl) [0, 1, 2, 3, 6, 4, 5] (by decide +kernel) (fun _ => rfl) rfl (fun (u : Vl × Vl) => [bX4 cI cJ cZ a0 r0 u.1, bX3 cI cJ cZ a1 r1 v1, bX5 cI cJ cZ a2 r2 v2, bS cS 5 (r0 0) q0_0, bX6 cI cJ cZ 0 (q0_0 2) r0_0_2 v0_0_2, bX6 cI cJ cZ 0 (q0_0 3) r0_0_3 u_4, bX6 cI cJ cZ 0 (q0_0 4) r0_0_4 u.2]) (fun _ => rfl) dX4_tryDay_183 rfl (fun u h => ?_)
      obtain ⟨u_9, u_10⟩ := u
      refine J_loc [0, 1, 2, 3, 4, 5, 6, 7, 8] rfl ?_
      exact wk_X4_tryDay_d2_c186 C hr hk hB69 u_9 u_4 u_10 y3 y6 y7 y8 h
    · have h := h.2 c
      refine J_aload_n C 167 dX4_tryDay_166 rfl rfl ?_
      refine J_aload C 169 dX4_tryDay_167 rfl rfl ?_
      refine J_callBvV (Bs := [bX4 cI cJ cZ a0 r0 v0s_7, bX3 cI cJ cZ a1 r1 v1, bX5 cI cJ cZ a2 r2 v2, bS cS 5 (r0 0) q0_0, bX6 cI cJ cZ 0 (q0_0 2) r0_0_2 v0_0_2, bX6 cI cJ cZ 0 (q0_0 3) r0_0_3 u_4, bX6 cI cJ cZ 0 (q0_0 4) r0_0_4 v0_0_4]) (As := [.ref (q0_0 3)]) C 172 (c_X4_takeRow l D cI cJ cZ cS a0 r0 v0s_7 0 (q0_0 3) r0_0_3 u_4 _ h) wd802 wd799 wd36 wd800 wd801 4 0 rfl rfl rfl hdX4_takeRow ⟨Nat.le_of_ble_eq_true rfl, Nat.le_of_ble_eq_true rfl⟩ ⟨Nat.zero_le _, Nat.zero_le _⟩ rfl (Nat.le_of_ble_eq_true rfl) [0, 5] [1, 2, 3, 4, 6] 7 rfl (by decide +kernel) rfl rfl (fun (u : Vl) => [bX4 cI cJ cZ a0 r0 u, bX6 cI cJ cZ 0 (q0_0 3) r0_0_3 u_4]) (fun _ => rfl) [0, 2, 3, 4, 5, 1, 6] (by decide +kernel) (fun _ => rfl) rfl (fun (u : Vl) => [bX4 cI cJ cZ a0 r0 u, bX3 cI cJ cZ a1 r1 v1, bX5 cI cJ cZ a2 r2 v2, bS cS 5 (r0 0) q0_0, bX6 cI cJ cZ 0 (q0_0 2) r0_0_2 v0_0_2, bX6 cI cJ cZ 0 (q0_0 3) r0_0_3 u_4, bX6 cI cJ cZ 0 (q0_0 4) r0_0_4 v0_0_4]) (fun _ => rfl) dX4_tryDay_169 rfl (fun u h => ?_)
      obtain ⟨u_12, hu⟩ : ∃ z, z = u := ⟨_, rfl⟩
      subst hu
      refine J_goto C 186 dX4_tryDay_172 rfl ?_
      refine J_loc [0, 1, 2, 3, 4, 5, 6, 7, 8] rfl ?_
      exact wk_X4_tryDay_d2_c186 C hr hk hB69 u_12 u_4 v0_0_4 y3 y6 y7 y8 h
  · have h := h.2 c
    refine J_goto C 186 dX4_tryDay_158 rfl ?_
    refine J_loc [0, 1, 2, 3, 4, 5, 6, 7, 8] rfl ?_
    exact wk_X4_tryDay_d2_c186 C hr hk hB69 v0s_7 u_4 v0_0_4 y3 y6 y7 y8 h
def wp_X4_tryDay_d2_c69 (v1 : Vl) (v2 : Vl) (v0_0_2 : Vl) (Q : Vl → Vl → Vl → Prop) : Nat → Vl → Vl → Vl → Int32 → Int32 → Int32 → Int32 → Prop
  | 0 => fun _ _ _ _ _ _ _ => False
  | n + 1 => fun v0 v0_0_3 v0_0_4 y3 y6 y7 y8 => (((v1.1 7) ≤ y8 → Q v0 v0_0_3 v0_0_4) ∧ (¬ (v1.1 7) ≤ y8 → ((y7 = 0 → wp_X4_tryDay_d2_c110 v1 v2 v0_0_2 Q (wp_X4_tryDay_d2_c69 v1 v2 v0_0_2 Q n) v0 v0_0_3 v0_0_4 y3 y6 y7 y8) ∧ (¬ y7 = 0 → ((y8 = (-1) → wp_X4_tryDay_d2_c110 v1 v2 v0_0_2 Q (wp_X4_tryDay_d2_c69 v1 v2 v0_0_2 Q n) v0 v0_0_3 v0_0_4 y3 y6 y7 y8) ∧ (¬ y8 = (-1) → wp_X6_isFillingBy 0 v0_0_2 v1 y6 y8 (fun r_13 => ((¬ r_13 = 0 → wp_X4_tryDay_d2_c110 v1 v2 v0_0_2 Q (wp_X4_tryDay_d2_c69 v1 v2 v0_0_2 Q n) v0 v0_0_3 v0_0_4 y3 y6 y7 y8) ∧ (r_13 = 0 → wp_X4_tryDay_d2_c186 v1 v2 v0_0_2 Q (wp_X4_tryDay_d2_c69 v1 v2 v0_0_2 Q n) v0 v0_0_3 v0_0_4 y3 y6 y7 y8)))))))))
set_option maxHeartbeats 4000000 in
set_option maxRecDepth 100000 in
theorem wk_X4_tryDay_d2_c69 {p : Program} {l : Launch} {e : Env} {s : State} {m : MethodId} {args : Array Value} {below : List Frame} {meth : Method} {c : Code} {D : GG} {A : Nat → Prop} {cI cJ cZ cS : ClassId} {a0 : Nat} {r0 : Nat → Nat} {a1 : Nat} {r1 : Nat → Nat} {a2 : Nat} {r2 : Nat → Nat} {q0_0 : Nat → Nat} {r0_0_2 : Nat → Nat} {r0_0_3 : Nat → Nat} {r0_0_4 : Nat → Nat} {v1 : Vl} {v2 : Vl} {v0_0_2 : Vl} {Q : Vl → Vl → Vl → Prop} (C : Cx p s m args c D (tyL cI cJ cZ cS) A RX4 cX4_tryDay 9) (hr : meth.sig.returnType = none) (hk : meth.locks = false) : ∀ (n : Nat) (v0 : Vl) (v0_0_3 : Vl) (v0_0_4 : Vl) (y3 : Int32) (y6 : Int32) (y7 : Int32) (y8 : Int32), wp_X4_tryDay_d2_c69 v1 v2 v0_0_2 Q n v0 v0_0_3 v0_0_4 y3 y6 y7 y8 → J p l e (rmk 5 123) s m args below meth c D A 9 0 0 (MQ below (va_Qv (fun (u : Vl × Vl × Vl) => Q u.1 u.2.1 u.2.2) (fun u t => va_P D.1 vwCl ((fun (u : Vl × Vl × Vl) => List.flatten [bX4 cI cJ cZ a0 r0 u.1, bX3 cI cJ cZ a1 r1 v1, bX5 cI cJ cZ a2 r2 v2, bS cS 5 (r0 0) q0_0, bX6 cI cJ cZ 0 (q0_0 2) r0_0_2 v0_0_2, bX6 cI cJ cZ 0 (q0_0 3) r0_0_3 u.2.1, bX6 cI cJ cZ 0 (q0_0 4) r0_0_4 u.2.2]) u) t.heap ∧ va_D A ((fun (u : Vl × Vl × Vl) => List.flatten [bX4 cI cJ cZ a0 r0 u.1, bX3 cI cJ cZ a1 r1 v1, bX5 cI cJ cZ a2 r2 v2, bS cS 5 (r0 0) q0_0, bX6 cI cJ cZ 0 (q0_0 2) r0_0_2 v0_0_2, bX6 cI cJ cZ 0 (q0_0 3) r0_0_3 u.2.1, bX6 cI cJ cZ 0 (q0_0 4) r0_0_4 u.2.2]) u)) A) args s 0 0 A) 69 [(0, .ref a0), (1, .ref a1), (2, .ref a2), (3, .int y3), (4, .int 2), (5, .ref (q0_0 3)), (6, .int y6), (7, .int y7), (8, .int y8)] [] (List.flatten [bX4 cI cJ cZ a0 r0 v0, bX3 cI cJ cZ a1 r1 v1, bX5 cI cJ cZ a2 r2 v2, bS cS 5 (r0 0) q0_0, bX6 cI cJ cZ 0 (q0_0 2) r0_0_2 v0_0_2, bX6 cI cJ cZ 0 (q0_0 3) r0_0_3 v0_0_3, bX6 cI cJ cZ 0 (q0_0 4) r0_0_4 v0_0_4]) := by
  intro n
  induction n with
  | zero =>
    intro v0 v0_0_3 v0_0_4 y3 y6 y7 y8 h
    exact False.elim h
  | succ n ih =>
    intro v0 v0_0_3 v0_0_4 y3 y6 y7 y8 h
    refine J_iload C 71 dX4_tryDay_69 rfl rfl ?_
    refine J_aload_n C 72 dX4_tryDay_71 rfl rfl ?_
    refine J_getN C 75 3 inlX3 3 7 rfl rfl (by decide) (mi 38 rfl) rfl rfl dX4_tryDay_72 rfl ?_
    refine J_icmp_ge C 78 192 dX4_tryDay_75 rfl rfl (fun c => ?_) (fun c => ?_)
    · have h := h.1 c
      exact J_vret C hr hk (v0, v0_0_3, v0_0_4) rfl dX4_tryDay_192 h
    · have h := h.2 c
      refine J_iload C 80 dX4_tryDay_78 rfl rfl ?_
      refine J_if_eq C 83 110 dX4_tryDay_80 rfl rfl (fun c => ?_) (fun c => ?_)
      · have h := h.1 c
        refine J_loc [0, 1, 2, 3, 4, 5, 6, 7, 8] rfl ?_
        exact wk_X4_tryDay_d2_c110 C hr hk ih v0 v0_0_3 v0_0_4 y3 y6 y7 y8 h
      · have h := h.2 c
        refine J_iload C 85 dX4_tryDay_83 rfl rfl ?_
        refine J_iconst C 86 dX4_tryDay_85 rfl ki_m1 ?_
        refine J_icmp_eq C 89 110 dX4_tryDay_86 rfl rfl (fun c => ?_) (fun c => ?_)
        · have h := h.1 c
          refine J_loc [0, 1, 2, 3, 4, 5, 6, 7, 8] rfl ?_
          exact wk_X4_tryDay_d2_c110 C hr hk ih v0 v0_0_3 v0_0_4 y3 y6 y7 y8 h
        · have h := h.2 c
          refine J_aload_n C 90 dX4_tryDay_89 rfl rfl ?_
          refine J_get C 93 4 inlX4 0 0 rfl rfl (by decide) wd109 rfl rfl dX4_tryDay_90 rfl ?_
          refine J_iload C 95 dX4_tryDay_93 rfl rfl ?_
          refine J_aald C 96 14 2 rfl rfl (by decide) (by unfold vp_in; decide) dX4_tryDay_95 rfl ?_
          refine J_aload_n C 97 dX4_tryDay_96 rfl rfl ?_
          refine J_iload C 99 dX4_tryDay_97 rfl rfl ?_
          refine J_iload C 101 dX4_tryDay_99 rfl rfl ?_
          refine J_callBiV (Bs := [bX4 cI cJ cZ a0 r0 v0, bX3 cI cJ cZ a1 r1 v1, bX5 cI cJ cZ a2 r2 v2, bS cS 5 (r0 0) q0_0, bX6 cI cJ cZ 0 (q0_0 2) r0_0_2 v0_0_2, bX6 cI cJ cZ 0 (q0_0 3) r0_0_3 v0_0_3, bX6 cI cJ cZ 0 (q0_0 4) r0_0_4 v0_0_4]) (As := [.ref a1, .int y6, .int y8]) C 104 (c_X6_isFillingBy l D cI cJ cZ cS 0 (q0_0 2) r0_0_2 v0_0_2 a1 r1 v1 y6 y8 _ h) wd793 wd790 wd29 wd791 wd792 6 0 rfl rfl rfl hdX6_isFillingBy ⟨Nat.le_of_ble_eq_true rfl, Nat.le_of_ble_eq_true rfl⟩ ⟨Nat.zero_le _, Nat.zero_le _⟩ rfl (Nat.le_of_ble_eq_true rfl) [4, 1] [0, 2, 3, 5, 6] 7 rfl (by decide +kernel) rfl rfl (fun (u : Unit) => [bX6 cI cJ cZ 0 (q0_0 2) r0_0_2 v0_0_2, bX3 cI cJ cZ a1 r1 v1]) (fun _ => rfl) [2, 1, 3, 4, 0, 5, 6] (by decide +kernel) (fun _ => rfl) rfl (fun (u : Unit) => [bX4 cI cJ cZ a0 r0 v0, bX3 cI cJ cZ a1 r1 v1, bX5 cI cJ cZ a2 r2 v2, bS cS 5 (r0 0) q0_0, bX6 cI cJ cZ 0 (q0_0 2) r0_0_2 v0_0_2, bX6 cI cJ cZ 0 (q0_0 3) r0_0_3 v0_0_3, bX6 cI cJ cZ 0 (q0_0 4) r0_0_4 v0_0_4]) (fun _ => rfl) dX4_tryDay_101 rfl (fun r_13 u h => ?_)
          refine J_if_ne C 107 110 dX4_tryDay_104 rfl rfl (fun c => ?_) (fun c => ?_)
          · have h := h.1 c
            refine J_loc [0, 1, 2, 3, 4, 5, 6, 7, 8] rfl ?_
            exact wk_X4_tryDay_d2_c110 C hr hk ih v0 v0_0_3 v0_0_4 y3 y6 y7 y8 h
          · have h := h.2 c
            refine J_goto C 186 dX4_tryDay_107 rfl ?_
            refine J_loc [0, 1, 2, 3, 4, 5, 6, 7, 8] rfl ?_
            exact wk_X4_tryDay_d2_c186 C hr hk ih v0 v0_0_3 v0_0_4 y3 y6 y7 y8 h
def wp_X4_tryDay_d2_c64 (v1 : Vl) (v2 : Vl) (v0_0_2 : Vl) (Q : Vl → Vl → Vl → Prop) (v0 : Vl) (v0_0_3 : Vl) (v0_0_4 : Vl) (y3 : Int32) (y6 : Int32) (s0 : Int32) : Prop := (∃ k : Nat, wp_X4_tryDay_d2_c69 v1 v2 v0_0_2 Q k v0 v0_0_3 v0_0_4 y3 y6 s0 (-1))
set_option maxHeartbeats 4000000 in
set_option maxRecDepth 100000 in
theorem wk_X4_tryDay_d2_c64 {p : Program} {l : Launch} {e : Env} {s : State} {m : MethodId} {args : Array Value} {below : List Frame} {meth : Method} {c : Code} {D : GG} {A : Nat → Prop} {cI cJ cZ cS : ClassId} {a0 : Nat} {r0 : Nat → Nat} {a1 : Nat} {r1 : Nat → Nat} {a2 : Nat} {r2 : Nat → Nat} {q0_0 : Nat → Nat} {r0_0_2 : Nat → Nat} {r0_0_3 : Nat → Nat} {r0_0_4 : Nat → Nat} {v1 : Vl} {v2 : Vl} {v0_0_2 : Vl} {Q : Vl → Vl → Vl → Prop} (C : Cx p s m args c D (tyL cI cJ cZ cS) A RX4 cX4_tryDay 9) (hr : meth.sig.returnType = none) (hk : meth.locks = false) : ∀ (v0 : Vl) (v0_0_3 : Vl) (v0_0_4 : Vl) (y3 : Int32) (y6 : Int32) (s0 : Int32), wp_X4_tryDay_d2_c64 v1 v2 v0_0_2 Q v0 v0_0_3 v0_0_4 y3 y6 s0 → J p l e (rmk 5 123) s m args below meth c D A 9 0 0 (MQ below (va_Qv (fun (u : Vl × Vl × Vl) => Q u.1 u.2.1 u.2.2) (fun u t => va_P D.1 vwCl ((fun (u : Vl × Vl × Vl) => List.flatten [bX4 cI cJ cZ a0 r0 u.1, bX3 cI cJ cZ a1 r1 v1, bX5 cI cJ cZ a2 r2 v2, bS cS 5 (r0 0) q0_0, bX6 cI cJ cZ 0 (q0_0 2) r0_0_2 v0_0_2, bX6 cI cJ cZ 0 (q0_0 3) r0_0_3 u.2.1, bX6 cI cJ cZ 0 (q0_0 4) r0_0_4 u.2.2]) u) t.heap ∧ va_D A ((fun (u : Vl × Vl × Vl) => List.flatten [bX4 cI cJ cZ a0 r0 u.1, bX3 cI cJ cZ a1 r1 v1, bX5 cI cJ cZ a2 r2 v2, bS cS 5 (r0 0) q0_0, bX6 cI cJ cZ 0 (q0_0 2) r0_0_2 v0_0_2, bX6 cI cJ cZ 0 (q0_0 3) r0_0_3 u.2.1, bX6 cI cJ cZ 0 (q0_0 4) r0_0_4 u.2.2]) u)) A) args s 0 0 A) 64 [(0, .ref a0), (1, .ref a1), (2, .ref a2), (3, .int y3), (4, .int 2), (5, .ref (q0_0 3)), (6, .int y6)] [.int s0] (List.flatten [bX4 cI cJ cZ a0 r0 v0, bX3 cI cJ cZ a1 r1 v1, bX5 cI cJ cZ a2 r2 v2, bS cS 5 (r0 0) q0_0, bX6 cI cJ cZ 0 (q0_0 2) r0_0_2 v0_0_2, bX6 cI cJ cZ 0 (q0_0 3) r0_0_3 v0_0_3, bX6 cI cJ cZ 0 (q0_0 4) r0_0_4 v0_0_4]) := by
  intro v0 v0_0_3 v0_0_4 y3 y6 s0 h
  refine J_istore C 66 [(7, .int s0), (0, .ref a0), (1, .ref a1), (2, .ref a2), (3, .int y3), (4, .int 2), (5, .ref (q0_0 3)), (6, .int y6)] dX4_tryDay_64 rfl (by decide) rfl ?_
  refine J_iconst C 67 dX4_tryDay_66 rfl ki_m1 ?_
  refine J_istore C 69 [(8, .int (-1)), (7, .int s0), (0, .ref a0), (1, .ref a1), (2, .ref a2), (3, .int y3), (4, .int 2), (5, .ref (q0_0 3)), (6, .int y6)] dX4_tryDay_67 rfl (by decide) rfl ?_
  refine J_loc [2, 3, 4, 5, 6, 7, 8, 1, 0] rfl ?_
  obtain ⟨n1, h⟩ := h
  exact wk_X4_tryDay_d2_c69 C hr hk n1 v0 v0_0_3 v0_0_4 y3 y6 s0 (-1) h
def wp_X4_tryDay_d2 (v0 : Vl) (v1 : Vl) (v2 : Vl) (v0_0_2 : Vl) (v0_0_3 : Vl) (v0_0_4 : Vl) (x3 : Int32) (Q : Vl → Vl → Vl → Prop) : Prop := ((x3 ≤ 2 → Q v0 v0_0_3 v0_0_4) ∧ (¬ x3 ≤ 2 → wp_X5_skyOf v2 (v0_0_2.1 12) (fun r_1 => ((¬ 3 = x3 → wp_X4_tryDay_d2_c64 v1 v2 v0_0_2 Q v0 v0_0_3 v0_0_4 x3 r_1 0) ∧ (3 = x3 → wp_X4_tryDay_d2_c64 v1 v2 v0_0_2 Q v0 v0_0_3 v0_0_4 x3 r_1 1)))))
set_option maxHeartbeats 4000000 in
set_option maxRecDepth 100000 in
theorem c_X4_tryDay_d2 (l : Launch) (D : GG) (cI cJ cZ cS : ClassId) (a0 : Nat) (r0 : Nat → Nat) (v0 : Vl) (a1 : Nat) (r1 : Nat → Nat) (v1 : Vl) (a2 : Nat) (r2 : Nat → Nat) (v2 : Vl) (q0_0 : Nat → Nat) (r0_0_2 : Nat → Nat) (v0_0_2 : Vl) (r0_0_3 : Nat → Nat) (v0_0_3 : Vl) (r0_0_4 : Nat → Nat) (v0_0_4 : Vl) (x3 : Int32) (Q : Vl → Vl → Vl → Prop) (h : wp_X4_tryDay_d2 v0 v1 v2 v0_0_2 v0_0_3 v0_0_4 x3 Q) : Mv l D (tyL cI cJ cZ cS) yX4_tryDay cX4_tryDay 9 5 123 [.ref a0, .ref a1, .ref a2, .int x3, .int 2] (List.flatten [bX4 cI cJ cZ a0 r0 v0, bX3 cI cJ cZ a1 r1 v1, bX5 cI cJ cZ a2 r2 v2, bS cS 5 (r0 0) q0_0, bX6 cI cJ cZ 0 (q0_0 2) r0_0_2 v0_0_2, bX6 cI cJ cZ 0 (q0_0 3) r0_0_3 v0_0_3, bX6 cI cJ cZ 0 (q0_0 4) r0_0_4 v0_0_4]) (fun (u : Vl × Vl × Vl) => Q u.1 u.2.1 u.2.2) (fun (u : Vl × Vl × Vl) => List.flatten [bX4 cI cJ cZ a0 r0 u.1, bX3 cI cJ cZ a1 r1 v1, bX5 cI cJ cZ a2 r2 v2, bS cS 5 (r0 0) q0_0, bX6 cI cJ cZ 0 (q0_0 2) r0_0_2 v0_0_2, bX6 cI cJ cZ 0 (q0_0 3) r0_0_3 u.2.1, bX6 cI cJ cZ 0 (q0_0 4) r0_0_4 u.2.2]) := by
  refine Mv_of RX4 [(0, .ref a0), (1, .ref a1), (2, .ref a2), (3, .int x3), (4, .int 2)] (by decide +kernel) rfl rfl (Nat.le_of_ble_eq_true rfl) ?_
  intro p e s m args below meth c A C hr hk
  refine J_iload C 2 dX4_tryDay_0 rfl rfl ?_
  refine J_if_lt C 5 23 dX4_tryDay_2 rfl rfl (fun c => ?_) (fun c => ?_)
  · exact absurd c (by decide)
  · refine J_iload C 7 dX4_tryDay_5 rfl rfl ?_
    refine J_iload_n C 8 dX4_tryDay_7 rfl rfl ?_
    refine J_icmp_ge C 11 23 dX4_tryDay_8 rfl rfl (fun c => ?_) (fun c => ?_)
    · have h := h.1 c
      exact J_vret C hr hk (v0, v0_0_3, v0_0_4) rfl dX4_tryDay_23 h
    · have h := h.2 c
      refine J_iload C 13 dX4_tryDay_11 rfl rfl ?_
      refine J_iconst C 14 dX4_tryDay_13 rfl ki_1 ?_
      refine J_iadd C 15 dX4_tryDay_14 rfl ?_
      refine J_nmi (y := 3) (by decide) ?_
      refine J_aload_n C 16 dX4_tryDay_15 rfl rfl ?_
      refine J_get C 19 4 inlX4 0 0 rfl rfl (by decide) wd109 rfl rfl dX4_tryDay_16 rfl ?_
      refine J_alen C 20 14 3 rfl rfl kn_5 dX4_tryDay_19 rfl ?_
      refine J_icmp_lt C 23 24 dX4_tryDay_20 rfl rfl (fun c => ?_) (fun c => ?_)
      · refine J_aload_n C 25 dX4_tryDay_24 rfl rfl ?_
        refine J_get C 28 4 inlX4 0 0 rfl rfl (by decide) wd109 rfl rfl dX4_tryDay_25 rfl ?_
        refine J_iload C 30 dX4_tryDay_28 rfl rfl ?_
        refine J_iconst C 31 dX4_tryDay_30 rfl ki_1 ?_
        refine J_iadd C 32 dX4_tryDay_31 rfl ?_
        refine J_nmi (y := 3) (by decide) ?_
        refine J_aald C 33 14 3 rfl rfl (by decide) (by unfold vp_in; decide) dX4_tryDay_32 rfl ?_
        refine J_astore C 35 [(5, .ref (q0_0 3)), (0, .ref a0), (1, .ref a1), (2, .ref a2), (3, .int x3), (4, .int 2)] dX4_tryDay_33 rfl (by decide) rfl ?_
        refine J_aload_n C 36 dX4_tryDay_35 rfl rfl ?_
        refine J_aload_n C 37 dX4_tryDay_36 rfl rfl ?_
        refine J_get C 40 4 inlX4 0 0 rfl rfl (by decide) wd109 rfl rfl dX4_tryDay_37 rfl ?_
        refine J_iload C 42 dX4_tryDay_40 rfl rfl ?_
        refine J_aald C 43 14 2 rfl rfl (by decide) (by unfold vp_in; decide) dX4_tryDay_42 rfl ?_
        refine J_getN C 46 6 inlX6 15 12 rfl rfl (by decide) (mi 37 rfl) rfl rfl dX4_tryDay_43 rfl ?_
        refine J_callBiV (Bs := [bX4 cI cJ cZ a0 r0 v0, bX3 cI cJ cZ a1 r1 v1, bX5 cI cJ cZ a2 r2 v2, bS cS 5 (r0 0) q0_0, bX6 cI cJ cZ 0 (q0_0 2) r0_0_2 v0_0_2, bX6 cI cJ cZ 0 (q0_0 3) r0_0_3 v0_0_3, bX6 cI cJ cZ 0 (q0_0 4) r0_0_4 v0_0_4]) (As := [.int (v0_0_2.1 12)]) C 49 (c_X5_skyOf l D cI cJ cZ cS a2 r2 v2 (v0_0_2.1 12) _ h) wd560 wd789 wd24 wd558 wd559 5 0 rfl rfl rfl hdX5_skyOf ⟨Nat.le_of_ble_eq_true rfl, Nat.le_of_ble_eq_true rfl⟩ ⟨Nat.zero_le _, Nat.zero_le _⟩ rfl (Nat.le_of_ble_eq_true rfl) [2] [0, 1, 3, 4, 5, 6] 7 rfl (by decide +kernel) rfl rfl (fun (u : Unit) => [bX5 cI cJ cZ a2 r2 v2]) (fun _ => rfl) [1, 2, 0, 3, 4, 5, 6] (by decide +kernel) (fun _ => rfl) rfl (fun (u : Unit) => [bX4 cI cJ cZ a0 r0 v0, bX3 cI cJ cZ a1 r1 v1, bX5 cI cJ cZ a2 r2 v2, bS cS 5 (r0 0) q0_0, bX6 cI cJ cZ 0 (q0_0 2) r0_0_2 v0_0_2, bX6 cI cJ cZ 0 (q0_0 3) r0_0_3 v0_0_3, bX6 cI cJ cZ 0 (q0_0 4) r0_0_4 v0_0_4]) (fun _ => rfl) dX4_tryDay_46 rfl (fun r_1 u h => ?_)
        refine J_istore C 51 [(6, .int r_1), (5, .ref (q0_0 3)), (0, .ref a0), (1, .ref a1), (2, .ref a2), (3, .int x3), (4, .int 2)] dX4_tryDay_49 rfl (by decide) rfl ?_
        refine J_iload C 53 dX4_tryDay_51 rfl rfl ?_
        refine J_iconst C 54 dX4_tryDay_53 rfl ki_1 ?_
        refine J_iadd C 55 dX4_tryDay_54 rfl ?_
        refine J_nmi (y := 3) (by decide) ?_
        refine J_iload_n C 56 dX4_tryDay_55 rfl rfl ?_
        refine J_icmp_ne C 59 63 dX4_tryDay_56 rfl rfl (fun c => ?_) (fun c => ?_)
        · have h := h.1 c
          refine J_iconst C 64 dX4_tryDay_63 rfl ki_0 ?_
          refine J_loc [2, 3, 4, 5, 6, 1, 0] rfl ?_
          exact wk_X4_tryDay_d2_c64 C hr hk v0 v0_0_3 v0_0_4 x3 r_1 0 h
        · have h := h.2 c
          refine J_iconst C 60 dX4_tryDay_59 rfl ki_1 ?_
          refine J_goto C 64 dX4_tryDay_60 rfl ?_
          refine J_loc [2, 3, 4, 5, 6, 1, 0] rfl ?_
          exact wk_X4_tryDay_d2_c64 C hr hk v0 v0_0_3 v0_0_4 x3 r_1 1 h
      · exact absurd c (by decide)
def wp_X4_tryDay_d1_c186 (v1 : Vl) (v2 : Vl) (v0_0_1 : Vl) (Q : Vl → Vl → Vl → Vl → Prop) (B69 : Vl → Vl → Vl → Vl → Int32 → Int32 → Int32 → Int32 → Prop) (v0 : Vl) (v0_0_2 : Vl) (v0_0_3 : Vl) (v0_0_4 : Vl) (y3 : Int32) (y6 : Int32) (y7 : Int32) (y8 : Int32) : Prop := ∀ x_12 : Int32, x_12 = y8 + 1 → B69 v0 v0_0_2 v0_0_3 v0_0_4 y3 y6 y7 x_12
set_option maxHeartbeats 4000000 in
set_option maxRecDepth 100000 in
theorem wk_X4_tryDay_d1_c186 {p : Program} {l : Launch} {e : Env} {s : State} {m : MethodId} {args : Array Value} {below : List Frame} {meth : Method} {c : Code} {D : GG} {A : Nat → Prop} {cI cJ cZ cS : ClassId} {a0 : Nat} {r0 : Nat → Nat} {a1 : Nat} {r1 : Nat → Nat} {a2 : Nat} {r2 : Nat → Nat} {q0_0 : Nat → Nat} {r0_0_1 : Nat → Nat} {r0_0_2 : Nat → Nat} {r0_0_3 : Nat → Nat} {r0_0_4 : Nat → Nat} {v1 : Vl} {v2 : Vl} {v0_0_1 : Vl} {B69 : Vl → Vl → Vl → Vl → Int32 → Int32 → Int32 → Int32 → Prop} {Q : Vl → Vl → Vl → Vl → Prop} (C : Cx p s m args c D (tyL cI cJ cZ cS) A RX4 cX4_tryDay 9) (hr : meth.sig.returnType = none) (hk : meth.locks = false) (hB69 : ∀ (v0 : Vl) (v0_0_2 : Vl) (v0_0_3 : Vl) (v0_0_4 : Vl) (y3 : Int32) (y6 : Int32) (y7 : Int32) (y8 : Int32), B69 v0 v0_0_2 v0_0_3 v0_0_4 y3 y6 y7 y8 → J p l e (rmk 6 151) s m args below meth c D A 9 0 0 (MQ below (va_Qv (fun (u : Vl × Vl × Vl × Vl) => Q u.1 u.2.1 u.2.2.1 u.2.2.2) (fun u t => va_P D.1 vwCl ((fun (u : Vl × Vl × Vl × Vl) => List.flatten [bX4 cI cJ cZ a0 r0 u.1, bX3 cI cJ cZ a1 r1 v1, bX5 cI cJ cZ a2 r2 v2, bS cS 5 (r0 0) q0_0, bX6 cI cJ cZ 0 (q0_0 1) r0_0_1 v0_0_1, bX6 cI cJ cZ 0 (q0_0 2) r0_0_2 u.2.1, bX6 cI cJ cZ 0 (q0_0 3) r0_0_3 u.2.2.1, bX6 cI cJ cZ 0 (q0_0 4) r0_0_4 u.2.2.2]) u) t.heap ∧ va_D A ((fun (u : Vl × Vl × Vl × Vl) => List.flatten [bX4 cI cJ cZ a0 r0 u.1, bX3 cI cJ cZ a1 r1 v1, bX5 cI cJ cZ a2 r2 v2, bS cS 5 (r0 0) q0_0, bX6 cI cJ cZ 0 (q0_0 1) r0_0_1 v0_0_1, bX6 cI cJ cZ 0 (q0_0 2) r0_0_2 u.2.1, bX6 cI cJ cZ 0 (q0_0 3) r0_0_3 u.2.2.1, bX6 cI cJ cZ 0 (q0_0 4) r0_0_4 u.2.2.2]) u)) A) args s 0 0 A) 69 [(0, .ref a0), (1, .ref a1), (2, .ref a2), (3, .int y3), (4, .int 1), (5, .ref (q0_0 2)), (6, .int y6), (7, .int y7), (8, .int y8)] [] (List.flatten [bX4 cI cJ cZ a0 r0 v0, bX3 cI cJ cZ a1 r1 v1, bX5 cI cJ cZ a2 r2 v2, bS cS 5 (r0 0) q0_0, bX6 cI cJ cZ 0 (q0_0 1) r0_0_1 v0_0_1, bX6 cI cJ cZ 0 (q0_0 2) r0_0_2 v0_0_2, bX6 cI cJ cZ 0 (q0_0 3) r0_0_3 v0_0_3, bX6 cI cJ cZ 0 (q0_0 4) r0_0_4 v0_0_4])) : ∀ (v0 : Vl) (v0_0_2 : Vl) (v0_0_3 : Vl) (v0_0_4 : Vl) (y3 : Int32) (y6 : Int32) (y7 : Int32) (y8 : Int32), wp_X4_tryDay_d1_c186 v1 v2 v0_0_1 Q B69 v0 v0_0_2 v0_0_3 v0_0_4 y3 y6 y7 y8 → J p l e (rmk 6 151) s m args below meth c D A 9 0 0 (MQ below (va_Qv (fun (u : Vl × Vl × Vl × Vl) => Q u.1 u.2.1 u.2.2.1 u.2.2.2) (fun u t => va_P D.1 vwCl ((fun (u : Vl × Vl × Vl × Vl) => List.flatten [bX4 cI cJ cZ a0 r0 u.1, bX3 cI cJ cZ a1 r1 v1, bX5 cI cJ cZ a2 r2 v2, bS cS 5 (r0 0) q0_0, bX6 cI cJ cZ 0 (q0_0 1) r0_0_1 v0_0_1, bX6 cI cJ cZ 0 (q0_0 2) r0_0_2 u.2.1, bX6 cI cJ cZ 0 (q0_0 3) r0_0_3 u.2.2.1, bX6 cI cJ cZ 0 (q0_0 4) r0_0_4 u.2.2.2]) u) t.heap ∧ va_D A ((fun (u : Vl × Vl × Vl × Vl) => List.flatten [bX4 cI cJ cZ a0 r0 u.1, bX3 cI cJ cZ a1 r1 v1, bX5 cI cJ cZ a2 r2 v2, bS cS 5 (r0 0) q0_0, bX6 cI cJ cZ 0 (q0_0 1) r0_0_1 v0_0_1, bX6 cI cJ cZ 0 (q0_0 2) r0_0_2 u.2.1, bX6 cI cJ cZ 0 (q0_0 3) r0_0_3 u.2.2.1, bX6 cI cJ cZ 0 (q0_0 4) r0_0_4 u.2.2.2]) u)) A) args s 0 0 A) 186 [(0, .ref a0), (1, .ref a1), (2, .ref a2), (3, .int y3), (4, .int 1), (5, .ref (q0_0 2)), (6, .int y6), (7, .int y7), (8, .int y8)] [] (List.flatten [bX4 cI cJ cZ a0 r0 v0, bX3 cI cJ cZ a1 r1 v1, bX5 cI cJ cZ a2 r2 v2, bS cS 5 (r0 0) q0_0, bX6 cI cJ cZ 0 (q0_0 1) r0_0_1 v0_0_1, bX6 cI cJ cZ 0 (q0_0 2) r0_0_2 v0_0_2, bX6 cI cJ cZ 0 (q0_0 3) r0_0_3 v0_0_3, bX6 cI cJ cZ 0 (q0_0 4) r0_0_4 v0_0_4]) := by
  intro v0 v0_0_2 v0_0_3 v0_0_4 y3 y6 y7 y8 h
  obtain ⟨x_12, ex_12⟩ : ∃ z : Int32, z = y8 + 1 := ⟨_, rfl⟩
  have h := h x_12 ex_12
  refine J_iinc C 189 [(8, .int x_12), (0, .ref a0), (1, .ref a1), (2, .ref a2), (3, .int y3), (4, .int 1), (5, .ref (q0_0 2)), (6, .int y6), (7, .int y7)] dX4_tryDay_186 rfl rfl ((kinc_1 _).trans ex_12.symm) (by decide) rfl ?_
  refine J_goto C 69 dX4_tryDay_189 rfl ?_
  refine J_loc [1, 2, 3, 4, 5, 6, 7, 8, 0] rfl ?_
  exact hB69 v0 v0_0_2 v0_0_3 v0_0_4 y3 y6 y7 x_12 h
def wp_X4_tryDay_d1_c110 (v1 : Vl) (v2 : Vl) (v0_0_1 : Vl) (Q : Vl → Vl → Vl → Vl → Prop) (B69 : Vl → Vl → Vl → Vl → Int32 → Int32 → Int32 → Int32 → Prop) (v0 : Vl) (v0_0_2 : Vl) (v0_0_3 : Vl) (v0_0_4 : Vl) (y3 : Int32) (y6 : Int32) (y7 : Int32) (y8 : Int32) : Prop := wp_X6_copyFrom 0 v0_0_2 0 v0_0_1 (fun u_2 => ∀ v002s_3 : Vl, v002s_3 = setI u_2 9 y8 → wp_X6_live 0 v002s_3 v1 y6 (fun r_5 u_4 => wp_X8_put 4 (v0.2.2.1 1) 1 y8 (fun u_6 => ∀ v0s_7 : Vl, v0s_7 = setRA v0 1 u_6 → wp_X4_isBetter v0s_7 0 u_4 (fun r_8 => ((¬ r_8 = 0 → ((y7 = 0 → wp_X4_tryDay_d2 v0s_7 v1 v2 u_4 v0_0_3 v0_0_4 y3 (fun u_9 u_10 u_11 => wp_X4_tryDay_d1_c186 v1 v2 v0_0_1 Q B69 u_9 u_4 u_10 u_11 y3 y6 y7 y8)) ∧ (¬ y7 = 0 → wp_X4_takeRow v0s_7 0 u_4 (fun u_13 => wp_X4_tryDay_d1_c186 v1 v2 v0_0_1 Q B69 u_13 u_4 v0_0_3 v0_0_4 y3 y6 y7 y8)))) ∧ (r_8 = 0 → wp_X4_tryDay_d1_c186 v1 v2 v0_0_1 Q B69 v0s_7 u_4 v0_0_3 v0_0_4 y3 y6 y7 y8))))))
set_option maxHeartbeats 4000000 in
set_option maxRecDepth 100000 in
theorem wk_X4_tryDay_d1_c110 {p : Program} {l : Launch} {e : Env} {s : State} {m : MethodId} {args : Array Value} {below : List Frame} {meth : Method} {c : Code} {D : GG} {A : Nat → Prop} {cI cJ cZ cS : ClassId} {a0 : Nat} {r0 : Nat → Nat} {a1 : Nat} {r1 : Nat → Nat} {a2 : Nat} {r2 : Nat → Nat} {q0_0 : Nat → Nat} {r0_0_1 : Nat → Nat} {r0_0_2 : Nat → Nat} {r0_0_3 : Nat → Nat} {r0_0_4 : Nat → Nat} {v1 : Vl} {v2 : Vl} {v0_0_1 : Vl} {B69 : Vl → Vl → Vl → Vl → Int32 → Int32 → Int32 → Int32 → Prop} {Q : Vl → Vl → Vl → Vl → Prop} (C : Cx p s m args c D (tyL cI cJ cZ cS) A RX4 cX4_tryDay 9) (hr : meth.sig.returnType = none) (hk : meth.locks = false) (hB69 : ∀ (v0 : Vl) (v0_0_2 : Vl) (v0_0_3 : Vl) (v0_0_4 : Vl) (y3 : Int32) (y6 : Int32) (y7 : Int32) (y8 : Int32), B69 v0 v0_0_2 v0_0_3 v0_0_4 y3 y6 y7 y8 → J p l e (rmk 6 151) s m args below meth c D A 9 0 0 (MQ below (va_Qv (fun (u : Vl × Vl × Vl × Vl) => Q u.1 u.2.1 u.2.2.1 u.2.2.2) (fun u t => va_P D.1 vwCl ((fun (u : Vl × Vl × Vl × Vl) => List.flatten [bX4 cI cJ cZ a0 r0 u.1, bX3 cI cJ cZ a1 r1 v1, bX5 cI cJ cZ a2 r2 v2, bS cS 5 (r0 0) q0_0, bX6 cI cJ cZ 0 (q0_0 1) r0_0_1 v0_0_1, bX6 cI cJ cZ 0 (q0_0 2) r0_0_2 u.2.1, bX6 cI cJ cZ 0 (q0_0 3) r0_0_3 u.2.2.1, bX6 cI cJ cZ 0 (q0_0 4) r0_0_4 u.2.2.2]) u) t.heap ∧ va_D A ((fun (u : Vl × Vl × Vl × Vl) => List.flatten [bX4 cI cJ cZ a0 r0 u.1, bX3 cI cJ cZ a1 r1 v1, bX5 cI cJ cZ a2 r2 v2, bS cS 5 (r0 0) q0_0, bX6 cI cJ cZ 0 (q0_0 1) r0_0_1 v0_0_1, bX6 cI cJ cZ 0 (q0_0 2) r0_0_2 u.2.1, bX6 cI cJ cZ 0 (q0_0 3) r0_0_3 u.2.2.1, bX6 cI cJ cZ 0 (q0_0 4) r0_0_4 u.2.2.2]) u)) A) args s 0 0 A) 69 [(0, .ref a0), (1, .ref a1), (2, .ref a2), (3, .int y3), (4, .int 1), (5, .ref (q0_0 2)), (6, .int y6), (7, .int y7), (8, .int y8)] [] (List.flatten [bX4 cI cJ cZ a0 r0 v0, bX3 cI cJ cZ a1 r1 v1, bX5 cI cJ cZ a2 r2 v2, bS cS 5 (r0 0) q0_0, bX6 cI cJ cZ 0 (q0_0 1) r0_0_1 v0_0_1, bX6 cI cJ cZ 0 (q0_0 2) r0_0_2 v0_0_2, bX6 cI cJ cZ 0 (q0_0 3) r0_0_3 v0_0_3, bX6 cI cJ cZ 0 (q0_0 4) r0_0_4 v0_0_4])) : ∀ (v0 : Vl) (v0_0_2 : Vl) (v0_0_3 : Vl) (v0_0_4 : Vl) (y3 : Int32) (y6 : Int32) (y7 : Int32) (y8 : Int32), wp_X4_tryDay_d1_c110 v1 v2 v0_0_1 Q B69 v0 v0_0_2 v0_0_3 v0_0_4 y3 y6 y7 y8 → J p l e (rmk 6 151) s m args below meth c D A 9 0 0 (MQ below (va_Qv (fun (u : Vl × Vl × Vl × Vl) => Q u.1 u.2.1 u.2.2.1 u.2.2.2) (fun u t => va_P D.1 vwCl ((fun (u : Vl × Vl × Vl × Vl) => List.flatten [bX4 cI cJ cZ a0 r0 u.1, bX3 cI cJ cZ a1 r1 v1, bX5 cI cJ cZ a2 r2 v2, bS cS 5 (r0 0) q0_0, bX6 cI cJ cZ 0 (q0_0 1) r0_0_1 v0_0_1, bX6 cI cJ cZ 0 (q0_0 2) r0_0_2 u.2.1, bX6 cI cJ cZ 0 (q0_0 3) r0_0_3 u.2.2.1, bX6 cI cJ cZ 0 (q0_0 4) r0_0_4 u.2.2.2]) u) t.heap ∧ va_D A ((fun (u : Vl × Vl × Vl × Vl) => List.flatten [bX4 cI cJ cZ a0 r0 u.1, bX3 cI cJ cZ a1 r1 v1, bX5 cI cJ cZ a2 r2 v2, bS cS 5 (r0 0) q0_0, bX6 cI cJ cZ 0 (q0_0 1) r0_0_1 v0_0_1, bX6 cI cJ cZ 0 (q0_0 2) r0_0_2 u.2.1, bX6 cI cJ cZ 0 (q0_0 3) r0_0_3 u.2.2.1, bX6 cI cJ cZ 0 (q0_0 4) r0_0_4 u.2.2.2]) u)) A) args s 0 0 A) 110 [(0, .ref a0), (1, .ref a1), (2, .ref a2), (3, .int y3), (4, .int 1), (5, .ref (q0_0 2)), (6, .int y6), (7, .int y7), (8, .int y8)] [] (List.flatten [bX4 cI cJ cZ a0 r0 v0, bX3 cI cJ cZ a1 r1 v1, bX5 cI cJ cZ a2 r2 v2, bS cS 5 (r0 0) q0_0, bX6 cI cJ cZ 0 (q0_0 1) r0_0_1 v0_0_1, bX6 cI cJ cZ 0 (q0_0 2) r0_0_2 v0_0_2, bX6 cI cJ cZ 0 (q0_0 3) r0_0_3 v0_0_3, bX6 cI cJ cZ 0 (q0_0 4) r0_0_4 v0_0_4]) := by
  intro v0 v0_0_2 v0_0_3 v0_0_4 y3 y6 y7 y8 h
  refine J_aload C 112 dX4_tryDay_110 rfl rfl ?_
  refine J_aload_n C 113 dX4_tryDay_112 rfl rfl ?_
  refine J_get C 116 4 inlX4 0 0 rfl rfl (by decide) wd109 rfl rfl dX4_tryDay_113 rfl ?_
  refine J_iload C 118 dX4_tryDay_116 rfl rfl ?_
  refine J_aald C 119 14 1 rfl rfl (by decide) (by unfold vp_in; decide) dX4_tryDay_118 rfl ?_
  refine J_callBvV (Bs := [bX4 cI cJ cZ a0 r0 v0, bX3 cI cJ cZ a1 r1 v1, bX5 cI cJ cZ a2 r2 v2, bS cS 5 (r0 0) q0_0, bX6 cI cJ cZ 0 (q0_0 1) r0_0_1 v0_0_1, bX6 cI cJ cZ 0 (q0_0 2) r0_0_2 v0_0_2, bX6 cI cJ cZ 0 (q0_0 3) r0_0_3 v0_0_3, bX6 cI cJ cZ 0 (q0_0 4) r0_0_4 v0_0_4]) (As := [.ref (q0_0 1)]) C 122 (c_X6_copyFrom l D cI cJ cZ cS 0 (q0_0 2) r0_0_2 v0_0_2 0 (q0_0 1) r0_0_1 v0_0_1 _ h) wd777 wd774 wd29 wd775 wd776 6 0 rfl rfl rfl hdX6_copyFrom ⟨Nat.le_of_ble_eq_true rfl, Nat.le_of_ble_eq_true rfl⟩ ⟨Nat.zero_le _, Nat.zero_le _⟩ rfl (Nat.le_of_ble_eq_true rfl) [5, 4] [0, 1, 2, 3, 6, 7] 8 rfl (by decide +kernel) rfl rfl (fun (u : Vl) => [bX6 cI cJ cZ 0 (q0_0 2) r0_0_2 u, bX6 cI cJ cZ 0 (q0_0 1) r0_0_1 v0_0_1]) (fun _ => rfl) [2, 3, 4, 5, 1, 0, 6, 7] (by decide +kernel) (fun _ => rfl) rfl (fun (u : Vl) => [bX4 cI cJ cZ a0 r0 v0, bX3 cI cJ cZ a1 r1 v1, bX5 cI cJ cZ a2 r2 v2, bS cS 5 (r0 0) q0_0, bX6 cI cJ cZ 0 (q0_0 1) r0_0_1 v0_0_1, bX6 cI cJ cZ 0 (q0_0 2) r0_0_2 u, bX6 cI cJ cZ 0 (q0_0 3) r0_0_3 v0_0_3, bX6 cI cJ cZ 0 (q0_0 4) r0_0_4 v0_0_4]) (fun _ => rfl) dX4_tryDay_119 rfl (fun u h => ?_)
  obtain ⟨u_2, hu⟩ : ∃ z, z = u := ⟨_, rfl⟩
  subst hu
  refine J_aload C 124 dX4_tryDay_122 rfl rfl ?_
  refine J_iload C 126 dX4_tryDay_124 rfl rfl ?_
  obtain ⟨v002s_3, ev002s_3⟩ : ∃ z : Vl, z = setI u_2 9 y8 := ⟨_, rfl⟩
  have h := h v002s_3 ev002s_3
  refine J_putN C 129 6 inlX6 tyX6 tyX6_ok nmX6 21 9 rfl rfl (by decide) (mi 39 rfl) rfl rfl rfl rfl rfl (List.flatten [bX4 cI cJ cZ a0 r0 v0, bX3 cI cJ cZ a1 r1 v1, bX5 cI cJ cZ a2 r2 v2, bS cS 5 (r0 0) q0_0, bX6 cI cJ cZ 0 (q0_0 1) r0_0_1 v0_0_1, bX6 cI cJ cZ 0 (q0_0 2) r0_0_2 v002s_3, bX6 cI cJ cZ 0 (q0_0 3) r0_0_3 v0_0_3, bX6 cI cJ cZ 0 (q0_0 4) r0_0_4 v0_0_4]) (by subst ev002s_3; rfl) dX4_tryDay_126 rfl ?_
  refine J_aload C 131 dX4_tryDay_129 rfl rfl ?_
  refine J_aload_n C 132 dX4_tryDay_131 rfl rfl ?_
  refine J_iload C 134 dX4_tryDay_132 rfl rfl ?_
  refine J_callBiV (Bs := [bX4 cI cJ cZ a0 r0 v0, bX3 cI cJ cZ a1 r1 v1, bX5 cI cJ cZ a2 r2 v2, bS cS 5 (r0 0) q0_0, bX6 cI cJ cZ 0 (q0_0 1) r0_0_1 v0_0_1, bX6 cI cJ cZ 0 (q0_0 2) r0_0_2 v002s_3, bX6 cI cJ cZ 0 (q0_0 3) r0_0_3 v0_0_3, bX6 cI cJ cZ 0 (q0_0 4) r0_0_4 v0_0_4]) (As := [.ref a1, .int y6]) C 137 (c_X6_live l D cI cJ cZ cS 0 (q0_0 2) r0_0_2 v002s_3 a1 r1 v1 y6 _ h) wd613 wd794 wd29 wd611 wd612 6 0 rfl rfl rfl hdX6_live ⟨Nat.le_of_ble_eq_true rfl, Nat.le_of_ble_eq_true rfl⟩ ⟨Nat.zero_le _, Nat.zero_le _⟩ rfl (Nat.le_of_ble_eq_true rfl) [5, 1] [0, 2, 3, 4, 6, 7] 8 rfl (by decide +kernel) rfl rfl (fun (u : Vl) => [bX6 cI cJ cZ 0 (q0_0 2) r0_0_2 u, bX3 cI cJ cZ a1 r1 v1]) (fun _ => rfl) [2, 1, 3, 4, 5, 0, 6, 7] (by decide +kernel) (fun _ => rfl) rfl (fun (u : Vl) => [bX4 cI cJ cZ a0 r0 v0, bX3 cI cJ cZ a1 r1 v1, bX5 cI cJ cZ a2 r2 v2, bS cS 5 (r0 0) q0_0, bX6 cI cJ cZ 0 (q0_0 1) r0_0_1 v0_0_1, bX6 cI cJ cZ 0 (q0_0 2) r0_0_2 u, bX6 cI cJ cZ 0 (q0_0 3) r0_0_3 v0_0_3, bX6 cI cJ cZ 0 (q0_0 4) r0_0_4 v0_0_4]) (fun _ => rfl) dX4_tryDay_134 rfl (fun r_5 u h => ?_)
  obtain ⟨u_4, hu⟩ : ∃ z, z = u := ⟨_, rfl⟩
  subst hu
  refine J_pop C 138 dX4_tryDay_137 rfl rfl ?_
  refine J_aload_n C 139 dX4_tryDay_138 rfl rfl ?_
  refine J_get C 142 4 inlX4 0 1 rfl rfl (by decide) wd110 rfl rfl dX4_tryDay_139 rfl ?_
  refine J_iload C 144 dX4_tryDay_142 rfl rfl ?_
  refine J_iload C 146 dX4_tryDay_144 rfl rfl ?_
  refine J_call1vSN (As := [.ref (r0 1), .int 1, .int y8]) C 149 (c_X8_put l D cI cJ cZ cS 4 (r0 1) (v0.2.2.1 1) 1 y8 _ h) wd83 (mi 57 rfl) wd2 wd82 hdX8_put ⟨Nat.le_of_ble_eq_true rfl, Nat.le_of_ble_eq_true rfl⟩ ⟨Nat.zero_le _, Nat.zero_le _⟩ rfl (Nat.le_of_ble_eq_true rfl) 1 rfl (fun u => .inl (cI, 4, .inl u)) (fun _ => rfl) (fun (u : (Nat → Int32)) => List.flatten [bX4 cI cJ cZ a0 r0 (setRA v0 1 u), bX3 cI cJ cZ a1 r1 v1, bX5 cI cJ cZ a2 r2 v2, bS cS 5 (r0 0) q0_0, bX6 cI cJ cZ 0 (q0_0 1) r0_0_1 v0_0_1, bX6 cI cJ cZ 0 (q0_0 2) r0_0_2 u_4, bX6 cI cJ cZ 0 (q0_0 3) r0_0_3 v0_0_3, bX6 cI cJ cZ 0 (q0_0 4) r0_0_4 v0_0_4]) (fun _ => rfl) dX4_tryDay_146 rfl (fun u h => ?_)
  obtain ⟨u_6, hu⟩ : ∃ z, z = u := ⟨_, rfl⟩
  subst hu
  obtain ⟨v0s_7, ev0s_7⟩ : ∃ z : Vl, z = setRA v0 1 u_6 := ⟨_, rfl⟩
  have h := h v0s_7 ev0s_7
  refine J_ws (ws' := List.flatten [bX4 cI cJ cZ a0 r0 v0s_7, bX3 cI cJ cZ a1 r1 v1, bX5 cI cJ cZ a2 r2 v2, bS cS 5 (r0 0) q0_0, bX6 cI cJ cZ 0 (q0_0 1) r0_0_1 v0_0_1, bX6 cI cJ cZ 0 (q0_0 2) r0_0_2 u_4, bX6 cI cJ cZ 0 (q0_0 3) r0_0_3 v0_0_3, bX6 cI cJ cZ 0 (q0_0 4) r0_0_4 v0_0_4]) (by subst ev0s_7; rfl) ?_
  refine J_aload_n C 150 dX4_tryDay_149 rfl rfl ?_
  refine J_aload C 152 dX4_tryDay_150 rfl rfl ?_
  refine J_callBiV (Bs := [bX4 cI cJ cZ a0 r0 v0s_7, bX3 cI cJ cZ a1 r1 v1, bX5 cI cJ cZ a2 r2 v2, bS cS 5 (r0 0) q0_0, bX6 cI cJ cZ 0 (q0_0 1) r0_0_1 v0_0_1, bX6 cI cJ cZ 0 (q0_0 2) r0_0_2 u_4, bX6 cI cJ cZ 0 (q0_0 3) r0_0_3 v0_0_3, bX6 cI cJ cZ 0 (q0_0 4) r0_0_4 v0_0_4]) (As := [.ref (q0_0 2)]) C 155 (c_X4_isBetter l D cI cJ cZ cS a0 r0 v0s_7 0 (q0_0 2) r0_0_2 u_4 _ h) wd798 wd795 wd36 wd796 wd797 4 0 rfl rfl rfl hdX4_isBetter ⟨Nat.le_of_ble_eq_true rfl, Nat.le_of_ble_eq_true rfl⟩ ⟨Nat.zero_le _, Nat.zero_le _⟩ rfl (Nat.le_of_ble_eq_true rfl) [0, 5] [1, 2, 3, 4, 6, 7] 8 rfl (by decide +kernel) rfl rfl (fun (u : Unit) => [bX4 cI cJ cZ a0 r0 v0s_7, bX6 cI cJ cZ 0 (q0_0 2) r0_0_2 u_4]) (fun _ => rfl) [0, 2, 3, 4, 5, 1, 6, 7] (by decide +kernel) (fun _ => rfl) rfl (fun (u : Unit) => [bX4 cI cJ cZ a0 r0 v0s_7, bX3 cI cJ cZ a1 r1 v1, bX5 cI cJ cZ a2 r2 v2, bS cS 5 (r0 0) q0_0, bX6 cI cJ cZ 0 (q0_0 1) r0_0_1 v0_0_1, bX6 cI cJ cZ 0 (q0_0 2) r0_0_2 u_4, bX6 cI cJ cZ 0 (q0_0 3) r0_0_3 v0_0_3, bX6 cI cJ cZ 0 (q0_0 4) r0_0_4 v0_0_4]) (fun _ => rfl) dX4_tryDay_152 rfl (fun r_8 u h => ?_)
  refine J_if_ne C 158 161 dX4_tryDay_155 rfl rfl (fun c => ?_) (fun c => ?_)
  · have h := h.1 c
    refine J_iload C 163 dX4_tryDay_161 rfl rfl ?_
    refine J_if_eq C 166 175 dX4_tryDay_163 rfl rfl (fun c => ?_) (fun c => ?_)
    · have h := h.1 c
      refine J_aload_n C 176 dX4_tryDay_175 rfl rfl ?_
      refine J_aload_n C 177 dX4_tryDay_176 rfl rfl ?_
      refine J_aload_n C 178 dX4_tryDay_177 rfl rfl ?_
      refine J_iload_n C 179 dX4_tryDay_178 rfl rfl ?_
      refine J_iload C 181 dX4_tryDay_179 rfl rfl ?_
      refine J_iconst C 182 dX4_tryDay_181 rfl ki_1 ?_
      refine J_iadd C 183 dX4_tryDay_182 rfl ?_
      refine J_nmi (y := 2) (by decide) ?_
      refine J_callBvV (Bs := [bX4 cI cJ cZ a0 r0 v0s_7, bX3 cI cJ cZ a1 r1 v1, bX5 cI cJ cZ a2 r2 v2, bS cS 5 (r0 0) q0_0, bX6 cI cJ cZ 0 (q0_0 1) r0_0_1 v0_0_1, bX6 cI cJ cZ 0 (q0_0 2) r0_0_2 u_4, bX6 cI cJ cZ 0 (q0_0 3) r0_0_3 v0_0_3, bX6 cI cJ cZ 0 (q0_0 4) r0_0_4 v0_0_4]) (As := [.ref a1, .ref a2, .int y3, .int 2]) C 186 (c_X4_tryDay_d2 l D cI cJ cZ cS a0 r0 v0s_7 a1 r1 v1 a2 r2 v2 q0_0 r0_0_2 u_4 r0_0_3 v0_0_3 r0_0_4 v0_0_4 y3 _ h) wd788 wd785 wd36 wd786 wd787 4 0 rfl rfl rfl hdX4_tryDay ⟨Nat.le_of_ble_eq_true rfl, Nat.le_of_ble_eq_true rfl⟩ ⟨Nat.zero_le _, Nat.zero_le _⟩ rfl (Nat.le_of_ble_eq_true rfl) [0, 1, 2, 3, 5, 6, 7] [4] 8 rfl (by decide +kernel) rfl rfl (fun (u : Vl × Vl × Vl) => [bX4 cI cJ cZ a0 r0 u.1, bX3 cI cJ cZ a1 r1 v1, bX5 cI cJ cZ a2 r2 v2, bS cS 5 (r0 0) q0_0, bX6 cI cJ cZ 0 (q0_0 2) r0_0_2 u_4, bX6 cI cJ cZ 0 (q0_0 3) r0_0_3 u.2.1, bX6 cI cJ cZ 0 (q0_0 4) r0_0_4 u.2.2]) (fun _ => rfl) [0, 1, 2, 3, 7, 4, 5, 6] (by decide +kernel) (fun _ => rfl) rfl (fun (u : Vl × Vl × Vl) => [bX4 cI cJ cZ a0 r0 u.1, bX3 cI cJ cZ a1 r1 v1, bX5 cI cJ cZ a2 r2 v2, bS cS 5 (r0 0) q0_0, bX6 cI cJ cZ 0 (q0_0 1) r0_0_1 v0_0_1, bX6 cI cJ cZ 0 (q0_0 2) r0_0_2 u_4, bX6 cI cJ cZ 0 (q0_0 3) r0_0_3 u.2.1, bX6 cI cJ cZ 0 (q0_0 4) r0_0_4 u.2.2]) (fun _ => rfl) dX4_tryDay_183 rfl (fun u h => ?_)
      obtain ⟨u_9, u_10, u_11⟩ := u
      refine J_loc [0, 1, 2, 3, 4, 5, 6, 7, 8] rfl ?_
      exact wk_X4_tryDay_d1_c186 C hr hk hB69 u_9 u_4 u_10 u_11 y3 y6 y7 y8 h
    · have h := h.2 c
      refine J_aload_n C 167 dX4_tryDay_166 rfl rfl ?_
      refine J_aload C 169 dX4_tryDay_167 rfl rfl ?_
      refine J_callBvV (Bs := [bX4 cI cJ cZ a0 r0 v0s_7, bX3 cI cJ cZ a1 r1 v1, bX5 cI cJ cZ a2 r2 v2, bS cS 5 (r0 0) q0_0, bX6 cI cJ cZ 0 (q0_0 1) r0_0_1 v0_0_1, bX6 cI cJ cZ 0 (q0_0 2) r0_0_2 u_4, bX6 cI cJ cZ 0 (q0_0 3) r0_0_3 v0_0_3, bX6 cI cJ cZ 0 (q0_0 4) r0_0_4 v0_0_4]) (As := [.ref (q0_0 2)]) C 172 (c_X4_takeRow l D cI cJ cZ cS a0 r0 v0s_7 0 (q0_0 2) r0_0_2 u_4 _ h) wd802 wd799 wd36 wd800 wd801 4 0 rfl rfl rfl hdX4_takeRow ⟨Nat.le_of_ble_eq_true rfl, Nat.le_of_ble_eq_true rfl⟩ ⟨Nat.zero_le _, Nat.zero_le _⟩ rfl (Nat.le_of_ble_eq_true rfl) [0, 5] [1, 2, 3, 4, 6, 7] 8 rfl (by decide +kernel) rfl rfl (fun (u : Vl) => [bX4 cI cJ cZ a0 r0 u, bX6 cI cJ cZ 0 (q0_0 2) r0_0_2 u_4]) (fun _ => rfl) [0, 2, 3, 4, 5, 1, 6, 7] (by decide +kernel) (fun _ => rfl) rfl (fun (u : Vl) => [bX4 cI cJ cZ a0 r0 u, bX3 cI cJ cZ a1 r1 v1, bX5 cI cJ cZ a2 r2 v2, bS cS 5 (r0 0) q0_0, bX6 cI cJ cZ 0 (q0_0 1) r0_0_1 v0_0_1, bX6 cI cJ cZ 0 (q0_0 2) r0_0_2 u_4, bX6 cI cJ cZ 0 (q0_0 3) r0_0_3 v0_0_3, bX6 cI cJ cZ 0 (q0_0 4) r0_0_4 v0_0_4]) (fun _ => rfl) dX4_tryDay_169 rfl (fun u h => ?_)
      obtain ⟨u_13, hu⟩ : ∃ z, z = u := ⟨_, rfl⟩
      subst hu
      refine J_goto C 186 dX4_tryDay_172 rfl ?_
      refine J_loc [0, 1, 2, 3, 4, 5, 6, 7, 8] rfl ?_
      exact wk_X4_tryDay_d1_c186 C hr hk hB69 u_13 u_4 v0_0_3 v0_0_4 y3 y6 y7 y8 h
  · have h := h.2 c
    refine J_goto C 186 dX4_tryDay_158 rfl ?_
    refine J_loc [0, 1, 2, 3, 4, 5, 6, 7, 8] rfl ?_
    exact wk_X4_tryDay_d1_c186 C hr hk hB69 v0s_7 u_4 v0_0_3 v0_0_4 y3 y6 y7 y8 h
def wp_X4_tryDay_d1_c69 (v1 : Vl) (v2 : Vl) (v0_0_1 : Vl) (Q : Vl → Vl → Vl → Vl → Prop) : Nat → Vl → Vl → Vl → Vl → Int32 → Int32 → Int32 → Int32 → Prop
  | 0 => fun _ _ _ _ _ _ _ _ => False
  | n + 1 => fun v0 v0_0_2 v0_0_3 v0_0_4 y3 y6 y7 y8 => (((v1.1 7) ≤ y8 → Q v0 v0_0_2 v0_0_3 v0_0_4) ∧ (¬ (v1.1 7) ≤ y8 → ((y7 = 0 → wp_X4_tryDay_d1_c110 v1 v2 v0_0_1 Q (wp_X4_tryDay_d1_c69 v1 v2 v0_0_1 Q n) v0 v0_0_2 v0_0_3 v0_0_4 y3 y6 y7 y8) ∧ (¬ y7 = 0 → ((y8 = (-1) → wp_X4_tryDay_d1_c110 v1 v2 v0_0_1 Q (wp_X4_tryDay_d1_c69 v1 v2 v0_0_1 Q n) v0 v0_0_2 v0_0_3 v0_0_4 y3 y6 y7 y8) ∧ (¬ y8 = (-1) → wp_X6_isFillingBy 0 v0_0_1 v1 y6 y8 (fun r_14 => ((¬ r_14 = 0 → wp_X4_tryDay_d1_c110 v1 v2 v0_0_1 Q (wp_X4_tryDay_d1_c69 v1 v2 v0_0_1 Q n) v0 v0_0_2 v0_0_3 v0_0_4 y3 y6 y7 y8) ∧ (r_14 = 0 → wp_X4_tryDay_d1_c186 v1 v2 v0_0_1 Q (wp_X4_tryDay_d1_c69 v1 v2 v0_0_1 Q n) v0 v0_0_2 v0_0_3 v0_0_4 y3 y6 y7 y8)))))))))
set_option maxHeartbeats 4000000 in
set_option maxRecDepth 100000 in
theorem wk_X4_tryDay_d1_c69 {p : Program} {l : Launch} {e : Env} {s : State} {m : MethodId} {args : Array Value} {below : List Frame} {meth : Method} {c : Code} {D : GG} {A : Nat → Prop} {cI cJ cZ cS : ClassId} {a0 : Nat} {r0 : Nat → Nat} {a1 : Nat} {r1 : Nat → Nat} {a2 : Nat} {r2 : Nat → Nat} {q0_0 : Nat → Nat} {r0_0_1 : Nat → Nat} {r0_0_2 : Nat → Nat} {r0_0_3 : Nat → Nat} {r0_0_4 : Nat → Nat} {v1 : Vl} {v2 : Vl} {v0_0_1 : Vl} {Q : Vl → Vl → Vl → Vl → Prop} (C : Cx p s m args c D (tyL cI cJ cZ cS) A RX4 cX4_tryDay 9) (hr : meth.sig.returnType = none) (hk : meth.locks = false) : ∀ (n : Nat) (v0 : Vl) (v0_0_2 : Vl) (v0_0_3 : Vl) (v0_0_4 : Vl) (y3 : Int32) (y6 : Int32) (y7 : Int32) (y8 : Int32), wp_X4_tryDay_d1_c69 v1 v2 v0_0_1 Q n v0 v0_0_2 v0_0_3 v0_0_4 y3 y6 y7 y8 → J p l e (rmk 6 151) s m args below meth c D A 9 0 0 (MQ below (va_Qv (fun (u : Vl × Vl × Vl × Vl) => Q u.1 u.2.1 u.2.2.1 u.2.2.2) (fun u t => va_P D.1 vwCl ((fun (u : Vl × Vl × Vl × Vl) => List.flatten [bX4 cI cJ cZ a0 r0 u.1, bX3 cI cJ cZ a1 r1 v1, bX5 cI cJ cZ a2 r2 v2, bS cS 5 (r0 0) q0_0, bX6 cI cJ cZ 0 (q0_0 1) r0_0_1 v0_0_1, bX6 cI cJ cZ 0 (q0_0 2) r0_0_2 u.2.1, bX6 cI cJ cZ 0 (q0_0 3) r0_0_3 u.2.2.1, bX6 cI cJ cZ 0 (q0_0 4) r0_0_4 u.2.2.2]) u) t.heap ∧ va_D A ((fun (u : Vl × Vl × Vl × Vl) => List.flatten [bX4 cI cJ cZ a0 r0 u.1, bX3 cI cJ cZ a1 r1 v1, bX5 cI cJ cZ a2 r2 v2, bS cS 5 (r0 0) q0_0, bX6 cI cJ cZ 0 (q0_0 1) r0_0_1 v0_0_1, bX6 cI cJ cZ 0 (q0_0 2) r0_0_2 u.2.1, bX6 cI cJ cZ 0 (q0_0 3) r0_0_3 u.2.2.1, bX6 cI cJ cZ 0 (q0_0 4) r0_0_4 u.2.2.2]) u)) A) args s 0 0 A) 69 [(0, .ref a0), (1, .ref a1), (2, .ref a2), (3, .int y3), (4, .int 1), (5, .ref (q0_0 2)), (6, .int y6), (7, .int y7), (8, .int y8)] [] (List.flatten [bX4 cI cJ cZ a0 r0 v0, bX3 cI cJ cZ a1 r1 v1, bX5 cI cJ cZ a2 r2 v2, bS cS 5 (r0 0) q0_0, bX6 cI cJ cZ 0 (q0_0 1) r0_0_1 v0_0_1, bX6 cI cJ cZ 0 (q0_0 2) r0_0_2 v0_0_2, bX6 cI cJ cZ 0 (q0_0 3) r0_0_3 v0_0_3, bX6 cI cJ cZ 0 (q0_0 4) r0_0_4 v0_0_4]) := by
  intro n
  induction n with
  | zero =>
    intro v0 v0_0_2 v0_0_3 v0_0_4 y3 y6 y7 y8 h
    exact False.elim h
  | succ n ih =>
    intro v0 v0_0_2 v0_0_3 v0_0_4 y3 y6 y7 y8 h
    refine J_iload C 71 dX4_tryDay_69 rfl rfl ?_
    refine J_aload_n C 72 dX4_tryDay_71 rfl rfl ?_
    refine J_getN C 75 3 inlX3 3 7 rfl rfl (by decide) (mi 38 rfl) rfl rfl dX4_tryDay_72 rfl ?_
    refine J_icmp_ge C 78 192 dX4_tryDay_75 rfl rfl (fun c => ?_) (fun c => ?_)
    · have h := h.1 c
      exact J_vret C hr hk (v0, v0_0_2, v0_0_3, v0_0_4) rfl dX4_tryDay_192 h
    · have h := h.2 c
      refine J_iload C 80 dX4_tryDay_78 rfl rfl ?_
      refine J_if_eq C 83 110 dX4_tryDay_80 rfl rfl (fun c => ?_) (fun c => ?_)
      · have h := h.1 c
        refine J_loc [0, 1, 2, 3, 4, 5, 6, 7, 8] rfl ?_
        exact wk_X4_tryDay_d1_c110 C hr hk ih v0 v0_0_2 v0_0_3 v0_0_4 y3 y6 y7 y8 h
      · have h := h.2 c
        refine J_iload C 85 dX4_tryDay_83 rfl rfl ?_
        refine J_iconst C 86 dX4_tryDay_85 rfl ki_m1 ?_
        refine J_icmp_eq C 89 110 dX4_tryDay_86 rfl rfl (fun c => ?_) (fun c => ?_)
        · have h := h.1 c
          refine J_loc [0, 1, 2, 3, 4, 5, 6, 7, 8] rfl ?_
          exact wk_X4_tryDay_d1_c110 C hr hk ih v0 v0_0_2 v0_0_3 v0_0_4 y3 y6 y7 y8 h
        · have h := h.2 c
          refine J_aload_n C 90 dX4_tryDay_89 rfl rfl ?_
          refine J_get C 93 4 inlX4 0 0 rfl rfl (by decide) wd109 rfl rfl dX4_tryDay_90 rfl ?_
          refine J_iload C 95 dX4_tryDay_93 rfl rfl ?_
          refine J_aald C 96 14 1 rfl rfl (by decide) (by unfold vp_in; decide) dX4_tryDay_95 rfl ?_
          refine J_aload_n C 97 dX4_tryDay_96 rfl rfl ?_
          refine J_iload C 99 dX4_tryDay_97 rfl rfl ?_
          refine J_iload C 101 dX4_tryDay_99 rfl rfl ?_
          refine J_callBiV (Bs := [bX4 cI cJ cZ a0 r0 v0, bX3 cI cJ cZ a1 r1 v1, bX5 cI cJ cZ a2 r2 v2, bS cS 5 (r0 0) q0_0, bX6 cI cJ cZ 0 (q0_0 1) r0_0_1 v0_0_1, bX6 cI cJ cZ 0 (q0_0 2) r0_0_2 v0_0_2, bX6 cI cJ cZ 0 (q0_0 3) r0_0_3 v0_0_3, bX6 cI cJ cZ 0 (q0_0 4) r0_0_4 v0_0_4]) (As := [.ref a1, .int y6, .int y8]) C 104 (c_X6_isFillingBy l D cI cJ cZ cS 0 (q0_0 1) r0_0_1 v0_0_1 a1 r1 v1 y6 y8 _ h) wd793 wd790 wd29 wd791 wd792 6 0 rfl rfl rfl hdX6_isFillingBy ⟨Nat.le_of_ble_eq_true rfl, Nat.le_of_ble_eq_true rfl⟩ ⟨Nat.zero_le _, Nat.zero_le _⟩ rfl (Nat.le_of_ble_eq_true rfl) [4, 1] [0, 2, 3, 5, 6, 7] 8 rfl (by decide +kernel) rfl rfl (fun (u : Unit) => [bX6 cI cJ cZ 0 (q0_0 1) r0_0_1 v0_0_1, bX3 cI cJ cZ a1 r1 v1]) (fun _ => rfl) [2, 1, 3, 4, 0, 5, 6, 7] (by decide +kernel) (fun _ => rfl) rfl (fun (u : Unit) => [bX4 cI cJ cZ a0 r0 v0, bX3 cI cJ cZ a1 r1 v1, bX5 cI cJ cZ a2 r2 v2, bS cS 5 (r0 0) q0_0, bX6 cI cJ cZ 0 (q0_0 1) r0_0_1 v0_0_1, bX6 cI cJ cZ 0 (q0_0 2) r0_0_2 v0_0_2, bX6 cI cJ cZ 0 (q0_0 3) r0_0_3 v0_0_3, bX6 cI cJ cZ 0 (q0_0 4) r0_0_4 v0_0_4]) (fun _ => rfl) dX4_tryDay_101 rfl (fun r_14 u h => ?_)
          refine J_if_ne C 107 110 dX4_tryDay_104 rfl rfl (fun c => ?_) (fun c => ?_)
          · have h := h.1 c
            refine J_loc [0, 1, 2, 3, 4, 5, 6, 7, 8] rfl ?_
            exact wk_X4_tryDay_d1_c110 C hr hk ih v0 v0_0_2 v0_0_3 v0_0_4 y3 y6 y7 y8 h
          · have h := h.2 c
            refine J_goto C 186 dX4_tryDay_107 rfl ?_
            refine J_loc [0, 1, 2, 3, 4, 5, 6, 7, 8] rfl ?_
            exact wk_X4_tryDay_d1_c186 C hr hk ih v0 v0_0_2 v0_0_3 v0_0_4 y3 y6 y7 y8 h
def wp_X4_tryDay_d1_c64 (v1 : Vl) (v2 : Vl) (v0_0_1 : Vl) (Q : Vl → Vl → Vl → Vl → Prop) (v0 : Vl) (v0_0_2 : Vl) (v0_0_3 : Vl) (v0_0_4 : Vl) (y3 : Int32) (y6 : Int32) (s0 : Int32) : Prop := (∃ k : Nat, wp_X4_tryDay_d1_c69 v1 v2 v0_0_1 Q k v0 v0_0_2 v0_0_3 v0_0_4 y3 y6 s0 (-1))
set_option maxHeartbeats 4000000 in
set_option maxRecDepth 100000 in
theorem wk_X4_tryDay_d1_c64 {p : Program} {l : Launch} {e : Env} {s : State} {m : MethodId} {args : Array Value} {below : List Frame} {meth : Method} {c : Code} {D : GG} {A : Nat → Prop} {cI cJ cZ cS : ClassId} {a0 : Nat} {r0 : Nat → Nat} {a1 : Nat} {r1 : Nat → Nat} {a2 : Nat} {r2 : Nat → Nat} {q0_0 : Nat → Nat} {r0_0_1 : Nat → Nat} {r0_0_2 : Nat → Nat} {r0_0_3 : Nat → Nat} {r0_0_4 : Nat → Nat} {v1 : Vl} {v2 : Vl} {v0_0_1 : Vl} {Q : Vl → Vl → Vl → Vl → Prop} (C : Cx p s m args c D (tyL cI cJ cZ cS) A RX4 cX4_tryDay 9) (hr : meth.sig.returnType = none) (hk : meth.locks = false) : ∀ (v0 : Vl) (v0_0_2 : Vl) (v0_0_3 : Vl) (v0_0_4 : Vl) (y3 : Int32) (y6 : Int32) (s0 : Int32), wp_X4_tryDay_d1_c64 v1 v2 v0_0_1 Q v0 v0_0_2 v0_0_3 v0_0_4 y3 y6 s0 → J p l e (rmk 6 151) s m args below meth c D A 9 0 0 (MQ below (va_Qv (fun (u : Vl × Vl × Vl × Vl) => Q u.1 u.2.1 u.2.2.1 u.2.2.2) (fun u t => va_P D.1 vwCl ((fun (u : Vl × Vl × Vl × Vl) => List.flatten [bX4 cI cJ cZ a0 r0 u.1, bX3 cI cJ cZ a1 r1 v1, bX5 cI cJ cZ a2 r2 v2, bS cS 5 (r0 0) q0_0, bX6 cI cJ cZ 0 (q0_0 1) r0_0_1 v0_0_1, bX6 cI cJ cZ 0 (q0_0 2) r0_0_2 u.2.1, bX6 cI cJ cZ 0 (q0_0 3) r0_0_3 u.2.2.1, bX6 cI cJ cZ 0 (q0_0 4) r0_0_4 u.2.2.2]) u) t.heap ∧ va_D A ((fun (u : Vl × Vl × Vl × Vl) => List.flatten [bX4 cI cJ cZ a0 r0 u.1, bX3 cI cJ cZ a1 r1 v1, bX5 cI cJ cZ a2 r2 v2, bS cS 5 (r0 0) q0_0, bX6 cI cJ cZ 0 (q0_0 1) r0_0_1 v0_0_1, bX6 cI cJ cZ 0 (q0_0 2) r0_0_2 u.2.1, bX6 cI cJ cZ 0 (q0_0 3) r0_0_3 u.2.2.1, bX6 cI cJ cZ 0 (q0_0 4) r0_0_4 u.2.2.2]) u)) A) args s 0 0 A) 64 [(0, .ref a0), (1, .ref a1), (2, .ref a2), (3, .int y3), (4, .int 1), (5, .ref (q0_0 2)), (6, .int y6)] [.int s0] (List.flatten [bX4 cI cJ cZ a0 r0 v0, bX3 cI cJ cZ a1 r1 v1, bX5 cI cJ cZ a2 r2 v2, bS cS 5 (r0 0) q0_0, bX6 cI cJ cZ 0 (q0_0 1) r0_0_1 v0_0_1, bX6 cI cJ cZ 0 (q0_0 2) r0_0_2 v0_0_2, bX6 cI cJ cZ 0 (q0_0 3) r0_0_3 v0_0_3, bX6 cI cJ cZ 0 (q0_0 4) r0_0_4 v0_0_4]) := by
  intro v0 v0_0_2 v0_0_3 v0_0_4 y3 y6 s0 h
  refine J_istore C 66 [(7, .int s0), (0, .ref a0), (1, .ref a1), (2, .ref a2), (3, .int y3), (4, .int 1), (5, .ref (q0_0 2)), (6, .int y6)] dX4_tryDay_64 rfl (by decide) rfl ?_
  refine J_iconst C 67 dX4_tryDay_66 rfl ki_m1 ?_
  refine J_istore C 69 [(8, .int (-1)), (7, .int s0), (0, .ref a0), (1, .ref a1), (2, .ref a2), (3, .int y3), (4, .int 1), (5, .ref (q0_0 2)), (6, .int y6)] dX4_tryDay_67 rfl (by decide) rfl ?_
  refine J_loc [2, 3, 4, 5, 6, 7, 8, 1, 0] rfl ?_
  obtain ⟨n1, h⟩ := h
  exact wk_X4_tryDay_d1_c69 C hr hk n1 v0 v0_0_2 v0_0_3 v0_0_4 y3 y6 s0 (-1) h
def wp_X4_tryDay_d1 (v0 : Vl) (v1 : Vl) (v2 : Vl) (v0_0_1 : Vl) (v0_0_2 : Vl) (v0_0_3 : Vl) (v0_0_4 : Vl) (x3 : Int32) (Q : Vl → Vl → Vl → Vl → Prop) : Prop := ((x3 ≤ 1 → Q v0 v0_0_2 v0_0_3 v0_0_4) ∧ (¬ x3 ≤ 1 → wp_X5_skyOf v2 (v0_0_1.1 12) (fun r_1 => ((¬ 2 = x3 → wp_X4_tryDay_d1_c64 v1 v2 v0_0_1 Q v0 v0_0_2 v0_0_3 v0_0_4 x3 r_1 0) ∧ (2 = x3 → wp_X4_tryDay_d1_c64 v1 v2 v0_0_1 Q v0 v0_0_2 v0_0_3 v0_0_4 x3 r_1 1)))))
set_option maxHeartbeats 4000000 in
set_option maxRecDepth 100000 in
theorem c_X4_tryDay_d1 (l : Launch) (D : GG) (cI cJ cZ cS : ClassId) (a0 : Nat) (r0 : Nat → Nat) (v0 : Vl) (a1 : Nat) (r1 : Nat → Nat) (v1 : Vl) (a2 : Nat) (r2 : Nat → Nat) (v2 : Vl) (q0_0 : Nat → Nat) (r0_0_1 : Nat → Nat) (v0_0_1 : Vl) (r0_0_2 : Nat → Nat) (v0_0_2 : Vl) (r0_0_3 : Nat → Nat) (v0_0_3 : Vl) (r0_0_4 : Nat → Nat) (v0_0_4 : Vl) (x3 : Int32) (Q : Vl → Vl → Vl → Vl → Prop) (h : wp_X4_tryDay_d1 v0 v1 v2 v0_0_1 v0_0_2 v0_0_3 v0_0_4 x3 Q) : Mv l D (tyL cI cJ cZ cS) yX4_tryDay cX4_tryDay 9 6 151 [.ref a0, .ref a1, .ref a2, .int x3, .int 1] (List.flatten [bX4 cI cJ cZ a0 r0 v0, bX3 cI cJ cZ a1 r1 v1, bX5 cI cJ cZ a2 r2 v2, bS cS 5 (r0 0) q0_0, bX6 cI cJ cZ 0 (q0_0 1) r0_0_1 v0_0_1, bX6 cI cJ cZ 0 (q0_0 2) r0_0_2 v0_0_2, bX6 cI cJ cZ 0 (q0_0 3) r0_0_3 v0_0_3, bX6 cI cJ cZ 0 (q0_0 4) r0_0_4 v0_0_4]) (fun (u : Vl × Vl × Vl × Vl) => Q u.1 u.2.1 u.2.2.1 u.2.2.2) (fun (u : Vl × Vl × Vl × Vl) => List.flatten [bX4 cI cJ cZ a0 r0 u.1, bX3 cI cJ cZ a1 r1 v1, bX5 cI cJ cZ a2 r2 v2, bS cS 5 (r0 0) q0_0, bX6 cI cJ cZ 0 (q0_0 1) r0_0_1 v0_0_1, bX6 cI cJ cZ 0 (q0_0 2) r0_0_2 u.2.1, bX6 cI cJ cZ 0 (q0_0 3) r0_0_3 u.2.2.1, bX6 cI cJ cZ 0 (q0_0 4) r0_0_4 u.2.2.2]) := by
  refine Mv_of RX4 [(0, .ref a0), (1, .ref a1), (2, .ref a2), (3, .int x3), (4, .int 1)] (by decide +kernel) rfl rfl (Nat.le_of_ble_eq_true rfl) ?_
  intro p e s m args below meth c A C hr hk
  refine J_iload C 2 dX4_tryDay_0 rfl rfl ?_
  refine J_if_lt C 5 23 dX4_tryDay_2 rfl rfl (fun c => ?_) (fun c => ?_)
  · exact absurd c (by decide)
  · refine J_iload C 7 dX4_tryDay_5 rfl rfl ?_
    refine J_iload_n C 8 dX4_tryDay_7 rfl rfl ?_
    refine J_icmp_ge C 11 23 dX4_tryDay_8 rfl rfl (fun c => ?_) (fun c => ?_)
    · have h := h.1 c
      exact J_vret C hr hk (v0, v0_0_2, v0_0_3, v0_0_4) rfl dX4_tryDay_23 h
    · have h := h.2 c
      refine J_iload C 13 dX4_tryDay_11 rfl rfl ?_
      refine J_iconst C 14 dX4_tryDay_13 rfl ki_1 ?_
      refine J_iadd C 15 dX4_tryDay_14 rfl ?_
      refine J_nmi (y := 2) (by decide) ?_
      refine J_aload_n C 16 dX4_tryDay_15 rfl rfl ?_
      refine J_get C 19 4 inlX4 0 0 rfl rfl (by decide) wd109 rfl rfl dX4_tryDay_16 rfl ?_
      refine J_alen C 20 14 3 rfl rfl kn_5 dX4_tryDay_19 rfl ?_
      refine J_icmp_lt C 23 24 dX4_tryDay_20 rfl rfl (fun c => ?_) (fun c => ?_)
      · refine J_aload_n C 25 dX4_tryDay_24 rfl rfl ?_
        refine J_get C 28 4 inlX4 0 0 rfl rfl (by decide) wd109 rfl rfl dX4_tryDay_25 rfl ?_
        refine J_iload C 30 dX4_tryDay_28 rfl rfl ?_
        refine J_iconst C 31 dX4_tryDay_30 rfl ki_1 ?_
        refine J_iadd C 32 dX4_tryDay_31 rfl ?_
        refine J_nmi (y := 2) (by decide) ?_
        refine J_aald C 33 14 2 rfl rfl (by decide) (by unfold vp_in; decide) dX4_tryDay_32 rfl ?_
        refine J_astore C 35 [(5, .ref (q0_0 2)), (0, .ref a0), (1, .ref a1), (2, .ref a2), (3, .int x3), (4, .int 1)] dX4_tryDay_33 rfl (by decide) rfl ?_
        refine J_aload_n C 36 dX4_tryDay_35 rfl rfl ?_
        refine J_aload_n C 37 dX4_tryDay_36 rfl rfl ?_
        refine J_get C 40 4 inlX4 0 0 rfl rfl (by decide) wd109 rfl rfl dX4_tryDay_37 rfl ?_
        refine J_iload C 42 dX4_tryDay_40 rfl rfl ?_
        refine J_aald C 43 14 1 rfl rfl (by decide) (by unfold vp_in; decide) dX4_tryDay_42 rfl ?_
        refine J_getN C 46 6 inlX6 15 12 rfl rfl (by decide) (mi 37 rfl) rfl rfl dX4_tryDay_43 rfl ?_
        refine J_callBiV (Bs := [bX4 cI cJ cZ a0 r0 v0, bX3 cI cJ cZ a1 r1 v1, bX5 cI cJ cZ a2 r2 v2, bS cS 5 (r0 0) q0_0, bX6 cI cJ cZ 0 (q0_0 1) r0_0_1 v0_0_1, bX6 cI cJ cZ 0 (q0_0 2) r0_0_2 v0_0_2, bX6 cI cJ cZ 0 (q0_0 3) r0_0_3 v0_0_3, bX6 cI cJ cZ 0 (q0_0 4) r0_0_4 v0_0_4]) (As := [.int (v0_0_1.1 12)]) C 49 (c_X5_skyOf l D cI cJ cZ cS a2 r2 v2 (v0_0_1.1 12) _ h) wd560 wd789 wd24 wd558 wd559 5 0 rfl rfl rfl hdX5_skyOf ⟨Nat.le_of_ble_eq_true rfl, Nat.le_of_ble_eq_true rfl⟩ ⟨Nat.zero_le _, Nat.zero_le _⟩ rfl (Nat.le_of_ble_eq_true rfl) [2] [0, 1, 3, 4, 5, 6, 7] 8 rfl (by decide +kernel) rfl rfl (fun (u : Unit) => [bX5 cI cJ cZ a2 r2 v2]) (fun _ => rfl) [1, 2, 0, 3, 4, 5, 6, 7] (by decide +kernel) (fun _ => rfl) rfl (fun (u : Unit) => [bX4 cI cJ cZ a0 r0 v0, bX3 cI cJ cZ a1 r1 v1, bX5 cI cJ cZ a2 r2 v2, bS cS 5 (r0 0) q0_0, bX6 cI cJ cZ 0 (q0_0 1) r0_0_1 v0_0_1, bX6 cI cJ cZ 0 (q0_0 2) r0_0_2 v0_0_2, bX6 cI cJ cZ 0 (q0_0 3) r0_0_3 v0_0_3, bX6 cI cJ cZ 0 (q0_0 4) r0_0_4 v0_0_4]) (fun _ => rfl) dX4_tryDay_46 rfl (fun r_1 u h => ?_)
        refine J_istore C 51 [(6, .int r_1), (5, .ref (q0_0 2)), (0, .ref a0), (1, .ref a1), (2, .ref a2), (3, .int x3), (4, .int 1)] dX4_tryDay_49 rfl (by decide) rfl ?_
        refine J_iload C 53 dX4_tryDay_51 rfl rfl ?_
        refine J_iconst C 54 dX4_tryDay_53 rfl ki_1 ?_
        refine J_iadd C 55 dX4_tryDay_54 rfl ?_
        refine J_nmi (y := 2) (by decide) ?_
        refine J_iload_n C 56 dX4_tryDay_55 rfl rfl ?_
        refine J_icmp_ne C 59 63 dX4_tryDay_56 rfl rfl (fun c => ?_) (fun c => ?_)
        · have h := h.1 c
          refine J_iconst C 64 dX4_tryDay_63 rfl ki_0 ?_
          refine J_loc [2, 3, 4, 5, 6, 1, 0] rfl ?_
          exact wk_X4_tryDay_d1_c64 C hr hk v0 v0_0_2 v0_0_3 v0_0_4 x3 r_1 0 h
        · have h := h.2 c
          refine J_iconst C 60 dX4_tryDay_59 rfl ki_1 ?_
          refine J_goto C 64 dX4_tryDay_60 rfl ?_
          refine J_loc [2, 3, 4, 5, 6, 1, 0] rfl ?_
          exact wk_X4_tryDay_d1_c64 C hr hk v0 v0_0_2 v0_0_3 v0_0_4 x3 r_1 1 h
      · exact absurd c (by decide)
def wp_X4_tryDay_d0_c186 (v1 : Vl) (v2 : Vl) (v0_0_0 : Vl) (Q : Vl → Vl → Vl → Vl → Vl → Prop) (B69 : Vl → Vl → Vl → Vl → Vl → Int32 → Int32 → Int32 → Int32 → Prop) (v0 : Vl) (v0_0_1 : Vl) (v0_0_2 : Vl) (v0_0_3 : Vl) (v0_0_4 : Vl) (y3 : Int32) (y6 : Int32) (y7 : Int32) (y8 : Int32) : Prop := ∀ x_13 : Int32, x_13 = y8 + 1 → B69 v0 v0_0_1 v0_0_2 v0_0_3 v0_0_4 y3 y6 y7 x_13
set_option maxHeartbeats 4000000 in
set_option maxRecDepth 100000 in
theorem wk_X4_tryDay_d0_c186 {p : Program} {l : Launch} {e : Env} {s : State} {m : MethodId} {args : Array Value} {below : List Frame} {meth : Method} {c : Code} {D : GG} {A : Nat → Prop} {cI cJ cZ cS : ClassId} {a0 : Nat} {r0 : Nat → Nat} {a1 : Nat} {r1 : Nat → Nat} {a2 : Nat} {r2 : Nat → Nat} {q0_0 : Nat → Nat} {r0_0_0 : Nat → Nat} {r0_0_1 : Nat → Nat} {r0_0_2 : Nat → Nat} {r0_0_3 : Nat → Nat} {r0_0_4 : Nat → Nat} {v1 : Vl} {v2 : Vl} {v0_0_0 : Vl} {B69 : Vl → Vl → Vl → Vl → Vl → Int32 → Int32 → Int32 → Int32 → Prop} {Q : Vl → Vl → Vl → Vl → Vl → Prop} (C : Cx p s m args c D (tyL cI cJ cZ cS) A RX4 cX4_tryDay 9) (hr : meth.sig.returnType = none) (hk : meth.locks = false) (hB69 : ∀ (v0 : Vl) (v0_0_1 : Vl) (v0_0_2 : Vl) (v0_0_3 : Vl) (v0_0_4 : Vl) (y3 : Int32) (y6 : Int32) (y7 : Int32) (y8 : Int32), B69 v0 v0_0_1 v0_0_2 v0_0_3 v0_0_4 y3 y6 y7 y8 → J p l e (rmk 7 179) s m args below meth c D A 9 0 0 (MQ below (va_Qv (fun (u : Vl × Vl × Vl × Vl × Vl) => Q u.1 u.2.1 u.2.2.1 u.2.2.2.1 u.2.2.2.2) (fun u t => va_P D.1 vwCl ((fun (u : Vl × Vl × Vl × Vl × Vl) => List.flatten [bX4 cI cJ cZ a0 r0 u.1, bX3 cI cJ cZ a1 r1 v1, bX5 cI cJ cZ a2 r2 v2, bS cS 5 (r0 0) q0_0, bX6 cI cJ cZ 0 (q0_0 0) r0_0_0 v0_0_0, bX6 cI cJ cZ 0 (q0_0 1) r0_0_1 u.2.1, bX6 cI cJ cZ 0 (q0_0 2) r0_0_2 u.2.2.1, bX6 cI cJ cZ 0 (q0_0 3) r0_0_3 u.2.2.2.1, bX6 cI cJ cZ 0 (q0_0 4) r0_0_4 u.2.2.2.2]) u) t.heap ∧ va_D A ((fun (u : Vl × Vl × Vl × Vl × Vl) => List.flatten [bX4 cI cJ cZ a0 r0 u.1, bX3 cI cJ cZ a1 r1 v1, bX5 cI cJ cZ a2 r2 v2, bS cS 5 (r0 0) q0_0, bX6 cI cJ cZ 0 (q0_0 0) r0_0_0 v0_0_0, bX6 cI cJ cZ 0 (q0_0 1) r0_0_1 u.2.1, bX6 cI cJ cZ 0 (q0_0 2) r0_0_2 u.2.2.1, bX6 cI cJ cZ 0 (q0_0 3) r0_0_3 u.2.2.2.1, bX6 cI cJ cZ 0 (q0_0 4) r0_0_4 u.2.2.2.2]) u)) A) args s 0 0 A) 69 [(0, .ref a0), (1, .ref a1), (2, .ref a2), (3, .int y3), (4, .int 0), (5, .ref (q0_0 1)), (6, .int y6), (7, .int y7), (8, .int y8)] [] (List.flatten [bX4 cI cJ cZ a0 r0 v0, bX3 cI cJ cZ a1 r1 v1, bX5 cI cJ cZ a2 r2 v2, bS cS 5 (r0 0) q0_0, bX6 cI cJ cZ 0 (q0_0 0) r0_0_0 v0_0_0, bX6 cI cJ cZ 0 (q0_0 1) r0_0_1 v0_0_1, bX6 cI cJ cZ 0 (q0_0 2) r0_0_2 v0_0_2, bX6 cI cJ cZ 0 (q0_0 3) r0_0_3 v0_0_3, bX6 cI cJ cZ 0 (q0_0 4) r0_0_4 v0_0_4])) : ∀ (v0 : Vl) (v0_0_1 : Vl) (v0_0_2 : Vl) (v0_0_3 : Vl) (v0_0_4 : Vl) (y3 : Int32) (y6 : Int32) (y7 : Int32) (y8 : Int32), wp_X4_tryDay_d0_c186 v1 v2 v0_0_0 Q B69 v0 v0_0_1 v0_0_2 v0_0_3 v0_0_4 y3 y6 y7 y8 → J p l e (rmk 7 179) s m args below meth c D A 9 0 0 (MQ below (va_Qv (fun (u : Vl × Vl × Vl × Vl × Vl) => Q u.1 u.2.1 u.2.2.1 u.2.2.2.1 u.2.2.2.2) (fun u t => va_P D.1 vwCl ((fun (u : Vl × Vl × Vl × Vl × Vl) => List.flatten [bX4 cI cJ cZ a0 r0 u.1, bX3 cI cJ cZ a1 r1 v1, bX5 cI cJ cZ a2 r2 v2, bS cS 5 (r0 0) q0_0, bX6 cI cJ cZ 0 (q0_0 0) r0_0_0 v0_0_0, bX6 cI cJ cZ 0 (q0_0 1) r0_0_1 u.2.1, bX6 cI cJ cZ 0 (q0_0 2) r0_0_2 u.2.2.1, bX6 cI cJ cZ 0 (q0_0 3) r0_0_3 u.2.2.2.1, bX6 cI cJ cZ 0 (q0_0 4) r0_0_4 u.2.2.2.2]) u) t.heap ∧ va_D A ((fun (u : Vl × Vl × Vl × Vl × Vl) => List.flatten [bX4 cI cJ cZ a0 r0 u.1, bX3 cI cJ cZ a1 r1 v1, bX5 cI cJ cZ a2 r2 v2, bS cS 5 (r0 0) q0_0, bX6 cI cJ cZ 0 (q0_0 0) r0_0_0 v0_0_0, bX6 cI cJ cZ 0 (q0_0 1) r0_0_1 u.2.1, bX6 cI cJ cZ 0 (q0_0 2) r0_0_2 u.2.2.1, bX6 cI cJ cZ 0 (q0_0 3) r0_0_3 u.2.2.2.1, bX6 cI cJ cZ 0 (q0_0 4) r0_0_4 u.2.2.2.2]) u)) A) args s 0 0 A) 186 [(0, .ref a0), (1, .ref a1), (2, .ref a2), (3, .int y3), (4, .int 0), (5, .ref (q0_0 1)), (6, .int y6), (7, .int y7), (8, .int y8)] [] (List.flatten [bX4 cI cJ cZ a0 r0 v0, bX3 cI cJ cZ a1 r1 v1, bX5 cI cJ cZ a2 r2 v2, bS cS 5 (r0 0) q0_0, bX6 cI cJ cZ 0 (q0_0 0) r0_0_0 v0_0_0, bX6 cI cJ cZ 0 (q0_0 1) r0_0_1 v0_0_1, bX6 cI cJ cZ 0 (q0_0 2) r0_0_2 v0_0_2, bX6 cI cJ cZ 0 (q0_0 3) r0_0_3 v0_0_3, bX6 cI cJ cZ 0 (q0_0 4) r0_0_4 v0_0_4]) := by
  intro v0 v0_0_1 v0_0_2 v0_0_3 v0_0_4 y3 y6 y7 y8 h
  obtain ⟨x_13, ex_13⟩ : ∃ z : Int32, z = y8 + 1 := ⟨_, rfl⟩
  have h := h x_13 ex_13
  refine J_iinc C 189 [(8, .int x_13), (0, .ref a0), (1, .ref a1), (2, .ref a2), (3, .int y3), (4, .int 0), (5, .ref (q0_0 1)), (6, .int y6), (7, .int y7)] dX4_tryDay_186 rfl rfl ((kinc_1 _).trans ex_13.symm) (by decide) rfl ?_
  refine J_goto C 69 dX4_tryDay_189 rfl ?_
  refine J_loc [1, 2, 3, 4, 5, 6, 7, 8, 0] rfl ?_
  exact hB69 v0 v0_0_1 v0_0_2 v0_0_3 v0_0_4 y3 y6 y7 x_13 h
def wp_X4_tryDay_d0_c110 (v1 : Vl) (v2 : Vl) (v0_0_0 : Vl) (Q : Vl → Vl → Vl → Vl → Vl → Prop) (B69 : Vl → Vl → Vl → Vl → Vl → Int32 → Int32 → Int32 → Int32 → Prop) (v0 : Vl) (v0_0_1 : Vl) (v0_0_2 : Vl) (v0_0_3 : Vl) (v0_0_4 : Vl) (y3 : Int32) (y6 : Int32) (y7 : Int32) (y8 : Int32) : Prop := wp_X6_copyFrom 0 v0_0_1 0 v0_0_0 (fun u_2 => ∀ v001s_3 : Vl, v001s_3 = setI u_2 9 y8 → wp_X6_live 0 v001s_3 v1 y6 (fun r_5 u_4 => wp_X8_put 4 (v0.2.2.1 1) 0 y8 (fun u_6 => ∀ v0s_7 : Vl, v0s_7 = setRA v0 1 u_6 → wp_X4_isBetter v0s_7 0 u_4 (fun r_8 => ((¬ r_8 = 0 → ((y7 = 0 → wp_X4_tryDay_d1 v0s_7 v1 v2 u_4 v0_0_2 v0_0_3 v0_0_4 y3 (fun u_9 u_10 u_11 u_12 => wp_X4_tryDay_d0_c186 v1 v2 v0_0_0 Q B69 u_9 u_4 u_10 u_11 u_12 y3 y6 y7 y8)) ∧ (¬ y7 = 0 → wp_X4_takeRow v0s_7 0 u_4 (fun u_14 => wp_X4_tryDay_d0_c186 v1 v2 v0_0_0 Q B69 u_14 u_4 v0_0_2 v0_0_3 v0_0_4 y3 y6 y7 y8)))) ∧ (r_8 = 0 → wp_X4_tryDay_d0_c186 v1 v2 v0_0_0 Q B69 v0s_7 u_4 v0_0_2 v0_0_3 v0_0_4 y3 y6 y7 y8))))))
set_option maxHeartbeats 4000000 in
set_option maxRecDepth 100000 in
theorem wk_X4_tryDay_d0_c110 {p : Program} {l : Launch} {e : Env} {s : State} {m : MethodId} {args : Array Value} {below : List Frame} {meth : Method} {c : Code} {D : GG} {A : Nat → Prop} {cI cJ cZ cS : ClassId} {a0 : Nat} {r0 : Nat → Nat} {a1 : Nat} {r1 : Nat → Nat} {a2 : Nat} {r2 : Nat → Nat} {q0_0 : Nat → Nat} {r0_0_0 : Nat → Nat} {r0_0_1 : Nat → Nat} {r0_0_2 : Nat → Nat} {r0_0_3 : Nat → Nat} {r0_0_4 : Nat → Nat} {v1 : Vl} {v2 : Vl} {v0_0_0 : Vl} {B69 : Vl → Vl → Vl → Vl → Vl → Int32 → Int32 → Int32 → Int32 → Prop} {Q : Vl → Vl → Vl → Vl → Vl → Prop} (C : Cx p s m args c D (tyL cI cJ cZ cS) A RX4 cX4_tryDay 9) (hr : meth.sig.returnType = none) (hk : meth.locks = false) (hB69 : ∀ (v0 : Vl) (v0_0_1 : Vl) (v0_0_2 : Vl) (v0_0_3 : Vl) (v0_0_4 : Vl) (y3 : Int32) (y6 : Int32) (y7 : Int32) (y8 : Int32), B69 v0 v0_0_1 v0_0_2 v0_0_3 v0_0_4 y3 y6 y7 y8 → J p l e (rmk 7 179) s m args below meth c D A 9 0 0 (MQ below (va_Qv (fun (u : Vl × Vl × Vl × Vl × Vl) => Q u.1 u.2.1 u.2.2.1 u.2.2.2.1 u.2.2.2.2) (fun u t => va_P D.1 vwCl ((fun (u : Vl × Vl × Vl × Vl × Vl) => List.flatten [bX4 cI cJ cZ a0 r0 u.1, bX3 cI cJ cZ a1 r1 v1, bX5 cI cJ cZ a2 r2 v2, bS cS 5 (r0 0) q0_0, bX6 cI cJ cZ 0 (q0_0 0) r0_0_0 v0_0_0, bX6 cI cJ cZ 0 (q0_0 1) r0_0_1 u.2.1, bX6 cI cJ cZ 0 (q0_0 2) r0_0_2 u.2.2.1, bX6 cI cJ cZ 0 (q0_0 3) r0_0_3 u.2.2.2.1, bX6 cI cJ cZ 0 (q0_0 4) r0_0_4 u.2.2.2.2]) u) t.heap ∧ va_D A ((fun (u : Vl × Vl × Vl × Vl × Vl) => List.flatten [bX4 cI cJ cZ a0 r0 u.1, bX3 cI cJ cZ a1 r1 v1, bX5 cI cJ cZ a2 r2 v2, bS cS 5 (r0 0) q0_0, bX6 cI cJ cZ 0 (q0_0 0) r0_0_0 v0_0_0, bX6 cI cJ cZ 0 (q0_0 1) r0_0_1 u.2.1, bX6 cI cJ cZ 0 (q0_0 2) r0_0_2 u.2.2.1, bX6 cI cJ cZ 0 (q0_0 3) r0_0_3 u.2.2.2.1, bX6 cI cJ cZ 0 (q0_0 4) r0_0_4 u.2.2.2.2]) u)) A) args s 0 0 A) 69 [(0, .ref a0), (1, .ref a1), (2, .ref a2), (3, .int y3), (4, .int 0), (5, .ref (q0_0 1)), (6, .int y6), (7, .int y7), (8, .int y8)] [] (List.flatten [bX4 cI cJ cZ a0 r0 v0, bX3 cI cJ cZ a1 r1 v1, bX5 cI cJ cZ a2 r2 v2, bS cS 5 (r0 0) q0_0, bX6 cI cJ cZ 0 (q0_0 0) r0_0_0 v0_0_0, bX6 cI cJ cZ 0 (q0_0 1) r0_0_1 v0_0_1, bX6 cI cJ cZ 0 (q0_0 2) r0_0_2 v0_0_2, bX6 cI cJ cZ 0 (q0_0 3) r0_0_3 v0_0_3, bX6 cI cJ cZ 0 (q0_0 4) r0_0_4 v0_0_4])) : ∀ (v0 : Vl) (v0_0_1 : Vl) (v0_0_2 : Vl) (v0_0_3 : Vl) (v0_0_4 : Vl) (y3 : Int32) (y6 : Int32) (y7 : Int32) (y8 : Int32), wp_X4_tryDay_d0_c110 v1 v2 v0_0_0 Q B69 v0 v0_0_1 v0_0_2 v0_0_3 v0_0_4 y3 y6 y7 y8 → J p l e (rmk 7 179) s m args below meth c D A 9 0 0 (MQ below (va_Qv (fun (u : Vl × Vl × Vl × Vl × Vl) => Q u.1 u.2.1 u.2.2.1 u.2.2.2.1 u.2.2.2.2) (fun u t => va_P D.1 vwCl ((fun (u : Vl × Vl × Vl × Vl × Vl) => List.flatten [bX4 cI cJ cZ a0 r0 u.1, bX3 cI cJ cZ a1 r1 v1, bX5 cI cJ cZ a2 r2 v2, bS cS 5 (r0 0) q0_0, bX6 cI cJ cZ 0 (q0_0 0) r0_0_0 v0_0_0, bX6 cI cJ cZ 0 (q0_0 1) r0_0_1 u.2.1, bX6 cI cJ cZ 0 (q0_0 2) r0_0_2 u.2.2.1, bX6 cI cJ cZ 0 (q0_0 3) r0_0_3 u.2.2.2.1, bX6 cI cJ cZ 0 (q0_0 4) r0_0_4 u.2.2.2.2]) u) t.heap ∧ va_D A ((fun (u : Vl × Vl × Vl × Vl × Vl) => List.flatten [bX4 cI cJ cZ a0 r0 u.1, bX3 cI cJ cZ a1 r1 v1, bX5 cI cJ cZ a2 r2 v2, bS cS 5 (r0 0) q0_0, bX6 cI cJ cZ 0 (q0_0 0) r0_0_0 v0_0_0, bX6 cI cJ cZ 0 (q0_0 1) r0_0_1 u.2.1, bX6 cI cJ cZ 0 (q0_0 2) r0_0_2 u.2.2.1, bX6 cI cJ cZ 0 (q0_0 3) r0_0_3 u.2.2.2.1, bX6 cI cJ cZ 0 (q0_0 4) r0_0_4 u.2.2.2.2]) u)) A) args s 0 0 A) 110 [(0, .ref a0), (1, .ref a1), (2, .ref a2), (3, .int y3), (4, .int 0), (5, .ref (q0_0 1)), (6, .int y6), (7, .int y7), (8, .int y8)] [] (List.flatten [bX4 cI cJ cZ a0 r0 v0, bX3 cI cJ cZ a1 r1 v1, bX5 cI cJ cZ a2 r2 v2, bS cS 5 (r0 0) q0_0, bX6 cI cJ cZ 0 (q0_0 0) r0_0_0 v0_0_0, bX6 cI cJ cZ 0 (q0_0 1) r0_0_1 v0_0_1, bX6 cI cJ cZ 0 (q0_0 2) r0_0_2 v0_0_2, bX6 cI cJ cZ 0 (q0_0 3) r0_0_3 v0_0_3, bX6 cI cJ cZ 0 (q0_0 4) r0_0_4 v0_0_4]) := by
  intro v0 v0_0_1 v0_0_2 v0_0_3 v0_0_4 y3 y6 y7 y8 h
  refine J_aload C 112 dX4_tryDay_110 rfl rfl ?_
  refine J_aload_n C 113 dX4_tryDay_112 rfl rfl ?_
  refine J_get C 116 4 inlX4 0 0 rfl rfl (by decide) wd109 rfl rfl dX4_tryDay_113 rfl ?_
  refine J_iload C 118 dX4_tryDay_116 rfl rfl ?_
  refine J_aald C 119 14 0 rfl rfl (by decide) (by unfold vp_in; decide) dX4_tryDay_118 rfl ?_
  refine J_callBvV (Bs := [bX4 cI cJ cZ a0 r0 v0, bX3 cI cJ cZ a1 r1 v1, bX5 cI cJ cZ a2 r2 v2, bS cS 5 (r0 0) q0_0, bX6 cI cJ cZ 0 (q0_0 0) r0_0_0 v0_0_0, bX6 cI cJ cZ 0 (q0_0 1) r0_0_1 v0_0_1, bX6 cI cJ cZ 0 (q0_0 2) r0_0_2 v0_0_2, bX6 cI cJ cZ 0 (q0_0 3) r0_0_3 v0_0_3, bX6 cI cJ cZ 0 (q0_0 4) r0_0_4 v0_0_4]) (As := [.ref (q0_0 0)]) C 122 (c_X6_copyFrom l D cI cJ cZ cS 0 (q0_0 1) r0_0_1 v0_0_1 0 (q0_0 0) r0_0_0 v0_0_0 _ h) wd777 wd774 wd29 wd775 wd776 6 0 rfl rfl rfl hdX6_copyFrom ⟨Nat.le_of_ble_eq_true rfl, Nat.le_of_ble_eq_true rfl⟩ ⟨Nat.zero_le _, Nat.zero_le _⟩ rfl (Nat.le_of_ble_eq_true rfl) [5, 4] [0, 1, 2, 3, 6, 7, 8] 9 rfl (by decide +kernel) rfl rfl (fun (u : Vl) => [bX6 cI cJ cZ 0 (q0_0 1) r0_0_1 u, bX6 cI cJ cZ 0 (q0_0 0) r0_0_0 v0_0_0]) (fun _ => rfl) [2, 3, 4, 5, 1, 0, 6, 7, 8] (by decide +kernel) (fun _ => rfl) rfl (fun (u : Vl) => [bX4 cI cJ cZ a0 r0 v0, bX3 cI cJ cZ a1 r1 v1, bX5 cI cJ cZ a2 r2 v2, bS cS 5 (r0 0) q0_0, bX6 cI cJ cZ 0 (q0_0 0) r0_0_0 v0_0_0, bX6 cI cJ cZ 0 (q0_0 1) r0_0_1 u, bX6 cI cJ cZ 0 (q0_0 2) r0_0_2 v0_0_2, bX6 cI cJ cZ 0 (q0_0 3) r0_0_3 v0_0_3, bX6 cI cJ cZ 0 (q0_0 4) r0_0_4 v0_0_4]) (fun _ => rfl) dX4_tryDay_119 rfl (fun u h => ?_)
  obtain ⟨u_2, hu⟩ : ∃ z, z = u := ⟨_, rfl⟩
  subst hu
  refine J_aload C 124 dX4_tryDay_122 rfl rfl ?_
  refine J_iload C 126 dX4_tryDay_124 rfl rfl ?_
  obtain ⟨v001s_3, ev001s_3⟩ : ∃ z : Vl, z = setI u_2 9 y8 := ⟨_, rfl⟩
  have h := h v001s_3 ev001s_3
  refine J_putN C 129 6 inlX6 tyX6 tyX6_ok nmX6 21 9 rfl rfl (by decide) (mi 39 rfl) rfl rfl rfl rfl rfl (List.flatten [bX4 cI cJ cZ a0 r0 v0, bX3 cI cJ cZ a1 r1 v1, bX5 cI cJ cZ a2 r2 v2, bS cS 5 (r0 0) q0_0, bX6 cI cJ cZ 0 (q0_0 0) r0_0_0 v0_0_0, bX6 cI cJ cZ 0 (q0_0 1) r0_0_1 v001s_3, bX6 cI cJ cZ 0 (q0_0 2) r0_0_2 v0_0_2, bX6 cI cJ cZ 0 (q0_0 3) r0_0_3 v0_0_3, bX6 cI cJ cZ 0 (q0_0 4) r0_0_4 v0_0_4]) (by subst ev001s_3; rfl) dX4_tryDay_126 rfl ?_
  refine J_aload C 131 dX4_tryDay_129 rfl rfl ?_
  refine J_aload_n C 132 dX4_tryDay_131 rfl rfl ?_
  refine J_iload C 134 dX4_tryDay_132 rfl rfl ?_
  refine J_callBiV (Bs := [bX4 cI cJ cZ a0 r0 v0, bX3 cI cJ cZ a1 r1 v1, bX5 cI cJ cZ a2 r2 v2, bS cS 5 (r0 0) q0_0, bX6 cI cJ cZ 0 (q0_0 0) r0_0_0 v0_0_0, bX6 cI cJ cZ 0 (q0_0 1) r0_0_1 v001s_3, bX6 cI cJ cZ 0 (q0_0 2) r0_0_2 v0_0_2, bX6 cI cJ cZ 0 (q0_0 3) r0_0_3 v0_0_3, bX6 cI cJ cZ 0 (q0_0 4) r0_0_4 v0_0_4]) (As := [.ref a1, .int y6]) C 137 (c_X6_live l D cI cJ cZ cS 0 (q0_0 1) r0_0_1 v001s_3 a1 r1 v1 y6 _ h) wd613 wd794 wd29 wd611 wd612 6 0 rfl rfl rfl hdX6_live ⟨Nat.le_of_ble_eq_true rfl, Nat.le_of_ble_eq_true rfl⟩ ⟨Nat.zero_le _, Nat.zero_le _⟩ rfl (Nat.le_of_ble_eq_true rfl) [5, 1] [0, 2, 3, 4, 6, 7, 8] 9 rfl (by decide +kernel) rfl rfl (fun (u : Vl) => [bX6 cI cJ cZ 0 (q0_0 1) r0_0_1 u, bX3 cI cJ cZ a1 r1 v1]) (fun _ => rfl) [2, 1, 3, 4, 5, 0, 6, 7, 8] (by decide +kernel) (fun _ => rfl) rfl (fun (u : Vl) => [bX4 cI cJ cZ a0 r0 v0, bX3 cI cJ cZ a1 r1 v1, bX5 cI cJ cZ a2 r2 v2, bS cS 5 (r0 0) q0_0, bX6 cI cJ cZ 0 (q0_0 0) r0_0_0 v0_0_0, bX6 cI cJ cZ 0 (q0_0 1) r0_0_1 u, bX6 cI cJ cZ 0 (q0_0 2) r0_0_2 v0_0_2, bX6 cI cJ cZ 0 (q0_0 3) r0_0_3 v0_0_3, bX6 cI cJ cZ 0 (q0_0 4) r0_0_4 v0_0_4]) (fun _ => rfl) dX4_tryDay_134 rfl (fun r_5 u h => ?_)
  obtain ⟨u_4, hu⟩ : ∃ z, z = u := ⟨_, rfl⟩
  subst hu
  refine J_pop C 138 dX4_tryDay_137 rfl rfl ?_
  refine J_aload_n C 139 dX4_tryDay_138 rfl rfl ?_
  refine J_get C 142 4 inlX4 0 1 rfl rfl (by decide) wd110 rfl rfl dX4_tryDay_139 rfl ?_
  refine J_iload C 144 dX4_tryDay_142 rfl rfl ?_
  refine J_iload C 146 dX4_tryDay_144 rfl rfl ?_
  refine J_call1vSN (As := [.ref (r0 1), .int 0, .int y8]) C 149 (c_X8_put l D cI cJ cZ cS 4 (r0 1) (v0.2.2.1 1) 0 y8 _ h) wd83 (mi 57 rfl) wd2 wd82 hdX8_put ⟨Nat.le_of_ble_eq_true rfl, Nat.le_of_ble_eq_true rfl⟩ ⟨Nat.zero_le _, Nat.zero_le _⟩ rfl (Nat.le_of_ble_eq_true rfl) 1 rfl (fun u => .inl (cI, 4, .inl u)) (fun _ => rfl) (fun (u : (Nat → Int32)) => List.flatten [bX4 cI cJ cZ a0 r0 (setRA v0 1 u), bX3 cI cJ cZ a1 r1 v1, bX5 cI cJ cZ a2 r2 v2, bS cS 5 (r0 0) q0_0, bX6 cI cJ cZ 0 (q0_0 0) r0_0_0 v0_0_0, bX6 cI cJ cZ 0 (q0_0 1) r0_0_1 u_4, bX6 cI cJ cZ 0 (q0_0 2) r0_0_2 v0_0_2, bX6 cI cJ cZ 0 (q0_0 3) r0_0_3 v0_0_3, bX6 cI cJ cZ 0 (q0_0 4) r0_0_4 v0_0_4]) (fun _ => rfl) dX4_tryDay_146 rfl (fun u h => ?_)
  obtain ⟨u_6, hu⟩ : ∃ z, z = u := ⟨_, rfl⟩
  subst hu
  obtain ⟨v0s_7, ev0s_7⟩ : ∃ z : Vl, z = setRA v0 1 u_6 := ⟨_, rfl⟩
  have h := h v0s_7 ev0s_7
  refine J_ws (ws' := List.flatten [bX4 cI cJ cZ a0 r0 v0s_7, bX3 cI cJ cZ a1 r1 v1, bX5 cI cJ cZ a2 r2 v2, bS cS 5 (r0 0) q0_0, bX6 cI cJ cZ 0 (q0_0 0) r0_0_0 v0_0_0, bX6 cI cJ cZ 0 (q0_0 1) r0_0_1 u_4, bX6 cI cJ cZ 0 (q0_0 2) r0_0_2 v0_0_2, bX6 cI cJ cZ 0 (q0_0 3) r0_0_3 v0_0_3, bX6 cI cJ cZ 0 (q0_0 4) r0_0_4 v0_0_4]) (by subst ev0s_7; rfl) ?_
  refine J_aload_n C 150 dX4_tryDay_149 rfl rfl ?_
  refine J_aload C 152 dX4_tryDay_150 rfl rfl ?_
  refine J_callBiV (Bs := [bX4 cI cJ cZ a0 r0 v0s_7, bX3 cI cJ cZ a1 r1 v1, bX5 cI cJ cZ a2 r2 v2, bS cS 5 (r0 0) q0_0, bX6 cI cJ cZ 0 (q0_0 0) r0_0_0 v0_0_0, bX6 cI cJ cZ 0 (q0_0 1) r0_0_1 u_4, bX6 cI cJ cZ 0 (q0_0 2) r0_0_2 v0_0_2, bX6 cI cJ cZ 0 (q0_0 3) r0_0_3 v0_0_3, bX6 cI cJ cZ 0 (q0_0 4) r0_0_4 v0_0_4]) (As := [.ref (q0_0 1)]) C 155 (c_X4_isBetter l D cI cJ cZ cS a0 r0 v0s_7 0 (q0_0 1) r0_0_1 u_4 _ h) wd798 wd795 wd36 wd796 wd797 4 0 rfl rfl rfl hdX4_isBetter ⟨Nat.le_of_ble_eq_true rfl, Nat.le_of_ble_eq_true rfl⟩ ⟨Nat.zero_le _, Nat.zero_le _⟩ rfl (Nat.le_of_ble_eq_true rfl) [0, 5] [1, 2, 3, 4, 6, 7, 8] 9 rfl (by decide +kernel) rfl rfl (fun (u : Unit) => [bX4 cI cJ cZ a0 r0 v0s_7, bX6 cI cJ cZ 0 (q0_0 1) r0_0_1 u_4]) (fun _ => rfl) [0, 2, 3, 4, 5, 1, 6, 7, 8] (by decide +kernel) (fun _ => rfl) rfl (fun (u : Unit) => [bX4 cI cJ cZ a0 r0 v0s_7, bX3 cI cJ cZ a1 r1 v1, bX5 cI cJ cZ a2 r2 v2, bS cS 5 (r0 0) q0_0, bX6 cI cJ cZ 0 (q0_0 0) r0_0_0 v0_0_0, bX6 cI cJ cZ 0 (q0_0 1) r0_0_1 u_4, bX6 cI cJ cZ 0 (q0_0 2) r0_0_2 v0_0_2, bX6 cI cJ cZ 0 (q0_0 3) r0_0_3 v0_0_3, bX6 cI cJ cZ 0 (q0_0 4) r0_0_4 v0_0_4]) (fun _ => rfl) dX4_tryDay_152 rfl (fun r_8 u h => ?_)
  refine J_if_ne C 158 161 dX4_tryDay_155 rfl rfl (fun c => ?_) (fun c => ?_)
  · have h := h.1 c
    refine J_iload C 163 dX4_tryDay_161 rfl rfl ?_
    refine J_if_eq C 166 175 dX4_tryDay_163 rfl rfl (fun c => ?_) (fun c => ?_)
    · have h := h.1 c
      refine J_aload_n C 176 dX4_tryDay_175 rfl rfl ?_
      refine J_aload_n C 177 dX4_tryDay_176 rfl rfl ?_
      refine J_aload_n C 178 dX4_tryDay_177 rfl rfl ?_
      refine J_iload_n C 179 dX4_tryDay_178 rfl rfl ?_
      refine J_iload C 181 dX4_tryDay_179 rfl rfl ?_
      refine J_iconst C 182 dX4_tryDay_181 rfl ki_1 ?_
      refine J_iadd C 183 dX4_tryDay_182 rfl ?_
      refine J_nmi (y := 1) (by decide) ?_
      refine J_callBvV (Bs := [bX4 cI cJ cZ a0 r0 v0s_7, bX3 cI cJ cZ a1 r1 v1, bX5 cI cJ cZ a2 r2 v2, bS cS 5 (r0 0) q0_0, bX6 cI cJ cZ 0 (q0_0 0) r0_0_0 v0_0_0, bX6 cI cJ cZ 0 (q0_0 1) r0_0_1 u_4, bX6 cI cJ cZ 0 (q0_0 2) r0_0_2 v0_0_2, bX6 cI cJ cZ 0 (q0_0 3) r0_0_3 v0_0_3, bX6 cI cJ cZ 0 (q0_0 4) r0_0_4 v0_0_4]) (As := [.ref a1, .ref a2, .int y3, .int 1]) C 186 (c_X4_tryDay_d1 l D cI cJ cZ cS a0 r0 v0s_7 a1 r1 v1 a2 r2 v2 q0_0 r0_0_1 u_4 r0_0_2 v0_0_2 r0_0_3 v0_0_3 r0_0_4 v0_0_4 y3 _ h) wd788 wd785 wd36 wd786 wd787 4 0 rfl rfl rfl hdX4_tryDay ⟨Nat.le_of_ble_eq_true rfl, Nat.le_of_ble_eq_true rfl⟩ ⟨Nat.zero_le _, Nat.zero_le _⟩ rfl (Nat.le_of_ble_eq_true rfl) [0, 1, 2, 3, 5, 6, 7, 8] [4] 9 rfl (by decide +kernel) rfl rfl (fun (u : Vl × Vl × Vl × Vl) => [bX4 cI cJ cZ a0 r0 u.1, bX3 cI cJ cZ a1 r1 v1, bX5 cI cJ cZ a2 r2 v2, bS cS 5 (r0 0) q0_0, bX6 cI cJ cZ 0 (q0_0 1) r0_0_1 u_4, bX6 cI cJ cZ 0 (q0_0 2) r0_0_2 u.2.1, bX6 cI cJ cZ 0 (q0_0 3) r0_0_3 u.2.2.1, bX6 cI cJ cZ 0 (q0_0 4) r0_0_4 u.2.2.2]) (fun _ => rfl) [0, 1, 2, 3, 8, 4, 5, 6, 7] (by decide +kernel) (fun _ => rfl) rfl (fun (u : Vl × Vl × Vl × Vl) => [bX4 cI cJ cZ a0 r0 u.1, bX3 cI cJ cZ a1 r1 v1, bX5 cI cJ cZ a2 r2 v2, bS cS 5 (r0 0) q0_0, bX6 cI cJ cZ 0 (q0_0 0) r0_0_0 v0_0_0, bX6 cI cJ cZ 0 (q0_0 1) r0_0_1 u_4, bX6 cI cJ cZ 0 (q0_0 2) r0_0_2 u.2.1, bX6 cI cJ cZ 0 (q0_0 3) r0_0_3 u.2.2.1, bX6 cI cJ cZ 0 (q0_0 4) r0_0_4 u.2.2.2]) (fun _ => rfl) dX4_tryDay_183 rfl (fun u h => ?_)
      obtain ⟨u_9, u_10, u_11, u_12⟩ := u
      refine J_loc [0, 1, 2, 3, 4, 5, 6, 7, 8] rfl ?_
      exact wk_X4_tryDay_d0_c186 C hr hk hB69 u_9 u_4 u_10 u_11 u_12 y3 y6 y7 y8 h
    · have h := h.2 c
      refine J_aload_n C 167 dX4_tryDay_166 rfl rfl ?_
      refine J_aload C 169 dX4_tryDay_167 rfl rfl ?_
      refine J_callBvV (Bs := [bX4 cI cJ cZ a0 r0 v0s_7, bX3 cI cJ cZ a1 r1 v1, bX5 cI cJ cZ a2 r2 v2, bS cS 5 (r0 0) q0_0, bX6 cI cJ cZ 0 (q0_0 0) r0_0_0 v0_0_0, bX6 cI cJ cZ 0 (q0_0 1) r0_0_1 u_4, bX6 cI cJ cZ 0 (q0_0 2) r0_0_2 v0_0_2, bX6 cI cJ cZ 0 (q0_0 3) r0_0_3 v0_0_3, bX6 cI cJ cZ 0 (q0_0 4) r0_0_4 v0_0_4]) (As := [.ref (q0_0 1)]) C 172 (c_X4_takeRow l D cI cJ cZ cS a0 r0 v0s_7 0 (q0_0 1) r0_0_1 u_4 _ h) wd802 wd799 wd36 wd800 wd801 4 0 rfl rfl rfl hdX4_takeRow ⟨Nat.le_of_ble_eq_true rfl, Nat.le_of_ble_eq_true rfl⟩ ⟨Nat.zero_le _, Nat.zero_le _⟩ rfl (Nat.le_of_ble_eq_true rfl) [0, 5] [1, 2, 3, 4, 6, 7, 8] 9 rfl (by decide +kernel) rfl rfl (fun (u : Vl) => [bX4 cI cJ cZ a0 r0 u, bX6 cI cJ cZ 0 (q0_0 1) r0_0_1 u_4]) (fun _ => rfl) [0, 2, 3, 4, 5, 1, 6, 7, 8] (by decide +kernel) (fun _ => rfl) rfl (fun (u : Vl) => [bX4 cI cJ cZ a0 r0 u, bX3 cI cJ cZ a1 r1 v1, bX5 cI cJ cZ a2 r2 v2, bS cS 5 (r0 0) q0_0, bX6 cI cJ cZ 0 (q0_0 0) r0_0_0 v0_0_0, bX6 cI cJ cZ 0 (q0_0 1) r0_0_1 u_4, bX6 cI cJ cZ 0 (q0_0 2) r0_0_2 v0_0_2, bX6 cI cJ cZ 0 (q0_0 3) r0_0_3 v0_0_3, bX6 cI cJ cZ 0 (q0_0 4) r0_0_4 v0_0_4]) (fun _ => rfl) dX4_tryDay_169 rfl (fun u h => ?_)
      obtain ⟨u_14, hu⟩ : ∃ z, z = u := ⟨_, rfl⟩
      subst hu
      refine J_goto C 186 dX4_tryDay_172 rfl ?_
      refine J_loc [0, 1, 2, 3, 4, 5, 6, 7, 8] rfl ?_
      exact wk_X4_tryDay_d0_c186 C hr hk hB69 u_14 u_4 v0_0_2 v0_0_3 v0_0_4 y3 y6 y7 y8 h
  · have h := h.2 c
    refine J_goto C 186 dX4_tryDay_158 rfl ?_
    refine J_loc [0, 1, 2, 3, 4, 5, 6, 7, 8] rfl ?_
    exact wk_X4_tryDay_d0_c186 C hr hk hB69 v0s_7 u_4 v0_0_2 v0_0_3 v0_0_4 y3 y6 y7 y8 h
def wp_X4_tryDay_d0_c69 (v1 : Vl) (v2 : Vl) (v0_0_0 : Vl) (Q : Vl → Vl → Vl → Vl → Vl → Prop) : Nat → Vl → Vl → Vl → Vl → Vl → Int32 → Int32 → Int32 → Int32 → Prop
  | 0 => fun _ _ _ _ _ _ _ _ _ => False
  | n + 1 => fun v0 v0_0_1 v0_0_2 v0_0_3 v0_0_4 y3 y6 y7 y8 => (((v1.1 7) ≤ y8 → Q v0 v0_0_1 v0_0_2 v0_0_3 v0_0_4) ∧ (¬ (v1.1 7) ≤ y8 → ((y7 = 0 → wp_X4_tryDay_d0_c110 v1 v2 v0_0_0 Q (wp_X4_tryDay_d0_c69 v1 v2 v0_0_0 Q n) v0 v0_0_1 v0_0_2 v0_0_3 v0_0_4 y3 y6 y7 y8) ∧ (¬ y7 = 0 → ((y8 = (-1) → wp_X4_tryDay_d0_c110 v1 v2 v0_0_0 Q (wp_X4_tryDay_d0_c69 v1 v2 v0_0_0 Q n) v0 v0_0_1 v0_0_2 v0_0_3 v0_0_4 y3 y6 y7 y8) ∧ (¬ y8 = (-1) → wp_X6_isFillingBy 0 v0_0_0 v1 y6 y8 (fun r_15 => ((¬ r_15 = 0 → wp_X4_tryDay_d0_c110 v1 v2 v0_0_0 Q (wp_X4_tryDay_d0_c69 v1 v2 v0_0_0 Q n) v0 v0_0_1 v0_0_2 v0_0_3 v0_0_4 y3 y6 y7 y8) ∧ (r_15 = 0 → wp_X4_tryDay_d0_c186 v1 v2 v0_0_0 Q (wp_X4_tryDay_d0_c69 v1 v2 v0_0_0 Q n) v0 v0_0_1 v0_0_2 v0_0_3 v0_0_4 y3 y6 y7 y8)))))))))
set_option maxHeartbeats 4000000 in
set_option maxRecDepth 100000 in
theorem wk_X4_tryDay_d0_c69 {p : Program} {l : Launch} {e : Env} {s : State} {m : MethodId} {args : Array Value} {below : List Frame} {meth : Method} {c : Code} {D : GG} {A : Nat → Prop} {cI cJ cZ cS : ClassId} {a0 : Nat} {r0 : Nat → Nat} {a1 : Nat} {r1 : Nat → Nat} {a2 : Nat} {r2 : Nat → Nat} {q0_0 : Nat → Nat} {r0_0_0 : Nat → Nat} {r0_0_1 : Nat → Nat} {r0_0_2 : Nat → Nat} {r0_0_3 : Nat → Nat} {r0_0_4 : Nat → Nat} {v1 : Vl} {v2 : Vl} {v0_0_0 : Vl} {Q : Vl → Vl → Vl → Vl → Vl → Prop} (C : Cx p s m args c D (tyL cI cJ cZ cS) A RX4 cX4_tryDay 9) (hr : meth.sig.returnType = none) (hk : meth.locks = false) : ∀ (n : Nat) (v0 : Vl) (v0_0_1 : Vl) (v0_0_2 : Vl) (v0_0_3 : Vl) (v0_0_4 : Vl) (y3 : Int32) (y6 : Int32) (y7 : Int32) (y8 : Int32), wp_X4_tryDay_d0_c69 v1 v2 v0_0_0 Q n v0 v0_0_1 v0_0_2 v0_0_3 v0_0_4 y3 y6 y7 y8 → J p l e (rmk 7 179) s m args below meth c D A 9 0 0 (MQ below (va_Qv (fun (u : Vl × Vl × Vl × Vl × Vl) => Q u.1 u.2.1 u.2.2.1 u.2.2.2.1 u.2.2.2.2) (fun u t => va_P D.1 vwCl ((fun (u : Vl × Vl × Vl × Vl × Vl) => List.flatten [bX4 cI cJ cZ a0 r0 u.1, bX3 cI cJ cZ a1 r1 v1, bX5 cI cJ cZ a2 r2 v2, bS cS 5 (r0 0) q0_0, bX6 cI cJ cZ 0 (q0_0 0) r0_0_0 v0_0_0, bX6 cI cJ cZ 0 (q0_0 1) r0_0_1 u.2.1, bX6 cI cJ cZ 0 (q0_0 2) r0_0_2 u.2.2.1, bX6 cI cJ cZ 0 (q0_0 3) r0_0_3 u.2.2.2.1, bX6 cI cJ cZ 0 (q0_0 4) r0_0_4 u.2.2.2.2]) u) t.heap ∧ va_D A ((fun (u : Vl × Vl × Vl × Vl × Vl) => List.flatten [bX4 cI cJ cZ a0 r0 u.1, bX3 cI cJ cZ a1 r1 v1, bX5 cI cJ cZ a2 r2 v2, bS cS 5 (r0 0) q0_0, bX6 cI cJ cZ 0 (q0_0 0) r0_0_0 v0_0_0, bX6 cI cJ cZ 0 (q0_0 1) r0_0_1 u.2.1, bX6 cI cJ cZ 0 (q0_0 2) r0_0_2 u.2.2.1, bX6 cI cJ cZ 0 (q0_0 3) r0_0_3 u.2.2.2.1, bX6 cI cJ cZ 0 (q0_0 4) r0_0_4 u.2.2.2.2]) u)) A) args s 0 0 A) 69 [(0, .ref a0), (1, .ref a1), (2, .ref a2), (3, .int y3), (4, .int 0), (5, .ref (q0_0 1)), (6, .int y6), (7, .int y7), (8, .int y8)] [] (List.flatten [bX4 cI cJ cZ a0 r0 v0, bX3 cI cJ cZ a1 r1 v1, bX5 cI cJ cZ a2 r2 v2, bS cS 5 (r0 0) q0_0, bX6 cI cJ cZ 0 (q0_0 0) r0_0_0 v0_0_0, bX6 cI cJ cZ 0 (q0_0 1) r0_0_1 v0_0_1, bX6 cI cJ cZ 0 (q0_0 2) r0_0_2 v0_0_2, bX6 cI cJ cZ 0 (q0_0 3) r0_0_3 v0_0_3, bX6 cI cJ cZ 0 (q0_0 4) r0_0_4 v0_0_4]) := by
  intro n
  induction n with
  | zero =>
    intro v0 v0_0_1 v0_0_2 v0_0_3 v0_0_4 y3 y6 y7 y8 h
    exact False.elim h
  | succ n ih =>
    intro v0 v0_0_1 v0_0_2 v0_0_3 v0_0_4 y3 y6 y7 y8 h
    refine J_iload C 71 dX4_tryDay_69 rfl rfl ?_
    refine J_aload_n C 72 dX4_tryDay_71 rfl rfl ?_
    refine J_getN C 75 3 inlX3 3 7 rfl rfl (by decide) (mi 38 rfl) rfl rfl dX4_tryDay_72 rfl ?_
    refine J_icmp_ge C 78 192 dX4_tryDay_75 rfl rfl (fun c => ?_) (fun c => ?_)
    · have h := h.1 c
      exact J_vret C hr hk (v0, v0_0_1, v0_0_2, v0_0_3, v0_0_4) rfl dX4_tryDay_192 h
    · have h := h.2 c
      refine J_iload C 80 dX4_tryDay_78 rfl rfl ?_
      refine J_if_eq C 83 110 dX4_tryDay_80 rfl rfl (fun c => ?_) (fun c => ?_)
      · have h := h.1 c
        refine J_loc [0, 1, 2, 3, 4, 5, 6, 7, 8] rfl ?_
        exact wk_X4_tryDay_d0_c110 C hr hk ih v0 v0_0_1 v0_0_2 v0_0_3 v0_0_4 y3 y6 y7 y8 h
      · have h := h.2 c
        refine J_iload C 85 dX4_tryDay_83 rfl rfl ?_
        refine J_iconst C 86 dX4_tryDay_85 rfl ki_m1 ?_
        refine J_icmp_eq C 89 110 dX4_tryDay_86 rfl rfl (fun c => ?_) (fun c => ?_)
        · have h := h.1 c
          refine J_loc [0, 1, 2, 3, 4, 5, 6, 7, 8] rfl ?_
          exact wk_X4_tryDay_d0_c110 C hr hk ih v0 v0_0_1 v0_0_2 v0_0_3 v0_0_4 y3 y6 y7 y8 h
        · have h := h.2 c
          refine J_aload_n C 90 dX4_tryDay_89 rfl rfl ?_
          refine J_get C 93 4 inlX4 0 0 rfl rfl (by decide) wd109 rfl rfl dX4_tryDay_90 rfl ?_
          refine J_iload C 95 dX4_tryDay_93 rfl rfl ?_
          refine J_aald C 96 14 0 rfl rfl (by decide) (by unfold vp_in; decide) dX4_tryDay_95 rfl ?_
          refine J_aload_n C 97 dX4_tryDay_96 rfl rfl ?_
          refine J_iload C 99 dX4_tryDay_97 rfl rfl ?_
          refine J_iload C 101 dX4_tryDay_99 rfl rfl ?_
          refine J_callBiV (Bs := [bX4 cI cJ cZ a0 r0 v0, bX3 cI cJ cZ a1 r1 v1, bX5 cI cJ cZ a2 r2 v2, bS cS 5 (r0 0) q0_0, bX6 cI cJ cZ 0 (q0_0 0) r0_0_0 v0_0_0, bX6 cI cJ cZ 0 (q0_0 1) r0_0_1 v0_0_1, bX6 cI cJ cZ 0 (q0_0 2) r0_0_2 v0_0_2, bX6 cI cJ cZ 0 (q0_0 3) r0_0_3 v0_0_3, bX6 cI cJ cZ 0 (q0_0 4) r0_0_4 v0_0_4]) (As := [.ref a1, .int y6, .int y8]) C 104 (c_X6_isFillingBy l D cI cJ cZ cS 0 (q0_0 0) r0_0_0 v0_0_0 a1 r1 v1 y6 y8 _ h) wd793 wd790 wd29 wd791 wd792 6 0 rfl rfl rfl hdX6_isFillingBy ⟨Nat.le_of_ble_eq_true rfl, Nat.le_of_ble_eq_true rfl⟩ ⟨Nat.zero_le _, Nat.zero_le _⟩ rfl (Nat.le_of_ble_eq_true rfl) [4, 1] [0, 2, 3, 5, 6, 7, 8] 9 rfl (by decide +kernel) rfl rfl (fun (u : Unit) => [bX6 cI cJ cZ 0 (q0_0 0) r0_0_0 v0_0_0, bX3 cI cJ cZ a1 r1 v1]) (fun _ => rfl) [2, 1, 3, 4, 0, 5, 6, 7, 8] (by decide +kernel) (fun _ => rfl) rfl (fun (u : Unit) => [bX4 cI cJ cZ a0 r0 v0, bX3 cI cJ cZ a1 r1 v1, bX5 cI cJ cZ a2 r2 v2, bS cS 5 (r0 0) q0_0, bX6 cI cJ cZ 0 (q0_0 0) r0_0_0 v0_0_0, bX6 cI cJ cZ 0 (q0_0 1) r0_0_1 v0_0_1, bX6 cI cJ cZ 0 (q0_0 2) r0_0_2 v0_0_2, bX6 cI cJ cZ 0 (q0_0 3) r0_0_3 v0_0_3, bX6 cI cJ cZ 0 (q0_0 4) r0_0_4 v0_0_4]) (fun _ => rfl) dX4_tryDay_101 rfl (fun r_15 u h => ?_)
          refine J_if_ne C 107 110 dX4_tryDay_104 rfl rfl (fun c => ?_) (fun c => ?_)
          · have h := h.1 c
            refine J_loc [0, 1, 2, 3, 4, 5, 6, 7, 8] rfl ?_
            exact wk_X4_tryDay_d0_c110 C hr hk ih v0 v0_0_1 v0_0_2 v0_0_3 v0_0_4 y3 y6 y7 y8 h
          · have h := h.2 c
            refine J_goto C 186 dX4_tryDay_107 rfl ?_
            refine J_loc [0, 1, 2, 3, 4, 5, 6, 7, 8] rfl ?_
            exact wk_X4_tryDay_d0_c186 C hr hk ih v0 v0_0_1 v0_0_2 v0_0_3 v0_0_4 y3 y6 y7 y8 h
def wp_X4_tryDay_d0_c64 (v1 : Vl) (v2 : Vl) (v0_0_0 : Vl) (Q : Vl → Vl → Vl → Vl → Vl → Prop) (v0 : Vl) (v0_0_1 : Vl) (v0_0_2 : Vl) (v0_0_3 : Vl) (v0_0_4 : Vl) (y3 : Int32) (y6 : Int32) (s0 : Int32) : Prop := (∃ k : Nat, wp_X4_tryDay_d0_c69 v1 v2 v0_0_0 Q k v0 v0_0_1 v0_0_2 v0_0_3 v0_0_4 y3 y6 s0 (-1))
set_option maxHeartbeats 4000000 in
set_option maxRecDepth 100000 in
theorem wk_X4_tryDay_d0_c64 {p : Program} {l : Launch} {e : Env} {s : State} {m : MethodId} {args : Array Value} {below : List Frame} {meth : Method} {c : Code} {D : GG} {A : Nat → Prop} {cI cJ cZ cS : ClassId} {a0 : Nat} {r0 : Nat → Nat} {a1 : Nat} {r1 : Nat → Nat} {a2 : Nat} {r2 : Nat → Nat} {q0_0 : Nat → Nat} {r0_0_0 : Nat → Nat} {r0_0_1 : Nat → Nat} {r0_0_2 : Nat → Nat} {r0_0_3 : Nat → Nat} {r0_0_4 : Nat → Nat} {v1 : Vl} {v2 : Vl} {v0_0_0 : Vl} {Q : Vl → Vl → Vl → Vl → Vl → Prop} (C : Cx p s m args c D (tyL cI cJ cZ cS) A RX4 cX4_tryDay 9) (hr : meth.sig.returnType = none) (hk : meth.locks = false) : ∀ (v0 : Vl) (v0_0_1 : Vl) (v0_0_2 : Vl) (v0_0_3 : Vl) (v0_0_4 : Vl) (y3 : Int32) (y6 : Int32) (s0 : Int32), wp_X4_tryDay_d0_c64 v1 v2 v0_0_0 Q v0 v0_0_1 v0_0_2 v0_0_3 v0_0_4 y3 y6 s0 → J p l e (rmk 7 179) s m args below meth c D A 9 0 0 (MQ below (va_Qv (fun (u : Vl × Vl × Vl × Vl × Vl) => Q u.1 u.2.1 u.2.2.1 u.2.2.2.1 u.2.2.2.2) (fun u t => va_P D.1 vwCl ((fun (u : Vl × Vl × Vl × Vl × Vl) => List.flatten [bX4 cI cJ cZ a0 r0 u.1, bX3 cI cJ cZ a1 r1 v1, bX5 cI cJ cZ a2 r2 v2, bS cS 5 (r0 0) q0_0, bX6 cI cJ cZ 0 (q0_0 0) r0_0_0 v0_0_0, bX6 cI cJ cZ 0 (q0_0 1) r0_0_1 u.2.1, bX6 cI cJ cZ 0 (q0_0 2) r0_0_2 u.2.2.1, bX6 cI cJ cZ 0 (q0_0 3) r0_0_3 u.2.2.2.1, bX6 cI cJ cZ 0 (q0_0 4) r0_0_4 u.2.2.2.2]) u) t.heap ∧ va_D A ((fun (u : Vl × Vl × Vl × Vl × Vl) => List.flatten [bX4 cI cJ cZ a0 r0 u.1, bX3 cI cJ cZ a1 r1 v1, bX5 cI cJ cZ a2 r2 v2, bS cS 5 (r0 0) q0_0, bX6 cI cJ cZ 0 (q0_0 0) r0_0_0 v0_0_0, bX6 cI cJ cZ 0 (q0_0 1) r0_0_1 u.2.1, bX6 cI cJ cZ 0 (q0_0 2) r0_0_2 u.2.2.1, bX6 cI cJ cZ 0 (q0_0 3) r0_0_3 u.2.2.2.1, bX6 cI cJ cZ 0 (q0_0 4) r0_0_4 u.2.2.2.2]) u)) A) args s 0 0 A) 64 [(0, .ref a0), (1, .ref a1), (2, .ref a2), (3, .int y3), (4, .int 0), (5, .ref (q0_0 1)), (6, .int y6)] [.int s0] (List.flatten [bX4 cI cJ cZ a0 r0 v0, bX3 cI cJ cZ a1 r1 v1, bX5 cI cJ cZ a2 r2 v2, bS cS 5 (r0 0) q0_0, bX6 cI cJ cZ 0 (q0_0 0) r0_0_0 v0_0_0, bX6 cI cJ cZ 0 (q0_0 1) r0_0_1 v0_0_1, bX6 cI cJ cZ 0 (q0_0 2) r0_0_2 v0_0_2, bX6 cI cJ cZ 0 (q0_0 3) r0_0_3 v0_0_3, bX6 cI cJ cZ 0 (q0_0 4) r0_0_4 v0_0_4]) := by
  intro v0 v0_0_1 v0_0_2 v0_0_3 v0_0_4 y3 y6 s0 h
  refine J_istore C 66 [(7, .int s0), (0, .ref a0), (1, .ref a1), (2, .ref a2), (3, .int y3), (4, .int 0), (5, .ref (q0_0 1)), (6, .int y6)] dX4_tryDay_64 rfl (by decide) rfl ?_
  refine J_iconst C 67 dX4_tryDay_66 rfl ki_m1 ?_
  refine J_istore C 69 [(8, .int (-1)), (7, .int s0), (0, .ref a0), (1, .ref a1), (2, .ref a2), (3, .int y3), (4, .int 0), (5, .ref (q0_0 1)), (6, .int y6)] dX4_tryDay_67 rfl (by decide) rfl ?_
  refine J_loc [2, 3, 4, 5, 6, 7, 8, 1, 0] rfl ?_
  obtain ⟨n1, h⟩ := h
  exact wk_X4_tryDay_d0_c69 C hr hk n1 v0 v0_0_1 v0_0_2 v0_0_3 v0_0_4 y3 y6 s0 (-1) h
def wp_X4_tryDay_d0 (v0 : Vl) (v1 : Vl) (v2 : Vl) (v0_0_0 : Vl) (v0_0_1 : Vl) (v0_0_2 : Vl) (v0_0_3 : Vl) (v0_0_4 : Vl) (x3 : Int32) (Q : Vl → Vl → Vl → Vl → Vl → Prop) : Prop := ((x3 ≤ 0 → Q v0 v0_0_1 v0_0_2 v0_0_3 v0_0_4) ∧ (¬ x3 ≤ 0 → wp_X5_skyOf v2 (v0_0_0.1 12) (fun r_1 => ((¬ 1 = x3 → wp_X4_tryDay_d0_c64 v1 v2 v0_0_0 Q v0 v0_0_1 v0_0_2 v0_0_3 v0_0_4 x3 r_1 0) ∧ (1 = x3 → wp_X4_tryDay_d0_c64 v1 v2 v0_0_0 Q v0 v0_0_1 v0_0_2 v0_0_3 v0_0_4 x3 r_1 1)))))
set_option maxHeartbeats 4000000 in
set_option maxRecDepth 100000 in
theorem c_X4_tryDay_d0 (l : Launch) (D : GG) (cI cJ cZ cS : ClassId) (a0 : Nat) (r0 : Nat → Nat) (v0 : Vl) (a1 : Nat) (r1 : Nat → Nat) (v1 : Vl) (a2 : Nat) (r2 : Nat → Nat) (v2 : Vl) (q0_0 : Nat → Nat) (r0_0_0 : Nat → Nat) (v0_0_0 : Vl) (r0_0_1 : Nat → Nat) (v0_0_1 : Vl) (r0_0_2 : Nat → Nat) (v0_0_2 : Vl) (r0_0_3 : Nat → Nat) (v0_0_3 : Vl) (r0_0_4 : Nat → Nat) (v0_0_4 : Vl) (x3 : Int32) (Q : Vl → Vl → Vl → Vl → Vl → Prop) (h : wp_X4_tryDay_d0 v0 v1 v2 v0_0_0 v0_0_1 v0_0_2 v0_0_3 v0_0_4 x3 Q) : Mv l D (tyL cI cJ cZ cS) yX4_tryDay cX4_tryDay 9 7 179 [.ref a0, .ref a1, .ref a2, .int x3, .int 0] (List.flatten [bX4 cI cJ cZ a0 r0 v0, bX3 cI cJ cZ a1 r1 v1, bX5 cI cJ cZ a2 r2 v2, bS cS 5 (r0 0) q0_0, bX6 cI cJ cZ 0 (q0_0 0) r0_0_0 v0_0_0, bX6 cI cJ cZ 0 (q0_0 1) r0_0_1 v0_0_1, bX6 cI cJ cZ 0 (q0_0 2) r0_0_2 v0_0_2, bX6 cI cJ cZ 0 (q0_0 3) r0_0_3 v0_0_3, bX6 cI cJ cZ 0 (q0_0 4) r0_0_4 v0_0_4]) (fun (u : Vl × Vl × Vl × Vl × Vl) => Q u.1 u.2.1 u.2.2.1 u.2.2.2.1 u.2.2.2.2) (fun (u : Vl × Vl × Vl × Vl × Vl) => List.flatten [bX4 cI cJ cZ a0 r0 u.1, bX3 cI cJ cZ a1 r1 v1, bX5 cI cJ cZ a2 r2 v2, bS cS 5 (r0 0) q0_0, bX6 cI cJ cZ 0 (q0_0 0) r0_0_0 v0_0_0, bX6 cI cJ cZ 0 (q0_0 1) r0_0_1 u.2.1, bX6 cI cJ cZ 0 (q0_0 2) r0_0_2 u.2.2.1, bX6 cI cJ cZ 0 (q0_0 3) r0_0_3 u.2.2.2.1, bX6 cI cJ cZ 0 (q0_0 4) r0_0_4 u.2.2.2.2]) := by
  refine Mv_of RX4 [(0, .ref a0), (1, .ref a1), (2, .ref a2), (3, .int x3), (4, .int 0)] (by decide +kernel) rfl rfl (Nat.le_of_ble_eq_true rfl) ?_
  intro p e s m args below meth c A C hr hk
  refine J_iload C 2 dX4_tryDay_0 rfl rfl ?_
  refine J_if_lt C 5 23 dX4_tryDay_2 rfl rfl (fun c => ?_) (fun c => ?_)
  · exact absurd c (by decide)
  · refine J_iload C 7 dX4_tryDay_5 rfl rfl ?_
    refine J_iload_n C 8 dX4_tryDay_7 rfl rfl ?_
    refine J_icmp_ge C 11 23 dX4_tryDay_8 rfl rfl (fun c => ?_) (fun c => ?_)
    · have h := h.1 c
      exact J_vret C hr hk (v0, v0_0_1, v0_0_2, v0_0_3, v0_0_4) rfl dX4_tryDay_23 h
    · have h := h.2 c
      refine J_iload C 13 dX4_tryDay_11 rfl rfl ?_
      refine J_iconst C 14 dX4_tryDay_13 rfl ki_1 ?_
      refine J_iadd C 15 dX4_tryDay_14 rfl ?_
      refine J_nmi (y := 1) (by decide) ?_
      refine J_aload_n C 16 dX4_tryDay_15 rfl rfl ?_
      refine J_get C 19 4 inlX4 0 0 rfl rfl (by decide) wd109 rfl rfl dX4_tryDay_16 rfl ?_
      refine J_alen C 20 14 3 rfl rfl kn_5 dX4_tryDay_19 rfl ?_
      refine J_icmp_lt C 23 24 dX4_tryDay_20 rfl rfl (fun c => ?_) (fun c => ?_)
      · refine J_aload_n C 25 dX4_tryDay_24 rfl rfl ?_
        refine J_get C 28 4 inlX4 0 0 rfl rfl (by decide) wd109 rfl rfl dX4_tryDay_25 rfl ?_
        refine J_iload C 30 dX4_tryDay_28 rfl rfl ?_
        refine J_iconst C 31 dX4_tryDay_30 rfl ki_1 ?_
        refine J_iadd C 32 dX4_tryDay_31 rfl ?_
        refine J_nmi (y := 1) (by decide) ?_
        refine J_aald C 33 14 1 rfl rfl (by decide) (by unfold vp_in; decide) dX4_tryDay_32 rfl ?_
        refine J_astore C 35 [(5, .ref (q0_0 1)), (0, .ref a0), (1, .ref a1), (2, .ref a2), (3, .int x3), (4, .int 0)] dX4_tryDay_33 rfl (by decide) rfl ?_
        refine J_aload_n C 36 dX4_tryDay_35 rfl rfl ?_
        refine J_aload_n C 37 dX4_tryDay_36 rfl rfl ?_
        refine J_get C 40 4 inlX4 0 0 rfl rfl (by decide) wd109 rfl rfl dX4_tryDay_37 rfl ?_
        refine J_iload C 42 dX4_tryDay_40 rfl rfl ?_
        refine J_aald C 43 14 0 rfl rfl (by decide) (by unfold vp_in; decide) dX4_tryDay_42 rfl ?_
        refine J_getN C 46 6 inlX6 15 12 rfl rfl (by decide) (mi 37 rfl) rfl rfl dX4_tryDay_43 rfl ?_
        refine J_callBiV (Bs := [bX4 cI cJ cZ a0 r0 v0, bX3 cI cJ cZ a1 r1 v1, bX5 cI cJ cZ a2 r2 v2, bS cS 5 (r0 0) q0_0, bX6 cI cJ cZ 0 (q0_0 0) r0_0_0 v0_0_0, bX6 cI cJ cZ 0 (q0_0 1) r0_0_1 v0_0_1, bX6 cI cJ cZ 0 (q0_0 2) r0_0_2 v0_0_2, bX6 cI cJ cZ 0 (q0_0 3) r0_0_3 v0_0_3, bX6 cI cJ cZ 0 (q0_0 4) r0_0_4 v0_0_4]) (As := [.int (v0_0_0.1 12)]) C 49 (c_X5_skyOf l D cI cJ cZ cS a2 r2 v2 (v0_0_0.1 12) _ h) wd560 wd789 wd24 wd558 wd559 5 0 rfl rfl rfl hdX5_skyOf ⟨Nat.le_of_ble_eq_true rfl, Nat.le_of_ble_eq_true rfl⟩ ⟨Nat.zero_le _, Nat.zero_le _⟩ rfl (Nat.le_of_ble_eq_true rfl) [2] [0, 1, 3, 4, 5, 6, 7, 8] 9 rfl (by decide +kernel) rfl rfl (fun (u : Unit) => [bX5 cI cJ cZ a2 r2 v2]) (fun _ => rfl) [1, 2, 0, 3, 4, 5, 6, 7, 8] (by decide +kernel) (fun _ => rfl) rfl (fun (u : Unit) => [bX4 cI cJ cZ a0 r0 v0, bX3 cI cJ cZ a1 r1 v1, bX5 cI cJ cZ a2 r2 v2, bS cS 5 (r0 0) q0_0, bX6 cI cJ cZ 0 (q0_0 0) r0_0_0 v0_0_0, bX6 cI cJ cZ 0 (q0_0 1) r0_0_1 v0_0_1, bX6 cI cJ cZ 0 (q0_0 2) r0_0_2 v0_0_2, bX6 cI cJ cZ 0 (q0_0 3) r0_0_3 v0_0_3, bX6 cI cJ cZ 0 (q0_0 4) r0_0_4 v0_0_4]) (fun _ => rfl) dX4_tryDay_46 rfl (fun r_1 u h => ?_)
        refine J_istore C 51 [(6, .int r_1), (5, .ref (q0_0 1)), (0, .ref a0), (1, .ref a1), (2, .ref a2), (3, .int x3), (4, .int 0)] dX4_tryDay_49 rfl (by decide) rfl ?_
        refine J_iload C 53 dX4_tryDay_51 rfl rfl ?_
        refine J_iconst C 54 dX4_tryDay_53 rfl ki_1 ?_
        refine J_iadd C 55 dX4_tryDay_54 rfl ?_
        refine J_nmi (y := 1) (by decide) ?_
        refine J_iload_n C 56 dX4_tryDay_55 rfl rfl ?_
        refine J_icmp_ne C 59 63 dX4_tryDay_56 rfl rfl (fun c => ?_) (fun c => ?_)
        · have h := h.1 c
          refine J_iconst C 64 dX4_tryDay_63 rfl ki_0 ?_
          refine J_loc [2, 3, 4, 5, 6, 1, 0] rfl ?_
          exact wk_X4_tryDay_d0_c64 C hr hk v0 v0_0_1 v0_0_2 v0_0_3 v0_0_4 x3 r_1 0 h
        · have h := h.2 c
          refine J_iconst C 60 dX4_tryDay_59 rfl ki_1 ?_
          refine J_goto C 64 dX4_tryDay_60 rfl ?_
          refine J_loc [2, 3, 4, 5, 6, 1, 0] rfl ?_
          exact wk_X4_tryDay_d0_c64 C hr hk v0 v0_0_1 v0_0_2 v0_0_3 v0_0_4 x3 r_1 1 h
      · exact absurd c (by decide)
def wp_X4_seek (v0 : Vl) (v1 : Vl) (v2 : Vl) (nl3 : Nat) (v3 : Vl) (v0_0_0 : Vl) (v0_0_1 : Vl) (v0_0_2 : Vl) (v0_0_3 : Vl) (v0_0_4 : Vl) (x4 : Int32) (Q : Vl → Vl → Vl → Vl → Vl → Vl → Prop) : Prop := ∀ v0s_1 : Vl, v0s_1 = setI v0 3 2147483647 → ∀ v0s_2 : Vl, v0s_2 = setI v0s_1 4 2147483647 → wp_X6_copyFrom 0 v0_0_0 nl3 v3 (fun u_3 => ∀ v000s_4 : Vl, v000s_4 = setI u_3 10 0 → ∀ v000s_5 : Vl, v000s_5 = setI v000s_4 11 0 → wp_X4_tryDay_d0 v0s_2 v1 v2 v000s_5 v0_0_1 v0_0_2 v0_0_3 v0_0_4 x4 (fun u_6 u_7 u_8 u_9 u_10 => Q u_6 v000s_5 u_7 u_8 u_9 u_10))
set_option maxHeartbeats 4000000 in
set_option maxRecDepth 100000 in
theorem c_X4_seek (l : Launch) (D : GG) (cI cJ cZ cS : ClassId) (a0 : Nat) (r0 : Nat → Nat) (v0 : Vl) (a1 : Nat) (r1 : Nat → Nat) (v1 : Vl) (a2 : Nat) (r2 : Nat → Nat) (v2 : Vl) (nl3 : Nat) (a3 : Nat) (r3 : Nat → Nat) (v3 : Vl) (q0_0 : Nat → Nat) (r0_0_0 : Nat → Nat) (v0_0_0 : Vl) (r0_0_1 : Nat → Nat) (v0_0_1 : Vl) (r0_0_2 : Nat → Nat) (v0_0_2 : Vl) (r0_0_3 : Nat → Nat) (v0_0_3 : Vl) (r0_0_4 : Nat → Nat) (v0_0_4 : Vl) (x4 : Int32) (Q : Vl → Vl → Vl → Vl → Vl → Vl → Prop) (h : wp_X4_seek v0 v1 v2 nl3 v3 v0_0_0 v0_0_1 v0_0_2 v0_0_3 v0_0_4 x4 Q) : Mv l D (tyL cI cJ cZ cS) yX4_seek cX4_seek 5 8 207 [.ref a0, .ref a1, .ref a2, .ref a3, .int x4] (List.flatten [bX4 cI cJ cZ a0 r0 v0, bX3 cI cJ cZ a1 r1 v1, bX5 cI cJ cZ a2 r2 v2, bX6 cI cJ cZ nl3 a3 r3 v3, bS cS 5 (r0 0) q0_0, bX6 cI cJ cZ 0 (q0_0 0) r0_0_0 v0_0_0, bX6 cI cJ cZ 0 (q0_0 1) r0_0_1 v0_0_1, bX6 cI cJ cZ 0 (q0_0 2) r0_0_2 v0_0_2, bX6 cI cJ cZ 0 (q0_0 3) r0_0_3 v0_0_3, bX6 cI cJ cZ 0 (q0_0 4) r0_0_4 v0_0_4]) (fun (u : Vl × Vl × Vl × Vl × Vl × Vl) => Q u.1 u.2.1 u.2.2.1 u.2.2.2.1 u.2.2.2.2.1 u.2.2.2.2.2) (fun (u : Vl × Vl × Vl × Vl × Vl × Vl) => List.flatten [bX4 cI cJ cZ a0 r0 u.1, bX3 cI cJ cZ a1 r1 v1, bX5 cI cJ cZ a2 r2 v2, bX6 cI cJ cZ nl3 a3 r3 v3, bS cS 5 (r0 0) q0_0, bX6 cI cJ cZ 0 (q0_0 0) r0_0_0 u.2.1, bX6 cI cJ cZ 0 (q0_0 1) r0_0_1 u.2.2.1, bX6 cI cJ cZ 0 (q0_0 2) r0_0_2 u.2.2.2.1, bX6 cI cJ cZ 0 (q0_0 3) r0_0_3 u.2.2.2.2.1, bX6 cI cJ cZ 0 (q0_0 4) r0_0_4 u.2.2.2.2.2]) := by
  refine Mv_of RX4 [(0, .ref a0), (1, .ref a1), (2, .ref a2), (3, .ref a3), (4, .int x4)] (by decide +kernel) rfl rfl (Nat.le_of_ble_eq_true rfl) ?_
  intro p e s m args below meth c A C hr hk
  refine J_aload_n C 1 dX4_seek_0 rfl rfl ?_
  refine J_ldc C 3 wd771 dX4_seek_1 rfl ?_
  obtain ⟨v0s_1, ev0s_1⟩ : ∃ z : Vl, z = setI v0 3 2147483647 := ⟨_, rfl⟩
  have h := h v0s_1 ev0s_1
  refine J_put C 6 4 inlX4 tyX4 tyX4_ok nmX4 0 3 rfl rfl (by decide) wd772 rfl rfl rfl rfl rfl (List.flatten [bX4 cI cJ cZ a0 r0 v0s_1, bX3 cI cJ cZ a1 r1 v1, bX5 cI cJ cZ a2 r2 v2, bX6 cI cJ cZ nl3 a3 r3 v3, bS cS 5 (r0 0) q0_0, bX6 cI cJ cZ 0 (q0_0 0) r0_0_0 v0_0_0, bX6 cI cJ cZ 0 (q0_0 1) r0_0_1 v0_0_1, bX6 cI cJ cZ 0 (q0_0 2) r0_0_2 v0_0_2, bX6 cI cJ cZ 0 (q0_0 3) r0_0_3 v0_0_3, bX6 cI cJ cZ 0 (q0_0 4) r0_0_4 v0_0_4]) (by subst ev0s_1; rfl) dX4_seek_3 rfl ?_
  refine J_aload_n C 7 dX4_seek_6 rfl rfl ?_
  refine J_ldc C 9 wd771 dX4_seek_7 rfl ?_
  obtain ⟨v0s_2, ev0s_2⟩ : ∃ z : Vl, z = setI v0s_1 4 2147483647 := ⟨_, rfl⟩
  have h := h v0s_2 ev0s_2
  refine J_put C 12 4 inlX4 tyX4 tyX4_ok nmX4 0 4 rfl rfl (by decide) wd773 rfl rfl rfl rfl rfl (List.flatten [bX4 cI cJ cZ a0 r0 v0s_2, bX3 cI cJ cZ a1 r1 v1, bX5 cI cJ cZ a2 r2 v2, bX6 cI cJ cZ nl3 a3 r3 v3, bS cS 5 (r0 0) q0_0, bX6 cI cJ cZ 0 (q0_0 0) r0_0_0 v0_0_0, bX6 cI cJ cZ 0 (q0_0 1) r0_0_1 v0_0_1, bX6 cI cJ cZ 0 (q0_0 2) r0_0_2 v0_0_2, bX6 cI cJ cZ 0 (q0_0 3) r0_0_3 v0_0_3, bX6 cI cJ cZ 0 (q0_0 4) r0_0_4 v0_0_4]) (by subst ev0s_2; rfl) dX4_seek_9 rfl ?_
  refine J_aload_n C 13 dX4_seek_12 rfl rfl ?_
  refine J_get C 16 4 inlX4 0 0 rfl rfl (by decide) wd109 rfl rfl dX4_seek_13 rfl ?_
  refine J_iconst C 17 dX4_seek_16 rfl ki_0 ?_
  refine J_aald C 18 20 0 rfl rfl (by decide) (by unfold vp_in; decide) dX4_seek_17 rfl ?_
  refine J_aload_n C 19 dX4_seek_18 rfl rfl ?_
  refine J_callBvV (Bs := [bX4 cI cJ cZ a0 r0 v0s_2, bX3 cI cJ cZ a1 r1 v1, bX5 cI cJ cZ a2 r2 v2, bX6 cI cJ cZ nl3 a3 r3 v3, bS cS 5 (r0 0) q0_0, bX6 cI cJ cZ 0 (q0_0 0) r0_0_0 v0_0_0, bX6 cI cJ cZ 0 (q0_0 1) r0_0_1 v0_0_1, bX6 cI cJ cZ 0 (q0_0 2) r0_0_2 v0_0_2, bX6 cI cJ cZ 0 (q0_0 3) r0_0_3 v0_0_3, bX6 cI cJ cZ 0 (q0_0 4) r0_0_4 v0_0_4]) (As := [.ref a3]) C 22 (c_X6_copyFrom l D cI cJ cZ cS 0 (q0_0 0) r0_0_0 v0_0_0 nl3 a3 r3 v3 _ h) wd777 wd774 wd29 wd775 wd776 6 0 rfl rfl rfl hdX6_copyFrom ⟨Nat.le_of_ble_eq_true rfl, Nat.le_of_ble_eq_true rfl⟩ ⟨Nat.zero_le _, Nat.zero_le _⟩ rfl (Nat.le_of_ble_eq_true rfl) [5, 3] [0, 1, 2, 4, 6, 7, 8, 9] 10 rfl (by decide +kernel) rfl rfl (fun (u : Vl) => [bX6 cI cJ cZ 0 (q0_0 0) r0_0_0 u, bX6 cI cJ cZ nl3 a3 r3 v3]) (fun _ => rfl) [2, 3, 4, 1, 5, 0, 6, 7, 8, 9] (by decide +kernel) (fun _ => rfl) rfl (fun (u : Vl) => [bX4 cI cJ cZ a0 r0 v0s_2, bX3 cI cJ cZ a1 r1 v1, bX5 cI cJ cZ a2 r2 v2, bX6 cI cJ cZ nl3 a3 r3 v3, bS cS 5 (r0 0) q0_0, bX6 cI cJ cZ 0 (q0_0 0) r0_0_0 u, bX6 cI cJ cZ 0 (q0_0 1) r0_0_1 v0_0_1, bX6 cI cJ cZ 0 (q0_0 2) r0_0_2 v0_0_2, bX6 cI cJ cZ 0 (q0_0 3) r0_0_3 v0_0_3, bX6 cI cJ cZ 0 (q0_0 4) r0_0_4 v0_0_4]) (fun _ => rfl) dX4_seek_19 rfl (fun u h => ?_)
  obtain ⟨u_3, hu⟩ : ∃ z, z = u := ⟨_, rfl⟩
  subst hu
  refine J_aload_n C 23 dX4_seek_22 rfl rfl ?_
  refine J_get C 26 4 inlX4 0 0 rfl rfl (by decide) wd109 rfl rfl dX4_seek_23 rfl ?_
  refine J_iconst C 27 dX4_seek_26 rfl ki_0 ?_
  refine J_aald C 28 20 0 rfl rfl (by decide) (by unfold vp_in; decide) dX4_seek_27 rfl ?_
  refine J_iconst C 29 dX4_seek_28 rfl ki_0 ?_
  obtain ⟨v000s_4, ev000s_4⟩ : ∃ z : Vl, z = setI u_3 10 0 := ⟨_, rfl⟩
  have h := h v000s_4 ev000s_4
  refine J_putN C 32 6 inlX6 tyX6 tyX6_ok nmX6 21 10 rfl rfl (by decide) (mi 35 rfl) rfl rfl rfl rfl rfl (List.flatten [bX4 cI cJ cZ a0 r0 v0s_2, bX3 cI cJ cZ a1 r1 v1, bX5 cI cJ cZ a2 r2 v2, bX6 cI cJ cZ nl3 a3 r3 v3, bS cS 5 (r0 0) q0_0, bX6 cI cJ cZ 0 (q0_0 0) r0_0_0 v000s_4, bX6 cI cJ cZ 0 (q0_0 1) r0_0_1 v0_0_1, bX6 cI cJ cZ 0 (q0_0 2) r0_0_2 v0_0_2, bX6 cI cJ cZ 0 (q0_0 3) r0_0_3 v0_0_3, bX6 cI cJ cZ 0 (q0_0 4) r0_0_4 v0_0_4]) (by subst ev000s_4; rfl) dX4_seek_29 rfl ?_
  refine J_aload_n C 33 dX4_seek_32 rfl rfl ?_
  refine J_get C 36 4 inlX4 0 0 rfl rfl (by decide) wd109 rfl rfl dX4_seek_33 rfl ?_
  refine J_iconst C 37 dX4_seek_36 rfl ki_0 ?_
  refine J_aald C 38 20 0 rfl rfl (by decide) (by unfold vp_in; decide) dX4_seek_37 rfl ?_
  refine J_iconst C 39 dX4_seek_38 rfl ki_0 ?_
  obtain ⟨v000s_5, ev000s_5⟩ : ∃ z : Vl, z = setI v000s_4 11 0 := ⟨_, rfl⟩
  have h := h v000s_5 ev000s_5
  refine J_putN C 42 6 inlX6 tyX6 tyX6_ok nmX6 21 11 rfl rfl (by decide) (mi 36 rfl) rfl rfl rfl rfl rfl (List.flatten [bX4 cI cJ cZ a0 r0 v0s_2, bX3 cI cJ cZ a1 r1 v1, bX5 cI cJ cZ a2 r2 v2, bX6 cI cJ cZ nl3 a3 r3 v3, bS cS 5 (r0 0) q0_0, bX6 cI cJ cZ 0 (q0_0 0) r0_0_0 v000s_5, bX6 cI cJ cZ 0 (q0_0 1) r0_0_1 v0_0_1, bX6 cI cJ cZ 0 (q0_0 2) r0_0_2 v0_0_2, bX6 cI cJ cZ 0 (q0_0 3) r0_0_3 v0_0_3, bX6 cI cJ cZ 0 (q0_0 4) r0_0_4 v0_0_4]) (by subst ev000s_5; rfl) dX4_seek_39 rfl ?_
  refine J_aload_n C 43 dX4_seek_42 rfl rfl ?_
  refine J_aload_n C 44 dX4_seek_43 rfl rfl ?_
  refine J_aload_n C 45 dX4_seek_44 rfl rfl ?_
  refine J_iload C 47 dX4_seek_45 rfl rfl ?_
  refine J_iconst C 48 dX4_seek_47 rfl ki_0 ?_
  refine J_callBvV (Bs := [bX4 cI cJ cZ a0 r0 v0s_2, bX3 cI cJ cZ a1 r1 v1, bX5 cI cJ cZ a2 r2 v2, bX6 cI cJ cZ nl3 a3 r3 v3, bS cS 5 (r0 0) q0_0, bX6 cI cJ cZ 0 (q0_0 0) r0_0_0 v000s_5, bX6 cI cJ cZ 0 (q0_0 1) r0_0_1 v0_0_1, bX6 cI cJ cZ 0 (q0_0 2) r0_0_2 v0_0_2, bX6 cI cJ cZ 0 (q0_0 3) r0_0_3 v0_0_3, bX6 cI cJ cZ 0 (q0_0 4) r0_0_4 v0_0_4]) (As := [.ref a1, .ref a2, .int x4, .int 0]) C 51 (c_X4_tryDay_d0 l D cI cJ cZ cS a0 r0 v0s_2 a1 r1 v1 a2 r2 v2 q0_0 r0_0_0 v000s_5 r0_0_1 v0_0_1 r0_0_2 v0_0_2 r0_0_3 v0_0_3 r0_0_4 v0_0_4 x4 _ h) wd788 wd785 wd36 wd786 wd787 4 0 rfl rfl rfl hdX4_tryDay ⟨Nat.le_of_ble_eq_true rfl, Nat.le_of_ble_eq_true rfl⟩ ⟨Nat.zero_le _, Nat.zero_le _⟩ rfl (Nat.le_of_ble_eq_true rfl) [0, 1, 2, 4, 5, 6, 7, 8, 9] [3] 10 rfl (by decide +kernel) rfl rfl (fun (u : Vl × Vl × Vl × Vl × Vl) => [bX4 cI cJ cZ a0 r0 u.1, bX3 cI cJ cZ a1 r1 v1, bX5 cI cJ cZ a2 r2 v2, bS cS 5 (r0 0) q0_0, bX6 cI cJ cZ 0 (q0_0 0) r0_0_0 v000s_5, bX6 cI cJ cZ 0 (q0_0 1) r0_0_1 u.2.1, bX6 cI cJ cZ 0 (q0_0 2) r0_0_2 u.2.2.1, bX6 cI cJ cZ 0 (q0_0 3) r0_0_3 u.2.2.2.1, bX6 cI cJ cZ 0 (q0_0 4) r0_0_4 u.2.2.2.2]) (fun _ => rfl) [0, 1, 2, 9, 3, 4, 5, 6, 7, 8] (by decide +kernel) (fun _ => rfl) rfl (fun (u : Vl × Vl × Vl × Vl × Vl) => [bX4 cI cJ cZ a0 r0 u.1, bX3 cI cJ cZ a1 r1 v1, bX5 cI cJ cZ a2 r2 v2, bX6 cI cJ cZ nl3 a3 r3 v3, bS cS 5 (r0 0) q0_0, bX6 cI cJ cZ 0 (q0_0 0) r0_0_0 v000s_5, bX6 cI cJ cZ 0 (q0_0 1) r0_0_1 u.2.1, bX6 cI cJ cZ 0 (q0_0 2) r0_0_2 u.2.2.1, bX6 cI cJ cZ 0 (q0_0 3) r0_0_3 u.2.2.2.1, bX6 cI cJ cZ 0 (q0_0 4) r0_0_4 u.2.2.2.2]) (fun _ => rfl) dX4_seek_48 rfl (fun u h => ?_)
  obtain ⟨u_6, u_7, u_8, u_9, u_10⟩ := u
  exact J_vret C hr hk (u_6, v000s_5, u_7, u_8, u_9, u_10) rfl dX4_seek_51 h
