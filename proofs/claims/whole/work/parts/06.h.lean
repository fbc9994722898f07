def wp_X8_round (v0 : Vl) (v0_1 : Vl) (v0_4 : Vl) (v0_4_0_0 : Vl) (v0_4_0_1 : Vl) (v0_4_0_2 : Vl) (v0_4_0_3 : Vl) (v0_4_0_4 : Vl) (v0_9 : Vl) (v0_11 : Vl) (x1 : Int32) (x2 : Int32) (Q : Int32 → Vl → Vl → Vl → Vl → Vl → Vl → Prop) : Prop := ((x1 < 1 → Q (-1000000002) v0_4 v0_4_0_0 v0_4_0_1 v0_4_0_2 v0_4_0_3 v0_4_0_4) ∧ (¬ x1 < 1 → ((4 < x1 → Q (-1000000002) v0_4 v0_4_0_0 v0_4_0_1 v0_4_0_2 v0_4_0_3 v0_4_0_4) ∧ (¬ 4 < x1 → ((x2 < 0 → Q (-1000000002) v0_4 v0_4_0_0 v0_4_0_1 v0_4_0_2 v0_4_0_3 v0_4_0_4) ∧ (¬ x2 < 0 → ((x2 ≤ (x1 + 1) → wp_X4_seek v0_4 v0_9 v0_11 360 v0_1 v0_4_0_0 v0_4_0_1 v0_4_0_2 v0_4_0_3 v0_4_0_4 x1 (fun u_1 u_2 u_3 u_4 u_5 u_6 => (((¬ x2 = 0 ∧ ¬ x2 = 1) → wp_X8_at 4 (u_1.2.2.1 2) (x2 - 2) (fun r_7 => Q r_7 u_1 u_2 u_3 u_4 u_5 u_6)) ∧ (x2 = 0 → Q (u_1.1 3) u_1 u_2 u_3 u_4 u_5 u_6) ∧ (x2 = 1 → Q (u_1.1 4) u_1 u_2 u_3 u_4 u_5 u_6)))) ∧ (¬ x2 ≤ (x1 + 1) → Q (-1000000002) v0_4 v0_4_0_0 v0_4_0_1 v0_4_0_2 v0_4_0_3 v0_4_0_4))))))))
set_option maxHeartbeats 4000000 in
set_option maxRecDepth 100000 in
theorem c_X8_round (l : Launch) (D : GG) (cI cJ cZ cS : ClassId) (a0 : Nat) (r0 : Nat → Nat) (v0 : Vl) (r0_1 : Nat → Nat) (v0_1 : Vl) (r0_4 : Nat → Nat) (v0_4 : Vl) (q0_4_0 : Nat → Nat) (r0_4_0_0 : Nat → Nat) (v0_4_0_0 : Vl) (r0_4_0_1 : Nat → Nat) (v0_4_0_1 : Vl) (r0_4_0_2 : Nat → Nat) (v0_4_0_2 : Vl) (r0_4_0_3 : Nat → Nat) (v0_4_0_3 : Vl) (r0_4_0_4 : Nat → Nat) (v0_4_0_4 : Vl) (r0_9 : Nat → Nat) (v0_9 : Vl) (r0_11 : Nat → Nat) (v0_11 : Vl) (x1 : Int32) (x2 : Int32) (Q : Int32 → Vl → Vl → Vl → Vl → Vl → Vl → Prop) (h : wp_X8_round v0 v0_1 v0_4 v0_4_0_0 v0_4_0_1 v0_4_0_2 v0_4_0_3 v0_4_0_4 v0_9 v0_11 x1 x2 Q) : Mi l D (tyL cI cJ cZ cS) yX8_round cX8_round 3 .int 9 231 [.ref a0, .int x1, .int x2] (List.flatten [bX8 cI cJ cZ a0 r0 v0, bX6 cI cJ cZ 360 (r0 1) r0_1 v0_1, bX4 cI cJ cZ (r0 4) r0_4 v0_4, bS cS 5 (r0_4 0) q0_4_0, bX6 cI cJ cZ 0 (q0_4_0 0) r0_4_0_0 v0_4_0_0, bX6 cI cJ cZ 0 (q0_4_0 1) r0_4_0_1 v0_4_0_1, bX6 cI cJ cZ 0 (q0_4_0 2) r0_4_0_2 v0_4_0_2, bX6 cI cJ cZ 0 (q0_4_0 3) r0_4_0_3 v0_4_0_3, bX6 cI cJ cZ 0 (q0_4_0 4) r0_4_0_4 v0_4_0_4, bX3 cI cJ cZ (r0 9) r0_9 v0_9, bX5 cI cJ cZ (r0 11) r0_11 v0_11]) (fun (r : Int32) (u : Vl × Vl × Vl × Vl × Vl × Vl) => Q r u.1 u.2.1 u.2.2.1 u.2.2.2.1 u.2.2.2.2.1 u.2.2.2.2.2) (fun (u : Vl × Vl × Vl × Vl × Vl × Vl) => List.flatten [bX8 cI cJ cZ a0 r0 v0, bX6 cI cJ cZ 360 (r0 1) r0_1 v0_1, bX4 cI cJ cZ (r0 4) r0_4 u.1, bS cS 5 (r0_4 0) q0_4_0, bX6 cI cJ cZ 0 (q0_4_0 0) r0_4_0_0 u.2.1, bX6 cI cJ cZ 0 (q0_4_0 1) r0_4_0_1 u.2.2.1, bX6 cI cJ cZ 0 (q0_4_0 2) r0_4_0_2 u.2.2.2.1, bX6 cI cJ cZ 0 (q0_4_0 3) r0_4_0_3 u.2.2.2.2.1, bX6 cI cJ cZ 0 (q0_4_0 4) r0_4_0_4 u.2.2.2.2.2, bX3 cI cJ cZ (r0 9) r0_9 v0_9, bX5 cI cJ cZ (r0 11) r0_11 v0_11]) := by
  refine Mi_of RX8 [(0, .ref a0), (1, .int x1), (2, .int x2)] (by decide +kernel) rfl rfl (Nat.le_of_ble_eq_true rfl) ?_
  intro p e s m args below meth c A C hr hk
  refine J_iload_n C 1 dX8_round_0 rfl rfl ?_
  refine J_iconst C 2 dX8_round_1 rfl ki_1 ?_
  refine J_icmp_lt C 5 21 dX8_round_2 rfl rfl (fun c => ?_) (fun c => ?_)
  · have h := h.1 c
    refine J_ldc C 23 wd207 dX8_round_21 rfl ?_
    exact J_iret C hr hk (v0_4, v0_4_0_0, v0_4_0_1, v0_4_0_2, v0_4_0_3, v0_4_0_4) rfl dX8_round_23 h
  · have h := h.2 c
    refine J_iload_n C 6 dX8_round_5 rfl rfl ?_
    refine J_iconst C 7 dX8_round_6 rfl ki_4 ?_
    refine J_icmp_gt C 10 21 dX8_round_7 rfl rfl (fun c => ?_) (fun c => ?_)
    · have h := h.1 c
      refine J_ldc C 23 wd207 dX8_round_21 rfl ?_
      exact J_iret C hr hk (v0_4, v0_4_0_0, v0_4_0_1, v0_4_0_2, v0_4_0_3, v0_4_0_4) rfl dX8_round_23 h
    · have h := h.2 c
      refine J_iload_n C 11 dX8_round_10 rfl rfl ?_
      refine J_if_lt C 14 21 dX8_round_11 rfl rfl (fun c => ?_) (fun c => ?_)
      · have h := h.1 c
        refine J_ldc C 23 wd207 dX8_round_21 rfl ?_
        exact J_iret C hr hk (v0_4, v0_4_0_0, v0_4_0_1, v0_4_0_2, v0_4_0_3, v0_4_0_4) rfl dX8_round_23 h
      · have h := h.2 c
        refine J_iload_n C 15 dX8_round_14 rfl rfl ?_
        refine J_iload_n C 16 dX8_round_15 rfl rfl ?_
        refine J_iconst C 17 dX8_round_16 rfl ki_1 ?_
        refine J_iadd C 18 dX8_round_17 rfl ?_
        refine J_icmp_le C 21 24 dX8_round_18 rfl rfl (fun c => ?_) (fun c => ?_)
        · have h := h.1 c
          refine J_aload_n C 25 dX8_round_24 rfl rfl ?_
          refine J_get C 28 8 inlX8 0 4 rfl rfl (by decide) wd37 rfl rfl dX8_round_25 rfl ?_
          refine J_aload_n C 29 dX8_round_28 rfl rfl ?_
          refine J_get C 32 8 inlX8 0 9 rfl rfl (by decide) wd20 rfl rfl dX8_round_29 rfl ?_
          refine J_aload_n C 33 dX8_round_32 rfl rfl ?_
          refine J_get C 36 8 inlX8 0 11 rfl rfl (by decide) wd25 rfl rfl dX8_round_33 rfl ?_
          refine J_aload_n C 37 dX8_round_36 rfl rfl ?_
          refine J_get C 40 8 inlX8 0 1 rfl rfl (by decide) wd30 rfl rfl dX8_round_37 rfl ?_
          refine J_iload_n C 41 dX8_round_40 rfl rfl ?_
          refine J_callBvV (Bs := [bX8 cI cJ cZ a0 r0 v0, bX6 cI cJ cZ 360 (r0 1) r0_1 v0_1, bX4 cI cJ cZ (r0 4) r0_4 v0_4, bS cS 5 (r0_4 0) q0_4_0, bX6 cI cJ cZ 0 (q0_4_0 0) r0_4_0_0 v0_4_0_0, bX6 cI cJ cZ 0 (q0_4_0 1) r0_4_0_1 v0_4_0_1, bX6 cI cJ cZ 0 (q0_4_0 2) r0_4_0_2 v0_4_0_2, bX6 cI cJ cZ 0 (q0_4_0 3) r0_4_0_3 v0_4_0_3, bX6 cI cJ cZ 0 (q0_4_0 4) r0_4_0_4 v0_4_0_4, bX3 cI cJ cZ (r0 9) r0_9 v0_9, bX5 cI cJ cZ (r0 11) r0_11 v0_11]) (As := [.ref (r0 9), .ref (r0 11), .ref (r0 1), .int x1]) C 44 (c_X4_seek l D cI cJ cZ cS (r0 4) r0_4 v0_4 (r0 9) r0_9 v0_9 (r0 11) r0_11 v0_11 360 (r0 1) r0_1 v0_1 q0_4_0 r0_4_0_0 v0_4_0_0 r0_4_0_1 v0_4_0_1 r0_4_0_2 v0_4_0_2 r0_4_0_3 v0_4_0_3 r0_4_0_4 v0_4_0_4 x1 _ h) wd770 wd767 wd36 wd768 wd769 4 0 rfl rfl rfl hdX4_seek ⟨Nat.le_of_ble_eq_true rfl, Nat.le_of_ble_eq_true rfl⟩ ⟨Nat.zero_le _, Nat.zero_le _⟩ rfl (Nat.le_of_ble_eq_true rfl) [2, 9, 10, 1, 3, 4, 5, 6, 7, 8] [0] 11 rfl (by decide +kernel) rfl rfl (fun (u : Vl × Vl × Vl × Vl × Vl × Vl) => [bX4 cI cJ cZ (r0 4) r0_4 u.1, bX3 cI cJ cZ (r0 9) r0_9 v0_9, bX5 cI cJ cZ (r0 11) r0_11 v0_11, bX6 cI cJ cZ 360 (r0 1) r0_1 v0_1, bS cS 5 (r0_4 0) q0_4_0, bX6 cI cJ cZ 0 (q0_4_0 0) r0_4_0_0 u.2.1, bX6 cI cJ cZ 0 (q0_4_0 1) r0_4_0_1 u.2.2.1, bX6 cI cJ cZ 0 (q0_4_0 2) r0_4_0_2 u.2.2.2.1, bX6 cI cJ cZ 0 (q0_4_0 3) r0_4_0_3 u.2.2.2.2.1, bX6 cI cJ cZ 0 (q0_4_0 4) r0_4_0_4 u.2.2.2.2.2]) (fun _ => rfl) [10, 3, 0, 4, 5, 6, 7, 8, 9, 1, 2] (by decide +kernel) (fun _ => rfl) rfl (fun (u : Vl × Vl × Vl × Vl × Vl × Vl) => [bX8 cI cJ cZ a0 r0 v0, bX6 cI cJ cZ 360 (r0 1) r0_1 v0_1, bX4 cI cJ cZ (r0 4) r0_4 u.1, bS cS 5 (r0_4 0) q0_4_0, bX6 cI cJ cZ 0 (q0_4_0 0) r0_4_0_0 u.2.1, bX6 cI cJ cZ 0 (q0_4_0 1) r0_4_0_1 u.2.2.1, bX6 cI cJ cZ 0 (q0_4_0 2) r0_4_0_2 u.2.2.2.1, bX6 cI cJ cZ 0 (q0_4_0 3) r0_4_0_3 u.2.2.2.2.1, bX6 cI cJ cZ 0 (q0_4_0 4) r0_4_0_4 u.2.2.2.2.2, bX3 cI cJ cZ (r0 9) r0_9 v0_9, bX5 cI cJ cZ (r0 11) r0_11 v0_11]) (fun _ => rfl) dX8_round_41 rfl (fun u h => ?_)
          obtain ⟨u_1, u_2, u_3, u_4, u_5, u_6⟩ := u
          refine J_iload_n C 45 dX8_round_44 rfl rfl ?_
          by_cases c : ¬ x2 = 0 ∧ ¬ x2 = 1
          · have h := h.1 c
            refine J_lookOut C 88 dX8_round_45 (by decide) (lk_0_1 c.1 c.2) rfl ?_
            refine J_aload_n C 89 dX8_round_88 rfl rfl ?_
            refine J_get C 92 8 inlX8 0 4 rfl rfl (by decide) wd37 rfl rfl dX8_round_89 rfl ?_
            refine J_getN C 95 4 inlX4 7 2 rfl rfl (by decide) (mi 26 rfl) rfl rfl dX8_round_92 rfl ?_
            refine J_iload_n C 96 dX8_round_95 rfl rfl ?_
            refine J_iconst C 97 dX8_round_96 rfl ki_2 ?_
            refine J_isub C 98 dX8_round_97 rfl ?_
            refine J_call1piS (As := [.ref (r0_4 2), .int (x2 - 2)]) C 101 (c_X8_at l D cI cJ cZ cS 4 (r0_4 2) (u_1.2.2.1 2) (x2 - 2) _ h) wd147 wd543 wd2 wd146 hdX8_at ⟨Nat.le_of_ble_eq_true rfl, Nat.le_of_ble_eq_true rfl⟩ ⟨Nat.zero_le _, Nat.zero_le _⟩ rfl (Nat.le_of_ble_eq_true rfl) 9 rfl (fun _ => rfl) dX8_round_98 rfl (fun r_7 u h => ?_)
            exact J_iret C hr hk (u_1, u_2, u_3, u_4, u_5, u_6) rfl dX8_round_101 h
          · rcases lkn_0_1 c with c | c
            · have h := (h.2.1) c
              refine J_nmi c.symm ?_
              refine J_lookOut (off := 27) C 72 dX8_round_45 (by decide) (by decide) rfl ?_
              refine J_aload_n C 73 dX8_round_72 rfl rfl ?_
              refine J_get C 76 8 inlX8 0 4 rfl rfl (by decide) wd37 rfl rfl dX8_round_73 rfl ?_
              refine J_getN C 79 4 inlX4 7 3 rfl rfl (by decide) (mi 24 rfl) rfl rfl dX8_round_76 rfl ?_
              exact J_iret C hr hk (u_1, u_2, u_3, u_4, u_5, u_6) rfl dX8_round_79 h
            · have h := (h.2.2) c
              refine J_nmi c.symm ?_
              refine J_lookOut (off := 35) C 80 dX8_round_45 (by decide) (by decide) rfl ?_
              refine J_aload_n C 81 dX8_round_80 rfl rfl ?_
              refine J_get C 84 8 inlX8 0 4 rfl rfl (by decide) wd37 rfl rfl dX8_round_81 rfl ?_
              refine J_getN C 87 4 inlX4 7 4 rfl rfl (by decide) (mi 25 rfl) rfl rfl dX8_round_84 rfl ?_
              exact J_iret C hr hk (u_1, u_2, u_3, u_4, u_5, u_6) rfl dX8_round_87 h
        · have h := h.2 c
          refine J_ldc C 23 wd207 dX8_round_21 rfl ?_
          exact J_iret C hr hk (v0_4, v0_4_0_0, v0_4_0_1, v0_4_0_2, v0_4_0_3, v0_4_0_4) rfl dX8_round_23 h
def wp_X8_sumOver_kt9_4_c36 (v0 : Vl) (v0_9 : Vl) (Q : Int32 → Prop) (B5 : Int32 → Int32 → Int32 → Prop) (y1 : Int32) (y3 : Int32) (y4 : Int32) : Prop := ∀ x_1 : Int32, x_1 = y4 + 1 → B5 y1 y3 x_1
set_option maxHeartbeats 4000000 in
set_option maxRecDepth 100000 in
theorem wk_X8_sumOver_kt9_4_c36 {p : Program} {l : Launch} {e : Env} {s : State} {m : MethodId} {args : Array Value} {below : List Frame} {meth : Method} {c : Code} {D : GG} {A : Nat → Prop} {cI cJ cZ cS : ClassId} {a0 : Nat} {r0 : Nat → Nat} {r0_9 : Nat → Nat} {v0 : Vl} {v0_9 : Vl} {B5 : Int32 → Int32 → Int32 → Prop} {Q : Int32 → Prop} (C : Cx p s m args c D (tyL cI cJ cZ cS) A RX8 cX8_sumOver 5) (hr : meth.sig.returnType = some .int) (hk : meth.locks = false) (hB5 : ∀ (y1 : Int32) (y3 : Int32) (y4 : Int32), B5 y1 y3 y4 → J p l e (rmk 1 21) s m args below meth c D A 5 0 0 (MQ below (va_Qi (fun (r : Int32) (u : Unit) => Q r) (fun u t => va_P D.1 vwCl ((fun (u : Unit) => List.flatten [bX8 cI cJ cZ a0 r0 v0, bX3 cI cJ cZ (r0 9) r0_9 v0_9]) u) t.heap ∧ va_D A ((fun (u : Unit) => List.flatten [bX8 cI cJ cZ a0 r0 v0, bX3 cI cJ cZ (r0 9) r0_9 v0_9]) u)) A) args s 0 0 A) 5 [(0, .ref a0), (1, .int y1), (2, .ref (r0_9 4)), (3, .int y3), (4, .int y4)] [] (List.flatten [bX8 cI cJ cZ a0 r0 v0, bX3 cI cJ cZ (r0 9) r0_9 v0_9])) : ∀ (y1 : Int32) (y3 : Int32) (y4 : Int32), wp_X8_sumOver_kt9_4_c36 v0 v0_9 Q B5 y1 y3 y4 → J p l e (rmk 1 21) s m args below meth c D A 5 0 0 (MQ below (va_Qi (fun (r : Int32) (u : Unit) => Q r) (fun u t => va_P D.1 vwCl ((fun (u : Unit) => List.flatten [bX8 cI cJ cZ a0 r0 v0, bX3 cI cJ cZ (r0 9) r0_9 v0_9]) u) t.heap ∧ va_D A ((fun (u : Unit) => List.flatten [bX8 cI cJ cZ a0 r0 v0, bX3 cI cJ cZ (r0 9) r0_9 v0_9]) u)) A) args s 0 0 A) 36 [(0, .ref a0), (1, .int y1), (2, .ref (r0_9 4)), (3, .int y3), (4, .int y4)] [] (List.flatten [bX8 cI cJ cZ a0 r0 v0, bX3 cI cJ cZ (r0 9) r0_9 v0_9]) := by
  intro y1 y3 y4 h
  obtain ⟨x_1, ex_1⟩ : ∃ z : Int32, z = y4 + 1 := ⟨_, rfl⟩
  have h := h x_1 ex_1
  refine J_iinc C 39 [(4, .int x_1), (0, .ref a0), (1, .int y1), (2, .ref (r0_9 4)), (3, .int y3)] dX8_sumOver_36 rfl rfl ((kinc_1 _).trans ex_1.symm) (by decide) rfl ?_
  refine J_goto C 5 dX8_sumOver_39 rfl ?_
  refine J_loc [1, 2, 3, 4, 0] rfl ?_
  exact hB5 y1 y3 x_1 h
def wp_X8_sumOver_kt9_4_c5 (v0 : Vl) (v0_9 : Vl) (Q : Int32 → Prop) : Nat → Int32 → Int32 → Int32 → Prop
  | 0 => fun _ _ _ => False
  | n + 1 => fun y1 y3 y4 => (((v0_9.1 7) ≤ y4 → Q y3) ∧ (¬ (v0_9.1 7) ≤ y4 → ((¬ ((y1 >>> (y4 &&& 31)) &&& 1) = 1 → wp_X8_sumOver_kt9_4_c36 v0 v0_9 Q (wp_X8_sumOver_kt9_4_c5 v0 v0_9 Q n) y1 y3 y4) ∧ (((y1 >>> (y4 &&& 31)) &&& 1) = 1 → wp_X8_at 9 (v0_9.2.2.1 4) y4 (fun r_2 => ∀ x_3 : Int32, x_3 = (y3 + r_2) → wp_X8_sumOver_kt9_4_c36 v0 v0_9 Q (wp_X8_sumOver_kt9_4_c5 v0 v0_9 Q n) y1 x_3 y4)))))
set_option maxHeartbeats 4000000 in
set_option maxRecDepth 100000 in
theorem wk_X8_sumOver_kt9_4_c5 {p : Program} {l : Launch} {e : Env} {s : State} {m : MethodId} {args : Array Value} {below : List Frame} {meth : Method} {c : Code} {D : GG} {A : Nat → Prop} {cI cJ cZ cS : ClassId} {a0 : Nat} {r0 : Nat → Nat} {r0_9 : Nat → Nat} {v0 : Vl} {v0_9 : Vl} {Q : Int32 → Prop} (C : Cx p s m args c D (tyL cI cJ cZ cS) A RX8 cX8_sumOver 5) (hr : meth.sig.returnType = some .int) (hk : meth.locks = false) : ∀ (n : Nat) (y1 : Int32) (y3 : Int32) (y4 : Int32), wp_X8_sumOver_kt9_4_c5 v0 v0_9 Q n y1 y3 y4 → J p l e (rmk 1 21) s m args below meth c D A 5 0 0 (MQ below (va_Qi (fun (r : Int32) (u : Unit) => Q r) (fun u t => va_P D.1 vwCl ((fun (u : Unit) => List.flatten [bX8 cI cJ cZ a0 r0 v0, bX3 cI cJ cZ (r0 9) r0_9 v0_9]) u) t.heap ∧ va_D A ((fun (u : Unit) => List.flatten [bX8 cI cJ cZ a0 r0 v0, bX3 cI cJ cZ (r0 9) r0_9 v0_9]) u)) A) args s 0 0 A) 5 [(0, .ref a0), (1, .int y1), (2, .ref (r0_9 4)), (3, .int y3), (4, .int y4)] [] (List.flatten [bX8 cI cJ cZ a0 r0 v0, bX3 cI cJ cZ (r0 9) r0_9 v0_9]) := by
  intro n
  induction n with
  | zero =>
    intro y1 y3 y4 h
    exact False.elim h
  | succ n ih =>
    intro y1 y3 y4 h
    refine J_iload C 7 dX8_sumOver_5 rfl rfl ?_
    refine J_aload_n C 8 dX8_sumOver_7 rfl rfl ?_
    refine J_get C 11 8 inlX8 0 9 rfl rfl (by decide) wd20 rfl rfl dX8_sumOver_8 rfl ?_
    refine J_getN C 14 3 inlX3 1 7 rfl rfl (by decide) (mi 0 rfl) rfl rfl dX8_sumOver_11 rfl ?_
    refine J_icmp_ge C 17 42 dX8_sumOver_14 rfl rfl (fun c => ?_) (fun c => ?_)
    · have h := h.1 c
      refine J_iload_n C 43 dX8_sumOver_42 rfl rfl ?_
      exact J_iret C hr hk () rfl dX8_sumOver_43 h
    · have h := h.2 c
      refine J_iload_n C 18 dX8_sumOver_17 rfl rfl ?_
      refine J_iload C 20 dX8_sumOver_18 rfl rfl ?_
      refine J_ishr C 21 dX8_sumOver_20 rfl ?_
      refine J_iconst C 22 dX8_sumOver_21 rfl ki_1 ?_
      refine J_iand C 23 dX8_sumOver_22 rfl ?_
      refine J_iconst C 24 dX8_sumOver_23 rfl ki_1 ?_
      refine J_icmp_ne C 27 36 dX8_sumOver_24 rfl rfl (fun c => ?_) (fun c => ?_)
      · have h := h.1 c
        refine J_loc [0, 1, 2, 3, 4] rfl ?_
        exact wk_X8_sumOver_kt9_4_c36 C hr hk ih y1 y3 y4 h
      · have h := h.2 c
        refine J_iload_n C 28 dX8_sumOver_27 rfl rfl ?_
        refine J_aload_n C 29 dX8_sumOver_28 rfl rfl ?_
        refine J_iload C 31 dX8_sumOver_29 rfl rfl ?_
        refine J_call1piS (As := [.ref (r0_9 4), .int y4]) C 34 (c_X8_at l D cI cJ cZ cS 9 (r0_9 4) (v0_9.2.2.1 4) y4 _ h) wd147 wd543 wd2 wd146 hdX8_at ⟨Nat.le_of_ble_eq_true rfl, Nat.le_of_ble_eq_true rfl⟩ ⟨Nat.zero_le _, Nat.zero_le _⟩ rfl (Nat.le_of_ble_eq_true rfl) 6 rfl (fun _ => rfl) dX8_sumOver_31 rfl (fun r_2 u h => ?_)
        refine J_iadd C 35 dX8_sumOver_34 rfl ?_
        obtain ⟨x_3, ex_3⟩ : ∃ z : Int32, z = (y3 + r_2) := ⟨_, rfl⟩
        have h := h x_3 ex_3
        refine J_nmi ex_3 ?_
        refine J_istore_n C 36 [(3, .int x_3), (0, .ref a0), (1, .int y1), (2, .ref (r0_9 4)), (4, .int y4)] dX8_sumOver_35 rfl (by decide) rfl ?_
        refine J_loc [1, 2, 3, 0, 4] rfl ?_
        exact wk_X8_sumOver_kt9_4_c36 C hr hk ih y1 x_3 y4 h
def wp_X8_sumOver_kt9_4 (v0 : Vl) (v0_9 : Vl) (x1 : Int32) (Q : Int32 → Prop) : Prop := (∃ k : Nat, wp_X8_sumOver_kt9_4_c5 v0 v0_9 Q k x1 0 0)
set_option maxHeartbeats 4000000 in
set_option maxRecDepth 100000 in
theorem c_X8_sumOver_kt9_4 (l : Launch) (D : GG) (cI cJ cZ cS : ClassId) (a0 : Nat) (r0 : Nat → Nat) (v0 : Vl) (r0_9 : Nat → Nat) (v0_9 : Vl) (x1 : Int32) (Q : Int32 → Prop) (h : wp_X8_sumOver_kt9_4 v0 v0_9 x1 Q) : Mi l D (tyL cI cJ cZ cS) yX8_sumOver cX8_sumOver 5 .int 1 21 [.ref a0, .int x1, .ref (r0_9 4)] (List.flatten [bX8 cI cJ cZ a0 r0 v0, bX3 cI cJ cZ (r0 9) r0_9 v0_9]) (fun (r : Int32) (u : Unit) => Q r) (fun (u : Unit) => List.flatten [bX8 cI cJ cZ a0 r0 v0, bX3 cI cJ cZ (r0 9) r0_9 v0_9]) := by
  refine Mi_of RX8 [(0, .ref a0), (1, .int x1), (2, .ref (r0_9 4))] (by decide +kernel) rfl rfl (Nat.le_of_ble_eq_true rfl) ?_
  intro p e s m args below meth c A C hr hk
  refine J_iconst C 1 dX8_sumOver_0 rfl ki_0 ?_
  refine J_istore_n C 2 [(3, .int 0), (0, .ref a0), (1, .int x1), (2, .ref (r0_9 4))] dX8_sumOver_1 rfl (by decide) rfl ?_
  refine J_iconst C 3 dX8_sumOver_2 rfl ki_0 ?_
  refine J_istore C 5 [(4, .int 0), (3, .int 0), (0, .ref a0), (1, .int x1), (2, .ref (r0_9 4))] dX8_sumOver_3 rfl (by decide) rfl ?_
  refine J_loc [2, 3, 4, 1, 0] rfl ?_
  obtain ⟨n1, h⟩ := h
  exact wk_X8_sumOver_kt9_4_c5 C hr hk n1 x1 0 0 h
def wp_X8_sumOver_kt8_c36 (v0 : Vl) (f0_8 : Nat → Int32) (v0_9 : Vl) (Q : Int32 → Prop) (B5 : Int32 → Int32 → Int32 → Prop) (y1 : Int32) (y3 : Int32) (y4 : Int32) : Prop := ∀ x_1 : Int32, x_1 = y4 + 1 → B5 y1 y3 x_1
set_option maxHeartbeats 4000000 in
set_option maxRecDepth 100000 in
theorem wk_X8_sumOver_kt8_c36 {p : Program} {l : Launch} {e : Env} {s : State} {m : MethodId} {args : Array Value} {below : List Frame} {meth : Method} {c : Code} {D : GG} {A : Nat → Prop} {cI cJ cZ cS : ClassId} {a0 : Nat} {r0 : Nat → Nat} {r0_9 : Nat → Nat} {v0 : Vl} {f0_8 : Nat → Int32} {v0_9 : Vl} {B5 : Int32 → Int32 → Int32 → Prop} {Q : Int32 → Prop} (C : Cx p s m args c D (tyL cI cJ cZ cS) A RX8 cX8_sumOver 5) (hr : meth.sig.returnType = some .int) (hk : meth.locks = false) (hB5 : ∀ (y1 : Int32) (y3 : Int32) (y4 : Int32), B5 y1 y3 y4 → J p l e (rmk 1 21) s m args below meth c D A 5 0 0 (MQ below (va_Qi (fun (r : Int32) (u : Unit) => Q r) (fun u t => va_P D.1 vwCl ((fun (u : Unit) => List.flatten [bX8 cI cJ cZ a0 r0 v0, bI cI 9 (r0 8) f0_8, bX3 cI cJ cZ (r0 9) r0_9 v0_9]) u) t.heap ∧ va_D A ((fun (u : Unit) => List.flatten [bX8 cI cJ cZ a0 r0 v0, bI cI 9 (r0 8) f0_8, bX3 cI cJ cZ (r0 9) r0_9 v0_9]) u)) A) args s 0 0 A) 5 [(0, .ref a0), (1, .int y1), (2, .ref (r0 8)), (3, .int y3), (4, .int y4)] [] (List.flatten [bX8 cI cJ cZ a0 r0 v0, bI cI 9 (r0 8) f0_8, bX3 cI cJ cZ (r0 9) r0_9 v0_9])) : ∀ (y1 : Int32) (y3 : Int32) (y4 : Int32), wp_X8_sumOver_kt8_c36 v0 f0_8 v0_9 Q B5 y1 y3 y4 → J p l e (rmk 1 21) s m args below meth c D A 5 0 0 (MQ below (va_Qi (fun (r : Int32) (u : Unit) => Q r) (fun u t => va_P D.1 vwCl ((fun (u : Unit) => List.flatten [bX8 cI cJ cZ a0 r0 v0, bI cI 9 (r0 8) f0_8, bX3 cI cJ cZ (r0 9) r0_9 v0_9]) u) t.heap ∧ va_D A ((fun (u : Unit) => List.flatten [bX8 cI cJ cZ a0 r0 v0, bI cI 9 (r0 8) f0_8, bX3 cI cJ cZ (r0 9) r0_9 v0_9]) u)) A) args s 0 0 A) 36 [(0, .ref a0), (1, .int y1), (2, .ref (r0 8)), (3, .int y3), (4, .int y4)] [] (List.flatten [bX8 cI cJ cZ a0 r0 v0, bI cI 9 (r0 8) f0_8, bX3 cI cJ cZ (r0 9) r0_9 v0_9]) := by
  intro y1 y3 y4 h
  obtain ⟨x_1, ex_1⟩ : ∃ z : Int32, z = y4 + 1 := ⟨_, rfl⟩
  have h := h x_1 ex_1
  refine J_iinc C 39 [(4, .int x_1), (0, .ref a0), (1, .int y1), (2, .ref (r0 8)), (3, .int y3)] dX8_sumOver_36 rfl rfl ((kinc_1 _).trans ex_1.symm) (by decide) rfl ?_
  refine J_goto C 5 dX8_sumOver_39 rfl ?_
  refine J_loc [1, 2, 3, 4, 0] rfl ?_
  exact hB5 y1 y3 x_1 h
def wp_X8_sumOver_kt8_c5 (v0 : Vl) (f0_8 : Nat → Int32) (v0_9 : Vl) (Q : Int32 → Prop) : Nat → Int32 → Int32 → Int32 → Prop
  | 0 => fun _ _ _ => False
  | n + 1 => fun y1 y3 y4 => (((v0_9.1 7) ≤ y4 → Q y3) ∧ (¬ (v0_9.1 7) ≤ y4 → ((¬ ((y1 >>> (y4 &&& 31)) &&& 1) = 1 → wp_X8_sumOver_kt8_c36 v0 f0_8 v0_9 Q (wp_X8_sumOver_kt8_c5 v0 f0_8 v0_9 Q n) y1 y3 y4) ∧ (((y1 >>> (y4 &&& 31)) &&& 1) = 1 → wp_X8_at 9 f0_8 y4 (fun r_2 => ∀ x_3 : Int32, x_3 = (y3 + r_2) → wp_X8_sumOver_kt8_c36 v0 f0_8 v0_9 Q (wp_X8_sumOver_kt8_c5 v0 f0_8 v0_9 Q n) y1 x_3 y4)))))
set_option maxHeartbeats 4000000 in
set_option maxRecDepth 100000 in
theorem wk_X8_sumOver_kt8_c5 {p : Program} {l : Launch} {e : Env} {s : State} {m : MethodId} {args : Array Value} {below : List Frame} {meth : Method} {c : Code} {D : GG} {A : Nat → Prop} {cI cJ cZ cS : ClassId} {a0 : Nat} {r0 : Nat → Nat} {r0_9 : Nat → Nat} {v0 : Vl} {f0_8 : Nat → Int32} {v0_9 : Vl} {Q : Int32 → Prop} (C : Cx p s m args c D (tyL cI cJ cZ cS) A RX8 cX8_sumOver 5) (hr : meth.sig.returnType = some .int) (hk : meth.locks = false) : ∀ (n : Nat) (y1 : Int32) (y3 : Int32) (y4 : Int32), wp_X8_sumOver_kt8_c5 v0 f0_8 v0_9 Q n y1 y3 y4 → J p l e (rmk 1 21) s m args below meth c D A 5 0 0 (MQ below (va_Qi (fun (r : Int32) (u : Unit) => Q r) (fun u t => va_P D.1 vwCl ((fun (u : Unit) => List.flatten [bX8 cI cJ cZ a0 r0 v0, bI cI 9 (r0 8) f0_8, bX3 cI cJ cZ (r0 9) r0_9 v0_9]) u) t.heap ∧ va_D A ((fun (u : Unit) => List.flatten [bX8 cI cJ cZ a0 r0 v0, bI cI 9 (r0 8) f0_8, bX3 cI cJ cZ (r0 9) r0_9 v0_9]) u)) A) args s 0 0 A) 5 [(0, .ref a0), (1, .int y1), (2, .ref (r0 8)), (3, .int y3), (4, .int y4)] [] (List.flatten [bX8 cI cJ cZ a0 r0 v0, bI cI 9 (r0 8) f0_8, bX3 cI cJ cZ (r0 9) r0_9 v0_9]) := by
  intro n
  induction n with
  | zero =>
    intro y1 y3 y4 h
    exact False.elim h
  | succ n ih =>
    intro y1 y3 y4 h
    refine J_iload C 7 dX8_sumOver_5 rfl rfl ?_
    refine J_aload_n C 8 dX8_sumOver_7 rfl rfl ?_
    refine J_get C 11 8 inlX8 0 9 rfl rfl (by decide) wd20 rfl rfl dX8_sumOver_8 rfl ?_
    refine J_getN C 14 3 inlX3 2 7 rfl rfl (by decide) (mi 0 rfl) rfl rfl dX8_sumOver_11 rfl ?_
    refine J_icmp_ge C 17 42 dX8_sumOver_14 rfl rfl (fun c => ?_) (fun c => ?_)
    · have h := h.1 c
      refine J_iload_n C 43 dX8_sumOver_42 rfl rfl ?_
      exact J_iret C hr hk () rfl dX8_sumOver_43 h
    · have h := h.2 c
      refine J_iload_n C 18 dX8_sumOver_17 rfl rfl ?_
      refine J_iload C 20 dX8_sumOver_18 rfl rfl ?_
      refine J_ishr C 21 dX8_sumOver_20 rfl ?_
      refine J_iconst C 22 dX8_sumOver_21 rfl ki_1 ?_
      refine J_iand C 23 dX8_sumOver_22 rfl ?_
      refine J_iconst C 24 dX8_sumOver_23 rfl ki_1 ?_
      refine J_icmp_ne C 27 36 dX8_sumOver_24 rfl rfl (fun c => ?_) (fun c => ?_)
      · have h := h.1 c
        refine J_loc [0, 1, 2, 3, 4] rfl ?_
        exact wk_X8_sumOver_kt8_c36 C hr hk ih y1 y3 y4 h
      · have h := h.2 c
        refine J_iload_n C 28 dX8_sumOver_27 rfl rfl ?_
        refine J_aload_n C 29 dX8_sumOver_28 rfl rfl ?_
        refine J_iload C 31 dX8_sumOver_29 rfl rfl ?_
        refine J_call1piS (As := [.ref (r0 8), .int y4]) C 34 (c_X8_at l D cI cJ cZ cS 9 (r0 8) f0_8 y4 _ h) wd147 wd543 wd2 wd146 hdX8_at ⟨Nat.le_of_ble_eq_true rfl, Nat.le_of_ble_eq_true rfl⟩ ⟨Nat.zero_le _, Nat.zero_le _⟩ rfl (Nat.le_of_ble_eq_true rfl) 1 rfl (fun _ => rfl) dX8_sumOver_31 rfl (fun r_2 u h => ?_)
        refine J_iadd C 35 dX8_sumOver_34 rfl ?_
        obtain ⟨x_3, ex_3⟩ : ∃ z : Int32, z = (y3 + r_2) := ⟨_, rfl⟩
        have h := h x_3 ex_3
        refine J_nmi ex_3 ?_
        refine J_istore_n C 36 [(3, .int x_3), (0, .ref a0), (1, .int y1), (2, .ref (r0 8)), (4, .int y4)] dX8_sumOver_35 rfl (by decide) rfl ?_
        refine J_loc [1, 2, 3, 0, 4] rfl ?_
        exact wk_X8_sumOver_kt8_c36 C hr hk ih y1 x_3 y4 h
def wp_X8_sumOver_kt8 (v0 : Vl) (f0_8 : Nat → Int32) (v0_9 : Vl) (x1 : Int32) (Q : Int32 → Prop) : Prop := (∃ k : Nat, wp_X8_sumOver_kt8_c5 v0 f0_8 v0_9 Q k x1 0 0)
set_option maxHeartbeats 4000000 in
set_option maxRecDepth 100000 in
theorem c_X8_sumOver_kt8 (l : Launch) (D : GG) (cI cJ cZ cS : ClassId) (a0 : Nat) (r0 : Nat → Nat) (v0 : Vl) (f0_8 : Nat → Int32) (r0_9 : Nat → Nat) (v0_9 : Vl) (x1 : Int32) (Q : Int32 → Prop) (h : wp_X8_sumOver_kt8 v0 f0_8 v0_9 x1 Q) : Mi l D (tyL cI cJ cZ cS) yX8_sumOver cX8_sumOver 5 .int 1 21 [.ref a0, .int x1, .ref (r0 8)] (List.flatten [bX8 cI cJ cZ a0 r0 v0, bI cI 9 (r0 8) f0_8, bX3 cI cJ cZ (r0 9) r0_9 v0_9]) (fun (r : Int32) (u : Unit) => Q r) (fun (u : Unit) => List.flatten [bX8 cI cJ cZ a0 r0 v0, bI cI 9 (r0 8) f0_8, bX3 cI cJ cZ (r0 9) r0_9 v0_9]) := by
  refine Mi_of RX8 [(0, .ref a0), (1, .int x1), (2, .ref (r0 8))] (by decide +kernel) rfl rfl (Nat.le_of_ble_eq_true rfl) ?_
  intro p e s m args below meth c A C hr hk
  refine J_iconst C 1 dX8_sumOver_0 rfl ki_0 ?_
  refine J_istore_n C 2 [(3, .int 0), (0, .ref a0), (1, .int x1), (2, .ref (r0 8))] dX8_sumOver_1 rfl (by decide) rfl ?_
  refine J_iconst C 3 dX8_sumOver_2 rfl ki_0 ?_
  refine J_istore C 5 [(4, .int 0), (3, .int 0), (0, .ref a0), (1, .int x1), (2, .ref (r0 8))] dX8_sumOver_3 rfl (by decide) rfl ?_
  refine J_loc [2, 3, 4, 1, 0] rfl ?_
  obtain ⟨n1, h⟩ := h
  exact wk_X8_sumOver_kt8_c5 C hr hk n1 x1 0 0 h
def wp_X8_needOfNights_c104 (v0 : Vl) (v0_1 : Vl) (v0_9 : Vl) (Q : Int32 → Prop) (B49 : Int32 → Int32 → Int32 → Int32 → Int32 → Int32 → Prop) (y1 : Int32) (y2 : Int32) (y3 : Int32) (y4 : Int32) (y6 : Int32) (s0 : Int32) (s1 : Int32) : Prop := ∀ x_5 : Int32, x_5 = (s1 + s0) → ∀ x_6 : Int32, x_6 = y6 + 1 → B49 y1 y2 y3 y4 x_5 x_6
set_option maxHeartbeats 4000000 in
set_option maxRecDepth 100000 in
theorem wk_X8_needOfNights_c104 {p : Program} {l : Launch} {e : Env} {s : State} {m : MethodId} {args : Array Value} {below : List Frame} {meth : Method} {c : Code} {D : GG} {A : Nat → Prop} {cI cJ cZ cS : ClassId} {a0 : Nat} {r0 : Nat → Nat} {r0_1 : Nat → Nat} {r0_9 : Nat → Nat} {v0 : Vl} {v0_1 : Vl} {v0_9 : Vl} {B49 : Int32 → Int32 → Int32 → Int32 → Int32 → Int32 → Prop} {Q : Int32 → Prop} (C : Cx p s m args c D (tyL cI cJ cZ cS) A RX8 cX8_needOfNights 8) (hr : meth.sig.returnType = some .int) (hk : meth.locks = false) (hB49 : ∀ (y1 : Int32) (y2 : Int32) (y3 : Int32) (y4 : Int32) (y5 : Int32) (y6 : Int32), B49 y1 y2 y3 y4 y5 y6 → J p l e (rmk 2 47) s m args below meth c D A 8 0 0 (MQ below (va_Qi (fun (r : Int32) (u : Unit) => Q r) (fun u t => va_P D.1 vwCl ((fun (u : Unit) => List.flatten [bX8 cI cJ cZ a0 r0 v0, bX6 cI cJ cZ 360 (r0 1) r0_1 v0_1, bX3 cI cJ cZ (r0 9) r0_9 v0_9]) u) t.heap ∧ va_D A ((fun (u : Unit) => List.flatten [bX8 cI cJ cZ a0 r0 v0, bX6 cI cJ cZ 360 (r0 1) r0_1 v0_1, bX3 cI cJ cZ (r0 9) r0_9 v0_9]) u)) A) args s 0 0 A) 49 [(0, .ref a0), (1, .int y1), (2, .int y2), (3, .int y3), (4, .int y4), (5, .int y5), (6, .int y6)] [] (List.flatten [bX8 cI cJ cZ a0 r0 v0, bX6 cI cJ cZ 360 (r0 1) r0_1 v0_1, bX3 cI cJ cZ (r0 9) r0_9 v0_9])) : ∀ (y1 : Int32) (y2 : Int32) (y3 : Int32) (y4 : Int32) (y6 : Int32) (s0 : Int32) (s1 : Int32), wp_X8_needOfNights_c104 v0 v0_1 v0_9 Q B49 y1 y2 y3 y4 y6 s0 s1 → J p l e (rmk 2 47) s m args below meth c D A 8 0 0 (MQ below (va_Qi (fun (r : Int32) (u : Unit) => Q r) (fun u t => va_P D.1 vwCl ((fun (u : Unit) => List.flatten [bX8 cI cJ cZ a0 r0 v0, bX6 cI cJ cZ 360 (r0 1) r0_1 v0_1, bX3 cI cJ cZ (r0 9) r0_9 v0_9]) u) t.heap ∧ va_D A ((fun (u : Unit) => List.flatten [bX8 cI cJ cZ a0 r0 v0, bX6 cI cJ cZ 360 (r0 1) r0_1 v0_1, bX3 cI cJ cZ (r0 9) r0_9 v0_9]) u)) A) args s 0 0 A) 104 [(0, .ref a0), (1, .int y1), (2, .int y2), (3, .int y3), (4, .int y4), (6, .int y6)] [.int s0, .int s1] (List.flatten [bX8 cI cJ cZ a0 r0 v0, bX6 cI cJ cZ 360 (r0 1) r0_1 v0_1, bX3 cI cJ cZ (r0 9) r0_9 v0_9]) := by
  intro y1 y2 y3 y4 y6 s0 s1 h
  refine J_iadd C 105 dX8_needOfNights_104 rfl ?_
  obtain ⟨x_5, ex_5⟩ : ∃ z : Int32, z = (s1 + s0) := ⟨_, rfl⟩
  have h := h x_5 ex_5
  refine J_nmi ex_5 ?_
  refine J_istore C 107 [(5, .int x_5), (0, .ref a0), (1, .int y1), (2, .int y2), (3, .int y3), (4, .int y4), (6, .int y6)] dX8_needOfNights_105 rfl (by decide) rfl ?_
  obtain ⟨x_6, ex_6⟩ : ∃ z : Int32, z = y6 + 1 := ⟨_, rfl⟩
  have h := h x_6 ex_6
  refine J_iinc C 110 [(6, .int x_6), (5, .int x_5), (0, .ref a0), (1, .int y1), (2, .int y2), (3, .int y3), (4, .int y4)] dX8_needOfNights_107 rfl rfl ((kinc_1 _).trans ex_6.symm) (by decide) rfl ?_
  refine J_goto C 49 dX8_needOfNights_110 rfl ?_
  refine J_loc [2, 3, 4, 5, 6, 1, 0] rfl ?_
  exact hB49 y1 y2 y3 y4 x_5 x_6 h
def wp_X8_needOfNights_c49 (v0 : Vl) (v0_1 : Vl) (v0_9 : Vl) (Q : Int32 → Prop) : Nat → Int32 → Int32 → Int32 → Int32 → Int32 → Int32 → Prop
  | 0 => fun _ _ _ _ _ _ => False
  | n + 1 => fun y1 y2 y3 y4 y5 y6 => ((y2 ≤ y6 → Q y5) ∧ (¬ y2 ≤ y6 → wp_X3_hoursOf v0_9 ((v0_1.1 12) + y6) (fun r_3 => wp_X3_needOf v0_9 y1 r_3 0 y3 (fun r_4 => ((y4 = 0 → wp_X8_needOfNights_c104 v0 v0_1 v0_9 Q (wp_X8_needOfNights_c49 v0 v0_1 v0_9 Q n) y1 y2 y3 y4 y6 r_4 y5) ∧ (¬ y4 = 0 → wp_X8_needOfNights_c104 v0 v0_1 v0_9 Q (wp_X8_needOfNights_c49 v0 v0_1 v0_9 Q n) y1 y2 y3 y4 y6 (r_4 + (r_4 / 10)) y5))))))
set_option maxHeartbeats 4000000 in
set_option maxRecDepth 100000 in
theorem wk_X8_needOfNights_c49 {p : Program} {l : Launch} {e : Env} {s : State} {m : MethodId} {args : Array Value} {below : List Frame} {meth : Method} {c : Code} {D : GG} {A : Nat → Prop} {cI cJ cZ cS : ClassId} {a0 : Nat} {r0 : Nat → Nat} {r0_1 : Nat → Nat} {r0_9 : Nat → Nat} {v0 : Vl} {v0_1 : Vl} {v0_9 : Vl} {Q : Int32 → Prop} (C : Cx p s m args c D (tyL cI cJ cZ cS) A RX8 cX8_needOfNights 8) (hr : meth.sig.returnType = some .int) (hk : meth.locks = false) : ∀ (n : Nat) (y1 : Int32) (y2 : Int32) (y3 : Int32) (y4 : Int32) (y5 : Int32) (y6 : Int32), wp_X8_needOfNights_c49 v0 v0_1 v0_9 Q n y1 y2 y3 y4 y5 y6 → J p l e (rmk 2 47) s m args below meth c D A 8 0 0 (MQ below (va_Qi (fun (r : Int32) (u : Unit) => Q r) (fun u t => va_P D.1 vwCl ((fun (u : Unit) => List.flatten [bX8 cI cJ cZ a0 r0 v0, bX6 cI cJ cZ 360 (r0 1) r0_1 v0_1, bX3 cI cJ cZ (r0 9) r0_9 v0_9]) u) t.heap ∧ va_D A ((fun (u : Unit) => List.flatten [bX8 cI cJ cZ a0 r0 v0, bX6 cI cJ cZ 360 (r0 1) r0_1 v0_1, bX3 cI cJ cZ (r0 9) r0_9 v0_9]) u)) A) args s 0 0 A) 49 [(0, .ref a0), (1, .int y1), (2, .int y2), (3, .int y3), (4, .int y4), (5, .int y5), (6, .int y6)] [] (List.flatten [bX8 cI cJ cZ a0 r0 v0, bX6 cI cJ cZ 360 (r0 1) r0_1 v0_1, bX3 cI cJ cZ (r0 9) r0_9 v0_9]) := by
  intro n
  induction n with
  | zero =>
    intro y1 y2 y3 y4 y5 y6 h
    exact False.elim h
  | succ n ih =>
    intro y1 y2 y3 y4 y5 y6 h
    refine J_iload C 51 dX8_needOfNights_49 rfl rfl ?_
    refine J_iload_n C 52 dX8_needOfNights_51 rfl rfl ?_
    refine J_icmp_ge C 55 113 dX8_needOfNights_52 rfl rfl (fun c => ?_) (fun c => ?_)
    · have h := h.1 c
      refine J_iload C 115 dX8_needOfNights_113 rfl rfl ?_
      exact J_iret C hr hk () rfl dX8_needOfNights_115 h
    · have h := h.2 c
      refine J_aload_n C 56 dX8_needOfNights_55 rfl rfl ?_
      refine J_get C 59 8 inlX8 0 9 rfl rfl (by decide) wd20 rfl rfl dX8_needOfNights_56 rfl ?_
      refine J_iload_n C 60 dX8_needOfNights_59 rfl rfl ?_
      refine J_aload_n C 61 dX8_needOfNights_60 rfl rfl ?_
      refine J_get C 64 8 inlX8 0 9 rfl rfl (by decide) wd20 rfl rfl dX8_needOfNights_61 rfl ?_
      refine J_aload_n C 65 dX8_needOfNights_64 rfl rfl ?_
      refine J_get C 68 8 inlX8 0 1 rfl rfl (by decide) wd30 rfl rfl dX8_needOfNights_65 rfl ?_
      refine J_getN C 71 6 inlX6 1 12 rfl rfl (by decide) (mi 6 rfl) rfl rfl dX8_needOfNights_68 rfl ?_
      refine J_iload C 73 dX8_needOfNights_71 rfl rfl ?_
      refine J_iadd C 74 dX8_needOfNights_73 rfl ?_
      refine J_callBiV (Bs := [bX8 cI cJ cZ a0 r0 v0, bX6 cI cJ cZ 360 (r0 1) r0_1 v0_1, bX3 cI cJ cZ (r0 9) r0_9 v0_9]) (As := [.int ((v0_1.1 12) + y6)]) C 77 (c_X3_hoursOf l D cI cJ cZ cS (r0 9) r0_9 v0_9 ((v0_1.1 12) + y6) _ h) wd647 wd834 wd19 wd645 wd646 3 0 rfl rfl rfl hdX3_hoursOf ⟨Nat.le_of_ble_eq_true rfl, Nat.le_of_ble_eq_true rfl⟩ ⟨Nat.zero_le _, Nat.zero_le _⟩ rfl (Nat.le_of_ble_eq_true rfl) [2] [0, 1] 3 rfl (by decide +kernel) rfl rfl (fun (u : Unit) => [bX3 cI cJ cZ (r0 9) r0_9 v0_9]) (fun _ => rfl) [1, 2, 0] (by decide +kernel) (fun _ => rfl) rfl (fun (u : Unit) => [bX8 cI cJ cZ a0 r0 v0, bX6 cI cJ cZ 360 (r0 1) r0_1 v0_1, bX3 cI cJ cZ (r0 9) r0_9 v0_9]) (fun _ => rfl) dX8_needOfNights_74 rfl (fun r_3 u h => ?_)
      refine J_iconst C 78 dX8_needOfNights_77 rfl ki_0 ?_
      refine J_iload_n C 79 dX8_needOfNights_78 rfl rfl ?_
      refine J_callBiV (Bs := [bX8 cI cJ cZ a0 r0 v0, bX6 cI cJ cZ 360 (r0 1) r0_1 v0_1, bX3 cI cJ cZ (r0 9) r0_9 v0_9]) (As := [.int y1, .int r_3, .int 0, .int y3]) C 82 (c_X3_needOf l D cI cJ cZ cS (r0 9) r0_9 v0_9 y1 r_3 0 y3 _ h) wd655 wd835 wd19 wd653 wd654 3 0 rfl rfl rfl hdX3_needOf ⟨Nat.le_of_ble_eq_true rfl, Nat.le_of_ble_eq_true rfl⟩ ⟨Nat.zero_le _, Nat.zero_le _⟩ rfl (Nat.le_of_ble_eq_true rfl) [2] [0, 1] 3 rfl (by decide +kernel) rfl rfl (fun (u : Unit) => [bX3 cI cJ cZ (r0 9) r0_9 v0_9]) (fun _ => rfl) [1, 2, 0] (by decide +kernel) (fun _ => rfl) rfl (fun (u : Unit) => [bX8 cI cJ cZ a0 r0 v0, bX6 cI cJ cZ 360 (r0 1) r0_1 v0_1, bX3 cI cJ cZ (r0 9) r0_9 v0_9]) (fun _ => rfl) dX8_needOfNights_79 rfl (fun r_4 u h => ?_)
      refine J_istore C 84 [(7, .int r_4), (0, .ref a0), (1, .int y1), (2, .int y2), (3, .int y3), (4, .int y4), (5, .int y5), (6, .int y6)] dX8_needOfNights_82 rfl (by decide) rfl ?_
      refine J_iload C 86 dX8_needOfNights_84 rfl rfl ?_
      refine J_iload C 88 dX8_needOfNights_86 rfl rfl ?_
      refine J_if_eq C 91 102 dX8_needOfNights_88 rfl rfl (fun c => ?_) (fun c => ?_)
      · have h := h.1 c
        refine J_iload C 104 dX8_needOfNights_102 rfl rfl ?_
        refine J_loc [1, 2, 3, 4, 5, 7] rfl ?_
        exact wk_X8_needOfNights_c104 C hr hk ih y1 y2 y3 y4 y6 r_4 y5 h
      · have h := h.2 c
        refine J_iload C 93 dX8_needOfNights_91 rfl rfl ?_
        refine J_iload C 95 dX8_needOfNights_93 rfl rfl ?_
        refine J_bipush C 97 dX8_needOfNights_95 rfl kb_10 ?_
        refine J_idiv C 98 dX8_needOfNights_97 rfl (by decide) ?_
        refine J_iadd C 99 dX8_needOfNights_98 rfl ?_
        refine J_goto C 104 dX8_needOfNights_99 rfl ?_
        refine J_loc [1, 2, 3, 4, 5, 7] rfl ?_
        exact wk_X8_needOfNights_c104 C hr hk ih y1 y2 y3 y4 y6 (r_4 + (r_4 / 10)) y5 h
def wp_X8_needOfNights_c41 (v0 : Vl) (v0_1 : Vl) (v0_9 : Vl) (Q : Int32 → Prop) (y1 : Int32) (y2 : Int32) (y3 : Int32) (s0 : Int32) : Prop := (∃ k : Nat, wp_X8_needOfNights_c49 v0 v0_1 v0_9 Q k y1 y2 y3 s0 0 0)
set_option maxHeartbeats 4000000 in
set_option maxRecDepth 100000 in
theorem wk_X8_needOfNights_c41 {p : Program} {l : Launch} {e : Env} {s : State} {m : MethodId} {args : Array Value} {below : List Frame} {meth : Method} {c : Code} {D : GG} {A : Nat → Prop} {cI cJ cZ cS : ClassId} {a0 : Nat} {r0 : Nat → Nat} {r0_1 : Nat → Nat} {r0_9 : Nat → Nat} {v0 : Vl} {v0_1 : Vl} {v0_9 : Vl} {Q : Int32 → Prop} (C : Cx p s m args c D (tyL cI cJ cZ cS) A RX8 cX8_needOfNights 8) (hr : meth.sig.returnType = some .int) (hk : meth.locks = false) : ∀ (y1 : Int32) (y2 : Int32) (y3 : Int32) (s0 : Int32), wp_X8_needOfNights_c41 v0 v0_1 v0_9 Q y1 y2 y3 s0 → J p l e (rmk 2 47) s m args below meth c D A 8 0 0 (MQ below (va_Qi (fun (r : Int32) (u : Unit) => Q r) (fun u t => va_P D.1 vwCl ((fun (u : Unit) => List.flatten [bX8 cI cJ cZ a0 r0 v0, bX6 cI cJ cZ 360 (r0 1) r0_1 v0_1, bX3 cI cJ cZ (r0 9) r0_9 v0_9]) u) t.heap ∧ va_D A ((fun (u : Unit) => List.flatten [bX8 cI cJ cZ a0 r0 v0, bX6 cI cJ cZ 360 (r0 1) r0_1 v0_1, bX3 cI cJ cZ (r0 9) r0_9 v0_9]) u)) A) args s 0 0 A) 41 [(0, .ref a0), (1, .int y1), (2, .int y2), (3, .int y3)] [.int s0] (List.flatten [bX8 cI cJ cZ a0 r0 v0, bX6 cI cJ cZ 360 (r0 1) r0_1 v0_1, bX3 cI cJ cZ (r0 9) r0_9 v0_9]) := by
  intro y1 y2 y3 s0 h
  refine J_istore C 43 [(4, .int s0), (0, .ref a0), (1, .int y1), (2, .int y2), (3, .int y3)] dX8_needOfNights_41 rfl (by decide) rfl ?_
  refine J_iconst C 44 dX8_needOfNights_43 rfl ki_0 ?_
  refine J_istore C 46 [(5, .int 0), (4, .int s0), (0, .ref a0), (1, .int y1), (2, .int y2), (3, .int y3)] dX8_needOfNights_44 rfl (by decide) rfl ?_
  refine J_iconst C 47 dX8_needOfNights_46 rfl ki_0 ?_
  refine J_istore C 49 [(6, .int 0), (5, .int 0), (4, .int s0), (0, .ref a0), (1, .int y1), (2, .int y2), (3, .int y3)] dX8_needOfNights_47 rfl (by decide) rfl ?_
  refine J_loc [3, 4, 5, 6, 2, 1, 0] rfl ?_
  obtain ⟨n1, h⟩ := h
  exact wk_X8_needOfNights_c49 C hr hk n1 y1 y2 y3 s0 0 0 h
def wp_X8_needOfNights_c20 (v0 : Vl) (v0_1 : Vl) (v0_9 : Vl) (Q : Int32 → Prop) (y1 : Int32) (y2 : Int32) (s0 : Int32) : Prop := wp_X8_at 9 (v0_9.2.2.1 0) y1 (fun r_2 => ((¬ r_2 = 2 → wp_X8_needOfNights_c41 v0 v0_1 v0_9 Q y1 y2 s0 0) ∧ (r_2 = 2 → wp_X8_needOfNights_c41 v0 v0_1 v0_9 Q y1 y2 s0 1)))
set_option maxHeartbeats 4000000 in
set_option maxRecDepth 100000 in
theorem wk_X8_needOfNights_c20 {p : Program} {l : Launch} {e : Env} {s : State} {m : MethodId} {args : Array Value} {below : List Frame} {meth : Method} {c : Code} {D : GG} {A : Nat → Prop} {cI cJ cZ cS : ClassId} {a0 : Nat} {r0 : Nat → Nat} {r0_1 : Nat → Nat} {r0_9 : Nat → Nat} {v0 : Vl} {v0_1 : Vl} {v0_9 : Vl} {Q : Int32 → Prop} (C : Cx p s m args c D (tyL cI cJ cZ cS) A RX8 cX8_needOfNights 8) (hr : meth.sig.returnType = some .int) (hk : meth.locks = false) : ∀ (y1 : Int32) (y2 : Int32) (s0 : Int32), wp_X8_needOfNights_c20 v0 v0_1 v0_9 Q y1 y2 s0 → J p l e (rmk 2 47) s m args below meth c D A 8 0 0 (MQ below (va_Qi (fun (r : Int32) (u : Unit) => Q r) (fun u t => va_P D.1 vwCl ((fun (u : Unit) => List.flatten [bX8 cI cJ cZ a0 r0 v0, bX6 cI cJ cZ 360 (r0 1) r0_1 v0_1, bX3 cI cJ cZ (r0 9) r0_9 v0_9]) u) t.heap ∧ va_D A ((fun (u : Unit) => List.flatten [bX8 cI cJ cZ a0 r0 v0, bX6 cI cJ cZ 360 (r0 1) r0_1 v0_1, bX3 cI cJ cZ (r0 9) r0_9 v0_9]) u)) A) args s 0 0 A) 20 [(0, .ref a0), (1, .int y1), (2, .int y2)] [.int s0] (List.flatten [bX8 cI cJ cZ a0 r0 v0, bX6 cI cJ cZ 360 (r0 1) r0_1 v0_1, bX3 cI cJ cZ (r0 9) r0_9 v0_9]) := by
  intro y1 y2 s0 h
  refine J_istore_n C 21 [(3, .int s0), (0, .ref a0), (1, .int y1), (2, .int y2)] dX8_needOfNights_20 rfl (by decide) rfl ?_
  refine J_aload_n C 22 dX8_needOfNights_21 rfl rfl ?_
  refine J_get C 25 8 inlX8 0 9 rfl rfl (by decide) wd20 rfl rfl dX8_needOfNights_22 rfl ?_
  refine J_getN C 28 3 inlX3 7 0 rfl rfl (by decide) (mi 15 rfl) rfl rfl dX8_needOfNights_25 rfl ?_
  refine J_iload_n C 29 dX8_needOfNights_28 rfl rfl ?_
  refine J_call1piS (As := [.ref (r0_9 0), .int y1]) C 32 (c_X8_at l D cI cJ cZ cS 9 (r0_9 0) (v0_9.2.2.1 0) y1 _ h) wd147 wd543 wd2 wd146 hdX8_at ⟨Nat.le_of_ble_eq_true rfl, Nat.le_of_ble_eq_true rfl⟩ ⟨Nat.zero_le _, Nat.zero_le _⟩ rfl (Nat.le_of_ble_eq_true rfl) 8 rfl (fun _ => rfl) dX8_needOfNights_29 rfl (fun r_2 u h => ?_)
  refine J_iconst C 33 dX8_needOfNights_32 rfl ki_2 ?_
  refine J_icmp_ne C 36 40 dX8_needOfNights_33 rfl rfl (fun c => ?_) (fun c => ?_)
  · have h := h.1 c
    refine J_iconst C 41 dX8_needOfNights_40 rfl ki_0 ?_
    refine J_loc [1, 2, 3, 0] rfl ?_
    exact wk_X8_needOfNights_c41 C hr hk y1 y2 s0 0 h
  · have h := h.2 c
    refine J_iconst C 37 dX8_needOfNights_36 rfl ki_1 ?_
    refine J_goto C 41 dX8_needOfNights_37 rfl ?_
    refine J_loc [1, 2, 3, 0] rfl ?_
    exact wk_X8_needOfNights_c41 C hr hk y1 y2 s0 1 h
def wp_X8_needOfNights (v0 : Vl) (v0_1 : Vl) (v0_9 : Vl) (x1 : Int32) (x2 : Int32) (Q : Int32 → Prop) : Prop := wp_X8_at 9 (v0_1.2.2.1 1) x1 (fun r_1 => ((¬ r_1 = 1 → wp_X8_needOfNights_c20 v0 v0_1 v0_9 Q x1 x2 0) ∧ (r_1 = 1 → wp_X8_needOfNights_c20 v0 v0_1 v0_9 Q x1 x2 1)))
set_option maxHeartbeats 4000000 in
set_option maxRecDepth 100000 in
theorem c_X8_needOfNights (l : Launch) (D : GG) (cI cJ cZ cS : ClassId) (a0 : Nat) (r0 : Nat → Nat) (v0 : Vl) (r0_1 : Nat → Nat) (v0_1 : Vl) (r0_9 : Nat → Nat) (v0_9 : Vl) (x1 : Int32) (x2 : Int32) (Q : Int32 → Prop) (h : wp_X8_needOfNights v0 v0_1 v0_9 x1 x2 Q) : Mi l D (tyL cI cJ cZ cS) yX8_needOfNights cX8_needOfNights 8 .int 2 47 [.ref a0, .int x1, .int x2] (List.flatten [bX8 cI cJ cZ a0 r0 v0, bX6 cI cJ cZ 360 (r0 1) r0_1 v0_1, bX3 cI cJ cZ (r0 9) r0_9 v0_9]) (fun (r : Int32) (u : Unit) => Q r) (fun (u : Unit) => List.flatten [bX8 cI cJ cZ a0 r0 v0, bX6 cI cJ cZ 360 (r0 1) r0_1 v0_1, bX3 cI cJ cZ (r0 9) r0_9 v0_9]) := by
  refine Mi_of RX8 [(0, .ref a0), (1, .int x1), (2, .int x2)] (by decide +kernel) rfl rfl (Nat.le_of_ble_eq_true rfl) ?_
  intro p e s m args below meth c A C hr hk
  refine J_aload_n C 1 dX8_needOfNights_0 rfl rfl ?_
  refine J_get C 4 8 inlX8 0 1 rfl rfl (by decide) wd30 rfl rfl dX8_needOfNights_1 rfl ?_
  refine J_getN C 7 6 inlX6 1 1 rfl rfl (by decide) (mi 21 rfl) rfl rfl dX8_needOfNights_4 rfl ?_
  refine J_iload_n C 8 dX8_needOfNights_7 rfl rfl ?_
  refine J_call1piS (As := [.ref (r0_1 1), .int x1]) C 11 (c_X8_at l D cI cJ cZ cS 9 (r0_1 1) (v0_1.2.2.1 1) x1 _ h) wd147 wd543 wd2 wd146 hdX8_at ⟨Nat.le_of_ble_eq_true rfl, Nat.le_of_ble_eq_true rfl⟩ ⟨Nat.zero_le _, Nat.zero_le _⟩ rfl (Nat.le_of_ble_eq_true rfl) 3 rfl (fun _ => rfl) dX8_needOfNights_8 rfl (fun r_1 u h => ?_)
  refine J_iconst C 12 dX8_needOfNights_11 rfl ki_1 ?_
  refine J_icmp_ne C 15 19 dX8_needOfNights_12 rfl rfl (fun c => ?_) (fun c => ?_)
  · have h := h.1 c
    refine J_iconst C 20 dX8_needOfNights_19 rfl ki_0 ?_
    refine J_loc [0, 1, 2] rfl ?_
    exact wk_X8_needOfNights_c20 C hr hk x1 x2 0 h
  · have h := h.2 c
    refine J_iconst C 16 dX8_needOfNights_15 rfl ki_1 ?_
    refine J_goto C 20 dX8_needOfNights_16 rfl ?_
    refine J_loc [0, 1, 2] rfl ?_
    exact wk_X8_needOfNights_c20 C hr hk x1 x2 1 h
def wp_X8_darken_c125 (v0 : Vl) (v0_1 : Vl) (v0_9 : Vl) (Q : Int32 → (Nat → Int32) → Prop) (B66 : (Nat → Int32) → Int32 → Int32 → Int32 → Int32 → Prop) (f0_8 : Nat → Int32) (y1 : Int32) (y3 : Int32) (y4 : Int32) (y5 : Int32) : Prop := ∀ x_2 : Int32, x_2 = y5 + 1 → B66 f0_8 y1 y3 y4 x_2
set_option maxHeartbeats 4000000 in
set_option maxRecDepth 100000 in
theorem wk_X8_darken_c125 {p : Program} {l : Launch} {e : Env} {s : State} {m : MethodId} {args : Array Value} {below : List Frame} {meth : Method} {c : Code} {D : GG} {A : Nat → Prop} {cI cJ cZ cS : ClassId} {a0 : Nat} {r0 : Nat → Nat} {r0_1 : Nat → Nat} {r0_9 : Nat → Nat} {v0 : Vl} {v0_1 : Vl} {v0_9 : Vl} {B66 : (Nat → Int32) → Int32 → Int32 → Int32 → Int32 → Prop} {Q : Int32 → (Nat → Int32) → Prop} (C : Cx p s m args c D (tyL cI cJ cZ cS) A RX8 cX8_darken 7) (hr : meth.sig.returnType = some .int) (hk : meth.locks = false) (hB66 : ∀ (f0_8 : Nat → Int32) (y1 : Int32) (y3 : Int32) (y4 : Int32) (y5 : Int32), B66 f0_8 y1 y3 y4 y5 → J p l e (rmk 3 74) s m args below meth c D A 7 0 0 (MQ below (va_Qi (fun (r : Int32) (u : (Nat → Int32)) => Q r u) (fun u t => va_P D.1 vwCl ((fun (u : (Nat → Int32)) => List.flatten [bX8 cI cJ cZ a0 r0 v0, bX6 cI cJ cZ 360 (r0 1) r0_1 v0_1, bI cI 9 (r0 8) u, bX3 cI cJ cZ (r0 9) r0_9 v0_9]) u) t.heap ∧ va_D A ((fun (u : (Nat → Int32)) => List.flatten [bX8 cI cJ cZ a0 r0 v0, bX6 cI cJ cZ 360 (r0 1) r0_1 v0_1, bI cI 9 (r0 8) u, bX3 cI cJ cZ (r0 9) r0_9 v0_9]) u)) A) args s 0 0 A) 66 [(0, .ref a0), (1, .int y1), (3, .int y3), (4, .int y4), (5, .int y5)] [] (List.flatten [bX8 cI cJ cZ a0 r0 v0, bX6 cI cJ cZ 360 (r0 1) r0_1 v0_1, bI cI 9 (r0 8) f0_8, bX3 cI cJ cZ (r0 9) r0_9 v0_9])) : ∀ (f0_8 : Nat → Int32) (y1 : Int32) (y3 : Int32) (y4 : Int32) (y5 : Int32), wp_X8_darken_c125 v0 v0_1 v0_9 Q B66 f0_8 y1 y3 y4 y5 → J p l e (rmk 3 74) s m args below meth c D A 7 0 0 (MQ below (va_Qi (fun (r : Int32) (u : (Nat → Int32)) => Q r u) (fun u t => va_P D.1 vwCl ((fun (u : (Nat → Int32)) => List.flatten [bX8 cI cJ cZ a0 r0 v0, bX6 cI cJ cZ 360 (r0 1) r0_1 v0_1, bI cI 9 (r0 8) u, bX3 cI cJ cZ (r0 9) r0_9 v0_9]) u) t.heap ∧ va_D A ((fun (u : (Nat → Int32)) => List.flatten [bX8 cI cJ cZ a0 r0 v0, bX6 cI cJ cZ 360 (r0 1) r0_1 v0_1, bI cI 9 (r0 8) u, bX3 cI cJ cZ (r0 9) r0_9 v0_9]) u)) A) args s 0 0 A) 125 [(0, .ref a0), (1, .int y1), (3, .int y3), (4, .int y4), (5, .int y5)] [] (List.flatten [bX8 cI cJ cZ a0 r0 v0, bX6 cI cJ cZ 360 (r0 1) r0_1 v0_1, bI cI 9 (r0 8) f0_8, bX3 cI cJ cZ (r0 9) r0_9 v0_9]) := by
  intro f0_8 y1 y3 y4 y5 h
  obtain ⟨x_2, ex_2⟩ : ∃ z : Int32, z = y5 + 1 := ⟨_, rfl⟩
  have h := h x_2 ex_2
  refine J_iinc C 128 [(5, .int x_2), (0, .ref a0), (1, .int y1), (3, .int y3), (4, .int y4)] dX8_darken_125 rfl rfl ((kinc_1 _).trans ex_2.symm) (by decide) rfl ?_
  refine J_goto C 66 dX8_darken_128 rfl ?_
  refine J_loc [1, 2, 3, 4, 0] rfl ?_
  exact hB66 f0_8 y1 y3 y4 x_2 h
def wp_X8_darken_c66 (v0 : Vl) (v0_1 : Vl) (v0_9 : Vl) (Q : Int32 → (Nat → Int32) → Prop) : Nat → (Nat → Int32) → Int32 → Int32 → Int32 → Int32 → Prop
  | 0 => fun _ _ _ _ _ => False
  | n + 1 => fun f0_8 y1 y3 y4 y5 => (((1 <<< ((v0_9.1 7) &&& 31)) ≤ y5 → Q y3 f0_8) ∧ (¬ (1 <<< ((v0_9.1 7) &&& 31)) ≤ y5 → wp_X8_sumOver_kt9_4 v0 v0_9 y5 (fun r_1 => ((y4 ≤ r_1 → wp_X8_darken_c125 v0 v0_1 v0_9 Q (wp_X8_darken_c66 v0 v0_1 v0_9 Q n) f0_8 y1 y3 y4 y5) ∧ (¬ y4 ≤ r_1 → wp_X8_sumOver_kt8 v0 f0_8 v0_9 (y5 ^^^ (-1)) (fun r_3 => ((y1 < r_3 → wp_X8_darken_c125 v0 v0_1 v0_9 Q (wp_X8_darken_c66 v0 v0_1 v0_9 Q n) f0_8 y1 y3 y4 y5) ∧ (¬ y1 < r_3 → wp_X8_darken_c125 v0 v0_1 v0_9 Q (wp_X8_darken_c66 v0 v0_1 v0_9 Q n) f0_8 y1 y5 r_1 y5))))))))
set_option maxHeartbeats 4000000 in
set_option maxRecDepth 100000 in
theorem wk_X8_darken_c66 {p : Program} {l : Launch} {e : Env} {s : State} {m : MethodId} {args : Array Value} {below : List Frame} {meth : Method} {c : Code} {D : GG} {A : Nat → Prop} {cI cJ cZ cS : ClassId} {a0 : Nat} {r0 : Nat → Nat} {r0_1 : Nat → Nat} {r0_9 : Nat → Nat} {v0 : Vl} {v0_1 : Vl} {v0_9 : Vl} {Q : Int32 → (Nat → Int32) → Prop} (C : Cx p s m args c D (tyL cI cJ cZ cS) A RX8 cX8_darken 7) (hr : meth.sig.returnType = some .int) (hk : meth.locks = false) : ∀ (n : Nat) (f0_8 : Nat → Int32) (y1 : Int32) (y3 : Int32) (y4 : Int32) (y5 : Int32), wp_X8_darken_c66 v0 v0_1 v0_9 Q n f0_8 y1 y3 y4 y5 → J p l e (rmk 3 74) s m args below meth c D A 7 0 0 (MQ below (va_Qi (fun (r : Int32) (u : (Nat → Int32)) => Q r u) (fun u t => va_P D.1 vwCl ((fun (u : (Nat → Int32)) => List.flatten [bX8 cI cJ cZ a0 r0 v0, bX6 cI cJ cZ 360 (r0 1) r0_1 v0_1, bI cI 9 (r0 8) u, bX3 cI cJ cZ (r0 9) r0_9 v0_9]) u) t.heap ∧ va_D A ((fun (u : (Nat → Int32)) => List.flatten [bX8 cI cJ cZ a0 r0 v0, bX6 cI cJ cZ 360 (r0 1) r0_1 v0_1, bI cI 9 (r0 8) u, bX3 cI cJ cZ (r0 9) r0_9 v0_9]) u)) A) args s 0 0 A) 66 [(0, .ref a0), (1, .int y1), (3, .int y3), (4, .int y4), (5, .int y5)] [] (List.flatten [bX8 cI cJ cZ a0 r0 v0, bX6 cI cJ cZ 360 (r0 1) r0_1 v0_1, bI cI 9 (r0 8) f0_8, bX3 cI cJ cZ (r0 9) r0_9 v0_9]) := by
  intro n
  induction n with
  | zero =>
    intro f0_8 y1 y3 y4 y5 h
    exact False.elim h
  | succ n ih =>
    intro f0_8 y1 y3 y4 y5 h
    refine J_iload C 68 dX8_darken_66 rfl rfl ?_
    refine J_iconst C 69 dX8_darken_68 rfl ki_1 ?_
    refine J_aload_n C 70 dX8_darken_69 rfl rfl ?_
    refine J_get C 73 8 inlX8 0 9 rfl rfl (by decide) wd20 rfl rfl dX8_darken_70 rfl ?_
    refine J_getN C 76 3 inlX3 8 7 rfl rfl (by decide) (mi 0 rfl) rfl rfl dX8_darken_73 rfl ?_
    refine J_ishl C 77 dX8_darken_76 rfl ?_
    refine J_icmp_ge C 80 131 dX8_darken_77 rfl rfl (fun c => ?_) (fun c => ?_)
    · have h := h.1 c
      refine J_iload_n C 132 dX8_darken_131 rfl rfl ?_
      exact J_iret C hr hk f0_8 rfl dX8_darken_132 h
    · have h := h.2 c
      refine J_aload_n C 81 dX8_darken_80 rfl rfl ?_
      refine J_iload C 83 dX8_darken_81 rfl rfl ?_
      refine J_aload_n C 84 dX8_darken_83 rfl rfl ?_
      refine J_get C 87 8 inlX8 0 9 rfl rfl (by decide) wd20 rfl rfl dX8_darken_84 rfl ?_
      refine J_getN C 90 3 inlX3 8 4 rfl rfl (by decide) (mi 19 rfl) rfl rfl dX8_darken_87 rfl ?_
      refine J_callBiV (Bs := [bX8 cI cJ cZ a0 r0 v0, bX6 cI cJ cZ 360 (r0 1) r0_1 v0_1, bI cI 9 (r0 8) f0_8, bX3 cI cJ cZ (r0 9) r0_9 v0_9]) (As := [.int y5, .ref (r0_9 4)]) C 93 (c_X8_sumOver_kt9_4 l D cI cJ cZ cS a0 r0 v0 r0_9 v0_9 y5 _ h) wd839 wd836 wd2 wd837 wd838 8 0 rfl rfl rfl hdX8_sumOver ⟨Nat.le_of_ble_eq_true rfl, Nat.le_of_ble_eq_true rfl⟩ ⟨Nat.zero_le _, Nat.zero_le _⟩ rfl (Nat.le_of_ble_eq_true rfl) [0, 3] [1, 2] 4 rfl (by decide +kernel) rfl rfl (fun (u : Unit) => [bX8 cI cJ cZ a0 r0 v0, bX3 cI cJ cZ (r0 9) r0_9 v0_9]) (fun _ => rfl) [0, 2, 3, 1] (by decide +kernel) (fun _ => rfl) rfl (fun (u : Unit) => [bX8 cI cJ cZ a0 r0 v0, bX6 cI cJ cZ 360 (r0 1) r0_1 v0_1, bI cI 9 (r0 8) f0_8, bX3 cI cJ cZ (r0 9) r0_9 v0_9]) (fun _ => rfl) dX8_darken_90 rfl (fun r_1 u h => ?_)
      refine J_istore C 95 [(6, .int r_1), (0, .ref a0), (1, .int y1), (3, .int y3), (4, .int y4), (5, .int y5)] dX8_darken_93 rfl (by decide) rfl ?_
      refine J_iload C 97 dX8_darken_95 rfl rfl ?_
      refine J_iload C 99 dX8_darken_97 rfl rfl ?_
      refine J_icmp_ge C 102 125 dX8_darken_99 rfl rfl (fun c => ?_) (fun c => ?_)
      · have h := h.1 c
        refine J_loc [1, 2, 3, 4, 5] rfl ?_
        exact wk_X8_darken_c125 C hr hk ih f0_8 y1 y3 y4 y5 h
      · have h := h.2 c
        refine J_aload_n C 103 dX8_darken_102 rfl rfl ?_
        refine J_iload C 105 dX8_darken_103 rfl rfl ?_
        refine J_iconst C 106 dX8_darken_105 rfl ki_m1 ?_
        refine J_ixor C 107 dX8_darken_106 rfl ?_
        refine J_aload_n C 108 dX8_darken_107 rfl rfl ?_
        refine J_get C 111 8 inlX8 0 8 rfl rfl (by decide) wd51 rfl rfl dX8_darken_108 rfl ?_
        refine J_callBiV (Bs := [bX8 cI cJ cZ a0 r0 v0, bX6 cI cJ cZ 360 (r0 1) r0_1 v0_1, bI cI 9 (r0 8) f0_8, bX3 cI cJ cZ (r0 9) r0_9 v0_9]) (As := [.int (y5 ^^^ (-1)), .ref (r0 8)]) C 114 (c_X8_sumOver_kt8 l D cI cJ cZ cS a0 r0 v0 f0_8 r0_9 v0_9 (y5 ^^^ (-1)) _ h) wd839 wd836 wd2 wd837 wd838 8 0 rfl rfl rfl hdX8_sumOver ⟨Nat.le_of_ble_eq_true rfl, Nat.le_of_ble_eq_true rfl⟩ ⟨Nat.zero_le _, Nat.zero_le _⟩ rfl (Nat.le_of_ble_eq_true rfl) [0, 2, 3] [1] 4 rfl (by decide +kernel) rfl rfl (fun (u : Unit) => [bX8 cI cJ cZ a0 r0 v0, bI cI 9 (r0 8) f0_8, bX3 cI cJ cZ (r0 9) r0_9 v0_9]) (fun _ => rfl) [0, 3, 1, 2] (by decide +kernel) (fun _ => rfl) rfl (fun (u : Unit) => [bX8 cI cJ cZ a0 r0 v0, bX6 cI cJ cZ 360 (r0 1) r0_1 v0_1, bI cI 9 (r0 8) f0_8, bX3 cI cJ cZ (r0 9) r0_9 v0_9]) (fun _ => rfl) dX8_darken_111 rfl (fun r_3 u h => ?_)
        refine J_iload_n C 115 dX8_darken_114 rfl rfl ?_
        refine J_icmp_gt C 118 125 dX8_darken_115 rfl rfl (fun c => ?_) (fun c => ?_)
        · have h := h.1 c
          refine J_loc [1, 2, 3, 4, 5] rfl ?_
          exact wk_X8_darken_c125 C hr hk ih f0_8 y1 y3 y4 y5 h
        · have h := h.2 c
          refine J_iload C 120 dX8_darken_118 rfl rfl ?_
          refine J_istore C 122 [(4, .int r_1), (6, .int r_1), (0, .ref a0), (1, .int y1), (3, .int y3), (5, .int y5)] dX8_darken_120 rfl (by decide) rfl ?_
          refine J_iload C 124 dX8_darken_122 rfl rfl ?_
          refine J_istore_n C 125 [(3, .int y5), (4, .int r_1), (6, .int r_1), (0, .ref a0), (1, .int y1), (5, .int y5)] dX8_darken_124 rfl (by decide) rfl ?_
          refine J_loc [3, 4, 0, 1, 5] rfl ?_
          exact wk_X8_darken_c125 C hr hk ih f0_8 y1 y5 r_1 y5 h
def wp_X8_darken_c26 (v0 : Vl) (v0_1 : Vl) (v0_9 : Vl) (Q : Int32 → (Nat → Int32) → Prop) : Nat → (Nat → Int32) → Int32 → Int32 → Int32 → Prop
  | 0 => fun _ _ _ _ => False
  | n + 1 => fun f0_8 y1 y2 y3 => (((v0_9.1 7) ≤ y3 → (∃ k : Nat, wp_X8_darken_c66 v0 v0_1 v0_9 Q k f0_8 y1 0 2147483647 0)) ∧ (¬ (v0_9.1 7) ≤ y3 → wp_X8_needOfNights v0 v0_1 v0_9 y3 y2 (fun r_4 => wp_X8_put 9 f0_8 y3 r_4 (fun u_5 => ∀ x_6 : Int32, x_6 = y3 + 1 → wp_X8_darken_c26 v0 v0_1 v0_9 Q n u_5 y1 y2 x_6))))
set_option maxHeartbeats 4000000 in
set_option maxRecDepth 100000 in
theorem wk_X8_darken_c26 {p : Program} {l : Launch} {e : Env} {s : State} {m : MethodId} {args : Array Value} {below : List Frame} {meth : Method} {c : Code} {D : GG} {A : Nat → Prop} {cI cJ cZ cS : ClassId} {a0 : Nat} {r0 : Nat → Nat} {r0_1 : Nat → Nat} {r0_9 : Nat → Nat} {v0 : Vl} {v0_1 : Vl} {v0_9 : Vl} {Q : Int32 → (Nat → Int32) → Prop} (C : Cx p s m args c D (tyL cI cJ cZ cS) A RX8 cX8_darken 7) (hr : meth.sig.returnType = some .int) (hk : meth.locks = false) : ∀ (n : Nat) (f0_8 : Nat → Int32) (y1 : Int32) (y2 : Int32) (y3 : Int32), wp_X8_darken_c26 v0 v0_1 v0_9 Q n f0_8 y1 y2 y3 → J p l e (rmk 3 74) s m args below meth c D A 7 0 0 (MQ below (va_Qi (fun (r : Int32) (u : (Nat → Int32)) => Q r u) (fun u t => va_P D.1 vwCl ((fun (u : (Nat → Int32)) => List.flatten [bX8 cI cJ cZ a0 r0 v0, bX6 cI cJ cZ 360 (r0 1) r0_1 v0_1, bI cI 9 (r0 8) u, bX3 cI cJ cZ (r0 9) r0_9 v0_9]) u) t.heap ∧ va_D A ((fun (u : (Nat → Int32)) => List.flatten [bX8 cI cJ cZ a0 r0 v0, bX6 cI cJ cZ 360 (r0 1) r0_1 v0_1, bI cI 9 (r0 8) u, bX3 cI cJ cZ (r0 9) r0_9 v0_9]) u)) A) args s 0 0 A) 26 [(0, .ref a0), (1, .int y1), (2, .int y2), (3, .int y3)] [] (List.flatten [bX8 cI cJ cZ a0 r0 v0, bX6 cI cJ cZ 360 (r0 1) r0_1 v0_1, bI cI 9 (r0 8) f0_8, bX3 cI cJ cZ (r0 9) r0_9 v0_9]) := by
  intro n
  induction n with
  | zero =>
    intro f0_8 y1 y2 y3 h
    exact False.elim h
  | succ n ih =>
    intro f0_8 y1 y2 y3 h
    refine J_iload_n C 27 dX8_darken_26 rfl rfl ?_
    refine J_aload_n C 28 dX8_darken_27 rfl rfl ?_
    refine J_get C 31 8 inlX8 0 9 rfl rfl (by decide) wd20 rfl rfl dX8_darken_28 rfl ?_
    refine J_getN C 34 3 inlX3 8 7 rfl rfl (by decide) (mi 0 rfl) rfl rfl dX8_darken_31 rfl ?_
    refine J_icmp_ge C 37 57 dX8_darken_34 rfl rfl (fun c => ?_) (fun c => ?_)
    · have h := h.1 c
      refine J_iconst C 58 dX8_darken_57 rfl ki_0 ?_
      refine J_istore_n C 59 [(3, .int 0), (0, .ref a0), (1, .int y1), (2, .int y2)] dX8_darken_58 rfl (by decide) rfl ?_
      refine J_ldc C 61 wd829 dX8_darken_59 rfl ?_
      refine J_istore C 63 [(4, .int 2147483647), (3, .int 0), (0, .ref a0), (1, .int y1), (2, .int y2)] dX8_darken_61 rfl (by decide) rfl ?_
      refine J_iconst C 64 dX8_darken_63 rfl ki_0 ?_
      refine J_istore C 66 [(5, .int 0), (4, .int 2147483647), (3, .int 0), (0, .ref a0), (1, .int y1), (2, .int y2)] dX8_darken_64 rfl (by decide) rfl ?_
      refine J_loc [3, 4, 2, 1, 0] rfl ?_
      obtain ⟨n1, h⟩ := h
      exact wk_X8_darken_c66 C hr hk n1 f0_8 y1 0 2147483647 0 h
    · have h := h.2 c
      refine J_aload_n C 38 dX8_darken_37 rfl rfl ?_
      refine J_get C 41 8 inlX8 0 8 rfl rfl (by decide) wd51 rfl rfl dX8_darken_38 rfl ?_
      refine J_iload_n C 42 dX8_darken_41 rfl rfl ?_
      refine J_aload_n C 43 dX8_darken_42 rfl rfl ?_
      refine J_iload_n C 44 dX8_darken_43 rfl rfl ?_
      refine J_iload_n C 45 dX8_darken_44 rfl rfl ?_
      refine J_callBiV (Bs := [bX8 cI cJ cZ a0 r0 v0, bX6 cI cJ cZ 360 (r0 1) r0_1 v0_1, bI cI 9 (r0 8) f0_8, bX3 cI cJ cZ (r0 9) r0_9 v0_9]) (As := [.int y3, .int y2]) C 48 (c_X8_needOfNights l D cI cJ cZ cS a0 r0 v0 r0_1 v0_1 r0_9 v0_9 y3 y2 _ h) wd833 wd830 wd2 wd831 wd832 8 0 rfl rfl rfl hdX8_needOfNights ⟨Nat.le_of_ble_eq_true rfl, Nat.le_of_ble_eq_true rfl⟩ ⟨Nat.zero_le _, Nat.zero_le _⟩ rfl (Nat.le_of_ble_eq_true rfl) [0, 1, 3] [2] 4 rfl (by decide +kernel) rfl rfl (fun (u : Unit) => [bX8 cI cJ cZ a0 r0 v0, bX6 cI cJ cZ 360 (r0 1) r0_1 v0_1, bX3 cI cJ cZ (r0 9) r0_9 v0_9]) (fun _ => rfl) [0, 1, 3, 2] (by decide +kernel) (fun _ => rfl) rfl (fun (u : Unit) => [bX8 cI cJ cZ a0 r0 v0, bX6 cI cJ cZ 360 (r0 1) r0_1 v0_1, bI cI 9 (r0 8) f0_8, bX3 cI cJ cZ (r0 9) r0_9 v0_9]) (fun _ => rfl) dX8_darken_45 rfl (fun r_4 u h => ?_)
      refine J_call1vS (As := [.ref (r0 8), .int y3, .int r_4]) C 51 (c_X8_put l D cI cJ cZ cS 9 (r0 8) f0_8 y3 r_4 _ h) wd83 wd601 wd2 wd82 hdX8_put ⟨Nat.le_of_ble_eq_true rfl, Nat.le_of_ble_eq_true rfl⟩ ⟨Nat.zero_le _, Nat.zero_le _⟩ rfl (Nat.le_of_ble_eq_true rfl) 7 rfl (fun u => .inl (cI, 9, .inl u)) (fun _ => rfl) (fun (u : (Nat → Int32)) => List.flatten [bX8 cI cJ cZ a0 r0 v0, bX6 cI cJ cZ 360 (r0 1) r0_1 v0_1, bI cI 9 (r0 8) u, bX3 cI cJ cZ (r0 9) r0_9 v0_9]) (fun _ => rfl) dX8_darken_48 rfl (fun u h => ?_)
      obtain ⟨u_5, hu⟩ : ∃ z, z = u := ⟨_, rfl⟩
      subst hu
      obtain ⟨x_6, ex_6⟩ : ∃ z : Int32, z = y3 + 1 := ⟨_, rfl⟩
      have h := h x_6 ex_6
      refine J_iinc C 54 [(3, .int x_6), (0, .ref a0), (1, .int y1), (2, .int y2)] dX8_darken_51 rfl rfl ((kinc_1 _).trans ex_6.symm) (by decide) rfl ?_
      refine J_goto C 26 dX8_darken_54 rfl ?_
      refine J_loc [1, 2, 3, 0] rfl ?_
      exact ih u_5 y1 y2 x_6 h
def wp_X8_darken (v0 : Vl) (v0_1 : Vl) (f0_8 : Nat → Int32) (v0_9 : Vl) (x1 : Int32) (x2 : Int32) (Q : Int32 → (Nat → Int32) → Prop) : Prop := ((x1 < 0 → Q (-1000000002) f0_8) ∧ (¬ x1 < 0 → ((99999 < x1 → Q (-1000000002) f0_8) ∧ (¬ 99999 < x1 → ((x2 < 1 → Q (-1000000002) f0_8) ∧ (¬ x2 < 1 → ((x2 ≤ 99 → (∃ k : Nat, wp_X8_darken_c26 v0 v0_1 v0_9 Q k f0_8 x1 x2 0)) ∧ (¬ x2 ≤ 99 → Q (-1000000002) f0_8))))))))
set_option maxHeartbeats 4000000 in
set_option maxRecDepth 100000 in
theorem c_X8_darken (l : Launch) (D : GG) (cI cJ cZ cS : ClassId) (a0 : Nat) (r0 : Nat → Nat) (v0 : Vl) (r0_1 : Nat → Nat) (v0_1 : Vl) (f0_8 : Nat → Int32) (r0_9 : Nat → Nat) (v0_9 : Vl) (x1 : Int32) (x2 : Int32) (Q : Int32 → (Nat → Int32) → Prop) (h : wp_X8_darken v0 v0_1 f0_8 v0_9 x1 x2 Q) : Mi l D (tyL cI cJ cZ cS) yX8_darken cX8_darken 7 .int 3 74 [.ref a0, .int x1, .int x2] (List.flatten [bX8 cI cJ cZ a0 r0 v0, bX6 cI cJ cZ 360 (r0 1) r0_1 v0_1, bI cI 9 (r0 8) f0_8, bX3 cI cJ cZ (r0 9) r0_9 v0_9]) (fun (r : Int32) (u : (Nat → Int32)) => Q r u) (fun (u : (Nat → Int32)) => List.flatten [bX8 cI cJ cZ a0 r0 v0, bX6 cI cJ cZ 360 (r0 1) r0_1 v0_1, bI cI 9 (r0 8) u, bX3 cI cJ cZ (r0 9) r0_9 v0_9]) := by
  refine Mi_of RX8 [(0, .ref a0), (1, .int x1), (2, .int x2)] (by decide +kernel) rfl rfl (Nat.le_of_ble_eq_true rfl) ?_
  intro p e s m args below meth c A C hr hk
  refine J_iload_n C 1 dX8_darken_0 rfl rfl ?_
  refine J_if_lt C 4 21 dX8_darken_1 rfl rfl (fun c => ?_) (fun c => ?_)
  · have h := h.1 c
    refine J_ldc C 23 wd207 dX8_darken_21 rfl ?_
    exact J_iret C hr hk f0_8 rfl dX8_darken_23 h
  · have h := h.2 c
    refine J_iload_n C 5 dX8_darken_4 rfl rfl ?_
    refine J_ldc C 7 wd828 dX8_darken_5 rfl ?_
    refine J_icmp_gt C 10 21 dX8_darken_7 rfl rfl (fun c => ?_) (fun c => ?_)
    · have h := h.1 c
      refine J_ldc C 23 wd207 dX8_darken_21 rfl ?_
      exact J_iret C hr hk f0_8 rfl dX8_darken_23 h
    · have h := h.2 c
      refine J_iload_n C 11 dX8_darken_10 rfl rfl ?_
      refine J_iconst C 12 dX8_darken_11 rfl ki_1 ?_
      refine J_icmp_lt C 15 21 dX8_darken_12 rfl rfl (fun c => ?_) (fun c => ?_)
      · have h := h.1 c
        refine J_ldc C 23 wd207 dX8_darken_21 rfl ?_
        exact J_iret C hr hk f0_8 rfl dX8_darken_23 h
      · have h := h.2 c
        refine J_iload_n C 16 dX8_darken_15 rfl rfl ?_
        refine J_bipush C 18 dX8_darken_16 rfl kb_99 ?_
        refine J_icmp_le C 21 24 dX8_darken_18 rfl rfl (fun c => ?_) (fun c => ?_)
        · have h := h.1 c
          refine J_iconst C 25 dX8_darken_24 rfl ki_0 ?_
          refine J_istore_n C 26 [(3, .int 0), (0, .ref a0), (1, .int x1), (2, .int x2)] dX8_darken_25 rfl (by decide) rfl ?_
          refine J_loc [1, 2, 3, 0] rfl ?_
          obtain ⟨n1, h⟩ := h
          exact wk_X8_darken_c26 C hr hk n1 f0_8 x1 x2 0 h
        · have h := h.2 c
          refine J_ldc C 23 wd207 dX8_darken_21 rfl ?_
          exact J_iret C hr hk f0_8 rfl dX8_darken_23 h
def wp_X8_nightsNotDark_c39 (v0 : Vl) (v0_1 : Vl) (v0_9 : Vl) (v0_11 : Vl) (Q : Int32 → Prop) : Nat → Int32 → Int32 → Int32 → Int32 → Prop
  | 0 => fun _ _ _ _ => False
  | n + 1 => fun y1 y3 y4 y5 => ((400 ≤ y5 → Q 400) ∧ (¬ 400 ≤ y5 → ∀ x_4 : Int32, x_4 = ((v0_1.1 12) + y5) → wp_X5_skyOf v0_11 x_4 (fun r_5 => wp_X3_hoursOf v0_9 x_4 (fun r_6 => wp_X3_needOf v0_9 y1 r_6 r_5 y4 (fun r_7 => wp_X3_isDarkBySky v0_9 y1 r_5 (fun r_8 => ((¬ r_8 = 0 → Q y5) ∧ (r_8 = 0 → ((r_7 ≤ y3 → ∀ x_9 : Int32, x_9 = (y3 - r_7) → wp_X3_leakOf v0_9 y1 x_9 (fun r_10 => ∀ x_11 : Int32, x_11 = (x_9 - r_10) → ∀ x_12 : Int32, x_12 = y5 + 1 → wp_X8_nightsNotDark_c39 v0 v0_1 v0_9 v0_11 Q n y1 x_11 y4 x_12)) ∧ (¬ r_7 ≤ y3 → Q y5))))))))))
set_option maxHeartbeats 4000000 in
set_option maxRecDepth 100000 in
theorem wk_X8_nightsNotDark_c39 {p : Program} {l : Launch} {e : Env} {s : State} {m : MethodId} {args : Array Value} {below : List Frame} {meth : Method} {c : Code} {D : GG} {A : Nat → Prop} {cI cJ cZ cS : ClassId} {a0 : Nat} {r0 : Nat → Nat} {r0_1 : Nat → Nat} {r0_9 : Nat → Nat} {r0_11 : Nat → Nat} {v0 : Vl} {v0_1 : Vl} {v0_9 : Vl} {v0_11 : Vl} {Q : Int32 → Prop} (C : Cx p s m args c D (tyL cI cJ cZ cS) A RX8 cX8_nightsNotDark 9) (hr : meth.sig.returnType = some .int) (hk : meth.locks = false) : ∀ (n : Nat) (y1 : Int32) (y3 : Int32) (y4 : Int32) (y5 : Int32), wp_X8_nightsNotDark_c39 v0 v0_1 v0_9 v0_11 Q n y1 y3 y4 y5 → J p l e (rmk 2 47) s m args below meth c D A 9 0 0 (MQ below (va_Qi (fun (r : Int32) (u : Unit) => Q r) (fun u t => va_P D.1 vwCl ((fun (u : Unit) => List.flatten [bX8 cI cJ cZ a0 r0 v0, bX6 cI cJ cZ 360 (r0 1) r0_1 v0_1, bX3 cI cJ cZ (r0 9) r0_9 v0_9, bX5 cI cJ cZ (r0 11) r0_11 v0_11]) u) t.heap ∧ va_D A ((fun (u : Unit) => List.flatten [bX8 cI cJ cZ a0 r0 v0, bX6 cI cJ cZ 360 (r0 1) r0_1 v0_1, bX3 cI cJ cZ (r0 9) r0_9 v0_9, bX5 cI cJ cZ (r0 11) r0_11 v0_11]) u)) A) args s 0 0 A) 39 [(0, .ref a0), (1, .int y1), (3, .int y3), (4, .int y4), (5, .int y5)] [] (List.flatten [bX8 cI cJ cZ a0 r0 v0, bX6 cI cJ cZ 360 (r0 1) r0_1 v0_1, bX3 cI cJ cZ (r0 9) r0_9 v0_9, bX5 cI cJ cZ (r0 11) r0_11 v0_11]) := by
  intro n
  induction n with
  | zero =>
    intro y1 y3 y4 y5 h
    exact False.elim h
  | succ n ih =>
    intro y1 y3 y4 y5 h
    refine J_iload C 41 dX8_nightsNotDark_39 rfl rfl ?_
    refine J_sipush C 44 dX8_nightsNotDark_41 rfl ks_400 ?_
    refine J_icmp_ge C 47 138 dX8_nightsNotDark_44 rfl rfl (fun c => ?_) (fun c => ?_)
    · have h := h.1 c
      refine J_sipush C 141 dX8_nightsNotDark_138 rfl ks_400 ?_
      exact J_iret C hr hk () rfl dX8_nightsNotDark_141 h
    · have h := h.2 c
      refine J_aload_n C 48 dX8_nightsNotDark_47 rfl rfl ?_
      refine J_get C 51 8 inlX8 0 1 rfl rfl (by decide) wd30 rfl rfl dX8_nightsNotDark_48 rfl ?_
      refine J_getN C 54 6 inlX6 1 12 rfl rfl (by decide) (mi 6 rfl) rfl rfl dX8_nightsNotDark_51 rfl ?_
      refine J_iload C 56 dX8_nightsNotDark_54 rfl rfl ?_
      refine J_iadd C 57 dX8_nightsNotDark_56 rfl ?_
      obtain ⟨x_4, ex_4⟩ : ∃ z : Int32, z = ((v0_1.1 12) + y5) := ⟨_, rfl⟩
      have h := h x_4 ex_4
      refine J_nmi ex_4 ?_
      refine J_istore C 59 [(6, .int x_4), (0, .ref a0), (1, .int y1), (3, .int y3), (4, .int y4), (5, .int y5)] dX8_nightsNotDark_57 rfl (by decide) rfl ?_
      refine J_aload_n C 60 dX8_nightsNotDark_59 rfl rfl ?_
      refine J_get C 63 8 inlX8 0 11 rfl rfl (by decide) wd25 rfl rfl dX8_nightsNotDark_60 rfl ?_
      refine J_iload C 65 dX8_nightsNotDark_63 rfl rfl ?_
      refine J_callBiV (Bs := [bX8 cI cJ cZ a0 r0 v0, bX6 cI cJ cZ 360 (r0 1) r0_1 v0_1, bX3 cI cJ cZ (r0 9) r0_9 v0_9, bX5 cI cJ cZ (r0 11) r0_11 v0_11]) (As := [.int x_4]) C 68 (c_X5_skyOf l D cI cJ cZ cS (r0 11) r0_11 v0_11 x_4 _ h) wd560 wd557 wd24 wd558 wd559 5 0 rfl rfl rfl hdX5_skyOf ⟨Nat.le_of_ble_eq_true rfl, Nat.le_of_ble_eq_true rfl⟩ ⟨Nat.zero_le _, Nat.zero_le _⟩ rfl (Nat.le_of_ble_eq_true rfl) [3] [0, 1, 2] 4 rfl (by decide +kernel) rfl rfl (fun (u : Unit) => [bX5 cI cJ cZ (r0 11) r0_11 v0_11]) (fun _ => rfl) [1, 2, 3, 0] (by decide +kernel) (fun _ => rfl) rfl (fun (u : Unit) => [bX8 cI cJ cZ a0 r0 v0, bX6 cI cJ cZ 360 (r0 1) r0_1 v0_1, bX3 cI cJ cZ (r0 9) r0_9 v0_9, bX5 cI cJ cZ (r0 11) r0_11 v0_11]) (fun _ => rfl) dX8_nightsNotDark_65 rfl (fun r_5 u h => ?_)
      refine J_istore C 70 [(7, .int r_5), (6, .int x_4), (0, .ref a0), (1, .int y1), (3, .int y3), (4, .int y4), (5, .int y5)] dX8_nightsNotDark_68 rfl (by decide) rfl ?_
      refine J_aload_n C 71 dX8_nightsNotDark_70 rfl rfl ?_
      refine J_get C 74 8 inlX8 0 9 rfl rfl (by decide) wd20 rfl rfl dX8_nightsNotDark_71 rfl ?_
      refine J_iload_n C 75 dX8_nightsNotDark_74 rfl rfl ?_
      refine J_aload_n C 76 dX8_nightsNotDark_75 rfl rfl ?_
      refine J_get C 79 8 inlX8 0 9 rfl rfl (by decide) wd20 rfl rfl dX8_nightsNotDark_76 rfl ?_
      refine J_iload C 81 dX8_nightsNotDark_79 rfl rfl ?_
      refine J_callBiV (Bs := [bX8 cI cJ cZ a0 r0 v0, bX6 cI cJ cZ 360 (r0 1) r0_1 v0_1, bX3 cI cJ cZ (r0 9) r0_9 v0_9, bX5 cI cJ cZ (r0 11) r0_11 v0_11]) (As := [.int x_4]) C 84 (c_X3_hoursOf l D cI cJ cZ cS (r0 9) r0_9 v0_9 x_4 _ h) wd647 wd834 wd19 wd645 wd646 3 0 rfl rfl rfl hdX3_hoursOf ⟨Nat.le_of_ble_eq_true rfl, Nat.le_of_ble_eq_true rfl⟩ ⟨Nat.zero_le _, Nat.zero_le _⟩ rfl (Nat.le_of_ble_eq_true rfl) [2] [0, 1, 3] 4 rfl (by decide +kernel) rfl rfl (fun (u : Unit) => [bX3 cI cJ cZ (r0 9) r0_9 v0_9]) (fun _ => rfl) [1, 2, 0, 3] (by decide +kernel) (fun _ => rfl) rfl (fun (u : Unit) => [bX8 cI cJ cZ a0 r0 v0, bX6 cI cJ cZ 360 (r0 1) r0_1 v0_1, bX3 cI cJ cZ (r0 9) r0_9 v0_9, bX5 cI cJ cZ (r0 11) r0_11 v0_11]) (fun _ => rfl) dX8_nightsNotDark_81 rfl (fun r_6 u h => ?_)
      refine J_iload C 86 dX8_nightsNotDark_84 rfl rfl ?_
      refine J_iload C 88 dX8_nightsNotDark_86 rfl rfl ?_
      refine J_callBiV (Bs := [bX8 cI cJ cZ a0 r0 v0, bX6 cI cJ cZ 360 (r0 1) r0_1 v0_1, bX3 cI cJ cZ (r0 9) r0_9 v0_9, bX5 cI cJ cZ (r0 11) r0_11 v0_11]) (As := [.int y1, .int r_6, .int r_5, .int y4]) C 91 (c_X3_needOf l D cI cJ cZ cS (r0 9) r0_9 v0_9 y1 r_6 r_5 y4 _ h) wd655 wd835 wd19 wd653 wd654 3 0 rfl rfl rfl hdX3_needOf ⟨Nat.le_of_ble_eq_true rfl, Nat.le_of_ble_eq_true rfl⟩ ⟨Nat.zero_le _, Nat.zero_le _⟩ rfl (Nat.le_of_ble_eq_true rfl) [2] [0, 1, 3] 4 rfl (by decide +kernel) rfl rfl (fun (u : Unit) => [bX3 cI cJ cZ (r0 9) r0_9 v0_9]) (fun _ => rfl) [1, 2, 0, 3] (by decide +kernel) (fun _ => rfl) rfl (fun (u : Unit) => [bX8 cI cJ cZ a0 r0 v0, bX6 cI cJ cZ 360 (r0 1) r0_1 v0_1, bX3 cI cJ cZ (r0 9) r0_9 v0_9, bX5 cI cJ cZ (r0 11) r0_11 v0_11]) (fun _ => rfl) dX8_nightsNotDark_88 rfl (fun r_7 u h => ?_)
      refine J_istore C 93 [(8, .int r_7), (7, .int r_5), (6, .int x_4), (0, .ref a0), (1, .int y1), (3, .int y3), (4, .int y4), (5, .int y5)] dX8_nightsNotDark_91 rfl (by decide) rfl ?_
      refine J_aload_n C 94 dX8_nightsNotDark_93 rfl rfl ?_
      refine J_get C 97 8 inlX8 0 9 rfl rfl (by decide) wd20 rfl rfl dX8_nightsNotDark_94 rfl ?_
      refine J_iload_n C 98 dX8_nightsNotDark_97 rfl rfl ?_
      refine J_iload C 100 dX8_nightsNotDark_98 rfl rfl ?_
      refine J_callBiV (Bs := [bX8 cI cJ cZ a0 r0 v0, bX6 cI cJ cZ 360 (r0 1) r0_1 v0_1, bX3 cI cJ cZ (r0 9) r0_9 v0_9, bX5 cI cJ cZ (r0 11) r0_11 v0_11]) (As := [.int y1, .int r_5]) C 103 (c_X3_isDarkBySky l D cI cJ cZ cS (r0 9) r0_9 v0_9 y1 r_5 _ h) wd668 wd858 wd19 wd666 wd667 3 0 rfl rfl rfl hdX3_isDarkBySky ⟨Nat.le_of_ble_eq_true rfl, Nat.le_of_ble_eq_true rfl⟩ ⟨Nat.zero_le _, Nat.zero_le _⟩ rfl (Nat.le_of_ble_eq_true rfl) [2] [0, 1, 3] 4 rfl (by decide +kernel) rfl rfl (fun (u : Unit) => [bX3 cI cJ cZ (r0 9) r0_9 v0_9]) (fun _ => rfl) [1, 2, 0, 3] (by decide +kernel) (fun _ => rfl) rfl (fun (u : Unit) => [bX8 cI cJ cZ a0 r0 v0, bX6 cI cJ cZ 360 (r0 1) r0_1 v0_1, bX3 cI cJ cZ (r0 9) r0_9 v0_9, bX5 cI cJ cZ (r0 11) r0_11 v0_11]) (fun _ => rfl) dX8_nightsNotDark_100 rfl (fun r_8 u h => ?_)
      refine J_if_ne C 106 112 dX8_nightsNotDark_103 rfl rfl (fun c => ?_) (fun c => ?_)
      · have h := h.1 c
        refine J_iload C 114 dX8_nightsNotDark_112 rfl rfl ?_
        exact J_iret C hr hk () rfl dX8_nightsNotDark_114 h
      · have h := h.2 c
        refine J_iload_n C 107 dX8_nightsNotDark_106 rfl rfl ?_
        refine J_iload C 109 dX8_nightsNotDark_107 rfl rfl ?_
        refine J_icmp_ge C 112 115 dX8_nightsNotDark_109 rfl rfl (fun c => ?_) (fun c => ?_)
        · have h := h.1 c
          refine J_iload_n C 116 dX8_nightsNotDark_115 rfl rfl ?_
          refine J_iload C 118 dX8_nightsNotDark_116 rfl rfl ?_
          refine J_isub C 119 dX8_nightsNotDark_118 rfl ?_
          obtain ⟨x_9, ex_9⟩ : ∃ z : Int32, z = (y3 - r_7) := ⟨_, rfl⟩
          have h := h x_9 ex_9
          refine J_nmi ex_9 ?_
          refine J_istore_n C 120 [(3, .int x_9), (8, .int r_7), (7, .int r_5), (6, .int x_4), (0, .ref a0), (1, .int y1), (4, .int y4), (5, .int y5)] dX8_nightsNotDark_119 rfl (by decide) rfl ?_
          refine J_iload_n C 121 dX8_nightsNotDark_120 rfl rfl ?_
          refine J_aload_n C 122 dX8_nightsNotDark_121 rfl rfl ?_
          refine J_get C 125 8 inlX8 0 9 rfl rfl (by decide) wd20 rfl rfl dX8_nightsNotDark_122 rfl ?_
          refine J_iload_n C 126 dX8_nightsNotDark_125 rfl rfl ?_
          refine J_iload_n C 127 dX8_nightsNotDark_126 rfl rfl ?_
          refine J_callBiV (Bs := [bX8 cI cJ cZ a0 r0 v0, bX6 cI cJ cZ 360 (r0 1) r0_1 v0_1, bX3 cI cJ cZ (r0 9) r0_9 v0_9, bX5 cI cJ cZ (r0 11) r0_11 v0_11]) (As := [.int y1, .int x_9]) C 130 (c_X3_leakOf l D cI cJ cZ cS (r0 9) r0_9 v0_9 y1 x_9 _ h) wd663 wd859 wd19 wd661 wd662 3 0 rfl rfl rfl hdX3_leakOf ⟨Nat.le_of_ble_eq_true rfl, Nat.le_of_ble_eq_true rfl⟩ ⟨Nat.zero_le _, Nat.zero_le _⟩ rfl (Nat.le_of_ble_eq_true rfl) [2] [0, 1, 3] 4 rfl (by decide +kernel) rfl rfl (fun (u : Unit) => [bX3 cI cJ cZ (r0 9) r0_9 v0_9]) (fun _ => rfl) [1, 2, 0, 3] (by decide +kernel) (fun _ => rfl) rfl (fun (u : Unit) => [bX8 cI cJ cZ a0 r0 v0, bX6 cI cJ cZ 360 (r0 1) r0_1 v0_1, bX3 cI cJ cZ (r0 9) r0_9 v0_9, bX5 cI cJ cZ (r0 11) r0_11 v0_11]) (fun _ => rfl) dX8_nightsNotDark_127 rfl (fun r_10 u h => ?_)
          refine J_isub C 131 dX8_nightsNotDark_130 rfl ?_
          obtain ⟨x_11, ex_11⟩ : ∃ z : Int32, z = (x_9 - r_10) := ⟨_, rfl⟩
          have h := h x_11 ex_11
          refine J_nmi ex_11 ?_
          refine J_istore_n C 132 [(3, .int x_11), (8, .int r_7), (7, .int r_5), (6, .int x_4), (0, .ref a0), (1, .int y1), (4, .int y4), (5, .int y5)] dX8_nightsNotDark_131 rfl (by decide) rfl ?_
          obtain ⟨x_12, ex_12⟩ : ∃ z : Int32, z = y5 + 1 := ⟨_, rfl⟩
          have h := h x_12 ex_12
          refine J_iinc C 135 [(5, .int x_12), (3, .int x_11), (8, .int r_7), (7, .int r_5), (6, .int x_4), (0, .ref a0), (1, .int y1), (4, .int y4)] dX8_nightsNotDark_132 rfl rfl ((kinc_1 _).trans ex_12.symm) (by decide) rfl ?_
          refine J_goto C 39 dX8_nightsNotDark_135 rfl ?_
          refine J_loc [5, 6, 1, 7, 0] rfl ?_
          exact ih y1 x_11 y4 x_12 h
        · have h := h.2 c
          refine J_iload C 114 dX8_nightsNotDark_112 rfl rfl ?_
          exact J_iret C hr hk () rfl dX8_nightsNotDark_114 h
def wp_X8_nightsNotDark_c34 (v0 : Vl) (v0_1 : Vl) (v0_9 : Vl) (v0_11 : Vl) (Q : Int32 → Prop) (y1 : Int32) (y3 : Int32) (s0 : Int32) : Prop := (∃ k : Nat, wp_X8_nightsNotDark_c39 v0 v0_1 v0_9 v0_11 Q k y1 y3 s0 0)
set_option maxHeartbeats 4000000 in
set_option maxRecDepth 100000 in
theorem wk_X8_nightsNotDark_c34 {p : Program} {l : Launch} {e : Env} {s : State} {m : MethodId} {args : Array Value} {below : List Frame} {meth : Method} {c : Code} {D : GG} {A : Nat → Prop} {cI cJ cZ cS : ClassId} {a0 : Nat} {r0 : Nat → Nat} {r0_1 : Nat → Nat} {r0_9 : Nat → Nat} {r0_11 : Nat → Nat} {v0 : Vl} {v0_1 : Vl} {v0_9 : Vl} {v0_11 : Vl} {Q : Int32 → Prop} (C : Cx p s m args c D (tyL cI cJ cZ cS) A RX8 cX8_nightsNotDark 9) (hr : meth.sig.returnType = some .int) (hk : meth.locks = false) : ∀ (y1 : Int32) (y3 : Int32) (s0 : Int32), wp_X8_nightsNotDark_c34 v0 v0_1 v0_9 v0_11 Q y1 y3 s0 → J p l e (rmk 2 47) s m args below meth c D A 9 0 0 (MQ below (va_Qi (fun (r : Int32) (u : Unit) => Q r) (fun u t => va_P D.1 vwCl ((fun (u : Unit) => List.flatten [bX8 cI cJ cZ a0 r0 v0, bX6 cI cJ cZ 360 (r0 1) r0_1 v0_1, bX3 cI cJ cZ (r0 9) r0_9 v0_9, bX5 cI cJ cZ (r0 11) r0_11 v0_11]) u) t.heap ∧ va_D A ((fun (u : Unit) => List.flatten [bX8 cI cJ cZ a0 r0 v0, bX6 cI cJ cZ 360 (r0 1) r0_1 v0_1, bX3 cI cJ cZ (r0 9) r0_9 v0_9, bX5 cI cJ cZ (r0 11) r0_11 v0_11]) u)) A) args s 0 0 A) 34 [(0, .ref a0), (1, .int y1), (3, .int y3)] [.int s0] (List.flatten [bX8 cI cJ cZ a0 r0 v0, bX6 cI cJ cZ 360 (r0 1) r0_1 v0_1, bX3 cI cJ cZ (r0 9) r0_9 v0_9, bX5 cI cJ cZ (r0 11) r0_11 v0_11]) := by
  intro y1 y3 s0 h
  refine J_istore C 36 [(4, .int s0), (0, .ref a0), (1, .int y1), (3, .int y3)] dX8_nightsNotDark_34 rfl (by decide) rfl ?_
  refine J_iconst C 37 dX8_nightsNotDark_36 rfl ki_0 ?_
  refine J_istore C 39 [(5, .int 0), (4, .int s0), (0, .ref a0), (1, .int y1), (3, .int y3)] dX8_nightsNotDark_37 rfl (by decide) rfl ?_
  refine J_loc [2, 3, 4, 1, 0] rfl ?_
  obtain ⟨n1, h⟩ := h
  exact wk_X8_nightsNotDark_c39 C hr hk n1 y1 y3 s0 0 h
def wp_X8_nightsNotDark (v0 : Vl) (v0_1 : Vl) (v0_9 : Vl) (v0_11 : Vl) (x1 : Int32) (x2 : Int32) (Q : Int32 → Prop) : Prop := wp_X8_at 9 (v0_1.2.2.1 0) x1 (fun r_1 => ∀ x_2 : Int32, x_2 = (r_1 + x2) → wp_X8_at 9 (v0_1.2.2.1 1) x1 (fun r_3 => ((¬ r_3 = 1 → wp_X8_nightsNotDark_c34 v0 v0_1 v0_9 v0_11 Q x1 x_2 0) ∧ (r_3 = 1 → wp_X8_nightsNotDark_c34 v0 v0_1 v0_9 v0_11 Q x1 x_2 1))))
set_option maxHeartbeats 4000000 in
set_option maxRecDepth 100000 in
theorem c_X8_nightsNotDark (l : Launch) (D : GG) (cI cJ cZ cS : ClassId) (a0 : Nat) (r0 : Nat → Nat) (v0 : Vl) (r0_1 : Nat → Nat) (v0_1 : Vl) (r0_9 : Nat → Nat) (v0_9 : Vl) (r0_11 : Nat → Nat) (v0_11 : Vl) (x1 : Int32) (x2 : Int32) (Q : Int32 → Prop) (h : wp_X8_nightsNotDark v0 v0_1 v0_9 v0_11 x1 x2 Q) : Mi l D (tyL cI cJ cZ cS) yX8_nightsNotDark cX8_nightsNotDark 9 .int 2 47 [.ref a0, .int x1, .int x2] (List.flatten [bX8 cI cJ cZ a0 r0 v0, bX6 cI cJ cZ 360 (r0 1) r0_1 v0_1, bX3 cI cJ cZ (r0 9) r0_9 v0_9, bX5 cI cJ cZ (r0 11) r0_11 v0_11]) (fun (r : Int32) (u : Unit) => Q r) (fun (u : Unit) => List.flatten [bX8 cI cJ cZ a0 r0 v0, bX6 cI cJ cZ 360 (r0 1) r0_1 v0_1, bX3 cI cJ cZ (r0 9) r0_9 v0_9, bX5 cI cJ cZ (r0 11) r0_11 v0_11]) := by
  refine Mi_of RX8 [(0, .ref a0), (1, .int x1), (2, .int x2)] (by decide +kernel) rfl rfl (Nat.le_of_ble_eq_true rfl) ?_
  intro p e s m args below meth c A C hr hk
  refine J_aload_n C 1 dX8_nightsNotDark_0 rfl rfl ?_
  refine J_get C 4 8 inlX8 0 1 rfl rfl (by decide) wd30 rfl rfl dX8_nightsNotDark_1 rfl ?_
  refine J_getN C 7 6 inlX6 1 0 rfl rfl (by decide) (mi 20 rfl) rfl rfl dX8_nightsNotDark_4 rfl ?_
  refine J_iload_n C 8 dX8_nightsNotDark_7 rfl rfl ?_
  refine J_call1piS (As := [.ref (r0_1 0), .int x1]) C 11 (c_X8_at l D cI cJ cZ cS 9 (r0_1 0) (v0_1.2.2.1 0) x1 _ h) wd147 wd543 wd2 wd146 hdX8_at ⟨Nat.le_of_ble_eq_true rfl, Nat.le_of_ble_eq_true rfl⟩ ⟨Nat.zero_le _, Nat.zero_le _⟩ rfl (Nat.le_of_ble_eq_true rfl) 2 rfl (fun _ => rfl) dX8_nightsNotDark_8 rfl (fun r_1 u h => ?_)
  refine J_iload_n C 12 dX8_nightsNotDark_11 rfl rfl ?_
  refine J_iadd C 13 dX8_nightsNotDark_12 rfl ?_
  obtain ⟨x_2, ex_2⟩ : ∃ z : Int32, z = (r_1 + x2) := ⟨_, rfl⟩
  have h := h x_2 ex_2
  refine J_nmi ex_2 ?_
  refine J_istore_n C 14 [(3, .int x_2), (0, .ref a0), (1, .int x1), (2, .int x2)] dX8_nightsNotDark_13 rfl (by decide) rfl ?_
  refine J_aload_n C 15 dX8_nightsNotDark_14 rfl rfl ?_
  refine J_get C 18 8 inlX8 0 1 rfl rfl (by decide) wd30 rfl rfl dX8_nightsNotDark_15 rfl ?_
  refine J_getN C 21 6 inlX6 1 1 rfl rfl (by decide) (mi 21 rfl) rfl rfl dX8_nightsNotDark_18 rfl ?_
  refine J_iload_n C 22 dX8_nightsNotDark_21 rfl rfl ?_
  refine J_call1piS (As := [.ref (r0_1 1), .int x1]) C 25 (c_X8_at l D cI cJ cZ cS 9 (r0_1 1) (v0_1.2.2.1 1) x1 _ h) wd147 wd543 wd2 wd146 hdX8_at ⟨Nat.le_of_ble_eq_true rfl, Nat.le_of_ble_eq_true rfl⟩ ⟨Nat.zero_le _, Nat.zero_le _⟩ rfl (Nat.le_of_ble_eq_true rfl) 3 rfl (fun _ => rfl) dX8_nightsNotDark_22 rfl (fun r_3 u h => ?_)
  refine J_iconst C 26 dX8_nightsNotDark_25 rfl ki_1 ?_
  refine J_icmp_ne C 29 33 dX8_nightsNotDark_26 rfl rfl (fun c => ?_) (fun c => ?_)
  · have h := h.1 c
    refine J_iconst C 34 dX8_nightsNotDark_33 rfl ki_0 ?_
    refine J_loc [1, 2, 0] rfl ?_
    exact wk_X8_nightsNotDark_c34 C hr hk x1 x_2 0 h
  · have h := h.2 c
    refine J_iconst C 30 dX8_nightsNotDark_29 rfl ki_1 ?_
    refine J_goto C 34 dX8_nightsNotDark_30 rfl ?_
    refine J_loc [1, 2, 0] rfl ?_
    exact wk_X8_nightsNotDark_c34 C hr hk x1 x_2 1 h
def wp_X8_lasts (v0 : Vl) (v0_1 : Vl) (v0_9 : Vl) (v0_11 : Vl) (x1 : Int32) (Q : Int32 → Prop) : Prop := wp_X8_isNoLight v0 v0_9 x1 (fun r_1 => ((r_1 = 0 → wp_X8_nightsNotDark v0 v0_1 v0_9 v0_11 x1 0 (fun r_2 => Q r_2)) ∧ (¬ r_1 = 0 → Q (-1000000001))))
set_option maxHeartbeats 4000000 in
set_option maxRecDepth 100000 in
theorem c_X8_lasts (l : Launch) (D : GG) (cI cJ cZ cS : ClassId) (a0 : Nat) (r0 : Nat → Nat) (v0 : Vl) (r0_1 : Nat → Nat) (v0_1 : Vl) (r0_9 : Nat → Nat) (v0_9 : Vl) (r0_11 : Nat → Nat) (v0_11 : Vl) (x1 : Int32) (Q : Int32 → Prop) (h : wp_X8_lasts v0 v0_1 v0_9 v0_11 x1 Q) : Mi l D (tyL cI cJ cZ cS) yX8_lasts cX8_lasts 2 .int 3 75 [.ref a0, .int x1] (List.flatten [bX8 cI cJ cZ a0 r0 v0, bX6 cI cJ cZ 360 (r0 1) r0_1 v0_1, bX3 cI cJ cZ (r0 9) r0_9 v0_9, bX5 cI cJ cZ (r0 11) r0_11 v0_11]) (fun (r : Int32) (u : Unit) => Q r) (fun (u : Unit) => List.flatten [bX8 cI cJ cZ a0 r0 v0, bX6 cI cJ cZ 360 (r0 1) r0_1 v0_1, bX3 cI cJ cZ (r0 9) r0_9 v0_9, bX5 cI cJ cZ (r0 11) r0_11 v0_11]) := by
  refine Mi_of RX8 [(0, .ref a0), (1, .int x1)] (by decide +kernel) rfl rfl (Nat.le_of_ble_eq_true rfl) ?_
  intro p e s m args below meth c A C hr hk
  refine J_aload_n C 1 dX8_lasts_0 rfl rfl ?_
  refine J_iload_n C 2 dX8_lasts_1 rfl rfl ?_
  refine J_callBiV (Bs := [bX8 cI cJ cZ a0 r0 v0, bX6 cI cJ cZ 360 (r0 1) r0_1 v0_1, bX3 cI cJ cZ (r0 9) r0_9 v0_9, bX5 cI cJ cZ (r0 11) r0_11 v0_11]) (As := [.int x1]) C 5 (c_X8_isNoLight l D cI cJ cZ cS a0 r0 v0 r0_9 v0_9 x1 _ h) wd542 wd539 wd2 wd540 wd541 8 0 rfl rfl rfl hdX8_isNoLight ⟨Nat.le_of_ble_eq_true rfl, Nat.le_of_ble_eq_true rfl⟩ ⟨Nat.zero_le _, Nat.zero_le _⟩ rfl (Nat.le_of_ble_eq_true rfl) [0, 2] [1, 3] 4 rfl (by decide +kernel) rfl rfl (fun (u : Unit) => [bX8 cI cJ cZ a0 r0 v0, bX3 cI cJ cZ (r0 9) r0_9 v0_9]) (fun _ => rfl) [0, 2, 1, 3] (by decide +kernel) (fun _ => rfl) rfl (fun (u : Unit) => [bX8 cI cJ cZ a0 r0 v0, bX6 cI cJ cZ 360 (r0 1) r0_1 v0_1, bX3 cI cJ cZ (r0 9) r0_9 v0_9, bX5 cI cJ cZ (r0 11) r0_11 v0_11]) (fun _ => rfl) dX8_lasts_2 rfl (fun r_1 u h => ?_)
  refine J_if_eq C 8 13 dX8_lasts_5 rfl rfl (fun c => ?_) (fun c => ?_)
  · have h := h.1 c
    refine J_aload_n C 14 dX8_lasts_13 rfl rfl ?_
    refine J_iload_n C 15 dX8_lasts_14 rfl rfl ?_
    refine J_iconst C 16 dX8_lasts_15 rfl ki_0 ?_
    refine J_callBiV (Bs := [bX8 cI cJ cZ a0 r0 v0, bX6 cI cJ cZ 360 (r0 1) r0_1 v0_1, bX3 cI cJ cZ (r0 9) r0_9 v0_9, bX5 cI cJ cZ (r0 11) r0_11 v0_11]) (As := [.int x1, .int 0]) C 19 (c_X8_nightsNotDark l D cI cJ cZ cS a0 r0 v0 r0_1 v0_1 r0_9 v0_9 r0_11 v0_11 x1 0 _ h) wd857 wd854 wd2 wd855 wd856 8 0 rfl rfl rfl hdX8_nightsNotDark ⟨Nat.le_of_ble_eq_true rfl, Nat.le_of_ble_eq_true rfl⟩ ⟨Nat.zero_le _, Nat.zero_le _⟩ rfl (Nat.le_of_ble_eq_true rfl) [0, 1, 2, 3] [] 4 rfl (by decide +kernel) rfl rfl (fun (u : Unit) => [bX8 cI cJ cZ a0 r0 v0, bX6 cI cJ cZ 360 (r0 1) r0_1 v0_1, bX3 cI cJ cZ (r0 9) r0_9 v0_9, bX5 cI cJ cZ (r0 11) r0_11 v0_11]) (fun _ => rfl) [0, 1, 2, 3] (by decide +kernel) (fun _ => rfl) rfl (fun (u : Unit) => [bX8 cI cJ cZ a0 r0 v0, bX6 cI cJ cZ 360 (r0 1) r0_1 v0_1, bX3 cI cJ cZ (r0 9) r0_9 v0_9, bX5 cI cJ cZ (r0 11) r0_11 v0_11]) (fun _ => rfl) dX8_lasts_16 rfl (fun r_2 u h => ?_)
    exact J_iret C hr hk () rfl dX8_lasts_19 h
  · have h := h.2 c
    refine J_ldc C 10 wd538 dX8_lasts_8 rfl ?_
    refine J_goto C 19 dX8_lasts_10 rfl ?_
    exact J_iret C hr hk () rfl dX8_lasts_19 h
def wp_X8_oddsTooLate_c101 (v0 : Vl) (v0_1 : Vl) (v0_9 : Vl) (v0_11 : Vl) (Q : Int32 → Vl → (Nat → Int64) → (Nat → Int64) → Prop) : Nat → Vl → (Nat → Int64) → (Nat → Int64) → Int64 → Int32 → Prop
  | 0 => fun _ _ _ _ _ => False
  | n + 1 => fun v0_5 f0_5_0 f0_5_1 y5 y7 => ((3 ≤ y7 → Q (Int64.toInt32 (y5 / 1000)) v0_5 f0_5_0 f0_5_1) ∧ (¬ 3 ≤ y7 → wp_X2_partsOf v0_5 f0_5_0 y7 (fun r_7 => ∀ x_8 : Int64, x_8 = (y5 + r_7) → ∀ x_9 : Int32, x_9 = y7 + 1 → wp_X8_oddsTooLate_c101 v0 v0_1 v0_9 v0_11 Q n v0_5 f0_5_0 f0_5_1 x_8 x_9)))
set_option maxHeartbeats 4000000 in
set_option maxRecDepth 100000 in
theorem wk_X8_oddsTooLate_c101 {p : Program} {l : Launch} {e : Env} {s : State} {m : MethodId} {args : Array Value} {below : List Frame} {meth : Method} {c : Code} {D : GG} {A : Nat → Prop} {cI cJ cZ cS : ClassId} {a0 : Nat} {r0 : Nat → Nat} {r0_1 : Nat → Nat} {r0_9 : Nat → Nat} {r0_11 : Nat → Nat} {v0 : Vl} {v0_1 : Vl} {v0_9 : Vl} {v0_11 : Vl} {Q : Int32 → Vl → (Nat → Int64) → (Nat → Int64) → Prop} (C : Cx p s m args c D (tyL cI cJ cZ cS) A RX8 cX8_oddsTooLate 8) (hr : meth.sig.returnType = some .int) (hk : meth.locks = false) : ∀ (n : Nat) (r0_5 : Nat → Nat) (v0_5 : Vl) (f0_5_0 : Nat → Int64) (f0_5_1 : Nat → Int64) (y5 : Int64) (y7 : Int32), wp_X8_oddsTooLate_c101 v0 v0_1 v0_9 v0_11 Q n v0_5 f0_5_0 f0_5_1 y5 y7 → J p l e (rmk 3 75) s m args below meth c D A 8 0 0 (MQ below (va_Qi (fun (r : Int32) (u : Vl × (Nat → Int64) × (Nat → Int64) × (Nat → Nat)) => Q r u.1 u.2.1 u.2.2.1) (fun u t => va_P D.1 vwCl ((fun (u : Vl × (Nat → Int64) × (Nat → Int64) × (Nat → Nat)) => List.flatten [bX8 cI cJ cZ a0 r0 v0, bX6 cI cJ cZ 360 (r0 1) r0_1 v0_1, bX2 cI cJ cZ (r0 5) u.2.2.2 u.1, bL cJ 300 (u.2.2.2 0) u.2.1, bL cJ 300 (u.2.2.2 1) u.2.2.1, bX3 cI cJ cZ (r0 9) r0_9 v0_9, bX5 cI cJ cZ (r0 11) r0_11 v0_11]) u) t.heap ∧ va_D A ((fun (u : Vl × (Nat → Int64) × (Nat → Int64) × (Nat → Nat)) => List.flatten [bX8 cI cJ cZ a0 r0 v0, bX6 cI cJ cZ 360 (r0 1) r0_1 v0_1, bX2 cI cJ cZ (r0 5) u.2.2.2 u.1, bL cJ 300 (u.2.2.2 0) u.2.1, bL cJ 300 (u.2.2.2 1) u.2.2.1, bX3 cI cJ cZ (r0 9) r0_9 v0_9, bX5 cI cJ cZ (r0 11) r0_11 v0_11]) u)) A) args s 0 0 A) 101 [(0, .ref a0), (5, .long y5), (7, .int y7)] [] (List.flatten [bX8 cI cJ cZ a0 r0 v0, bX6 cI cJ cZ 360 (r0 1) r0_1 v0_1, bX2 cI cJ cZ (r0 5) r0_5 v0_5, bL cJ 300 (r0_5 0) f0_5_0, bL cJ 300 (r0_5 1) f0_5_1, bX3 cI cJ cZ (r0 9) r0_9 v0_9, bX5 cI cJ cZ (r0 11) r0_11 v0_11]) := by
  intro n
  induction n with
  | zero =>
    intro r0_5 v0_5 f0_5_0 f0_5_1 y5 y7 h
    exact False.elim h
  | succ n ih =>
    intro r0_5 v0_5 f0_5_0 f0_5_1 y5 y7 h
    refine J_iload C 103 dX8_oddsTooLate_101 rfl rfl ?_
    refine J_iconst C 104 dX8_oddsTooLate_103 rfl ki_3 ?_
    refine J_icmp_ge C 107 127 dX8_oddsTooLate_104 rfl rfl (fun c => ?_) (fun c => ?_)
    · have h := h.1 c
      refine J_lload C 129 dX8_oddsTooLate_127 rfl rfl ?_
      refine J_ldc2 C 132 wd877 dX8_oddsTooLate_129 rfl ?_
      refine J_ldiv C 133 dX8_oddsTooLate_132 rfl (by decide) ?_
      refine J_l2i C 134 dX8_oddsTooLate_133 rfl ?_
      exact J_iret C hr hk (v0_5, f0_5_0, f0_5_1, r0_5) rfl dX8_oddsTooLate_134 h
    · have h := h.2 c
      refine J_lload C 109 dX8_oddsTooLate_107 rfl rfl ?_
      refine J_aload_n C 110 dX8_oddsTooLate_109 rfl rfl ?_
      refine J_get C 113 8 inlX8 0 5 rfl rfl (by decide) wd41 rfl rfl dX8_oddsTooLate_110 rfl ?_
      refine J_iload C 115 dX8_oddsTooLate_113 rfl rfl ?_
      refine J_callBlV (Bs := [bX8 cI cJ cZ a0 r0 v0, bX6 cI cJ cZ 360 (r0 1) r0_1 v0_1, bX2 cI cJ cZ (r0 5) r0_5 v0_5, bL cJ 300 (r0_5 0) f0_5_0, bL cJ 300 (r0_5 1) f0_5_1, bX3 cI cJ cZ (r0 9) r0_9 v0_9, bX5 cI cJ cZ (r0 11) r0_11 v0_11]) (As := [.int y7]) C 118 (c_X2_partsOf l D cI cJ cZ cS (r0 5) r0_5 v0_5 f0_5_0 y7 _ h) wd897 wd894 wd40 wd895 wd896 2 0 rfl rfl rfl hdX2_partsOf ⟨Nat.le_of_ble_eq_true rfl, Nat.le_of_ble_eq_true rfl⟩ ⟨Nat.zero_le _, Nat.zero_le _⟩ rfl (Nat.le_of_ble_eq_true rfl) [2, 3] [0, 1, 4, 5, 6] 7 rfl (by decide +kernel) rfl rfl (fun (u : Unit) => [bX2 cI cJ cZ (r0 5) r0_5 v0_5, bL cJ 300 (r0_5 0) f0_5_0]) (fun _ => rfl) [2, 3, 0, 1, 4, 5, 6] (by decide +kernel) (fun _ => rfl) rfl (fun (u : Unit) => [bX8 cI cJ cZ a0 r0 v0, bX6 cI cJ cZ 360 (r0 1) r0_1 v0_1, bX2 cI cJ cZ (r0 5) r0_5 v0_5, bL cJ 300 (r0_5 0) f0_5_0, bL cJ 300 (r0_5 1) f0_5_1, bX3 cI cJ cZ (r0 9) r0_9 v0_9, bX5 cI cJ cZ (r0 11) r0_11 v0_11]) (fun _ => rfl) dX8_oddsTooLate_115 rfl (fun r_7 u h => ?_)
      refine J_ladd C 119 dX8_oddsTooLate_118 rfl ?_
      obtain ⟨x_8, ex_8⟩ : ∃ z : Int64, z = (y5 + r_7) := ⟨_, rfl⟩
      have h := h x_8 ex_8
      refine J_nml ex_8 ?_
      refine J_lstore C 121 [(5, .long x_8), (0, .ref a0), (7, .int y7)] dX8_oddsTooLate_119 rfl (by decide) rfl ?_
      obtain ⟨x_9, ex_9⟩ : ∃ z : Int32, z = y7 + 1 := ⟨_, rfl⟩
      have h := h x_9 ex_9
      refine J_iinc C 124 [(7, .int x_9), (5, .long x_8), (0, .ref a0)] dX8_oddsTooLate_121 rfl rfl ((kinc_1 _).trans ex_9.symm) (by decide) rfl ?_
      refine J_goto C 101 dX8_oddsTooLate_124 rfl ?_
      refine J_loc [2, 1, 0] rfl ?_
      exact ih r0_5 v0_5 f0_5_0 f0_5_1 x_8 x_9 h
def wp_X8_oddsTooLate_c55 (v0 : Vl) (v0_1 : Vl) (v0_9 : Vl) (v0_11 : Vl) (Q : Int32 → Vl → (Nat → Int64) → (Nat → Int64) → Prop) : Nat → Vl → (Nat → Int64) → (Nat → Int64) → Int32 → Int32 → Prop
  | 0 => fun _ _ _ _ _ => False
  | n + 1 => fun v0_5 f0_5_0 f0_5_1 y4 y5 => ((y4 ≤ y5 → (∃ k : Nat, wp_X8_oddsTooLate_c101 v0 v0_1 v0_9 v0_11 Q k v0_5 f0_5_0 f0_5_1 0 0)) ∧ (¬ y4 ≤ y5 → wp_X3_milesBy v0_9 0 (fun r_10 => wp_X3_milesBy v0_9 1 (fun r_11 => wp_X2_passDay v0_5 v0_9 f0_5_0 f0_5_1 r_10 r_11 (fun u_12 u_13 => ∀ x_15 : Int32, x_15 = y5 + 1 → wp_X8_oddsTooLate_c55 v0 v0_1 v0_9 v0_11 Q n v0_5 u_12 u_13 y4 x_15)))))
set_option maxHeartbeats 4000000 in
set_option maxRecDepth 100000 in
theorem wk_X8_oddsTooLate_c55 {p : Program} {l : Launch} {e : Env} {s : State} {m : MethodId} {args : Array Value} {below : List Frame} {meth : Method} {c : Code} {D : GG} {A : Nat → Prop} {cI cJ cZ cS : ClassId} {a0 : Nat} {r0 : Nat → Nat} {r0_1 : Nat → Nat} {r0_9 : Nat → Nat} {r0_11 : Nat → Nat} {v0 : Vl} {v0_1 : Vl} {v0_9 : Vl} {v0_11 : Vl} {Q : Int32 → Vl → (Nat → Int64) → (Nat → Int64) → Prop} (C : Cx p s m args c D (tyL cI cJ cZ cS) A RX8 cX8_oddsTooLate 8) (hr : meth.sig.returnType = some .int) (hk : meth.locks = false) : ∀ (n : Nat) (r0_5 : Nat → Nat) (v0_5 : Vl) (f0_5_0 : Nat → Int64) (f0_5_1 : Nat → Int64) (y4 : Int32) (y5 : Int32), wp_X8_oddsTooLate_c55 v0 v0_1 v0_9 v0_11 Q n v0_5 f0_5_0 f0_5_1 y4 y5 → J p l e (rmk 3 75) s m args below meth c D A 8 0 0 (MQ below (va_Qi (fun (r : Int32) (u : Vl × (Nat → Int64) × (Nat → Int64) × (Nat → Nat)) => Q r u.1 u.2.1 u.2.2.1) (fun u t => va_P D.1 vwCl ((fun (u : Vl × (Nat → Int64) × (Nat → Int64) × (Nat → Nat)) => List.flatten [bX8 cI cJ cZ a0 r0 v0, bX6 cI cJ cZ 360 (r0 1) r0_1 v0_1, bX2 cI cJ cZ (r0 5) u.2.2.2 u.1, bL cJ 300 (u.2.2.2 0) u.2.1, bL cJ 300 (u.2.2.2 1) u.2.2.1, bX3 cI cJ cZ (r0 9) r0_9 v0_9, bX5 cI cJ cZ (r0 11) r0_11 v0_11]) u) t.heap ∧ va_D A ((fun (u : Vl × (Nat → Int64) × (Nat → Int64) × (Nat → Nat)) => List.flatten [bX8 cI cJ cZ a0 r0 v0, bX6 cI cJ cZ 360 (r0 1) r0_1 v0_1, bX2 cI cJ cZ (r0 5) u.2.2.2 u.1, bL cJ 300 (u.2.2.2 0) u.2.1, bL cJ 300 (u.2.2.2 1) u.2.2.1, bX3 cI cJ cZ (r0 9) r0_9 v0_9, bX5 cI cJ cZ (r0 11) r0_11 v0_11]) u)) A) args s 0 0 A) 55 [(0, .ref a0), (4, .int y4), (5, .int y5)] [] (List.flatten [bX8 cI cJ cZ a0 r0 v0, bX6 cI cJ cZ 360 (r0 1) r0_1 v0_1, bX2 cI cJ cZ (r0 5) r0_5 v0_5, bL cJ 300 (r0_5 0) f0_5_0, bL cJ 300 (r0_5 1) f0_5_1, bX3 cI cJ cZ (r0 9) r0_9 v0_9, bX5 cI cJ cZ (r0 11) r0_11 v0_11]) := by
  intro n
  induction n with
  | zero =>
    intro r0_5 v0_5 f0_5_0 f0_5_1 y4 y5 h
    exact False.elim h
  | succ n ih =>
    intro r0_5 v0_5 f0_5_0 f0_5_1 y4 y5 h
    refine J_iload C 57 dX8_oddsTooLate_55 rfl rfl ?_
    refine J_iload C 59 dX8_oddsTooLate_57 rfl rfl ?_
    refine J_icmp_ge C 62 95 dX8_oddsTooLate_59 rfl rfl (fun c => ?_) (fun c => ?_)
    · have h := h.1 c
      refine J_lconst C 96 dX8_oddsTooLate_95 rfl kl_0 ?_
      refine J_lstore C 98 [(5, .long 0), (0, .ref a0), (4, .int y4)] dX8_oddsTooLate_96 rfl (by decide) rfl ?_
      refine J_iconst C 99 dX8_oddsTooLate_98 rfl ki_0 ?_
      refine J_istore C 101 [(7, .int 0), (5, .long 0), (0, .ref a0), (4, .int y4)] dX8_oddsTooLate_99 rfl (by decide) rfl ?_
      refine J_loc [2, 1, 0] rfl ?_
      obtain ⟨n1, h⟩ := h
      exact wk_X8_oddsTooLate_c101 C hr hk n1 r0_5 v0_5 f0_5_0 f0_5_1 0 0 h
    · have h := h.2 c
      refine J_aload_n C 63 dX8_oddsTooLate_62 rfl rfl ?_
      refine J_get C 66 8 inlX8 0 5 rfl rfl (by decide) wd41 rfl rfl dX8_oddsTooLate_63 rfl ?_
      refine J_aload_n C 67 dX8_oddsTooLate_66 rfl rfl ?_
      refine J_get C 70 8 inlX8 0 9 rfl rfl (by decide) wd20 rfl rfl dX8_oddsTooLate_67 rfl ?_
      refine J_aload_n C 71 dX8_oddsTooLate_70 rfl rfl ?_
      refine J_get C 74 8 inlX8 0 9 rfl rfl (by decide) wd20 rfl rfl dX8_oddsTooLate_71 rfl ?_
      refine J_iconst C 75 dX8_oddsTooLate_74 rfl ki_0 ?_
      refine J_callBiV (Bs := [bX8 cI cJ cZ a0 r0 v0, bX6 cI cJ cZ 360 (r0 1) r0_1 v0_1, bX2 cI cJ cZ (r0 5) r0_5 v0_5, bL cJ 300 (r0_5 0) f0_5_0, bL cJ 300 (r0_5 1) f0_5_1, bX3 cI cJ cZ (r0 9) r0_9 v0_9, bX5 cI cJ cZ (r0 11) r0_11 v0_11]) (As := [.int 0]) C 78 (c_X3_milesBy l D cI cJ cZ cS (r0 9) r0_9 v0_9 0 _ h) wd635 wd887 wd19 wd633 wd634 3 0 rfl rfl rfl hdX3_milesBy ⟨Nat.le_of_ble_eq_true rfl, Nat.le_of_ble_eq_true rfl⟩ ⟨Nat.zero_le _, Nat.zero_le _⟩ rfl (Nat.le_of_ble_eq_true rfl) [5] [0, 1, 2, 3, 4, 6] 7 rfl (by decide +kernel) rfl rfl (fun (u : Unit) => [bX3 cI cJ cZ (r0 9) r0_9 v0_9]) (fun _ => rfl) [1, 2, 3, 4, 5, 0, 6] (by decide +kernel) (fun _ => rfl) rfl (fun (u : Unit) => [bX8 cI cJ cZ a0 r0 v0, bX6 cI cJ cZ 360 (r0 1) r0_1 v0_1, bX2 cI cJ cZ (r0 5) r0_5 v0_5, bL cJ 300 (r0_5 0) f0_5_0, bL cJ 300 (r0_5 1) f0_5_1, bX3 cI cJ cZ (r0 9) r0_9 v0_9, bX5 cI cJ cZ (r0 11) r0_11 v0_11]) (fun _ => rfl) dX8_oddsTooLate_75 rfl (fun r_10 u h => ?_)
      refine J_aload_n C 79 dX8_oddsTooLate_78 rfl rfl ?_
      refine J_get C 82 8 inlX8 0 9 rfl rfl (by decide) wd20 rfl rfl dX8_oddsTooLate_79 rfl ?_
      refine J_iconst C 83 dX8_oddsTooLate_82 rfl ki_1 ?_
      refine J_callBiV (Bs := [bX8 cI cJ cZ a0 r0 v0, bX6 cI cJ cZ 360 (r0 1) r0_1 v0_1, bX2 cI cJ cZ (r0 5) r0_5 v0_5, bL cJ 300 (r0_5 0) f0_5_0, bL cJ 300 (r0_5 1) f0_5_1, bX3 cI cJ cZ (r0 9) r0_9 v0_9, bX5 cI cJ cZ (r0 11) r0_11 v0_11]) (As := [.int 1]) C 86 (c_X3_milesBy l D cI cJ cZ cS (r0 9) r0_9 v0_9 1 _ h) wd635 wd887 wd19 wd633 wd634 3 0 rfl rfl rfl hdX3_milesBy ⟨Nat.le_of_ble_eq_true rfl, Nat.le_of_ble_eq_true rfl⟩ ⟨Nat.zero_le _, Nat.zero_le _⟩ rfl (Nat.le_of_ble_eq_true rfl) [5] [0, 1, 2, 3, 4, 6] 7 rfl (by decide +kernel) rfl rfl (fun (u : Unit) => [bX3 cI cJ cZ (r0 9) r0_9 v0_9]) (fun _ => rfl) [1, 2, 3, 4, 5, 0, 6] (by decide +kernel) (fun _ => rfl) rfl (fun (u : Unit) => [bX8 cI cJ cZ a0 r0 v0, bX6 cI cJ cZ 360 (r0 1) r0_1 v0_1, bX2 cI cJ cZ (r0 5) r0_5 v0_5, bL cJ 300 (r0_5 0) f0_5_0, bL cJ 300 (r0_5 1) f0_5_1, bX3 cI cJ cZ (r0 9) r0_9 v0_9, bX5 cI cJ cZ (r0 11) r0_11 v0_11]) (fun _ => rfl) dX8_oddsTooLate_83 rfl (fun r_11 u h => ?_)
      refine J_callBvV (Bs := [bX8 cI cJ cZ a0 r0 v0, bX6 cI cJ cZ 360 (r0 1) r0_1 v0_1, bX2 cI cJ cZ (r0 5) r0_5 v0_5, bL cJ 300 (r0_5 0) f0_5_0, bL cJ 300 (r0_5 1) f0_5_1, bX3 cI cJ cZ (r0 9) r0_9 v0_9, bX5 cI cJ cZ (r0 11) r0_11 v0_11]) (As := [.ref (r0 9), .int r_10, .int r_11]) C 89 (c_X2_passDay l D cI cJ cZ cS (r0 5) r0_5 v0_5 (r0 9) r0_9 v0_9 f0_5_0 f0_5_1 r_10 r_11 _ h) wd891 wd888 wd40 wd889 wd890 2 0 rfl rfl rfl hdX2_passDay ⟨Nat.le_of_ble_eq_true rfl, Nat.le_of_ble_eq_true rfl⟩ ⟨Nat.zero_le _, Nat.zero_le _⟩ rfl (Nat.le_of_ble_eq_true rfl) [2, 5, 3, 4] [0, 1, 6] 7 rfl (by decide +kernel) rfl rfl (fun (u : (Nat → Int64) × (Nat → Int64) × (Nat → Nat)) => [bX2 cI cJ cZ (r0 5) u.2.2 v0_5, bX3 cI cJ cZ (r0 9) r0_9 v0_9, bL cJ 300 (u.2.2 0) u.1, bL cJ 300 (u.2.2 1) u.2.1]) (fun _ => rfl) [4, 5, 0, 2, 3, 1, 6] (by decide +kernel) (fun _ => rfl) rfl (fun (u : (Nat → Int64) × (Nat → Int64) × (Nat → Nat)) => [bX8 cI cJ cZ a0 r0 v0, bX6 cI cJ cZ 360 (r0 1) r0_1 v0_1, bX2 cI cJ cZ (r0 5) u.2.2 v0_5, bL cJ 300 (u.2.2 0) u.1, bL cJ 300 (u.2.2 1) u.2.1, bX3 cI cJ cZ (r0 9) r0_9 v0_9, bX5 cI cJ cZ (r0 11) r0_11 v0_11]) (fun _ => rfl) dX8_oddsTooLate_86 rfl (fun u h => ?_)
      obtain ⟨u_12, u_13, rr_14⟩ := u
      obtain ⟨x_15, ex_15⟩ : ∃ z : Int32, z = y5 + 1 := ⟨_, rfl⟩
      have h := h x_15 ex_15
      refine J_iinc C 92 [(5, .int x_15), (0, .ref a0), (4, .int y4)] dX8_oddsTooLate_89 rfl rfl ((kinc_1 _).trans ex_15.symm) (by decide) rfl ?_
      refine J_goto C 55 dX8_oddsTooLate_92 rfl ?_
      refine J_loc [1, 2, 0] rfl ?_
      exact ih rr_14 v0_5 u_12 u_13 y4 x_15 h
def wp_X8_oddsTooLate (v0 : Vl) (v0_1 : Vl) (v0_5 : Vl) (f0_5_0 : Nat → Int64) (f0_5_1 : Nat → Int64) (v0_9 : Vl) (v0_11 : Vl) (x1 : Int32) (x2 : Int32) (Q : Int32 → Vl → (Nat → Int64) → (Nat → Int64) → Prop) : Prop := wp_X8_at 9 (v0_9.2.2.1 1) x1 (fun r_1 => ∀ x_2 : Int32, x_2 = (if 0 ≤ (r_1 - (v0_1.1 7)) then (r_1 - (v0_1.1 7)) else 0 - (r_1 - (v0_1.1 7))) → ((¬ x_2 = 0 → wp_X8_nightsNotDark v0 v0_1 v0_9 v0_11 x1 x2 (fun r_3 => wp_X2_start v0_5 f0_5_0 f0_5_1 (v0_1.1 13) x_2 (fun u_4 u_5 u_6 => (∃ k : Nat, wp_X8_oddsTooLate_c55 v0 v0_1 v0_9 v0_11 Q k u_4 u_5 u_6 r_3 0)))) ∧ (x_2 = 0 → Q 0 v0_5 f0_5_0 f0_5_1)))
set_option maxHeartbeats 4000000 in
set_option maxRecDepth 100000 in
theorem c_X8_oddsTooLate (l : Launch) (D : GG) (cI cJ cZ cS : ClassId) (a0 : Nat) (r0 : Nat → Nat) (v0 : Vl) (r0_1 : Nat → Nat) (v0_1 : Vl) (r0_5 : Nat → Nat) (v0_5 : Vl) (f0_5_0 : Nat → Int64) (f0_5_1 : Nat → Int64) (r0_9 : Nat → Nat) (v0_9 : Vl) (r0_11 : Nat → Nat) (v0_11 : Vl) (x1 : Int32) (x2 : Int32) (Q : Int32 → Vl → (Nat → Int64) → (Nat → Int64) → Prop) (h : wp_X8_oddsTooLate v0 v0_1 v0_5 f0_5_0 f0_5_1 v0_9 v0_11 x1 x2 Q) : Mi l D (tyL cI cJ cZ cS) yX8_oddsTooLate cX8_oddsTooLate 8 .int 3 75 [.ref a0, .int x1, .int x2] (List.flatten [bX8 cI cJ cZ a0 r0 v0, bX6 cI cJ cZ 360 (r0 1) r0_1 v0_1, bX2 cI cJ cZ (r0 5) r0_5 v0_5, bL cJ 300 (r0_5 0) f0_5_0, bL cJ 300 (r0_5 1) f0_5_1, bX3 cI cJ cZ (r0 9) r0_9 v0_9, bX5 cI cJ cZ (r0 11) r0_11 v0_11]) (fun (r : Int32) (u : Vl × (Nat → Int64) × (Nat → Int64) × (Nat → Nat)) => Q r u.1 u.2.1 u.2.2.1) (fun (u : Vl × (Nat → Int64) × (Nat → Int64) × (Nat → Nat)) => List.flatten [bX8 cI cJ cZ a0 r0 v0, bX6 cI cJ cZ 360 (r0 1) r0_1 v0_1, bX2 cI cJ cZ (r0 5) u.2.2.2 u.1, bL cJ 300 (u.2.2.2 0) u.2.1, bL cJ 300 (u.2.2.2 1) u.2.2.1, bX3 cI cJ cZ (r0 9) r0_9 v0_9, bX5 cI cJ cZ (r0 11) r0_11 v0_11]) := by
  refine Mi_of RX8 [(0, .ref a0), (1, .int x1), (2, .int x2)] (by decide +kernel) rfl rfl (Nat.le_of_ble_eq_true rfl) ?_
  intro p e s m args below meth c A C hr hk
  refine J_aload_n C 1 dX8_oddsTooLate_0 rfl rfl ?_
  refine J_get C 4 8 inlX8 0 9 rfl rfl (by decide) wd20 rfl rfl dX8_oddsTooLate_1 rfl ?_
  refine J_getN C 7 3 inlX3 10 1 rfl rfl (by decide) (mi 16 rfl) rfl rfl dX8_oddsTooLate_4 rfl ?_
  refine J_iload_n C 8 dX8_oddsTooLate_7 rfl rfl ?_
  refine J_call1piS (As := [.ref (r0_9 1), .int x1]) C 11 (c_X8_at l D cI cJ cZ cS 9 (r0_9 1) (v0_9.2.2.1 1) x1 _ h) wd147 wd543 wd2 wd146 hdX8_at ⟨Nat.le_of_ble_eq_true rfl, Nat.le_of_ble_eq_true rfl⟩ ⟨Nat.zero_le _, Nat.zero_le _⟩ rfl (Nat.le_of_ble_eq_true rfl) 12 rfl (fun _ => rfl) dX8_oddsTooLate_8 rfl (fun r_1 u h => ?_)
  refine J_aload_n C 12 dX8_oddsTooLate_11 rfl rfl ?_
  refine J_get C 15 8 inlX8 0 1 rfl rfl (by decide) wd30 rfl rfl dX8_oddsTooLate_12 rfl ?_
  refine J_getN C 18 6 inlX6 1 7 rfl rfl (by decide) (mi 11 rfl) rfl rfl dX8_oddsTooLate_15 rfl ?_
  refine J_isub C 19 dX8_oddsTooLate_18 rfl ?_
  refine J_mabs C 22 wd876 wd623 wd100 wd624 (Nat.le_of_ble_eq_true rfl) (Nat.le_of_ble_eq_true rfl) ⟨Nat.zero_le _, Nat.zero_le _⟩ dX8_oddsTooLate_19 rfl ?_
  obtain ⟨x_2, ex_2⟩ : ∃ z : Int32, z = (if 0 ≤ (r_1 - (v0_1.1 7)) then (r_1 - (v0_1.1 7)) else 0 - (r_1 - (v0_1.1 7))) := ⟨_, rfl⟩
  have h := h x_2 ex_2
  refine J_nmi ex_2 ?_
  refine J_istore_n C 23 [(3, .int x_2), (0, .ref a0), (1, .int x1), (2, .int x2)] dX8_oddsTooLate_22 rfl (by decide) rfl ?_
  refine J_iload_n C 24 dX8_oddsTooLate_23 rfl rfl ?_
  refine J_if_ne C 27 29 dX8_oddsTooLate_24 rfl rfl (fun c => ?_) (fun c => ?_)
  · have h := h.1 c
    refine J_aload_n C 30 dX8_oddsTooLate_29 rfl rfl ?_
    refine J_iload_n C 31 dX8_oddsTooLate_30 rfl rfl ?_
    refine J_iload_n C 32 dX8_oddsTooLate_31 rfl rfl ?_
    refine J_callBiV (Bs := [bX8 cI cJ cZ a0 r0 v0, bX6 cI cJ cZ 360 (r0 1) r0_1 v0_1, bX2 cI cJ cZ (r0 5) r0_5 v0_5, bL cJ 300 (r0_5 0) f0_5_0, bL cJ 300 (r0_5 1) f0_5_1, bX3 cI cJ cZ (r0 9) r0_9 v0_9, bX5 cI cJ cZ (r0 11) r0_11 v0_11]) (As := [.int x1, .int x2]) C 35 (c_X8_nightsNotDark l D cI cJ cZ cS a0 r0 v0 r0_1 v0_1 r0_9 v0_9 r0_11 v0_11 x1 x2 _ h) wd857 wd854 wd2 wd855 wd856 8 0 rfl rfl rfl hdX8_nightsNotDark ⟨Nat.le_of_ble_eq_true rfl, Nat.le_of_ble_eq_true rfl⟩ ⟨Nat.zero_le _, Nat.zero_le _⟩ rfl (Nat.le_of_ble_eq_true rfl) [0, 1, 5, 6] [2, 3, 4] 7 rfl (by decide +kernel) rfl rfl (fun (u : Unit) => [bX8 cI cJ cZ a0 r0 v0, bX6 cI cJ cZ 360 (r0 1) r0_1 v0_1, bX3 cI cJ cZ (r0 9) r0_9 v0_9, bX5 cI cJ cZ (r0 11) r0_11 v0_11]) (fun _ => rfl) [0, 1, 4, 5, 6, 2, 3] (by decide +kernel) (fun _ => rfl) rfl (fun (u : Unit) => [bX8 cI cJ cZ a0 r0 v0, bX6 cI cJ cZ 360 (r0 1) r0_1 v0_1, bX2 cI cJ cZ (r0 5) r0_5 v0_5, bL cJ 300 (r0_5 0) f0_5_0, bL cJ 300 (r0_5 1) f0_5_1, bX3 cI cJ cZ (r0 9) r0_9 v0_9, bX5 cI cJ cZ (r0 11) r0_11 v0_11]) (fun _ => rfl) dX8_oddsTooLate_32 rfl (fun r_3 u h => ?_)
    refine J_istore C 37 [(4, .int r_3), (3, .int x_2), (0, .ref a0), (1, .int x1), (2, .int x2)] dX8_oddsTooLate_35 rfl (by decide) rfl ?_
    refine J_aload_n C 38 dX8_oddsTooLate_37 rfl rfl ?_
    refine J_get C 41 8 inlX8 0 5 rfl rfl (by decide) wd41 rfl rfl dX8_oddsTooLate_38 rfl ?_
    refine J_aload_n C 42 dX8_oddsTooLate_41 rfl rfl ?_
    refine J_get C 45 8 inlX8 0 1 rfl rfl (by decide) wd30 rfl rfl dX8_oddsTooLate_42 rfl ?_
    refine J_getN C 48 6 inlX6 1 13 rfl rfl (by decide) (mi 30 rfl) rfl rfl dX8_oddsTooLate_45 rfl ?_
    refine J_iload_n C 49 dX8_oddsTooLate_48 rfl rfl ?_
    refine J_callBvV (Bs := [bX8 cI cJ cZ a0 r0 v0, bX6 cI cJ cZ 360 (r0 1) r0_1 v0_1, bX2 cI cJ cZ (r0 5) r0_5 v0_5, bL cJ 300 (r0_5 0) f0_5_0, bL cJ 300 (r0_5 1) f0_5_1, bX3 cI cJ cZ (r0 9) r0_9 v0_9, bX5 cI cJ cZ (r0 11) r0_11 v0_11]) (As := [.int (v0_1.1 13), .int x_2]) C 52 (c_X2_start l D cI cJ cZ cS (r0 5) r0_5 v0_5 f0_5_0 f0_5_1 (v0_1.1 13) x_2 _ h) wd881 wd878 wd40 wd879 wd880 2 0 rfl rfl rfl hdX2_start ⟨Nat.le_of_ble_eq_true rfl, Nat.le_of_ble_eq_true rfl⟩ ⟨Nat.zero_le _, Nat.zero_le _⟩ rfl (Nat.le_of_ble_eq_true rfl) [2, 3, 4] [0, 1, 5, 6] 7 rfl (by decide +kernel) rfl rfl (fun (u : Vl × (Nat → Int64) × (Nat → Int64)) => [bX2 cI cJ cZ (r0 5) r0_5 u.1, bL cJ 300 (r0_5 0) u.2.1, bL cJ 300 (r0_5 1) u.2.2]) (fun _ => rfl) [3, 4, 0, 1, 2, 5, 6] (by decide +kernel) (fun _ => rfl) rfl (fun (u : Vl × (Nat → Int64) × (Nat → Int64)) => [bX8 cI cJ cZ a0 r0 v0, bX6 cI cJ cZ 360 (r0 1) r0_1 v0_1, bX2 cI cJ cZ (r0 5) r0_5 u.1, bL cJ 300 (r0_5 0) u.2.1, bL cJ 300 (r0_5 1) u.2.2, bX3 cI cJ cZ (r0 9) r0_9 v0_9, bX5 cI cJ cZ (r0 11) r0_11 v0_11]) (fun _ => rfl) dX8_oddsTooLate_49 rfl (fun u h => ?_)
    obtain ⟨u_4, u_5, u_6⟩ := u
    refine J_iconst C 53 dX8_oddsTooLate_52 rfl ki_0 ?_
    refine J_istore C 55 [(5, .int 0), (4, .int r_3), (3, .int x_2), (0, .ref a0), (1, .int x1), (2, .int x2)] dX8_oddsTooLate_53 rfl (by decide) rfl ?_
    refine J_loc [3, 1, 0] rfl ?_
    obtain ⟨n1, h⟩ := h
    exact wk_X8_oddsTooLate_c55 C hr hk n1 r0_5 u_4 u_5 u_6 r_3 0 h
  · have h := h.2 c
    refine J_iconst C 28 dX8_oddsTooLate_27 rfl ki_0 ?_
    exact J_iret C hr hk (v0_5, f0_5_0, f0_5_1, r0_5) rfl dX8_oddsTooLate_28 h
def wp_X8_late (v0 : Vl) (v0_1 : Vl) (v0_5 : Vl) (f0_5_0 : Nat → Int64) (f0_5_1 : Nat → Int64) (v0_9 : Vl) (v0_11 : Vl) (x1 : Int32) (Q : Int32 → Vl → (Nat → Int64) → (Nat → Int64) → Prop) : Prop := wp_X8_isNoLight v0 v0_9 x1 (fun r_1 => ((r_1 = 0 → wp_X8_oddsTooLate v0 v0_1 v0_5 f0_5_0 f0_5_1 v0_9 v0_11 x1 0 (fun r_6 u_2 u_3 u_4 => Q r_6 u_2 u_3 u_4)) ∧ (¬ r_1 = 0 → Q (-1000000001) v0_5 f0_5_0 f0_5_1)))
set_option maxHeartbeats 4000000 in
set_option maxRecDepth 100000 in
theorem c_X8_late (l : Launch) (D : GG) (cI cJ cZ cS : ClassId) (a0 : Nat) (r0 : Nat → Nat) (v0 : Vl) (r0_1 : Nat → Nat) (v0_1 : Vl) (r0_5 : Nat → Nat) (v0_5 : Vl) (f0_5_0 : Nat → Int64) (f0_5_1 : Nat → Int64) (r0_9 : Nat → Nat) (v0_9 : Vl) (r0_11 : Nat → Nat) (v0_11 : Vl) (x1 : Int32) (Q : Int32 → Vl → (Nat → Int64) → (Nat → Int64) → Prop) (h : wp_X8_late v0 v0_1 v0_5 f0_5_0 f0_5_1 v0_9 v0_11 x1 Q) : Mi l D (tyL cI cJ cZ cS) yX8_late cX8_late 2 .int 4 102 [.ref a0, .int x1] (List.flatten [bX8 cI cJ cZ a0 r0 v0, bX6 cI cJ cZ 360 (r0 1) r0_1 v0_1, bX2 cI cJ cZ (r0 5) r0_5 v0_5, bL cJ 300 (r0_5 0) f0_5_0, bL cJ 300 (r0_5 1) f0_5_1, bX3 cI cJ cZ (r0 9) r0_9 v0_9, bX5 cI cJ cZ (r0 11) r0_11 v0_11]) (fun (r : Int32) (u : Vl × (Nat → Int64) × (Nat → Int64) × (Nat → Nat)) => Q r u.1 u.2.1 u.2.2.1) (fun (u : Vl × (Nat → Int64) × (Nat → Int64) × (Nat → Nat)) => List.flatten [bX8 cI cJ cZ a0 r0 v0, bX6 cI cJ cZ 360 (r0 1) r0_1 v0_1, bX2 cI cJ cZ (r0 5) u.2.2.2 u.1, bL cJ 300 (u.2.2.2 0) u.2.1, bL cJ 300 (u.2.2.2 1) u.2.2.1, bX3 cI cJ cZ (r0 9) r0_9 v0_9, bX5 cI cJ cZ (r0 11) r0_11 v0_11]) := by
  refine Mi_of RX8 [(0, .ref a0), (1, .int x1)] (by decide +kernel) rfl rfl (Nat.le_of_ble_eq_true rfl) ?_
  intro p e s m args below meth c A C hr hk
  refine J_aload_n C 1 dX8_late_0 rfl rfl ?_
  refine J_iload_n C 2 dX8_late_1 rfl rfl ?_
  refine J_callBiV (Bs := [bX8 cI cJ cZ a0 r0 v0, bX6 cI cJ cZ 360 (r0 1) r0_1 v0_1, bX2 cI cJ cZ (r0 5) r0_5 v0_5, bL cJ 300 (r0_5 0) f0_5_0, bL cJ 300 (r0_5 1) f0_5_1, bX3 cI cJ cZ (r0 9) r0_9 v0_9, bX5 cI cJ cZ (r0 11) r0_11 v0_11]) (As := [.int x1]) C 5 (c_X8_isNoLight l D cI cJ cZ cS a0 r0 v0 r0_9 v0_9 x1 _ h) wd542 wd539 wd2 wd540 wd541 8 0 rfl rfl rfl hdX8_isNoLight ⟨Nat.le_of_ble_eq_true rfl, Nat.le_of_ble_eq_true rfl⟩ ⟨Nat.zero_le _, Nat.zero_le _⟩ rfl (Nat.le_of_ble_eq_true rfl) [0, 5] [1, 2, 3, 4, 6] 7 rfl (by decide +kernel) rfl rfl (fun (u : Unit) => [bX8 cI cJ cZ a0 r0 v0, bX3 cI cJ cZ (r0 9) r0_9 v0_9]) (fun _ => rfl) [0, 2, 3, 4, 5, 1, 6] (by decide +kernel) (fun _ => rfl) rfl (fun (u : Unit) => [bX8 cI cJ cZ a0 r0 v0, bX6 cI cJ cZ 360 (r0 1) r0_1 v0_1, bX2 cI cJ cZ (r0 5) r0_5 v0_5, bL cJ 300 (r0_5 0) f0_5_0, bL cJ 300 (r0_5 1) f0_5_1, bX3 cI cJ cZ (r0 9) r0_9 v0_9, bX5 cI cJ cZ (r0 11) r0_11 v0_11]) (fun _ => rfl) dX8_late_2 rfl (fun r_1 u h => ?_)
  refine J_if_eq C 8 13 dX8_late_5 rfl rfl (fun c => ?_) (fun c => ?_)
  · have h := h.1 c
    refine J_aload_n C 14 dX8_late_13 rfl rfl ?_
    refine J_iload_n C 15 dX8_late_14 rfl rfl ?_
    refine J_iconst C 16 dX8_late_15 rfl ki_0 ?_
    refine J_callBiV (Bs := [bX8 cI cJ cZ a0 r0 v0, bX6 cI cJ cZ 360 (r0 1) r0_1 v0_1, bX2 cI cJ cZ (r0 5) r0_5 v0_5, bL cJ 300 (r0_5 0) f0_5_0, bL cJ 300 (r0_5 1) f0_5_1, bX3 cI cJ cZ (r0 9) r0_9 v0_9, bX5 cI cJ cZ (r0 11) r0_11 v0_11]) (As := [.int x1, .int 0]) C 19 (c_X8_oddsTooLate l D cI cJ cZ cS a0 r0 v0 r0_1 v0_1 r0_5 v0_5 f0_5_0 f0_5_1 r0_9 v0_9 r0_11 v0_11 x1 0 _ h) wd875 wd872 wd2 wd873 wd874 8 0 rfl rfl rfl hdX8_oddsTooLate ⟨Nat.le_of_ble_eq_true rfl, Nat.le_of_ble_eq_true rfl⟩ ⟨Nat.zero_le _, Nat.zero_le _⟩ rfl (Nat.le_of_ble_eq_true rfl) [0, 1, 2, 3, 4, 5, 6] [] 7 rfl (by decide +kernel) rfl rfl (fun (u : Vl × (Nat → Int64) × (Nat → Int64) × (Nat → Nat)) => [bX8 cI cJ cZ a0 r0 v0, bX6 cI cJ cZ 360 (r0 1) r0_1 v0_1, bX2 cI cJ cZ (r0 5) u.2.2.2 u.1, bL cJ 300 (u.2.2.2 0) u.2.1, bL cJ 300 (u.2.2.2 1) u.2.2.1, bX3 cI cJ cZ (r0 9) r0_9 v0_9, bX5 cI cJ cZ (r0 11) r0_11 v0_11]) (fun _ => rfl) [0, 1, 2, 3, 4, 5, 6] (by decide +kernel) (fun _ => rfl) rfl (fun (u : Vl × (Nat → Int64) × (Nat → Int64) × (Nat → Nat)) => [bX8 cI cJ cZ a0 r0 v0, bX6 cI cJ cZ 360 (r0 1) r0_1 v0_1, bX2 cI cJ cZ (r0 5) u.2.2.2 u.1, bL cJ 300 (u.2.2.2 0) u.2.1, bL cJ 300 (u.2.2.2 1) u.2.2.1, bX3 cI cJ cZ (r0 9) r0_9 v0_9, bX5 cI cJ cZ (r0 11) r0_11 v0_11]) (fun _ => rfl) dX8_late_16 rfl (fun r_6 u h => ?_)
    obtain ⟨u_2, u_3, u_4, rr_5⟩ := u
    exact J_iret C hr hk (u_2, u_3, u_4, rr_5) rfl dX8_late_19 h
  · have h := h.2 c
    refine J_ldc C 10 wd538 dX8_late_8 rfl ?_
    refine J_goto C 19 dX8_late_10 rfl ?_
    exact J_iret C hr hk (v0_5, f0_5_0, f0_5_1, r0_5) rfl dX8_late_19 h
def wp_X8_store (v0 : Vl) (v0_1 : Vl) (v0_5 : Vl) (f0_5_0 : Nat → Int64) (f0_5_1 : Nat → Int64) (v0_9 : Vl) (v0_11 : Vl) (x1 : Int32) (x2 : Int32) (Q : Int32 → Vl → (Nat → Int64) → (Nat → Int64) → Prop) : Prop := wp_X8_isNoLight v0 v0_9 x1 (fun r_1 => ((r_1 = 0 → ((x2 < 0 → Q (-1000000002) v0_5 f0_5_0 f0_5_1) ∧ (¬ x2 < 0 → ((x2 ≤ 999 → wp_X8_oddsTooLate v0 v0_1 v0_5 f0_5_0 f0_5_1 v0_9 v0_11 x1 0 (fun r_6 u_2 u_3 u_4 => wp_X8_oddsTooLate v0 v0_1 u_2 u_3 u_4 v0_9 v0_11 x1 x2 (fun r_11 u_7 u_8 u_9 => Q (r_6 - r_11) u_7 u_8 u_9))) ∧ (¬ x2 ≤ 999 → Q (-1000000002) v0_5 f0_5_0 f0_5_1))))) ∧ (¬ r_1 = 0 → Q (-1000000001) v0_5 f0_5_0 f0_5_1)))
set_option maxHeartbeats 4000000 in
set_option maxRecDepth 100000 in
theorem c_X8_store (l : Launch) (D : GG) (cI cJ cZ cS : ClassId) (a0 : Nat) (r0 : Nat → Nat) (v0 : Vl) (r0_1 : Nat → Nat) (v0_1 : Vl) (r0_5 : Nat → Nat) (v0_5 : Vl) (f0_5_0 : Nat → Int64) (f0_5_1 : Nat → Int64) (r0_9 : Nat → Nat) (v0_9 : Vl) (r0_11 : Nat → Nat) (v0_11 : Vl) (x1 : Int32) (x2 : Int32) (Q : Int32 → Vl → (Nat → Int64) → (Nat → Int64) → Prop) (h : wp_X8_store v0 v0_1 v0_5 f0_5_0 f0_5_1 v0_9 v0_11 x1 x2 Q) : Mi l D (tyL cI cJ cZ cS) yX8_store cX8_store 3 .int 4 102 [.ref a0, .int x1, .int x2] (List.flatten [bX8 cI cJ cZ a0 r0 v0, bX6 cI cJ cZ 360 (r0 1) r0_1 v0_1, bX2 cI cJ cZ (r0 5) r0_5 v0_5, bL cJ 300 (r0_5 0) f0_5_0, bL cJ 300 (r0_5 1) f0_5_1, bX3 cI cJ cZ (r0 9) r0_9 v0_9, bX5 cI cJ cZ (r0 11) r0_11 v0_11]) (fun (r : Int32) (u : Vl × (Nat → Int64) × (Nat → Int64) × (Nat → Nat)) => Q r u.1 u.2.1 u.2.2.1) (fun (u : Vl × (Nat → Int64) × (Nat → Int64) × (Nat → Nat)) => List.flatten [bX8 cI cJ cZ a0 r0 v0, bX6 cI cJ cZ 360 (r0 1) r0_1 v0_1, bX2 cI cJ cZ (r0 5) u.2.2.2 u.1, bL cJ 300 (u.2.2.2 0) u.2.1, bL cJ 300 (u.2.2.2 1) u.2.2.1, bX3 cI cJ cZ (r0 9) r0_9 v0_9, bX5 cI cJ cZ (r0 11) r0_11 v0_11]) := by
  refine Mi_of RX8 [(0, .ref a0), (1, .int x1), (2, .int x2)] (by decide +kernel) rfl rfl (Nat.le_of_ble_eq_true rfl) ?_
  intro p e s m args below meth c A C hr hk
  refine J_aload_n C 1 dX8_store_0 rfl rfl ?_
  refine J_iload_n C 2 dX8_store_1 rfl rfl ?_
  refine J_callBiV (Bs := [bX8 cI cJ cZ a0 r0 v0, bX6 cI cJ cZ 360 (r0 1) r0_1 v0_1, bX2 cI cJ cZ (r0 5) r0_5 v0_5, bL cJ 300 (r0_5 0) f0_5_0, bL cJ 300 (r0_5 1) f0_5_1, bX3 cI cJ cZ (r0 9) r0_9 v0_9, bX5 cI cJ cZ (r0 11) r0_11 v0_11]) (As := [.int x1]) C 5 (c_X8_isNoLight l D cI cJ cZ cS a0 r0 v0 r0_9 v0_9 x1 _ h) wd542 wd539 wd2 wd540 wd541 8 0 rfl rfl rfl hdX8_isNoLight ⟨Nat.le_of_ble_eq_true rfl, Nat.le_of_ble_eq_true rfl⟩ ⟨Nat.zero_le _, Nat.zero_le _⟩ rfl (Nat.le_of_ble_eq_true rfl) [0, 5] [1, 2, 3, 4, 6] 7 rfl (by decide +kernel) rfl rfl (fun (u : Unit) => [bX8 cI cJ cZ a0 r0 v0, bX3 cI cJ cZ (r0 9) r0_9 v0_9]) (fun _ => rfl) [0, 2, 3, 4, 5, 1, 6] (by decide +kernel) (fun _ => rfl) rfl (fun (u : Unit) => [bX8 cI cJ cZ a0 r0 v0, bX6 cI cJ cZ 360 (r0 1) r0_1 v0_1, bX2 cI cJ cZ (r0 5) r0_5 v0_5, bL cJ 300 (r0_5 0) f0_5_0, bL cJ 300 (r0_5 1) f0_5_1, bX3 cI cJ cZ (r0 9) r0_9 v0_9, bX5 cI cJ cZ (r0 11) r0_11 v0_11]) (fun _ => rfl) dX8_store_2 rfl (fun r_1 u h => ?_)
  refine J_if_eq C 8 11 dX8_store_5 rfl rfl (fun c => ?_) (fun c => ?_)
  · have h := h.1 c
    refine J_iload_n C 12 dX8_store_11 rfl rfl ?_
    refine J_if_lt C 15 22 dX8_store_12 rfl rfl (fun c => ?_) (fun c => ?_)
    · have h := h.1 c
      refine J_ldc C 24 wd207 dX8_store_22 rfl ?_
      exact J_iret C hr hk (v0_5, f0_5_0, f0_5_1, r0_5) rfl dX8_store_24 h
    · have h := h.2 c
      refine J_iload_n C 16 dX8_store_15 rfl rfl ?_
      refine J_sipush C 19 dX8_store_16 rfl ks_999 ?_
      refine J_icmp_le C 22 25 dX8_store_19 rfl rfl (fun c => ?_) (fun c => ?_)
      · have h := h.1 c
        refine J_aload_n C 26 dX8_store_25 rfl rfl ?_
        refine J_iload_n C 27 dX8_store_26 rfl rfl ?_
        refine J_iconst C 28 dX8_store_27 rfl ki_0 ?_
        refine J_callBiV (Bs := [bX8 cI cJ cZ a0 r0 v0, bX6 cI cJ cZ 360 (r0 1) r0_1 v0_1, bX2 cI cJ cZ (r0 5) r0_5 v0_5, bL cJ 300 (r0_5 0) f0_5_0, bL cJ 300 (r0_5 1) f0_5_1, bX3 cI cJ cZ (r0 9) r0_9 v0_9, bX5 cI cJ cZ (r0 11) r0_11 v0_11]) (As := [.int x1, .int 0]) C 31 (c_X8_oddsTooLate l D cI cJ cZ cS a0 r0 v0 r0_1 v0_1 r0_5 v0_5 f0_5_0 f0_5_1 r0_9 v0_9 r0_11 v0_11 x1 0 _ h) wd875 wd872 wd2 wd873 wd874 8 0 rfl rfl rfl hdX8_oddsTooLate ⟨Nat.le_of_ble_eq_true rfl, Nat.le_of_ble_eq_true rfl⟩ ⟨Nat.zero_le _, Nat.zero_le _⟩ rfl (Nat.le_of_ble_eq_true rfl) [0, 1, 2, 3, 4, 5, 6] [] 7 rfl (by decide +kernel) rfl rfl (fun (u : Vl × (Nat → Int64) × (Nat → Int64) × (Nat → Nat)) => [bX8 cI cJ cZ a0 r0 v0, bX6 cI cJ cZ 360 (r0 1) r0_1 v0_1, bX2 cI cJ cZ (r0 5) u.2.2.2 u.1, bL cJ 300 (u.2.2.2 0) u.2.1, bL cJ 300 (u.2.2.2 1) u.2.2.1, bX3 cI cJ cZ (r0 9) r0_9 v0_9, bX5 cI cJ cZ (r0 11) r0_11 v0_11]) (fun _ => rfl) [0, 1, 2, 3, 4, 5, 6] (by decide +kernel) (fun _ => rfl) rfl (fun (u : Vl × (Nat → Int64) × (Nat → Int64) × (Nat → Nat)) => [bX8 cI cJ cZ a0 r0 v0, bX6 cI cJ cZ 360 (r0 1) r0_1 v0_1, bX2 cI cJ cZ (r0 5) u.2.2.2 u.1, bL cJ 300 (u.2.2.2 0) u.2.1, bL cJ 300 (u.2.2.2 1) u.2.2.1, bX3 cI cJ cZ (r0 9) r0_9 v0_9, bX5 cI cJ cZ (r0 11) r0_11 v0_11]) (fun _ => rfl) dX8_store_28 rfl (fun r_6 u h => ?_)
        obtain ⟨u_2, u_3, u_4, rr_5⟩ := u
        refine J_aload_n C 32 dX8_store_31 rfl rfl ?_
        refine J_iload_n C 33 dX8_store_32 rfl rfl ?_
        refine J_iload_n C 34 dX8_store_33 rfl rfl ?_
        refine J_callBiV (Bs := [bX8 cI cJ cZ a0 r0 v0, bX6 cI cJ cZ 360 (r0 1) r0_1 v0_1, bX2 cI cJ cZ (r0 5) rr_5 u_2, bL cJ 300 (rr_5 0) u_3, bL cJ 300 (rr_5 1) u_4, bX3 cI cJ cZ (r0 9) r0_9 v0_9, bX5 cI cJ cZ (r0 11) r0_11 v0_11]) (As := [.int x1, .int x2]) C 37 (c_X8_oddsTooLate l D cI cJ cZ cS a0 r0 v0 r0_1 v0_1 rr_5 u_2 u_3 u_4 r0_9 v0_9 r0_11 v0_11 x1 x2 _ h) wd875 wd872 wd2 wd873 wd874 8 0 rfl rfl rfl hdX8_oddsTooLate ⟨Nat.le_of_ble_eq_true rfl, Nat.le_of_ble_eq_true rfl⟩ ⟨Nat.zero_le _, Nat.zero_le _⟩ rfl (Nat.le_of_ble_eq_true rfl) [0, 1, 2, 3, 4, 5, 6] [] 7 rfl (by decide +kernel) rfl rfl (fun (u : Vl × (Nat → Int64) × (Nat → Int64) × (Nat → Nat)) => [bX8 cI cJ cZ a0 r0 v0, bX6 cI cJ cZ 360 (r0 1) r0_1 v0_1, bX2 cI cJ cZ (r0 5) u.2.2.2 u.1, bL cJ 300 (u.2.2.2 0) u.2.1, bL cJ 300 (u.2.2.2 1) u.2.2.1, bX3 cI cJ cZ (r0 9) r0_9 v0_9, bX5 cI cJ cZ (r0 11) r0_11 v0_11]) (fun _ => rfl) [0, 1, 2, 3, 4, 5, 6] (by decide +kernel) (fun _ => rfl) rfl (fun (u : Vl × (Nat → Int64) × (Nat → Int64) × (Nat → Nat)) => [bX8 cI cJ cZ a0 r0 v0, bX6 cI cJ cZ 360 (r0 1) r0_1 v0_1, bX2 cI cJ cZ (r0 5) u.2.2.2 u.1, bL cJ 300 (u.2.2.2 0) u.2.1, bL cJ 300 (u.2.2.2 1) u.2.2.1, bX3 cI cJ cZ (r0 9) r0_9 v0_9, bX5 cI cJ cZ (r0 11) r0_11 v0_11]) (fun _ => rfl) dX8_store_34 rfl (fun r_11 u h => ?_)
        obtain ⟨u_7, u_8, u_9, rr_10⟩ := u
        refine J_isub C 38 dX8_store_37 rfl ?_
        exact J_iret C hr hk (u_7, u_8, u_9, rr_10) rfl dX8_store_38 h
      · have h := h.2 c
        refine J_ldc C 24 wd207 dX8_store_22 rfl ?_
        exact J_iret C hr hk (v0_5, f0_5_0, f0_5_1, r0_5) rfl dX8_store_24 h
  · have h := h.2 c
    refine J_ldc C 10 wd538 dX8_store_8 rfl ?_
    exact J_iret C hr hk (v0_5, f0_5_0, f0_5_1, r0_5) rfl dX8_store_10 h
def wp_X8_comes_c42 (v0 : Vl) (v0_9 : Vl) (Q : Int32 → Vl → (Nat → Int64) → (Nat → Int64) → Prop) : Nat → Vl → (Nat → Int64) → (Nat → Int64) → Int32 → Int32 → Int32 → Prop
  | 0 => fun _ _ _ _ _ _ => False
  | n + 1 => fun v0_5 f0_5_0 f0_5_1 y2 y3 y4 => ((y3 ≤ y4 → wp_X2_partsOf v0_5 f0_5_0 y2 (fun r_6 => Q (Int64.toInt32 (r_6 / 1000)) v0_5 f0_5_0 f0_5_1)) ∧ (¬ y3 ≤ y4 → wp_X2_passDay v0_5 v0_9 f0_5_0 f0_5_1 0 0 (fun u_7 u_8 => ∀ x_10 : Int32, x_10 = y4 + 1 → wp_X8_comes_c42 v0 v0_9 Q n v0_5 u_7 u_8 y2 y3 x_10)))
set_option maxHeartbeats 4000000 in
set_option maxRecDepth 100000 in
theorem wk_X8_comes_c42 {p : Program} {l : Launch} {e : Env} {s : State} {m : MethodId} {args : Array Value} {below : List Frame} {meth : Method} {c : Code} {D : GG} {A : Nat → Prop} {cI cJ cZ cS : ClassId} {a0 : Nat} {r0 : Nat → Nat} {r0_9 : Nat → Nat} {v0 : Vl} {v0_9 : Vl} {Q : Int32 → Vl → (Nat → Int64) → (Nat → Int64) → Prop} (C : Cx p s m args c D (tyL cI cJ cZ cS) A RX8 cX8_comes 5) (hr : meth.sig.returnType = some .int) (hk : meth.locks = false) : ∀ (n : Nat) (r0_5 : Nat → Nat) (v0_5 : Vl) (f0_5_0 : Nat → Int64) (f0_5_1 : Nat → Int64) (y2 : Int32) (y3 : Int32) (y4 : Int32), wp_X8_comes_c42 v0 v0_9 Q n v0_5 f0_5_0 f0_5_1 y2 y3 y4 → J p l e (rmk 3 75) s m args below meth c D A 5 0 0 (MQ below (va_Qi (fun (r : Int32) (u : Vl × (Nat → Int64) × (Nat → Int64) × (Nat → Nat)) => Q r u.1 u.2.1 u.2.2.1) (fun u t => va_P D.1 vwCl ((fun (u : Vl × (Nat → Int64) × (Nat → Int64) × (Nat → Nat)) => List.flatten [bX8 cI cJ cZ a0 r0 v0, bX2 cI cJ cZ (r0 5) u.2.2.2 u.1, bL cJ 300 (u.2.2.2 0) u.2.1, bL cJ 300 (u.2.2.2 1) u.2.2.1, bX3 cI cJ cZ (r0 9) r0_9 v0_9]) u) t.heap ∧ va_D A ((fun (u : Vl × (Nat → Int64) × (Nat → Int64) × (Nat → Nat)) => List.flatten [bX8 cI cJ cZ a0 r0 v0, bX2 cI cJ cZ (r0 5) u.2.2.2 u.1, bL cJ 300 (u.2.2.2 0) u.2.1, bL cJ 300 (u.2.2.2 1) u.2.2.1, bX3 cI cJ cZ (r0 9) r0_9 v0_9]) u)) A) args s 0 0 A) 42 [(0, .ref a0), (2, .int y2), (3, .int y3), (4, .int y4)] [] (List.flatten [bX8 cI cJ cZ a0 r0 v0, bX2 cI cJ cZ (r0 5) r0_5 v0_5, bL cJ 300 (r0_5 0) f0_5_0, bL cJ 300 (r0_5 1) f0_5_1, bX3 cI cJ cZ (r0 9) r0_9 v0_9]) := by
  intro n
  induction n with
  | zero =>
    intro r0_5 v0_5 f0_5_0 f0_5_1 y2 y3 y4 h
    exact False.elim h
  | succ n ih =>
    intro r0_5 v0_5 f0_5_0 f0_5_1 y2 y3 y4 h
    refine J_iload C 44 dX8_comes_42 rfl rfl ?_
    refine J_iload_n C 45 dX8_comes_44 rfl rfl ?_
    refine J_icmp_ge C 48 67 dX8_comes_45 rfl rfl (fun c => ?_) (fun c => ?_)
    · have h := h.1 c
      refine J_aload_n C 68 dX8_comes_67 rfl rfl ?_
      refine J_get C 71 8 inlX8 0 5 rfl rfl (by decide) wd41 rfl rfl dX8_comes_68 rfl ?_
      refine J_iload_n C 72 dX8_comes_71 rfl rfl ?_
      refine J_callBlV (Bs := [bX8 cI cJ cZ a0 r0 v0, bX2 cI cJ cZ (r0 5) r0_5 v0_5, bL cJ 300 (r0_5 0) f0_5_0, bL cJ 300 (r0_5 1) f0_5_1, bX3 cI cJ cZ (r0 9) r0_9 v0_9]) (As := [.int y2]) C 75 (c_X2_partsOf l D cI cJ cZ cS (r0 5) r0_5 v0_5 f0_5_0 y2 _ h) wd897 wd894 wd40 wd895 wd896 2 0 rfl rfl rfl hdX2_partsOf ⟨Nat.le_of_ble_eq_true rfl, Nat.le_of_ble_eq_true rfl⟩ ⟨Nat.zero_le _, Nat.zero_le _⟩ rfl (Nat.le_of_ble_eq_true rfl) [1, 2] [0, 3, 4] 5 rfl (by decide +kernel) rfl rfl (fun (u : Unit) => [bX2 cI cJ cZ (r0 5) r0_5 v0_5, bL cJ 300 (r0_5 0) f0_5_0]) (fun _ => rfl) [2, 0, 1, 3, 4] (by decide +kernel) (fun _ => rfl) rfl (fun (u : Unit) => [bX8 cI cJ cZ a0 r0 v0, bX2 cI cJ cZ (r0 5) r0_5 v0_5, bL cJ 300 (r0_5 0) f0_5_0, bL cJ 300 (r0_5 1) f0_5_1, bX3 cI cJ cZ (r0 9) r0_9 v0_9]) (fun _ => rfl) dX8_comes_72 rfl (fun r_6 u h => ?_)
      refine J_ldc2 C 78 wd877 dX8_comes_75 rfl ?_
      refine J_ldiv C 79 dX8_comes_78 rfl (by decide) ?_
      refine J_l2i C 80 dX8_comes_79 rfl ?_
      exact J_iret C hr hk (v0_5, f0_5_0, f0_5_1, r0_5) rfl dX8_comes_80 h
    · have h := h.2 c
      refine J_aload_n C 49 dX8_comes_48 rfl rfl ?_
      refine J_get C 52 8 inlX8 0 5 rfl rfl (by decide) wd41 rfl rfl dX8_comes_49 rfl ?_
      refine J_aload_n C 53 dX8_comes_52 rfl rfl ?_
      refine J_get C 56 8 inlX8 0 9 rfl rfl (by decide) wd20 rfl rfl dX8_comes_53 rfl ?_
      refine J_iconst C 57 dX8_comes_56 rfl ki_0 ?_
      refine J_iconst C 58 dX8_comes_57 rfl ki_0 ?_
      refine J_callBvV (Bs := [bX8 cI cJ cZ a0 r0 v0, bX2 cI cJ cZ (r0 5) r0_5 v0_5, bL cJ 300 (r0_5 0) f0_5_0, bL cJ 300 (r0_5 1) f0_5_1, bX3 cI cJ cZ (r0 9) r0_9 v0_9]) (As := [.ref (r0 9), .int 0, .int 0]) C 61 (c_X2_passDay l D cI cJ cZ cS (r0 5) r0_5 v0_5 (r0 9) r0_9 v0_9 f0_5_0 f0_5_1 0 0 _ h) wd891 wd888 wd40 wd889 wd890 2 0 rfl rfl rfl hdX2_passDay ⟨Nat.le_of_ble_eq_true rfl, Nat.le_of_ble_eq_true rfl⟩ ⟨Nat.zero_le _, Nat.zero_le _⟩ rfl (Nat.le_of_ble_eq_true rfl) [1, 4, 2, 3] [0] 5 rfl (by decide +kernel) rfl rfl (fun (u : (Nat → Int64) × (Nat → Int64) × (Nat → Nat)) => [bX2 cI cJ cZ (r0 5) u.2.2 v0_5, bX3 cI cJ cZ (r0 9) r0_9 v0_9, bL cJ 300 (u.2.2 0) u.1, bL cJ 300 (u.2.2 1) u.2.1]) (fun _ => rfl) [4, 0, 2, 3, 1] (by decide +kernel) (fun _ => rfl) rfl (fun (u : (Nat → Int64) × (Nat → Int64) × (Nat → Nat)) => [bX8 cI cJ cZ a0 r0 v0, bX2 cI cJ cZ (r0 5) u.2.2 v0_5, bL cJ 300 (u.2.2 0) u.1, bL cJ 300 (u.2.2 1) u.2.1, bX3 cI cJ cZ (r0 9) r0_9 v0_9]) (fun _ => rfl) dX8_comes_58 rfl (fun u h => ?_)
      obtain ⟨u_7, u_8, rr_9⟩ := u
      obtain ⟨x_10, ex_10⟩ : ∃ z : Int32, z = y4 + 1 := ⟨_, rfl⟩
      have h := h x_10 ex_10
      refine J_iinc C 64 [(4, .int x_10), (0, .ref a0), (2, .int y2), (3, .int y3)] dX8_comes_61 rfl rfl ((kinc_1 _).trans ex_10.symm) (by decide) rfl ?_
      refine J_goto C 42 dX8_comes_64 rfl ?_
      refine J_loc [1, 2, 3, 0] rfl ?_
      exact ih rr_9 v0_5 u_7 u_8 y2 y3 x_10 h
def wp_X8_comes (v0 : Vl) (v0_5 : Vl) (f0_5_0 : Nat → Int64) (f0_5_1 : Nat → Int64) (v0_9 : Vl) (x1 : Int32) (x2 : Int32) (x3 : Int32) (Q : Int32 → Vl → (Nat → Int64) → (Nat → Int64) → Prop) : Prop := wp_X8_isNoSky x1 (fun r_1 => ((¬ r_1 = 0 → Q (-1000000001) v0_5 f0_5_0 f0_5_1) ∧ (r_1 = 0 → wp_X8_isNoSky x2 (fun r_2 => ((r_2 = 0 → ((x3 < 0 → Q (-1000000002) v0_5 f0_5_0 f0_5_1) ∧ (¬ x3 < 0 → ((x3 ≤ 60 → wp_X2_start v0_5 f0_5_0 f0_5_1 x1 1 (fun u_3 u_4 u_5 => (∃ k : Nat, wp_X8_comes_c42 v0 v0_9 Q k u_3 u_4 u_5 x2 x3 0))) ∧ (¬ x3 ≤ 60 → Q (-1000000002) v0_5 f0_5_0 f0_5_1))))) ∧ (¬ r_2 = 0 → Q (-1000000001) v0_5 f0_5_0 f0_5_1))))))
set_option maxHeartbeats 4000000 in
set_option maxRecDepth 100000 in
theorem c_X8_comes (l : Launch) (D : GG) (cI cJ cZ cS : ClassId) (a0 : Nat) (r0 : Nat → Nat) (v0 : Vl) (r0_5 : Nat → Nat) (v0_5 : Vl) (f0_5_0 : Nat → Int64) (f0_5_1 : Nat → Int64) (r0_9 : Nat → Nat) (v0_9 : Vl) (x1 : Int32) (x2 : Int32) (x3 : Int32) (Q : Int32 → Vl → (Nat → Int64) → (Nat → Int64) → Prop) (h : wp_X8_comes v0 v0_5 f0_5_0 f0_5_1 v0_9 x1 x2 x3 Q) : Mi l D (tyL cI cJ cZ cS) yX8_comes cX8_comes 5 .int 3 75 [.ref a0, .int x1, .int x2, .int x3] (List.flatten [bX8 cI cJ cZ a0 r0 v0, bX2 cI cJ cZ (r0 5) r0_5 v0_5, bL cJ 300 (r0_5 0) f0_5_0, bL cJ 300 (r0_5 1) f0_5_1, bX3 cI cJ cZ (r0 9) r0_9 v0_9]) (fun (r : Int32) (u : Vl × (Nat → Int64) × (Nat → Int64) × (Nat → Nat)) => Q r u.1 u.2.1 u.2.2.1) (fun (u : Vl × (Nat → Int64) × (Nat → Int64) × (Nat → Nat)) => List.flatten [bX8 cI cJ cZ a0 r0 v0, bX2 cI cJ cZ (r0 5) u.2.2.2 u.1, bL cJ 300 (u.2.2.2 0) u.2.1, bL cJ 300 (u.2.2.2 1) u.2.2.1, bX3 cI cJ cZ (r0 9) r0_9 v0_9]) := by
  refine Mi_of RX8 [(0, .ref a0), (1, .int x1), (2, .int x2), (3, .int x3)] (by decide +kernel) rfl rfl (Nat.le_of_ble_eq_true rfl) ?_
  intro p e s m args below meth c A C hr hk
  refine J_iload_n C 1 dX8_comes_0 rfl rfl ?_
  refine J_callBiS (Bs := [bX8 cI cJ cZ a0 r0 v0, bX2 cI cJ cZ (r0 5) r0_5 v0_5, bL cJ 300 (r0_5 0) f0_5_0, bL cJ 300 (r0_5 1) f0_5_1, bX3 cI cJ cZ (r0 9) r0_9 v0_9]) (As := [.int x1]) C 4 (c_X8_isNoSky l D cI cJ cZ cS x1 _ h) wd576 wd574 wd2 wd575 hdX8_isNoSky ⟨Nat.le_of_ble_eq_true rfl, Nat.le_of_ble_eq_true rfl⟩ ⟨Nat.zero_le _, Nat.zero_le _⟩ rfl (Nat.le_of_ble_eq_true rfl) [] [0, 1, 2, 3, 4] 5 rfl (by decide +kernel) rfl rfl (fun (u : Unit) => ([] : List va_W)) (fun _ => rfl) [0, 1, 2, 3, 4] (by decide +kernel) (fun _ => rfl) rfl (fun (u : Unit) => [bX8 cI cJ cZ a0 r0 v0, bX2 cI cJ cZ (r0 5) r0_5 v0_5, bL cJ 300 (r0_5 0) f0_5_0, bL cJ 300 (r0_5 1) f0_5_1, bX3 cI cJ cZ (r0 9) r0_9 v0_9]) (fun _ => rfl) dX8_comes_1 rfl (fun r_1 u h => ?_)
  refine J_if_ne C 7 14 dX8_comes_4 rfl rfl (fun c => ?_) (fun c => ?_)
  · have h := h.1 c
    refine J_ldc C 16 wd538 dX8_comes_14 rfl ?_
    exact J_iret C hr hk (v0_5, f0_5_0, f0_5_1, r0_5) rfl dX8_comes_16 h
  · have h := h.2 c
    refine J_iload_n C 8 dX8_comes_7 rfl rfl ?_
    refine J_callBiS (Bs := [bX8 cI cJ cZ a0 r0 v0, bX2 cI cJ cZ (r0 5) r0_5 v0_5, bL cJ 300 (r0_5 0) f0_5_0, bL cJ 300 (r0_5 1) f0_5_1, bX3 cI cJ cZ (r0 9) r0_9 v0_9]) (As := [.int x2]) C 11 (c_X8_isNoSky l D cI cJ cZ cS x2 _ h) wd576 wd574 wd2 wd575 hdX8_isNoSky ⟨Nat.le_of_ble_eq_true rfl, Nat.le_of_ble_eq_true rfl⟩ ⟨Nat.zero_le _, Nat.zero_le _⟩ rfl (Nat.le_of_ble_eq_true rfl) [] [0, 1, 2, 3, 4] 5 rfl (by decide +kernel) rfl rfl (fun (u : Unit) => ([] : List va_W)) (fun _ => rfl) [0, 1, 2, 3, 4] (by decide +kernel) (fun _ => rfl) rfl (fun (u : Unit) => [bX8 cI cJ cZ a0 r0 v0, bX2 cI cJ cZ (r0 5) r0_5 v0_5, bL cJ 300 (r0_5 0) f0_5_0, bL cJ 300 (r0_5 1) f0_5_1, bX3 cI cJ cZ (r0 9) r0_9 v0_9]) (fun _ => rfl) dX8_comes_8 rfl (fun r_2 u h => ?_)
    refine J_if_eq C 14 17 dX8_comes_11 rfl rfl (fun c => ?_) (fun c => ?_)
    · have h := h.1 c
      refine J_iload_n C 18 dX8_comes_17 rfl rfl ?_
      refine J_if_lt C 21 27 dX8_comes_18 rfl rfl (fun c => ?_) (fun c => ?_)
      · have h := h.1 c
        refine J_ldc C 29 wd207 dX8_comes_27 rfl ?_
        exact J_iret C hr hk (v0_5, f0_5_0, f0_5_1, r0_5) rfl dX8_comes_29 h
      · have h := h.2 c
        refine J_iload_n C 22 dX8_comes_21 rfl rfl ?_
        refine J_bipush C 24 dX8_comes_22 rfl kb_60 ?_
        refine J_icmp_le C 27 30 dX8_comes_24 rfl rfl (fun c => ?_) (fun c => ?_)
        · have h := h.1 c
          refine J_aload_n C 31 dX8_comes_30 rfl rfl ?_
          refine J_get C 34 8 inlX8 0 5 rfl rfl (by decide) wd41 rfl rfl dX8_comes_31 rfl ?_
          refine J_iload_n C 35 dX8_comes_34 rfl rfl ?_
          refine J_iconst C 36 dX8_comes_35 rfl ki_1 ?_
          refine J_callBvV (Bs := [bX8 cI cJ cZ a0 r0 v0, bX2 cI cJ cZ (r0 5) r0_5 v0_5, bL cJ 300 (r0_5 0) f0_5_0, bL cJ 300 (r0_5 1) f0_5_1, bX3 cI cJ cZ (r0 9) r0_9 v0_9]) (As := [.int x1, .int 1]) C 39 (c_X2_start l D cI cJ cZ cS (r0 5) r0_5 v0_5 f0_5_0 f0_5_1 x1 1 _ h) wd881 wd878 wd40 wd879 wd880 2 0 rfl rfl rfl hdX2_start ⟨Nat.le_of_ble_eq_true rfl, Nat.le_of_ble_eq_true rfl⟩ ⟨Nat.zero_le _, Nat.zero_le _⟩ rfl (Nat.le_of_ble_eq_true rfl) [1, 2, 3] [0, 4] 5 rfl (by decide +kernel) rfl rfl (fun (u : Vl × (Nat → Int64) × (Nat → Int64)) => [bX2 cI cJ cZ (r0 5) r0_5 u.1, bL cJ 300 (r0_5 0) u.2.1, bL cJ 300 (r0_5 1) u.2.2]) (fun _ => rfl) [3, 0, 1, 2, 4] (by decide +kernel) (fun _ => rfl) rfl (fun (u : Vl × (Nat → Int64) × (Nat → Int64)) => [bX8 cI cJ cZ a0 r0 v0, bX2 cI cJ cZ (r0 5) r0_5 u.1, bL cJ 300 (r0_5 0) u.2.1, bL cJ 300 (r0_5 1) u.2.2, bX3 cI cJ cZ (r0 9) r0_9 v0_9]) (fun _ => rfl) dX8_comes_36 rfl (fun u h => ?_)
          obtain ⟨u_3, u_4, u_5⟩ := u
          refine J_iconst C 40 dX8_comes_39 rfl ki_0 ?_
          refine J_istore C 42 [(4, .int 0), (0, .ref a0), (1, .int x1), (2, .int x2), (3, .int x3)] dX8_comes_40 rfl (by decide) rfl ?_
          refine J_loc [1, 3, 4, 0] rfl ?_
          obtain ⟨n1, h⟩ := h
          exact wk_X8_comes_c42 C hr hk n1 r0_5 u_3 u_4 u_5 x2 x3 0 h
        · have h := h.2 c
          refine J_ldc C 29 wd207 dX8_comes_27 rfl ?_
          exact J_iret C hr hk (v0_5, f0_5_0, f0_5_1, r0_5) rfl dX8_comes_29 h
    · have h := h.2 c
      refine J_ldc C 16 wd538 dX8_comes_14 rfl ?_
      exact J_iret C hr hk (v0_5, f0_5_0, f0_5_1, r0_5) rfl dX8_comes_16 h
