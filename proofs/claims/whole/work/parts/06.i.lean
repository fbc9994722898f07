def wp_X8_say (v0 : Vl) (v0_6 : Vl) (v0_9 : Vl) (x1 : Int32) (x2 : Int32) (Q : Int32 → Vl → Prop) : Prop := ((x1 < 0 → Q (-1000000001) v0_6) ∧ (¬ x1 < 0 → (((x1 >>> ((v0_9.1 7) &&& 31)) = 0 → (((v0_6.1 2) < 12 → wp_X1_add v0_6 x1 x2 (fun u_1 => Q (u_1.1 2) u_1)) ∧ (¬ (v0_6.1 2) < 12 → Q (-1000000004) v0_6))) ∧ (¬ (x1 >>> ((v0_9.1 7) &&& 31)) = 0 → Q (-1000000001) v0_6))))
set_option maxHeartbeats 4000000 in
set_option maxRecDepth 100000 in
theorem c_X8_say (l : Launch) (D : GG) (cI cJ cZ cS : ClassId) (a0 : Nat) (r0 : Nat → Nat) (v0 : Vl) (r0_6 : Nat → Nat) (v0_6 : Vl) (r0_9 : Nat → Nat) (v0_9 : Vl) (x1 : Int32) (x2 : Int32) (Q : Int32 → Vl → Prop) (h : wp_X8_say v0 v0_6 v0_9 x1 x2 Q) : Mi l D (tyL cI cJ cZ cS) yX8_say cX8_say 3 .int 2 44 [.ref a0, .int x1, .int x2] (List.flatten [bX8 cI cJ cZ a0 r0 v0, bX1 cI cJ cZ (r0 6) r0_6 v0_6, bX3 cI cJ cZ (r0 9) r0_9 v0_9]) (fun (r : Int32) (u : Vl) => Q r u) (fun (u : Vl) => List.flatten [bX8 cI cJ cZ a0 r0 v0, bX1 cI cJ cZ (r0 6) r0_6 u, bX3 cI cJ cZ (r0 9) r0_9 v0_9]) := by
  refine Mi_of RX8 [(0, .ref a0), (1, .int x1), (2, .int x2)] (by decide +kernel) rfl rfl (Nat.le_of_ble_eq_true rfl) ?_
  intro p e s m args below meth c A C hr hk
  refine J_iload_n C 1 dX8_say_0 rfl rfl ?_
  refine J_if_lt C 4 16 dX8_say_1 rfl rfl (fun c => ?_) (fun c => ?_)
  · have h := h.1 c
    refine J_ldc C 18 wd538 dX8_say_16 rfl ?_
    exact J_iret C hr hk v0_6 rfl dX8_say_18 h
  · have h := h.2 c
    refine J_iload_n C 5 dX8_say_4 rfl rfl ?_
    refine J_aload_n C 6 dX8_say_5 rfl rfl ?_
    refine J_get C 9 8 inlX8 0 9 rfl rfl (by decide) wd20 rfl rfl dX8_say_6 rfl ?_
    refine J_getN C 12 3 inlX3 4 7 rfl rfl (by decide) (mi 0 rfl) rfl rfl dX8_say_9 rfl ?_
    refine J_ishr C 13 dX8_say_12 rfl ?_
    refine J_if_eq C 16 19 dX8_say_13 rfl rfl (fun c => ?_) (fun c => ?_)
    · have h := h.1 c
      refine J_aload_n C 20 dX8_say_19 rfl rfl ?_
      refine J_get C 23 8 inlX8 0 6 rfl rfl (by decide) wd45 rfl rfl dX8_say_20 rfl ?_
      refine J_getN C 26 1 inlX1 1 2 rfl rfl (by decide) (mi 9 rfl) rfl rfl dX8_say_23 rfl ?_
      refine J_bipush C 28 dX8_say_26 rfl kb_12 ?_
      refine J_icmp_lt C 31 34 dX8_say_28 rfl rfl (fun c => ?_) (fun c => ?_)
      · have h := h.1 c
        refine J_aload_n C 35 dX8_say_34 rfl rfl ?_
        refine J_get C 38 8 inlX8 0 6 rfl rfl (by decide) wd45 rfl rfl dX8_say_35 rfl ?_
        refine J_iload_n C 39 dX8_say_38 rfl rfl ?_
        refine J_iload_n C 40 dX8_say_39 rfl rfl ?_
        refine J_callBvV (Bs := [bX8 cI cJ cZ a0 r0 v0, bX1 cI cJ cZ (r0 6) r0_6 v0_6, bX3 cI cJ cZ (r0 9) r0_9 v0_9]) (As := [.int x1, .int x2]) C 43 (c_X1_add l D cI cJ cZ cS (r0 6) r0_6 v0_6 x1 x2 _ h) wd937 wd934 wd44 wd935 wd936 1 0 rfl rfl rfl hdX1_add ⟨Nat.le_of_ble_eq_true rfl, Nat.le_of_ble_eq_true rfl⟩ ⟨Nat.zero_le _, Nat.zero_le _⟩ rfl (Nat.le_of_ble_eq_true rfl) [1] [0, 2] 3 rfl (by decide +kernel) rfl rfl (fun (u : Vl) => [bX1 cI cJ cZ (r0 6) r0_6 u]) (fun _ => rfl) [1, 0, 2] (by decide +kernel) (fun _ => rfl) rfl (fun (u : Vl) => [bX8 cI cJ cZ a0 r0 v0, bX1 cI cJ cZ (r0 6) r0_6 u, bX3 cI cJ cZ (r0 9) r0_9 v0_9]) (fun _ => rfl) dX8_say_40 rfl (fun u h => ?_)
        obtain ⟨u_1, hu⟩ : ∃ z, z = u := ⟨_, rfl⟩
        subst hu
        refine J_aload_n C 44 dX8_say_43 rfl rfl ?_
        refine J_get C 47 8 inlX8 0 6 rfl rfl (by decide) wd45 rfl rfl dX8_say_44 rfl ?_
        refine J_getN C 50 1 inlX1 1 2 rfl rfl (by decide) (mi 9 rfl) rfl rfl dX8_say_47 rfl ?_
        exact J_iret C hr hk u_1 rfl dX8_say_50 h
      · have h := h.2 c
        refine J_ldc C 33 wd208 dX8_say_31 rfl ?_
        exact J_iret C hr hk v0_6 rfl dX8_say_33 h
    · have h := h.2 c
      refine J_ldc C 18 wd538 dX8_say_16 rfl ?_
      exact J_iret C hr hk v0_6 rfl dX8_say_18 h
def wp_X8_forget (v0 : Vl) (v0_6 : Vl)  (Q : Int32 → Vl → Prop) : Prop := ∀ x_1 : Int32, x_1 = (v0_6.1 2) → wp_X1_clear v0_6 (fun u_2 => Q x_1 u_2)
set_option maxHeartbeats 4000000 in
set_option maxRecDepth 100000 in
theorem c_X8_forget (l : Launch) (D : GG) (cI cJ cZ cS : ClassId) (a0 : Nat) (r0 : Nat → Nat) (v0 : Vl) (r0_6 : Nat → Nat) (v0_6 : Vl)  (Q : Int32 → Vl → Prop) (h : wp_X8_forget v0 v0_6 Q) : Mi l D (tyL cI cJ cZ cS) yX8_forget cX8_forget 2 .int 1 20 [.ref a0] (List.flatten [bX8 cI cJ cZ a0 r0 v0, bX1 cI cJ cZ (r0 6) r0_6 v0_6]) (fun (r : Int32) (u : Vl) => Q r u) (fun (u : Vl) => List.flatten [bX8 cI cJ cZ a0 r0 v0, bX1 cI cJ cZ (r0 6) r0_6 u]) := by
  refine Mi_of RX8 [(0, .ref a0)] (by decide +kernel) rfl rfl (Nat.le_of_ble_eq_true rfl) ?_
  intro p e s m args below meth c A C hr hk
  refine J_aload_n C 1 dX8_forget_0 rfl rfl ?_
  refine J_get C 4 8 inlX8 0 6 rfl rfl (by decide) wd45 rfl rfl dX8_forget_1 rfl ?_
  refine J_getN C 7 1 inlX1 1 2 rfl rfl (by decide) (mi 9 rfl) rfl rfl dX8_forget_4 rfl ?_
  obtain ⟨x_1, ex_1⟩ : ∃ z : Int32, z = (v0_6.1 2) := ⟨_, rfl⟩
  have h := h x_1 ex_1
  refine J_nmi ex_1 ?_
  refine J_istore_n C 8 [(1, .int x_1), (0, .ref a0)] dX8_forget_7 rfl (by decide) rfl ?_
  refine J_aload_n C 9 dX8_forget_8 rfl rfl ?_
  refine J_get C 12 8 inlX8 0 6 rfl rfl (by decide) wd45 rfl rfl dX8_forget_9 rfl ?_
  refine J_callBvV (Bs := [bX8 cI cJ cZ a0 r0 v0, bX1 cI cJ cZ (r0 6) r0_6 v0_6]) (As := []) C 15 (c_X1_clear l D cI cJ cZ cS (r0 6) r0_6 v0_6 _ h) wd384 wd381 wd44 wd382 wd383 1 0 rfl rfl rfl hdX1_clear ⟨Nat.le_of_ble_eq_true rfl, Nat.le_of_ble_eq_true rfl⟩ ⟨Nat.zero_le _, Nat.zero_le _⟩ rfl (Nat.le_of_ble_eq_true rfl) [1] [0] 2 rfl (by decide +kernel) rfl rfl (fun (u : Vl) => [bX1 cI cJ cZ (r0 6) r0_6 u]) (fun _ => rfl) [1, 0] (by decide +kernel) (fun _ => rfl) rfl (fun (u : Vl) => [bX8 cI cJ cZ a0 r0 v0, bX1 cI cJ cZ (r0 6) r0_6 u]) (fun _ => rfl) dX8_forget_12 rfl (fun u h => ?_)
  obtain ⟨u_2, hu⟩ : ∃ z, z = u := ⟨_, rfl⟩
  subst hu
  refine J_iload_n C 16 dX8_forget_15 rfl rfl ?_
  exact J_iret C hr hk u_2 rfl dX8_forget_16 h
def wp_X8_out_c107 (v0 : Vl) (v0_6 : Vl) (v0_9 : Vl) (Q : Int32 → Prop) (B54 : Int32 → Int32 → Int32 → Int32 → Int32 → Int32 → Int32 → Prop) (y1 : Int32) (y2 : Int32) (y3 : Int32) (y4 : Int32) (y5 : Int32) (y6 : Int32) (y7 : Int32) : Prop := ∀ x_3 : Int32, x_3 = y7 + 1 → B54 y1 y2 y3 y4 y5 y6 x_3
set_option maxHeartbeats 4000000 in
set_option maxRecDepth 100000 in
theorem wk_X8_out_c107 {p : Program} {l : Launch} {e : Env} {s : State} {m : MethodId} {args : Array Value} {below : List Frame} {meth : Method} {c : Code} {D : GG} {A : Nat → Prop} {cI cJ cZ cS : ClassId} {a0 : Nat} {r0 : Nat → Nat} {r0_6 : Nat → Nat} {r0_9 : Nat → Nat} {v0 : Vl} {v0_6 : Vl} {v0_9 : Vl} {B54 : Int32 → Int32 → Int32 → Int32 → Int32 → Int32 → Int32 → Prop} {Q : Int32 → Prop} (C : Cx p s m args c D (tyL cI cJ cZ cS) A RX8 cX8_out 8) (hr : meth.sig.returnType = some .int) (hk : meth.locks = false) (hB54 : ∀ (y1 : Int32) (y2 : Int32) (y3 : Int32) (y4 : Int32) (y5 : Int32) (y6 : Int32) (y7 : Int32), B54 y1 y2 y3 y4 y5 y6 y7 → J p l e (rmk 2 45) s m args below meth c D A 8 0 0 (MQ below (va_Qi (fun (r : Int32) (u : Unit) => Q r) (fun u t => va_P D.1 vwCl ((fun (u : Unit) => List.flatten [bX8 cI cJ cZ a0 r0 v0, bX1 cI cJ cZ (r0 6) r0_6 v0_6, bX3 cI cJ cZ (r0 9) r0_9 v0_9]) u) t.heap ∧ va_D A ((fun (u : Unit) => List.flatten [bX8 cI cJ cZ a0 r0 v0, bX1 cI cJ cZ (r0 6) r0_6 v0_6, bX3 cI cJ cZ (r0 9) r0_9 v0_9]) u)) A) args s 0 0 A) 54 [(0, .ref a0), (1, .int y1), (2, .int y2), (3, .int y3), (4, .int y4), (5, .int y5), (6, .int y6), (7, .int y7)] [] (List.flatten [bX8 cI cJ cZ a0 r0 v0, bX1 cI cJ cZ (r0 6) r0_6 v0_6, bX3 cI cJ cZ (r0 9) r0_9 v0_9])) : ∀ (y1 : Int32) (y2 : Int32) (y3 : Int32) (y4 : Int32) (y5 : Int32) (y6 : Int32) (y7 : Int32), wp_X8_out_c107 v0 v0_6 v0_9 Q B54 y1 y2 y3 y4 y5 y6 y7 → J p l e (rmk 2 45) s m args below meth c D A 8 0 0 (MQ below (va_Qi (fun (r : Int32) (u : Unit) => Q r) (fun u t => va_P D.1 vwCl ((fun (u : Unit) => List.flatten [bX8 cI cJ cZ a0 r0 v0, bX1 cI cJ cZ (r0 6) r0_6 v0_6, bX3 cI cJ cZ (r0 9) r0_9 v0_9]) u) t.heap ∧ va_D A ((fun (u : Unit) => List.flatten [bX8 cI cJ cZ a0 r0 v0, bX1 cI cJ cZ (r0 6) r0_6 v0_6, bX3 cI cJ cZ (r0 9) r0_9 v0_9]) u)) A) args s 0 0 A) 107 [(0, .ref a0), (1, .int y1), (2, .int y2), (3, .int y3), (4, .int y4), (5, .int y5), (6, .int y6), (7, .int y7)] [] (List.flatten [bX8 cI cJ cZ a0 r0 v0, bX1 cI cJ cZ (r0 6) r0_6 v0_6, bX3 cI cJ cZ (r0 9) r0_9 v0_9]) := by
  intro y1 y2 y3 y4 y5 y6 y7 h
  obtain ⟨x_3, ex_3⟩ : ∃ z : Int32, z = y7 + 1 := ⟨_, rfl⟩
  have h := h x_3 ex_3
  refine J_iinc C 110 [(7, .int x_3), (0, .ref a0), (1, .int y1), (2, .int y2), (3, .int y3), (4, .int y4), (5, .int y5), (6, .int y6)] dX8_out_107 rfl rfl ((kinc_1 _).trans ex_3.symm) (by decide) rfl ?_
  refine J_goto C 54 dX8_out_110 rfl ?_
  refine J_loc [1, 2, 3, 4, 5, 6, 7, 0] rfl ?_
  exact hB54 y1 y2 y3 y4 y5 y6 x_3 h
def wp_X8_out_c54 (v0 : Vl) (v0_6 : Vl) (v0_9 : Vl) (Q : Int32 → Prop) : Nat → Int32 → Int32 → Int32 → Int32 → Int32 → Int32 → Int32 → Prop
  | 0 => fun _ _ _ _ _ _ _ => False
  | n + 1 => fun y1 y2 y3 y4 y5 y6 y7 => (((1 <<< ((v0_9.1 7) &&& 31)) ≤ y7 → ((¬ y3 = 0 → ((¬ y4 = 0 → ((¬ y3 = 1 → Q y6) ∧ (y3 = 1 → Q y5))) ∧ (y4 = 0 → Q (-1)))) ∧ (y3 = 0 → Q y4))) ∧ (¬ (1 <<< ((v0_9.1 7) &&& 31)) ≤ y7 → wp_J6_bitCount_0f7a4 y7 (fun r_2 => ((¬ r_2 = y1 → wp_X8_out_c107 v0 v0_6 v0_9 Q (wp_X8_out_c54 v0 v0_6 v0_9 Q n) y1 y2 y3 y4 y5 y6 y7) ∧ (r_2 = y1 → wp_X1_wrongWith v0_6 y7 (fun r_4 => ((y2 < r_4 → wp_X8_out_c107 v0 v0_6 v0_9 Q (wp_X8_out_c54 v0 v0_6 v0_9 Q n) y1 y2 y3 y4 y5 y6 y7) ∧ (¬ y2 < r_4 → ∀ x_5 : Int32, x_5 = y4 + 1 → ∀ x_6 : Int32, x_6 = (y5 &&& y7) → ∀ x_7 : Int32, x_7 = (y6 ||| y7) → wp_X8_out_c107 v0 v0_6 v0_9 Q (wp_X8_out_c54 v0 v0_6 v0_9 Q n) y1 y2 y3 x_5 x_6 x_7 y7))))))))
set_option maxHeartbeats 4000000 in
set_option maxRecDepth 100000 in
theorem wk_X8_out_c54 {p : Program} {l : Launch} {e : Env} {s : State} {m : MethodId} {args : Array Value} {below : List Frame} {meth : Method} {c : Code} {D : GG} {A : Nat → Prop} {cI cJ cZ cS : ClassId} {a0 : Nat} {r0 : Nat → Nat} {r0_6 : Nat → Nat} {r0_9 : Nat → Nat} {v0 : Vl} {v0_6 : Vl} {v0_9 : Vl} {Q : Int32 → Prop} (C : Cx p s m args c D (tyL cI cJ cZ cS) A RX8 cX8_out 8) (hr : meth.sig.returnType = some .int) (hk : meth.locks = false) : ∀ (n : Nat) (y1 : Int32) (y2 : Int32) (y3 : Int32) (y4 : Int32) (y5 : Int32) (y6 : Int32) (y7 : Int32), wp_X8_out_c54 v0 v0_6 v0_9 Q n y1 y2 y3 y4 y5 y6 y7 → J p l e (rmk 2 45) s m args below meth c D A 8 0 0 (MQ below (va_Qi (fun (r : Int32) (u : Unit) => Q r) (fun u t => va_P D.1 vwCl ((fun (u : Unit) => List.flatten [bX8 cI cJ cZ a0 r0 v0, bX1 cI cJ cZ (r0 6) r0_6 v0_6, bX3 cI cJ cZ (r0 9) r0_9 v0_9]) u) t.heap ∧ va_D A ((fun (u : Unit) => List.flatten [bX8 cI cJ cZ a0 r0 v0, bX1 cI cJ cZ (r0 6) r0_6 v0_6, bX3 cI cJ cZ (r0 9) r0_9 v0_9]) u)) A) args s 0 0 A) 54 [(0, .ref a0), (1, .int y1), (2, .int y2), (3, .int y3), (4, .int y4), (5, .int y5), (6, .int y6), (7, .int y7)] [] (List.flatten [bX8 cI cJ cZ a0 r0 v0, bX1 cI cJ cZ (r0 6) r0_6 v0_6, bX3 cI cJ cZ (r0 9) r0_9 v0_9]) := by
  intro n
  induction n with
  | zero =>
    intro y1 y2 y3 y4 y5 y6 y7 h
    exact False.elim h
  | succ n ih =>
    intro y1 y2 y3 y4 y5 y6 y7 h
    refine J_iload C 56 dX8_out_54 rfl rfl ?_
    refine J_iconst C 57 dX8_out_56 rfl ki_1 ?_
    refine J_aload_n C 58 dX8_out_57 rfl rfl ?_
    refine J_get C 61 8 inlX8 0 9 rfl rfl (by decide) wd20 rfl rfl dX8_out_58 rfl ?_
    refine J_getN C 64 3 inlX3 4 7 rfl rfl (by decide) (mi 0 rfl) rfl rfl dX8_out_61 rfl ?_
    refine J_ishl C 65 dX8_out_64 rfl ?_
    refine J_icmp_ge C 68 113 dX8_out_65 rfl rfl (fun c => ?_) (fun c => ?_)
    · have h := h.1 c
      refine J_iload_n C 114 dX8_out_113 rfl rfl ?_
      refine J_if_ne C 117 120 dX8_out_114 rfl rfl (fun c => ?_) (fun c => ?_)
      · have h := h.1 c
        refine J_iload C 122 dX8_out_120 rfl rfl ?_
        refine J_if_ne C 125 127 dX8_out_122 rfl rfl (fun c => ?_) (fun c => ?_)
        · have h := h.1 c
          refine J_iload_n C 128 dX8_out_127 rfl rfl ?_
          refine J_iconst C 129 dX8_out_128 rfl ki_1 ?_
          refine J_icmp_ne C 132 137 dX8_out_129 rfl rfl (fun c => ?_) (fun c => ?_)
          · have h := h.1 c
            refine J_iload C 139 dX8_out_137 rfl rfl ?_
            exact J_iret C hr hk () rfl dX8_out_139 h
          · have h := h.2 c
            refine J_iload C 134 dX8_out_132 rfl rfl ?_
            refine J_goto C 139 dX8_out_134 rfl ?_
            exact J_iret C hr hk () rfl dX8_out_139 h
        · have h := h.2 c
          refine J_iconst C 126 dX8_out_125 rfl ki_m1 ?_
          exact J_iret C hr hk () rfl dX8_out_126 h
      · have h := h.2 c
        refine J_iload C 119 dX8_out_117 rfl rfl ?_
        exact J_iret C hr hk () rfl dX8_out_119 h
    · have h := h.2 c
      refine J_iload C 70 dX8_out_68 rfl rfl ?_
      refine J_callBiS (Bs := [bX8 cI cJ cZ a0 r0 v0, bX1 cI cJ cZ (r0 6) r0_6 v0_6, bX3 cI cJ cZ (r0 9) r0_9 v0_9]) (As := [.int y7]) C 73 (c_J6_bitCount_0f7a4 l D cI cJ cZ cS y7 _ h) wd957 wd954 wd956 wd955 hdJ6_bitCount_0f7a4 ⟨Nat.le_of_ble_eq_true rfl, Nat.le_of_ble_eq_true rfl⟩ ⟨Nat.zero_le _, Nat.zero_le _⟩ rfl (Nat.le_of_ble_eq_true rfl) [] [0, 1, 2] 3 rfl (by decide +kernel) rfl rfl (fun (u : Unit) => ([] : List va_W)) (fun _ => rfl) [0, 1, 2] (by decide +kernel) (fun _ => rfl) rfl (fun (u : Unit) => [bX8 cI cJ cZ a0 r0 v0, bX1 cI cJ cZ (r0 6) r0_6 v0_6, bX3 cI cJ cZ (r0 9) r0_9 v0_9]) (fun _ => rfl) dX8_out_70 rfl (fun r_2 u h => ?_)
      refine J_iload_n C 74 dX8_out_73 rfl rfl ?_
      refine J_icmp_ne C 77 107 dX8_out_74 rfl rfl (fun c => ?_) (fun c => ?_)
      · have h := h.1 c
        refine J_loc [0, 1, 2, 3, 4, 5, 6, 7] rfl ?_
        exact wk_X8_out_c107 C hr hk ih y1 y2 y3 y4 y5 y6 y7 h
      · have h := h.2 c
        refine J_aload_n C 78 dX8_out_77 rfl rfl ?_
        refine J_get C 81 8 inlX8 0 6 rfl rfl (by decide) wd45 rfl rfl dX8_out_78 rfl ?_
        refine J_iload C 83 dX8_out_81 rfl rfl ?_
        refine J_callBiV (Bs := [bX8 cI cJ cZ a0 r0 v0, bX1 cI cJ cZ (r0 6) r0_6 v0_6, bX3 cI cJ cZ (r0 9) r0_9 v0_9]) (As := [.int y7]) C 86 (c_X1_wrongWith l D cI cJ cZ cS (r0 6) r0_6 v0_6 y7 _ h) wd964 wd961 wd44 wd962 wd963 1 0 rfl rfl rfl hdX1_wrongWith ⟨Nat.le_of_ble_eq_true rfl, Nat.le_of_ble_eq_true rfl⟩ ⟨Nat.zero_le _, Nat.zero_le _⟩ rfl (Nat.le_of_ble_eq_true rfl) [1] [0, 2] 3 rfl (by decide +kernel) rfl rfl (fun (u : Unit) => [bX1 cI cJ cZ (r0 6) r0_6 v0_6]) (fun _ => rfl) [1, 0, 2] (by decide +kernel) (fun _ => rfl) rfl (fun (u : Unit) => [bX8 cI cJ cZ a0 r0 v0, bX1 cI cJ cZ (r0 6) r0_6 v0_6, bX3 cI cJ cZ (r0 9) r0_9 v0_9]) (fun _ => rfl) dX8_out_83 rfl (fun r_4 u h => ?_)
        refine J_iload_n C 87 dX8_out_86 rfl rfl ?_
        refine J_icmp_gt C 90 107 dX8_out_87 rfl rfl (fun c => ?_) (fun c => ?_)
        · have h := h.1 c
          refine J_loc [0, 1, 2, 3, 4, 5, 6, 7] rfl ?_
          exact wk_X8_out_c107 C hr hk ih y1 y2 y3 y4 y5 y6 y7 h
        · have h := h.2 c
          obtain ⟨x_5, ex_5⟩ : ∃ z : Int32, z = y4 + 1 := ⟨_, rfl⟩
          have h := h x_5 ex_5
          refine J_iinc C 93 [(4, .int x_5), (0, .ref a0), (1, .int y1), (2, .int y2), (3, .int y3), (5, .int y5), (6, .int y6), (7, .int y7)] dX8_out_90 rfl rfl ((kinc_1 _).trans ex_5.symm) (by decide) rfl ?_
          refine J_iload C 95 dX8_out_93 rfl rfl ?_
          refine J_iload C 97 dX8_out_95 rfl rfl ?_
          refine J_iand C 98 dX8_out_97 rfl ?_
          obtain ⟨x_6, ex_6⟩ : ∃ z : Int32, z = (y5 &&& y7) := ⟨_, rfl⟩
          have h := h x_6 ex_6
          refine J_nmi ex_6 ?_
          refine J_istore C 100 [(5, .int x_6), (4, .int x_5), (0, .ref a0), (1, .int y1), (2, .int y2), (3, .int y3), (6, .int y6), (7, .int y7)] dX8_out_98 rfl (by decide) rfl ?_
          refine J_iload C 102 dX8_out_100 rfl rfl ?_
          refine J_iload C 104 dX8_out_102 rfl rfl ?_
          refine J_ior C 105 dX8_out_104 rfl ?_
          obtain ⟨x_7, ex_7⟩ : ∃ z : Int32, z = (y6 ||| y7) := ⟨_, rfl⟩
          have h := h x_7 ex_7
          refine J_nmi ex_7 ?_
          refine J_istore C 107 [(6, .int x_7), (5, .int x_6), (4, .int x_5), (0, .ref a0), (1, .int y1), (2, .int y2), (3, .int y3), (7, .int y7)] dX8_out_105 rfl (by decide) rfl ?_
          refine J_loc [3, 4, 5, 6, 2, 1, 0, 7] rfl ?_
          exact wk_X8_out_c107 C hr hk ih y1 y2 y3 x_5 x_6 x_7 y7 h
def wp_X8_out (v0 : Vl) (v0_6 : Vl) (v0_9 : Vl) (x1 : Int32) (x2 : Int32) (x3 : Int32) (Q : Int32 → Prop) : Prop := ((x1 < 0 → Q (-1000000002)) ∧ (¬ x1 < 0 → ((9 < x1 → Q (-1000000002)) ∧ (¬ 9 < x1 → ((x2 < 0 → Q (-1000000002)) ∧ (¬ x2 < 0 → ((12 < x2 → Q (-1000000002)) ∧ (¬ 12 < x2 → ((x3 < 0 → Q (-1000000002)) ∧ (¬ x3 < 0 → ((x3 ≤ 2 → ∀ x_1 : Int32, x_1 = ((1 <<< ((v0_9.1 7) &&& 31)) - 1) → (∃ k : Nat, wp_X8_out_c54 v0 v0_6 v0_9 Q k x1 x2 x3 0 x_1 0 0)) ∧ (¬ x3 ≤ 2 → Q (-1000000002)))))))))))))
set_option maxHeartbeats 4000000 in
set_option maxRecDepth 100000 in
theorem c_X8_out (l : Launch) (D : GG) (cI cJ cZ cS : ClassId) (a0 : Nat) (r0 : Nat → Nat) (v0 : Vl) (r0_6 : Nat → Nat) (v0_6 : Vl) (r0_9 : Nat → Nat) (v0_9 : Vl) (x1 : Int32) (x2 : Int32) (x3 : Int32) (Q : Int32 → Prop) (h : wp_X8_out v0 v0_6 v0_9 x1 x2 x3 Q) : Mi l D (tyL cI cJ cZ cS) yX8_out cX8_out 8 .int 2 45 [.ref a0, .int x1, .int x2, .int x3] (List.flatten [bX8 cI cJ cZ a0 r0 v0, bX1 cI cJ cZ (r0 6) r0_6 v0_6, bX3 cI cJ cZ (r0 9) r0_9 v0_9]) (fun (r : Int32) (u : Unit) => Q r) (fun (u : Unit) => List.flatten [bX8 cI cJ cZ a0 r0 v0, bX1 cI cJ cZ (r0 6) r0_6 v0_6, bX3 cI cJ cZ (r0 9) r0_9 v0_9]) := by
  refine Mi_of RX8 [(0, .ref a0), (1, .int x1), (2, .int x2), (3, .int x3)] (by decide +kernel) rfl rfl (Nat.le_of_ble_eq_true rfl) ?_
  intro p e s m args below meth c A C hr hk
  refine J_iload_n C 1 dX8_out_0 rfl rfl ?_
  refine J_if_lt C 4 29 dX8_out_1 rfl rfl (fun c => ?_) (fun c => ?_)
  · have h := h.1 c
    refine J_ldc C 31 wd207 dX8_out_29 rfl ?_
    exact J_iret C hr hk () rfl dX8_out_31 h
  · have h := h.2 c
    refine J_iload_n C 5 dX8_out_4 rfl rfl ?_
    refine J_bipush C 7 dX8_out_5 rfl kb_9 ?_
    refine J_icmp_gt C 10 29 dX8_out_7 rfl rfl (fun c => ?_) (fun c => ?_)
    · have h := h.1 c
      refine J_ldc C 31 wd207 dX8_out_29 rfl ?_
      exact J_iret C hr hk () rfl dX8_out_31 h
    · have h := h.2 c
      refine J_iload_n C 11 dX8_out_10 rfl rfl ?_
      refine J_if_lt C 14 29 dX8_out_11 rfl rfl (fun c => ?_) (fun c => ?_)
      · have h := h.1 c
        refine J_ldc C 31 wd207 dX8_out_29 rfl ?_
        exact J_iret C hr hk () rfl dX8_out_31 h
      · have h := h.2 c
        refine J_iload_n C 15 dX8_out_14 rfl rfl ?_
        refine J_bipush C 17 dX8_out_15 rfl kb_12 ?_
        refine J_icmp_gt C 20 29 dX8_out_17 rfl rfl (fun c => ?_) (fun c => ?_)
        · have h := h.1 c
          refine J_ldc C 31 wd207 dX8_out_29 rfl ?_
          exact J_iret C hr hk () rfl dX8_out_31 h
        · have h := h.2 c
          refine J_iload_n C 21 dX8_out_20 rfl rfl ?_
          refine J_if_lt C 24 29 dX8_out_21 rfl rfl (fun c => ?_) (fun c => ?_)
          · have h := h.1 c
            refine J_ldc C 31 wd207 dX8_out_29 rfl ?_
            exact J_iret C hr hk () rfl dX8_out_31 h
          · have h := h.2 c
            refine J_iload_n C 25 dX8_out_24 rfl rfl ?_
            refine J_iconst C 26 dX8_out_25 rfl ki_2 ?_
            refine J_icmp_le C 29 32 dX8_out_26 rfl rfl (fun c => ?_) (fun c => ?_)
            · have h := h.1 c
              refine J_iconst C 33 dX8_out_32 rfl ki_0 ?_
              refine J_istore C 35 [(4, .int 0), (0, .ref a0), (1, .int x1), (2, .int x2), (3, .int x3)] dX8_out_33 rfl (by decide) rfl ?_
              refine J_iconst C 36 dX8_out_35 rfl ki_1 ?_
              refine J_aload_n C 37 dX8_out_36 rfl rfl ?_
              refine J_get C 40 8 inlX8 0 9 rfl rfl (by decide) wd20 rfl rfl dX8_out_37 rfl ?_
              refine J_getN C 43 3 inlX3 4 7 rfl rfl (by decide) (mi 0 rfl) rfl rfl dX8_out_40 rfl ?_
              refine J_ishl C 44 dX8_out_43 rfl ?_
              refine J_iconst C 45 dX8_out_44 rfl ki_1 ?_
              refine J_isub C 46 dX8_out_45 rfl ?_
              obtain ⟨x_1, ex_1⟩ : ∃ z : Int32, z = ((1 <<< ((v0_9.1 7) &&& 31)) - 1) := ⟨_, rfl⟩
              have h := h x_1 ex_1
              refine J_nmi ex_1 ?_
              refine J_istore C 48 [(5, .int x_1), (4, .int 0), (0, .ref a0), (1, .int x1), (2, .int x2), (3, .int x3)] dX8_out_46 rfl (by decide) rfl ?_
              refine J_iconst C 49 dX8_out_48 rfl ki_0 ?_
              refine J_istore C 51 [(6, .int 0), (5, .int x_1), (4, .int 0), (0, .ref a0), (1, .int x1), (2, .int x2), (3, .int x3)] dX8_out_49 rfl (by decide) rfl ?_
              refine J_iconst C 52 dX8_out_51 rfl ki_0 ?_
              refine J_istore C 54 [(7, .int 0), (6, .int 0), (5, .int x_1), (4, .int 0), (0, .ref a0), (1, .int x1), (2, .int x2), (3, .int x3)] dX8_out_52 rfl (by decide) rfl ?_
              refine J_loc [4, 5, 6, 7, 3, 2, 1, 0] rfl ?_
              obtain ⟨n1, h⟩ := h
              exact wk_X8_out_c54 C hr hk n1 x1 x2 x3 0 x_1 0 0 h
            · have h := h.2 c
              refine J_ldc C 31 wd207 dX8_out_29 rfl ?_
              exact J_iret C hr hk () rfl dX8_out_31 h
def wp_X8_write (v0 : Vl) (v0_7 : Vl) (v0_9 : Vl) (x1 : Int32) (x2 : Int32) (Q : Int32 → Vl → Prop) : Prop := wp_X8_isNoLight v0 v0_9 x1 (fun r_1 => ((r_1 = 0 → ((x2 < 0 → Q (-1000000002) v0_7) ∧ (¬ x2 < 0 → ((x2 ≤ 99999 → wp_X0_pagesOf v0_7 x1 (fun r_2 => ((r_2 < 40 → wp_X0_add v0_7 x1 x2 (fun u_3 => wp_X0_pagesOf u_3 x1 (fun r_4 => Q r_4 u_3))) ∧ (¬ r_2 < 40 → Q (-1000000004) v0_7)))) ∧ (¬ x2 ≤ 99999 → Q (-1000000002) v0_7))))) ∧ (¬ r_1 = 0 → Q (-1000000001) v0_7)))
set_option maxHeartbeats 4000000 in
set_option maxRecDepth 100000 in
theorem c_X8_write (l : Launch) (D : GG) (cI cJ cZ cS : ClassId) (a0 : Nat) (r0 : Nat → Nat) (v0 : Vl) (r0_7 : Nat → Nat) (v0_7 : Vl) (r0_9 : Nat → Nat) (v0_9 : Vl) (x1 : Int32) (x2 : Int32) (Q : Int32 → Vl → Prop) (h : wp_X8_write v0 v0_7 v0_9 x1 x2 Q) : Mi l D (tyL cI cJ cZ cS) yX8_write cX8_write 3 .int 3 64 [.ref a0, .int x1, .int x2] (List.flatten [bX8 cI cJ cZ a0 r0 v0, bX0 cI cJ cZ (r0 7) r0_7 v0_7, bX3 cI cJ cZ (r0 9) r0_9 v0_9]) (fun (r : Int32) (u : Vl) => Q r u) (fun (u : Vl) => List.flatten [bX8 cI cJ cZ a0 r0 v0, bX0 cI cJ cZ (r0 7) r0_7 u, bX3 cI cJ cZ (r0 9) r0_9 v0_9]) := by
  refine Mi_of RX8 [(0, .ref a0), (1, .int x1), (2, .int x2)] (by decide +kernel) rfl rfl (Nat.le_of_ble_eq_true rfl) ?_
  intro p e s m args below meth c A C hr hk
  refine J_aload_n C 1 dX8_write_0 rfl rfl ?_
  refine J_iload_n C 2 dX8_write_1 rfl rfl ?_
  refine J_callBiV (Bs := [bX8 cI cJ cZ a0 r0 v0, bX0 cI cJ cZ (r0 7) r0_7 v0_7, bX3 cI cJ cZ (r0 9) r0_9 v0_9]) (As := [.int x1]) C 5 (c_X8_isNoLight l D cI cJ cZ cS a0 r0 v0 r0_9 v0_9 x1 _ h) wd542 wd539 wd2 wd540 wd541 8 0 rfl rfl rfl hdX8_isNoLight ⟨Nat.le_of_ble_eq_true rfl, Nat.le_of_ble_eq_true rfl⟩ ⟨Nat.zero_le _, Nat.zero_le _⟩ rfl (Nat.le_of_ble_eq_true rfl) [0, 2] [1] 3 rfl (by decide +kernel) rfl rfl (fun (u : Unit) => [bX8 cI cJ cZ a0 r0 v0, bX3 cI cJ cZ (r0 9) r0_9 v0_9]) (fun _ => rfl) [0, 2, 1] (by decide +kernel) (fun _ => rfl) rfl (fun (u : Unit) => [bX8 cI cJ cZ a0 r0 v0, bX0 cI cJ cZ (r0 7) r0_7 v0_7, bX3 cI cJ cZ (r0 9) r0_9 v0_9]) (fun _ => rfl) dX8_write_2 rfl (fun r_1 u h => ?_)
  refine J_if_eq C 8 11 dX8_write_5 rfl rfl (fun c => ?_) (fun c => ?_)
  · have h := h.1 c
    refine J_iload_n C 12 dX8_write_11 rfl rfl ?_
    refine J_if_lt C 15 21 dX8_write_12 rfl rfl (fun c => ?_) (fun c => ?_)
    · have h := h.1 c
      refine J_ldc C 23 wd207 dX8_write_21 rfl ?_
      exact J_iret C hr hk v0_7 rfl dX8_write_23 h
    · have h := h.2 c
      refine J_iload_n C 16 dX8_write_15 rfl rfl ?_
      refine J_ldc C 18 wd828 dX8_write_16 rfl ?_
      refine J_icmp_le C 21 24 dX8_write_18 rfl rfl (fun c => ?_) (fun c => ?_)
      · have h := h.1 c
        refine J_aload_n C 25 dX8_write_24 rfl rfl ?_
        refine J_get C 28 8 inlX8 0 7 rfl rfl (by decide) wd49 rfl rfl dX8_write_25 rfl ?_
        refine J_iload_n C 29 dX8_write_28 rfl rfl ?_
        refine J_callBiV (Bs := [bX8 cI cJ cZ a0 r0 v0, bX0 cI cJ cZ (r0 7) r0_7 v0_7, bX3 cI cJ cZ (r0 9) r0_9 v0_9]) (As := [.int x1]) C 32 (c_X0_pagesOf l D cI cJ cZ cS (r0 7) r0_7 v0_7 x1 _ h) wd985 wd982 wd48 wd983 wd984 0 0 rfl rfl rfl hdX0_pagesOf ⟨Nat.le_of_ble_eq_true rfl, Nat.le_of_ble_eq_true rfl⟩ ⟨Nat.zero_le _, Nat.zero_le _⟩ rfl (Nat.le_of_ble_eq_true rfl) [1] [0, 2] 3 rfl (by decide +kernel) rfl rfl (fun (u : Unit) => [bX0 cI cJ cZ (r0 7) r0_7 v0_7]) (fun _ => rfl) [1, 0, 2] (by decide +kernel) (fun _ => rfl) rfl (fun (u : Unit) => [bX8 cI cJ cZ a0 r0 v0, bX0 cI cJ cZ (r0 7) r0_7 v0_7, bX3 cI cJ cZ (r0 9) r0_9 v0_9]) (fun _ => rfl) dX8_write_29 rfl (fun r_2 u h => ?_)
        refine J_bipush C 34 dX8_write_32 rfl kb_40 ?_
        refine J_icmp_lt C 37 40 dX8_write_34 rfl rfl (fun c => ?_) (fun c => ?_)
        · have h := h.1 c
          refine J_aload_n C 41 dX8_write_40 rfl rfl ?_
          refine J_get C 44 8 inlX8 0 7 rfl rfl (by decide) wd49 rfl rfl dX8_write_41 rfl ?_
          refine J_iload_n C 45 dX8_write_44 rfl rfl ?_
          refine J_iload_n C 46 dX8_write_45 rfl rfl ?_
          refine J_callBvV (Bs := [bX8 cI cJ cZ a0 r0 v0, bX0 cI cJ cZ (r0 7) r0_7 v0_7, bX3 cI cJ cZ (r0 9) r0_9 v0_9]) (As := [.int x1, .int x2]) C 49 (c_X0_add l D cI cJ cZ cS (r0 7) r0_7 v0_7 x1 x2 _ h) wd989 wd986 wd48 wd987 wd988 0 0 rfl rfl rfl hdX0_add ⟨Nat.le_of_ble_eq_true rfl, Nat.le_of_ble_eq_true rfl⟩ ⟨Nat.zero_le _, Nat.zero_le _⟩ rfl (Nat.le_of_ble_eq_true rfl) [1] [0, 2] 3 rfl (by decide +kernel) rfl rfl (fun (u : Vl) => [bX0 cI cJ cZ (r0 7) r0_7 u]) (fun _ => rfl) [1, 0, 2] (by decide +kernel) (fun _ => rfl) rfl (fun (u : Vl) => [bX8 cI cJ cZ a0 r0 v0, bX0 cI cJ cZ (r0 7) r0_7 u, bX3 cI cJ cZ (r0 9) r0_9 v0_9]) (fun _ => rfl) dX8_write_46 rfl (fun u h => ?_)
          obtain ⟨u_3, hu⟩ : ∃ z, z = u := ⟨_, rfl⟩
          subst hu
          refine J_aload_n C 50 dX8_write_49 rfl rfl ?_
          refine J_get C 53 8 inlX8 0 7 rfl rfl (by decide) wd49 rfl rfl dX8_write_50 rfl ?_
          refine J_iload_n C 54 dX8_write_53 rfl rfl ?_
          refine J_callBiV (Bs := [bX8 cI cJ cZ a0 r0 v0, bX0 cI cJ cZ (r0 7) r0_7 u_3, bX3 cI cJ cZ (r0 9) r0_9 v0_9]) (As := [.int x1]) C 57 (c_X0_pagesOf l D cI cJ cZ cS (r0 7) r0_7 u_3 x1 _ h) wd985 wd982 wd48 wd983 wd984 0 0 rfl rfl rfl hdX0_pagesOf ⟨Nat.le_of_ble_eq_true rfl, Nat.le_of_ble_eq_true rfl⟩ ⟨Nat.zero_le _, Nat.zero_le _⟩ rfl (Nat.le_of_ble_eq_true rfl) [1] [0, 2] 3 rfl (by decide +kernel) rfl rfl (fun (u : Unit) => [bX0 cI cJ cZ (r0 7) r0_7 u_3]) (fun _ => rfl) [1, 0, 2] (by decide +kernel) (fun _ => rfl) rfl (fun (u : Unit) => [bX8 cI cJ cZ a0 r0 v0, bX0 cI cJ cZ (r0 7) r0_7 u_3, bX3 cI cJ cZ (r0 9) r0_9 v0_9]) (fun _ => rfl) dX8_write_54 rfl (fun r_4 u h => ?_)
          exact J_iret C hr hk u_3 rfl dX8_write_57 h
        · have h := h.2 c
          refine J_ldc C 39 wd208 dX8_write_37 rfl ?_
          exact J_iret C hr hk v0_7 rfl dX8_write_39 h
      · have h := h.2 c
        refine J_ldc C 23 wd207 dX8_write_21 rfl ?_
        exact J_iret C hr hk v0_7 rfl dX8_write_23 h
  · have h := h.2 c
    refine J_ldc C 10 wd538 dX8_write_8 rfl ?_
    exact J_iret C hr hk v0_7 rfl dX8_write_10 h
def wp_X8_tear (v0 : Vl) (v0_7 : Vl) (v0_9 : Vl) (x1 : Int32) (Q : Int32 → Vl → Prop) : Prop := wp_X8_isNoLight v0 v0_9 x1 (fun r_1 => ((r_1 = 0 → wp_X0_pagesOf v0_7 x1 (fun r_2 => wp_X0_empty v0_7 x1 (fun u_3 => Q r_2 u_3))) ∧ (¬ r_1 = 0 → Q (-1000000001) v0_7)))
set_option maxHeartbeats 4000000 in
set_option maxRecDepth 100000 in
theorem c_X8_tear (l : Launch) (D : GG) (cI cJ cZ cS : ClassId) (a0 : Nat) (r0 : Nat → Nat) (v0 : Vl) (r0_7 : Nat → Nat) (v0_7 : Vl) (r0_9 : Nat → Nat) (v0_9 : Vl) (x1 : Int32) (Q : Int32 → Vl → Prop) (h : wp_X8_tear v0 v0_7 v0_9 x1 Q) : Mi l D (tyL cI cJ cZ cS) yX8_tear cX8_tear 3 .int 2 43 [.ref a0, .int x1] (List.flatten [bX8 cI cJ cZ a0 r0 v0, bX0 cI cJ cZ (r0 7) r0_7 v0_7, bX3 cI cJ cZ (r0 9) r0_9 v0_9]) (fun (r : Int32) (u : Vl) => Q r u) (fun (u : Vl) => List.flatten [bX8 cI cJ cZ a0 r0 v0, bX0 cI cJ cZ (r0 7) r0_7 u, bX3 cI cJ cZ (r0 9) r0_9 v0_9]) := by
  refine Mi_of RX8 [(0, .ref a0), (1, .int x1)] (by decide +kernel) rfl rfl (Nat.le_of_ble_eq_true rfl) ?_
  intro p e s m args below meth c A C hr hk
  refine J_aload_n C 1 dX8_tear_0 rfl rfl ?_
  refine J_iload_n C 2 dX8_tear_1 rfl rfl ?_
  refine J_callBiV (Bs := [bX8 cI cJ cZ a0 r0 v0, bX0 cI cJ cZ (r0 7) r0_7 v0_7, bX3 cI cJ cZ (r0 9) r0_9 v0_9]) (As := [.int x1]) C 5 (c_X8_isNoLight l D cI cJ cZ cS a0 r0 v0 r0_9 v0_9 x1 _ h) wd542 wd539 wd2 wd540 wd541 8 0 rfl rfl rfl hdX8_isNoLight ⟨Nat.le_of_ble_eq_true rfl, Nat.le_of_ble_eq_true rfl⟩ ⟨Nat.zero_le _, Nat.zero_le _⟩ rfl (Nat.le_of_ble_eq_true rfl) [0, 2] [1] 3 rfl (by decide +kernel) rfl rfl (fun (u : Unit) => [bX8 cI cJ cZ a0 r0 v0, bX3 cI cJ cZ (r0 9) r0_9 v0_9]) (fun _ => rfl) [0, 2, 1] (by decide +kernel) (fun _ => rfl) rfl (fun (u : Unit) => [bX8 cI cJ cZ a0 r0 v0, bX0 cI cJ cZ (r0 7) r0_7 v0_7, bX3 cI cJ cZ (r0 9) r0_9 v0_9]) (fun _ => rfl) dX8_tear_2 rfl (fun r_1 u h => ?_)
  refine J_if_eq C 8 11 dX8_tear_5 rfl rfl (fun c => ?_) (fun c => ?_)
  · have h := h.1 c
    refine J_aload_n C 12 dX8_tear_11 rfl rfl ?_
    refine J_get C 15 8 inlX8 0 7 rfl rfl (by decide) wd49 rfl rfl dX8_tear_12 rfl ?_
    refine J_iload_n C 16 dX8_tear_15 rfl rfl ?_
    refine J_callBiV (Bs := [bX8 cI cJ cZ a0 r0 v0, bX0 cI cJ cZ (r0 7) r0_7 v0_7, bX3 cI cJ cZ (r0 9) r0_9 v0_9]) (As := [.int x1]) C 19 (c_X0_pagesOf l D cI cJ cZ cS (r0 7) r0_7 v0_7 x1 _ h) wd985 wd982 wd48 wd983 wd984 0 0 rfl rfl rfl hdX0_pagesOf ⟨Nat.le_of_ble_eq_true rfl, Nat.le_of_ble_eq_true rfl⟩ ⟨Nat.zero_le _, Nat.zero_le _⟩ rfl (Nat.le_of_ble_eq_true rfl) [1] [0, 2] 3 rfl (by decide +kernel) rfl rfl (fun (u : Unit) => [bX0 cI cJ cZ (r0 7) r0_7 v0_7]) (fun _ => rfl) [1, 0, 2] (by decide +kernel) (fun _ => rfl) rfl (fun (u : Unit) => [bX8 cI cJ cZ a0 r0 v0, bX0 cI cJ cZ (r0 7) r0_7 v0_7, bX3 cI cJ cZ (r0 9) r0_9 v0_9]) (fun _ => rfl) dX8_tear_16 rfl (fun r_2 u h => ?_)
    refine J_istore_n C 20 [(2, .int r_2), (0, .ref a0), (1, .int x1)] dX8_tear_19 rfl (by decide) rfl ?_
    refine J_aload_n C 21 dX8_tear_20 rfl rfl ?_
    refine J_get C 24 8 inlX8 0 7 rfl rfl (by decide) wd49 rfl rfl dX8_tear_21 rfl ?_
    refine J_iload_n C 25 dX8_tear_24 rfl rfl ?_
    refine J_callBvV (Bs := [bX8 cI cJ cZ a0 r0 v0, bX0 cI cJ cZ (r0 7) r0_7 v0_7, bX3 cI cJ cZ (r0 9) r0_9 v0_9]) (As := [.int x1]) C 28 (c_X0_empty l D cI cJ cZ cS (r0 7) r0_7 v0_7 x1 _ h) wd393 wd999 wd48 wd391 wd392 0 0 rfl rfl rfl hdX0_empty ⟨Nat.le_of_ble_eq_true rfl, Nat.le_of_ble_eq_true rfl⟩ ⟨Nat.zero_le _, Nat.zero_le _⟩ rfl (Nat.le_of_ble_eq_true rfl) [1] [0, 2] 3 rfl (by decide +kernel) rfl rfl (fun (u : Vl) => [bX0 cI cJ cZ (r0 7) r0_7 u]) (fun _ => rfl) [1, 0, 2] (by decide +kernel) (fun _ => rfl) rfl (fun (u : Vl) => [bX8 cI cJ cZ a0 r0 v0, bX0 cI cJ cZ (r0 7) r0_7 u, bX3 cI cJ cZ (r0 9) r0_9 v0_9]) (fun _ => rfl) dX8_tear_25 rfl (fun u h => ?_)
    obtain ⟨u_3, hu⟩ : ∃ z, z = u := ⟨_, rfl⟩
    subst hu
    refine J_iload_n C 29 dX8_tear_28 rfl rfl ?_
    exact J_iret C hr hk u_3 rfl dX8_tear_29 h
  · have h := h.2 c
    refine J_ldc C 10 wd538 dX8_tear_8 rfl ?_
    exact J_iret C hr hk v0_7 rfl dX8_tear_10 h
def wp_X8_judge_c32 (v0 : Vl) (v0_1 : Vl) (v0_7 : Vl) (v0_9 : Vl) (Q : Int32 → Prop) : Nat → Int32 → Int32 → Int32 → Prop
  | 0 => fun _ _ _ => False
  | n + 1 => fun y1 y2 y3 => ((y2 ≤ y3 → Q (-1)) ∧ (¬ y2 ≤ y3 → wp_X0_oilOn v0_7 y1 y3 (fun r_4 => wp_X6_oilOn 360 v0_1 y1 y3 (fun r_5 => ((r_4 = r_5 → ∀ x_6 : Int32, x_6 = y3 + 1 → wp_X8_judge_c32 v0 v0_1 v0_7 v0_9 Q n y1 y2 x_6) ∧ (¬ r_4 = r_5 → Q y3))))))
set_option maxHeartbeats 4000000 in
set_option maxRecDepth 100000 in
theorem wk_X8_judge_c32 {p : Program} {l : Launch} {e : Env} {s : State} {m : MethodId} {args : Array Value} {below : List Frame} {meth : Method} {c : Code} {D : GG} {A : Nat → Prop} {cI cJ cZ cS : ClassId} {a0 : Nat} {r0 : Nat → Nat} {r0_1 : Nat → Nat} {r0_7 : Nat → Nat} {r0_9 : Nat → Nat} {v0 : Vl} {v0_1 : Vl} {v0_7 : Vl} {v0_9 : Vl} {Q : Int32 → Prop} (C : Cx p s m args c D (tyL cI cJ cZ cS) A RX8 cX8_judge 4) (hr : meth.sig.returnType = some .int) (hk : meth.locks = false) : ∀ (n : Nat) (y1 : Int32) (y2 : Int32) (y3 : Int32), wp_X8_judge_c32 v0 v0_1 v0_7 v0_9 Q n y1 y2 y3 → J p l e (rmk 2 43) s m args below meth c D A 4 0 0 (MQ below (va_Qi (fun (r : Int32) (u : Unit) => Q r) (fun u t => va_P D.1 vwCl ((fun (u : Unit) => List.flatten [bX8 cI cJ cZ a0 r0 v0, bX6 cI cJ cZ 360 (r0 1) r0_1 v0_1, bX0 cI cJ cZ (r0 7) r0_7 v0_7, bX3 cI cJ cZ (r0 9) r0_9 v0_9]) u) t.heap ∧ va_D A ((fun (u : Unit) => List.flatten [bX8 cI cJ cZ a0 r0 v0, bX6 cI cJ cZ 360 (r0 1) r0_1 v0_1, bX0 cI cJ cZ (r0 7) r0_7 v0_7, bX3 cI cJ cZ (r0 9) r0_9 v0_9]) u)) A) args s 0 0 A) 32 [(0, .ref a0), (1, .int y1), (2, .int y2), (3, .int y3)] [] (List.flatten [bX8 cI cJ cZ a0 r0 v0, bX6 cI cJ cZ 360 (r0 1) r0_1 v0_1, bX0 cI cJ cZ (r0 7) r0_7 v0_7, bX3 cI cJ cZ (r0 9) r0_9 v0_9]) := by
  intro n
  induction n with
  | zero =>
    intro y1 y2 y3 h
    exact False.elim h
  | succ n ih =>
    intro y1 y2 y3 h
    refine J_iload_n C 33 dX8_judge_32 rfl rfl ?_
    refine J_iload_n C 34 dX8_judge_33 rfl rfl ?_
    refine J_icmp_ge C 37 66 dX8_judge_34 rfl rfl (fun c => ?_) (fun c => ?_)
    · have h := h.1 c
      refine J_iconst C 67 dX8_judge_66 rfl ki_m1 ?_
      exact J_iret C hr hk () rfl dX8_judge_67 h
    · have h := h.2 c
      refine J_aload_n C 38 dX8_judge_37 rfl rfl ?_
      refine J_get C 41 8 inlX8 0 7 rfl rfl (by decide) wd49 rfl rfl dX8_judge_38 rfl ?_
      refine J_iload_n C 42 dX8_judge_41 rfl rfl ?_
      refine J_iload_n C 43 dX8_judge_42 rfl rfl ?_
      refine J_callBiV (Bs := [bX8 cI cJ cZ a0 r0 v0, bX6 cI cJ cZ 360 (r0 1) r0_1 v0_1, bX0 cI cJ cZ (r0 7) r0_7 v0_7, bX3 cI cJ cZ (r0 9) r0_9 v0_9]) (As := [.int y1, .int y3]) C 46 (c_X0_oilOn l D cI cJ cZ cS (r0 7) r0_7 v0_7 y1 y3 _ h) wd1011 wd1008 wd48 wd1009 wd1010 0 0 rfl rfl rfl hdX0_oilOn ⟨Nat.le_of_ble_eq_true rfl, Nat.le_of_ble_eq_true rfl⟩ ⟨Nat.zero_le _, Nat.zero_le _⟩ rfl (Nat.le_of_ble_eq_true rfl) [2] [0, 1, 3] 4 rfl (by decide +kernel) rfl rfl (fun (u : Unit) => [bX0 cI cJ cZ (r0 7) r0_7 v0_7]) (fun _ => rfl) [1, 2, 0, 3] (by decide +kernel) (fun _ => rfl) rfl (fun (u : Unit) => [bX8 cI cJ cZ a0 r0 v0, bX6 cI cJ cZ 360 (r0 1) r0_1 v0_1, bX0 cI cJ cZ (r0 7) r0_7 v0_7, bX3 cI cJ cZ (r0 9) r0_9 v0_9]) (fun _ => rfl) dX8_judge_43 rfl (fun r_4 u h => ?_)
      refine J_aload_n C 47 dX8_judge_46 rfl rfl ?_
      refine J_get C 50 8 inlX8 0 1 rfl rfl (by decide) wd30 rfl rfl dX8_judge_47 rfl ?_
      refine J_iload_n C 51 dX8_judge_50 rfl rfl ?_
      refine J_iload_n C 52 dX8_judge_51 rfl rfl ?_
      refine J_callBiV (Bs := [bX8 cI cJ cZ a0 r0 v0, bX6 cI cJ cZ 360 (r0 1) r0_1 v0_1, bX0 cI cJ cZ (r0 7) r0_7 v0_7, bX3 cI cJ cZ (r0 9) r0_9 v0_9]) (As := [.int y1, .int y3]) C 55 (c_X6_oilOn l D cI cJ cZ cS 360 (r0 1) r0_1 v0_1 y1 y3 _ h) wd1015 wd1012 wd29 wd1013 wd1014 6 0 rfl rfl rfl hdX6_oilOn ⟨Nat.le_of_ble_eq_true rfl, Nat.le_of_ble_eq_true rfl⟩ ⟨Nat.zero_le _, Nat.zero_le _⟩ rfl (Nat.le_of_ble_eq_true rfl) [1] [0, 2, 3] 4 rfl (by decide +kernel) rfl rfl (fun (u : Unit) => [bX6 cI cJ cZ 360 (r0 1) r0_1 v0_1]) (fun _ => rfl) [1, 0, 2, 3] (by decide +kernel) (fun _ => rfl) rfl (fun (u : Unit) => [bX8 cI cJ cZ a0 r0 v0, bX6 cI cJ cZ 360 (r0 1) r0_1 v0_1, bX0 cI cJ cZ (r0 7) r0_7 v0_7, bX3 cI cJ cZ (r0 9) r0_9 v0_9]) (fun _ => rfl) dX8_judge_52 rfl (fun r_5 u h => ?_)
      refine J_icmp_eq C 58 60 dX8_judge_55 rfl rfl (fun c => ?_) (fun c => ?_)
      · have h := h.1 c
        obtain ⟨x_6, ex_6⟩ : ∃ z : Int32, z = y3 + 1 := ⟨_, rfl⟩
        have h := h x_6 ex_6
        refine J_iinc C 63 [(3, .int x_6), (0, .ref a0), (1, .int y1), (2, .int y2)] dX8_judge_60 rfl rfl ((kinc_1 _).trans ex_6.symm) (by decide) rfl ?_
        refine J_goto C 32 dX8_judge_63 rfl ?_
        refine J_loc [1, 2, 3, 0] rfl ?_
        exact ih y1 y2 x_6 h
      · have h := h.2 c
        refine J_iload_n C 59 dX8_judge_58 rfl rfl ?_
        exact J_iret C hr hk () rfl dX8_judge_59 h
def wp_X8_judge (v0 : Vl) (v0_1 : Vl) (v0_7 : Vl) (v0_9 : Vl) (x1 : Int32) (Q : Int32 → Prop) : Prop := wp_X8_isNoLight v0 v0_9 x1 (fun r_1 => ((r_1 = 0 → wp_X0_pagesOf v0_7 x1 (fun r_2 => ∀ x_3 : Int32, x_3 = (if (v0_1.1 12) < r_2 then (v0_1.1 12) else r_2) → (∃ k : Nat, wp_X8_judge_c32 v0 v0_1 v0_7 v0_9 Q k x1 x_3 0))) ∧ (¬ r_1 = 0 → Q (-1000000001))))
set_option maxHeartbeats 4000000 in
set_option maxRecDepth 100000 in
theorem c_X8_judge (l : Launch) (D : GG) (cI cJ cZ cS : ClassId) (a0 : Nat) (r0 : Nat → Nat) (v0 : Vl) (r0_1 : Nat → Nat) (v0_1 : Vl) (r0_7 : Nat → Nat) (v0_7 : Vl) (r0_9 : Nat → Nat) (v0_9 : Vl) (x1 : Int32) (Q : Int32 → Prop) (h : wp_X8_judge v0 v0_1 v0_7 v0_9 x1 Q) : Mi l D (tyL cI cJ cZ cS) yX8_judge cX8_judge 4 .int 2 43 [.ref a0, .int x1] (List.flatten [bX8 cI cJ cZ a0 r0 v0, bX6 cI cJ cZ 360 (r0 1) r0_1 v0_1, bX0 cI cJ cZ (r0 7) r0_7 v0_7, bX3 cI cJ cZ (r0 9) r0_9 v0_9]) (fun (r : Int32) (u : Unit) => Q r) (fun (u : Unit) => List.flatten [bX8 cI cJ cZ a0 r0 v0, bX6 cI cJ cZ 360 (r0 1) r0_1 v0_1, bX0 cI cJ cZ (r0 7) r0_7 v0_7, bX3 cI cJ cZ (r0 9) r0_9 v0_9]) := by
  refine Mi_of RX8 [(0, .ref a0), (1, .int x1)] (by decide +kernel) rfl rfl (Nat.le_of_ble_eq_true rfl) ?_
  intro p e s m args below meth c A C hr hk
  refine J_aload_n C 1 dX8_judge_0 rfl rfl ?_
  refine J_iload_n C 2 dX8_judge_1 rfl rfl ?_
  refine J_callBiV (Bs := [bX8 cI cJ cZ a0 r0 v0, bX6 cI cJ cZ 360 (r0 1) r0_1 v0_1, bX0 cI cJ cZ (r0 7) r0_7 v0_7, bX3 cI cJ cZ (r0 9) r0_9 v0_9]) (As := [.int x1]) C 5 (c_X8_isNoLight l D cI cJ cZ cS a0 r0 v0 r0_9 v0_9 x1 _ h) wd542 wd539 wd2 wd540 wd541 8 0 rfl rfl rfl hdX8_isNoLight ⟨Nat.le_of_ble_eq_true rfl, Nat.le_of_ble_eq_true rfl⟩ ⟨Nat.zero_le _, Nat.zero_le _⟩ rfl (Nat.le_of_ble_eq_true rfl) [0, 3] [1, 2] 4 rfl (by decide +kernel) rfl rfl (fun (u : Unit) => [bX8 cI cJ cZ a0 r0 v0, bX3 cI cJ cZ (r0 9) r0_9 v0_9]) (fun _ => rfl) [0, 2, 3, 1] (by decide +kernel) (fun _ => rfl) rfl (fun (u : Unit) => [bX8 cI cJ cZ a0 r0 v0, bX6 cI cJ cZ 360 (r0 1) r0_1 v0_1, bX0 cI cJ cZ (r0 7) r0_7 v0_7, bX3 cI cJ cZ (r0 9) r0_9 v0_9]) (fun _ => rfl) dX8_judge_2 rfl (fun r_1 u h => ?_)
  refine J_if_eq C 8 11 dX8_judge_5 rfl rfl (fun c => ?_) (fun c => ?_)
  · have h := h.1 c
    refine J_aload_n C 12 dX8_judge_11 rfl rfl ?_
    refine J_get C 15 8 inlX8 0 7 rfl rfl (by decide) wd49 rfl rfl dX8_judge_12 rfl ?_
    refine J_iload_n C 16 dX8_judge_15 rfl rfl ?_
    refine J_callBiV (Bs := [bX8 cI cJ cZ a0 r0 v0, bX6 cI cJ cZ 360 (r0 1) r0_1 v0_1, bX0 cI cJ cZ (r0 7) r0_7 v0_7, bX3 cI cJ cZ (r0 9) r0_9 v0_9]) (As := [.int x1]) C 19 (c_X0_pagesOf l D cI cJ cZ cS (r0 7) r0_7 v0_7 x1 _ h) wd985 wd982 wd48 wd983 wd984 0 0 rfl rfl rfl hdX0_pagesOf ⟨Nat.le_of_ble_eq_true rfl, Nat.le_of_ble_eq_true rfl⟩ ⟨Nat.zero_le _, Nat.zero_le _⟩ rfl (Nat.le_of_ble_eq_true rfl) [2] [0, 1, 3] 4 rfl (by decide +kernel) rfl rfl (fun (u : Unit) => [bX0 cI cJ cZ (r0 7) r0_7 v0_7]) (fun _ => rfl) [1, 2, 0, 3] (by decide +kernel) (fun _ => rfl) rfl (fun (u : Unit) => [bX8 cI cJ cZ a0 r0 v0, bX6 cI cJ cZ 360 (r0 1) r0_1 v0_1, bX0 cI cJ cZ (r0 7) r0_7 v0_7, bX3 cI cJ cZ (r0 9) r0_9 v0_9]) (fun _ => rfl) dX8_judge_16 rfl (fun r_2 u h => ?_)
    refine J_aload_n C 20 dX8_judge_19 rfl rfl ?_
    refine J_get C 23 8 inlX8 0 1 rfl rfl (by decide) wd30 rfl rfl dX8_judge_20 rfl ?_
    refine J_getN C 26 6 inlX6 1 12 rfl rfl (by decide) (mi 6 rfl) rfl rfl dX8_judge_23 rfl ?_
    refine J_mmin C 29 wd780 wd626 wd100 wd627 (Nat.le_of_ble_eq_true rfl) (Nat.le_of_ble_eq_true rfl) ⟨Nat.zero_le _, Nat.zero_le _⟩ dX8_judge_26 rfl ?_
    obtain ⟨x_3, ex_3⟩ : ∃ z : Int32, z = (if (v0_1.1 12) < r_2 then (v0_1.1 12) else r_2) := ⟨_, rfl⟩
    have h := h x_3 ex_3
    refine J_nmi ex_3 ?_
    refine J_istore_n C 30 [(2, .int x_3), (0, .ref a0), (1, .int x1)] dX8_judge_29 rfl (by decide) rfl ?_
    refine J_iconst C 31 dX8_judge_30 rfl ki_0 ?_
    refine J_istore_n C 32 [(3, .int 0), (2, .int x_3), (0, .ref a0), (1, .int x1)] dX8_judge_31 rfl (by decide) rfl ?_
    refine J_loc [2, 3, 1, 0] rfl ?_
    obtain ⟨n1, h⟩ := h
    exact wk_X8_judge_c32 C hr hk n1 x1 x_3 0 h
  · have h := h.2 c
    refine J_ldc C 10 wd538 dX8_judge_8 rfl ?_
    exact J_iret C hr hk () rfl dX8_judge_10 h
def wp_X8_seed (v0 : Vl) (v0_1 : Vl) (x1 : Int32) (Q : Int32 → Vl → Prop) : Prop := ((0 ≤ x1 → ∀ x_1 : Int32, x_1 = (Int64.toInt32 (v0_1.2.1 16)) → ∀ v01s_2 : Vl, v01s_2 = setJ v0_1 16 (Int32.toInt64 x1) → Q x_1 v01s_2) ∧ (¬ 0 ≤ x1 → Q (-1000000002) v0_1))
set_option maxHeartbeats 4000000 in
set_option maxRecDepth 100000 in
theorem c_X8_seed (l : Launch) (D : GG) (cI cJ cZ cS : ClassId) (a0 : Nat) (r0 : Nat → Nat) (v0 : Vl) (r0_1 : Nat → Nat) (v0_1 : Vl) (x1 : Int32) (Q : Int32 → Vl → Prop) (h : wp_X8_seed v0 v0_1 x1 Q) : Mi l D (tyL cI cJ cZ cS) yX8_seed cX8_seed 3 .int 0 0 [.ref a0, .int x1] (List.flatten [bX8 cI cJ cZ a0 r0 v0, bX6 cI cJ cZ 360 (r0 1) r0_1 v0_1]) (fun (r : Int32) (u : Vl) => Q r u) (fun (u : Vl) => List.flatten [bX8 cI cJ cZ a0 r0 v0, bX6 cI cJ cZ 360 (r0 1) r0_1 u]) := by
  refine Mi_of RX8 [(0, .ref a0), (1, .int x1)] (by decide +kernel) rfl rfl (Nat.le_of_ble_eq_true rfl) ?_
  intro p e s m args below meth c A C hr hk
  refine J_iload_n C 1 dX8_seed_0 rfl rfl ?_
  refine J_if_ge C 4 7 dX8_seed_1 rfl rfl (fun c => ?_) (fun c => ?_)
  · have h := h.1 c
    refine J_aload_n C 8 dX8_seed_7 rfl rfl ?_
    refine J_get C 11 8 inlX8 0 1 rfl rfl (by decide) wd30 rfl rfl dX8_seed_8 rfl ?_
    refine J_getN C 14 6 inlX6 1 16 rfl rfl (by decide) (mi 27 rfl) rfl rfl dX8_seed_11 rfl ?_
    refine J_l2i C 15 dX8_seed_14 rfl ?_
    obtain ⟨x_1, ex_1⟩ : ∃ z : Int32, z = (Int64.toInt32 (v0_1.2.1 16)) := ⟨_, rfl⟩
    have h := h x_1 ex_1
    refine J_nmi ex_1 ?_
    refine J_istore_n C 16 [(2, .int x_1), (0, .ref a0), (1, .int x1)] dX8_seed_15 rfl (by decide) rfl ?_
    refine J_aload_n C 17 dX8_seed_16 rfl rfl ?_
    refine J_get C 20 8 inlX8 0 1 rfl rfl (by decide) wd30 rfl rfl dX8_seed_17 rfl ?_
    refine J_iload_n C 21 dX8_seed_20 rfl rfl ?_
    refine J_i2l C 22 dX8_seed_21 rfl ?_
    obtain ⟨v01s_2, ev01s_2⟩ : ∃ z : Vl, z = setJ v0_1 16 (Int32.toInt64 x1) := ⟨_, rfl⟩
    have h := h v01s_2 ev01s_2
    refine J_putN C 25 6 inlX6 tyX6 tyX6_ok nmX6 1 16 rfl rfl (by decide) (mi 27 rfl) rfl rfl rfl rfl rfl (List.flatten [bX8 cI cJ cZ a0 r0 v0, bX6 cI cJ cZ 360 (r0 1) r0_1 v01s_2]) (by subst ev01s_2; rfl) dX8_seed_22 rfl ?_
    refine J_iload_n C 26 dX8_seed_25 rfl rfl ?_
    exact J_iret C hr hk v01s_2 rfl dX8_seed_26 h
  · have h := h.2 c
    refine J_ldc C 6 wd207 dX8_seed_4 rfl ?_
    exact J_iret C hr hk v0_1 rfl dX8_seed_6 h
def wp_X8_isNoImage (v0 : Vl) (f0_3 : Nat → Int32) (x1 : Int32) (Q : Int32 → Prop) : Prop := ((x1 < 0 → Q 1) ∧ (¬ x1 < 0 → ((2 ≤ x1 → Q 1) ∧ (¬ 2 ≤ x1 → ((x1 < 2 → Q 0) ∧ (¬ x1 < 2 → Q 1))))))
set_option maxHeartbeats 4000000 in
set_option maxRecDepth 100000 in
theorem c_X8_isNoImage (l : Launch) (D : GG) (cI cJ cZ cS : ClassId) (a0 : Nat) (r0 : Nat → Nat) (v0 : Vl) (q0_2 : Nat → Nat) (f0_3 : Nat → Int32) (x1 : Int32) (Q : Int32 → Prop) (h : wp_X8_isNoImage v0 f0_3 x1 Q) : Mi l D (tyL cI cJ cZ cS) yX8_isNoImage cX8_isNoImage 2 .boolean 0 0 [.ref a0, .int x1] (List.flatten [bX8 cI cJ cZ a0 r0 v0, bS cS 2 (r0 2) q0_2, bI cZ 2 (r0 3) f0_3]) (fun (r : Int32) (u : Unit) => Q r) (fun (u : Unit) => List.flatten [bX8 cI cJ cZ a0 r0 v0, bS cS 2 (r0 2) q0_2, bI cZ 2 (r0 3) f0_3]) := by
  refine Mi_of RX8 [(0, .ref a0), (1, .int x1)] (by decide +kernel) rfl rfl (Nat.le_of_ble_eq_true rfl) ?_
  intro p e s m args below meth c A C hr hk
  refine J_iload_n C 1 dX8_isNoImage_0 rfl rfl ?_
  refine J_if_lt C 4 22 dX8_isNoImage_1 rfl rfl (fun c => ?_) (fun c => ?_)
  · have h := h.1 c
    refine J_iconst C 23 dX8_isNoImage_22 rfl ki_1 ?_
    refine J_goto C 27 dX8_isNoImage_23 rfl ?_
    exact J_zret C hr hk rfl () rfl dX8_isNoImage_27 h
  · have h := h.2 c
    refine J_iload_n C 5 dX8_isNoImage_4 rfl rfl ?_
    refine J_aload_n C 6 dX8_isNoImage_5 rfl rfl ?_
    refine J_get C 9 8 inlX8 0 2 rfl rfl (by decide) wd31 rfl rfl dX8_isNoImage_6 rfl ?_
    refine J_alen C 10 1 3 rfl rfl kn_2 dX8_isNoImage_9 rfl ?_
    refine J_icmp_ge C 13 22 dX8_isNoImage_10 rfl rfl (fun c => ?_) (fun c => ?_)
    · have h := h.1 c
      refine J_iconst C 23 dX8_isNoImage_22 rfl ki_1 ?_
      refine J_goto C 27 dX8_isNoImage_23 rfl ?_
      exact J_zret C hr hk rfl () rfl dX8_isNoImage_27 h
    · have h := h.2 c
      refine J_iload_n C 14 dX8_isNoImage_13 rfl rfl ?_
      refine J_aload_n C 15 dX8_isNoImage_14 rfl rfl ?_
      refine J_get C 18 8 inlX8 0 3 rfl rfl (by decide) wd33 rfl rfl dX8_isNoImage_15 rfl ?_
      refine J_alen C 19 2 2 rfl rfl kn_2 dX8_isNoImage_18 rfl ?_
      refine J_icmp_lt C 22 26 dX8_isNoImage_19 rfl rfl (fun c => ?_) (fun c => ?_)
      · have h := h.1 c
        refine J_iconst C 27 dX8_isNoImage_26 rfl ki_0 ?_
        exact J_zret C hr hk rfl () rfl dX8_isNoImage_27 h
      · have h := h.2 c
        refine J_iconst C 23 dX8_isNoImage_22 rfl ki_1 ?_
        refine J_goto C 27 dX8_isNoImage_23 rfl ?_
        exact J_zret C hr hk rfl () rfl dX8_isNoImage_27 h
def wp_X8_keep (v0 : Vl) (v0_1 : Vl) (v0_2_0 : Vl) (v0_2_1 : Vl) (f0_3 : Nat → Int32) (x1 : Int32) (Q : Int32 → Vl → Vl → (Nat → Int32) → Prop) : Prop := wp_X8_isNoImage v0 f0_3 x1 (fun r_1 => ((r_1 = 0 → vp_in x1 2 ∧ ((x1 = 0 → wp_X6_copyFrom 360 v0_2_0 360 v0_1 (fun u_2 => vp_in x1 2 ∧ (∀ f03s_3 : Nat → Int32, f03s_3 = upd f0_3 (Int32.toNatClampNeg x1) (vp_nar .boolean 1) → Q 1 u_2 v0_2_1 f03s_3))) ∧ (x1 = 1 → wp_X6_copyFrom 360 v0_2_1 360 v0_1 (fun u_4 => vp_in x1 2 ∧ (∀ f03s_5 : Nat → Int32, f03s_5 = upd f0_3 (Int32.toNatClampNeg x1) (vp_nar .boolean 1) → Q 1 v0_2_0 u_4 f03s_5))))) ∧ (¬ r_1 = 0 → Q (-1000000001) v0_2_0 v0_2_1 f0_3)))
set_option maxHeartbeats 4000000 in
set_option maxRecDepth 100000 in
theorem c_X8_keep (l : Launch) (D : GG) (cI cJ cZ cS : ClassId) (a0 : Nat) (r0 : Nat → Nat) (v0 : Vl) (r0_1 : Nat → Nat) (v0_1 : Vl) (q0_2 : Nat → Nat) (r0_2_0 : Nat → Nat) (v0_2_0 : Vl) (r0_2_1 : Nat → Nat) (v0_2_1 : Vl) (f0_3 : Nat → Int32) (x1 : Int32) (Q : Int32 → Vl → Vl → (Nat → Int32) → Prop) (h : wp_X8_keep v0 v0_1 v0_2_0 v0_2_1 f0_3 x1 Q) : Mi l D (tyL cI cJ cZ cS) yX8_keep cX8_keep 2 .int 3 82 [.ref a0, .int x1] (List.flatten [bX8 cI cJ cZ a0 r0 v0, bX6 cI cJ cZ 360 (r0 1) r0_1 v0_1, bS cS 2 (r0 2) q0_2, bX6 cI cJ cZ 360 (q0_2 0) r0_2_0 v0_2_0, bX6 cI cJ cZ 360 (q0_2 1) r0_2_1 v0_2_1, bI cZ 2 (r0 3) f0_3]) (fun (r : Int32) (u : Vl × Vl × (Nat → Int32)) => Q r u.1 u.2.1 u.2.2) (fun (u : Vl × Vl × (Nat → Int32)) => List.flatten [bX8 cI cJ cZ a0 r0 v0, bX6 cI cJ cZ 360 (r0 1) r0_1 v0_1, bS cS 2 (r0 2) q0_2, bX6 cI cJ cZ 360 (q0_2 0) r0_2_0 u.1, bX6 cI cJ cZ 360 (q0_2 1) r0_2_1 u.2.1, bI cZ 2 (r0 3) u.2.2]) := by
  refine Mi_of RX8 [(0, .ref a0), (1, .int x1)] (by decide +kernel) rfl rfl (Nat.le_of_ble_eq_true rfl) ?_
  intro p e s m args below meth c A C hr hk
  refine J_aload_n C 1 dX8_keep_0 rfl rfl ?_
  refine J_iload_n C 2 dX8_keep_1 rfl rfl ?_
  refine J_callBiV (Bs := [bX8 cI cJ cZ a0 r0 v0, bX6 cI cJ cZ 360 (r0 1) r0_1 v0_1, bS cS 2 (r0 2) q0_2, bX6 cI cJ cZ 360 (q0_2 0) r0_2_0 v0_2_0, bX6 cI cJ cZ 360 (q0_2 1) r0_2_1 v0_2_1, bI cZ 2 (r0 3) f0_3]) (As := [.int x1]) C 5 (c_X8_isNoImage l D cI cJ cZ cS a0 r0 v0 q0_2 f0_3 x1 _ h) wd1035 wd1032 wd2 wd1033 wd1034 8 0 rfl rfl rfl hdX8_isNoImage ⟨Nat.le_of_ble_eq_true rfl, Nat.le_of_ble_eq_true rfl⟩ ⟨Nat.zero_le _, Nat.zero_le _⟩ rfl (Nat.le_of_ble_eq_true rfl) [0, 2, 5] [1, 3, 4] 6 rfl (by decide +kernel) rfl rfl (fun (u : Unit) => [bX8 cI cJ cZ a0 r0 v0, bS cS 2 (r0 2) q0_2, bI cZ 2 (r0 3) f0_3]) (fun _ => rfl) [0, 3, 1, 4, 5, 2] (by decide +kernel) (fun _ => rfl) rfl (fun (u : Unit) => [bX8 cI cJ cZ a0 r0 v0, bX6 cI cJ cZ 360 (r0 1) r0_1 v0_1, bS cS 2 (r0 2) q0_2, bX6 cI cJ cZ 360 (q0_2 0) r0_2_0 v0_2_0, bX6 cI cJ cZ 360 (q0_2 1) r0_2_1 v0_2_1, bI cZ 2 (r0 3) f0_3]) (fun _ => rfl) dX8_keep_2 rfl (fun r_1 u h => ?_)
  refine J_if_eq C 8 11 dX8_keep_5 rfl rfl (fun c => ?_) (fun c => ?_)
  · have h := h.1 c
    refine J_aload_n C 12 dX8_keep_11 rfl rfl ?_
    refine J_get C 15 8 inlX8 0 2 rfl rfl (by decide) wd31 rfl rfl dX8_keep_12 rfl ?_
    refine J_iload_n C 16 dX8_keep_15 rfl rfl ?_
    obtain ⟨hi, h⟩ := h
    rcases vp_in2 hi with c | c
    · have h := (h.1) c
      refine J_nmi c.symm ?_
      refine J_aald C 17 7 0 rfl rfl (by decide) (by unfold vp_in; decide) dX8_keep_16 rfl ?_
      refine J_aload_n C 18 dX8_keep_17 rfl rfl ?_
      refine J_get C 21 8 inlX8 0 1 rfl rfl (by decide) wd30 rfl rfl dX8_keep_18 rfl ?_
      refine J_callBvV (Bs := [bX8 cI cJ cZ a0 r0 v0, bX6 cI cJ cZ 360 (r0 1) r0_1 v0_1, bS cS 2 (r0 2) q0_2, bX6 cI cJ cZ 360 (q0_2 0) r0_2_0 v0_2_0, bX6 cI cJ cZ 360 (q0_2 1) r0_2_1 v0_2_1, bI cZ 2 (r0 3) f0_3]) (As := [.ref (r0 1)]) C 24 (c_X6_copyFrom l D cI cJ cZ cS 360 (q0_2 0) r0_2_0 v0_2_0 360 (r0 1) r0_1 v0_1 _ h) wd777 wd1036 wd29 wd775 wd776 6 0 rfl rfl rfl hdX6_copyFrom ⟨Nat.le_of_ble_eq_true rfl, Nat.le_of_ble_eq_true rfl⟩ ⟨Nat.zero_le _, Nat.zero_le _⟩ rfl (Nat.le_of_ble_eq_true rfl) [3, 1] [0, 2, 4, 5] 6 rfl (by decide +kernel) rfl rfl (fun (u : Vl) => [bX6 cI cJ cZ 360 (q0_2 0) r0_2_0 u, bX6 cI cJ cZ 360 (r0 1) r0_1 v0_1]) (fun _ => rfl) [2, 1, 3, 0, 4, 5] (by decide +kernel) (fun _ => rfl) rfl (fun (u : Vl) => [bX8 cI cJ cZ a0 r0 v0, bX6 cI cJ cZ 360 (r0 1) r0_1 v0_1, bS cS 2 (r0 2) q0_2, bX6 cI cJ cZ 360 (q0_2 0) r0_2_0 u, bX6 cI cJ cZ 360 (q0_2 1) r0_2_1 v0_2_1, bI cZ 2 (r0 3) f0_3]) (fun _ => rfl) dX8_keep_21 rfl (fun u h => ?_)
      obtain ⟨u_2, hu⟩ : ∃ z, z = u := ⟨_, rfl⟩
      subst hu
      refine J_aload_n C 25 dX8_keep_24 rfl rfl ?_
      refine J_get C 28 8 inlX8 0 3 rfl rfl (by decide) wd33 rfl rfl dX8_keep_25 rfl ?_
      refine J_iload_n C 29 dX8_keep_28 rfl rfl ?_
      refine J_iconst C 30 dX8_keep_29 rfl ki_1 ?_
      obtain ⟨hi, h⟩ := h
      obtain ⟨f03s_3, ef03s_3⟩ : ∃ z : Nat → Int32, z = upd f0_3 (Int32.toNatClampNeg x1) (vp_nar .boolean 1) := ⟨_, rfl⟩
      have h := h f03s_3 ef03s_3
      refine J_zast C 31 20 2 rfl rfl hi (List.flatten [bX8 cI cJ cZ a0 r0 v0, bX6 cI cJ cZ 360 (r0 1) r0_1 v0_1, bS cS 2 (r0 2) q0_2, bX6 cI cJ cZ 360 (q0_2 0) r0_2_0 u_2, bX6 cI cJ cZ 360 (q0_2 1) r0_2_1 v0_2_1, bI cZ 2 (r0 3) f03s_3]) (by subst ef03s_3; rfl) dX8_keep_30 rfl ?_
      refine J_iconst C 32 dX8_keep_31 rfl ki_1 ?_
      exact J_iret C hr hk (u_2, v0_2_1, f03s_3) rfl dX8_keep_32 h
    · have h := (h.2) c
      refine J_nmi c.symm ?_
      refine J_aald C 17 7 1 rfl rfl (by decide) (by unfold vp_in; decide) dX8_keep_16 rfl ?_
      refine J_aload_n C 18 dX8_keep_17 rfl rfl ?_
      refine J_get C 21 8 inlX8 0 1 rfl rfl (by decide) wd30 rfl rfl dX8_keep_18 rfl ?_
      refine J_callBvV (Bs := [bX8 cI cJ cZ a0 r0 v0, bX6 cI cJ cZ 360 (r0 1) r0_1 v0_1, bS cS 2 (r0 2) q0_2, bX6 cI cJ cZ 360 (q0_2 0) r0_2_0 v0_2_0, bX6 cI cJ cZ 360 (q0_2 1) r0_2_1 v0_2_1, bI cZ 2 (r0 3) f0_3]) (As := [.ref (r0 1)]) C 24 (c_X6_copyFrom l D cI cJ cZ cS 360 (q0_2 1) r0_2_1 v0_2_1 360 (r0 1) r0_1 v0_1 _ h) wd777 wd1036 wd29 wd775 wd776 6 0 rfl rfl rfl hdX6_copyFrom ⟨Nat.le_of_ble_eq_true rfl, Nat.le_of_ble_eq_true rfl⟩ ⟨Nat.zero_le _, Nat.zero_le _⟩ rfl (Nat.le_of_ble_eq_true rfl) [4, 1] [0, 2, 3, 5] 6 rfl (by decide +kernel) rfl rfl (fun (u : Vl) => [bX6 cI cJ cZ 360 (q0_2 1) r0_2_1 u, bX6 cI cJ cZ 360 (r0 1) r0_1 v0_1]) (fun _ => rfl) [2, 1, 3, 4, 0, 5] (by decide +kernel) (fun _ => rfl) rfl (fun (u : Vl) => [bX8 cI cJ cZ a0 r0 v0, bX6 cI cJ cZ 360 (r0 1) r0_1 v0_1, bS cS 2 (r0 2) q0_2, bX6 cI cJ cZ 360 (q0_2 0) r0_2_0 v0_2_0, bX6 cI cJ cZ 360 (q0_2 1) r0_2_1 u, bI cZ 2 (r0 3) f0_3]) (fun _ => rfl) dX8_keep_21 rfl (fun u h => ?_)
      obtain ⟨u_4, hu⟩ : ∃ z, z = u := ⟨_, rfl⟩
      subst hu
      refine J_aload_n C 25 dX8_keep_24 rfl rfl ?_
      refine J_get C 28 8 inlX8 0 3 rfl rfl (by decide) wd33 rfl rfl dX8_keep_25 rfl ?_
      refine J_iload_n C 29 dX8_keep_28 rfl rfl ?_
      refine J_iconst C 30 dX8_keep_29 rfl ki_1 ?_
      obtain ⟨hi, h⟩ := h
      obtain ⟨f03s_5, ef03s_5⟩ : ∃ z : Nat → Int32, z = upd f0_3 (Int32.toNatClampNeg x1) (vp_nar .boolean 1) := ⟨_, rfl⟩
      have h := h f03s_5 ef03s_5
      refine J_zast C 31 20 2 rfl rfl hi (List.flatten [bX8 cI cJ cZ a0 r0 v0, bX6 cI cJ cZ 360 (r0 1) r0_1 v0_1, bS cS 2 (r0 2) q0_2, bX6 cI cJ cZ 360 (q0_2 0) r0_2_0 v0_2_0, bX6 cI cJ cZ 360 (q0_2 1) r0_2_1 u_4, bI cZ 2 (r0 3) f03s_5]) (by subst ef03s_5; rfl) dX8_keep_30 rfl ?_
      refine J_iconst C 32 dX8_keep_31 rfl ki_1 ?_
      exact J_iret C hr hk (v0_2_0, u_4, f03s_5) rfl dX8_keep_32 h
  · have h := h.2 c
    refine J_ldc C 10 wd538 dX8_keep_8 rfl ?_
    exact J_iret C hr hk (v0_2_0, v0_2_1, f0_3) rfl dX8_keep_10 h
def wp_X8_goBack (v0 : Vl) (v0_1 : Vl) (v0_2_0 : Vl) (v0_2_1 : Vl) (f0_3 : Nat → Int32) (x1 : Int32) (Q : Int32 → Vl → Prop) : Prop := wp_X8_isNoImage v0 f0_3 x1 (fun r_1 => ((r_1 = 0 → vp_in x1 2 ∧ (((¬ (f0_3 (Int32.toNatClampNeg x1)) = 0 → vp_in x1 2 ∧ ((x1 = 0 → wp_X6_copyFrom 360 v0_1 360 v0_2_0 (fun u_2 => Q 1 u_2)) ∧ (x1 = 1 → wp_X6_copyFrom 360 v0_1 360 v0_2_1 (fun u_3 => Q 1 u_3)))) ∧ ((f0_3 (Int32.toNatClampNeg x1)) = 0 → Q (-1000000003) v0_1)))) ∧ (¬ r_1 = 0 → Q (-1000000001) v0_1)))
set_option maxHeartbeats 4000000 in
set_option maxRecDepth 100000 in
theorem c_X8_goBack (l : Launch) (D : GG) (cI cJ cZ cS : ClassId) (a0 : Nat) (r0 : Nat → Nat) (v0 : Vl) (r0_1 : Nat → Nat) (v0_1 : Vl) (q0_2 : Nat → Nat) (r0_2_0 : Nat → Nat) (v0_2_0 : Vl) (r0_2_1 : Nat → Nat) (v0_2_1 : Vl) (f0_3 : Nat → Int32) (x1 : Int32) (Q : Int32 → Vl → Prop) (h : wp_X8_goBack v0 v0_1 v0_2_0 v0_2_1 f0_3 x1 Q) : Mi l D (tyL cI cJ cZ cS) yX8_goBack cX8_goBack 2 .int 3 82 [.ref a0, .int x1] (List.flatten [bX8 cI cJ cZ a0 r0 v0, bX6 cI cJ cZ 360 (r0 1) r0_1 v0_1, bS cS 2 (r0 2) q0_2, bX6 cI cJ cZ 360 (q0_2 0) r0_2_0 v0_2_0, bX6 cI cJ cZ 360 (q0_2 1) r0_2_1 v0_2_1, bI cZ 2 (r0 3) f0_3]) (fun (r : Int32) (u : Vl) => Q r u) (fun (u : Vl) => List.flatten [bX8 cI cJ cZ a0 r0 v0, bX6 cI cJ cZ 360 (r0 1) r0_1 u, bS cS 2 (r0 2) q0_2, bX6 cI cJ cZ 360 (q0_2 0) r0_2_0 v0_2_0, bX6 cI cJ cZ 360 (q0_2 1) r0_2_1 v0_2_1, bI cZ 2 (r0 3) f0_3]) := by
  refine Mi_of RX8 [(0, .ref a0), (1, .int x1)] (by decide +kernel) rfl rfl (Nat.le_of_ble_eq_true rfl) ?_
  intro p e s m args below meth c A C hr hk
  refine J_aload_n C 1 dX8_goBack_0 rfl rfl ?_
  refine J_iload_n C 2 dX8_goBack_1 rfl rfl ?_
  refine J_callBiV (Bs := [bX8 cI cJ cZ a0 r0 v0, bX6 cI cJ cZ 360 (r0 1) r0_1 v0_1, bS cS 2 (r0 2) q0_2, bX6 cI cJ cZ 360 (q0_2 0) r0_2_0 v0_2_0, bX6 cI cJ cZ 360 (q0_2 1) r0_2_1 v0_2_1, bI cZ 2 (r0 3) f0_3]) (As := [.int x1]) C 5 (c_X8_isNoImage l D cI cJ cZ cS a0 r0 v0 q0_2 f0_3 x1 _ h) wd1035 wd1032 wd2 wd1033 wd1034 8 0 rfl rfl rfl hdX8_isNoImage ⟨Nat.le_of_ble_eq_true rfl, Nat.le_of_ble_eq_true rfl⟩ ⟨Nat.zero_le _, Nat.zero_le _⟩ rfl (Nat.le_of_ble_eq_true rfl) [0, 2, 5] [1, 3, 4] 6 rfl (by decide +kernel) rfl rfl (fun (u : Unit) => [bX8 cI cJ cZ a0 r0 v0, bS cS 2 (r0 2) q0_2, bI cZ 2 (r0 3) f0_3]) (fun _ => rfl) [0, 3, 1, 4, 5, 2] (by decide +kernel) (fun _ => rfl) rfl (fun (u : Unit) => [bX8 cI cJ cZ a0 r0 v0, bX6 cI cJ cZ 360 (r0 1) r0_1 v0_1, bS cS 2 (r0 2) q0_2, bX6 cI cJ cZ 360 (q0_2 0) r0_2_0 v0_2_0, bX6 cI cJ cZ 360 (q0_2 1) r0_2_1 v0_2_1, bI cZ 2 (r0 3) f0_3]) (fun _ => rfl) dX8_goBack_2 rfl (fun r_1 u h => ?_)
  refine J_if_eq C 8 11 dX8_goBack_5 rfl rfl (fun c => ?_) (fun c => ?_)
  · have h := h.1 c
    refine J_aload_n C 12 dX8_goBack_11 rfl rfl ?_
    refine J_get C 15 8 inlX8 0 3 rfl rfl (by decide) wd33 rfl rfl dX8_goBack_12 rfl ?_
    refine J_iload_n C 16 dX8_goBack_15 rfl rfl ?_
    obtain ⟨hi, h⟩ := h
    refine J_zald C 17 20 2 rfl rfl hi dX8_goBack_16 rfl ?_
    refine J_if_ne C 20 23 dX8_goBack_17 rfl rfl (fun c => ?_) (fun c => ?_)
    · have h := h.1 c
      refine J_aload_n C 24 dX8_goBack_23 rfl rfl ?_
      refine J_get C 27 8 inlX8 0 1 rfl rfl (by decide) wd30 rfl rfl dX8_goBack_24 rfl ?_
      refine J_aload_n C 28 dX8_goBack_27 rfl rfl ?_
      refine J_get C 31 8 inlX8 0 2 rfl rfl (by decide) wd31 rfl rfl dX8_goBack_28 rfl ?_
      refine J_iload_n C 32 dX8_goBack_31 rfl rfl ?_
      obtain ⟨hi, h⟩ := h
      rcases vp_in2 hi with c | c
      · have h := (h.1) c
        refine J_nmi c.symm ?_
        refine J_aald C 33 7 0 rfl rfl (by decide) (by unfold vp_in; decide) dX8_goBack_32 rfl ?_
        refine J_callBvV (Bs := [bX8 cI cJ cZ a0 r0 v0, bX6 cI cJ cZ 360 (r0 1) r0_1 v0_1, bS cS 2 (r0 2) q0_2, bX6 cI cJ cZ 360 (q0_2 0) r0_2_0 v0_2_0, bX6 cI cJ cZ 360 (q0_2 1) r0_2_1 v0_2_1, bI cZ 2 (r0 3) f0_3]) (As := [.ref (q0_2 0)]) C 36 (c_X6_copyFrom l D cI cJ cZ cS 360 (r0 1) r0_1 v0_1 360 (q0_2 0) r0_2_0 v0_2_0 _ h) wd777 wd1036 wd29 wd775 wd776 6 0 rfl rfl rfl hdX6_copyFrom ⟨Nat.le_of_ble_eq_true rfl, Nat.le_of_ble_eq_true rfl⟩ ⟨Nat.zero_le _, Nat.zero_le _⟩ rfl (Nat.le_of_ble_eq_true rfl) [1, 3] [0, 2, 4, 5] 6 rfl (by decide +kernel) rfl rfl (fun (u : Vl) => [bX6 cI cJ cZ 360 (r0 1) r0_1 u, bX6 cI cJ cZ 360 (q0_2 0) r0_2_0 v0_2_0]) (fun _ => rfl) [2, 0, 3, 1, 4, 5] (by decide +kernel) (fun _ => rfl) rfl (fun (u : Vl) => [bX8 cI cJ cZ a0 r0 v0, bX6 cI cJ cZ 360 (r0 1) r0_1 u, bS cS 2 (r0 2) q0_2, bX6 cI cJ cZ 360 (q0_2 0) r0_2_0 v0_2_0, bX6 cI cJ cZ 360 (q0_2 1) r0_2_1 v0_2_1, bI cZ 2 (r0 3) f0_3]) (fun _ => rfl) dX8_goBack_33 rfl (fun u h => ?_)
        obtain ⟨u_2, hu⟩ : ∃ z, z = u := ⟨_, rfl⟩
        subst hu
        refine J_iconst C 37 dX8_goBack_36 rfl ki_1 ?_
        exact J_iret C hr hk u_2 rfl dX8_goBack_37 h
      · have h := (h.2) c
        refine J_nmi c.symm ?_
        refine J_aald C 33 7 1 rfl rfl (by decide) (by unfold vp_in; decide) dX8_goBack_32 rfl ?_
        refine J_callBvV (Bs := [bX8 cI cJ cZ a0 r0 v0, bX6 cI cJ cZ 360 (r0 1) r0_1 v0_1, bS cS 2 (r0 2) q0_2, bX6 cI cJ cZ 360 (q0_2 0) r0_2_0 v0_2_0, bX6 cI cJ cZ 360 (q0_2 1) r0_2_1 v0_2_1, bI cZ 2 (r0 3) f0_3]) (As := [.ref (q0_2 1)]) C 36 (c_X6_copyFrom l D cI cJ cZ cS 360 (r0 1) r0_1 v0_1 360 (q0_2 1) r0_2_1 v0_2_1 _ h) wd777 wd1036 wd29 wd775 wd776 6 0 rfl rfl rfl hdX6_copyFrom ⟨Nat.le_of_ble_eq_true rfl, Nat.le_of_ble_eq_true rfl⟩ ⟨Nat.zero_le _, Nat.zero_le _⟩ rfl (Nat.le_of_ble_eq_true rfl) [1, 4] [0, 2, 3, 5] 6 rfl (by decide +kernel) rfl rfl (fun (u : Vl) => [bX6 cI cJ cZ 360 (r0 1) r0_1 u, bX6 cI cJ cZ 360 (q0_2 1) r0_2_1 v0_2_1]) (fun _ => rfl) [2, 0, 3, 4, 1, 5] (by decide +kernel) (fun _ => rfl) rfl (fun (u : Vl) => [bX8 cI cJ cZ a0 r0 v0, bX6 cI cJ cZ 360 (r0 1) r0_1 u, bS cS 2 (r0 2) q0_2, bX6 cI cJ cZ 360 (q0_2 0) r0_2_0 v0_2_0, bX6 cI cJ cZ 360 (q0_2 1) r0_2_1 v0_2_1, bI cZ 2 (r0 3) f0_3]) (fun _ => rfl) dX8_goBack_33 rfl (fun u h => ?_)
        obtain ⟨u_3, hu⟩ : ∃ z, z = u := ⟨_, rfl⟩
        subst hu
        refine J_iconst C 37 dX8_goBack_36 rfl ki_1 ?_
        exact J_iret C hr hk u_3 rfl dX8_goBack_37 h
    · have h := h.2 c
      refine J_ldc C 22 wd478 dX8_goBack_20 rfl ?_
      exact J_iret C hr hk v0_1 rfl dX8_goBack_22 h
  · have h := h.2 c
    refine J_ldc C 10 wd538 dX8_goBack_8 rfl ?_
    exact J_iret C hr hk v0_1 rfl dX8_goBack_10 h
