def wp_X9_say (v0 : Vl) (x1 : Int32) (x2 : Int32) (Q : Int32 → Vl → Prop) : Prop := wp_X9_in (Int32.toInt64 x1) 0 (Int32.toInt64 ((1 <<< ((v0.1 0) &&& 31)) - 1)) (fun r_1 => ((¬ r_1 = 0 → ((¬ (v0.1 56) = 12 → vp_in (v0.1 56) 12 ∧ (∀ v0s_2 : Vl, v0s_2 = setA v0 57 (Int32.toNatClampNeg (v0.1 56)) x1 → vp_in (v0s_2.1 56) 12 ∧ (∀ v0s_3 : Vl, v0s_3 = setA v0s_2 58 (Int32.toNatClampNeg (v0s_2.1 56)) (vp_nar .boolean x2) → ∀ v0s_4 : Vl, v0s_4 = setI v0s_3 56 ((v0s_3.1 56) + 1) → Q (v0s_4.1 56) v0s_4))) ∧ ((v0.1 56) = 12 → Q (-1000000004) v0))) ∧ (r_1 = 0 → Q (-1000000001) v0)))
set_option maxHeartbeats 4000000 in
set_option maxRecDepth 100000 in
theorem c_X9_say (l : Launch) (D : GG) (cI cJ cZ cS : ClassId) (a0 : Nat) (r0 : Nat → Nat) (v0 : Vl) (x1 : Int32) (x2 : Int32) (Q : Int32 → Vl → Prop) (h : wp_X9_say v0 x1 x2 Q) : Mi l D (tyL cI cJ cZ cS) yX9_say cX9_say 3 .int 1 25 [.ref a0, .int x1, .int x2] (List.flatten [bX9 cI cJ cZ a0 r0 v0]) (fun (r : Int32) (u : Vl) => Q r u) (fun (u : Vl) => List.flatten [bX9 cI cJ cZ a0 r0 u]) := by
  refine Mi_of RX9 [(0, .ref a0), (1, .int x1), (2, .int x2)] (by decide +kernel) rfl rfl (Nat.le_of_ble_eq_true rfl) ?_
  intro p e s m args below meth c A C hr hk
  refine J_iload_n C 1 dX9_say_0 rfl rfl ?_
  refine J_i2l C 2 dX9_say_1 rfl ?_
  refine J_lconst C 3 dX9_say_2 rfl kl_0 ?_
  refine J_iconst C 4 dX9_say_3 rfl ki_1 ?_
  refine J_aload_n C 5 dX9_say_4 rfl rfl ?_
  refine J_get C 8 9 inlX9 0 0 rfl rfl (by decide) wd191 rfl rfl dX9_say_5 rfl ?_
  refine J_ishl C 9 dX9_say_8 rfl ?_
  refine J_iconst C 10 dX9_say_9 rfl ki_1 ?_
  refine J_isub C 11 dX9_say_10 rfl ?_
  refine J_i2l C 12 dX9_say_11 rfl ?_
  refine J_callBiS (Bs := [bX9 cI cJ cZ a0 r0 v0]) (As := [.long (Int32.toInt64 x1), .long 0, .long (Int32.toInt64 ((1 <<< ((v0.1 0) &&& 31)) - 1))]) C 15 (c_X9_in l D cI cJ cZ cS (Int32.toInt64 x1) 0 (Int32.toInt64 ((1 <<< ((v0.1 0) &&& 31)) - 1)) _ h) wd225 wd223 wd5 wd224 hdX9_in ⟨Nat.le_of_ble_eq_true rfl, Nat.le_of_ble_eq_true rfl⟩ ⟨Nat.zero_le _, Nat.zero_le _⟩ rfl (Nat.le_of_ble_eq_true rfl) [] [0] 1 rfl (by decide +kernel) rfl rfl (fun (u : Unit) => ([] : List va_W)) (fun _ => rfl) [0] (by decide +kernel) (fun _ => rfl) rfl (fun (u : Unit) => [bX9 cI cJ cZ a0 r0 v0]) (fun _ => rfl) dX9_say_12 rfl (fun r_1 u h => ?_)
  refine J_if_ne C 18 22 dX9_say_15 rfl rfl (fun c => ?_) (fun c => ?_)
  · have h := h.1 c
    refine J_aload_n C 23 dX9_say_22 rfl rfl ?_
    refine J_get C 26 9 inlX9 0 56 rfl rfl (by decide) wd473 rfl rfl dX9_say_23 rfl ?_
    refine J_bipush C 28 dX9_say_26 rfl kb_12 ?_
    refine J_icmp_ne C 31 34 dX9_say_28 rfl rfl (fun c => ?_) (fun c => ?_)
    · have h := h.1 c
      refine J_aload_n C 35 dX9_say_34 rfl rfl ?_
      refine J_get C 38 9 inlX9 0 57 rfl rfl (by decide) wd183 rfl rfl dX9_say_35 rfl ?_
      refine J_aload_n C 39 dX9_say_38 rfl rfl ?_
      refine J_get C 42 9 inlX9 0 56 rfl rfl (by decide) wd473 rfl rfl dX9_say_39 rfl ?_
      refine J_iload_n C 43 dX9_say_42 rfl rfl ?_
      obtain ⟨hi, h⟩ := h
      obtain ⟨v0s_2, ev0s_2⟩ : ∃ z : Vl, z = setA v0 57 (Int32.toNatClampNeg (v0.1 56)) x1 := ⟨_, rfl⟩
      have h := h v0s_2 ev0s_2
      refine J_iast C 44 25 0 rfl rfl hi (List.flatten [bX9 cI cJ cZ a0 r0 v0s_2]) (by subst ev0s_2; rfl) dX9_say_43 rfl ?_
      refine J_aload_n C 45 dX9_say_44 rfl rfl ?_
      refine J_get C 48 9 inlX9 0 58 rfl rfl (by decide) wd184 rfl rfl dX9_say_45 rfl ?_
      refine J_aload_n C 49 dX9_say_48 rfl rfl ?_
      refine J_get C 52 9 inlX9 0 56 rfl rfl (by decide) wd473 rfl rfl dX9_say_49 rfl ?_
      refine J_iload_n C 53 dX9_say_52 rfl rfl ?_
      obtain ⟨hi, h⟩ := h
      obtain ⟨v0s_3, ev0s_3⟩ : ∃ z : Vl, z = setA v0s_2 58 (Int32.toNatClampNeg (v0s_2.1 56)) (vp_nar .boolean x2) := ⟨_, rfl⟩
      have h := h v0s_3 ev0s_3
      refine J_zast C 54 26 2 rfl rfl hi (List.flatten [bX9 cI cJ cZ a0 r0 v0s_3]) (by subst ev0s_3; rfl) dX9_say_53 rfl ?_
      refine J_aload_n C 55 dX9_say_54 rfl rfl ?_
      refine J_dup C 56 dX9_say_55 rfl rfl ?_
      refine J_get C 59 9 inlX9 0 56 rfl rfl (by decide) wd473 rfl rfl dX9_say_56 rfl ?_
      refine J_iconst C 60 dX9_say_59 rfl ki_1 ?_
      refine J_iadd C 61 dX9_say_60 rfl ?_
      obtain ⟨v0s_4, ev0s_4⟩ : ∃ z : Vl, z = setI v0s_3 56 ((v0s_3.1 56) + 1) := ⟨_, rfl⟩
      have h := h v0s_4 ev0s_4
      refine J_put C 64 9 inlX9 tyX9 tyX9_ok nmX9 0 56 rfl rfl (by decide) wd473 rfl rfl rfl rfl rfl (List.flatten [bX9 cI cJ cZ a0 r0 v0s_4]) (by subst ev0s_4; rfl) dX9_say_61 rfl ?_
      refine J_aload_n C 65 dX9_say_64 rfl rfl ?_
      refine J_get C 68 9 inlX9 0 56 rfl rfl (by decide) wd473 rfl rfl dX9_say_65 rfl ?_
      exact J_iret C hr hk v0s_4 rfl dX9_say_68 h
    · have h := h.2 c
      refine J_ldc C 33 wd221 dX9_say_31 rfl ?_
      exact J_iret C hr hk v0 rfl dX9_say_33 h
  · have h := h.2 c
    refine J_ldcw C 21 wd548 dX9_say_18 rfl ?_
    exact J_iret C hr hk v0 rfl dX9_say_21 h
def wp_X9_forget (v0 : Vl)  (Q : Int32 → Vl → Prop) : Prop := ∀ x_1 : Int32, x_1 = (v0.1 56) → ∀ v0s_2 : Vl, v0s_2 = setI v0 56 0 → Q x_1 v0s_2
set_option maxHeartbeats 4000000 in
set_option maxRecDepth 100000 in
theorem c_X9_forget (l : Launch) (D : GG) (cI cJ cZ cS : ClassId) (a0 : Nat) (r0 : Nat → Nat) (v0 : Vl)  (Q : Int32 → Vl → Prop) (h : wp_X9_forget v0 Q) : Mi l D (tyL cI cJ cZ cS) yX9_forget cX9_forget 2 .int 0 0 [.ref a0] (List.flatten [bX9 cI cJ cZ a0 r0 v0]) (fun (r : Int32) (u : Vl) => Q r u) (fun (u : Vl) => List.flatten [bX9 cI cJ cZ a0 r0 u]) := by
  refine Mi_of RX9 [(0, .ref a0)] (by decide +kernel) rfl rfl (Nat.le_of_ble_eq_true rfl) ?_
  intro p e s m args below meth c A C hr hk
  refine J_aload_n C 1 dX9_forget_0 rfl rfl ?_
  refine J_get C 4 9 inlX9 0 56 rfl rfl (by decide) wd473 rfl rfl dX9_forget_1 rfl ?_
  obtain ⟨x_1, ex_1⟩ : ∃ z : Int32, z = (v0.1 56) := ⟨_, rfl⟩
  have h := h x_1 ex_1
  refine J_nmi ex_1 ?_
  refine J_istore_n C 5 [(1, .int x_1), (0, .ref a0)] dX9_forget_4 rfl (by decide) rfl ?_
  refine J_aload_n C 6 dX9_forget_5 rfl rfl ?_
  refine J_iconst C 7 dX9_forget_6 rfl ki_0 ?_
  obtain ⟨v0s_2, ev0s_2⟩ : ∃ z : Vl, z = setI v0 56 0 := ⟨_, rfl⟩
  have h := h v0s_2 ev0s_2
  refine J_put C 10 9 inlX9 tyX9 tyX9_ok nmX9 0 56 rfl rfl (by decide) wd473 rfl rfl rfl rfl rfl (List.flatten [bX9 cI cJ cZ a0 r0 v0s_2]) (by subst ev0s_2; rfl) dX9_forget_7 rfl ?_
  refine J_iload_n C 11 dX9_forget_10 rfl rfl ?_
  exact J_iret C hr hk v0s_2 rfl dX9_forget_11 h
def wp_X9_wrongOf_c47 (v0 : Vl) (Q : Int32 → Prop) (B4 : Int32 → Int32 → Int32 → Prop) (y1 : Int32) (y3 : Int32) (s0 : Int32) (s1 : Int32) : Prop := ∀ x_1 : Int32, x_1 = (s1 + s0) → ∀ x_2 : Int32, x_2 = y3 + 1 → B4 y1 x_1 x_2
set_option maxHeartbeats 4000000 in
set_option maxRecDepth 100000 in
theorem wk_X9_wrongOf_c47 {p : Program} {l : Launch} {e : Env} {s : State} {m : MethodId} {args : Array Value} {below : List Frame} {meth : Method} {c : Code} {D : GG} {A : Nat → Prop} {cI cJ cZ cS : ClassId} {a0 : Nat} {r0 : Nat → Nat} {v0 : Vl} {B4 : Int32 → Int32 → Int32 → Prop} {Q : Int32 → Prop} (C : Cx p s m args c D (tyL cI cJ cZ cS) A RX9 cX9_wrongOf 5) (hr : meth.sig.returnType = some .int) (hk : meth.locks = false) (hB4 : ∀ (y1 : Int32) (y2 : Int32) (y3 : Int32), B4 y1 y2 y3 → J p l e (rmk 0 0) s m args below meth c D A 5 0 0 (MQ below (va_Qi (fun (r : Int32) (u : Unit) => Q r) (fun u t => va_P D.1 vwCl ((fun (u : Unit) => List.flatten [bX9 cI cJ cZ a0 r0 v0]) u) t.heap ∧ va_D A ((fun (u : Unit) => List.flatten [bX9 cI cJ cZ a0 r0 v0]) u)) A) args s 0 0 A) 4 [(0, .ref a0), (1, .int y1), (2, .int y2), (3, .int y3)] [] (List.flatten [bX9 cI cJ cZ a0 r0 v0])) : ∀ (y1 : Int32) (y3 : Int32) (s0 : Int32) (s1 : Int32), wp_X9_wrongOf_c47 v0 Q B4 y1 y3 s0 s1 → J p l e (rmk 0 0) s m args below meth c D A 5 0 0 (MQ below (va_Qi (fun (r : Int32) (u : Unit) => Q r) (fun u t => va_P D.1 vwCl ((fun (u : Unit) => List.flatten [bX9 cI cJ cZ a0 r0 v0]) u) t.heap ∧ va_D A ((fun (u : Unit) => List.flatten [bX9 cI cJ cZ a0 r0 v0]) u)) A) args s 0 0 A) 47 [(0, .ref a0), (1, .int y1), (3, .int y3)] [.int s0, .int s1] (List.flatten [bX9 cI cJ cZ a0 r0 v0]) := by
  intro y1 y3 s0 s1 h
  refine J_iadd C 48 dX9_wrongOf_47 rfl ?_
  obtain ⟨x_1, ex_1⟩ : ∃ z : Int32, z = (s1 + s0) := ⟨_, rfl⟩
  have h := h x_1 ex_1
  refine J_nmi ex_1 ?_
  refine J_istore_n C 49 [(2, .int x_1), (0, .ref a0), (1, .int y1), (3, .int y3)] dX9_wrongOf_48 rfl (by decide) rfl ?_
  obtain ⟨x_2, ex_2⟩ : ∃ z : Int32, z = y3 + 1 := ⟨_, rfl⟩
  have h := h x_2 ex_2
  refine J_iinc C 52 [(3, .int x_2), (2, .int x_1), (0, .ref a0), (1, .int y1)] dX9_wrongOf_49 rfl rfl ((kinc_1 _).trans ex_2.symm) (by decide) rfl ?_
  refine J_goto C 4 dX9_wrongOf_52 rfl ?_
  refine J_loc [2, 3, 1, 0] rfl ?_
  exact hB4 y1 x_1 x_2 h
def wp_X9_wrongOf_c28 (v0 : Vl) (Q : Int32 → Prop) (B4 : Int32 → Int32 → Int32 → Prop) (y1 : Int32) (y2 : Int32) (y3 : Int32) (s0 : Int32) : Prop := vp_in y3 12 ∧ (((¬ s0 = (v0.2.2.1 58 (Int32.toNatClampNeg y3)) → wp_X9_wrongOf_c47 v0 Q B4 y1 y3 1 y2) ∧ (s0 = (v0.2.2.1 58 (Int32.toNatClampNeg y3)) → wp_X9_wrongOf_c47 v0 Q B4 y1 y3 0 y2)))
set_option maxHeartbeats 4000000 in
set_option maxRecDepth 100000 in
theorem wk_X9_wrongOf_c28 {p : Program} {l : Launch} {e : Env} {s : State} {m : MethodId} {args : Array Value} {below : List Frame} {meth : Method} {c : Code} {D : GG} {A : Nat → Prop} {cI cJ cZ cS : ClassId} {a0 : Nat} {r0 : Nat → Nat} {v0 : Vl} {B4 : Int32 → Int32 → Int32 → Prop} {Q : Int32 → Prop} (C : Cx p s m args c D (tyL cI cJ cZ cS) A RX9 cX9_wrongOf 5) (hr : meth.sig.returnType = some .int) (hk : meth.locks = false) (hB4 : ∀ (y1 : Int32) (y2 : Int32) (y3 : Int32), B4 y1 y2 y3 → J p l e (rmk 0 0) s m args below meth c D A 5 0 0 (MQ below (va_Qi (fun (r : Int32) (u : Unit) => Q r) (fun u t => va_P D.1 vwCl ((fun (u : Unit) => List.flatten [bX9 cI cJ cZ a0 r0 v0]) u) t.heap ∧ va_D A ((fun (u : Unit) => List.flatten [bX9 cI cJ cZ a0 r0 v0]) u)) A) args s 0 0 A) 4 [(0, .ref a0), (1, .int y1), (2, .int y2), (3, .int y3)] [] (List.flatten [bX9 cI cJ cZ a0 r0 v0])) : ∀ (y1 : Int32) (y2 : Int32) (y3 : Int32) (s0 : Int32), wp_X9_wrongOf_c28 v0 Q B4 y1 y2 y3 s0 → J p l e (rmk 0 0) s m args below meth c D A 5 0 0 (MQ below (va_Qi (fun (r : Int32) (u : Unit) => Q r) (fun u t => va_P D.1 vwCl ((fun (u : Unit) => List.flatten [bX9 cI cJ cZ a0 r0 v0]) u) t.heap ∧ va_D A ((fun (u : Unit) => List.flatten [bX9 cI cJ cZ a0 r0 v0]) u)) A) args s 0 0 A) 28 [(0, .ref a0), (1, .int y1), (2, .int y2), (3, .int y3)] [.int s0] (List.flatten [bX9 cI cJ cZ a0 r0 v0]) := by
  intro y1 y2 y3 s0 h
  refine J_istore C 30 [(4, .int s0), (0, .ref a0), (1, .int y1), (2, .int y2), (3, .int y3)] dX9_wrongOf_28 rfl (by decide) rfl ?_
  refine J_iload_n C 31 dX9_wrongOf_30 rfl rfl ?_
  refine J_iload C 33 dX9_wrongOf_31 rfl rfl ?_
  refine J_aload_n C 34 dX9_wrongOf_33 rfl rfl ?_
  refine J_get C 37 9 inlX9 0 58 rfl rfl (by decide) wd184 rfl rfl dX9_wrongOf_34 rfl ?_
  refine J_iload_n C 38 dX9_wrongOf_37 rfl rfl ?_
  obtain ⟨hi, h⟩ := h
  refine J_zald C 39 26 2 rfl rfl hi dX9_wrongOf_38 rfl ?_
  refine J_icmp_ne C 42 46 dX9_wrongOf_39 rfl rfl (fun c => ?_) (fun c => ?_)
  · have h := h.1 c
    refine J_iconst C 47 dX9_wrongOf_46 rfl ki_1 ?_
    refine J_loc [1, 2, 4] rfl ?_
    exact wk_X9_wrongOf_c47 C hr hk hB4 y1 y3 1 y2 h
  · have h := h.2 c
    refine J_iconst C 43 dX9_wrongOf_42 rfl ki_0 ?_
    refine J_goto C 47 dX9_wrongOf_43 rfl ?_
    refine J_loc [1, 2, 4] rfl ?_
    exact wk_X9_wrongOf_c47 C hr hk hB4 y1 y3 0 y2 h
def wp_X9_wrongOf_c4 (v0 : Vl) (Q : Int32 → Prop) : Nat → Int32 → Int32 → Int32 → Prop
  | 0 => fun _ _ _ => False
  | n + 1 => fun y1 y2 y3 => (((v0.1 56) ≤ y3 → Q y2) ∧ (¬ (v0.1 56) ≤ y3 → vp_in y3 12 ∧ (((¬ ((v0.2.2.1 57 (Int32.toNatClampNeg y3)) &&& y1) = 0 → wp_X9_wrongOf_c28 v0 Q (wp_X9_wrongOf_c4 v0 Q n) y1 y2 y3 0) ∧ (((v0.2.2.1 57 (Int32.toNatClampNeg y3)) &&& y1) = 0 → wp_X9_wrongOf_c28 v0 Q (wp_X9_wrongOf_c4 v0 Q n) y1 y2 y3 1)))))
set_option maxHeartbeats 4000000 in
set_option maxRecDepth 100000 in
theorem wk_X9_wrongOf_c4 {p : Program} {l : Launch} {e : Env} {s : State} {m : MethodId} {args : Array Value} {below : List Frame} {meth : Method} {c : Code} {D : GG} {A : Nat → Prop} {cI cJ cZ cS : ClassId} {a0 : Nat} {r0 : Nat → Nat} {v0 : Vl} {Q : Int32 → Prop} (C : Cx p s m args c D (tyL cI cJ cZ cS) A RX9 cX9_wrongOf 5) (hr : meth.sig.returnType = some .int) (hk : meth.locks = false) : ∀ (n : Nat) (y1 : Int32) (y2 : Int32) (y3 : Int32), wp_X9_wrongOf_c4 v0 Q n y1 y2 y3 → J p l e (rmk 0 0) s m args below meth c D A 5 0 0 (MQ below (va_Qi (fun (r : Int32) (u : Unit) => Q r) (fun u t => va_P D.1 vwCl ((fun (u : Unit) => List.flatten [bX9 cI cJ cZ a0 r0 v0]) u) t.heap ∧ va_D A ((fun (u : Unit) => List.flatten [bX9 cI cJ cZ a0 r0 v0]) u)) A) args s 0 0 A) 4 [(0, .ref a0), (1, .int y1), (2, .int y2), (3, .int y3)] [] (List.flatten [bX9 cI cJ cZ a0 r0 v0]) := by
  intro n
  induction n with
  | zero =>
    intro y1 y2 y3 h
    exact False.elim h
  | succ n ih =>
    intro y1 y2 y3 h
    refine J_iload_n C 5 dX9_wrongOf_4 rfl rfl ?_
    refine J_aload_n C 6 dX9_wrongOf_5 rfl rfl ?_
    refine J_get C 9 9 inlX9 0 56 rfl rfl (by decide) wd473 rfl rfl dX9_wrongOf_6 rfl ?_
    refine J_icmp_ge C 12 55 dX9_wrongOf_9 rfl rfl (fun c => ?_) (fun c => ?_)
    · have h := h.1 c
      refine J_iload_n C 56 dX9_wrongOf_55 rfl rfl ?_
      exact J_iret C hr hk () rfl dX9_wrongOf_56 h
    · have h := h.2 c
      refine J_aload_n C 13 dX9_wrongOf_12 rfl rfl ?_
      refine J_get C 16 9 inlX9 0 57 rfl rfl (by decide) wd183 rfl rfl dX9_wrongOf_13 rfl ?_
      refine J_iload_n C 17 dX9_wrongOf_16 rfl rfl ?_
      obtain ⟨hi, h⟩ := h
      refine J_iald C 18 25 0 rfl rfl hi dX9_wrongOf_17 rfl ?_
      refine J_iload_n C 19 dX9_wrongOf_18 rfl rfl ?_
      refine J_iand C 20 dX9_wrongOf_19 rfl ?_
      refine J_if_ne C 23 27 dX9_wrongOf_20 rfl rfl (fun c => ?_) (fun c => ?_)
      · have h := h.1 c
        refine J_iconst C 28 dX9_wrongOf_27 rfl ki_0 ?_
        refine J_loc [0, 1, 2, 3] rfl ?_
        exact wk_X9_wrongOf_c28 C hr hk ih y1 y2 y3 0 h
      · have h := h.2 c
        refine J_iconst C 24 dX9_wrongOf_23 rfl ki_1 ?_
        refine J_goto C 28 dX9_wrongOf_24 rfl ?_
        refine J_loc [0, 1, 2, 3] rfl ?_
        exact wk_X9_wrongOf_c28 C hr hk ih y1 y2 y3 1 h
def wp_X9_wrongOf (v0 : Vl) (x1 : Int32) (Q : Int32 → Prop) : Prop := (∃ k : Nat, wp_X9_wrongOf_c4 v0 Q k x1 0 0)
set_option maxHeartbeats 4000000 in
set_option maxRecDepth 100000 in
theorem c_X9_wrongOf (l : Launch) (D : GG) (cI cJ cZ cS : ClassId) (a0 : Nat) (r0 : Nat → Nat) (v0 : Vl) (x1 : Int32) (Q : Int32 → Prop) (h : wp_X9_wrongOf v0 x1 Q) : Mi l D (tyL cI cJ cZ cS) yX9_wrongOf cX9_wrongOf 5 .int 0 0 [.ref a0, .int x1] (List.flatten [bX9 cI cJ cZ a0 r0 v0]) (fun (r : Int32) (u : Unit) => Q r) (fun (u : Unit) => List.flatten [bX9 cI cJ cZ a0 r0 v0]) := by
  refine Mi_of RX9 [(0, .ref a0), (1, .int x1)] (by decide +kernel) rfl rfl (Nat.le_of_ble_eq_true rfl) ?_
  intro p e s m args below meth c A C hr hk
  refine J_iconst C 1 dX9_wrongOf_0 rfl ki_0 ?_
  refine J_istore_n C 2 [(2, .int 0), (0, .ref a0), (1, .int x1)] dX9_wrongOf_1 rfl (by decide) rfl ?_
  refine J_iconst C 3 dX9_wrongOf_2 rfl ki_0 ?_
  refine J_istore_n C 4 [(3, .int 0), (2, .int 0), (0, .ref a0), (1, .int x1)] dX9_wrongOf_3 rfl (by decide) rfl ?_
  refine J_loc [2, 3, 1, 0] rfl ?_
  obtain ⟨n1, h⟩ := h
  exact wk_X9_wrongOf_c4 C hr hk n1 x1 0 0 h
def wp_X9_out_c105 (v0 : Vl) (Q : Int32 → Prop) (B58 : Int32 → Int32 → Int32 → Int32 → Int32 → Int32 → Int32 → Prop) (y1 : Int32) (y2 : Int32) (y3 : Int32) (y4 : Int32) (y5 : Int32) (y6 : Int32) (y7 : Int32) : Prop := ∀ x_6 : Int32, x_6 = y7 + 1 → B58 y1 y2 y3 y4 y5 y6 x_6
set_option maxHeartbeats 4000000 in
set_option maxRecDepth 100000 in
theorem wk_X9_out_c105 {p : Program} {l : Launch} {e : Env} {s : State} {m : MethodId} {args : Array Value} {below : List Frame} {meth : Method} {c : Code} {D : GG} {A : Nat → Prop} {cI cJ cZ cS : ClassId} {a0 : Nat} {r0 : Nat → Nat} {v0 : Vl} {B58 : Int32 → Int32 → Int32 → Int32 → Int32 → Int32 → Int32 → Prop} {Q : Int32 → Prop} (C : Cx p s m args c D (tyL cI cJ cZ cS) A RX9 cX9_out 8) (hr : meth.sig.returnType = some .int) (hk : meth.locks = false) (hB58 : ∀ (y1 : Int32) (y2 : Int32) (y3 : Int32) (y4 : Int32) (y5 : Int32) (y6 : Int32) (y7 : Int32), B58 y1 y2 y3 y4 y5 y6 y7 → J p l e (rmk 1 25) s m args below meth c D A 8 0 0 (MQ below (va_Qi (fun (r : Int32) (u : Unit) => Q r) (fun u t => va_P D.1 vwCl ((fun (u : Unit) => List.flatten [bX9 cI cJ cZ a0 r0 v0]) u) t.heap ∧ va_D A ((fun (u : Unit) => List.flatten [bX9 cI cJ cZ a0 r0 v0]) u)) A) args s 0 0 A) 58 [(0, .ref a0), (1, .int y1), (2, .int y2), (3, .int y3), (4, .int y4), (5, .int y5), (6, .int y6), (7, .int y7)] [] (List.flatten [bX9 cI cJ cZ a0 r0 v0])) : ∀ (y1 : Int32) (y2 : Int32) (y3 : Int32) (y4 : Int32) (y5 : Int32) (y6 : Int32) (y7 : Int32), wp_X9_out_c105 v0 Q B58 y1 y2 y3 y4 y5 y6 y7 → J p l e (rmk 1 25) s m args below meth c D A 8 0 0 (MQ below (va_Qi (fun (r : Int32) (u : Unit) => Q r) (fun u t => va_P D.1 vwCl ((fun (u : Unit) => List.flatten [bX9 cI cJ cZ a0 r0 v0]) u) t.heap ∧ va_D A ((fun (u : Unit) => List.flatten [bX9 cI cJ cZ a0 r0 v0]) u)) A) args s 0 0 A) 105 [(0, .ref a0), (1, .int y1), (2, .int y2), (3, .int y3), (4, .int y4), (5, .int y5), (6, .int y6), (7, .int y7)] [] (List.flatten [bX9 cI cJ cZ a0 r0 v0]) := by
  intro y1 y2 y3 y4 y5 y6 y7 h
  obtain ⟨x_6, ex_6⟩ : ∃ z : Int32, z = y7 + 1 := ⟨_, rfl⟩
  have h := h x_6 ex_6
  refine J_iinc C 108 [(7, .int x_6), (0, .ref a0), (1, .int y1), (2, .int y2), (3, .int y3), (4, .int y4), (5, .int y5), (6, .int y6)] dX9_out_105 rfl rfl ((kinc_1 _).trans ex_6.symm) (by decide) rfl ?_
  refine J_goto C 58 dX9_out_108 rfl ?_
  refine J_loc [1, 2, 3, 4, 5, 6, 7, 0] rfl ?_
  exact hB58 y1 y2 y3 y4 y5 y6 x_6 h
def wp_X9_out_c58 (v0 : Vl) (Q : Int32 → Prop) : Nat → Int32 → Int32 → Int32 → Int32 → Int32 → Int32 → Int32 → Prop
  | 0 => fun _ _ _ _ _ _ _ => False
  | n + 1 => fun y1 y2 y3 y4 y5 y6 y7 => (((1 <<< ((v0.1 0) &&& 31)) ≤ y7 → ((¬ y3 = 0 → ((¬ y4 = 0 → ((¬ y3 = 1 → Q y6) ∧ (y3 = 1 → Q y5))) ∧ (y4 = 0 → Q (-1)))) ∧ (y3 = 0 → Q y4))) ∧ (¬ (1 <<< ((v0.1 0) &&& 31)) ≤ y7 → wp_X9_bits y7 (fun r_5 => ((¬ r_5 = y1 → wp_X9_out_c105 v0 Q (wp_X9_out_c58 v0 Q n) y1 y2 y3 y4 y5 y6 y7) ∧ (r_5 = y1 → wp_X9_wrongOf v0 y7 (fun r_7 => ((y2 < r_7 → wp_X9_out_c105 v0 Q (wp_X9_out_c58 v0 Q n) y1 y2 y3 y4 y5 y6 y7) ∧ (¬ y2 < r_7 → ∀ x_8 : Int32, x_8 = y4 + 1 → ∀ x_9 : Int32, x_9 = (y5 &&& y7) → ∀ x_10 : Int32, x_10 = (y6 ||| y7) → wp_X9_out_c105 v0 Q (wp_X9_out_c58 v0 Q n) y1 y2 y3 x_8 x_9 x_10 y7))))))))
set_option maxHeartbeats 4000000 in
set_option maxRecDepth 100000 in
theorem wk_X9_out_c58 {p : Program} {l : Launch} {e : Env} {s : State} {m : MethodId} {args : Array Value} {below : List Frame} {meth : Method} {c : Code} {D : GG} {A : Nat → Prop} {cI cJ cZ cS : ClassId} {a0 : Nat} {r0 : Nat → Nat} {v0 : Vl} {Q : Int32 → Prop} (C : Cx p s m args c D (tyL cI cJ cZ cS) A RX9 cX9_out 8) (hr : meth.sig.returnType = some .int) (hk : meth.locks = false) : ∀ (n : Nat) (y1 : Int32) (y2 : Int32) (y3 : Int32) (y4 : Int32) (y5 : Int32) (y6 : Int32) (y7 : Int32), wp_X9_out_c58 v0 Q n y1 y2 y3 y4 y5 y6 y7 → J p l e (rmk 1 25) s m args below meth c D A 8 0 0 (MQ below (va_Qi (fun (r : Int32) (u : Unit) => Q r) (fun u t => va_P D.1 vwCl ((fun (u : Unit) => List.flatten [bX9 cI cJ cZ a0 r0 v0]) u) t.heap ∧ va_D A ((fun (u : Unit) => List.flatten [bX9 cI cJ cZ a0 r0 v0]) u)) A) args s 0 0 A) 58 [(0, .ref a0), (1, .int y1), (2, .int y2), (3, .int y3), (4, .int y4), (5, .int y5), (6, .int y6), (7, .int y7)] [] (List.flatten [bX9 cI cJ cZ a0 r0 v0]) := by
  intro n
  induction n with
  | zero =>
    intro y1 y2 y3 y4 y5 y6 y7 h
    exact False.elim h
  | succ n ih =>
    intro y1 y2 y3 y4 y5 y6 y7 h
    refine J_iload C 60 dX9_out_58 rfl rfl ?_
    refine J_iconst C 61 dX9_out_60 rfl ki_1 ?_
    refine J_aload_n C 62 dX9_out_61 rfl rfl ?_
    refine J_get C 65 9 inlX9 0 0 rfl rfl (by decide) wd191 rfl rfl dX9_out_62 rfl ?_
    refine J_ishl C 66 dX9_out_65 rfl ?_
    refine J_icmp_ge C 69 111 dX9_out_66 rfl rfl (fun c => ?_) (fun c => ?_)
    · have h := h.1 c
      refine J_iload_n C 112 dX9_out_111 rfl rfl ?_
      refine J_if_ne C 115 120 dX9_out_112 rfl rfl (fun c => ?_) (fun c => ?_)
      · have h := h.1 c
        refine J_iload C 122 dX9_out_120 rfl rfl ?_
        refine J_if_ne C 125 129 dX9_out_122 rfl rfl (fun c => ?_) (fun c => ?_)
        · have h := h.1 c
          refine J_iload_n C 130 dX9_out_129 rfl rfl ?_
          refine J_iconst C 131 dX9_out_130 rfl ki_1 ?_
          refine J_icmp_ne C 134 139 dX9_out_131 rfl rfl (fun c => ?_) (fun c => ?_)
          · have h := h.1 c
            refine J_iload C 141 dX9_out_139 rfl rfl ?_
            exact J_iret C hr hk () rfl dX9_out_141 h
          · have h := h.2 c
            refine J_iload C 136 dX9_out_134 rfl rfl ?_
            refine J_goto C 141 dX9_out_136 rfl ?_
            exact J_iret C hr hk () rfl dX9_out_141 h
        · have h := h.2 c
          refine J_iconst C 126 dX9_out_125 rfl ki_m1 ?_
          refine J_goto C 141 dX9_out_126 rfl ?_
          exact J_iret C hr hk () rfl dX9_out_141 h
      · have h := h.2 c
        refine J_iload C 117 dX9_out_115 rfl rfl ?_
        refine J_goto C 141 dX9_out_117 rfl ?_
        exact J_iret C hr hk () rfl dX9_out_141 h
    · have h := h.2 c
      refine J_iload C 71 dX9_out_69 rfl rfl ?_
      refine J_callBiS (Bs := [bX9 cI cJ cZ a0 r0 v0]) (As := [.int y7]) C 74 (c_X9_bits l D cI cJ cZ cS y7 _ h) wd973 wd971 wd5 wd972 hdX9_bits ⟨Nat.le_of_ble_eq_true rfl, Nat.le_of_ble_eq_true rfl⟩ ⟨Nat.zero_le _, Nat.zero_le _⟩ rfl (Nat.le_of_ble_eq_true rfl) [] [0] 1 rfl (by decide +kernel) rfl rfl (fun (u : Unit) => ([] : List va_W)) (fun _ => rfl) [0] (by decide +kernel) (fun _ => rfl) rfl (fun (u : Unit) => [bX9 cI cJ cZ a0 r0 v0]) (fun _ => rfl) dX9_out_71 rfl (fun r_5 u h => ?_)
      refine J_iload_n C 75 dX9_out_74 rfl rfl ?_
      refine J_icmp_ne C 78 105 dX9_out_75 rfl rfl (fun c => ?_) (fun c => ?_)
      · have h := h.1 c
        refine J_loc [0, 1, 2, 3, 4, 5, 6, 7] rfl ?_
        exact wk_X9_out_c105 C hr hk ih y1 y2 y3 y4 y5 y6 y7 h
      · have h := h.2 c
        refine J_aload_n C 79 dX9_out_78 rfl rfl ?_
        refine J_iload C 81 dX9_out_79 rfl rfl ?_
        refine J_callBiV (Bs := [bX9 cI cJ cZ a0 r0 v0]) (As := [.int y7]) C 84 (c_X9_wrongOf l D cI cJ cZ cS a0 r0 v0 y7 _ h) wd977 wd974 wd5 wd975 wd976 9 0 rfl rfl rfl hdX9_wrongOf ⟨Nat.le_of_ble_eq_true rfl, Nat.le_of_ble_eq_true rfl⟩ ⟨Nat.zero_le _, Nat.zero_le _⟩ rfl (Nat.le_of_ble_eq_true rfl) [0] [] 1 rfl (by decide +kernel) rfl rfl (fun (u : Unit) => [bX9 cI cJ cZ a0 r0 v0]) (fun _ => rfl) [0] (by decide +kernel) (fun _ => rfl) rfl (fun (u : Unit) => [bX9 cI cJ cZ a0 r0 v0]) (fun _ => rfl) dX9_out_81 rfl (fun r_7 u h => ?_)
        refine J_iload_n C 85 dX9_out_84 rfl rfl ?_
        refine J_icmp_gt C 88 105 dX9_out_85 rfl rfl (fun c => ?_) (fun c => ?_)
        · have h := h.1 c
          refine J_loc [0, 1, 2, 3, 4, 5, 6, 7] rfl ?_
          exact wk_X9_out_c105 C hr hk ih y1 y2 y3 y4 y5 y6 y7 h
        · have h := h.2 c
          obtain ⟨x_8, ex_8⟩ : ∃ z : Int32, z = y4 + 1 := ⟨_, rfl⟩
          have h := h x_8 ex_8
          refine J_iinc C 91 [(4, .int x_8), (0, .ref a0), (1, .int y1), (2, .int y2), (3, .int y3), (5, .int y5), (6, .int y6), (7, .int y7)] dX9_out_88 rfl rfl ((kinc_1 _).trans ex_8.symm) (by decide) rfl ?_
          refine J_iload C 93 dX9_out_91 rfl rfl ?_
          refine J_iload C 95 dX9_out_93 rfl rfl ?_
          refine J_iand C 96 dX9_out_95 rfl ?_
          obtain ⟨x_9, ex_9⟩ : ∃ z : Int32, z = (y5 &&& y7) := ⟨_, rfl⟩
          have h := h x_9 ex_9
          refine J_nmi ex_9 ?_
          refine J_istore C 98 [(5, .int x_9), (4, .int x_8), (0, .ref a0), (1, .int y1), (2, .int y2), (3, .int y3), (6, .int y6), (7, .int y7)] dX9_out_96 rfl (by decide) rfl ?_
          refine J_iload C 100 dX9_out_98 rfl rfl ?_
          refine J_iload C 102 dX9_out_100 rfl rfl ?_
          refine J_ior C 103 dX9_out_102 rfl ?_
          obtain ⟨x_10, ex_10⟩ : ∃ z : Int32, z = (y6 ||| y7) := ⟨_, rfl⟩
          have h := h x_10 ex_10
          refine J_nmi ex_10 ?_
          refine J_istore C 105 [(6, .int x_10), (5, .int x_9), (4, .int x_8), (0, .ref a0), (1, .int y1), (2, .int y2), (3, .int y3), (7, .int y7)] dX9_out_103 rfl (by decide) rfl ?_
          refine J_loc [3, 4, 5, 6, 2, 1, 0, 7] rfl ?_
          exact wk_X9_out_c105 C hr hk ih y1 y2 y3 x_8 x_9 x_10 y7 h
def wp_X9_out (v0 : Vl) (x1 : Int32) (x2 : Int32) (x3 : Int32) (Q : Int32 → Prop) : Prop := wp_X9_in (Int32.toInt64 x1) 0 9 (fun r_1 => ((r_1 = 0 → Q (-1000000002)) ∧ (¬ r_1 = 0 → wp_X9_in (Int32.toInt64 x2) 0 12 (fun r_2 => ((r_2 = 0 → Q (-1000000002)) ∧ (¬ r_2 = 0 → wp_X9_in (Int32.toInt64 x3) 0 2 (fun r_3 => ((¬ r_3 = 0 → ∀ x_4 : Int32, x_4 = ((1 <<< ((v0.1 0) &&& 31)) - 1) → (∃ k : Nat, wp_X9_out_c58 v0 Q k x1 x2 x3 0 x_4 0 0)) ∧ (r_3 = 0 → Q (-1000000002))))))))))
set_option maxHeartbeats 4000000 in
set_option maxRecDepth 100000 in
theorem c_X9_out (l : Launch) (D : GG) (cI cJ cZ cS : ClassId) (a0 : Nat) (r0 : Nat → Nat) (v0 : Vl) (x1 : Int32) (x2 : Int32) (x3 : Int32) (Q : Int32 → Prop) (h : wp_X9_out v0 x1 x2 x3 Q) : Mi l D (tyL cI cJ cZ cS) yX9_out cX9_out 8 .int 1 25 [.ref a0, .int x1, .int x2, .int x3] (List.flatten [bX9 cI cJ cZ a0 r0 v0]) (fun (r : Int32) (u : Unit) => Q r) (fun (u : Unit) => List.flatten [bX9 cI cJ cZ a0 r0 v0]) := by
  refine Mi_of RX9 [(0, .ref a0), (1, .int x1), (2, .int x2), (3, .int x3)] (by decide +kernel) rfl rfl (Nat.le_of_ble_eq_true rfl) ?_
  intro p e s m args below meth c A C hr hk
  refine J_iload_n C 1 dX9_out_0 rfl rfl ?_
  refine J_i2l C 2 dX9_out_1 rfl ?_
  refine J_lconst C 3 dX9_out_2 rfl kl_0 ?_
  refine J_ldc2 C 6 wd969 dX9_out_3 rfl ?_
  refine J_callBiS (Bs := [bX9 cI cJ cZ a0 r0 v0]) (As := [.long (Int32.toInt64 x1), .long 0, .long 9]) C 9 (c_X9_in l D cI cJ cZ cS (Int32.toInt64 x1) 0 9 _ h) wd225 wd223 wd5 wd224 hdX9_in ⟨Nat.le_of_ble_eq_true rfl, Nat.le_of_ble_eq_true rfl⟩ ⟨Nat.zero_le _, Nat.zero_le _⟩ rfl (Nat.le_of_ble_eq_true rfl) [] [0] 1 rfl (by decide +kernel) rfl rfl (fun (u : Unit) => ([] : List va_W)) (fun _ => rfl) [0] (by decide +kernel) (fun _ => rfl) rfl (fun (u : Unit) => [bX9 cI cJ cZ a0 r0 v0]) (fun _ => rfl) dX9_out_6 rfl (fun r_1 u h => ?_)
  refine J_if_eq C 12 36 dX9_out_9 rfl rfl (fun c => ?_) (fun c => ?_)
  · have h := h.1 c
    refine J_ldc C 38 wd219 dX9_out_36 rfl ?_
    exact J_iret C hr hk () rfl dX9_out_38 h
  · have h := h.2 c
    refine J_iload_n C 13 dX9_out_12 rfl rfl ?_
    refine J_i2l C 14 dX9_out_13 rfl ?_
    refine J_lconst C 15 dX9_out_14 rfl kl_0 ?_
    refine J_ldc2 C 18 wd970 dX9_out_15 rfl ?_
    refine J_callBiS (Bs := [bX9 cI cJ cZ a0 r0 v0]) (As := [.long (Int32.toInt64 x2), .long 0, .long 12]) C 21 (c_X9_in l D cI cJ cZ cS (Int32.toInt64 x2) 0 12 _ h) wd225 wd223 wd5 wd224 hdX9_in ⟨Nat.le_of_ble_eq_true rfl, Nat.le_of_ble_eq_true rfl⟩ ⟨Nat.zero_le _, Nat.zero_le _⟩ rfl (Nat.le_of_ble_eq_true rfl) [] [0] 1 rfl (by decide +kernel) rfl rfl (fun (u : Unit) => ([] : List va_W)) (fun _ => rfl) [0] (by decide +kernel) (fun _ => rfl) rfl (fun (u : Unit) => [bX9 cI cJ cZ a0 r0 v0]) (fun _ => rfl) dX9_out_18 rfl (fun r_2 u h => ?_)
    refine J_if_eq C 24 36 dX9_out_21 rfl rfl (fun c => ?_) (fun c => ?_)
    · have h := h.1 c
      refine J_ldc C 38 wd219 dX9_out_36 rfl ?_
      exact J_iret C hr hk () rfl dX9_out_38 h
    · have h := h.2 c
      refine J_iload_n C 25 dX9_out_24 rfl rfl ?_
      refine J_i2l C 26 dX9_out_25 rfl ?_
      refine J_lconst C 27 dX9_out_26 rfl kl_0 ?_
      refine J_ldc2 C 30 wd588 dX9_out_27 rfl ?_
      refine J_callBiS (Bs := [bX9 cI cJ cZ a0 r0 v0]) (As := [.long (Int32.toInt64 x3), .long 0, .long 2]) C 33 (c_X9_in l D cI cJ cZ cS (Int32.toInt64 x3) 0 2 _ h) wd225 wd223 wd5 wd224 hdX9_in ⟨Nat.le_of_ble_eq_true rfl, Nat.le_of_ble_eq_true rfl⟩ ⟨Nat.zero_le _, Nat.zero_le _⟩ rfl (Nat.le_of_ble_eq_true rfl) [] [0] 1 rfl (by decide +kernel) rfl rfl (fun (u : Unit) => ([] : List va_W)) (fun _ => rfl) [0] (by decide +kernel) (fun _ => rfl) rfl (fun (u : Unit) => [bX9 cI cJ cZ a0 r0 v0]) (fun _ => rfl) dX9_out_30 rfl (fun r_3 u h => ?_)
      refine J_if_ne C 36 39 dX9_out_33 rfl rfl (fun c => ?_) (fun c => ?_)
      · have h := h.1 c
        refine J_iconst C 40 dX9_out_39 rfl ki_0 ?_
        refine J_istore C 42 [(4, .int 0), (0, .ref a0), (1, .int x1), (2, .int x2), (3, .int x3)] dX9_out_40 rfl (by decide) rfl ?_
        refine J_iconst C 43 dX9_out_42 rfl ki_1 ?_
        refine J_aload_n C 44 dX9_out_43 rfl rfl ?_
        refine J_get C 47 9 inlX9 0 0 rfl rfl (by decide) wd191 rfl rfl dX9_out_44 rfl ?_
        refine J_ishl C 48 dX9_out_47 rfl ?_
        refine J_iconst C 49 dX9_out_48 rfl ki_1 ?_
        refine J_isub C 50 dX9_out_49 rfl ?_
        obtain ⟨x_4, ex_4⟩ : ∃ z : Int32, z = ((1 <<< ((v0.1 0) &&& 31)) - 1) := ⟨_, rfl⟩
        have h := h x_4 ex_4
        refine J_nmi ex_4 ?_
        refine J_istore C 52 [(5, .int x_4), (4, .int 0), (0, .ref a0), (1, .int x1), (2, .int x2), (3, .int x3)] dX9_out_50 rfl (by decide) rfl ?_
        refine J_iconst C 53 dX9_out_52 rfl ki_0 ?_
        refine J_istore C 55 [(6, .int 0), (5, .int x_4), (4, .int 0), (0, .ref a0), (1, .int x1), (2, .int x2), (3, .int x3)] dX9_out_53 rfl (by decide) rfl ?_
        refine J_iconst C 56 dX9_out_55 rfl ki_0 ?_
        refine J_istore C 58 [(7, .int 0), (6, .int 0), (5, .int x_4), (4, .int 0), (0, .ref a0), (1, .int x1), (2, .int x2), (3, .int x3)] dX9_out_56 rfl (by decide) rfl ?_
        refine J_loc [4, 5, 6, 7, 3, 2, 1, 0] rfl ?_
        obtain ⟨n1, h⟩ := h
        exact wk_X9_out_c58 C hr hk n1 x1 x2 x3 0 x_4 0 0 h
      · have h := h.2 c
        refine J_ldc C 38 wd219 dX9_out_36 rfl ?_
        exact J_iret C hr hk () rfl dX9_out_38 h
def wp_X9_write (v0 : Vl) (x1 : Int32) (x2 : Int32) (Q : Int32 → Vl → Prop) : Prop := wp_X9_isLight v0 x1 (fun r_1 => ((¬ r_1 = 0 → wp_X9_in (Int32.toInt64 x2) 0 99999 (fun r_2 => ((¬ r_2 = 0 → vp_in x1 9 ∧ (((¬ (v0.2.2.1 59 (Int32.toNatClampNeg x1)) = 40 → vp_in x1 9 ∧ (vp_in ((40 * x1) + (v0.2.2.1 59 (Int32.toNatClampNeg x1))) 360 ∧ (∀ v0s_3 : Vl, v0s_3 = setA v0 60 (Int32.toNatClampNeg ((40 * x1) + (v0.2.2.1 59 (Int32.toNatClampNeg x1)))) x2 → vp_in x1 9 ∧ (vp_in x1 9 ∧ (∀ v0s_4 : Vl, v0s_4 = setA v0s_3 59 (Int32.toNatClampNeg x1) ((v0s_3.2.2.1 59 (Int32.toNatClampNeg x1)) + 1) → vp_in x1 9 ∧ (Q (v0s_4.2.2.1 59 (Int32.toNatClampNeg x1)) v0s_4)))))) ∧ ((v0.2.2.1 59 (Int32.toNatClampNeg x1)) = 40 → Q (-1000000004) v0)))) ∧ (r_2 = 0 → Q (-1000000002) v0)))) ∧ (r_1 = 0 → Q (-1000000001) v0)))
set_option maxHeartbeats 4000000 in
set_option maxRecDepth 100000 in
theorem c_X9_write (l : Launch) (D : GG) (cI cJ cZ cS : ClassId) (a0 : Nat) (r0 : Nat → Nat) (v0 : Vl) (x1 : Int32) (x2 : Int32) (Q : Int32 → Vl → Prop) (h : wp_X9_write v0 x1 x2 Q) : Mi l D (tyL cI cJ cZ cS) yX9_write cX9_write 3 .int 2 46 [.ref a0, .int x1, .int x2] (List.flatten [bX9 cI cJ cZ a0 r0 v0]) (fun (r : Int32) (u : Vl) => Q r u) (fun (u : Vl) => List.flatten [bX9 cI cJ cZ a0 r0 u]) := by
  refine Mi_of RX9 [(0, .ref a0), (1, .int x1), (2, .int x2)] (by decide +kernel) rfl rfl (Nat.le_of_ble_eq_true rfl) ?_
  intro p e s m args below meth c A C hr hk
  refine J_aload_n C 1 dX9_write_0 rfl rfl ?_
  refine J_iload_n C 2 dX9_write_1 rfl rfl ?_
  refine J_callBiV (Bs := [bX9 cI cJ cZ a0 r0 v0]) (As := [.int x1]) C 5 (c_X9_isLight l D cI cJ cZ cS a0 r0 v0 x1 _ h) wd552 wd549 wd5 wd550 wd551 9 0 rfl rfl rfl hdX9_isLight ⟨Nat.le_of_ble_eq_true rfl, Nat.le_of_ble_eq_true rfl⟩ ⟨Nat.zero_le _, Nat.zero_le _⟩ rfl (Nat.le_of_ble_eq_true rfl) [0] [] 1 rfl (by decide +kernel) rfl rfl (fun (u : Unit) => [bX9 cI cJ cZ a0 r0 v0]) (fun _ => rfl) [0] (by decide +kernel) (fun _ => rfl) rfl (fun (u : Unit) => [bX9 cI cJ cZ a0 r0 v0]) (fun _ => rfl) dX9_write_2 rfl (fun r_1 u h => ?_)
  refine J_if_ne C 8 12 dX9_write_5 rfl rfl (fun c => ?_) (fun c => ?_)
  · have h := h.1 c
    refine J_iload_n C 13 dX9_write_12 rfl rfl ?_
    refine J_i2l C 14 dX9_write_13 rfl ?_
    refine J_lconst C 15 dX9_write_14 rfl kl_0 ?_
    refine J_ldc2 C 18 wd844 dX9_write_15 rfl ?_
    refine J_callBiS (Bs := [bX9 cI cJ cZ a0 r0 v0]) (As := [.long (Int32.toInt64 x2), .long 0, .long 99999]) C 21 (c_X9_in l D cI cJ cZ cS (Int32.toInt64 x2) 0 99999 _ h) wd225 wd223 wd5 wd224 hdX9_in ⟨Nat.le_of_ble_eq_true rfl, Nat.le_of_ble_eq_true rfl⟩ ⟨Nat.zero_le _, Nat.zero_le _⟩ rfl (Nat.le_of_ble_eq_true rfl) [] [0] 1 rfl (by decide +kernel) rfl rfl (fun (u : Unit) => ([] : List va_W)) (fun _ => rfl) [0] (by decide +kernel) (fun _ => rfl) rfl (fun (u : Unit) => [bX9 cI cJ cZ a0 r0 v0]) (fun _ => rfl) dX9_write_18 rfl (fun r_2 u h => ?_)
    refine J_if_ne C 24 27 dX9_write_21 rfl rfl (fun c => ?_) (fun c => ?_)
    · have h := h.1 c
      refine J_aload_n C 28 dX9_write_27 rfl rfl ?_
      refine J_get C 31 9 inlX9 0 59 rfl rfl (by decide) wd185 rfl rfl dX9_write_28 rfl ?_
      refine J_iload_n C 32 dX9_write_31 rfl rfl ?_
      obtain ⟨hi, h⟩ := h
      refine J_iald C 33 27 0 rfl rfl hi dX9_write_32 rfl ?_
      refine J_bipush C 35 dX9_write_33 rfl kb_40 ?_
      refine J_icmp_ne C 38 41 dX9_write_35 rfl rfl (fun c => ?_) (fun c => ?_)
      · have h := h.1 c
        refine J_aload_n C 42 dX9_write_41 rfl rfl ?_
        refine J_get C 45 9 inlX9 0 60 rfl rfl (by decide) wd186 rfl rfl dX9_write_42 rfl ?_
        refine J_bipush C 47 dX9_write_45 rfl kb_40 ?_
        refine J_iload_n C 48 dX9_write_47 rfl rfl ?_
        refine J_imul C 49 dX9_write_48 rfl ?_
        refine J_aload_n C 50 dX9_write_49 rfl rfl ?_
        refine J_get C 53 9 inlX9 0 59 rfl rfl (by decide) wd185 rfl rfl dX9_write_50 rfl ?_
        refine J_iload_n C 54 dX9_write_53 rfl rfl ?_
        obtain ⟨hi, h⟩ := h
        refine J_iald C 55 27 0 rfl rfl hi dX9_write_54 rfl ?_
        refine J_iadd C 56 dX9_write_55 rfl ?_
        refine J_iload_n C 57 dX9_write_56 rfl rfl ?_
        obtain ⟨hi, h⟩ := h
        obtain ⟨v0s_3, ev0s_3⟩ : ∃ z : Vl, z = setA v0 60 (Int32.toNatClampNeg ((40 * x1) + (v0.2.2.1 59 (Int32.toNatClampNeg x1)))) x2 := ⟨_, rfl⟩
        have h := h v0s_3 ev0s_3
        refine J_iast C 58 28 0 rfl rfl hi (List.flatten [bX9 cI cJ cZ a0 r0 v0s_3]) (by subst ev0s_3; rfl) dX9_write_57 rfl ?_
        refine J_aload_n C 59 dX9_write_58 rfl rfl ?_
        refine J_get C 62 9 inlX9 0 59 rfl rfl (by decide) wd185 rfl rfl dX9_write_59 rfl ?_
        refine J_iload_n C 63 dX9_write_62 rfl rfl ?_
        refine J_dup2 C 64 dX9_write_63 rfl rfl rfl ?_
        obtain ⟨hi, h⟩ := h
        refine J_iald C 65 27 0 rfl rfl hi dX9_write_64 rfl ?_
        refine J_iconst C 66 dX9_write_65 rfl ki_1 ?_
        refine J_iadd C 67 dX9_write_66 rfl ?_
        obtain ⟨hi, h⟩ := h
        obtain ⟨v0s_4, ev0s_4⟩ : ∃ z : Vl, z = setA v0s_3 59 (Int32.toNatClampNeg x1) ((v0s_3.2.2.1 59 (Int32.toNatClampNeg x1)) + 1) := ⟨_, rfl⟩
        have h := h v0s_4 ev0s_4
        refine J_iast C 68 27 0 rfl rfl hi (List.flatten [bX9 cI cJ cZ a0 r0 v0s_4]) (by subst ev0s_4; rfl) dX9_write_67 rfl ?_
        refine J_aload_n C 69 dX9_write_68 rfl rfl ?_
        refine J_get C 72 9 inlX9 0 59 rfl rfl (by decide) wd185 rfl rfl dX9_write_69 rfl ?_
        refine J_iload_n C 73 dX9_write_72 rfl rfl ?_
        obtain ⟨hi, h⟩ := h
        refine J_iald C 74 27 0 rfl rfl hi dX9_write_73 rfl ?_
        exact J_iret C hr hk v0s_4 rfl dX9_write_74 h
      · have h := h.2 c
        refine J_ldc C 40 wd221 dX9_write_38 rfl ?_
        exact J_iret C hr hk v0 rfl dX9_write_40 h
    · have h := h.2 c
      refine J_ldc C 26 wd219 dX9_write_24 rfl ?_
      exact J_iret C hr hk v0 rfl dX9_write_26 h
  · have h := h.2 c
    refine J_ldcw C 11 wd548 dX9_write_8 rfl ?_
    exact J_iret C hr hk v0 rfl dX9_write_11 h
def wp_X9_tear (v0 : Vl) (x1 : Int32) (Q : Int32 → Vl → Prop) : Prop := wp_X9_isLight v0 x1 (fun r_1 => ((¬ r_1 = 0 → vp_in x1 9 ∧ (∀ x_2 : Int32, x_2 = (v0.2.2.1 59 (Int32.toNatClampNeg x1)) → vp_in x1 9 ∧ (∀ v0s_3 : Vl, v0s_3 = setA v0 59 (Int32.toNatClampNeg x1) 0 → Q x_2 v0s_3))) ∧ (r_1 = 0 → Q (-1000000001) v0)))
set_option maxHeartbeats 4000000 in
set_option maxRecDepth 100000 in
theorem c_X9_tear (l : Launch) (D : GG) (cI cJ cZ cS : ClassId) (a0 : Nat) (r0 : Nat → Nat) (v0 : Vl) (x1 : Int32) (Q : Int32 → Vl → Prop) (h : wp_X9_tear v0 x1 Q) : Mi l D (tyL cI cJ cZ cS) yX9_tear cX9_tear 3 .int 2 46 [.ref a0, .int x1] (List.flatten [bX9 cI cJ cZ a0 r0 v0]) (fun (r : Int32) (u : Vl) => Q r u) (fun (u : Vl) => List.flatten [bX9 cI cJ cZ a0 r0 u]) := by
  refine Mi_of RX9 [(0, .ref a0), (1, .int x1)] (by decide +kernel) rfl rfl (Nat.le_of_ble_eq_true rfl) ?_
  intro p e s m args below meth c A C hr hk
  refine J_aload_n C 1 dX9_tear_0 rfl rfl ?_
  refine J_iload_n C 2 dX9_tear_1 rfl rfl ?_
  refine J_callBiV (Bs := [bX9 cI cJ cZ a0 r0 v0]) (As := [.int x1]) C 5 (c_X9_isLight l D cI cJ cZ cS a0 r0 v0 x1 _ h) wd552 wd549 wd5 wd550 wd551 9 0 rfl rfl rfl hdX9_isLight ⟨Nat.le_of_ble_eq_true rfl, Nat.le_of_ble_eq_true rfl⟩ ⟨Nat.zero_le _, Nat.zero_le _⟩ rfl (Nat.le_of_ble_eq_true rfl) [0] [] 1 rfl (by decide +kernel) rfl rfl (fun (u : Unit) => [bX9 cI cJ cZ a0 r0 v0]) (fun _ => rfl) [0] (by decide +kernel) (fun _ => rfl) rfl (fun (u : Unit) => [bX9 cI cJ cZ a0 r0 v0]) (fun _ => rfl) dX9_tear_2 rfl (fun r_1 u h => ?_)
  refine J_if_ne C 8 12 dX9_tear_5 rfl rfl (fun c => ?_) (fun c => ?_)
  · have h := h.1 c
    refine J_aload_n C 13 dX9_tear_12 rfl rfl ?_
    refine J_get C 16 9 inlX9 0 59 rfl rfl (by decide) wd185 rfl rfl dX9_tear_13 rfl ?_
    refine J_iload_n C 17 dX9_tear_16 rfl rfl ?_
    obtain ⟨hi, h⟩ := h
    refine J_iald C 18 27 0 rfl rfl hi dX9_tear_17 rfl ?_
    obtain ⟨x_2, ex_2⟩ : ∃ z : Int32, z = (v0.2.2.1 59 (Int32.toNatClampNeg x1)) := ⟨_, rfl⟩
    have h := h x_2 ex_2
    refine J_nmi ex_2 ?_
    refine J_istore_n C 19 [(2, .int x_2), (0, .ref a0), (1, .int x1)] dX9_tear_18 rfl (by decide) rfl ?_
    refine J_aload_n C 20 dX9_tear_19 rfl rfl ?_
    refine J_get C 23 9 inlX9 0 59 rfl rfl (by decide) wd185 rfl rfl dX9_tear_20 rfl ?_
    refine J_iload_n C 24 dX9_tear_23 rfl rfl ?_
    refine J_iconst C 25 dX9_tear_24 rfl ki_0 ?_
    obtain ⟨hi, h⟩ := h
    obtain ⟨v0s_3, ev0s_3⟩ : ∃ z : Vl, z = setA v0 59 (Int32.toNatClampNeg x1) 0 := ⟨_, rfl⟩
    have h := h v0s_3 ev0s_3
    refine J_iast C 26 27 0 rfl rfl hi (List.flatten [bX9 cI cJ cZ a0 r0 v0s_3]) (by subst ev0s_3; rfl) dX9_tear_25 rfl ?_
    refine J_iload_n C 27 dX9_tear_26 rfl rfl ?_
    exact J_iret C hr hk v0s_3 rfl dX9_tear_27 h
  · have h := h.2 c
    refine J_ldcw C 11 wd548 dX9_tear_8 rfl ?_
    exact J_iret C hr hk v0 rfl dX9_tear_11 h
def wp_X9_judge_c14 (v0 : Vl) (Q : Int32 → Prop) : Nat → Int32 → Int32 → Prop
  | 0 => fun _ _ => False
  | n + 1 => fun y1 y2 => vp_in y1 9 ∧ ((((v0.2.2.1 59 (Int32.toNatClampNeg y1)) ≤ y2 → Q (-1)) ∧ (¬ (v0.2.2.1 59 (Int32.toNatClampNeg y1)) ≤ y2 → (((v0.1 24) ≤ y2 → Q (-1)) ∧ (¬ (v0.1 24) ≤ y2 → vp_in ((40 * y1) + y2) 360 ∧ (vp_in ((40 * y1) + y2) 360 ∧ ((((v0.2.2.1 60 (Int32.toNatClampNeg ((40 * y1) + y2))) = (v0.2.2.1 29 (Int32.toNatClampNeg ((40 * y1) + y2))) → ∀ x_2 : Int32, x_2 = y2 + 1 → wp_X9_judge_c14 v0 Q n y1 x_2) ∧ (¬ (v0.2.2.1 60 (Int32.toNatClampNeg ((40 * y1) + y2))) = (v0.2.2.1 29 (Int32.toNatClampNeg ((40 * y1) + y2))) → Q y2)))))))))
set_option maxHeartbeats 4000000 in
set_option maxRecDepth 100000 in
theorem wk_X9_judge_c14 {p : Program} {l : Launch} {e : Env} {s : State} {m : MethodId} {args : Array Value} {below : List Frame} {meth : Method} {c : Code} {D : GG} {A : Nat → Prop} {cI cJ cZ cS : ClassId} {a0 : Nat} {r0 : Nat → Nat} {v0 : Vl} {Q : Int32 → Prop} (C : Cx p s m args c D (tyL cI cJ cZ cS) A RX9 cX9_judge 3) (hr : meth.sig.returnType = some .int) (hk : meth.locks = false) : ∀ (n : Nat) (y1 : Int32) (y2 : Int32), wp_X9_judge_c14 v0 Q n y1 y2 → J p l e (rmk 2 46) s m args below meth c D A 3 0 0 (MQ below (va_Qi (fun (r : Int32) (u : Unit) => Q r) (fun u t => va_P D.1 vwCl ((fun (u : Unit) => List.flatten [bX9 cI cJ cZ a0 r0 v0]) u) t.heap ∧ va_D A ((fun (u : Unit) => List.flatten [bX9 cI cJ cZ a0 r0 v0]) u)) A) args s 0 0 A) 14 [(0, .ref a0), (1, .int y1), (2, .int y2)] [] (List.flatten [bX9 cI cJ cZ a0 r0 v0]) := by
  intro n
  induction n with
  | zero =>
    intro y1 y2 h
    exact False.elim h
  | succ n ih =>
    intro y1 y2 h
    refine J_iload_n C 15 dX9_judge_14 rfl rfl ?_
    refine J_aload_n C 16 dX9_judge_15 rfl rfl ?_
    refine J_get C 19 9 inlX9 0 59 rfl rfl (by decide) wd185 rfl rfl dX9_judge_16 rfl ?_
    refine J_iload_n C 20 dX9_judge_19 rfl rfl ?_
    obtain ⟨hi, h⟩ := h
    refine J_iald C 21 27 0 rfl rfl hi dX9_judge_20 rfl ?_
    refine J_icmp_ge C 24 65 dX9_judge_21 rfl rfl (fun c => ?_) (fun c => ?_)
    · have h := h.1 c
      refine J_iconst C 66 dX9_judge_65 rfl ki_m1 ?_
      exact J_iret C hr hk () rfl dX9_judge_66 h
    · have h := h.2 c
      refine J_iload_n C 25 dX9_judge_24 rfl rfl ?_
      refine J_aload_n C 26 dX9_judge_25 rfl rfl ?_
      refine J_get C 29 9 inlX9 0 24 rfl rfl (by decide) wd198 rfl rfl dX9_judge_26 rfl ?_
      refine J_icmp_ge C 32 65 dX9_judge_29 rfl rfl (fun c => ?_) (fun c => ?_)
      · have h := h.1 c
        refine J_iconst C 66 dX9_judge_65 rfl ki_m1 ?_
        exact J_iret C hr hk () rfl dX9_judge_66 h
      · have h := h.2 c
        refine J_aload_n C 33 dX9_judge_32 rfl rfl ?_
        refine J_get C 36 9 inlX9 0 60 rfl rfl (by decide) wd186 rfl rfl dX9_judge_33 rfl ?_
        refine J_bipush C 38 dX9_judge_36 rfl kb_40 ?_
        refine J_iload_n C 39 dX9_judge_38 rfl rfl ?_
        refine J_imul C 40 dX9_judge_39 rfl ?_
        refine J_iload_n C 41 dX9_judge_40 rfl rfl ?_
        refine J_iadd C 42 dX9_judge_41 rfl ?_
        obtain ⟨hi, h⟩ := h
        refine J_iald C 43 28 0 rfl rfl hi dX9_judge_42 rfl ?_
        refine J_aload_n C 44 dX9_judge_43 rfl rfl ?_
        refine J_get C 47 9 inlX9 0 29 rfl rfl (by decide) wd167 rfl rfl dX9_judge_44 rfl ?_
        refine J_bipush C 49 dX9_judge_47 rfl kb_40 ?_
        refine J_iload_n C 50 dX9_judge_49 rfl rfl ?_
        refine J_imul C 51 dX9_judge_50 rfl ?_
        refine J_iload_n C 52 dX9_judge_51 rfl rfl ?_
        refine J_iadd C 53 dX9_judge_52 rfl ?_
        obtain ⟨hi, h⟩ := h
        refine J_iald C 54 10 0 rfl rfl hi dX9_judge_53 rfl ?_
        refine J_icmp_eq C 57 59 dX9_judge_54 rfl rfl (fun c => ?_) (fun c => ?_)
        · have h := h.1 c
          obtain ⟨x_2, ex_2⟩ : ∃ z : Int32, z = y2 + 1 := ⟨_, rfl⟩
          have h := h x_2 ex_2
          refine J_iinc C 62 [(2, .int x_2), (0, .ref a0), (1, .int y1)] dX9_judge_59 rfl rfl ((kinc_1 _).trans ex_2.symm) (by decide) rfl ?_
          refine J_goto C 14 dX9_judge_62 rfl ?_
          refine J_loc [1, 2, 0] rfl ?_
          exact ih y1 x_2 h
        · have h := h.2 c
          refine J_iload_n C 58 dX9_judge_57 rfl rfl ?_
          exact J_iret C hr hk () rfl dX9_judge_58 h
def wp_X9_judge (v0 : Vl) (x1 : Int32) (Q : Int32 → Prop) : Prop := wp_X9_isLight v0 x1 (fun r_1 => ((¬ r_1 = 0 → (∃ k : Nat, wp_X9_judge_c14 v0 Q k x1 0)) ∧ (r_1 = 0 → Q (-1000000001))))
set_option maxHeartbeats 4000000 in
set_option maxRecDepth 100000 in
theorem c_X9_judge (l : Launch) (D : GG) (cI cJ cZ cS : ClassId) (a0 : Nat) (r0 : Nat → Nat) (v0 : Vl) (x1 : Int32) (Q : Int32 → Prop) (h : wp_X9_judge v0 x1 Q) : Mi l D (tyL cI cJ cZ cS) yX9_judge cX9_judge 3 .int 2 46 [.ref a0, .int x1] (List.flatten [bX9 cI cJ cZ a0 r0 v0]) (fun (r : Int32) (u : Unit) => Q r) (fun (u : Unit) => List.flatten [bX9 cI cJ cZ a0 r0 v0]) := by
  refine Mi_of RX9 [(0, .ref a0), (1, .int x1)] (by decide +kernel) rfl rfl (Nat.le_of_ble_eq_true rfl) ?_
  intro p e s m args below meth c A C hr hk
  refine J_aload_n C 1 dX9_judge_0 rfl rfl ?_
  refine J_iload_n C 2 dX9_judge_1 rfl rfl ?_
  refine J_callBiV (Bs := [bX9 cI cJ cZ a0 r0 v0]) (As := [.int x1]) C 5 (c_X9_isLight l D cI cJ cZ cS a0 r0 v0 x1 _ h) wd552 wd549 wd5 wd550 wd551 9 0 rfl rfl rfl hdX9_isLight ⟨Nat.le_of_ble_eq_true rfl, Nat.le_of_ble_eq_true rfl⟩ ⟨Nat.zero_le _, Nat.zero_le _⟩ rfl (Nat.le_of_ble_eq_true rfl) [0] [] 1 rfl (by decide +kernel) rfl rfl (fun (u : Unit) => [bX9 cI cJ cZ a0 r0 v0]) (fun _ => rfl) [0] (by decide +kernel) (fun _ => rfl) rfl (fun (u : Unit) => [bX9 cI cJ cZ a0 r0 v0]) (fun _ => rfl) dX9_judge_2 rfl (fun r_1 u h => ?_)
  refine J_if_ne C 8 12 dX9_judge_5 rfl rfl (fun c => ?_) (fun c => ?_)
  · have h := h.1 c
    refine J_iconst C 13 dX9_judge_12 rfl ki_0 ?_
    refine J_istore_n C 14 [(2, .int 0), (0, .ref a0), (1, .int x1)] dX9_judge_13 rfl (by decide) rfl ?_
    refine J_loc [1, 2, 0] rfl ?_
    obtain ⟨n1, h⟩ := h
    exact wk_X9_judge_c14 C hr hk n1 x1 0 h
  · have h := h.2 c
    refine J_ldcw C 11 wd548 dX9_judge_8 rfl ?_
    exact J_iret C hr hk () rfl dX9_judge_11 h
def wp_X9_seed (v0 : Vl) (x1 : Int32) (Q : Int32 → Vl → Prop) : Prop := ((0 ≤ x1 → ∀ x_1 : Int32, x_1 = (v0.1 30) → ∀ v0s_2 : Vl, v0s_2 = setI v0 30 x1 → Q x_1 v0s_2) ∧ (¬ 0 ≤ x1 → Q (-1000000002) v0))
set_option maxHeartbeats 4000000 in
set_option maxRecDepth 100000 in
theorem c_X9_seed (l : Launch) (D : GG) (cI cJ cZ cS : ClassId) (a0 : Nat) (r0 : Nat → Nat) (v0 : Vl) (x1 : Int32) (Q : Int32 → Vl → Prop) (h : wp_X9_seed v0 x1 Q) : Mi l D (tyL cI cJ cZ cS) yX9_seed cX9_seed 3 .int 0 0 [.ref a0, .int x1] (List.flatten [bX9 cI cJ cZ a0 r0 v0]) (fun (r : Int32) (u : Vl) => Q r u) (fun (u : Vl) => List.flatten [bX9 cI cJ cZ a0 r0 u]) := by
  refine Mi_of RX9 [(0, .ref a0), (1, .int x1)] (by decide +kernel) rfl rfl (Nat.le_of_ble_eq_true rfl) ?_
  intro p e s m args below meth c A C hr hk
  refine J_iload_n C 1 dX9_seed_0 rfl rfl ?_
  refine J_if_ge C 4 7 dX9_seed_1 rfl rfl (fun c => ?_) (fun c => ?_)
  · have h := h.1 c
    refine J_aload_n C 8 dX9_seed_7 rfl rfl ?_
    refine J_get C 11 9 inlX9 0 30 rfl rfl (by decide) wd740 rfl rfl dX9_seed_8 rfl ?_
    obtain ⟨x_1, ex_1⟩ : ∃ z : Int32, z = (v0.1 30) := ⟨_, rfl⟩
    have h := h x_1 ex_1
    refine J_nmi ex_1 ?_
    refine J_istore_n C 12 [(2, .int x_1), (0, .ref a0), (1, .int x1)] dX9_seed_11 rfl (by decide) rfl ?_
    refine J_aload_n C 13 dX9_seed_12 rfl rfl ?_
    refine J_iload_n C 14 dX9_seed_13 rfl rfl ?_
    obtain ⟨v0s_2, ev0s_2⟩ : ∃ z : Vl, z = setI v0 30 x1 := ⟨_, rfl⟩
    have h := h v0s_2 ev0s_2
    refine J_put C 17 9 inlX9 tyX9 tyX9_ok nmX9 0 30 rfl rfl (by decide) wd740 rfl rfl rfl rfl rfl (List.flatten [bX9 cI cJ cZ a0 r0 v0s_2]) (by subst ev0s_2; rfl) dX9_seed_14 rfl ?_
    refine J_iload_n C 18 dX9_seed_17 rfl rfl ?_
    exact J_iret C hr hk v0s_2 rfl dX9_seed_18 h
  · have h := h.2 c
    refine J_ldc C 6 wd219 dX9_seed_4 rfl ?_
    exact J_iret C hr hk v0 rfl dX9_seed_6 h
def wp_X9_keep (v0 : Vl) (x1 : Int32) (Q : Int32 → Vl → Prop) : Prop := wp_X9_in (Int32.toInt64 x1) 0 1 (fun r_1 => ((¬ r_1 = 0 → wp_X9_save v0 x1 (fun u_2 => vp_in x1 2 ∧ (∀ v0s_3 : Vl, v0s_3 = setA u_2 50 (Int32.toNatClampNeg x1) (vp_nar .boolean 1) → Q 1 v0s_3))) ∧ (r_1 = 0 → Q (-1000000001) v0)))
set_option maxHeartbeats 4000000 in
set_option maxRecDepth 100000 in
theorem c_X9_keep (l : Launch) (D : GG) (cI cJ cZ cS : ClassId) (a0 : Nat) (r0 : Nat → Nat) (v0 : Vl) (x1 : Int32) (Q : Int32 → Vl → Prop) (h : wp_X9_keep v0 x1 Q) : Mi l D (tyL cI cJ cZ cS) yX9_keep cX9_keep 2 .int 1 25 [.ref a0, .int x1] (List.flatten [bX9 cI cJ cZ a0 r0 v0]) (fun (r : Int32) (u : Vl) => Q r u) (fun (u : Vl) => List.flatten [bX9 cI cJ cZ a0 r0 u]) := by
  refine Mi_of RX9 [(0, .ref a0), (1, .int x1)] (by decide +kernel) rfl rfl (Nat.le_of_ble_eq_true rfl) ?_
  intro p e s m args below meth c A C hr hk
  refine J_iload_n C 1 dX9_keep_0 rfl rfl ?_
  refine J_i2l C 2 dX9_keep_1 rfl ?_
  refine J_lconst C 3 dX9_keep_2 rfl kl_0 ?_
  refine J_lconst C 4 dX9_keep_3 rfl kl_1 ?_
  refine J_callBiS (Bs := [bX9 cI cJ cZ a0 r0 v0]) (As := [.long (Int32.toInt64 x1), .long 0, .long 1]) C 7 (c_X9_in l D cI cJ cZ cS (Int32.toInt64 x1) 0 1 _ h) wd225 wd223 wd5 wd224 hdX9_in ⟨Nat.le_of_ble_eq_true rfl, Nat.le_of_ble_eq_true rfl⟩ ⟨Nat.zero_le _, Nat.zero_le _⟩ rfl (Nat.le_of_ble_eq_true rfl) [] [0] 1 rfl (by decide +kernel) rfl rfl (fun (u : Unit) => ([] : List va_W)) (fun _ => rfl) [0] (by decide +kernel) (fun _ => rfl) rfl (fun (u : Unit) => [bX9 cI cJ cZ a0 r0 v0]) (fun _ => rfl) dX9_keep_4 rfl (fun r_1 u h => ?_)
  refine J_if_ne C 10 14 dX9_keep_7 rfl rfl (fun c => ?_) (fun c => ?_)
  · have h := h.1 c
    refine J_aload_n C 15 dX9_keep_14 rfl rfl ?_
    refine J_iload_n C 16 dX9_keep_15 rfl rfl ?_
    refine J_callBvV (Bs := [bX9 cI cJ cZ a0 r0 v0]) (As := [.int x1]) C 19 (c_X9_save l D cI cJ cZ cS a0 r0 v0 x1 _ h) wd811 wd808 wd5 wd809 wd810 9 0 rfl rfl rfl hdX9_save ⟨Nat.le_of_ble_eq_true rfl, Nat.le_of_ble_eq_true rfl⟩ ⟨Nat.zero_le _, Nat.zero_le _⟩ rfl (Nat.le_of_ble_eq_true rfl) [0] [] 1 rfl (by decide +kernel) rfl rfl (fun (u : Vl) => [bX9 cI cJ cZ a0 r0 u]) (fun _ => rfl) [0] (by decide +kernel) (fun _ => rfl) rfl (fun (u : Vl) => [bX9 cI cJ cZ a0 r0 u]) (fun _ => rfl) dX9_keep_16 rfl (fun u h => ?_)
    obtain ⟨u_2, hu⟩ : ∃ z, z = u := ⟨_, rfl⟩
    subst hu
    refine J_aload_n C 20 dX9_keep_19 rfl rfl ?_
    refine J_get C 23 9 inlX9 0 50 rfl rfl (by decide) wd177 rfl rfl dX9_keep_20 rfl ?_
    refine J_iload_n C 24 dX9_keep_23 rfl rfl ?_
    refine J_iconst C 25 dX9_keep_24 rfl ki_1 ?_
    obtain ⟨hi, h⟩ := h
    obtain ⟨v0s_3, ev0s_3⟩ : ∃ z : Vl, z = setA u_2 50 (Int32.toNatClampNeg x1) (vp_nar .boolean 1) := ⟨_, rfl⟩
    have h := h v0s_3 ev0s_3
    refine J_zast C 26 19 2 rfl rfl hi (List.flatten [bX9 cI cJ cZ a0 r0 v0s_3]) (by subst ev0s_3; rfl) dX9_keep_25 rfl ?_
    refine J_iconst C 27 dX9_keep_26 rfl ki_1 ?_
    exact J_iret C hr hk v0s_3 rfl dX9_keep_27 h
  · have h := h.2 c
    refine J_ldcw C 13 wd548 dX9_keep_10 rfl ?_
    exact J_iret C hr hk v0 rfl dX9_keep_13 h
def wp_X9_goBack (v0 : Vl) (x1 : Int32) (Q : Int32 → Vl → Prop) : Prop := wp_X9_in (Int32.toInt64 x1) 0 1 (fun r_1 => ((¬ r_1 = 0 → vp_in x1 2 ∧ (((¬ (v0.2.2.1 50 (Int32.toNatClampNeg x1)) = 0 → wp_X9_load v0 x1 (fun u_2 => Q 1 u_2)) ∧ ((v0.2.2.1 50 (Int32.toNatClampNeg x1)) = 0 → Q (-1000000003) v0)))) ∧ (r_1 = 0 → Q (-1000000001) v0)))
set_option maxHeartbeats 4000000 in
set_option maxRecDepth 100000 in
theorem c_X9_goBack (l : Launch) (D : GG) (cI cJ cZ cS : ClassId) (a0 : Nat) (r0 : Nat → Nat) (v0 : Vl) (x1 : Int32) (Q : Int32 → Vl → Prop) (h : wp_X9_goBack v0 x1 Q) : Mi l D (tyL cI cJ cZ cS) yX9_goBack cX9_goBack 2 .int 1 25 [.ref a0, .int x1] (List.flatten [bX9 cI cJ cZ a0 r0 v0]) (fun (r : Int32) (u : Vl) => Q r u) (fun (u : Vl) => List.flatten [bX9 cI cJ cZ a0 r0 u]) := by
  refine Mi_of RX9 [(0, .ref a0), (1, .int x1)] (by decide +kernel) rfl rfl (Nat.le_of_ble_eq_true rfl) ?_
  intro p e s m args below meth c A C hr hk
  refine J_iload_n C 1 dX9_goBack_0 rfl rfl ?_
  refine J_i2l C 2 dX9_goBack_1 rfl ?_
  refine J_lconst C 3 dX9_goBack_2 rfl kl_0 ?_
  refine J_lconst C 4 dX9_goBack_3 rfl kl_1 ?_
  refine J_callBiS (Bs := [bX9 cI cJ cZ a0 r0 v0]) (As := [.long (Int32.toInt64 x1), .long 0, .long 1]) C 7 (c_X9_in l D cI cJ cZ cS (Int32.toInt64 x1) 0 1 _ h) wd225 wd223 wd5 wd224 hdX9_in ⟨Nat.le_of_ble_eq_true rfl, Nat.le_of_ble_eq_true rfl⟩ ⟨Nat.zero_le _, Nat.zero_le _⟩ rfl (Nat.le_of_ble_eq_true rfl) [] [0] 1 rfl (by decide +kernel) rfl rfl (fun (u : Unit) => ([] : List va_W)) (fun _ => rfl) [0] (by decide +kernel) (fun _ => rfl) rfl (fun (u : Unit) => [bX9 cI cJ cZ a0 r0 v0]) (fun _ => rfl) dX9_goBack_4 rfl (fun r_1 u h => ?_)
  refine J_if_ne C 10 14 dX9_goBack_7 rfl rfl (fun c => ?_) (fun c => ?_)
  · have h := h.1 c
    refine J_aload_n C 15 dX9_goBack_14 rfl rfl ?_
    refine J_get C 18 9 inlX9 0 50 rfl rfl (by decide) wd177 rfl rfl dX9_goBack_15 rfl ?_
    refine J_iload_n C 19 dX9_goBack_18 rfl rfl ?_
    obtain ⟨hi, h⟩ := h
    refine J_zald C 20 19 2 rfl rfl hi dX9_goBack_19 rfl ?_
    refine J_if_ne C 23 27 dX9_goBack_20 rfl rfl (fun c => ?_) (fun c => ?_)
    · have h := h.1 c
      refine J_aload_n C 28 dX9_goBack_27 rfl rfl ?_
      refine J_iload_n C 29 dX9_goBack_28 rfl rfl ?_
      refine J_callBvV (Bs := [bX9 cI cJ cZ a0 r0 v0]) (As := [.int x1]) C 32 (c_X9_load l D cI cJ cZ cS a0 r0 v0 x1 _ h) wd823 wd820 wd5 wd821 wd822 9 0 rfl rfl rfl hdX9_load ⟨Nat.le_of_ble_eq_true rfl, Nat.le_of_ble_eq_true rfl⟩ ⟨Nat.zero_le _, Nat.zero_le _⟩ rfl (Nat.le_of_ble_eq_true rfl) [0] [] 1 rfl (by decide +kernel) rfl rfl (fun (u : Vl) => [bX9 cI cJ cZ a0 r0 u]) (fun _ => rfl) [0] (by decide +kernel) (fun _ => rfl) rfl (fun (u : Vl) => [bX9 cI cJ cZ a0 r0 u]) (fun _ => rfl) dX9_goBack_29 rfl (fun u h => ?_)
      obtain ⟨u_2, hu⟩ : ∃ z, z = u := ⟨_, rfl⟩
      subst hu
      refine J_iconst C 33 dX9_goBack_32 rfl ki_1 ?_
      exact J_iret C hr hk u_2 rfl dX9_goBack_33 h
    · have h := h.2 c
      refine J_ldcw C 26 wd505 dX9_goBack_23 rfl ?_
      exact J_iret C hr hk v0 rfl dX9_goBack_26 h
  · have h := h.2 c
    refine J_ldcw C 13 wd548 dX9_goBack_10 rfl ?_
    exact J_iret C hr hk v0 rfl dX9_goBack_13 h
