def wp_X9_power_c4 (v0 : Vl) (Q : Int32 → Prop) : Nat → Int32 → Int32 → Int32 → Prop
  | 0 => fun _ _ _ => False
  | n + 1 => fun y1 y2 y3 => ((y1 ≤ y3 → Q y2) ∧ (¬ y1 ≤ y3 → ∀ x_1 : Int32, x_1 = (y2 * ((v0.1 0) + 1)) → ∀ x_2 : Int32, x_2 = y3 + 1 → wp_X9_power_c4 v0 Q n y1 x_1 x_2))
set_option maxHeartbeats 4000000 in
set_option maxRecDepth 100000 in
theorem wk_X9_power_c4 {p : Program} {l : Launch} {e : Env} {s : State} {m : MethodId} {args : Array Value} {below : List Frame} {meth : Method} {c : Code} {D : GG} {A : Nat → Prop} {cI cJ cZ cS : ClassId} {a0 : Nat} {r0 : Nat → Nat} {v0 : Vl} {Q : Int32 → Prop} (C : Cx p s m args c D (tyL cI cJ cZ cS) A RX9 cX9_power 4) (hr : meth.sig.returnType = some .int) (hk : meth.locks = false) : ∀ (n : Nat) (y1 : Int32) (y2 : Int32) (y3 : Int32), wp_X9_power_c4 v0 Q n y1 y2 y3 → J p l e (rmk 0 0) s m args below meth c D A 4 0 0 (MQ below (va_Qi (fun (r : Int32) (u : Unit) => Q r) (fun u t => va_P D.1 vwCl ((fun (u : Unit) => List.flatten [bX9 cI cJ cZ a0 r0 v0]) u) t.heap ∧ va_D A ((fun (u : Unit) => List.flatten [bX9 cI cJ cZ a0 r0 v0]) u)) A) args s 0 0 A) 4 [(0, .ref a0), (1, .int y1), (2, .int y2), (3, .int y3)] [] (List.flatten [bX9 cI cJ cZ a0 r0 v0]) := by
  intro n
  induction n with
  | zero =>
    intro y1 y2 y3 h
    exact False.elim h
  | succ n ih =>
    intro y1 y2 y3 h
    refine J_iload_n C 5 dX9_power_4 rfl rfl ?_
    refine J_iload_n C 6 dX9_power_5 rfl rfl ?_
    refine J_icmp_ge C 9 24 dX9_power_6 rfl rfl (fun c => ?_) (fun c => ?_)
    · have h := h.1 c
      refine J_iload_n C 25 dX9_power_24 rfl rfl ?_
      exact J_iret C hr hk () rfl dX9_power_25 h
    · have h := h.2 c
      refine J_iload_n C 10 dX9_power_9 rfl rfl ?_
      refine J_aload_n C 11 dX9_power_10 rfl rfl ?_
      refine J_get C 14 9 inlX9 0 0 rfl rfl (by decide) wd191 rfl rfl dX9_power_11 rfl ?_
      refine J_iconst C 15 dX9_power_14 rfl ki_1 ?_
      refine J_iadd C 16 dX9_power_15 rfl ?_
      refine J_imul C 17 dX9_power_16 rfl ?_
      obtain ⟨x_1, ex_1⟩ : ∃ z : Int32, z = (y2 * ((v0.1 0) + 1)) := ⟨_, rfl⟩
      have h := h x_1 ex_1
      refine J_nmi ex_1 ?_
      refine J_istore_n C 18 [(2, .int x_1), (0, .ref a0), (1, .int y1), (3, .int y3)] dX9_power_17 rfl (by decide) rfl ?_
      obtain ⟨x_2, ex_2⟩ : ∃ z : Int32, z = y3 + 1 := ⟨_, rfl⟩
      have h := h x_2 ex_2
      refine J_iinc C 21 [(3, .int x_2), (2, .int x_1), (0, .ref a0), (1, .int y1)] dX9_power_18 rfl rfl ((kinc_1 _).trans ex_2.symm) (by decide) rfl ?_
      refine J_goto C 4 dX9_power_21 rfl ?_
      refine J_loc [2, 3, 1, 0] rfl ?_
      exact ih y1 x_1 x_2 h
def wp_X9_power (v0 : Vl) (x1 : Int32) (Q : Int32 → Prop) : Prop := (∃ k : Nat, wp_X9_power_c4 v0 Q k x1 1 0)
set_option maxHeartbeats 4000000 in
set_option maxRecDepth 100000 in
theorem c_X9_power (l : Launch) (D : GG) (cI cJ cZ cS : ClassId) (a0 : Nat) (r0 : Nat → Nat) (v0 : Vl) (x1 : Int32) (Q : Int32 → Prop) (h : wp_X9_power v0 x1 Q) : Mi l D (tyL cI cJ cZ cS) yX9_power cX9_power 4 .int 0 0 [.ref a0, .int x1] (List.flatten [bX9 cI cJ cZ a0 r0 v0]) (fun (r : Int32) (u : Unit) => Q r) (fun (u : Unit) => List.flatten [bX9 cI cJ cZ a0 r0 v0]) := by
  refine Mi_of RX9 [(0, .ref a0), (1, .int x1)] (by decide +kernel) rfl rfl (Nat.le_of_ble_eq_true rfl) ?_
  intro p e s m args below meth c A C hr hk
  refine J_iconst C 1 dX9_power_0 rfl ki_1 ?_
  refine J_istore_n C 2 [(2, .int 1), (0, .ref a0), (1, .int x1)] dX9_power_1 rfl (by decide) rfl ?_
  refine J_iconst C 3 dX9_power_2 rfl ki_0 ?_
  refine J_istore_n C 4 [(3, .int 0), (2, .int 1), (0, .ref a0), (1, .int x1)] dX9_power_3 rfl (by decide) rfl ?_
  refine J_loc [2, 3, 1, 0] rfl ?_
  obtain ⟨n1, h⟩ := h
  exact wk_X9_power_c4 C hr hk n1 x1 1 0 h
def wp_X9_goalOf (v0 : Vl) (x1 : Int32) (x2 : Int32) (x3 : Int32) (Q : Int32 → Prop) : Prop := wp_X9_power v0 ((x2 - 1) - x3) (fun r_1 => ¬ r_1 = 0 ∧ (¬ ((v0.1 0) + 1) = 0 ∧ (Q (((x1 / r_1) - (x1 / r_1) / ((v0.1 0) + 1) * ((v0.1 0) + 1)) - 1))))
set_option maxHeartbeats 4000000 in
set_option maxRecDepth 100000 in
theorem c_X9_goalOf (l : Launch) (D : GG) (cI cJ cZ cS : ClassId) (a0 : Nat) (r0 : Nat → Nat) (v0 : Vl) (x1 : Int32) (x2 : Int32) (x3 : Int32) (Q : Int32 → Prop) (h : wp_X9_goalOf v0 x1 x2 x3 Q) : Mi l D (tyL cI cJ cZ cS) yX9_goalOf cX9_goalOf 4 .int 1 23 [.ref a0, .int x1, .int x2, .int x3] (List.flatten [bX9 cI cJ cZ a0 r0 v0]) (fun (r : Int32) (u : Unit) => Q r) (fun (u : Unit) => List.flatten [bX9 cI cJ cZ a0 r0 v0]) := by
  refine Mi_of RX9 [(0, .ref a0), (1, .int x1), (2, .int x2), (3, .int x3)] (by decide +kernel) rfl rfl (Nat.le_of_ble_eq_true rfl) ?_
  intro p e s m args below meth c A C hr hk
  refine J_iload_n C 1 dX9_goalOf_0 rfl rfl ?_
  refine J_aload_n C 2 dX9_goalOf_1 rfl rfl ?_
  refine J_iload_n C 3 dX9_goalOf_2 rfl rfl ?_
  refine J_iconst C 4 dX9_goalOf_3 rfl ki_1 ?_
  refine J_isub C 5 dX9_goalOf_4 rfl ?_
  refine J_iload_n C 6 dX9_goalOf_5 rfl rfl ?_
  refine J_isub C 7 dX9_goalOf_6 rfl ?_
  refine J_callBiV (Bs := [bX9 cI cJ cZ a0 r0 v0]) (As := [.int ((x2 - 1) - x3)]) C 10 (c_X9_power l D cI cJ cZ cS a0 r0 v0 ((x2 - 1) - x3) _ h) wd815 wd812 wd5 wd813 wd814 9 0 rfl rfl rfl hdX9_power ⟨Nat.le_of_ble_eq_true rfl, Nat.le_of_ble_eq_true rfl⟩ ⟨Nat.zero_le _, Nat.zero_le _⟩ rfl (Nat.le_of_ble_eq_true rfl) [0] [] 1 rfl (by decide +kernel) rfl rfl (fun (u : Unit) => [bX9 cI cJ cZ a0 r0 v0]) (fun _ => rfl) [0] (by decide +kernel) (fun _ => rfl) rfl (fun (u : Unit) => [bX9 cI cJ cZ a0 r0 v0]) (fun _ => rfl) dX9_goalOf_7 rfl (fun r_1 u h => ?_)
  obtain ⟨hne, h⟩ := h
  refine J_idiv C 11 dX9_goalOf_10 rfl hne ?_
  refine J_aload_n C 12 dX9_goalOf_11 rfl rfl ?_
  refine J_get C 15 9 inlX9 0 0 rfl rfl (by decide) wd191 rfl rfl dX9_goalOf_12 rfl ?_
  refine J_iconst C 16 dX9_goalOf_15 rfl ki_1 ?_
  refine J_iadd C 17 dX9_goalOf_16 rfl ?_
  obtain ⟨hne, h⟩ := h
  refine J_irem C 18 dX9_goalOf_17 rfl hne ?_
  refine J_iconst C 19 dX9_goalOf_18 rfl ki_1 ?_
  refine J_isub C 20 dX9_goalOf_19 rfl ?_
  exact J_iret C hr hk () rfl dX9_goalOf_20 h
def wp_X9_round_c189  (Q : Int32 → Vl → Prop) (B56 : Vl → Int32 → Int32 → Int32 → Int64 → Int64 → Int64 → Int64 → Int32 → Prop) (v0 : Vl) (y1 : Int32) (y2 : Int32) (y3 : Int32) (y4 : Int64) (y8 : Int64) (y10 : Int64) (y12 : Int32) (s0 : Int64) : Prop := wp_X9_load v0 2 (fun u_8 => ∀ x_9 : Int32, x_9 = y12 + 1 → B56 u_8 y1 y2 y3 y4 s0 y8 y10 x_9)
set_option maxHeartbeats 4000000 in
set_option maxRecDepth 100000 in
theorem wk_X9_round_c189 {p : Program} {l : Launch} {e : Env} {s : State} {m : MethodId} {args : Array Value} {below : List Frame} {meth : Method} {c : Code} {D : GG} {A : Nat → Prop} {cI cJ cZ cS : ClassId} {a0 : Nat} {r0 : Nat → Nat}  {B56 : Vl → Int32 → Int32 → Int32 → Int64 → Int64 → Int64 → Int64 → Int32 → Prop} {Q : Int32 → Vl → Prop} (C : Cx p s m args c D (tyL cI cJ cZ cS) A RX9 cX9_round 14) (hr : meth.sig.returnType = some .int) (hk : meth.locks = false) (hB56 : ∀ (v0 : Vl) (y1 : Int32) (y2 : Int32) (y3 : Int32) (y4 : Int64) (y6 : Int64) (y8 : Int64) (y10 : Int64) (y12 : Int32), B56 v0 y1 y2 y3 y4 y6 y8 y10 y12 → J p l e (rmk 3 73) s m args below meth c D A 14 0 0 (MQ below (va_Qi (fun (r : Int32) (u : Vl) => Q r u) (fun u t => va_P D.1 vwCl ((fun (u : Vl) => List.flatten [bX9 cI cJ cZ a0 r0 u]) u) t.heap ∧ va_D A ((fun (u : Vl) => List.flatten [bX9 cI cJ cZ a0 r0 u]) u)) A) args s 0 0 A) 56 [(0, .ref a0), (1, .int y1), (2, .int y2), (3, .int y3), (4, .long y4), (6, .long y6), (8, .long y8), (10, .long y10), (12, .int y12)] [] (List.flatten [bX9 cI cJ cZ a0 r0 v0])) : ∀ (v0 : Vl) (y1 : Int32) (y2 : Int32) (y3 : Int32) (y4 : Int64) (y8 : Int64) (y10 : Int64) (y12 : Int32) (s0 : Int64), wp_X9_round_c189  Q B56 v0 y1 y2 y3 y4 y8 y10 y12 s0 → J p l e (rmk 3 73) s m args below meth c D A 14 0 0 (MQ below (va_Qi (fun (r : Int32) (u : Vl) => Q r u) (fun u t => va_P D.1 vwCl ((fun (u : Vl) => List.flatten [bX9 cI cJ cZ a0 r0 u]) u) t.heap ∧ va_D A ((fun (u : Vl) => List.flatten [bX9 cI cJ cZ a0 r0 u]) u)) A) args s 0 0 A) 189 [(0, .ref a0), (1, .int y1), (2, .int y2), (3, .int y3), (4, .long y4), (8, .long y8), (10, .long y10), (12, .int y12)] [.long s0] (List.flatten [bX9 cI cJ cZ a0 r0 v0]) := by
  intro v0 y1 y2 y3 y4 y8 y10 y12 s0 h
  refine J_lstore C 191 [(6, .long s0), (0, .ref a0), (1, .int y1), (2, .int y2), (3, .int y3), (4, .long y4), (8, .long y8), (10, .long y10), (12, .int y12)] dX9_round_189 rfl (by decide) rfl ?_
  refine J_aload_n C 192 dX9_round_191 rfl rfl ?_
  refine J_iconst C 193 dX9_round_192 rfl ki_2 ?_
  refine J_callBvV (Bs := [bX9 cI cJ cZ a0 r0 v0]) (As := [.int 2]) C 196 (c_X9_load l D cI cJ cZ cS a0 r0 v0 2 _ h) wd823 wd820 wd5 wd821 wd822 9 0 rfl rfl rfl hdX9_load ⟨Nat.le_of_ble_eq_true rfl, Nat.le_of_ble_eq_true rfl⟩ ⟨Nat.zero_le _, Nat.zero_le _⟩ rfl (Nat.le_of_ble_eq_true rfl) [0] [] 1 rfl (by decide +kernel) rfl rfl (fun (u : Vl) => [bX9 cI cJ cZ a0 r0 u]) (fun _ => rfl) [0] (by decide +kernel) (fun _ => rfl) rfl (fun (u : Vl) => [bX9 cI cJ cZ a0 r0 u]) (fun _ => rfl) dX9_round_193 rfl (fun u h => ?_)
  obtain ⟨u_8, hu⟩ : ∃ z, z = u := ⟨_, rfl⟩
  subst hu
  obtain ⟨x_9, ex_9⟩ : ∃ z : Int32, z = y12 + 1 := ⟨_, rfl⟩
  have h := h x_9 ex_9
  refine J_iinc C 199 [(12, .int x_9), (6, .long s0), (0, .ref a0), (1, .int y1), (2, .int y2), (3, .int y3), (4, .long y4), (8, .long y8), (10, .long y10)] dX9_round_196 rfl rfl ((kinc_1 _).trans ex_9.symm) (by decide) rfl ?_
  refine J_goto C 56 dX9_round_199 rfl ?_
  refine J_loc [2, 3, 4, 5, 6, 1, 7, 8, 0] rfl ?_
  exact hB56 u_8 y1 y2 y3 y4 s0 y8 y10 x_9 h
def wp_X9_round_c173  (Q : Int32 → Vl → Prop) (B56 : Vl → Int32 → Int32 → Int32 → Int64 → Int64 → Int64 → Int64 → Int32 → Prop) (v0 : Vl) (y1 : Int32) (y2 : Int32) (y3 : Int32) (y6 : Int64) (y8 : Int64) (y10 : Int64) (y12 : Int32) (y13 : Int32) (s0 : Int64) : Prop := ((y13 = 0 → wp_X9_round_c189  Q B56 v0 y1 y2 y3 s0 y8 y10 y12 y6) ∧ (¬ y13 = 0 → wp_X9_round_c189  Q B56 v0 y1 y2 y3 s0 y8 y10 y12 (v0.2.1 26)))
set_option maxHeartbeats 4000000 in
set_option maxRecDepth 100000 in
theorem wk_X9_round_c173 {p : Program} {l : Launch} {e : Env} {s : State} {m : MethodId} {args : Array Value} {below : List Frame} {meth : Method} {c : Code} {D : GG} {A : Nat → Prop} {cI cJ cZ cS : ClassId} {a0 : Nat} {r0 : Nat → Nat}  {B56 : Vl → Int32 → Int32 → Int32 → Int64 → Int64 → Int64 → Int64 → Int32 → Prop} {Q : Int32 → Vl → Prop} (C : Cx p s m args c D (tyL cI cJ cZ cS) A RX9 cX9_round 14) (hr : meth.sig.returnType = some .int) (hk : meth.locks = false) (hB56 : ∀ (v0 : Vl) (y1 : Int32) (y2 : Int32) (y3 : Int32) (y4 : Int64) (y6 : Int64) (y8 : Int64) (y10 : Int64) (y12 : Int32), B56 v0 y1 y2 y3 y4 y6 y8 y10 y12 → J p l e (rmk 3 73) s m args below meth c D A 14 0 0 (MQ below (va_Qi (fun (r : Int32) (u : Vl) => Q r u) (fun u t => va_P D.1 vwCl ((fun (u : Vl) => List.flatten [bX9 cI cJ cZ a0 r0 u]) u) t.heap ∧ va_D A ((fun (u : Vl) => List.flatten [bX9 cI cJ cZ a0 r0 u]) u)) A) args s 0 0 A) 56 [(0, .ref a0), (1, .int y1), (2, .int y2), (3, .int y3), (4, .long y4), (6, .long y6), (8, .long y8), (10, .long y10), (12, .int y12)] [] (List.flatten [bX9 cI cJ cZ a0 r0 v0])) : ∀ (v0 : Vl) (y1 : Int32) (y2 : Int32) (y3 : Int32) (y6 : Int64) (y8 : Int64) (y10 : Int64) (y12 : Int32) (y13 : Int32) (s0 : Int64), wp_X9_round_c173  Q B56 v0 y1 y2 y3 y6 y8 y10 y12 y13 s0 → J p l e (rmk 3 73) s m args below meth c D A 14 0 0 (MQ below (va_Qi (fun (r : Int32) (u : Vl) => Q r u) (fun u t => va_P D.1 vwCl ((fun (u : Vl) => List.flatten [bX9 cI cJ cZ a0 r0 u]) u) t.heap ∧ va_D A ((fun (u : Vl) => List.flatten [bX9 cI cJ cZ a0 r0 u]) u)) A) args s 0 0 A) 173 [(0, .ref a0), (1, .int y1), (2, .int y2), (3, .int y3), (6, .long y6), (8, .long y8), (10, .long y10), (12, .int y12), (13, .int y13)] [.long s0] (List.flatten [bX9 cI cJ cZ a0 r0 v0]) := by
  intro v0 y1 y2 y3 y6 y8 y10 y12 y13 s0 h
  refine J_lstore C 175 [(4, .long s0), (0, .ref a0), (1, .int y1), (2, .int y2), (3, .int y3), (6, .long y6), (8, .long y8), (10, .long y10), (12, .int y12), (13, .int y13)] dX9_round_173 rfl (by decide) rfl ?_
  refine J_iload C 177 dX9_round_175 rfl rfl ?_
  refine J_if_eq C 180 187 dX9_round_177 rfl rfl (fun c => ?_) (fun c => ?_)
  · have h := h.1 c
    refine J_lload C 189 dX9_round_187 rfl rfl ?_
    refine J_loc [1, 2, 3, 4, 0, 6, 7, 8] rfl ?_
    exact wk_X9_round_c189 C hr hk hB56 v0 y1 y2 y3 s0 y8 y10 y12 y6 h
  · have h := h.2 c
    refine J_aload_n C 181 dX9_round_180 rfl rfl ?_
    refine J_get C 184 9 inlX9 0 26 rfl rfl (by decide) wd200 rfl rfl dX9_round_181 rfl ?_
    refine J_goto C 189 dX9_round_184 rfl ?_
    refine J_loc [1, 2, 3, 4, 0, 6, 7, 8] rfl ?_
    exact wk_X9_round_c189 C hr hk hB56 v0 y1 y2 y3 s0 y8 y10 y12 (v0.2.1 26) h
def wp_X9_round_c158  (Q : Int32 → Vl → Prop) (B56 : Vl → Int32 → Int32 → Int32 → Int64 → Int64 → Int64 → Int64 → Int32 → Prop) (v0 : Vl) (y1 : Int32) (y2 : Int32) (y4 : Int64) (y6 : Int64) (y8 : Int64) (y10 : Int64) (y12 : Int32) (y13 : Int32) (s0 : Int32) : Prop := ((y13 = 0 → wp_X9_round_c173  Q B56 v0 y1 y2 s0 y6 y8 y10 y12 y13 y4) ∧ (¬ y13 = 0 → wp_X9_round_c173  Q B56 v0 y1 y2 s0 y6 y8 y10 y12 y13 (v0.2.1 25)))
set_option maxHeartbeats 4000000 in
set_option maxRecDepth 100000 in
theorem wk_X9_round_c158 {p : Program} {l : Launch} {e : Env} {s : State} {m : MethodId} {args : Array Value} {below : List Frame} {meth : Method} {c : Code} {D : GG} {A : Nat → Prop} {cI cJ cZ cS : ClassId} {a0 : Nat} {r0 : Nat → Nat}  {B56 : Vl → Int32 → Int32 → Int32 → Int64 → Int64 → Int64 → Int64 → Int32 → Prop} {Q : Int32 → Vl → Prop} (C : Cx p s m args c D (tyL cI cJ cZ cS) A RX9 cX9_round 14) (hr : meth.sig.returnType = some .int) (hk : meth.locks = false) (hB56 : ∀ (v0 : Vl) (y1 : Int32) (y2 : Int32) (y3 : Int32) (y4 : Int64) (y6 : Int64) (y8 : Int64) (y10 : Int64) (y12 : Int32), B56 v0 y1 y2 y3 y4 y6 y8 y10 y12 → J p l e (rmk 3 73) s m args below meth c D A 14 0 0 (MQ below (va_Qi (fun (r : Int32) (u : Vl) => Q r u) (fun u t => va_P D.1 vwCl ((fun (u : Vl) => List.flatten [bX9 cI cJ cZ a0 r0 u]) u) t.heap ∧ va_D A ((fun (u : Vl) => List.flatten [bX9 cI cJ cZ a0 r0 u]) u)) A) args s 0 0 A) 56 [(0, .ref a0), (1, .int y1), (2, .int y2), (3, .int y3), (4, .long y4), (6, .long y6), (8, .long y8), (10, .long y10), (12, .int y12)] [] (List.flatten [bX9 cI cJ cZ a0 r0 v0])) : ∀ (v0 : Vl) (y1 : Int32) (y2 : Int32) (y4 : Int64) (y6 : Int64) (y8 : Int64) (y10 : Int64) (y12 : Int32) (y13 : Int32) (s0 : Int32), wp_X9_round_c158  Q B56 v0 y1 y2 y4 y6 y8 y10 y12 y13 s0 → J p l e (rmk 3 73) s m args below meth c D A 14 0 0 (MQ below (va_Qi (fun (r : Int32) (u : Vl) => Q r u) (fun u t => va_P D.1 vwCl ((fun (u : Vl) => List.flatten [bX9 cI cJ cZ a0 r0 u]) u) t.heap ∧ va_D A ((fun (u : Vl) => List.flatten [bX9 cI cJ cZ a0 r0 u]) u)) A) args s 0 0 A) 158 [(0, .ref a0), (1, .int y1), (2, .int y2), (4, .long y4), (6, .long y6), (8, .long y8), (10, .long y10), (12, .int y12), (13, .int y13)] [.int s0] (List.flatten [bX9 cI cJ cZ a0 r0 v0]) := by
  intro v0 y1 y2 y4 y6 y8 y10 y12 y13 s0 h
  refine J_istore_n C 159 [(3, .int s0), (0, .ref a0), (1, .int y1), (2, .int y2), (4, .long y4), (6, .long y6), (8, .long y8), (10, .long y10), (12, .int y12), (13, .int y13)] dX9_round_158 rfl (by decide) rfl ?_
  refine J_iload C 161 dX9_round_159 rfl rfl ?_
  refine J_if_eq C 164 171 dX9_round_161 rfl rfl (fun c => ?_) (fun c => ?_)
  · have h := h.1 c
    refine J_lload C 173 dX9_round_171 rfl rfl ?_
    refine J_loc [1, 2, 3, 0, 5, 6, 7, 8, 9] rfl ?_
    exact wk_X9_round_c173 C hr hk hB56 v0 y1 y2 s0 y6 y8 y10 y12 y13 y4 h
  · have h := h.2 c
    refine J_aload_n C 165 dX9_round_164 rfl rfl ?_
    refine J_get C 168 9 inlX9 0 25 rfl rfl (by decide) wd199 rfl rfl dX9_round_165 rfl ?_
    refine J_goto C 173 dX9_round_168 rfl ?_
    refine J_loc [1, 2, 3, 0, 5, 6, 7, 8, 9] rfl ?_
    exact wk_X9_round_c173 C hr hk hB56 v0 y1 y2 s0 y6 y8 y10 y12 y13 (v0.2.1 25) h
def wp_X9_round_c145  (Q : Int32 → Vl → Prop) (B56 : Vl → Int32 → Int32 → Int32 → Int64 → Int64 → Int64 → Int64 → Int32 → Prop) (v0 : Vl) (y1 : Int32) (y2 : Int32) (y3 : Int32) (y4 : Int64) (y6 : Int64) (y8 : Int64) (y10 : Int64) (y12 : Int32) (s0 : Int32) : Prop := ((s0 = 0 → wp_X9_round_c158  Q B56 v0 y1 y2 y4 y6 y8 y10 y12 s0 y3) ∧ (¬ s0 = 0 → wp_X9_round_c158  Q B56 v0 y1 y2 y4 y6 y8 y10 y12 s0 y12))
set_option maxHeartbeats 4000000 in
set_option maxRecDepth 100000 in
theorem wk_X9_round_c145 {p : Program} {l : Launch} {e : Env} {s : State} {m : MethodId} {args : Array Value} {below : List Frame} {meth : Method} {c : Code} {D : GG} {A : Nat → Prop} {cI cJ cZ cS : ClassId} {a0 : Nat} {r0 : Nat → Nat}  {B56 : Vl → Int32 → Int32 → Int32 → Int64 → Int64 → Int64 → Int64 → Int32 → Prop} {Q : Int32 → Vl → Prop} (C : Cx p s m args c D (tyL cI cJ cZ cS) A RX9 cX9_round 14) (hr : meth.sig.returnType = some .int) (hk : meth.locks = false) (hB56 : ∀ (v0 : Vl) (y1 : Int32) (y2 : Int32) (y3 : Int32) (y4 : Int64) (y6 : Int64) (y8 : Int64) (y10 : Int64) (y12 : Int32), B56 v0 y1 y2 y3 y4 y6 y8 y10 y12 → J p l e (rmk 3 73) s m args below meth c D A 14 0 0 (MQ below (va_Qi (fun (r : Int32) (u : Vl) => Q r u) (fun u t => va_P D.1 vwCl ((fun (u : Vl) => List.flatten [bX9 cI cJ cZ a0 r0 u]) u) t.heap ∧ va_D A ((fun (u : Vl) => List.flatten [bX9 cI cJ cZ a0 r0 u]) u)) A) args s 0 0 A) 56 [(0, .ref a0), (1, .int y1), (2, .int y2), (3, .int y3), (4, .long y4), (6, .long y6), (8, .long y8), (10, .long y10), (12, .int y12)] [] (List.flatten [bX9 cI cJ cZ a0 r0 v0])) : ∀ (v0 : Vl) (y1 : Int32) (y2 : Int32) (y3 : Int32) (y4 : Int64) (y6 : Int64) (y8 : Int64) (y10 : Int64) (y12 : Int32) (s0 : Int32), wp_X9_round_c145  Q B56 v0 y1 y2 y3 y4 y6 y8 y10 y12 s0 → J p l e (rmk 3 73) s m args below meth c D A 14 0 0 (MQ below (va_Qi (fun (r : Int32) (u : Vl) => Q r u) (fun u t => va_P D.1 vwCl ((fun (u : Vl) => List.flatten [bX9 cI cJ cZ a0 r0 u]) u) t.heap ∧ va_D A ((fun (u : Vl) => List.flatten [bX9 cI cJ cZ a0 r0 u]) u)) A) args s 0 0 A) 145 [(0, .ref a0), (1, .int y1), (2, .int y2), (3, .int y3), (4, .long y4), (6, .long y6), (8, .long y8), (10, .long y10), (12, .int y12)] [.int s0] (List.flatten [bX9 cI cJ cZ a0 r0 v0]) := by
  intro v0 y1 y2 y3 y4 y6 y8 y10 y12 s0 h
  refine J_istore C 147 [(13, .int s0), (0, .ref a0), (1, .int y1), (2, .int y2), (3, .int y3), (4, .long y4), (6, .long y6), (8, .long y8), (10, .long y10), (12, .int y12)] dX9_round_145 rfl (by decide) rfl ?_
  refine J_iload C 149 dX9_round_147 rfl rfl ?_
  refine J_if_eq C 152 157 dX9_round_149 rfl rfl (fun c => ?_) (fun c => ?_)
  · have h := h.1 c
    refine J_iload_n C 158 dX9_round_157 rfl rfl ?_
    refine J_loc [1, 2, 3, 5, 6, 7, 8, 9, 0] rfl ?_
    exact wk_X9_round_c158 C hr hk hB56 v0 y1 y2 y4 y6 y8 y10 y12 s0 y3 h
  · have h := h.2 c
    refine J_iload C 154 dX9_round_152 rfl rfl ?_
    refine J_goto C 158 dX9_round_154 rfl ?_
    refine J_loc [1, 2, 3, 5, 6, 7, 8, 9, 0] rfl ?_
    exact wk_X9_round_c158 C hr hk hB56 v0 y1 y2 y4 y6 y8 y10 y12 s0 y12 h
def wp_X9_round_c140  (Q : Int32 → Vl → Prop) (B56 : Vl → Int32 → Int32 → Int32 → Int64 → Int64 → Int64 → Int64 → Int32 → Prop) (v0 : Vl) (y1 : Int32) (y2 : Int32) (y3 : Int32) (y4 : Int64) (y6 : Int64) (y8 : Int64) (y10 : Int64) (y12 : Int32) : Prop := wp_X9_round_c145  Q B56 v0 y1 y2 y3 y4 y6 y8 y10 y12 1
set_option maxHeartbeats 4000000 in
set_option maxRecDepth 100000 in
theorem wk_X9_round_c140 {p : Program} {l : Launch} {e : Env} {s : State} {m : MethodId} {args : Array Value} {below : List Frame} {meth : Method} {c : Code} {D : GG} {A : Nat → Prop} {cI cJ cZ cS : ClassId} {a0 : Nat} {r0 : Nat → Nat}  {B56 : Vl → Int32 → Int32 → Int32 → Int64 → Int64 → Int64 → Int64 → Int32 → Prop} {Q : Int32 → Vl → Prop} (C : Cx p s m args c D (tyL cI cJ cZ cS) A RX9 cX9_round 14) (hr : meth.sig.returnType = some .int) (hk : meth.locks = false) (hB56 : ∀ (v0 : Vl) (y1 : Int32) (y2 : Int32) (y3 : Int32) (y4 : Int64) (y6 : Int64) (y8 : Int64) (y10 : Int64) (y12 : Int32), B56 v0 y1 y2 y3 y4 y6 y8 y10 y12 → J p l e (rmk 3 73) s m args below meth c D A 14 0 0 (MQ below (va_Qi (fun (r : Int32) (u : Vl) => Q r u) (fun u t => va_P D.1 vwCl ((fun (u : Vl) => List.flatten [bX9 cI cJ cZ a0 r0 u]) u) t.heap ∧ va_D A ((fun (u : Vl) => List.flatten [bX9 cI cJ cZ a0 r0 u]) u)) A) args s 0 0 A) 56 [(0, .ref a0), (1, .int y1), (2, .int y2), (3, .int y3), (4, .long y4), (6, .long y6), (8, .long y8), (10, .long y10), (12, .int y12)] [] (List.flatten [bX9 cI cJ cZ a0 r0 v0])) : ∀ (v0 : Vl) (y1 : Int32) (y2 : Int32) (y3 : Int32) (y4 : Int64) (y6 : Int64) (y8 : Int64) (y10 : Int64) (y12 : Int32), wp_X9_round_c140  Q B56 v0 y1 y2 y3 y4 y6 y8 y10 y12 → J p l e (rmk 3 73) s m args below meth c D A 14 0 0 (MQ below (va_Qi (fun (r : Int32) (u : Vl) => Q r u) (fun u t => va_P D.1 vwCl ((fun (u : Vl) => List.flatten [bX9 cI cJ cZ a0 r0 u]) u) t.heap ∧ va_D A ((fun (u : Vl) => List.flatten [bX9 cI cJ cZ a0 r0 u]) u)) A) args s 0 0 A) 140 [(0, .ref a0), (1, .int y1), (2, .int y2), (3, .int y3), (4, .long y4), (6, .long y6), (8, .long y8), (10, .long y10), (12, .int y12)] [] (List.flatten [bX9 cI cJ cZ a0 r0 v0]) := by
  intro v0 y1 y2 y3 y4 y6 y8 y10 y12 h
  refine J_iconst C 141 dX9_round_140 rfl ki_1 ?_
  refine J_goto C 145 dX9_round_141 rfl ?_
  refine J_loc [0, 1, 2, 3, 4, 5, 6, 7, 8] rfl ?_
  exact wk_X9_round_c145 C hr hk hB56 v0 y1 y2 y3 y4 y6 y8 y10 y12 1 h
def wp_X9_round_c144  (Q : Int32 → Vl → Prop) (B56 : Vl → Int32 → Int32 → Int32 → Int64 → Int64 → Int64 → Int64 → Int32 → Prop) (v0 : Vl) (y1 : Int32) (y2 : Int32) (y3 : Int32) (y4 : Int64) (y6 : Int64) (y8 : Int64) (y10 : Int64) (y12 : Int32) : Prop := wp_X9_round_c145  Q B56 v0 y1 y2 y3 y4 y6 y8 y10 y12 0
set_option maxHeartbeats 4000000 in
set_option maxRecDepth 100000 in
theorem wk_X9_round_c144 {p : Program} {l : Launch} {e : Env} {s : State} {m : MethodId} {args : Array Value} {below : List Frame} {meth : Method} {c : Code} {D : GG} {A : Nat → Prop} {cI cJ cZ cS : ClassId} {a0 : Nat} {r0 : Nat → Nat}  {B56 : Vl → Int32 → Int32 → Int32 → Int64 → Int64 → Int64 → Int64 → Int32 → Prop} {Q : Int32 → Vl → Prop} (C : Cx p s m args c D (tyL cI cJ cZ cS) A RX9 cX9_round 14) (hr : meth.sig.returnType = some .int) (hk : meth.locks = false) (hB56 : ∀ (v0 : Vl) (y1 : Int32) (y2 : Int32) (y3 : Int32) (y4 : Int64) (y6 : Int64) (y8 : Int64) (y10 : Int64) (y12 : Int32), B56 v0 y1 y2 y3 y4 y6 y8 y10 y12 → J p l e (rmk 3 73) s m args below meth c D A 14 0 0 (MQ below (va_Qi (fun (r : Int32) (u : Vl) => Q r u) (fun u t => va_P D.1 vwCl ((fun (u : Vl) => List.flatten [bX9 cI cJ cZ a0 r0 u]) u) t.heap ∧ va_D A ((fun (u : Vl) => List.flatten [bX9 cI cJ cZ a0 r0 u]) u)) A) args s 0 0 A) 56 [(0, .ref a0), (1, .int y1), (2, .int y2), (3, .int y3), (4, .long y4), (6, .long y6), (8, .long y8), (10, .long y10), (12, .int y12)] [] (List.flatten [bX9 cI cJ cZ a0 r0 v0])) : ∀ (v0 : Vl) (y1 : Int32) (y2 : Int32) (y3 : Int32) (y4 : Int64) (y6 : Int64) (y8 : Int64) (y10 : Int64) (y12 : Int32), wp_X9_round_c144  Q B56 v0 y1 y2 y3 y4 y6 y8 y10 y12 → J p l e (rmk 3 73) s m args below meth c D A 14 0 0 (MQ below (va_Qi (fun (r : Int32) (u : Vl) => Q r u) (fun u t => va_P D.1 vwCl ((fun (u : Vl) => List.flatten [bX9 cI cJ cZ a0 r0 u]) u) t.heap ∧ va_D A ((fun (u : Vl) => List.flatten [bX9 cI cJ cZ a0 r0 u]) u)) A) args s 0 0 A) 144 [(0, .ref a0), (1, .int y1), (2, .int y2), (3, .int y3), (4, .long y4), (6, .long y6), (8, .long y8), (10, .long y10), (12, .int y12)] [] (List.flatten [bX9 cI cJ cZ a0 r0 v0]) := by
  intro v0 y1 y2 y3 y4 y6 y8 y10 y12 h
  refine J_iconst C 145 dX9_round_144 rfl ki_0 ?_
  refine J_loc [0, 1, 2, 3, 4, 5, 6, 7, 8] rfl ?_
  exact wk_X9_round_c145 C hr hk hB56 v0 y1 y2 y3 y4 y6 y8 y10 y12 0 h
def wp_X9_round_c69  (Q : Int32 → Vl → Prop) (B56 : Vl → Int32 → Int32 → Int32 → Int64 → Int64 → Int64 → Int64 → Int32 → Prop) : Nat → Vl → Int32 → Int32 → Int32 → Int64 → Int64 → Int64 → Int64 → Int32 → Int32 → Prop
  | 0 => fun _ _ _ _ _ _ _ _ _ _ => False
  | n + 1 => fun v0 y1 y2 y3 y4 y6 y8 y10 y12 y13 => ((y1 ≤ y13 → ((y3 < 0 → wp_X9_round_c140  Q B56 v0 y1 y2 y3 y4 y6 y8 y10 y12) ∧ (¬ y3 < 0 → (((v0.2.1 25) < y4 → wp_X9_round_c140  Q B56 v0 y1 y2 y3 y4 y6 y8 y10 y12) ∧ (¬ (v0.2.1 25) < y4 → ((¬ (v0.2.1 25) = y4 → wp_X9_round_c144  Q B56 v0 y1 y2 y3 y4 y6 y8 y10 y12) ∧ ((v0.2.1 25) = y4 → ((y6 ≤ (v0.2.1 26) → wp_X9_round_c144  Q B56 v0 y1 y2 y3 y4 y6 y8 y10 y12) ∧ (¬ y6 ≤ (v0.2.1 26) → wp_X9_round_c140  Q B56 v0 y1 y2 y3 y4 y6 y8 y10 y12))))))))) ∧ (¬ y1 ≤ y13 → wp_X9_goalOf v0 y12 y1 y13 (fun r_10 => ∀ v0s_11 : Vl, v0s_11 = setI v0 23 r_10 → wp_X9_skyOf v0s_11 (v0s_11.1 24) (fun r_12 => wp_X9_dayOf v0s_11 r_12 (fun u_13 => ∀ x_14 : Int32, x_14 = y13 + 1 → wp_X9_round_c69  Q B56 n u_13 y1 y2 y3 y4 y6 y8 y10 y12 x_14)))))
set_option maxHeartbeats 4000000 in
set_option maxRecDepth 100000 in
theorem wk_X9_round_c69 {p : Program} {l : Launch} {e : Env} {s : State} {m : MethodId} {args : Array Value} {below : List Frame} {meth : Method} {c : Code} {D : GG} {A : Nat → Prop} {cI cJ cZ cS : ClassId} {a0 : Nat} {r0 : Nat → Nat}  {B56 : Vl → Int32 → Int32 → Int32 → Int64 → Int64 → Int64 → Int64 → Int32 → Prop} {Q : Int32 → Vl → Prop} (C : Cx p s m args c D (tyL cI cJ cZ cS) A RX9 cX9_round 14) (hr : meth.sig.returnType = some .int) (hk : meth.locks = false) (hB56 : ∀ (v0 : Vl) (y1 : Int32) (y2 : Int32) (y3 : Int32) (y4 : Int64) (y6 : Int64) (y8 : Int64) (y10 : Int64) (y12 : Int32), B56 v0 y1 y2 y3 y4 y6 y8 y10 y12 → J p l e (rmk 3 73) s m args below meth c D A 14 0 0 (MQ below (va_Qi (fun (r : Int32) (u : Vl) => Q r u) (fun u t => va_P D.1 vwCl ((fun (u : Vl) => List.flatten [bX9 cI cJ cZ a0 r0 u]) u) t.heap ∧ va_D A ((fun (u : Vl) => List.flatten [bX9 cI cJ cZ a0 r0 u]) u)) A) args s 0 0 A) 56 [(0, .ref a0), (1, .int y1), (2, .int y2), (3, .int y3), (4, .long y4), (6, .long y6), (8, .long y8), (10, .long y10), (12, .int y12)] [] (List.flatten [bX9 cI cJ cZ a0 r0 v0])) : ∀ (n : Nat) (v0 : Vl) (y1 : Int32) (y2 : Int32) (y3 : Int32) (y4 : Int64) (y6 : Int64) (y8 : Int64) (y10 : Int64) (y12 : Int32) (y13 : Int32), wp_X9_round_c69  Q B56 n v0 y1 y2 y3 y4 y6 y8 y10 y12 y13 → J p l e (rmk 3 73) s m args below meth c D A 14 0 0 (MQ below (va_Qi (fun (r : Int32) (u : Vl) => Q r u) (fun u t => va_P D.1 vwCl ((fun (u : Vl) => List.flatten [bX9 cI cJ cZ a0 r0 u]) u) t.heap ∧ va_D A ((fun (u : Vl) => List.flatten [bX9 cI cJ cZ a0 r0 u]) u)) A) args s 0 0 A) 69 [(0, .ref a0), (1, .int y1), (2, .int y2), (3, .int y3), (4, .long y4), (6, .long y6), (8, .long y8), (10, .long y10), (12, .int y12), (13, .int y13)] [] (List.flatten [bX9 cI cJ cZ a0 r0 v0]) := by
  intro n
  induction n with
  | zero =>
    intro v0 y1 y2 y3 y4 y6 y8 y10 y12 y13 h
    exact False.elim h
  | succ n ih =>
    intro v0 y1 y2 y3 y4 y6 y8 y10 y12 y13 h
    refine J_iload C 71 dX9_round_69 rfl rfl ?_
    refine J_iload_n C 72 dX9_round_71 rfl rfl ?_
    refine J_icmp_ge C 75 106 dX9_round_72 rfl rfl (fun c => ?_) (fun c => ?_)
    · have h := h.1 c
      refine J_iload_n C 107 dX9_round_106 rfl rfl ?_
      refine J_if_lt C 110 140 dX9_round_107 rfl rfl (fun c => ?_) (fun c => ?_)
      · have h := h.1 c
        refine J_loc [0, 1, 2, 3, 4, 5, 6, 7, 8] rfl ?_
        exact wk_X9_round_c140 C hr hk hB56 v0 y1 y2 y3 y4 y6 y8 y10 y12 h
      · have h := h.2 c
        refine J_aload_n C 111 dX9_round_110 rfl rfl ?_
        refine J_get C 114 9 inlX9 0 25 rfl rfl (by decide) wd199 rfl rfl dX9_round_111 rfl ?_
        refine J_lload C 116 dX9_round_114 rfl rfl ?_
        refine J_lc_lt C 117 120 140 dX9_round_116 rfl dX9_round_117 rfl rfl (fun c => ?_) (fun c => ?_)
        · have h := h.1 c
          refine J_loc [0, 1, 2, 3, 4, 5, 6, 7, 8] rfl ?_
          exact wk_X9_round_c140 C hr hk hB56 v0 y1 y2 y3 y4 y6 y8 y10 y12 h
        · have h := h.2 c
          refine J_aload_n C 121 dX9_round_120 rfl rfl ?_
          refine J_get C 124 9 inlX9 0 25 rfl rfl (by decide) wd199 rfl rfl dX9_round_121 rfl ?_
          refine J_lload C 126 dX9_round_124 rfl rfl ?_
          refine J_lc_ne C 127 130 144 dX9_round_126 rfl dX9_round_127 rfl rfl (fun c => ?_) (fun c => ?_)
          · have h := h.1 c
            refine J_loc [0, 1, 2, 3, 4, 5, 6, 7, 8] rfl ?_
            exact wk_X9_round_c144 C hr hk hB56 v0 y1 y2 y3 y4 y6 y8 y10 y12 h
          · have h := h.2 c
            refine J_aload_n C 131 dX9_round_130 rfl rfl ?_
            refine J_get C 134 9 inlX9 0 26 rfl rfl (by decide) wd200 rfl rfl dX9_round_131 rfl ?_
            refine J_lload C 136 dX9_round_134 rfl rfl ?_
            refine J_lc_ge C 137 140 144 dX9_round_136 rfl dX9_round_137 rfl rfl (fun c => ?_) (fun c => ?_)
            · have h := h.1 c
              refine J_loc [0, 1, 2, 3, 4, 5, 6, 7, 8] rfl ?_
              exact wk_X9_round_c144 C hr hk hB56 v0 y1 y2 y3 y4 y6 y8 y10 y12 h
            · have h := h.2 c
              refine J_loc [0, 1, 2, 3, 4, 5, 6, 7, 8] rfl ?_
              exact wk_X9_round_c140 C hr hk hB56 v0 y1 y2 y3 y4 y6 y8 y10 y12 h
    · have h := h.2 c
      refine J_aload_n C 76 dX9_round_75 rfl rfl ?_
      refine J_aload_n C 77 dX9_round_76 rfl rfl ?_
      refine J_iload C 79 dX9_round_77 rfl rfl ?_
      refine J_iload_n C 80 dX9_round_79 rfl rfl ?_
      refine J_iload C 82 dX9_round_80 rfl rfl ?_
      refine J_callBiV (Bs := [bX9 cI cJ cZ a0 r0 v0]) (As := [.int y12, .int y1, .int y13]) C 85 (c_X9_goalOf l D cI cJ cZ cS a0 r0 v0 y12 y1 y13 _ h) wd819 wd816 wd5 wd817 wd818 9 0 rfl rfl rfl hdX9_goalOf ⟨Nat.le_of_ble_eq_true rfl, Nat.le_of_ble_eq_true rfl⟩ ⟨Nat.zero_le _, Nat.zero_le _⟩ rfl (Nat.le_of_ble_eq_true rfl) [0] [] 1 rfl (by decide +kernel) rfl rfl (fun (u : Unit) => [bX9 cI cJ cZ a0 r0 v0]) (fun _ => rfl) [0] (by decide +kernel) (fun _ => rfl) rfl (fun (u : Unit) => [bX9 cI cJ cZ a0 r0 v0]) (fun _ => rfl) dX9_round_82 rfl (fun r_10 u h => ?_)
      obtain ⟨v0s_11, ev0s_11⟩ : ∃ z : Vl, z = setI v0 23 r_10 := ⟨_, rfl⟩
      have h := h v0s_11 ev0s_11
      refine J_put C 88 9 inlX9 tyX9 tyX9_ok nmX9 0 23 rfl rfl (by decide) wd166 rfl rfl rfl rfl rfl (List.flatten [bX9 cI cJ cZ a0 r0 v0s_11]) (by subst ev0s_11; rfl) dX9_round_85 rfl ?_
      refine J_aload_n C 89 dX9_round_88 rfl rfl ?_
      refine J_aload_n C 90 dX9_round_89 rfl rfl ?_
      refine J_aload_n C 91 dX9_round_90 rfl rfl ?_
      refine J_get C 94 9 inlX9 0 24 rfl rfl (by decide) wd198 rfl rfl dX9_round_91 rfl ?_
      refine J_callBiV (Bs := [bX9 cI cJ cZ a0 r0 v0s_11]) (As := [.int (v0s_11.1 24)]) C 97 (c_X9_skyOf l D cI cJ cZ cS a0 r0 v0s_11 (v0s_11.1 24) _ h) wd569 wd566 wd5 wd567 wd568 9 0 rfl rfl rfl hdX9_skyOf ⟨Nat.le_of_ble_eq_true rfl, Nat.le_of_ble_eq_true rfl⟩ ⟨Nat.zero_le _, Nat.zero_le _⟩ rfl (Nat.le_of_ble_eq_true rfl) [0] [] 1 rfl (by decide +kernel) rfl rfl (fun (u : Unit) => [bX9 cI cJ cZ a0 r0 v0s_11]) (fun _ => rfl) [0] (by decide +kernel) (fun _ => rfl) rfl (fun (u : Unit) => [bX9 cI cJ cZ a0 r0 v0s_11]) (fun _ => rfl) dX9_round_94 rfl (fun r_12 u h => ?_)
      refine J_callBvV (Bs := [bX9 cI cJ cZ a0 r0 v0s_11]) (As := [.int r_12]) C 100 (c_X9_dayOf l D cI cJ cZ cS a0 r0 v0s_11 r_12 _ h) wd687 wd684 wd5 wd685 wd686 9 0 rfl rfl rfl hdX9_dayOf ⟨Nat.le_of_ble_eq_true rfl, Nat.le_of_ble_eq_true rfl⟩ ⟨Nat.zero_le _, Nat.zero_le _⟩ rfl (Nat.le_of_ble_eq_true rfl) [0] [] 1 rfl (by decide +kernel) rfl rfl (fun (u : Vl) => [bX9 cI cJ cZ a0 r0 u]) (fun _ => rfl) [0] (by decide +kernel) (fun _ => rfl) rfl (fun (u : Vl) => [bX9 cI cJ cZ a0 r0 u]) (fun _ => rfl) dX9_round_97 rfl (fun u h => ?_)
      obtain ⟨u_13, hu⟩ : ∃ z, z = u := ⟨_, rfl⟩
      subst hu
      obtain ⟨x_14, ex_14⟩ : ∃ z : Int32, z = y13 + 1 := ⟨_, rfl⟩
      have h := h x_14 ex_14
      refine J_iinc C 103 [(13, .int x_14), (0, .ref a0), (1, .int y1), (2, .int y2), (3, .int y3), (4, .long y4), (6, .long y6), (8, .long y8), (10, .long y10), (12, .int y12)] dX9_round_100 rfl rfl ((kinc_1 _).trans ex_14.symm) (by decide) rfl ?_
      refine J_goto C 69 dX9_round_103 rfl ?_
      refine J_loc [1, 2, 3, 4, 5, 6, 7, 8, 9, 0] rfl ?_
      exact ih u_13 y1 y2 y3 y4 y6 y8 y10 y12 x_14 h
def wp_X9_round_c56  (Q : Int32 → Vl → Prop) : Nat → Vl → Int32 → Int32 → Int32 → Int64 → Int64 → Int64 → Int64 → Int32 → Prop
  | 0 => fun _ _ _ _ _ _ _ _ _ => False
  | n + 1 => fun v0 y1 y2 y3 y4 y6 y8 y10 y12 => wp_X9_power v0 y1 (fun r_6 => ((r_6 ≤ y12 → ((¬ y2 = 0 → ((¬ y2 = 1 → wp_X9_goalOf v0 y3 y1 (y2 - 2) (fun r_7 => Q (Int64.toInt32 (Int32.toInt64 r_7)) v0)) ∧ (y2 = 1 → Q (Int64.toInt32 (y6 - y10)) v0))) ∧ (y2 = 0 → Q (Int64.toInt32 (y4 - y8)) v0))) ∧ (¬ r_6 ≤ y12 → (∃ k : Nat, wp_X9_round_c69  Q (wp_X9_round_c56  Q n) k v0 y1 y2 y3 y4 y6 y8 y10 y12 0))))
set_option maxHeartbeats 4000000 in
set_option maxRecDepth 100000 in
theorem wk_X9_round_c56 {p : Program} {l : Launch} {e : Env} {s : State} {m : MethodId} {args : Array Value} {below : List Frame} {meth : Method} {c : Code} {D : GG} {A : Nat → Prop} {cI cJ cZ cS : ClassId} {a0 : Nat} {r0 : Nat → Nat}  {Q : Int32 → Vl → Prop} (C : Cx p s m args c D (tyL cI cJ cZ cS) A RX9 cX9_round 14) (hr : meth.sig.returnType = some .int) (hk : meth.locks = false) : ∀ (n : Nat) (v0 : Vl) (y1 : Int32) (y2 : Int32) (y3 : Int32) (y4 : Int64) (y6 : Int64) (y8 : Int64) (y10 : Int64) (y12 : Int32), wp_X9_round_c56  Q n v0 y1 y2 y3 y4 y6 y8 y10 y12 → J p l e (rmk 3 73) s m args below meth c D A 14 0 0 (MQ below (va_Qi (fun (r : Int32) (u : Vl) => Q r u) (fun u t => va_P D.1 vwCl ((fun (u : Vl) => List.flatten [bX9 cI cJ cZ a0 r0 u]) u) t.heap ∧ va_D A ((fun (u : Vl) => List.flatten [bX9 cI cJ cZ a0 r0 u]) u)) A) args s 0 0 A) 56 [(0, .ref a0), (1, .int y1), (2, .int y2), (3, .int y3), (4, .long y4), (6, .long y6), (8, .long y8), (10, .long y10), (12, .int y12)] [] (List.flatten [bX9 cI cJ cZ a0 r0 v0]) := by
  intro n
  induction n with
  | zero =>
    intro v0 y1 y2 y3 y4 y6 y8 y10 y12 h
    exact False.elim h
  | succ n ih =>
    intro v0 y1 y2 y3 y4 y6 y8 y10 y12 h
    refine J_iload C 58 dX9_round_56 rfl rfl ?_
    refine J_aload_n C 59 dX9_round_58 rfl rfl ?_
    refine J_iload_n C 60 dX9_round_59 rfl rfl ?_
    refine J_callBiV (Bs := [bX9 cI cJ cZ a0 r0 v0]) (As := [.int y1]) C 63 (c_X9_power l D cI cJ cZ cS a0 r0 v0 y1 _ h) wd815 wd812 wd5 wd813 wd814 9 0 rfl rfl rfl hdX9_power ⟨Nat.le_of_ble_eq_true rfl, Nat.le_of_ble_eq_true rfl⟩ ⟨Nat.zero_le _, Nat.zero_le _⟩ rfl (Nat.le_of_ble_eq_true rfl) [0] [] 1 rfl (by decide +kernel) rfl rfl (fun (u : Unit) => [bX9 cI cJ cZ a0 r0 v0]) (fun _ => rfl) [0] (by decide +kernel) (fun _ => rfl) rfl (fun (u : Unit) => [bX9 cI cJ cZ a0 r0 v0]) (fun _ => rfl) dX9_round_60 rfl (fun r_6 u h => ?_)
    refine J_icmp_ge C 66 202 dX9_round_63 rfl rfl (fun c => ?_) (fun c => ?_)
    · have h := h.1 c
      refine J_iload_n C 203 dX9_round_202 rfl rfl ?_
      refine J_if_ne C 206 214 dX9_round_203 rfl rfl (fun c => ?_) (fun c => ?_)
      · have h := h.1 c
        refine J_iload_n C 215 dX9_round_214 rfl rfl ?_
        refine J_iconst C 216 dX9_round_215 rfl ki_1 ?_
        refine J_icmp_ne C 219 227 dX9_round_216 rfl rfl (fun c => ?_) (fun c => ?_)
        · have h := h.1 c
          refine J_aload_n C 228 dX9_round_227 rfl rfl ?_
          refine J_iload_n C 229 dX9_round_228 rfl rfl ?_
          refine J_iload_n C 230 dX9_round_229 rfl rfl ?_
          refine J_iload_n C 231 dX9_round_230 rfl rfl ?_
          refine J_iconst C 232 dX9_round_231 rfl ki_2 ?_
          refine J_isub C 233 dX9_round_232 rfl ?_
          refine J_callBiV (Bs := [bX9 cI cJ cZ a0 r0 v0]) (As := [.int y3, .int y1, .int (y2 - 2)]) C 236 (c_X9_goalOf l D cI cJ cZ cS a0 r0 v0 y3 y1 (y2 - 2) _ h) wd819 wd816 wd5 wd817 wd818 9 0 rfl rfl rfl hdX9_goalOf ⟨Nat.le_of_ble_eq_true rfl, Nat.le_of_ble_eq_true rfl⟩ ⟨Nat.zero_le _, Nat.zero_le _⟩ rfl (Nat.le_of_ble_eq_true rfl) [0] [] 1 rfl (by decide +kernel) rfl rfl (fun (u : Unit) => [bX9 cI cJ cZ a0 r0 v0]) (fun _ => rfl) [0] (by decide +kernel) (fun _ => rfl) rfl (fun (u : Unit) => [bX9 cI cJ cZ a0 r0 v0]) (fun _ => rfl) dX9_round_233 rfl (fun r_7 u h => ?_)
          refine J_i2l C 237 dX9_round_236 rfl ?_
          refine J_l2i C 238 dX9_round_237 rfl ?_
          exact J_iret C hr hk v0 rfl dX9_round_238 h
        · have h := h.2 c
          refine J_lload C 221 dX9_round_219 rfl rfl ?_
          refine J_lload C 223 dX9_round_221 rfl rfl ?_
          refine J_lsub C 224 dX9_round_223 rfl ?_
          refine J_goto C 237 dX9_round_224 rfl ?_
          refine J_l2i C 238 dX9_round_237 rfl ?_
          exact J_iret C hr hk v0 rfl dX9_round_238 h
      · have h := h.2 c
        refine J_lload C 208 dX9_round_206 rfl rfl ?_
        refine J_lload C 210 dX9_round_208 rfl rfl ?_
        refine J_lsub C 211 dX9_round_210 rfl ?_
        refine J_goto C 237 dX9_round_211 rfl ?_
        refine J_l2i C 238 dX9_round_237 rfl ?_
        exact J_iret C hr hk v0 rfl dX9_round_238 h
    · have h := h.2 c
      refine J_iconst C 67 dX9_round_66 rfl ki_0 ?_
      refine J_istore C 69 [(13, .int 0), (0, .ref a0), (1, .int y1), (2, .int y2), (3, .int y3), (4, .long y4), (6, .long y6), (8, .long y8), (10, .long y10), (12, .int y12)] dX9_round_67 rfl (by decide) rfl ?_
      refine J_loc [1, 2, 3, 4, 5, 6, 7, 8, 9, 0] rfl ?_
      obtain ⟨n1, h⟩ := h
      exact wk_X9_round_c69 C hr hk ih n1 v0 y1 y2 y3 y4 y6 y8 y10 y12 0 h
def wp_X9_round (v0 : Vl) (x1 : Int32) (x2 : Int32) (Q : Int32 → Vl → Prop) : Prop := wp_X9_in (Int32.toInt64 x1) 1 4 (fun r_1 => ((r_1 = 0 → Q (-1000000002) v0) ∧ (¬ r_1 = 0 → wp_X9_in (Int32.toInt64 x2) 0 (Int32.toInt64 (1 + x1)) (fun r_2 => ((¬ r_2 = 0 → wp_X9_save v0 2 (fun u_3 => ∀ x_4 : Int64, x_4 = (u_3.2.1 25) → ∀ x_5 : Int64, x_5 = (u_3.2.1 26) → (∃ k : Nat, wp_X9_round_c56  Q k u_3 x1 x2 (-1) 0 0 x_4 x_5 0))) ∧ (r_2 = 0 → Q (-1000000002) v0))))))
set_option maxHeartbeats 4000000 in
set_option maxRecDepth 100000 in
theorem c_X9_round (l : Launch) (D : GG) (cI cJ cZ cS : ClassId) (a0 : Nat) (r0 : Nat → Nat) (v0 : Vl) (x1 : Int32) (x2 : Int32) (Q : Int32 → Vl → Prop) (h : wp_X9_round v0 x1 x2 Q) : Mi l D (tyL cI cJ cZ cS) yX9_round cX9_round 14 .int 3 73 [.ref a0, .int x1, .int x2] (List.flatten [bX9 cI cJ cZ a0 r0 v0]) (fun (r : Int32) (u : Vl) => Q r u) (fun (u : Vl) => List.flatten [bX9 cI cJ cZ a0 r0 u]) := by
  refine Mi_of RX9 [(0, .ref a0), (1, .int x1), (2, .int x2)] (by decide +kernel) rfl rfl (Nat.le_of_ble_eq_true rfl) ?_
  intro p e s m args below meth c A C hr hk
  refine J_iload_n C 1 dX9_round_0 rfl rfl ?_
  refine J_i2l C 2 dX9_round_1 rfl ?_
  refine J_lconst C 3 dX9_round_2 rfl kl_1 ?_
  refine J_ldc2 C 6 wd807 dX9_round_3 rfl ?_
  refine J_callBiS (Bs := [bX9 cI cJ cZ a0 r0 v0]) (As := [.long (Int32.toInt64 x1), .long 1, .long 4]) C 9 (c_X9_in l D cI cJ cZ cS (Int32.toInt64 x1) 1 4 _ h) wd225 wd223 wd5 wd224 hdX9_in ⟨Nat.le_of_ble_eq_true rfl, Nat.le_of_ble_eq_true rfl⟩ ⟨Nat.zero_le _, Nat.zero_le _⟩ rfl (Nat.le_of_ble_eq_true rfl) [] [0] 1 rfl (by decide +kernel) rfl rfl (fun (u : Unit) => ([] : List va_W)) (fun _ => rfl) [0] (by decide +kernel) (fun _ => rfl) rfl (fun (u : Unit) => [bX9 cI cJ cZ a0 r0 v0]) (fun _ => rfl) dX9_round_6 rfl (fun r_1 u h => ?_)
  refine J_if_eq C 12 25 dX9_round_9 rfl rfl (fun c => ?_) (fun c => ?_)
  · have h := h.1 c
    refine J_ldc C 27 wd219 dX9_round_25 rfl ?_
    exact J_iret C hr hk v0 rfl dX9_round_27 h
  · have h := h.2 c
    refine J_iload_n C 13 dX9_round_12 rfl rfl ?_
    refine J_i2l C 14 dX9_round_13 rfl ?_
    refine J_lconst C 15 dX9_round_14 rfl kl_0 ?_
    refine J_iconst C 16 dX9_round_15 rfl ki_1 ?_
    refine J_iload_n C 17 dX9_round_16 rfl rfl ?_
    refine J_iadd C 18 dX9_round_17 rfl ?_
    refine J_i2l C 19 dX9_round_18 rfl ?_
    refine J_callBiS (Bs := [bX9 cI cJ cZ a0 r0 v0]) (As := [.long (Int32.toInt64 x2), .long 0, .long (Int32.toInt64 (1 + x1))]) C 22 (c_X9_in l D cI cJ cZ cS (Int32.toInt64 x2) 0 (Int32.toInt64 (1 + x1)) _ h) wd225 wd223 wd5 wd224 hdX9_in ⟨Nat.le_of_ble_eq_true rfl, Nat.le_of_ble_eq_true rfl⟩ ⟨Nat.zero_le _, Nat.zero_le _⟩ rfl (Nat.le_of_ble_eq_true rfl) [] [0] 1 rfl (by decide +kernel) rfl rfl (fun (u : Unit) => ([] : List va_W)) (fun _ => rfl) [0] (by decide +kernel) (fun _ => rfl) rfl (fun (u : Unit) => [bX9 cI cJ cZ a0 r0 v0]) (fun _ => rfl) dX9_round_19 rfl (fun r_2 u h => ?_)
    refine J_if_ne C 25 28 dX9_round_22 rfl rfl (fun c => ?_) (fun c => ?_)
    · have h := h.1 c
      refine J_iconst C 29 dX9_round_28 rfl ki_m1 ?_
      refine J_istore_n C 30 [(3, .int (-1)), (0, .ref a0), (1, .int x1), (2, .int x2)] dX9_round_29 rfl (by decide) rfl ?_
      refine J_lconst C 31 dX9_round_30 rfl kl_0 ?_
      refine J_lstore C 33 [(4, .long 0), (3, .int (-1)), (0, .ref a0), (1, .int x1), (2, .int x2)] dX9_round_31 rfl (by decide) rfl ?_
      refine J_lconst C 34 dX9_round_33 rfl kl_0 ?_
      refine J_lstore C 36 [(6, .long 0), (4, .long 0), (3, .int (-1)), (0, .ref a0), (1, .int x1), (2, .int x2)] dX9_round_34 rfl (by decide) rfl ?_
      refine J_aload_n C 37 dX9_round_36 rfl rfl ?_
      refine J_iconst C 38 dX9_round_37 rfl ki_2 ?_
      refine J_callBvV (Bs := [bX9 cI cJ cZ a0 r0 v0]) (As := [.int 2]) C 41 (c_X9_save l D cI cJ cZ cS a0 r0 v0 2 _ h) wd811 wd808 wd5 wd809 wd810 9 0 rfl rfl rfl hdX9_save ⟨Nat.le_of_ble_eq_true rfl, Nat.le_of_ble_eq_true rfl⟩ ⟨Nat.zero_le _, Nat.zero_le _⟩ rfl (Nat.le_of_ble_eq_true rfl) [0] [] 1 rfl (by decide +kernel) rfl rfl (fun (u : Vl) => [bX9 cI cJ cZ a0 r0 u]) (fun _ => rfl) [0] (by decide +kernel) (fun _ => rfl) rfl (fun (u : Vl) => [bX9 cI cJ cZ a0 r0 u]) (fun _ => rfl) dX9_round_38 rfl (fun u h => ?_)
      obtain ⟨u_3, hu⟩ : ∃ z, z = u := ⟨_, rfl⟩
      subst hu
      refine J_aload_n C 42 dX9_round_41 rfl rfl ?_
      refine J_get C 45 9 inlX9 0 25 rfl rfl (by decide) wd199 rfl rfl dX9_round_42 rfl ?_
      obtain ⟨x_4, ex_4⟩ : ∃ z : Int64, z = (u_3.2.1 25) := ⟨_, rfl⟩
      have h := h x_4 ex_4
      refine J_nml ex_4 ?_
      refine J_lstore C 47 [(8, .long x_4), (6, .long 0), (4, .long 0), (3, .int (-1)), (0, .ref a0), (1, .int x1), (2, .int x2)] dX9_round_45 rfl (by decide) rfl ?_
      refine J_aload_n C 48 dX9_round_47 rfl rfl ?_
      refine J_get C 51 9 inlX9 0 26 rfl rfl (by decide) wd200 rfl rfl dX9_round_48 rfl ?_
      obtain ⟨x_5, ex_5⟩ : ∃ z : Int64, z = (u_3.2.1 26) := ⟨_, rfl⟩
      have h := h x_5 ex_5
      refine J_nml ex_5 ?_
      refine J_lstore C 53 [(10, .long x_5), (8, .long x_4), (6, .long 0), (4, .long 0), (3, .int (-1)), (0, .ref a0), (1, .int x1), (2, .int x2)] dX9_round_51 rfl (by decide) rfl ?_
      refine J_iconst C 54 dX9_round_53 rfl ki_0 ?_
      refine J_istore C 56 [(12, .int 0), (10, .long x_5), (8, .long x_4), (6, .long 0), (4, .long 0), (3, .int (-1)), (0, .ref a0), (1, .int x1), (2, .int x2)] dX9_round_54 rfl (by decide) rfl ?_
      refine J_loc [6, 7, 8, 5, 4, 3, 2, 1, 0] rfl ?_
      obtain ⟨n1, h⟩ := h
      exact wk_X9_round_c56 C hr hk n1 u_3 x1 x2 (-1) 0 0 x_4 x_5 0 h
    · have h := h.2 c
      refine J_ldc C 27 wd219 dX9_round_25 rfl ?_
      exact J_iret C hr hk v0 rfl dX9_round_27 h
def wp_X9_needsOn_c52 (v0 : Vl) (Q : Int32 → Prop) (B5 : Int32 → Int32 → Int32 → Int32 → Prop) (y1 : Int32) (y2 : Int32) (y4 : Int32) (s0 : Int32) (s1 : Int32) : Prop := ∀ x_2 : Int32, x_2 = (s1 + s0) → ∀ x_3 : Int32, x_3 = y4 + 1 → B5 y1 y2 x_2 x_3
set_option maxHeartbeats 4000000 in
set_option maxRecDepth 100000 in
theorem wk_X9_needsOn_c52 {p : Program} {l : Launch} {e : Env} {s : State} {m : MethodId} {args : Array Value} {below : List Frame} {meth : Method} {c : Code} {D : GG} {A : Nat → Prop} {cI cJ cZ cS : ClassId} {a0 : Nat} {r0 : Nat → Nat} {v0 : Vl} {B5 : Int32 → Int32 → Int32 → Int32 → Prop} {Q : Int32 → Prop} (C : Cx p s m args c D (tyL cI cJ cZ cS) A RX9 cX9_needsOn 6) (hr : meth.sig.returnType = some .int) (hk : meth.locks = false) (hB5 : ∀ (y1 : Int32) (y2 : Int32) (y3 : Int32) (y4 : Int32), B5 y1 y2 y3 y4 → J p l e (rmk 1 25) s m args below meth c D A 6 0 0 (MQ below (va_Qi (fun (r : Int32) (u : Unit) => Q r) (fun u t => va_P D.1 vwCl ((fun (u : Unit) => List.flatten [bX9 cI cJ cZ a0 r0 v0]) u) t.heap ∧ va_D A ((fun (u : Unit) => List.flatten [bX9 cI cJ cZ a0 r0 v0]) u)) A) args s 0 0 A) 5 [(0, .ref a0), (1, .int y1), (2, .int y2), (3, .int y3), (4, .int y4)] [] (List.flatten [bX9 cI cJ cZ a0 r0 v0])) : ∀ (y1 : Int32) (y2 : Int32) (y4 : Int32) (s0 : Int32) (s1 : Int32), wp_X9_needsOn_c52 v0 Q B5 y1 y2 y4 s0 s1 → J p l e (rmk 1 25) s m args below meth c D A 6 0 0 (MQ below (va_Qi (fun (r : Int32) (u : Unit) => Q r) (fun u t => va_P D.1 vwCl ((fun (u : Unit) => List.flatten [bX9 cI cJ cZ a0 r0 v0]) u) t.heap ∧ va_D A ((fun (u : Unit) => List.flatten [bX9 cI cJ cZ a0 r0 v0]) u)) A) args s 0 0 A) 52 [(0, .ref a0), (1, .int y1), (2, .int y2), (4, .int y4)] [.int s0, .int s1] (List.flatten [bX9 cI cJ cZ a0 r0 v0]) := by
  intro y1 y2 y4 s0 s1 h
  refine J_iadd C 53 dX9_needsOn_52 rfl ?_
  obtain ⟨x_2, ex_2⟩ : ∃ z : Int32, z = (s1 + s0) := ⟨_, rfl⟩
  have h := h x_2 ex_2
  refine J_nmi ex_2 ?_
  refine J_istore_n C 54 [(3, .int x_2), (0, .ref a0), (1, .int y1), (2, .int y2), (4, .int y4)] dX9_needsOn_53 rfl (by decide) rfl ?_
  obtain ⟨x_3, ex_3⟩ : ∃ z : Int32, z = y4 + 1 := ⟨_, rfl⟩
  have h := h x_3 ex_3
  refine J_iinc C 57 [(4, .int x_3), (3, .int x_2), (0, .ref a0), (1, .int y1), (2, .int y2)] dX9_needsOn_54 rfl rfl ((kinc_1 _).trans ex_3.symm) (by decide) rfl ?_
  refine J_goto C 5 dX9_needsOn_57 rfl ?_
  refine J_loc [2, 3, 4, 1, 0] rfl ?_
  exact hB5 y1 y2 x_2 x_3 h
def wp_X9_needsOn_c5 (v0 : Vl) (Q : Int32 → Prop) : Nat → Int32 → Int32 → Int32 → Int32 → Prop
  | 0 => fun _ _ _ _ => False
  | n + 1 => fun y1 y2 y3 y4 => ((y2 ≤ y4 → Q y3) ∧ (¬ y2 ≤ y4 → wp_X9_needs v0 y1 ((v0.1 24) + y4) 0 (fun r_1 => vp_in (5 * y1) 45 ∧ (((¬ (v0.2.2.1 1 (Int32.toNatClampNeg (5 * y1))) = 2 → wp_X9_needsOn_c52 v0 Q (wp_X9_needsOn_c5 v0 Q n) y1 y2 y4 r_1 y3) ∧ ((v0.2.2.1 1 (Int32.toNatClampNeg (5 * y1))) = 2 → wp_X9_needsOn_c52 v0 Q (wp_X9_needsOn_c5 v0 Q n) y1 y2 y4 (r_1 + (r_1 / 10)) y3))))))
set_option maxHeartbeats 4000000 in
set_option maxRecDepth 100000 in
theorem wk_X9_needsOn_c5 {p : Program} {l : Launch} {e : Env} {s : State} {m : MethodId} {args : Array Value} {below : List Frame} {meth : Method} {c : Code} {D : GG} {A : Nat → Prop} {cI cJ cZ cS : ClassId} {a0 : Nat} {r0 : Nat → Nat} {v0 : Vl} {Q : Int32 → Prop} (C : Cx p s m args c D (tyL cI cJ cZ cS) A RX9 cX9_needsOn 6) (hr : meth.sig.returnType = some .int) (hk : meth.locks = false) : ∀ (n : Nat) (y1 : Int32) (y2 : Int32) (y3 : Int32) (y4 : Int32), wp_X9_needsOn_c5 v0 Q n y1 y2 y3 y4 → J p l e (rmk 1 25) s m args below meth c D A 6 0 0 (MQ below (va_Qi (fun (r : Int32) (u : Unit) => Q r) (fun u t => va_P D.1 vwCl ((fun (u : Unit) => List.flatten [bX9 cI cJ cZ a0 r0 v0]) u) t.heap ∧ va_D A ((fun (u : Unit) => List.flatten [bX9 cI cJ cZ a0 r0 v0]) u)) A) args s 0 0 A) 5 [(0, .ref a0), (1, .int y1), (2, .int y2), (3, .int y3), (4, .int y4)] [] (List.flatten [bX9 cI cJ cZ a0 r0 v0]) := by
  intro n
  induction n with
  | zero =>
    intro y1 y2 y3 y4 h
    exact False.elim h
  | succ n ih =>
    intro y1 y2 y3 y4 h
    refine J_iload C 7 dX9_needsOn_5 rfl rfl ?_
    refine J_iload_n C 8 dX9_needsOn_7 rfl rfl ?_
    refine J_icmp_ge C 11 60 dX9_needsOn_8 rfl rfl (fun c => ?_) (fun c => ?_)
    · have h := h.1 c
      refine J_iload_n C 61 dX9_needsOn_60 rfl rfl ?_
      exact J_iret C hr hk () rfl dX9_needsOn_61 h
    · have h := h.2 c
      refine J_aload_n C 12 dX9_needsOn_11 rfl rfl ?_
      refine J_iload_n C 13 dX9_needsOn_12 rfl rfl ?_
      refine J_aload_n C 14 dX9_needsOn_13 rfl rfl ?_
      refine J_get C 17 9 inlX9 0 24 rfl rfl (by decide) wd198 rfl rfl dX9_needsOn_14 rfl ?_
      refine J_iload C 19 dX9_needsOn_17 rfl rfl ?_
      refine J_iadd C 20 dX9_needsOn_19 rfl ?_
      refine J_iconst C 21 dX9_needsOn_20 rfl ki_0 ?_
      refine J_callBiV (Bs := [bX9 cI cJ cZ a0 r0 v0]) (As := [.int y1, .int ((v0.1 24) + y4), .int 0]) C 24 (c_X9_needs l D cI cJ cZ cS a0 r0 v0 y1 ((v0.1 24) + y4) 0 _ h) wd706 wd703 wd5 wd704 wd705 9 0 rfl rfl rfl hdX9_needs ⟨Nat.le_of_ble_eq_true rfl, Nat.le_of_ble_eq_true rfl⟩ ⟨Nat.zero_le _, Nat.zero_le _⟩ rfl (Nat.le_of_ble_eq_true rfl) [0] [] 1 rfl (by decide +kernel) rfl rfl (fun (u : Unit) => [bX9 cI cJ cZ a0 r0 v0]) (fun _ => rfl) [0] (by decide +kernel) (fun _ => rfl) rfl (fun (u : Unit) => [bX9 cI cJ cZ a0 r0 v0]) (fun _ => rfl) dX9_needsOn_21 rfl (fun r_1 u h => ?_)
      refine J_istore C 26 [(5, .int r_1), (0, .ref a0), (1, .int y1), (2, .int y2), (3, .int y3), (4, .int y4)] dX9_needsOn_24 rfl (by decide) rfl ?_
      refine J_iload_n C 27 dX9_needsOn_26 rfl rfl ?_
      refine J_aload_n C 28 dX9_needsOn_27 rfl rfl ?_
      refine J_get C 31 9 inlX9 0 1 rfl rfl (by decide) wd152 rfl rfl dX9_needsOn_28 rfl ?_
      refine J_iconst C 32 dX9_needsOn_31 rfl ki_5 ?_
      refine J_iload_n C 33 dX9_needsOn_32 rfl rfl ?_
      refine J_imul C 34 dX9_needsOn_33 rfl ?_
      obtain ⟨hi, h⟩ := h
      refine J_iald C 35 1 0 rfl rfl hi dX9_needsOn_34 rfl ?_
      refine J_iconst C 36 dX9_needsOn_35 rfl ki_2 ?_
      refine J_icmp_ne C 39 50 dX9_needsOn_36 rfl rfl (fun c => ?_) (fun c => ?_)
      · have h := h.1 c
        refine J_iload C 52 dX9_needsOn_50 rfl rfl ?_
        refine J_loc [1, 2, 3, 5] rfl ?_
        exact wk_X9_needsOn_c52 C hr hk ih y1 y2 y4 r_1 y3 h
      · have h := h.2 c
        refine J_iload C 41 dX9_needsOn_39 rfl rfl ?_
        refine J_iload C 43 dX9_needsOn_41 rfl rfl ?_
        refine J_bipush C 45 dX9_needsOn_43 rfl kb_10 ?_
        refine J_idiv C 46 dX9_needsOn_45 rfl (by decide) ?_
        refine J_iadd C 47 dX9_needsOn_46 rfl ?_
        refine J_goto C 52 dX9_needsOn_47 rfl ?_
        refine J_loc [1, 2, 3, 5] rfl ?_
        exact wk_X9_needsOn_c52 C hr hk ih y1 y2 y4 (r_1 + (r_1 / 10)) y3 h
def wp_X9_needsOn (v0 : Vl) (x1 : Int32) (x2 : Int32) (Q : Int32 → Prop) : Prop := (∃ k : Nat, wp_X9_needsOn_c5 v0 Q k x1 x2 0 0)
set_option maxHeartbeats 4000000 in
set_option maxRecDepth 100000 in
theorem c_X9_needsOn (l : Launch) (D : GG) (cI cJ cZ cS : ClassId) (a0 : Nat) (r0 : Nat → Nat) (v0 : Vl) (x1 : Int32) (x2 : Int32) (Q : Int32 → Prop) (h : wp_X9_needsOn v0 x1 x2 Q) : Mi l D (tyL cI cJ cZ cS) yX9_needsOn cX9_needsOn 6 .int 1 25 [.ref a0, .int x1, .int x2] (List.flatten [bX9 cI cJ cZ a0 r0 v0]) (fun (r : Int32) (u : Unit) => Q r) (fun (u : Unit) => List.flatten [bX9 cI cJ cZ a0 r0 v0]) := by
  refine Mi_of RX9 [(0, .ref a0), (1, .int x1), (2, .int x2)] (by decide +kernel) rfl rfl (Nat.le_of_ble_eq_true rfl) ?_
  intro p e s m args below meth c A C hr hk
  refine J_iconst C 1 dX9_needsOn_0 rfl ki_0 ?_
  refine J_istore_n C 2 [(3, .int 0), (0, .ref a0), (1, .int x1), (2, .int x2)] dX9_needsOn_1 rfl (by decide) rfl ?_
  refine J_iconst C 3 dX9_needsOn_2 rfl ki_0 ?_
  refine J_istore C 5 [(4, .int 0), (3, .int 0), (0, .ref a0), (1, .int x1), (2, .int x2)] dX9_needsOn_3 rfl (by decide) rfl ?_
  refine J_loc [2, 3, 4, 1, 0] rfl ?_
  obtain ⟨n1, h⟩ := h
  exact wk_X9_needsOn_c5 C hr hk n1 x1 x2 0 0 h
def wp_X9_darken_c202  (Q : Int32 → Vl → Prop) (B63 : Vl → Int32 → Int32 → Int32 → Int32 → Prop) (v0 : Vl) (y1 : Int32) (y3 : Int32) (y5 : Int32) (s0 : Int32) : Prop := ∀ x_3 : Int32, x_3 = y5 + 1 → B63 v0 y1 y3 s0 x_3
set_option maxHeartbeats 4000000 in
set_option maxRecDepth 100000 in
theorem wk_X9_darken_c202 {p : Program} {l : Launch} {e : Env} {s : State} {m : MethodId} {args : Array Value} {below : List Frame} {meth : Method} {c : Code} {D : GG} {A : Nat → Prop} {cI cJ cZ cS : ClassId} {a0 : Nat} {r0 : Nat → Nat}  {B63 : Vl → Int32 → Int32 → Int32 → Int32 → Prop} {Q : Int32 → Vl → Prop} (C : Cx p s m args c D (tyL cI cJ cZ cS) A RX9 cX9_darken 9) (hr : meth.sig.returnType = some .int) (hk : meth.locks = false) (hB63 : ∀ (v0 : Vl) (y1 : Int32) (y3 : Int32) (y4 : Int32) (y5 : Int32), B63 v0 y1 y3 y4 y5 → J p l e (rmk 2 50) s m args below meth c D A 9 0 0 (MQ below (va_Qi (fun (r : Int32) (u : Vl) => Q r u) (fun u t => va_P D.1 vwCl ((fun (u : Vl) => List.flatten [bX9 cI cJ cZ a0 r0 u]) u) t.heap ∧ va_D A ((fun (u : Vl) => List.flatten [bX9 cI cJ cZ a0 r0 u]) u)) A) args s 0 0 A) 63 [(0, .ref a0), (1, .int y1), (3, .int y3), (4, .int y4), (5, .int y5)] [] (List.flatten [bX9 cI cJ cZ a0 r0 v0])) : ∀ (v0 : Vl) (y1 : Int32) (y3 : Int32) (y5 : Int32) (s0 : Int32), wp_X9_darken_c202  Q B63 v0 y1 y3 y5 s0 → J p l e (rmk 2 50) s m args below meth c D A 9 0 0 (MQ below (va_Qi (fun (r : Int32) (u : Vl) => Q r u) (fun u t => va_P D.1 vwCl ((fun (u : Vl) => List.flatten [bX9 cI cJ cZ a0 r0 u]) u) t.heap ∧ va_D A ((fun (u : Vl) => List.flatten [bX9 cI cJ cZ a0 r0 u]) u)) A) args s 0 0 A) 202 [(0, .ref a0), (1, .int y1), (3, .int y3), (5, .int y5)] [.int s0] (List.flatten [bX9 cI cJ cZ a0 r0 v0]) := by
  intro v0 y1 y3 y5 s0 h
  refine J_istore C 204 [(4, .int s0), (0, .ref a0), (1, .int y1), (3, .int y3), (5, .int y5)] dX9_darken_202 rfl (by decide) rfl ?_
  obtain ⟨x_3, ex_3⟩ : ∃ z : Int32, z = y5 + 1 := ⟨_, rfl⟩
  have h := h x_3 ex_3
  refine J_iinc C 207 [(5, .int x_3), (4, .int s0), (0, .ref a0), (1, .int y1), (3, .int y3)] dX9_darken_204 rfl rfl ((kinc_1 _).trans ex_3.symm) (by decide) rfl ?_
  refine J_goto C 63 dX9_darken_207 rfl ?_
  refine J_loc [2, 3, 4, 1, 0] rfl ?_
  exact hB63 v0 y1 y3 s0 x_3 h
def wp_X9_darken_c189  (Q : Int32 → Vl → Prop) (B63 : Vl → Int32 → Int32 → Int32 → Int32 → Prop) (v0 : Vl) (y1 : Int32) (y4 : Int32) (y5 : Int32) (y7 : Int32) (y8 : Int32) (s0 : Int32) : Prop := ((y8 = 0 → wp_X9_darken_c202  Q B63 v0 y1 s0 y5 y4) ∧ (¬ y8 = 0 → wp_X9_darken_c202  Q B63 v0 y1 s0 y5 y7))
set_option maxHeartbeats 4000000 in
set_option maxRecDepth 100000 in
theorem wk_X9_darken_c189 {p : Program} {l : Launch} {e : Env} {s : State} {m : MethodId} {args : Array Value} {below : List Frame} {meth : Method} {c : Code} {D : GG} {A : Nat → Prop} {cI cJ cZ cS : ClassId} {a0 : Nat} {r0 : Nat → Nat}  {B63 : Vl → Int32 → Int32 → Int32 → Int32 → Prop} {Q : Int32 → Vl → Prop} (C : Cx p s m args c D (tyL cI cJ cZ cS) A RX9 cX9_darken 9) (hr : meth.sig.returnType = some .int) (hk : meth.locks = false) (hB63 : ∀ (v0 : Vl) (y1 : Int32) (y3 : Int32) (y4 : Int32) (y5 : Int32), B63 v0 y1 y3 y4 y5 → J p l e (rmk 2 50) s m args below meth c D A 9 0 0 (MQ below (va_Qi (fun (r : Int32) (u : Vl) => Q r u) (fun u t => va_P D.1 vwCl ((fun (u : Vl) => List.flatten [bX9 cI cJ cZ a0 r0 u]) u) t.heap ∧ va_D A ((fun (u : Vl) => List.flatten [bX9 cI cJ cZ a0 r0 u]) u)) A) args s 0 0 A) 63 [(0, .ref a0), (1, .int y1), (3, .int y3), (4, .int y4), (5, .int y5)] [] (List.flatten [bX9 cI cJ cZ a0 r0 v0])) : ∀ (v0 : Vl) (y1 : Int32) (y4 : Int32) (y5 : Int32) (y7 : Int32) (y8 : Int32) (s0 : Int32), wp_X9_darken_c189  Q B63 v0 y1 y4 y5 y7 y8 s0 → J p l e (rmk 2 50) s m args below meth c D A 9 0 0 (MQ below (va_Qi (fun (r : Int32) (u : Vl) => Q r u) (fun u t => va_P D.1 vwCl ((fun (u : Vl) => List.flatten [bX9 cI cJ cZ a0 r0 u]) u) t.heap ∧ va_D A ((fun (u : Vl) => List.flatten [bX9 cI cJ cZ a0 r0 u]) u)) A) args s 0 0 A) 189 [(0, .ref a0), (1, .int y1), (4, .int y4), (5, .int y5), (7, .int y7), (8, .int y8)] [.int s0] (List.flatten [bX9 cI cJ cZ a0 r0 v0]) := by
  intro v0 y1 y4 y5 y7 y8 s0 h
  refine J_istore_n C 190 [(3, .int s0), (0, .ref a0), (1, .int y1), (4, .int y4), (5, .int y5), (7, .int y7), (8, .int y8)] dX9_darken_189 rfl (by decide) rfl ?_
  refine J_iload C 192 dX9_darken_190 rfl rfl ?_
  refine J_if_eq C 195 200 dX9_darken_192 rfl rfl (fun c => ?_) (fun c => ?_)
  · have h := h.1 c
    refine J_iload C 202 dX9_darken_200 rfl rfl ?_
    refine J_loc [1, 2, 0, 4] rfl ?_
    exact wk_X9_darken_c202 C hr hk hB63 v0 y1 s0 y5 y4 h
  · have h := h.2 c
    refine J_iload C 197 dX9_darken_195 rfl rfl ?_
    refine J_goto C 202 dX9_darken_197 rfl ?_
    refine J_loc [1, 2, 0, 4] rfl ?_
    exact wk_X9_darken_c202 C hr hk hB63 v0 y1 s0 y5 y7 h
def wp_X9_darken_c176  (Q : Int32 → Vl → Prop) (B63 : Vl → Int32 → Int32 → Int32 → Int32 → Prop) (v0 : Vl) (y1 : Int32) (y3 : Int32) (y4 : Int32) (y5 : Int32) (y7 : Int32) (s0 : Int32) : Prop := ((s0 = 0 → wp_X9_darken_c189  Q B63 v0 y1 y4 y5 y7 s0 y3) ∧ (¬ s0 = 0 → wp_X9_darken_c189  Q B63 v0 y1 y4 y5 y7 s0 y5))
set_option maxHeartbeats 4000000 in
set_option maxRecDepth 100000 in
theorem wk_X9_darken_c176 {p : Program} {l : Launch} {e : Env} {s : State} {m : MethodId} {args : Array Value} {below : List Frame} {meth : Method} {c : Code} {D : GG} {A : Nat → Prop} {cI cJ cZ cS : ClassId} {a0 : Nat} {r0 : Nat → Nat}  {B63 : Vl → Int32 → Int32 → Int32 → Int32 → Prop} {Q : Int32 → Vl → Prop} (C : Cx p s m args c D (tyL cI cJ cZ cS) A RX9 cX9_darken 9) (hr : meth.sig.returnType = some .int) (hk : meth.locks = false) (hB63 : ∀ (v0 : Vl) (y1 : Int32) (y3 : Int32) (y4 : Int32) (y5 : Int32), B63 v0 y1 y3 y4 y5 → J p l e (rmk 2 50) s m args below meth c D A 9 0 0 (MQ below (va_Qi (fun (r : Int32) (u : Vl) => Q r u) (fun u t => va_P D.1 vwCl ((fun (u : Vl) => List.flatten [bX9 cI cJ cZ a0 r0 u]) u) t.heap ∧ va_D A ((fun (u : Vl) => List.flatten [bX9 cI cJ cZ a0 r0 u]) u)) A) args s 0 0 A) 63 [(0, .ref a0), (1, .int y1), (3, .int y3), (4, .int y4), (5, .int y5)] [] (List.flatten [bX9 cI cJ cZ a0 r0 v0])) : ∀ (v0 : Vl) (y1 : Int32) (y3 : Int32) (y4 : Int32) (y5 : Int32) (y7 : Int32) (s0 : Int32), wp_X9_darken_c176  Q B63 v0 y1 y3 y4 y5 y7 s0 → J p l e (rmk 2 50) s m args below meth c D A 9 0 0 (MQ below (va_Qi (fun (r : Int32) (u : Vl) => Q r u) (fun u t => va_P D.1 vwCl ((fun (u : Vl) => List.flatten [bX9 cI cJ cZ a0 r0 u]) u) t.heap ∧ va_D A ((fun (u : Vl) => List.flatten [bX9 cI cJ cZ a0 r0 u]) u)) A) args s 0 0 A) 176 [(0, .ref a0), (1, .int y1), (3, .int y3), (4, .int y4), (5, .int y5), (7, .int y7)] [.int s0] (List.flatten [bX9 cI cJ cZ a0 r0 v0]) := by
  intro v0 y1 y3 y4 y5 y7 s0 h
  refine J_istore C 178 [(8, .int s0), (0, .ref a0), (1, .int y1), (3, .int y3), (4, .int y4), (5, .int y5), (7, .int y7)] dX9_darken_176 rfl (by decide) rfl ?_
  refine J_iload C 180 dX9_darken_178 rfl rfl ?_
  refine J_if_eq C 183 188 dX9_darken_180 rfl rfl (fun c => ?_) (fun c => ?_)
  · have h := h.1 c
    refine J_iload_n C 189 dX9_darken_188 rfl rfl ?_
    refine J_loc [1, 2, 4, 5, 6, 0] rfl ?_
    exact wk_X9_darken_c189 C hr hk hB63 v0 y1 y4 y5 y7 s0 y3 h
  · have h := h.2 c
    refine J_iload C 185 dX9_darken_183 rfl rfl ?_
    refine J_goto C 189 dX9_darken_185 rfl ?_
    refine J_loc [1, 2, 4, 5, 6, 0] rfl ?_
    exact wk_X9_darken_c189 C hr hk hB63 v0 y1 y4 y5 y7 s0 y5 h
def wp_X9_darken_c175  (Q : Int32 → Vl → Prop) (B63 : Vl → Int32 → Int32 → Int32 → Int32 → Prop) (v0 : Vl) (y1 : Int32) (y3 : Int32) (y4 : Int32) (y5 : Int32) (y7 : Int32) : Prop := wp_X9_darken_c176  Q B63 v0 y1 y3 y4 y5 y7 0
set_option maxHeartbeats 4000000 in
set_option maxRecDepth 100000 in
theorem wk_X9_darken_c175 {p : Program} {l : Launch} {e : Env} {s : State} {m : MethodId} {args : Array Value} {below : List Frame} {meth : Method} {c : Code} {D : GG} {A : Nat → Prop} {cI cJ cZ cS : ClassId} {a0 : Nat} {r0 : Nat → Nat}  {B63 : Vl → Int32 → Int32 → Int32 → Int32 → Prop} {Q : Int32 → Vl → Prop} (C : Cx p s m args c D (tyL cI cJ cZ cS) A RX9 cX9_darken 9) (hr : meth.sig.returnType = some .int) (hk : meth.locks = false) (hB63 : ∀ (v0 : Vl) (y1 : Int32) (y3 : Int32) (y4 : Int32) (y5 : Int32), B63 v0 y1 y3 y4 y5 → J p l e (rmk 2 50) s m args below meth c D A 9 0 0 (MQ below (va_Qi (fun (r : Int32) (u : Vl) => Q r u) (fun u t => va_P D.1 vwCl ((fun (u : Vl) => List.flatten [bX9 cI cJ cZ a0 r0 u]) u) t.heap ∧ va_D A ((fun (u : Vl) => List.flatten [bX9 cI cJ cZ a0 r0 u]) u)) A) args s 0 0 A) 63 [(0, .ref a0), (1, .int y1), (3, .int y3), (4, .int y4), (5, .int y5)] [] (List.flatten [bX9 cI cJ cZ a0 r0 v0])) : ∀ (v0 : Vl) (y1 : Int32) (y3 : Int32) (y4 : Int32) (y5 : Int32) (y7 : Int32), wp_X9_darken_c175  Q B63 v0 y1 y3 y4 y5 y7 → J p l e (rmk 2 50) s m args below meth c D A 9 0 0 (MQ below (va_Qi (fun (r : Int32) (u : Vl) => Q r u) (fun u t => va_P D.1 vwCl ((fun (u : Vl) => List.flatten [bX9 cI cJ cZ a0 r0 u]) u) t.heap ∧ va_D A ((fun (u : Vl) => List.flatten [bX9 cI cJ cZ a0 r0 u]) u)) A) args s 0 0 A) 175 [(0, .ref a0), (1, .int y1), (3, .int y3), (4, .int y4), (5, .int y5), (7, .int y7)] [] (List.flatten [bX9 cI cJ cZ a0 r0 v0]) := by
  intro v0 y1 y3 y4 y5 y7 h
  refine J_iconst C 176 dX9_darken_175 rfl ki_0 ?_
  refine J_loc [0, 1, 2, 3, 4, 5] rfl ?_
  exact wk_X9_darken_c176 C hr hk hB63 v0 y1 y3 y4 y5 y7 0 h
def wp_X9_darken_c171  (Q : Int32 → Vl → Prop) (B63 : Vl → Int32 → Int32 → Int32 → Int32 → Prop) (v0 : Vl) (y1 : Int32) (y3 : Int32) (y4 : Int32) (y5 : Int32) (y7 : Int32) : Prop := wp_X9_darken_c176  Q B63 v0 y1 y3 y4 y5 y7 1
set_option maxHeartbeats 4000000 in
set_option maxRecDepth 100000 in
theorem wk_X9_darken_c171 {p : Program} {l : Launch} {e : Env} {s : State} {m : MethodId} {args : Array Value} {below : List Frame} {meth : Method} {c : Code} {D : GG} {A : Nat → Prop} {cI cJ cZ cS : ClassId} {a0 : Nat} {r0 : Nat → Nat}  {B63 : Vl → Int32 → Int32 → Int32 → Int32 → Prop} {Q : Int32 → Vl → Prop} (C : Cx p s m args c D (tyL cI cJ cZ cS) A RX9 cX9_darken 9) (hr : meth.sig.returnType = some .int) (hk : meth.locks = false) (hB63 : ∀ (v0 : Vl) (y1 : Int32) (y3 : Int32) (y4 : Int32) (y5 : Int32), B63 v0 y1 y3 y4 y5 → J p l e (rmk 2 50) s m args below meth c D A 9 0 0 (MQ below (va_Qi (fun (r : Int32) (u : Vl) => Q r u) (fun u t => va_P D.1 vwCl ((fun (u : Vl) => List.flatten [bX9 cI cJ cZ a0 r0 u]) u) t.heap ∧ va_D A ((fun (u : Vl) => List.flatten [bX9 cI cJ cZ a0 r0 u]) u)) A) args s 0 0 A) 63 [(0, .ref a0), (1, .int y1), (3, .int y3), (4, .int y4), (5, .int y5)] [] (List.flatten [bX9 cI cJ cZ a0 r0 v0])) : ∀ (v0 : Vl) (y1 : Int32) (y3 : Int32) (y4 : Int32) (y5 : Int32) (y7 : Int32), wp_X9_darken_c171  Q B63 v0 y1 y3 y4 y5 y7 → J p l e (rmk 2 50) s m args below meth c D A 9 0 0 (MQ below (va_Qi (fun (r : Int32) (u : Vl) => Q r u) (fun u t => va_P D.1 vwCl ((fun (u : Vl) => List.flatten [bX9 cI cJ cZ a0 r0 u]) u) t.heap ∧ va_D A ((fun (u : Vl) => List.flatten [bX9 cI cJ cZ a0 r0 u]) u)) A) args s 0 0 A) 171 [(0, .ref a0), (1, .int y1), (3, .int y3), (4, .int y4), (5, .int y5), (7, .int y7)] [] (List.flatten [bX9 cI cJ cZ a0 r0 v0]) := by
  intro v0 y1 y3 y4 y5 y7 h
  refine J_iconst C 172 dX9_darken_171 rfl ki_1 ?_
  refine J_goto C 176 dX9_darken_172 rfl ?_
  refine J_loc [0, 1, 2, 3, 4, 5] rfl ?_
  exact wk_X9_darken_c176 C hr hk hB63 v0 y1 y3 y4 y5 y7 1 h
def wp_X9_darken_c145  (Q : Int32 → Vl → Prop) (B63 : Vl → Int32 → Int32 → Int32 → Int32 → Prop) (B83 : Vl → Int32 → Int32 → Int32 → Int32 → Int32 → Int32 → Int32 → Prop) (v0 : Vl) (y1 : Int32) (y3 : Int32) (y4 : Int32) (y5 : Int32) (y6 : Int32) (y8 : Int32) (s0 : Int32) (s1 : Int32) : Prop := ∀ x_7 : Int32, x_7 = (s1 + s0) → ∀ x_8 : Int32, x_8 = y8 + 1 → B83 v0 y1 y3 y4 y5 y6 x_7 x_8
set_option maxHeartbeats 4000000 in
set_option maxRecDepth 100000 in
theorem wk_X9_darken_c145 {p : Program} {l : Launch} {e : Env} {s : State} {m : MethodId} {args : Array Value} {below : List Frame} {meth : Method} {c : Code} {D : GG} {A : Nat → Prop} {cI cJ cZ cS : ClassId} {a0 : Nat} {r0 : Nat → Nat}  {B63 : Vl → Int32 → Int32 → Int32 → Int32 → Prop} {B83 : Vl → Int32 → Int32 → Int32 → Int32 → Int32 → Int32 → Int32 → Prop} {Q : Int32 → Vl → Prop} (C : Cx p s m args c D (tyL cI cJ cZ cS) A RX9 cX9_darken 9) (hr : meth.sig.returnType = some .int) (hk : meth.locks = false) (hB63 : ∀ (v0 : Vl) (y1 : Int32) (y3 : Int32) (y4 : Int32) (y5 : Int32), B63 v0 y1 y3 y4 y5 → J p l e (rmk 2 50) s m args below meth c D A 9 0 0 (MQ below (va_Qi (fun (r : Int32) (u : Vl) => Q r u) (fun u t => va_P D.1 vwCl ((fun (u : Vl) => List.flatten [bX9 cI cJ cZ a0 r0 u]) u) t.heap ∧ va_D A ((fun (u : Vl) => List.flatten [bX9 cI cJ cZ a0 r0 u]) u)) A) args s 0 0 A) 63 [(0, .ref a0), (1, .int y1), (3, .int y3), (4, .int y4), (5, .int y5)] [] (List.flatten [bX9 cI cJ cZ a0 r0 v0])) (hB83 : ∀ (v0 : Vl) (y1 : Int32) (y3 : Int32) (y4 : Int32) (y5 : Int32) (y6 : Int32) (y7 : Int32) (y8 : Int32), B83 v0 y1 y3 y4 y5 y6 y7 y8 → J p l e (rmk 2 50) s m args below meth c D A 9 0 0 (MQ below (va_Qi (fun (r : Int32) (u : Vl) => Q r u) (fun u t => va_P D.1 vwCl ((fun (u : Vl) => List.flatten [bX9 cI cJ cZ a0 r0 u]) u) t.heap ∧ va_D A ((fun (u : Vl) => List.flatten [bX9 cI cJ cZ a0 r0 u]) u)) A) args s 0 0 A) 83 [(0, .ref a0), (1, .int y1), (3, .int y3), (4, .int y4), (5, .int y5), (6, .int y6), (7, .int y7), (8, .int y8)] [] (List.flatten [bX9 cI cJ cZ a0 r0 v0])) : ∀ (v0 : Vl) (y1 : Int32) (y3 : Int32) (y4 : Int32) (y5 : Int32) (y6 : Int32) (y8 : Int32) (s0 : Int32) (s1 : Int32), wp_X9_darken_c145  Q B63 B83 v0 y1 y3 y4 y5 y6 y8 s0 s1 → J p l e (rmk 2 50) s m args below meth c D A 9 0 0 (MQ below (va_Qi (fun (r : Int32) (u : Vl) => Q r u) (fun u t => va_P D.1 vwCl ((fun (u : Vl) => List.flatten [bX9 cI cJ cZ a0 r0 u]) u) t.heap ∧ va_D A ((fun (u : Vl) => List.flatten [bX9 cI cJ cZ a0 r0 u]) u)) A) args s 0 0 A) 145 [(0, .ref a0), (1, .int y1), (3, .int y3), (4, .int y4), (5, .int y5), (6, .int y6), (8, .int y8)] [.int s0, .int s1] (List.flatten [bX9 cI cJ cZ a0 r0 v0]) := by
  intro v0 y1 y3 y4 y5 y6 y8 s0 s1 h
  refine J_iadd C 146 dX9_darken_145 rfl ?_
  obtain ⟨x_7, ex_7⟩ : ∃ z : Int32, z = (s1 + s0) := ⟨_, rfl⟩
  have h := h x_7 ex_7
  refine J_nmi ex_7 ?_
  refine J_istore C 148 [(7, .int x_7), (0, .ref a0), (1, .int y1), (3, .int y3), (4, .int y4), (5, .int y5), (6, .int y6), (8, .int y8)] dX9_darken_146 rfl (by decide) rfl ?_
  obtain ⟨x_8, ex_8⟩ : ∃ z : Int32, z = y8 + 1 := ⟨_, rfl⟩
  have h := h x_8 ex_8
  refine J_iinc C 151 [(8, .int x_8), (7, .int x_7), (0, .ref a0), (1, .int y1), (3, .int y3), (4, .int y4), (5, .int y5), (6, .int y6)] dX9_darken_148 rfl rfl ((kinc_1 _).trans ex_8.symm) (by decide) rfl ?_
  refine J_goto C 83 dX9_darken_151 rfl ?_
  refine J_loc [2, 3, 4, 5, 6, 7, 1, 0] rfl ?_
  exact hB83 v0 y1 y3 y4 y5 y6 x_7 x_8 h
def wp_X9_darken_c115  (Q : Int32 → Vl → Prop) (B63 : Vl → Int32 → Int32 → Int32 → Int32 → Prop) (B83 : Vl → Int32 → Int32 → Int32 → Int32 → Int32 → Int32 → Int32 → Prop) (v0 : Vl) (y1 : Int32) (y3 : Int32) (y4 : Int32) (y5 : Int32) (y7 : Int32) (y8 : Int32) (s0 : Int32) (s1 : Int32) : Prop := ∀ x_5 : Int32, x_5 = (s1 + s0) → wp_X9_has y5 y8 (fun r_6 => ((r_6 = 0 → wp_X9_darken_c145  Q B63 B83 v0 y1 y3 y4 y5 x_5 y8 0 y7) ∧ (¬ r_6 = 0 → vp_in ((5 * y8) + 4) 45 ∧ (wp_X9_darken_c145  Q B63 B83 v0 y1 y3 y4 y5 x_5 y8 (v0.2.2.1 1 (Int32.toNatClampNeg ((5 * y8) + 4))) y7))))
set_option maxHeartbeats 4000000 in
set_option maxRecDepth 100000 in
theorem wk_X9_darken_c115 {p : Program} {l : Launch} {e : Env} {s : State} {m : MethodId} {args : Array Value} {below : List Frame} {meth : Method} {c : Code} {D : GG} {A : Nat → Prop} {cI cJ cZ cS : ClassId} {a0 : Nat} {r0 : Nat → Nat}  {B63 : Vl → Int32 → Int32 → Int32 → Int32 → Prop} {B83 : Vl → Int32 → Int32 → Int32 → Int32 → Int32 → Int32 → Int32 → Prop} {Q : Int32 → Vl → Prop} (C : Cx p s m args c D (tyL cI cJ cZ cS) A RX9 cX9_darken 9) (hr : meth.sig.returnType = some .int) (hk : meth.locks = false) (hB63 : ∀ (v0 : Vl) (y1 : Int32) (y3 : Int32) (y4 : Int32) (y5 : Int32), B63 v0 y1 y3 y4 y5 → J p l e (rmk 2 50) s m args below meth c D A 9 0 0 (MQ below (va_Qi (fun (r : Int32) (u : Vl) => Q r u) (fun u t => va_P D.1 vwCl ((fun (u : Vl) => List.flatten [bX9 cI cJ cZ a0 r0 u]) u) t.heap ∧ va_D A ((fun (u : Vl) => List.flatten [bX9 cI cJ cZ a0 r0 u]) u)) A) args s 0 0 A) 63 [(0, .ref a0), (1, .int y1), (3, .int y3), (4, .int y4), (5, .int y5)] [] (List.flatten [bX9 cI cJ cZ a0 r0 v0])) (hB83 : ∀ (v0 : Vl) (y1 : Int32) (y3 : Int32) (y4 : Int32) (y5 : Int32) (y6 : Int32) (y7 : Int32) (y8 : Int32), B83 v0 y1 y3 y4 y5 y6 y7 y8 → J p l e (rmk 2 50) s m args below meth c D A 9 0 0 (MQ below (va_Qi (fun (r : Int32) (u : Vl) => Q r u) (fun u t => va_P D.1 vwCl ((fun (u : Vl) => List.flatten [bX9 cI cJ cZ a0 r0 u]) u) t.heap ∧ va_D A ((fun (u : Vl) => List.flatten [bX9 cI cJ cZ a0 r0 u]) u)) A) args s 0 0 A) 83 [(0, .ref a0), (1, .int y1), (3, .int y3), (4, .int y4), (5, .int y5), (6, .int y6), (7, .int y7), (8, .int y8)] [] (List.flatten [bX9 cI cJ cZ a0 r0 v0])) : ∀ (v0 : Vl) (y1 : Int32) (y3 : Int32) (y4 : Int32) (y5 : Int32) (y7 : Int32) (y8 : Int32) (s0 : Int32) (s1 : Int32), wp_X9_darken_c115  Q B63 B83 v0 y1 y3 y4 y5 y7 y8 s0 s1 → J p l e (rmk 2 50) s m args below meth c D A 9 0 0 (MQ below (va_Qi (fun (r : Int32) (u : Vl) => Q r u) (fun u t => va_P D.1 vwCl ((fun (u : Vl) => List.flatten [bX9 cI cJ cZ a0 r0 u]) u) t.heap ∧ va_D A ((fun (u : Vl) => List.flatten [bX9 cI cJ cZ a0 r0 u]) u)) A) args s 0 0 A) 115 [(0, .ref a0), (1, .int y1), (3, .int y3), (4, .int y4), (5, .int y5), (7, .int y7), (8, .int y8)] [.int s0, .int s1] (List.flatten [bX9 cI cJ cZ a0 r0 v0]) := by
  intro v0 y1 y3 y4 y5 y7 y8 s0 s1 h
  refine J_iadd C 116 dX9_darken_115 rfl ?_
  obtain ⟨x_5, ex_5⟩ : ∃ z : Int32, z = (s1 + s0) := ⟨_, rfl⟩
  have h := h x_5 ex_5
  refine J_nmi ex_5 ?_
  refine J_istore C 118 [(6, .int x_5), (0, .ref a0), (1, .int y1), (3, .int y3), (4, .int y4), (5, .int y5), (7, .int y7), (8, .int y8)] dX9_darken_116 rfl (by decide) rfl ?_
  refine J_iload C 120 dX9_darken_118 rfl rfl ?_
  refine J_iload C 122 dX9_darken_120 rfl rfl ?_
  refine J_iload C 124 dX9_darken_122 rfl rfl ?_
  refine J_callBiS (Bs := [bX9 cI cJ cZ a0 r0 v0]) (As := [.int y5, .int y8]) C 127 (c_X9_has l D cI cJ cZ cS y5 y8 _ h) wd434 wd432 wd5 wd433 hdX9_has ⟨Nat.le_of_ble_eq_true rfl, Nat.le_of_ble_eq_true rfl⟩ ⟨Nat.zero_le _, Nat.zero_le _⟩ rfl (Nat.le_of_ble_eq_true rfl) [] [0] 1 rfl (by decide +kernel) rfl rfl (fun (u : Unit) => ([] : List va_W)) (fun _ => rfl) [0] (by decide +kernel) (fun _ => rfl) rfl (fun (u : Unit) => [bX9 cI cJ cZ a0 r0 v0]) (fun _ => rfl) dX9_darken_124 rfl (fun r_6 u h => ?_)
  refine J_if_eq C 130 144 dX9_darken_127 rfl rfl (fun c => ?_) (fun c => ?_)
  · have h := h.1 c
    refine J_iconst C 145 dX9_darken_144 rfl ki_0 ?_
    refine J_loc [1, 2, 3, 4, 5, 0, 7] rfl ?_
    exact wk_X9_darken_c145 C hr hk hB63 hB83 v0 y1 y3 y4 y5 x_5 y8 0 y7 h
  · have h := h.2 c
    refine J_aload_n C 131 dX9_darken_130 rfl rfl ?_
    refine J_get C 134 9 inlX9 0 1 rfl rfl (by decide) wd152 rfl rfl dX9_darken_131 rfl ?_
    refine J_iconst C 135 dX9_darken_134 rfl ki_5 ?_
    refine J_iload C 137 dX9_darken_135 rfl rfl ?_
    refine J_imul C 138 dX9_darken_137 rfl ?_
    refine J_iconst C 139 dX9_darken_138 rfl ki_4 ?_
    refine J_iadd C 140 dX9_darken_139 rfl ?_
    obtain ⟨hi, h⟩ := h
    refine J_iald C 141 1 0 rfl rfl hi dX9_darken_140 rfl ?_
    refine J_goto C 145 dX9_darken_141 rfl ?_
    refine J_loc [1, 2, 3, 4, 5, 0, 7] rfl ?_
    exact wk_X9_darken_c145 C hr hk hB63 hB83 v0 y1 y3 y4 y5 x_5 y8 (v0.2.2.1 1 (Int32.toNatClampNeg ((5 * y8) + 4))) y7 h
def wp_X9_darken_c83  (Q : Int32 → Vl → Prop) (B63 : Vl → Int32 → Int32 → Int32 → Int32 → Prop) : Nat → Vl → Int32 → Int32 → Int32 → Int32 → Int32 → Int32 → Int32 → Prop
  | 0 => fun _ _ _ _ _ _ _ _ => False
  | n + 1 => fun v0 y1 y3 y4 y5 y6 y7 y8 => (((v0.1 0) ≤ y8 → ((y1 < y6 → wp_X9_darken_c175  Q B63 v0 y1 y3 y4 y5 y7) ∧ (¬ y1 < y6 → ((y3 < 0 → wp_X9_darken_c171  Q B63 v0 y1 y3 y4 y5 y7) ∧ (¬ y3 < 0 → ((y4 ≤ y7 → wp_X9_darken_c175  Q B63 v0 y1 y3 y4 y5 y7) ∧ (¬ y4 ≤ y7 → wp_X9_darken_c171  Q B63 v0 y1 y3 y4 y5 y7))))))) ∧ (¬ (v0.1 0) ≤ y8 → wp_X9_has y5 y8 (fun r_4 => ((r_4 = 0 → vp_in y8 9 ∧ (wp_X9_darken_c115  Q B63 (wp_X9_darken_c83  Q B63 n) v0 y1 y3 y4 y5 y7 y8 (v0.2.2.1 51 (Int32.toNatClampNeg y8)) y6)) ∧ (¬ r_4 = 0 → wp_X9_darken_c115  Q B63 (wp_X9_darken_c83  Q B63 n) v0 y1 y3 y4 y5 y7 y8 0 y6)))))
set_option maxHeartbeats 4000000 in
set_option maxRecDepth 100000 in
theorem wk_X9_darken_c83 {p : Program} {l : Launch} {e : Env} {s : State} {m : MethodId} {args : Array Value} {below : List Frame} {meth : Method} {c : Code} {D : GG} {A : Nat → Prop} {cI cJ cZ cS : ClassId} {a0 : Nat} {r0 : Nat → Nat}  {B63 : Vl → Int32 → Int32 → Int32 → Int32 → Prop} {Q : Int32 → Vl → Prop} (C : Cx p s m args c D (tyL cI cJ cZ cS) A RX9 cX9_darken 9) (hr : meth.sig.returnType = some .int) (hk : meth.locks = false) (hB63 : ∀ (v0 : Vl) (y1 : Int32) (y3 : Int32) (y4 : Int32) (y5 : Int32), B63 v0 y1 y3 y4 y5 → J p l e (rmk 2 50) s m args below meth c D A 9 0 0 (MQ below (va_Qi (fun (r : Int32) (u : Vl) => Q r u) (fun u t => va_P D.1 vwCl ((fun (u : Vl) => List.flatten [bX9 cI cJ cZ a0 r0 u]) u) t.heap ∧ va_D A ((fun (u : Vl) => List.flatten [bX9 cI cJ cZ a0 r0 u]) u)) A) args s 0 0 A) 63 [(0, .ref a0), (1, .int y1), (3, .int y3), (4, .int y4), (5, .int y5)] [] (List.flatten [bX9 cI cJ cZ a0 r0 v0])) : ∀ (n : Nat) (v0 : Vl) (y1 : Int32) (y3 : Int32) (y4 : Int32) (y5 : Int32) (y6 : Int32) (y7 : Int32) (y8 : Int32), wp_X9_darken_c83  Q B63 n v0 y1 y3 y4 y5 y6 y7 y8 → J p l e (rmk 2 50) s m args below meth c D A 9 0 0 (MQ below (va_Qi (fun (r : Int32) (u : Vl) => Q r u) (fun u t => va_P D.1 vwCl ((fun (u : Vl) => List.flatten [bX9 cI cJ cZ a0 r0 u]) u) t.heap ∧ va_D A ((fun (u : Vl) => List.flatten [bX9 cI cJ cZ a0 r0 u]) u)) A) args s 0 0 A) 83 [(0, .ref a0), (1, .int y1), (3, .int y3), (4, .int y4), (5, .int y5), (6, .int y6), (7, .int y7), (8, .int y8)] [] (List.flatten [bX9 cI cJ cZ a0 r0 v0]) := by
  intro n
  induction n with
  | zero =>
    intro v0 y1 y3 y4 y5 y6 y7 y8 h
    exact False.elim h
  | succ n ih =>
    intro v0 y1 y3 y4 y5 y6 y7 y8 h
    refine J_iload C 85 dX9_darken_83 rfl rfl ?_
    refine J_aload_n C 86 dX9_darken_85 rfl rfl ?_
    refine J_get C 89 9 inlX9 0 0 rfl rfl (by decide) wd191 rfl rfl dX9_darken_86 rfl ?_
    refine J_icmp_ge C 92 154 dX9_darken_89 rfl rfl (fun c => ?_) (fun c => ?_)
    · have h := h.1 c
      refine J_iload C 156 dX9_darken_154 rfl rfl ?_
      refine J_iload_n C 157 dX9_darken_156 rfl rfl ?_
      refine J_icmp_gt C 160 175 dX9_darken_157 rfl rfl (fun c => ?_) (fun c => ?_)
      · have h := h.1 c
        refine J_loc [0, 1, 2, 3, 4, 6] rfl ?_
        exact wk_X9_darken_c175 C hr hk hB63 v0 y1 y3 y4 y5 y7 h
      · have h := h.2 c
        refine J_iload_n C 161 dX9_darken_160 rfl rfl ?_
        refine J_if_lt C 164 171 dX9_darken_161 rfl rfl (fun c => ?_) (fun c => ?_)
        · have h := h.1 c
          refine J_loc [0, 1, 2, 3, 4, 6] rfl ?_
          exact wk_X9_darken_c171 C hr hk hB63 v0 y1 y3 y4 y5 y7 h
        · have h := h.2 c
          refine J_iload C 166 dX9_darken_164 rfl rfl ?_
          refine J_iload C 168 dX9_darken_166 rfl rfl ?_
          refine J_icmp_ge C 171 175 dX9_darken_168 rfl rfl (fun c => ?_) (fun c => ?_)
          · have h := h.1 c
            refine J_loc [0, 1, 2, 3, 4, 6] rfl ?_
            exact wk_X9_darken_c175 C hr hk hB63 v0 y1 y3 y4 y5 y7 h
          · have h := h.2 c
            refine J_loc [0, 1, 2, 3, 4, 6] rfl ?_
            exact wk_X9_darken_c171 C hr hk hB63 v0 y1 y3 y4 y5 y7 h
    · have h := h.2 c
      refine J_iload C 94 dX9_darken_92 rfl rfl ?_
      refine J_iload C 96 dX9_darken_94 rfl rfl ?_
      refine J_iload C 98 dX9_darken_96 rfl rfl ?_
      refine J_callBiS (Bs := [bX9 cI cJ cZ a0 r0 v0]) (As := [.int y5, .int y8]) C 101 (c_X9_has l D cI cJ cZ cS y5 y8 _ h) wd434 wd432 wd5 wd433 hdX9_has ⟨Nat.le_of_ble_eq_true rfl, Nat.le_of_ble_eq_true rfl⟩ ⟨Nat.zero_le _, Nat.zero_le _⟩ rfl (Nat.le_of_ble_eq_true rfl) [] [0] 1 rfl (by decide +kernel) rfl rfl (fun (u : Unit) => ([] : List va_W)) (fun _ => rfl) [0] (by decide +kernel) (fun _ => rfl) rfl (fun (u : Unit) => [bX9 cI cJ cZ a0 r0 v0]) (fun _ => rfl) dX9_darken_98 rfl (fun r_4 u h => ?_)
      refine J_if_eq C 104 108 dX9_darken_101 rfl rfl (fun c => ?_) (fun c => ?_)
      · have h := h.1 c
        refine J_aload_n C 109 dX9_darken_108 rfl rfl ?_
        refine J_get C 112 9 inlX9 0 51 rfl rfl (by decide) wd178 rfl rfl dX9_darken_109 rfl ?_
        refine J_iload C 114 dX9_darken_112 rfl rfl ?_
        obtain ⟨hi, h⟩ := h
        refine J_iald C 115 20 0 rfl rfl hi dX9_darken_114 rfl ?_
        refine J_loc [0, 1, 2, 3, 4, 6, 7] rfl ?_
        exact wk_X9_darken_c115 C hr hk hB63 ih v0 y1 y3 y4 y5 y7 y8 (v0.2.2.1 51 (Int32.toNatClampNeg y8)) y6 h
      · have h := h.2 c
        refine J_iconst C 105 dX9_darken_104 rfl ki_0 ?_
        refine J_goto C 115 dX9_darken_105 rfl ?_
        refine J_loc [0, 1, 2, 3, 4, 6, 7] rfl ?_
        exact wk_X9_darken_c115 C hr hk hB63 ih v0 y1 y3 y4 y5 y7 y8 0 y6 h
def wp_X9_darken_c63  (Q : Int32 → Vl → Prop) : Nat → Vl → Int32 → Int32 → Int32 → Int32 → Prop
  | 0 => fun _ _ _ _ _ => False
  | n + 1 => fun v0 y1 y3 y4 y5 => (((1 <<< ((v0.1 0) &&& 31)) ≤ y5 → Q y3 v0) ∧ (¬ (1 <<< ((v0.1 0) &&& 31)) ≤ y5 → (∃ k : Nat, wp_X9_darken_c83  Q (wp_X9_darken_c63  Q n) k v0 y1 y3 y4 y5 0 0 0)))
set_option maxHeartbeats 4000000 in
set_option maxRecDepth 100000 in
theorem wk_X9_darken_c63 {p : Program} {l : Launch} {e : Env} {s : State} {m : MethodId} {args : Array Value} {below : List Frame} {meth : Method} {c : Code} {D : GG} {A : Nat → Prop} {cI cJ cZ cS : ClassId} {a0 : Nat} {r0 : Nat → Nat}  {Q : Int32 → Vl → Prop} (C : Cx p s m args c D (tyL cI cJ cZ cS) A RX9 cX9_darken 9) (hr : meth.sig.returnType = some .int) (hk : meth.locks = false) : ∀ (n : Nat) (v0 : Vl) (y1 : Int32) (y3 : Int32) (y4 : Int32) (y5 : Int32), wp_X9_darken_c63  Q n v0 y1 y3 y4 y5 → J p l e (rmk 2 50) s m args below meth c D A 9 0 0 (MQ below (va_Qi (fun (r : Int32) (u : Vl) => Q r u) (fun u t => va_P D.1 vwCl ((fun (u : Vl) => List.flatten [bX9 cI cJ cZ a0 r0 u]) u) t.heap ∧ va_D A ((fun (u : Vl) => List.flatten [bX9 cI cJ cZ a0 r0 u]) u)) A) args s 0 0 A) 63 [(0, .ref a0), (1, .int y1), (3, .int y3), (4, .int y4), (5, .int y5)] [] (List.flatten [bX9 cI cJ cZ a0 r0 v0]) := by
  intro n
  induction n with
  | zero =>
    intro v0 y1 y3 y4 y5 h
    exact False.elim h
  | succ n ih =>
    intro v0 y1 y3 y4 y5 h
    refine J_iload C 65 dX9_darken_63 rfl rfl ?_
    refine J_iconst C 66 dX9_darken_65 rfl ki_1 ?_
    refine J_aload_n C 67 dX9_darken_66 rfl rfl ?_
    refine J_get C 70 9 inlX9 0 0 rfl rfl (by decide) wd191 rfl rfl dX9_darken_67 rfl ?_
    refine J_ishl C 71 dX9_darken_70 rfl ?_
    refine J_icmp_ge C 74 210 dX9_darken_71 rfl rfl (fun c => ?_) (fun c => ?_)
    · have h := h.1 c
      refine J_iload_n C 211 dX9_darken_210 rfl rfl ?_
      exact J_iret C hr hk v0 rfl dX9_darken_211 h
    · have h := h.2 c
      refine J_iconst C 75 dX9_darken_74 rfl ki_0 ?_
      refine J_istore C 77 [(6, .int 0), (0, .ref a0), (1, .int y1), (3, .int y3), (4, .int y4), (5, .int y5)] dX9_darken_75 rfl (by decide) rfl ?_
      refine J_iconst C 78 dX9_darken_77 rfl ki_0 ?_
      refine J_istore C 80 [(7, .int 0), (6, .int 0), (0, .ref a0), (1, .int y1), (3, .int y3), (4, .int y4), (5, .int y5)] dX9_darken_78 rfl (by decide) rfl ?_
      refine J_iconst C 81 dX9_darken_80 rfl ki_0 ?_
      refine J_istore C 83 [(8, .int 0), (7, .int 0), (6, .int 0), (0, .ref a0), (1, .int y1), (3, .int y3), (4, .int y4), (5, .int y5)] dX9_darken_81 rfl (by decide) rfl ?_
      refine J_loc [3, 4, 5, 6, 7, 2, 1, 0] rfl ?_
      obtain ⟨n1, h⟩ := h
      exact wk_X9_darken_c83 C hr hk ih n1 v0 y1 y3 y4 y5 0 0 0 h
def wp_X9_darken_c29  (Q : Int32 → Vl → Prop) : Nat → Vl → Int32 → Int32 → Int32 → Prop
  | 0 => fun _ _ _ _ => False
  | n + 1 => fun v0 y1 y2 y3 => (((v0.1 0) ≤ y3 → (∃ k : Nat, wp_X9_darken_c63  Q k v0 y1 (-1) 0 0)) ∧ (¬ (v0.1 0) ≤ y3 → wp_X9_needsOn v0 y3 y2 (fun r_9 => vp_in y3 9 ∧ (∀ v0s_10 : Vl, v0s_10 = setA v0 51 (Int32.toNatClampNeg y3) r_9 → ∀ x_11 : Int32, x_11 = y3 + 1 → wp_X9_darken_c29  Q n v0s_10 y1 y2 x_11))))
set_option maxHeartbeats 4000000 in
set_option maxRecDepth 100000 in
theorem wk_X9_darken_c29 {p : Program} {l : Launch} {e : Env} {s : State} {m : MethodId} {args : Array Value} {below : List Frame} {meth : Method} {c : Code} {D : GG} {A : Nat → Prop} {cI cJ cZ cS : ClassId} {a0 : Nat} {r0 : Nat → Nat}  {Q : Int32 → Vl → Prop} (C : Cx p s m args c D (tyL cI cJ cZ cS) A RX9 cX9_darken 9) (hr : meth.sig.returnType = some .int) (hk : meth.locks = false) : ∀ (n : Nat) (v0 : Vl) (y1 : Int32) (y2 : Int32) (y3 : Int32), wp_X9_darken_c29  Q n v0 y1 y2 y3 → J p l e (rmk 2 50) s m args below meth c D A 9 0 0 (MQ below (va_Qi (fun (r : Int32) (u : Vl) => Q r u) (fun u t => va_P D.1 vwCl ((fun (u : Vl) => List.flatten [bX9 cI cJ cZ a0 r0 u]) u) t.heap ∧ va_D A ((fun (u : Vl) => List.flatten [bX9 cI cJ cZ a0 r0 u]) u)) A) args s 0 0 A) 29 [(0, .ref a0), (1, .int y1), (2, .int y2), (3, .int y3)] [] (List.flatten [bX9 cI cJ cZ a0 r0 v0]) := by
  intro n
  induction n with
  | zero =>
    intro v0 y1 y2 y3 h
    exact False.elim h
  | succ n ih =>
    intro v0 y1 y2 y3 h
    refine J_iload_n C 30 dX9_darken_29 rfl rfl ?_
    refine J_aload_n C 31 dX9_darken_30 rfl rfl ?_
    refine J_get C 34 9 inlX9 0 0 rfl rfl (by decide) wd191 rfl rfl dX9_darken_31 rfl ?_
    refine J_icmp_ge C 37 55 dX9_darken_34 rfl rfl (fun c => ?_) (fun c => ?_)
    · have h := h.1 c
      refine J_iconst C 56 dX9_darken_55 rfl ki_m1 ?_
      refine J_istore_n C 57 [(3, .int (-1)), (0, .ref a0), (1, .int y1), (2, .int y2)] dX9_darken_56 rfl (by decide) rfl ?_
      refine J_iconst C 58 dX9_darken_57 rfl ki_0 ?_
      refine J_istore C 60 [(4, .int 0), (3, .int (-1)), (0, .ref a0), (1, .int y1), (2, .int y2)] dX9_darken_58 rfl (by decide) rfl ?_
      refine J_iconst C 61 dX9_darken_60 rfl ki_0 ?_
      refine J_istore C 63 [(5, .int 0), (4, .int 0), (3, .int (-1)), (0, .ref a0), (1, .int y1), (2, .int y2)] dX9_darken_61 rfl (by decide) rfl ?_
      refine J_loc [3, 4, 2, 1, 0] rfl ?_
      obtain ⟨n1, h⟩ := h
      exact wk_X9_darken_c63 C hr hk n1 v0 y1 (-1) 0 0 h
    · have h := h.2 c
      refine J_aload_n C 38 dX9_darken_37 rfl rfl ?_
      refine J_get C 41 9 inlX9 0 51 rfl rfl (by decide) wd178 rfl rfl dX9_darken_38 rfl ?_
      refine J_iload_n C 42 dX9_darken_41 rfl rfl ?_
      refine J_aload_n C 43 dX9_darken_42 rfl rfl ?_
      refine J_iload_n C 44 dX9_darken_43 rfl rfl ?_
      refine J_iload_n C 45 dX9_darken_44 rfl rfl ?_
      refine J_callBiV (Bs := [bX9 cI cJ cZ a0 r0 v0]) (As := [.int y3, .int y2]) C 48 (c_X9_needsOn l D cI cJ cZ cS a0 r0 v0 y3 y2 _ h) wd849 wd846 wd5 wd847 wd848 9 0 rfl rfl rfl hdX9_needsOn ⟨Nat.le_of_ble_eq_true rfl, Nat.le_of_ble_eq_true rfl⟩ ⟨Nat.zero_le _, Nat.zero_le _⟩ rfl (Nat.le_of_ble_eq_true rfl) [0] [] 1 rfl (by decide +kernel) rfl rfl (fun (u : Unit) => [bX9 cI cJ cZ a0 r0 v0]) (fun _ => rfl) [0] (by decide +kernel) (fun _ => rfl) rfl (fun (u : Unit) => [bX9 cI cJ cZ a0 r0 v0]) (fun _ => rfl) dX9_darken_45 rfl (fun r_9 u h => ?_)
      obtain ⟨hi, h⟩ := h
      obtain ⟨v0s_10, ev0s_10⟩ : ∃ z : Vl, z = setA v0 51 (Int32.toNatClampNeg y3) r_9 := ⟨_, rfl⟩
      have h := h v0s_10 ev0s_10
      refine J_iast C 49 20 0 rfl rfl hi (List.flatten [bX9 cI cJ cZ a0 r0 v0s_10]) (by subst ev0s_10; rfl) dX9_darken_48 rfl ?_
      obtain ⟨x_11, ex_11⟩ : ∃ z : Int32, z = y3 + 1 := ⟨_, rfl⟩
      have h := h x_11 ex_11
      refine J_iinc C 52 [(3, .int x_11), (0, .ref a0), (1, .int y1), (2, .int y2)] dX9_darken_49 rfl rfl ((kinc_1 _).trans ex_11.symm) (by decide) rfl ?_
      refine J_goto C 29 dX9_darken_52 rfl ?_
      refine J_loc [1, 2, 3, 0] rfl ?_
      exact ih v0s_10 y1 y2 x_11 h
def wp_X9_darken (v0 : Vl) (x1 : Int32) (x2 : Int32) (Q : Int32 → Vl → Prop) : Prop := wp_X9_in (Int32.toInt64 x1) 0 99999 (fun r_1 => ((r_1 = 0 → Q (-1000000002) v0) ∧ (¬ r_1 = 0 → wp_X9_in (Int32.toInt64 x2) 1 99 (fun r_2 => ((¬ r_2 = 0 → (∃ k : Nat, wp_X9_darken_c29  Q k v0 x1 x2 0)) ∧ (r_2 = 0 → Q (-1000000002) v0))))))
set_option maxHeartbeats 4000000 in
set_option maxRecDepth 100000 in
theorem c_X9_darken (l : Launch) (D : GG) (cI cJ cZ cS : ClassId) (a0 : Nat) (r0 : Nat → Nat) (v0 : Vl) (x1 : Int32) (x2 : Int32) (Q : Int32 → Vl → Prop) (h : wp_X9_darken v0 x1 x2 Q) : Mi l D (tyL cI cJ cZ cS) yX9_darken cX9_darken 9 .int 2 50 [.ref a0, .int x1, .int x2] (List.flatten [bX9 cI cJ cZ a0 r0 v0]) (fun (r : Int32) (u : Vl) => Q r u) (fun (u : Vl) => List.flatten [bX9 cI cJ cZ a0 r0 u]) := by
  refine Mi_of RX9 [(0, .ref a0), (1, .int x1), (2, .int x2)] (by decide +kernel) rfl rfl (Nat.le_of_ble_eq_true rfl) ?_
  intro p e s m args below meth c A C hr hk
  refine J_iload_n C 1 dX9_darken_0 rfl rfl ?_
  refine J_i2l C 2 dX9_darken_1 rfl ?_
  refine J_lconst C 3 dX9_darken_2 rfl kl_0 ?_
  refine J_ldc2 C 6 wd844 dX9_darken_3 rfl ?_
  refine J_callBiS (Bs := [bX9 cI cJ cZ a0 r0 v0]) (As := [.long (Int32.toInt64 x1), .long 0, .long 99999]) C 9 (c_X9_in l D cI cJ cZ cS (Int32.toInt64 x1) 0 99999 _ h) wd225 wd223 wd5 wd224 hdX9_in ⟨Nat.le_of_ble_eq_true rfl, Nat.le_of_ble_eq_true rfl⟩ ⟨Nat.zero_le _, Nat.zero_le _⟩ rfl (Nat.le_of_ble_eq_true rfl) [] [0] 1 rfl (by decide +kernel) rfl rfl (fun (u : Unit) => ([] : List va_W)) (fun _ => rfl) [0] (by decide +kernel) (fun _ => rfl) rfl (fun (u : Unit) => [bX9 cI cJ cZ a0 r0 v0]) (fun _ => rfl) dX9_darken_6 rfl (fun r_1 u h => ?_)
  refine J_if_eq C 12 24 dX9_darken_9 rfl rfl (fun c => ?_) (fun c => ?_)
  · have h := h.1 c
    refine J_ldc C 26 wd219 dX9_darken_24 rfl ?_
    exact J_iret C hr hk v0 rfl dX9_darken_26 h
  · have h := h.2 c
    refine J_iload_n C 13 dX9_darken_12 rfl rfl ?_
    refine J_i2l C 14 dX9_darken_13 rfl ?_
    refine J_lconst C 15 dX9_darken_14 rfl kl_1 ?_
    refine J_ldc2 C 18 wd845 dX9_darken_15 rfl ?_
    refine J_callBiS (Bs := [bX9 cI cJ cZ a0 r0 v0]) (As := [.long (Int32.toInt64 x2), .long 1, .long 99]) C 21 (c_X9_in l D cI cJ cZ cS (Int32.toInt64 x2) 1 99 _ h) wd225 wd223 wd5 wd224 hdX9_in ⟨Nat.le_of_ble_eq_true rfl, Nat.le_of_ble_eq_true rfl⟩ ⟨Nat.zero_le _, Nat.zero_le _⟩ rfl (Nat.le_of_ble_eq_true rfl) [] [0] 1 rfl (by decide +kernel) rfl rfl (fun (u : Unit) => ([] : List va_W)) (fun _ => rfl) [0] (by decide +kernel) (fun _ => rfl) rfl (fun (u : Unit) => [bX9 cI cJ cZ a0 r0 v0]) (fun _ => rfl) dX9_darken_18 rfl (fun r_2 u h => ?_)
    refine J_if_ne C 24 27 dX9_darken_21 rfl rfl (fun c => ?_) (fun c => ?_)
    · have h := h.1 c
      refine J_iconst C 28 dX9_darken_27 rfl ki_0 ?_
      refine J_istore_n C 29 [(3, .int 0), (0, .ref a0), (1, .int x1), (2, .int x2)] dX9_darken_28 rfl (by decide) rfl ?_
      refine J_loc [1, 2, 3, 0] rfl ?_
      obtain ⟨n1, h⟩ := h
      exact wk_X9_darken_c29 C hr hk n1 v0 x1 x2 0 h
    · have h := h.2 c
      refine J_ldc C 26 wd219 dX9_darken_24 rfl ?_
      exact J_iret C hr hk v0 rfl dX9_darken_26 h
def wp_X9_lastsWith_c94 (v0 : Vl) (Q : Int32 → Prop) (B12 : Int32 → Int32 → Int32 → Prop) (y1 : Int32) (y4 : Int32) (s0 : Int32) (s1 : Int32) : Prop := ∀ x_6 : Int32, x_6 = (s1 - s0) → ∀ x_7 : Int32, x_7 = y4 + 1 → B12 y1 x_6 x_7
set_option maxHeartbeats 4000000 in
set_option maxRecDepth 100000 in
theorem wk_X9_lastsWith_c94 {p : Program} {l : Launch} {e : Env} {s : State} {m : MethodId} {args : Array Value} {below : List Frame} {meth : Method} {c : Code} {D : GG} {A : Nat → Prop} {cI cJ cZ cS : ClassId} {a0 : Nat} {r0 : Nat → Nat} {v0 : Vl} {B12 : Int32 → Int32 → Int32 → Prop} {Q : Int32 → Prop} (C : Cx p s m args c D (tyL cI cJ cZ cS) A RX9 cX9_lastsWith 7) (hr : meth.sig.returnType = some .int) (hk : meth.locks = false) (hB12 : ∀ (y1 : Int32) (y3 : Int32) (y4 : Int32), B12 y1 y3 y4 → J p l e (rmk 1 25) s m args below meth c D A 7 0 0 (MQ below (va_Qi (fun (r : Int32) (u : Unit) => Q r) (fun u t => va_P D.1 vwCl ((fun (u : Unit) => List.flatten [bX9 cI cJ cZ a0 r0 v0]) u) t.heap ∧ va_D A ((fun (u : Unit) => List.flatten [bX9 cI cJ cZ a0 r0 v0]) u)) A) args s 0 0 A) 12 [(0, .ref a0), (1, .int y1), (3, .int y3), (4, .int y4)] [] (List.flatten [bX9 cI cJ cZ a0 r0 v0])) : ∀ (y1 : Int32) (y4 : Int32) (s0 : Int32) (s1 : Int32), wp_X9_lastsWith_c94 v0 Q B12 y1 y4 s0 s1 → J p l e (rmk 1 25) s m args below meth c D A 7 0 0 (MQ below (va_Qi (fun (r : Int32) (u : Unit) => Q r) (fun u t => va_P D.1 vwCl ((fun (u : Unit) => List.flatten [bX9 cI cJ cZ a0 r0 v0]) u) t.heap ∧ va_D A ((fun (u : Unit) => List.flatten [bX9 cI cJ cZ a0 r0 v0]) u)) A) args s 0 0 A) 94 [(0, .ref a0), (1, .int y1), (4, .int y4)] [.int s0, .int s1] (List.flatten [bX9 cI cJ cZ a0 r0 v0]) := by
  intro y1 y4 s0 s1 h
  refine J_isub C 95 dX9_lastsWith_94 rfl ?_
  obtain ⟨x_6, ex_6⟩ : ∃ z : Int32, z = (s1 - s0) := ⟨_, rfl⟩
  have h := h x_6 ex_6
  refine J_nmi ex_6 ?_
  refine J_istore_n C 96 [(3, .int x_6), (0, .ref a0), (1, .int y1), (4, .int y4)] dX9_lastsWith_95 rfl (by decide) rfl ?_
  obtain ⟨x_7, ex_7⟩ : ∃ z : Int32, z = y4 + 1 := ⟨_, rfl⟩
  have h := h x_7 ex_7
  refine J_iinc C 99 [(4, .int x_7), (3, .int x_6), (0, .ref a0), (1, .int y1)] dX9_lastsWith_96 rfl rfl ((kinc_1 _).trans ex_7.symm) (by decide) rfl ?_
  refine J_goto C 12 dX9_lastsWith_99 rfl ?_
  refine J_loc [2, 3, 1, 0] rfl ?_
  exact hB12 y1 x_6 x_7 h
def wp_X9_lastsWith_c12 (v0 : Vl) (Q : Int32 → Prop) : Nat → Int32 → Int32 → Int32 → Prop
  | 0 => fun _ _ _ => False
  | n + 1 => fun y1 y3 y4 => ((400 ≤ y4 → Q 400) ∧ (¬ 400 ≤ y4 → wp_X9_skyOf v0 ((v0.1 24) + y4) (fun r_2 => wp_X9_needs v0 y1 ((v0.1 24) + y4) r_2 (fun r_3 => ((y3 < r_3 → Q y4) ∧ (¬ y3 < r_3 → wp_X9_isOut v0 y1 r_2 (fun r_4 => ((r_4 = 0 → ∀ x_5 : Int32, x_5 = (y3 - r_3) → vp_in (5 * y1) 45 ∧ (((¬ (v0.2.2.1 1 (Int32.toNatClampNeg (5 * y1))) = 2 → wp_X9_lastsWith_c94 v0 Q (wp_X9_lastsWith_c12 v0 Q n) y1 y4 0 x_5) ∧ ((v0.2.2.1 1 (Int32.toNatClampNeg (5 * y1))) = 2 → wp_X9_leak x_5 (fun r_8 => wp_X9_lastsWith_c94 v0 Q (wp_X9_lastsWith_c12 v0 Q n) y1 y4 r_8 x_5))))) ∧ (¬ r_4 = 0 → Q y4)))))))))
set_option maxHeartbeats 4000000 in
set_option maxRecDepth 100000 in
theorem wk_X9_lastsWith_c12 {p : Program} {l : Launch} {e : Env} {s : State} {m : MethodId} {args : Array Value} {below : List Frame} {meth : Method} {c : Code} {D : GG} {A : Nat → Prop} {cI cJ cZ cS : ClassId} {a0 : Nat} {r0 : Nat → Nat} {v0 : Vl} {Q : Int32 → Prop} (C : Cx p s m args c D (tyL cI cJ cZ cS) A RX9 cX9_lastsWith 7) (hr : meth.sig.returnType = some .int) (hk : meth.locks = false) : ∀ (n : Nat) (y1 : Int32) (y3 : Int32) (y4 : Int32), wp_X9_lastsWith_c12 v0 Q n y1 y3 y4 → J p l e (rmk 1 25) s m args below meth c D A 7 0 0 (MQ below (va_Qi (fun (r : Int32) (u : Unit) => Q r) (fun u t => va_P D.1 vwCl ((fun (u : Unit) => List.flatten [bX9 cI cJ cZ a0 r0 v0]) u) t.heap ∧ va_D A ((fun (u : Unit) => List.flatten [bX9 cI cJ cZ a0 r0 v0]) u)) A) args s 0 0 A) 12 [(0, .ref a0), (1, .int y1), (3, .int y3), (4, .int y4)] [] (List.flatten [bX9 cI cJ cZ a0 r0 v0]) := by
  intro n
  induction n with
  | zero =>
    intro y1 y3 y4 h
    exact False.elim h
  | succ n ih =>
    intro y1 y3 y4 h
    refine J_iload C 14 dX9_lastsWith_12 rfl rfl ?_
    refine J_sipush C 17 dX9_lastsWith_14 rfl ks_400 ?_
    refine J_icmp_ge C 20 102 dX9_lastsWith_17 rfl rfl (fun c => ?_) (fun c => ?_)
    · have h := h.1 c
      refine J_sipush C 105 dX9_lastsWith_102 rfl ks_400 ?_
      exact J_iret C hr hk () rfl dX9_lastsWith_105 h
    · have h := h.2 c
      refine J_aload_n C 21 dX9_lastsWith_20 rfl rfl ?_
      refine J_aload_n C 22 dX9_lastsWith_21 rfl rfl ?_
      refine J_get C 25 9 inlX9 0 24 rfl rfl (by decide) wd198 rfl rfl dX9_lastsWith_22 rfl ?_
      refine J_iload C 27 dX9_lastsWith_25 rfl rfl ?_
      refine J_iadd C 28 dX9_lastsWith_27 rfl ?_
      refine J_callBiV (Bs := [bX9 cI cJ cZ a0 r0 v0]) (As := [.int ((v0.1 24) + y4)]) C 31 (c_X9_skyOf l D cI cJ cZ cS a0 r0 v0 ((v0.1 24) + y4) _ h) wd569 wd566 wd5 wd567 wd568 9 0 rfl rfl rfl hdX9_skyOf ⟨Nat.le_of_ble_eq_true rfl, Nat.le_of_ble_eq_true rfl⟩ ⟨Nat.zero_le _, Nat.zero_le _⟩ rfl (Nat.le_of_ble_eq_true rfl) [0] [] 1 rfl (by decide +kernel) rfl rfl (fun (u : Unit) => [bX9 cI cJ cZ a0 r0 v0]) (fun _ => rfl) [0] (by decide +kernel) (fun _ => rfl) rfl (fun (u : Unit) => [bX9 cI cJ cZ a0 r0 v0]) (fun _ => rfl) dX9_lastsWith_28 rfl (fun r_2 u h => ?_)
      refine J_istore C 33 [(5, .int r_2), (0, .ref a0), (1, .int y1), (3, .int y3), (4, .int y4)] dX9_lastsWith_31 rfl (by decide) rfl ?_
      refine J_aload_n C 34 dX9_lastsWith_33 rfl rfl ?_
      refine J_iload_n C 35 dX9_lastsWith_34 rfl rfl ?_
      refine J_aload_n C 36 dX9_lastsWith_35 rfl rfl ?_
      refine J_get C 39 9 inlX9 0 24 rfl rfl (by decide) wd198 rfl rfl dX9_lastsWith_36 rfl ?_
      refine J_iload C 41 dX9_lastsWith_39 rfl rfl ?_
      refine J_iadd C 42 dX9_lastsWith_41 rfl ?_
      refine J_iload C 44 dX9_lastsWith_42 rfl rfl ?_
      refine J_callBiV (Bs := [bX9 cI cJ cZ a0 r0 v0]) (As := [.int y1, .int ((v0.1 24) + y4), .int r_2]) C 47 (c_X9_needs l D cI cJ cZ cS a0 r0 v0 y1 ((v0.1 24) + y4) r_2 _ h) wd706 wd703 wd5 wd704 wd705 9 0 rfl rfl rfl hdX9_needs ⟨Nat.le_of_ble_eq_true rfl, Nat.le_of_ble_eq_true rfl⟩ ⟨Nat.zero_le _, Nat.zero_le _⟩ rfl (Nat.le_of_ble_eq_true rfl) [0] [] 1 rfl (by decide +kernel) rfl rfl (fun (u : Unit) => [bX9 cI cJ cZ a0 r0 v0]) (fun _ => rfl) [0] (by decide +kernel) (fun _ => rfl) rfl (fun (u : Unit) => [bX9 cI cJ cZ a0 r0 v0]) (fun _ => rfl) dX9_lastsWith_44 rfl (fun r_3 u h => ?_)
      refine J_istore C 49 [(6, .int r_3), (5, .int r_2), (0, .ref a0), (1, .int y1), (3, .int y3), (4, .int y4)] dX9_lastsWith_47 rfl (by decide) rfl ?_
      refine J_iload_n C 50 dX9_lastsWith_49 rfl rfl ?_
      refine J_iload C 52 dX9_lastsWith_50 rfl rfl ?_
      refine J_icmp_lt C 55 65 dX9_lastsWith_52 rfl rfl (fun c => ?_) (fun c => ?_)
      · have h := h.1 c
        refine J_iload C 67 dX9_lastsWith_65 rfl rfl ?_
        exact J_iret C hr hk () rfl dX9_lastsWith_67 h
      · have h := h.2 c
        refine J_aload_n C 56 dX9_lastsWith_55 rfl rfl ?_
        refine J_iload_n C 57 dX9_lastsWith_56 rfl rfl ?_
        refine J_iload C 59 dX9_lastsWith_57 rfl rfl ?_
        refine J_callBiV (Bs := [bX9 cI cJ cZ a0 r0 v0]) (As := [.int y1, .int r_2]) C 62 (c_X9_isOut l D cI cJ cZ cS a0 r0 v0 y1 r_2 _ h) wd710 wd707 wd5 wd708 wd709 9 0 rfl rfl rfl hdX9_isOut ⟨Nat.le_of_ble_eq_true rfl, Nat.le_of_ble_eq_true rfl⟩ ⟨Nat.zero_le _, Nat.zero_le _⟩ rfl (Nat.le_of_ble_eq_true rfl) [0] [] 1 rfl (by decide +kernel) rfl rfl (fun (u : Unit) => [bX9 cI cJ cZ a0 r0 v0]) (fun _ => rfl) [0] (by decide +kernel) (fun _ => rfl) rfl (fun (u : Unit) => [bX9 cI cJ cZ a0 r0 v0]) (fun _ => rfl) dX9_lastsWith_59 rfl (fun r_4 u h => ?_)
        refine J_if_eq C 65 68 dX9_lastsWith_62 rfl rfl (fun c => ?_) (fun c => ?_)
        · have h := h.1 c
          refine J_iload_n C 69 dX9_lastsWith_68 rfl rfl ?_
          refine J_iload C 71 dX9_lastsWith_69 rfl rfl ?_
          refine J_isub C 72 dX9_lastsWith_71 rfl ?_
          obtain ⟨x_5, ex_5⟩ : ∃ z : Int32, z = (y3 - r_3) := ⟨_, rfl⟩
          have h := h x_5 ex_5
          refine J_nmi ex_5 ?_
          refine J_istore_n C 73 [(3, .int x_5), (6, .int r_3), (5, .int r_2), (0, .ref a0), (1, .int y1), (4, .int y4)] dX9_lastsWith_72 rfl (by decide) rfl ?_
          refine J_iload_n C 74 dX9_lastsWith_73 rfl rfl ?_
          refine J_aload_n C 75 dX9_lastsWith_74 rfl rfl ?_
          refine J_get C 78 9 inlX9 0 1 rfl rfl (by decide) wd152 rfl rfl dX9_lastsWith_75 rfl ?_
          refine J_iconst C 79 dX9_lastsWith_78 rfl ki_5 ?_
          refine J_iload_n C 80 dX9_lastsWith_79 rfl rfl ?_
          refine J_imul C 81 dX9_lastsWith_80 rfl ?_
          obtain ⟨hi, h⟩ := h
          refine J_iald C 82 1 0 rfl rfl hi dX9_lastsWith_81 rfl ?_
          refine J_iconst C 83 dX9_lastsWith_82 rfl ki_2 ?_
          refine J_icmp_ne C 86 93 dX9_lastsWith_83 rfl rfl (fun c => ?_) (fun c => ?_)
          · have h := h.1 c
            refine J_iconst C 94 dX9_lastsWith_93 rfl ki_0 ?_
            refine J_loc [3, 4, 5] rfl ?_
            exact wk_X9_lastsWith_c94 C hr hk ih y1 y4 0 x_5 h
          · have h := h.2 c
            refine J_iload_n C 87 dX9_lastsWith_86 rfl rfl ?_
            refine J_callBiS (Bs := [bX9 cI cJ cZ a0 r0 v0]) (As := [.int x_5]) C 90 (c_X9_leak l D cI cJ cZ cS x_5 _ h) wd713 wd711 wd5 wd712 hdX9_leak ⟨Nat.le_of_ble_eq_true rfl, Nat.le_of_ble_eq_true rfl⟩ ⟨Nat.zero_le _, Nat.zero_le _⟩ rfl (Nat.le_of_ble_eq_true rfl) [] [0] 1 rfl (by decide +kernel) rfl rfl (fun (u : Unit) => ([] : List va_W)) (fun _ => rfl) [0] (by decide +kernel) (fun _ => rfl) rfl (fun (u : Unit) => [bX9 cI cJ cZ a0 r0 v0]) (fun _ => rfl) dX9_lastsWith_87 rfl (fun r_8 u h => ?_)
            refine J_goto C 94 dX9_lastsWith_90 rfl ?_
            refine J_loc [3, 4, 5] rfl ?_
            exact wk_X9_lastsWith_c94 C hr hk ih y1 y4 r_8 x_5 h
        · have h := h.2 c
          refine J_iload C 67 dX9_lastsWith_65 rfl rfl ?_
          exact J_iret C hr hk () rfl dX9_lastsWith_67 h
def wp_X9_lastsWith (v0 : Vl) (x1 : Int32) (x2 : Int32) (Q : Int32 → Prop) : Prop := vp_in x1 9 ∧ (∀ x_1 : Int32, x_1 = ((v0.2.2.1 13 (Int32.toNatClampNeg x1)) + x2) → (∃ k : Nat, wp_X9_lastsWith_c12 v0 Q k x1 x_1 0))
set_option maxHeartbeats 4000000 in
set_option maxRecDepth 100000 in
theorem c_X9_lastsWith (l : Launch) (D : GG) (cI cJ cZ cS : ClassId) (a0 : Nat) (r0 : Nat → Nat) (v0 : Vl) (x1 : Int32) (x2 : Int32) (Q : Int32 → Prop) (h : wp_X9_lastsWith v0 x1 x2 Q) : Mi l D (tyL cI cJ cZ cS) yX9_lastsWith cX9_lastsWith 7 .int 1 25 [.ref a0, .int x1, .int x2] (List.flatten [bX9 cI cJ cZ a0 r0 v0]) (fun (r : Int32) (u : Unit) => Q r) (fun (u : Unit) => List.flatten [bX9 cI cJ cZ a0 r0 v0]) := by
  refine Mi_of RX9 [(0, .ref a0), (1, .int x1), (2, .int x2)] (by decide +kernel) rfl rfl (Nat.le_of_ble_eq_true rfl) ?_
  intro p e s m args below meth c A C hr hk
  refine J_aload_n C 1 dX9_lastsWith_0 rfl rfl ?_
  refine J_get C 4 9 inlX9 0 13 rfl rfl (by decide) wd162 rfl rfl dX9_lastsWith_1 rfl ?_
  refine J_iload_n C 5 dX9_lastsWith_4 rfl rfl ?_
  obtain ⟨hi, h⟩ := h
  refine J_iald C 6 6 0 rfl rfl hi dX9_lastsWith_5 rfl ?_
  refine J_iload_n C 7 dX9_lastsWith_6 rfl rfl ?_
  refine J_iadd C 8 dX9_lastsWith_7 rfl ?_
  obtain ⟨x_1, ex_1⟩ : ∃ z : Int32, z = ((v0.2.2.1 13 (Int32.toNatClampNeg x1)) + x2) := ⟨_, rfl⟩
  have h := h x_1 ex_1
  refine J_nmi ex_1 ?_
  refine J_istore_n C 9 [(3, .int x_1), (0, .ref a0), (1, .int x1), (2, .int x2)] dX9_lastsWith_8 rfl (by decide) rfl ?_
  refine J_iconst C 10 dX9_lastsWith_9 rfl ki_0 ?_
  refine J_istore C 12 [(4, .int 0), (3, .int x_1), (0, .ref a0), (1, .int x1), (2, .int x2)] dX9_lastsWith_10 rfl (by decide) rfl ?_
  refine J_loc [2, 3, 1, 0] rfl ?_
  obtain ⟨n1, h⟩ := h
  exact wk_X9_lastsWith_c12 C hr hk n1 x1 x_1 0 h
def wp_X9_lasts (v0 : Vl) (x1 : Int32) (Q : Int32 → Prop) : Prop := wp_X9_isLight v0 x1 (fun r_1 => ((r_1 = 0 → Q (-1000000001)) ∧ (¬ r_1 = 0 → wp_X9_lastsWith v0 x1 0 (fun r_2 => Q r_2))))
set_option maxHeartbeats 4000000 in
set_option maxRecDepth 100000 in
theorem c_X9_lasts (l : Launch) (D : GG) (cI cJ cZ cS : ClassId) (a0 : Nat) (r0 : Nat → Nat) (v0 : Vl) (x1 : Int32) (Q : Int32 → Prop) (h : wp_X9_lasts v0 x1 Q) : Mi l D (tyL cI cJ cZ cS) yX9_lasts cX9_lasts 2 .int 2 51 [.ref a0, .int x1] (List.flatten [bX9 cI cJ cZ a0 r0 v0]) (fun (r : Int32) (u : Unit) => Q r) (fun (u : Unit) => List.flatten [bX9 cI cJ cZ a0 r0 v0]) := by
  refine Mi_of RX9 [(0, .ref a0), (1, .int x1)] (by decide +kernel) rfl rfl (Nat.le_of_ble_eq_true rfl) ?_
  intro p e s m args below meth c A C hr hk
  refine J_aload_n C 1 dX9_lasts_0 rfl rfl ?_
  refine J_iload_n C 2 dX9_lasts_1 rfl rfl ?_
  refine J_callBiV (Bs := [bX9 cI cJ cZ a0 r0 v0]) (As := [.int x1]) C 5 (c_X9_isLight l D cI cJ cZ cS a0 r0 v0 x1 _ h) wd552 wd549 wd5 wd550 wd551 9 0 rfl rfl rfl hdX9_isLight ⟨Nat.le_of_ble_eq_true rfl, Nat.le_of_ble_eq_true rfl⟩ ⟨Nat.zero_le _, Nat.zero_le _⟩ rfl (Nat.le_of_ble_eq_true rfl) [0] [] 1 rfl (by decide +kernel) rfl rfl (fun (u : Unit) => [bX9 cI cJ cZ a0 r0 v0]) (fun _ => rfl) [0] (by decide +kernel) (fun _ => rfl) rfl (fun (u : Unit) => [bX9 cI cJ cZ a0 r0 v0]) (fun _ => rfl) dX9_lasts_2 rfl (fun r_1 u h => ?_)
  refine J_if_eq C 8 17 dX9_lasts_5 rfl rfl (fun c => ?_) (fun c => ?_)
  · have h := h.1 c
    refine J_ldcw C 20 wd548 dX9_lasts_17 rfl ?_
    exact J_iret C hr hk () rfl dX9_lasts_20 h
  · have h := h.2 c
    refine J_aload_n C 9 dX9_lasts_8 rfl rfl ?_
    refine J_iload_n C 10 dX9_lasts_9 rfl rfl ?_
    refine J_iconst C 11 dX9_lasts_10 rfl ki_0 ?_
    refine J_callBiV (Bs := [bX9 cI cJ cZ a0 r0 v0]) (As := [.int x1, .int 0]) C 14 (c_X9_lastsWith l D cI cJ cZ cS a0 r0 v0 x1 0 _ h) wd867 wd864 wd5 wd865 wd866 9 0 rfl rfl rfl hdX9_lastsWith ⟨Nat.le_of_ble_eq_true rfl, Nat.le_of_ble_eq_true rfl⟩ ⟨Nat.zero_le _, Nat.zero_le _⟩ rfl (Nat.le_of_ble_eq_true rfl) [0] [] 1 rfl (by decide +kernel) rfl rfl (fun (u : Unit) => [bX9 cI cJ cZ a0 r0 v0]) (fun _ => rfl) [0] (by decide +kernel) (fun _ => rfl) rfl (fun (u : Unit) => [bX9 cI cJ cZ a0 r0 v0]) (fun _ => rfl) dX9_lasts_11 rfl (fun r_2 u h => ?_)
    refine J_goto C 20 dX9_lasts_14 rfl ?_
    exact J_iret C hr hk () rfl dX9_lasts_20 h
def wp_X9_add (v0 : Vl) (x1 : Int32) (x2 : Int32) (x3 : Int64) (Q : Vl → Prop) : Prop := wp_X9_pace v0 x1 (fun r_1 => ∀ x_2 : Int32, x_2 = (x2 - r_1) → ((x_2 ≤ 0 → Q v0) ∧ (¬ x_2 ≤ 0 → vp_in ((100 * x1) + x_2) 300 ∧ (vp_in ((100 * x1) + x_2) 300 ∧ (∀ v0s_3 : Vl, v0s_3 = setB v0 53 (Int32.toNatClampNeg ((100 * x1) + x_2)) ((v0.2.2.2 53 (Int32.toNatClampNeg ((100 * x1) + x_2))) + x3) → Q v0s_3)))))
set_option maxHeartbeats 4000000 in
set_option maxRecDepth 100000 in
theorem c_X9_add (l : Launch) (D : GG) (cI cJ cZ cS : ClassId) (a0 : Nat) (r0 : Nat → Nat) (v0 : Vl) (x1 : Int32) (x2 : Int32) (x3 : Int64) (Q : Vl → Prop) (h : wp_X9_add v0 x1 x2 x3 Q) : Mv l D (tyL cI cJ cZ cS) yX9_add cX9_add 6 1 21 [.ref a0, .int x1, .int x2, .long x3] (List.flatten [bX9 cI cJ cZ a0 r0 v0]) (fun (u : Vl) => Q u) (fun (u : Vl) => List.flatten [bX9 cI cJ cZ a0 r0 u]) := by
  refine Mv_of RX9 [(0, .ref a0), (1, .int x1), (2, .int x2), (3, .long x3)] (by decide +kernel) rfl rfl (Nat.le_of_ble_eq_true rfl) ?_
  intro p e s m args below meth c A C hr hk
  refine J_iload_n C 1 dX9_add_0 rfl rfl ?_
  refine J_aload_n C 2 dX9_add_1 rfl rfl ?_
  refine J_iload_n C 3 dX9_add_2 rfl rfl ?_
  refine J_callBiV (Bs := [bX9 cI cJ cZ a0 r0 v0]) (As := [.int x1]) C 6 (c_X9_pace l D cI cJ cZ cS a0 r0 v0 x1 _ h) wd695 wd692 wd5 wd693 wd694 9 0 rfl rfl rfl hdX9_pace ⟨Nat.le_of_ble_eq_true rfl, Nat.le_of_ble_eq_true rfl⟩ ⟨Nat.zero_le _, Nat.zero_le _⟩ rfl (Nat.le_of_ble_eq_true rfl) [0] [] 1 rfl (by decide +kernel) rfl rfl (fun (u : Unit) => [bX9 cI cJ cZ a0 r0 v0]) (fun _ => rfl) [0] (by decide +kernel) (fun _ => rfl) rfl (fun (u : Unit) => [bX9 cI cJ cZ a0 r0 v0]) (fun _ => rfl) dX9_add_3 rfl (fun r_1 u h => ?_)
  refine J_isub C 7 dX9_add_6 rfl ?_
  obtain ⟨x_2, ex_2⟩ : ∃ z : Int32, z = (x2 - r_1) := ⟨_, rfl⟩
  have h := h x_2 ex_2
  refine J_nmi ex_2 ?_
  refine J_istore C 9 [(5, .int x_2), (0, .ref a0), (1, .int x1), (2, .int x2), (3, .long x3)] dX9_add_7 rfl (by decide) rfl ?_
  refine J_iload C 11 dX9_add_9 rfl rfl ?_
  refine J_if_le C 14 30 dX9_add_11 rfl rfl (fun c => ?_) (fun c => ?_)
  · have h := h.1 c
    exact J_vret C hr hk v0 rfl dX9_add_30 h
  · have h := h.2 c
    refine J_aload_n C 15 dX9_add_14 rfl rfl ?_
    refine J_get C 18 9 inlX9 0 53 rfl rfl (by decide) wd180 rfl rfl dX9_add_15 rfl ?_
    refine J_bipush C 20 dX9_add_18 rfl kb_100 ?_
    refine J_iload_n C 21 dX9_add_20 rfl rfl ?_
    refine J_imul C 22 dX9_add_21 rfl ?_
    refine J_iload C 24 dX9_add_22 rfl rfl ?_
    refine J_iadd C 25 dX9_add_24 rfl ?_
    refine J_dup2 C 26 dX9_add_25 rfl rfl rfl ?_
    obtain ⟨hi, h⟩ := h
    refine J_lald C 27 22 1 rfl rfl hi dX9_add_26 rfl ?_
    refine J_lload_n C 28 dX9_add_27 rfl rfl ?_
    refine J_ladd C 29 dX9_add_28 rfl ?_
    obtain ⟨hi, h⟩ := h
    obtain ⟨v0s_3, ev0s_3⟩ : ∃ z : Vl, z = setB v0 53 (Int32.toNatClampNeg ((100 * x1) + x_2)) ((v0.2.2.2 53 (Int32.toNatClampNeg ((100 * x1) + x_2))) + x3) := ⟨_, rfl⟩
    have h := h v0s_3 ev0s_3
    refine J_last C 30 22 1 rfl rfl hi (List.flatten [bX9 cI cJ cZ a0 r0 v0s_3]) (by subst ev0s_3; rfl) dX9_add_29 rfl ?_
    exact J_vret C hr hk v0s_3 rfl dX9_add_30 h
def wp_X9_lateWith_c296  (Q : Int32 → Vl → Prop) : Nat → Vl → Int64 → Int32 → Prop
  | 0 => fun _ _ _ => False
  | n + 1 => fun v0 y6 y8 => ((300 ≤ y8 → Q (Int64.toInt32 (y6 / 1000)) v0) ∧ (¬ 300 ≤ y8 → vp_in y8 300 ∧ (∀ x_3 : Int64, x_3 = (y6 + (v0.2.2.2 52 (Int32.toNatClampNeg y8))) → ∀ x_4 : Int32, x_4 = y8 + 1 → wp_X9_lateWith_c296  Q n v0 x_3 x_4)))
set_option maxHeartbeats 4000000 in
set_option maxRecDepth 100000 in
theorem wk_X9_lateWith_c296 {p : Program} {l : Launch} {e : Env} {s : State} {m : MethodId} {args : Array Value} {below : List Frame} {meth : Method} {c : Code} {D : GG} {A : Nat → Prop} {cI cJ cZ cS : ClassId} {a0 : Nat} {r0 : Nat → Nat}  {Q : Int32 → Vl → Prop} (C : Cx p s m args c D (tyL cI cJ cZ cS) A RX9 cX9_lateWith 13) (hr : meth.sig.returnType = some .int) (hk : meth.locks = false) : ∀ (n : Nat) (v0 : Vl) (y6 : Int64) (y8 : Int32), wp_X9_lateWith_c296  Q n v0 y6 y8 → J p l e (rmk 2 51) s m args below meth c D A 13 0 0 (MQ below (va_Qi (fun (r : Int32) (u : Vl) => Q r u) (fun u t => va_P D.1 vwCl ((fun (u : Vl) => List.flatten [bX9 cI cJ cZ a0 r0 u]) u) t.heap ∧ va_D A ((fun (u : Vl) => List.flatten [bX9 cI cJ cZ a0 r0 u]) u)) A) args s 0 0 A) 296 [(0, .ref a0), (6, .long y6), (8, .int y8)] [] (List.flatten [bX9 cI cJ cZ a0 r0 v0]) := by
  intro n
  induction n with
  | zero =>
    intro v0 y6 y8 h
    exact False.elim h
  | succ n ih =>
    intro v0 y6 y8 h
    refine J_iload C 298 dX9_lateWith_296 rfl rfl ?_
    refine J_sipush C 301 dX9_lateWith_298 rfl ks_300 ?_
    refine J_icmp_ge C 304 322 dX9_lateWith_301 rfl rfl (fun c => ?_) (fun c => ?_)
    · have h := h.1 c
      refine J_lload C 324 dX9_lateWith_322 rfl rfl ?_
      refine J_ldc2 C 327 wd908 dX9_lateWith_324 rfl ?_
      refine J_ldiv C 328 dX9_lateWith_327 rfl (by decide) ?_
      refine J_l2i C 329 dX9_lateWith_328 rfl ?_
      exact J_iret C hr hk v0 rfl dX9_lateWith_329 h
    · have h := h.2 c
      refine J_lload C 306 dX9_lateWith_304 rfl rfl ?_
      refine J_aload_n C 307 dX9_lateWith_306 rfl rfl ?_
      refine J_get C 310 9 inlX9 0 52 rfl rfl (by decide) wd179 rfl rfl dX9_lateWith_307 rfl ?_
      refine J_iload C 312 dX9_lateWith_310 rfl rfl ?_
      obtain ⟨hi, h⟩ := h
      refine J_lald C 313 21 1 rfl rfl hi dX9_lateWith_312 rfl ?_
      refine J_ladd C 314 dX9_lateWith_313 rfl ?_
      obtain ⟨x_3, ex_3⟩ : ∃ z : Int64, z = (y6 + (v0.2.2.2 52 (Int32.toNatClampNeg y8))) := ⟨_, rfl⟩
      have h := h x_3 ex_3
      refine J_nml ex_3 ?_
      refine J_lstore C 316 [(6, .long x_3), (0, .ref a0), (8, .int y8)] dX9_lateWith_314 rfl (by decide) rfl ?_
      obtain ⟨x_4, ex_4⟩ : ∃ z : Int32, z = y8 + 1 := ⟨_, rfl⟩
      have h := h x_4 ex_4
      refine J_iinc C 319 [(8, .int x_4), (6, .long x_3), (0, .ref a0)] dX9_lateWith_316 rfl rfl ((kinc_1 _).trans ex_4.symm) (by decide) rfl ?_
      refine J_goto C 296 dX9_lateWith_319 rfl ?_
      refine J_loc [2, 1, 0] rfl ?_
      exact ih v0 x_3 x_4 h
def wp_X9_lateWith_c256  (Q : Int32 → Vl → Prop) (B100 : Vl → Int32 → Int32 → Prop) : Nat → Vl → Int32 → Int32 → Int32 → Prop
  | 0 => fun _ _ _ _ => False
  | n + 1 => fun v0 y5 y6 y7 => ((300 ≤ y7 → ∀ x_5 : Int32, x_5 = y6 + 1 → B100 v0 y5 x_5) ∧ (¬ 300 ≤ y7 → vp_in y7 300 ∧ (vp_in y7 300 ∧ (∀ v0s_6 : Vl, v0s_6 = setB v0 52 (Int32.toNatClampNeg y7) (v0.2.2.2 53 (Int32.toNatClampNeg y7)) → ∀ x_7 : Int32, x_7 = y7 + 1 → wp_X9_lateWith_c256  Q B100 n v0s_6 y5 y6 x_7))))
set_option maxHeartbeats 4000000 in
set_option maxRecDepth 100000 in
theorem wk_X9_lateWith_c256 {p : Program} {l : Launch} {e : Env} {s : State} {m : MethodId} {args : Array Value} {below : List Frame} {meth : Method} {c : Code} {D : GG} {A : Nat → Prop} {cI cJ cZ cS : ClassId} {a0 : Nat} {r0 : Nat → Nat}  {B100 : Vl → Int32 → Int32 → Prop} {Q : Int32 → Vl → Prop} (C : Cx p s m args c D (tyL cI cJ cZ cS) A RX9 cX9_lateWith 13) (hr : meth.sig.returnType = some .int) (hk : meth.locks = false) (hB100 : ∀ (v0 : Vl) (y5 : Int32) (y6 : Int32), B100 v0 y5 y6 → J p l e (rmk 2 51) s m args below meth c D A 13 0 0 (MQ below (va_Qi (fun (r : Int32) (u : Vl) => Q r u) (fun u t => va_P D.1 vwCl ((fun (u : Vl) => List.flatten [bX9 cI cJ cZ a0 r0 u]) u) t.heap ∧ va_D A ((fun (u : Vl) => List.flatten [bX9 cI cJ cZ a0 r0 u]) u)) A) args s 0 0 A) 100 [(0, .ref a0), (5, .int y5), (6, .int y6)] [] (List.flatten [bX9 cI cJ cZ a0 r0 v0])) : ∀ (n : Nat) (v0 : Vl) (y5 : Int32) (y6 : Int32) (y7 : Int32), wp_X9_lateWith_c256  Q B100 n v0 y5 y6 y7 → J p l e (rmk 2 51) s m args below meth c D A 13 0 0 (MQ below (va_Qi (fun (r : Int32) (u : Vl) => Q r u) (fun u t => va_P D.1 vwCl ((fun (u : Vl) => List.flatten [bX9 cI cJ cZ a0 r0 u]) u) t.heap ∧ va_D A ((fun (u : Vl) => List.flatten [bX9 cI cJ cZ a0 r0 u]) u)) A) args s 0 0 A) 256 [(0, .ref a0), (5, .int y5), (6, .int y6), (7, .int y7)] [] (List.flatten [bX9 cI cJ cZ a0 r0 v0]) := by
  intro n
  induction n with
  | zero =>
    intro v0 y5 y6 y7 h
    exact False.elim h
  | succ n ih =>
    intro v0 y5 y6 y7 h
    refine J_iload C 258 dX9_lateWith_256 rfl rfl ?_
    refine J_sipush C 261 dX9_lateWith_258 rfl ks_300 ?_
    refine J_icmp_ge C 264 284 dX9_lateWith_261 rfl rfl (fun c => ?_) (fun c => ?_)
    · have h := h.1 c
      obtain ⟨x_5, ex_5⟩ : ∃ z : Int32, z = y6 + 1 := ⟨_, rfl⟩
      have h := h x_5 ex_5
      refine J_iinc C 287 [(6, .int x_5), (0, .ref a0), (5, .int y5), (7, .int y7)] dX9_lateWith_284 rfl rfl ((kinc_1 _).trans ex_5.symm) (by decide) rfl ?_
      refine J_goto C 100 dX9_lateWith_287 rfl ?_
      refine J_loc [1, 2, 0] rfl ?_
      exact hB100 v0 y5 x_5 h
    · have h := h.2 c
      refine J_aload_n C 265 dX9_lateWith_264 rfl rfl ?_
      refine J_get C 268 9 inlX9 0 52 rfl rfl (by decide) wd179 rfl rfl dX9_lateWith_265 rfl ?_
      refine J_iload C 270 dX9_lateWith_268 rfl rfl ?_
      refine J_aload_n C 271 dX9_lateWith_270 rfl rfl ?_
      refine J_get C 274 9 inlX9 0 53 rfl rfl (by decide) wd180 rfl rfl dX9_lateWith_271 rfl ?_
      refine J_iload C 276 dX9_lateWith_274 rfl rfl ?_
      obtain ⟨hi, h⟩ := h
      refine J_lald C 277 22 1 rfl rfl hi dX9_lateWith_276 rfl ?_
      obtain ⟨hi, h⟩ := h
      obtain ⟨v0s_6, ev0s_6⟩ : ∃ z : Vl, z = setB v0 52 (Int32.toNatClampNeg y7) (v0.2.2.2 53 (Int32.toNatClampNeg y7)) := ⟨_, rfl⟩
      have h := h v0s_6 ev0s_6
      refine J_last C 278 21 1 rfl rfl hi (List.flatten [bX9 cI cJ cZ a0 r0 v0s_6]) (by subst ev0s_6; rfl) dX9_lateWith_277 rfl ?_
      obtain ⟨x_7, ex_7⟩ : ∃ z : Int32, z = y7 + 1 := ⟨_, rfl⟩
      have h := h x_7 ex_7
      refine J_iinc C 281 [(7, .int x_7), (0, .ref a0), (5, .int y5), (6, .int y6)] dX9_lateWith_278 rfl rfl ((kinc_1 _).trans ex_7.symm) (by decide) rfl ?_
      refine J_goto C 256 dX9_lateWith_281 rfl ?_
      refine J_loc [1, 2, 3, 0] rfl ?_
      exact ih v0s_6 y5 y6 x_7 h
def wp_X9_lateWith_c135  (Q : Int32 → Vl → Prop) (B100 : Vl → Int32 → Int32 → Prop) : Nat → Vl → Int32 → Int32 → Int32 → Prop
  | 0 => fun _ _ _ _ => False
  | n + 1 => fun v0 y5 y6 y7 => ((300 ≤ y7 → (∃ k : Nat, wp_X9_lateWith_c256  Q B100 k v0 y5 y6 0)) ∧ (¬ 300 ≤ y7 → ∀ x_8 : Int32, x_8 = (y7 / 100) → vp_in y7 300 ∧ (vp_in (3 * x_8) 9 ∧ (∀ x_9 : Int64, x_9 = (((v0.2.2.2 52 (Int32.toNatClampNeg y7)) * (Int32.toInt64 (v0.2.2.1 9 (Int32.toNatClampNeg (3 * x_8))))) / 100) → vp_in y7 300 ∧ (vp_in ((3 * x_8) + 1) 9 ∧ (∀ x_10 : Int64, x_10 = (((v0.2.2.2 52 (Int32.toNatClampNeg y7)) * (Int32.toInt64 (v0.2.2.1 9 (Int32.toNatClampNeg ((3 * x_8) + 1))))) / 100) → wp_X9_add v0 0 (y7 - y7 / 100 * 100) x_9 (fun u_11 => wp_X9_add u_11 1 (y7 - y7 / 100 * 100) x_10 (fun u_12 => vp_in y7 300 ∧ (wp_X9_add u_12 2 (y7 - y7 / 100 * 100) (((u_12.2.2.2 52 (Int32.toNatClampNeg y7)) - x_9) - x_10) (fun u_13 => ∀ x_14 : Int32, x_14 = y7 + 1 → wp_X9_lateWith_c135  Q B100 n u_13 y5 y6 x_14))))))))))
set_option maxHeartbeats 4000000 in
set_option maxRecDepth 100000 in
theorem wk_X9_lateWith_c135 {p : Program} {l : Launch} {e : Env} {s : State} {m : MethodId} {args : Array Value} {below : List Frame} {meth : Method} {c : Code} {D : GG} {A : Nat → Prop} {cI cJ cZ cS : ClassId} {a0 : Nat} {r0 : Nat → Nat}  {B100 : Vl → Int32 → Int32 → Prop} {Q : Int32 → Vl → Prop} (C : Cx p s m args c D (tyL cI cJ cZ cS) A RX9 cX9_lateWith 13) (hr : meth.sig.returnType = some .int) (hk : meth.locks = false) (hB100 : ∀ (v0 : Vl) (y5 : Int32) (y6 : Int32), B100 v0 y5 y6 → J p l e (rmk 2 51) s m args below meth c D A 13 0 0 (MQ below (va_Qi (fun (r : Int32) (u : Vl) => Q r u) (fun u t => va_P D.1 vwCl ((fun (u : Vl) => List.flatten [bX9 cI cJ cZ a0 r0 u]) u) t.heap ∧ va_D A ((fun (u : Vl) => List.flatten [bX9 cI cJ cZ a0 r0 u]) u)) A) args s 0 0 A) 100 [(0, .ref a0), (5, .int y5), (6, .int y6)] [] (List.flatten [bX9 cI cJ cZ a0 r0 v0])) : ∀ (n : Nat) (v0 : Vl) (y5 : Int32) (y6 : Int32) (y7 : Int32), wp_X9_lateWith_c135  Q B100 n v0 y5 y6 y7 → J p l e (rmk 2 51) s m args below meth c D A 13 0 0 (MQ below (va_Qi (fun (r : Int32) (u : Vl) => Q r u) (fun u t => va_P D.1 vwCl ((fun (u : Vl) => List.flatten [bX9 cI cJ cZ a0 r0 u]) u) t.heap ∧ va_D A ((fun (u : Vl) => List.flatten [bX9 cI cJ cZ a0 r0 u]) u)) A) args s 0 0 A) 135 [(0, .ref a0), (5, .int y5), (6, .int y6), (7, .int y7)] [] (List.flatten [bX9 cI cJ cZ a0 r0 v0]) := by
  intro n
  induction n with
  | zero =>
    intro v0 y5 y6 y7 h
    exact False.elim h
  | succ n ih =>
    intro v0 y5 y6 y7 h
    refine J_iload C 137 dX9_lateWith_135 rfl rfl ?_
    refine J_sipush C 140 dX9_lateWith_137 rfl ks_300 ?_
    refine J_icmp_ge C 143 253 dX9_lateWith_140 rfl rfl (fun c => ?_) (fun c => ?_)
    · have h := h.1 c
      refine J_iconst C 254 dX9_lateWith_253 rfl ki_0 ?_
      refine J_istore C 256 [(7, .int 0), (0, .ref a0), (5, .int y5), (6, .int y6)] dX9_lateWith_254 rfl (by decide) rfl ?_
      refine J_loc [1, 2, 3, 0] rfl ?_
      obtain ⟨n1, h⟩ := h
      exact wk_X9_lateWith_c256 C hr hk hB100 n1 v0 y5 y6 0 h
    · have h := h.2 c
      refine J_iload C 145 dX9_lateWith_143 rfl rfl ?_
      refine J_bipush C 147 dX9_lateWith_145 rfl kb_100 ?_
      refine J_idiv C 148 dX9_lateWith_147 rfl (by decide) ?_
      obtain ⟨x_8, ex_8⟩ : ∃ z : Int32, z = (y7 / 100) := ⟨_, rfl⟩
      have h := h x_8 ex_8
      refine J_nmi ex_8 ?_
      refine J_istore C 150 [(8, .int x_8), (0, .ref a0), (5, .int y5), (6, .int y6), (7, .int y7)] dX9_lateWith_148 rfl (by decide) rfl ?_
      refine J_aload_n C 151 dX9_lateWith_150 rfl rfl ?_
      refine J_get C 154 9 inlX9 0 52 rfl rfl (by decide) wd179 rfl rfl dX9_lateWith_151 rfl ?_
      refine J_iload C 156 dX9_lateWith_154 rfl rfl ?_
      obtain ⟨hi, h⟩ := h
      refine J_lald C 157 21 1 rfl rfl hi dX9_lateWith_156 rfl ?_
      refine J_aload_n C 158 dX9_lateWith_157 rfl rfl ?_
      refine J_get C 161 9 inlX9 0 9 rfl rfl (by decide) wd159 rfl rfl dX9_lateWith_158 rfl ?_
      refine J_iconst C 162 dX9_lateWith_161 rfl ki_3 ?_
      refine J_iload C 164 dX9_lateWith_162 rfl rfl ?_
      refine J_imul C 165 dX9_lateWith_164 rfl ?_
      obtain ⟨hi, h⟩ := h
      refine J_iald C 166 3 0 rfl rfl hi dX9_lateWith_165 rfl ?_
      refine J_i2l C 167 dX9_lateWith_166 rfl ?_
      refine J_lmul C 168 dX9_lateWith_167 rfl ?_
      refine J_ldc2 C 171 wd907 dX9_lateWith_168 rfl ?_
      refine J_ldiv C 172 dX9_lateWith_171 rfl (by decide) ?_
      obtain ⟨x_9, ex_9⟩ : ∃ z : Int64, z = (((v0.2.2.2 52 (Int32.toNatClampNeg y7)) * (Int32.toInt64 (v0.2.2.1 9 (Int32.toNatClampNeg (3 * x_8))))) / 100) := ⟨_, rfl⟩
      have h := h x_9 ex_9
      refine J_nml ex_9 ?_
      refine J_lstore C 174 [(9, .long x_9), (8, .int x_8), (0, .ref a0), (5, .int y5), (6, .int y6), (7, .int y7)] dX9_lateWith_172 rfl (by decide) rfl ?_
      refine J_aload_n C 175 dX9_lateWith_174 rfl rfl ?_
      refine J_get C 178 9 inlX9 0 52 rfl rfl (by decide) wd179 rfl rfl dX9_lateWith_175 rfl ?_
      refine J_iload C 180 dX9_lateWith_178 rfl rfl ?_
      obtain ⟨hi, h⟩ := h
      refine J_lald C 181 21 1 rfl rfl hi dX9_lateWith_180 rfl ?_
      refine J_aload_n C 182 dX9_lateWith_181 rfl rfl ?_
      refine J_get C 185 9 inlX9 0 9 rfl rfl (by decide) wd159 rfl rfl dX9_lateWith_182 rfl ?_
      refine J_iconst C 186 dX9_lateWith_185 rfl ki_3 ?_
      refine J_iload C 188 dX9_lateWith_186 rfl rfl ?_
      refine J_imul C 189 dX9_lateWith_188 rfl ?_
      refine J_iconst C 190 dX9_lateWith_189 rfl ki_1 ?_
      refine J_iadd C 191 dX9_lateWith_190 rfl ?_
      obtain ⟨hi, h⟩ := h
      refine J_iald C 192 3 0 rfl rfl hi dX9_lateWith_191 rfl ?_
      refine J_i2l C 193 dX9_lateWith_192 rfl ?_
      refine J_lmul C 194 dX9_lateWith_193 rfl ?_
      refine J_ldc2 C 197 wd907 dX9_lateWith_194 rfl ?_
      refine J_ldiv C 198 dX9_lateWith_197 rfl (by decide) ?_
      obtain ⟨x_10, ex_10⟩ : ∃ z : Int64, z = (((v0.2.2.2 52 (Int32.toNatClampNeg y7)) * (Int32.toInt64 (v0.2.2.1 9 (Int32.toNatClampNeg ((3 * x_8) + 1))))) / 100) := ⟨_, rfl⟩
      have h := h x_10 ex_10
      refine J_nml ex_10 ?_
      refine J_lstore C 200 [(11, .long x_10), (9, .long x_9), (8, .int x_8), (0, .ref a0), (5, .int y5), (6, .int y6), (7, .int y7)] dX9_lateWith_198 rfl (by decide) rfl ?_
      refine J_aload_n C 201 dX9_lateWith_200 rfl rfl ?_
      refine J_iconst C 202 dX9_lateWith_201 rfl ki_0 ?_
      refine J_iload C 204 dX9_lateWith_202 rfl rfl ?_
      refine J_bipush C 206 dX9_lateWith_204 rfl kb_100 ?_
      refine J_irem C 207 dX9_lateWith_206 rfl (by decide) ?_
      refine J_lload C 209 dX9_lateWith_207 rfl rfl ?_
      refine J_callBvV (Bs := [bX9 cI cJ cZ a0 r0 v0]) (As := [.int 0, .int (y7 - y7 / 100 * 100), .long x_9]) C 212 (c_X9_add l D cI cJ cZ cS a0 r0 v0 0 (y7 - y7 / 100 * 100) x_9 _ h) wd912 wd909 wd5 wd910 wd911 9 0 rfl rfl rfl hdX9_add ⟨Nat.le_of_ble_eq_true rfl, Nat.le_of_ble_eq_true rfl⟩ ⟨Nat.zero_le _, Nat.zero_le _⟩ rfl (Nat.le_of_ble_eq_true rfl) [0] [] 1 rfl (by decide +kernel) rfl rfl (fun (u : Vl) => [bX9 cI cJ cZ a0 r0 u]) (fun _ => rfl) [0] (by decide +kernel) (fun _ => rfl) rfl (fun (u : Vl) => [bX9 cI cJ cZ a0 r0 u]) (fun _ => rfl) dX9_lateWith_209 rfl (fun u h => ?_)
      obtain ⟨u_11, hu⟩ : ∃ z, z = u := ⟨_, rfl⟩
      subst hu
      refine J_aload_n C 213 dX9_lateWith_212 rfl rfl ?_
      refine J_iconst C 214 dX9_lateWith_213 rfl ki_1 ?_
      refine J_iload C 216 dX9_lateWith_214 rfl rfl ?_
      refine J_bipush C 218 dX9_lateWith_216 rfl kb_100 ?_
      refine J_irem C 219 dX9_lateWith_218 rfl (by decide) ?_
      refine J_lload C 221 dX9_lateWith_219 rfl rfl ?_
      refine J_callBvV (Bs := [bX9 cI cJ cZ a0 r0 u_11]) (As := [.int 1, .int (y7 - y7 / 100 * 100), .long x_10]) C 224 (c_X9_add l D cI cJ cZ cS a0 r0 u_11 1 (y7 - y7 / 100 * 100) x_10 _ h) wd912 wd909 wd5 wd910 wd911 9 0 rfl rfl rfl hdX9_add ⟨Nat.le_of_ble_eq_true rfl, Nat.le_of_ble_eq_true rfl⟩ ⟨Nat.zero_le _, Nat.zero_le _⟩ rfl (Nat.le_of_ble_eq_true rfl) [0] [] 1 rfl (by decide +kernel) rfl rfl (fun (u : Vl) => [bX9 cI cJ cZ a0 r0 u]) (fun _ => rfl) [0] (by decide +kernel) (fun _ => rfl) rfl (fun (u : Vl) => [bX9 cI cJ cZ a0 r0 u]) (fun _ => rfl) dX9_lateWith_221 rfl (fun u h => ?_)
      obtain ⟨u_12, hu⟩ : ∃ z, z = u := ⟨_, rfl⟩
      subst hu
      refine J_aload_n C 225 dX9_lateWith_224 rfl rfl ?_
      refine J_iconst C 226 dX9_lateWith_225 rfl ki_2 ?_
      refine J_iload C 228 dX9_lateWith_226 rfl rfl ?_
      refine J_bipush C 230 dX9_lateWith_228 rfl kb_100 ?_
      refine J_irem C 231 dX9_lateWith_230 rfl (by decide) ?_
      refine J_aload_n C 232 dX9_lateWith_231 rfl rfl ?_
      refine J_get C 235 9 inlX9 0 52 rfl rfl (by decide) wd179 rfl rfl dX9_lateWith_232 rfl ?_
      refine J_iload C 237 dX9_lateWith_235 rfl rfl ?_
      obtain ⟨hi, h⟩ := h
      refine J_lald C 238 21 1 rfl rfl hi dX9_lateWith_237 rfl ?_
      refine J_lload C 240 dX9_lateWith_238 rfl rfl ?_
      refine J_lsub C 241 dX9_lateWith_240 rfl ?_
      refine J_lload C 243 dX9_lateWith_241 rfl rfl ?_
      refine J_lsub C 244 dX9_lateWith_243 rfl ?_
      refine J_callBvV (Bs := [bX9 cI cJ cZ a0 r0 u_12]) (As := [.int 2, .int (y7 - y7 / 100 * 100), .long (((u_12.2.2.2 52 (Int32.toNatClampNeg y7)) - x_9) - x_10)]) C 247 (c_X9_add l D cI cJ cZ cS a0 r0 u_12 2 (y7 - y7 / 100 * 100) (((u_12.2.2.2 52 (Int32.toNatClampNeg y7)) - x_9) - x_10) _ h) wd912 wd909 wd5 wd910 wd911 9 0 rfl rfl rfl hdX9_add ⟨Nat.le_of_ble_eq_true rfl, Nat.le_of_ble_eq_true rfl⟩ ⟨Nat.zero_le _, Nat.zero_le _⟩ rfl (Nat.le_of_ble_eq_true rfl) [0] [] 1 rfl (by decide +kernel) rfl rfl (fun (u : Vl) => [bX9 cI cJ cZ a0 r0 u]) (fun _ => rfl) [0] (by decide +kernel) (fun _ => rfl) rfl (fun (u : Vl) => [bX9 cI cJ cZ a0 r0 u]) (fun _ => rfl) dX9_lateWith_244 rfl (fun u h => ?_)
      obtain ⟨u_13, hu⟩ : ∃ z, z = u := ⟨_, rfl⟩
      subst hu
      obtain ⟨x_14, ex_14⟩ : ∃ z : Int32, z = y7 + 1 := ⟨_, rfl⟩
      have h := h x_14 ex_14
      refine J_iinc C 250 [(7, .int x_14), (11, .long x_10), (9, .long x_9), (8, .int x_8), (0, .ref a0), (5, .int y5), (6, .int y6)] dX9_lateWith_247 rfl rfl ((kinc_1 _).trans ex_14.symm) (by decide) rfl ?_
      refine J_goto C 135 dX9_lateWith_250 rfl ?_
      refine J_loc [4, 5, 6, 0] rfl ?_
      exact ih u_13 y5 y6 x_14 h
def wp_X9_lateWith_c110  (Q : Int32 → Vl → Prop) (B100 : Vl → Int32 → Int32 → Prop) : Nat → Vl → Int32 → Int32 → Int32 → Prop
  | 0 => fun _ _ _ _ => False
  | n + 1 => fun v0 y5 y6 y7 => ((300 ≤ y7 → (∃ k : Nat, wp_X9_lateWith_c135  Q B100 k v0 y5 y6 0)) ∧ (¬ 300 ≤ y7 → vp_in y7 300 ∧ (∀ v0s_15 : Vl, v0s_15 = setB v0 53 (Int32.toNatClampNeg y7) 0 → ∀ x_16 : Int32, x_16 = y7 + 1 → wp_X9_lateWith_c110  Q B100 n v0s_15 y5 y6 x_16)))
set_option maxHeartbeats 4000000 in
set_option maxRecDepth 100000 in
theorem wk_X9_lateWith_c110 {p : Program} {l : Launch} {e : Env} {s : State} {m : MethodId} {args : Array Value} {below : List Frame} {meth : Method} {c : Code} {D : GG} {A : Nat → Prop} {cI cJ cZ cS : ClassId} {a0 : Nat} {r0 : Nat → Nat}  {B100 : Vl → Int32 → Int32 → Prop} {Q : Int32 → Vl → Prop} (C : Cx p s m args c D (tyL cI cJ cZ cS) A RX9 cX9_lateWith 13) (hr : meth.sig.returnType = some .int) (hk : meth.locks = false) (hB100 : ∀ (v0 : Vl) (y5 : Int32) (y6 : Int32), B100 v0 y5 y6 → J p l e (rmk 2 51) s m args below meth c D A 13 0 0 (MQ below (va_Qi (fun (r : Int32) (u : Vl) => Q r u) (fun u t => va_P D.1 vwCl ((fun (u : Vl) => List.flatten [bX9 cI cJ cZ a0 r0 u]) u) t.heap ∧ va_D A ((fun (u : Vl) => List.flatten [bX9 cI cJ cZ a0 r0 u]) u)) A) args s 0 0 A) 100 [(0, .ref a0), (5, .int y5), (6, .int y6)] [] (List.flatten [bX9 cI cJ cZ a0 r0 v0])) : ∀ (n : Nat) (v0 : Vl) (y5 : Int32) (y6 : Int32) (y7 : Int32), wp_X9_lateWith_c110  Q B100 n v0 y5 y6 y7 → J p l e (rmk 2 51) s m args below meth c D A 13 0 0 (MQ below (va_Qi (fun (r : Int32) (u : Vl) => Q r u) (fun u t => va_P D.1 vwCl ((fun (u : Vl) => List.flatten [bX9 cI cJ cZ a0 r0 u]) u) t.heap ∧ va_D A ((fun (u : Vl) => List.flatten [bX9 cI cJ cZ a0 r0 u]) u)) A) args s 0 0 A) 110 [(0, .ref a0), (5, .int y5), (6, .int y6), (7, .int y7)] [] (List.flatten [bX9 cI cJ cZ a0 r0 v0]) := by
  intro n
  induction n with
  | zero =>
    intro v0 y5 y6 y7 h
    exact False.elim h
  | succ n ih =>
    intro v0 y5 y6 y7 h
    refine J_iload C 112 dX9_lateWith_110 rfl rfl ?_
    refine J_sipush C 115 dX9_lateWith_112 rfl ks_300 ?_
    refine J_icmp_ge C 118 132 dX9_lateWith_115 rfl rfl (fun c => ?_) (fun c => ?_)
    · have h := h.1 c
      refine J_iconst C 133 dX9_lateWith_132 rfl ki_0 ?_
      refine J_istore C 135 [(7, .int 0), (0, .ref a0), (5, .int y5), (6, .int y6)] dX9_lateWith_133 rfl (by decide) rfl ?_
      refine J_loc [1, 2, 3, 0] rfl ?_
      obtain ⟨n1, h⟩ := h
      exact wk_X9_lateWith_c135 C hr hk hB100 n1 v0 y5 y6 0 h
    · have h := h.2 c
      refine J_aload_n C 119 dX9_lateWith_118 rfl rfl ?_
      refine J_get C 122 9 inlX9 0 53 rfl rfl (by decide) wd180 rfl rfl dX9_lateWith_119 rfl ?_
      refine J_iload C 124 dX9_lateWith_122 rfl rfl ?_
      refine J_lconst C 125 dX9_lateWith_124 rfl kl_0 ?_
      obtain ⟨hi, h⟩ := h
      obtain ⟨v0s_15, ev0s_15⟩ : ∃ z : Vl, z = setB v0 53 (Int32.toNatClampNeg y7) 0 := ⟨_, rfl⟩
      have h := h v0s_15 ev0s_15
      refine J_last C 126 22 1 rfl rfl hi (List.flatten [bX9 cI cJ cZ a0 r0 v0s_15]) (by subst ev0s_15; rfl) dX9_lateWith_125 rfl ?_
      obtain ⟨x_16, ex_16⟩ : ∃ z : Int32, z = y7 + 1 := ⟨_, rfl⟩
      have h := h x_16 ex_16
      refine J_iinc C 129 [(7, .int x_16), (0, .ref a0), (5, .int y5), (6, .int y6)] dX9_lateWith_126 rfl rfl ((kinc_1 _).trans ex_16.symm) (by decide) rfl ?_
      refine J_goto C 110 dX9_lateWith_129 rfl ?_
      refine J_loc [1, 2, 3, 0] rfl ?_
      exact ih v0s_15 y5 y6 x_16 h
def wp_X9_lateWith_c100  (Q : Int32 → Vl → Prop) : Nat → Vl → Int32 → Int32 → Prop
  | 0 => fun _ _ _ => False
  | n + 1 => fun v0 y5 y6 => ((y5 ≤ y6 → (∃ k : Nat, wp_X9_lateWith_c296  Q k v0 0 0)) ∧ (¬ y5 ≤ y6 → (∃ k : Nat, wp_X9_lateWith_c110  Q (wp_X9_lateWith_c100  Q n) k v0 y5 y6 0)))
set_option maxHeartbeats 4000000 in
set_option maxRecDepth 100000 in
theorem wk_X9_lateWith_c100 {p : Program} {l : Launch} {e : Env} {s : State} {m : MethodId} {args : Array Value} {below : List Frame} {meth : Method} {c : Code} {D : GG} {A : Nat → Prop} {cI cJ cZ cS : ClassId} {a0 : Nat} {r0 : Nat → Nat}  {Q : Int32 → Vl → Prop} (C : Cx p s m args c D (tyL cI cJ cZ cS) A RX9 cX9_lateWith 13) (hr : meth.sig.returnType = some .int) (hk : meth.locks = false) : ∀ (n : Nat) (v0 : Vl) (y5 : Int32) (y6 : Int32), wp_X9_lateWith_c100  Q n v0 y5 y6 → J p l e (rmk 2 51) s m args below meth c D A 13 0 0 (MQ below (va_Qi (fun (r : Int32) (u : Vl) => Q r u) (fun u t => va_P D.1 vwCl ((fun (u : Vl) => List.flatten [bX9 cI cJ cZ a0 r0 u]) u) t.heap ∧ va_D A ((fun (u : Vl) => List.flatten [bX9 cI cJ cZ a0 r0 u]) u)) A) args s 0 0 A) 100 [(0, .ref a0), (5, .int y5), (6, .int y6)] [] (List.flatten [bX9 cI cJ cZ a0 r0 v0]) := by
  intro n
  induction n with
  | zero =>
    intro v0 y5 y6 h
    exact False.elim h
  | succ n ih =>
    intro v0 y5 y6 h
    refine J_iload C 102 dX9_lateWith_100 rfl rfl ?_
    refine J_iload C 104 dX9_lateWith_102 rfl rfl ?_
    refine J_icmp_ge C 107 290 dX9_lateWith_104 rfl rfl (fun c => ?_) (fun c => ?_)
    · have h := h.1 c
      refine J_lconst C 291 dX9_lateWith_290 rfl kl_0 ?_
      refine J_lstore C 293 [(6, .long 0), (0, .ref a0), (5, .int y5)] dX9_lateWith_291 rfl (by decide) rfl ?_
      refine J_iconst C 294 dX9_lateWith_293 rfl ki_0 ?_
      refine J_istore C 296 [(8, .int 0), (6, .long 0), (0, .ref a0), (5, .int y5)] dX9_lateWith_294 rfl (by decide) rfl ?_
      refine J_loc [2, 1, 0] rfl ?_
      obtain ⟨n1, h⟩ := h
      exact wk_X9_lateWith_c296 C hr hk n1 v0 0 0 h
    · have h := h.2 c
      refine J_iconst C 108 dX9_lateWith_107 rfl ki_0 ?_
      refine J_istore C 110 [(7, .int 0), (0, .ref a0), (5, .int y5), (6, .int y6)] dX9_lateWith_108 rfl (by decide) rfl ?_
      refine J_loc [1, 2, 3, 0] rfl ?_
      obtain ⟨n1, h⟩ := h
      exact wk_X9_lateWith_c110 C hr hk ih n1 v0 y5 y6 0 h
def wp_X9_lateWith_c90  (Q : Int32 → Vl → Prop) (B54 : Vl → Int32 → Int32 → Int32 → Prop) (v0 : Vl) (y4 : Int32) (y5 : Int32) (y6 : Int32) (s0 : Int64) (s1 : Int32) : Prop := vp_in s1 300 ∧ (∀ v0s_17 : Vl, v0s_17 = setB v0 52 (Int32.toNatClampNeg s1) s0 → ∀ x_18 : Int32, x_18 = y6 + 1 → B54 v0s_17 y4 y5 x_18)
set_option maxHeartbeats 4000000 in
set_option maxRecDepth 100000 in
theorem wk_X9_lateWith_c90 {p : Program} {l : Launch} {e : Env} {s : State} {m : MethodId} {args : Array Value} {below : List Frame} {meth : Method} {c : Code} {D : GG} {A : Nat → Prop} {cI cJ cZ cS : ClassId} {a0 : Nat} {r0 : Nat → Nat}  {B54 : Vl → Int32 → Int32 → Int32 → Prop} {Q : Int32 → Vl → Prop} (C : Cx p s m args c D (tyL cI cJ cZ cS) A RX9 cX9_lateWith 13) (hr : meth.sig.returnType = some .int) (hk : meth.locks = false) (hB54 : ∀ (v0 : Vl) (y4 : Int32) (y5 : Int32) (y6 : Int32), B54 v0 y4 y5 y6 → J p l e (rmk 2 51) s m args below meth c D A 13 0 0 (MQ below (va_Qi (fun (r : Int32) (u : Vl) => Q r u) (fun u t => va_P D.1 vwCl ((fun (u : Vl) => List.flatten [bX9 cI cJ cZ a0 r0 u]) u) t.heap ∧ va_D A ((fun (u : Vl) => List.flatten [bX9 cI cJ cZ a0 r0 u]) u)) A) args s 0 0 A) 54 [(0, .ref a0), (4, .int y4), (5, .int y5), (6, .int y6)] [] (List.flatten [bX9 cI cJ cZ a0 r0 v0])) : ∀ (v0 : Vl) (y4 : Int32) (y5 : Int32) (y6 : Int32) (s0 : Int64) (s1 : Int32), wp_X9_lateWith_c90  Q B54 v0 y4 y5 y6 s0 s1 → J p l e (rmk 2 51) s m args below meth c D A 13 0 0 (MQ below (va_Qi (fun (r : Int32) (u : Vl) => Q r u) (fun u t => va_P D.1 vwCl ((fun (u : Vl) => List.flatten [bX9 cI cJ cZ a0 r0 u]) u) t.heap ∧ va_D A ((fun (u : Vl) => List.flatten [bX9 cI cJ cZ a0 r0 u]) u)) A) args s 0 0 A) 90 [(0, .ref a0), (4, .int y4), (5, .int y5), (6, .int y6)] [.long s0, .int s1, .ref (r0 52)] (List.flatten [bX9 cI cJ cZ a0 r0 v0]) := by
  intro v0 y4 y5 y6 s0 s1 h
  obtain ⟨hi, h⟩ := h
  obtain ⟨v0s_17, ev0s_17⟩ : ∃ z : Vl, z = setB v0 52 (Int32.toNatClampNeg s1) s0 := ⟨_, rfl⟩
  have h := h v0s_17 ev0s_17
  refine J_last C 91 21 1 rfl rfl hi (List.flatten [bX9 cI cJ cZ a0 r0 v0s_17]) (by subst ev0s_17; rfl) dX9_lateWith_90 rfl ?_
  obtain ⟨x_18, ex_18⟩ : ∃ z : Int32, z = y6 + 1 := ⟨_, rfl⟩
  have h := h x_18 ex_18
  refine J_iinc C 94 [(6, .int x_18), (0, .ref a0), (4, .int y4), (5, .int y5)] dX9_lateWith_91 rfl rfl ((kinc_1 _).trans ex_18.symm) (by decide) rfl ?_
  refine J_goto C 54 dX9_lateWith_94 rfl ?_
  refine J_loc [1, 2, 3, 0] rfl ?_
  exact hB54 v0s_17 y4 y5 x_18 h
def wp_X9_lateWith_c54  (Q : Int32 → Vl → Prop) : Nat → Vl → Int32 → Int32 → Int32 → Prop
  | 0 => fun _ _ _ _ => False
  | n + 1 => fun v0 y4 y5 y6 => ((300 ≤ y6 → (∃ k : Nat, wp_X9_lateWith_c100  Q k v0 y5 0)) ∧ (¬ 300 ≤ y6 → ((¬ y6 = ((100 * (v0.1 27)) + y4) → wp_X9_lateWith_c90  Q (wp_X9_lateWith_c54  Q n) v0 y4 y5 y6 0 y6) ∧ (y6 = ((100 * (v0.1 27)) + y4) → wp_X9_lateWith_c90  Q (wp_X9_lateWith_c54  Q n) v0 y4 y5 y6 1000000000 y6))))
set_option maxHeartbeats 4000000 in
set_option maxRecDepth 100000 in
theorem wk_X9_lateWith_c54 {p : Program} {l : Launch} {e : Env} {s : State} {m : MethodId} {args : Array Value} {below : List Frame} {meth : Method} {c : Code} {D : GG} {A : Nat → Prop} {cI cJ cZ cS : ClassId} {a0 : Nat} {r0 : Nat → Nat}  {Q : Int32 → Vl → Prop} (C : Cx p s m args c D (tyL cI cJ cZ cS) A RX9 cX9_lateWith 13) (hr : meth.sig.returnType = some .int) (hk : meth.locks = false) : ∀ (n : Nat) (v0 : Vl) (y4 : Int32) (y5 : Int32) (y6 : Int32), wp_X9_lateWith_c54  Q n v0 y4 y5 y6 → J p l e (rmk 2 51) s m args below meth c D A 13 0 0 (MQ below (va_Qi (fun (r : Int32) (u : Vl) => Q r u) (fun u t => va_P D.1 vwCl ((fun (u : Vl) => List.flatten [bX9 cI cJ cZ a0 r0 u]) u) t.heap ∧ va_D A ((fun (u : Vl) => List.flatten [bX9 cI cJ cZ a0 r0 u]) u)) A) args s 0 0 A) 54 [(0, .ref a0), (4, .int y4), (5, .int y5), (6, .int y6)] [] (List.flatten [bX9 cI cJ cZ a0 r0 v0]) := by
  intro n
  induction n with
  | zero =>
    intro v0 y4 y5 y6 h
    exact False.elim h
  | succ n ih =>
    intro v0 y4 y5 y6 h
    refine J_iload C 56 dX9_lateWith_54 rfl rfl ?_
    refine J_sipush C 59 dX9_lateWith_56 rfl ks_300 ?_
    refine J_icmp_ge C 62 97 dX9_lateWith_59 rfl rfl (fun c => ?_) (fun c => ?_)
    · have h := h.1 c
      refine J_iconst C 98 dX9_lateWith_97 rfl ki_0 ?_
      refine J_istore C 100 [(6, .int 0), (0, .ref a0), (4, .int y4), (5, .int y5)] dX9_lateWith_98 rfl (by decide) rfl ?_
      refine J_loc [1, 3, 0] rfl ?_
      obtain ⟨n1, h⟩ := h
      exact wk_X9_lateWith_c100 C hr hk n1 v0 y5 0 h
    · have h := h.2 c
      refine J_aload_n C 63 dX9_lateWith_62 rfl rfl ?_
      refine J_get C 66 9 inlX9 0 52 rfl rfl (by decide) wd179 rfl rfl dX9_lateWith_63 rfl ?_
      refine J_iload C 68 dX9_lateWith_66 rfl rfl ?_
      refine J_iload C 70 dX9_lateWith_68 rfl rfl ?_
      refine J_bipush C 72 dX9_lateWith_70 rfl kb_100 ?_
      refine J_aload_n C 73 dX9_lateWith_72 rfl rfl ?_
      refine J_get C 76 9 inlX9 0 27 rfl rfl (by decide) wd201 rfl rfl dX9_lateWith_73 rfl ?_
      refine J_imul C 77 dX9_lateWith_76 rfl ?_
      refine J_iload C 79 dX9_lateWith_77 rfl rfl ?_
      refine J_iadd C 80 dX9_lateWith_79 rfl ?_
      refine J_icmp_ne C 83 89 dX9_lateWith_80 rfl rfl (fun c => ?_) (fun c => ?_)
      · have h := h.1 c
        refine J_lconst C 90 dX9_lateWith_89 rfl kl_0 ?_
        refine J_loc [0, 1, 2, 3] rfl ?_
        exact wk_X9_lateWith_c90 C hr hk ih v0 y4 y5 y6 0 y6 h
      · have h := h.2 c
        refine J_ldc2 C 86 wd906 dX9_lateWith_83 rfl ?_
        refine J_goto C 90 dX9_lateWith_86 rfl ?_
        refine J_loc [0, 1, 2, 3] rfl ?_
        exact wk_X9_lateWith_c90 C hr hk ih v0 y4 y5 y6 1000000000 y6 h
def wp_X9_lateWith_c34  (Q : Int32 → Vl → Prop) (v0 : Vl) (y1 : Int32) (y2 : Int32) (s0 : Int32) : Prop := ((¬ s0 = 0 → wp_X9_lastsWith v0 y1 y2 (fun r_2 => (∃ k : Nat, wp_X9_lateWith_c54  Q k v0 s0 r_2 0))) ∧ (s0 = 0 → Q 0 v0))
set_option maxHeartbeats 4000000 in
set_option maxRecDepth 100000 in
theorem wk_X9_lateWith_c34 {p : Program} {l : Launch} {e : Env} {s : State} {m : MethodId} {args : Array Value} {below : List Frame} {meth : Method} {c : Code} {D : GG} {A : Nat → Prop} {cI cJ cZ cS : ClassId} {a0 : Nat} {r0 : Nat → Nat}  {Q : Int32 → Vl → Prop} (C : Cx p s m args c D (tyL cI cJ cZ cS) A RX9 cX9_lateWith 13) (hr : meth.sig.returnType = some .int) (hk : meth.locks = false) : ∀ (v0 : Vl) (y1 : Int32) (y2 : Int32) (s0 : Int32), wp_X9_lateWith_c34  Q v0 y1 y2 s0 → J p l e (rmk 2 51) s m args below meth c D A 13 0 0 (MQ below (va_Qi (fun (r : Int32) (u : Vl) => Q r u) (fun u t => va_P D.1 vwCl ((fun (u : Vl) => List.flatten [bX9 cI cJ cZ a0 r0 u]) u) t.heap ∧ va_D A ((fun (u : Vl) => List.flatten [bX9 cI cJ cZ a0 r0 u]) u)) A) args s 0 0 A) 34 [(0, .ref a0), (1, .int y1), (2, .int y2)] [.int s0] (List.flatten [bX9 cI cJ cZ a0 r0 v0]) := by
  intro v0 y1 y2 s0 h
  refine J_istore C 36 [(4, .int s0), (0, .ref a0), (1, .int y1), (2, .int y2)] dX9_lateWith_34 rfl (by decide) rfl ?_
  refine J_iload C 38 dX9_lateWith_36 rfl rfl ?_
  refine J_if_ne C 41 43 dX9_lateWith_38 rfl rfl (fun c => ?_) (fun c => ?_)
  · have h := h.1 c
    refine J_aload_n C 44 dX9_lateWith_43 rfl rfl ?_
    refine J_iload_n C 45 dX9_lateWith_44 rfl rfl ?_
    refine J_iload_n C 46 dX9_lateWith_45 rfl rfl ?_
    refine J_callBiV (Bs := [bX9 cI cJ cZ a0 r0 v0]) (As := [.int y1, .int y2]) C 49 (c_X9_lastsWith l D cI cJ cZ cS a0 r0 v0 y1 y2 _ h) wd867 wd864 wd5 wd865 wd866 9 0 rfl rfl rfl hdX9_lastsWith ⟨Nat.le_of_ble_eq_true rfl, Nat.le_of_ble_eq_true rfl⟩ ⟨Nat.zero_le _, Nat.zero_le _⟩ rfl (Nat.le_of_ble_eq_true rfl) [0] [] 1 rfl (by decide +kernel) rfl rfl (fun (u : Unit) => [bX9 cI cJ cZ a0 r0 v0]) (fun _ => rfl) [0] (by decide +kernel) (fun _ => rfl) rfl (fun (u : Unit) => [bX9 cI cJ cZ a0 r0 v0]) (fun _ => rfl) dX9_lateWith_46 rfl (fun r_2 u h => ?_)
    refine J_istore C 51 [(5, .int r_2), (4, .int s0), (0, .ref a0), (1, .int y1), (2, .int y2)] dX9_lateWith_49 rfl (by decide) rfl ?_
    refine J_iconst C 52 dX9_lateWith_51 rfl ki_0 ?_
    refine J_istore C 54 [(6, .int 0), (5, .int r_2), (4, .int s0), (0, .ref a0), (1, .int y1), (2, .int y2)] dX9_lateWith_52 rfl (by decide) rfl ?_
    refine J_loc [3, 2, 1, 0] rfl ?_
    obtain ⟨n1, h⟩ := h
    exact wk_X9_lateWith_c54 C hr hk n1 v0 s0 r_2 0 h
  · have h := h.2 c
    refine J_iconst C 42 dX9_lateWith_41 rfl ki_0 ?_
    exact J_iret C hr hk v0 rfl dX9_lateWith_42 h
def wp_X9_lateWith (v0 : Vl) (x1 : Int32) (x2 : Int32) (Q : Int32 → Vl → Prop) : Prop := vp_in ((5 * x1) + 1) 45 ∧ (∀ x_1 : Int32, x_1 = (v0.2.2.1 1 (Int32.toNatClampNeg ((5 * x1) + 1))) → ((x_1 ≤ (v0.1 21) → wp_X9_lateWith_c34  Q v0 x1 x2 ((v0.1 21) - x_1)) ∧ (¬ x_1 ≤ (v0.1 21) → wp_X9_lateWith_c34  Q v0 x1 x2 (x_1 - (v0.1 21)))))
set_option maxHeartbeats 4000000 in
set_option maxRecDepth 100000 in
theorem c_X9_lateWith (l : Launch) (D : GG) (cI cJ cZ cS : ClassId) (a0 : Nat) (r0 : Nat → Nat) (v0 : Vl) (x1 : Int32) (x2 : Int32) (Q : Int32 → Vl → Prop) (h : wp_X9_lateWith v0 x1 x2 Q) : Mi l D (tyL cI cJ cZ cS) yX9_lateWith cX9_lateWith 13 .int 2 51 [.ref a0, .int x1, .int x2] (List.flatten [bX9 cI cJ cZ a0 r0 v0]) (fun (r : Int32) (u : Vl) => Q r u) (fun (u : Vl) => List.flatten [bX9 cI cJ cZ a0 r0 u]) := by
  refine Mi_of RX9 [(0, .ref a0), (1, .int x1), (2, .int x2)] (by decide +kernel) rfl rfl (Nat.le_of_ble_eq_true rfl) ?_
  intro p e s m args below meth c A C hr hk
  refine J_aload_n C 1 dX9_lateWith_0 rfl rfl ?_
  refine J_get C 4 9 inlX9 0 1 rfl rfl (by decide) wd152 rfl rfl dX9_lateWith_1 rfl ?_
  refine J_iconst C 5 dX9_lateWith_4 rfl ki_5 ?_
  refine J_iload_n C 6 dX9_lateWith_5 rfl rfl ?_
  refine J_imul C 7 dX9_lateWith_6 rfl ?_
  refine J_iconst C 8 dX9_lateWith_7 rfl ki_1 ?_
  refine J_iadd C 9 dX9_lateWith_8 rfl ?_
  obtain ⟨hi, h⟩ := h
  refine J_iald C 10 1 0 rfl rfl hi dX9_lateWith_9 rfl ?_
  obtain ⟨x_1, ex_1⟩ : ∃ z : Int32, z = (v0.2.2.1 1 (Int32.toNatClampNeg ((5 * x1) + 1))) := ⟨_, rfl⟩
  have h := h x_1 ex_1
  refine J_nmi ex_1 ?_
  refine J_istore_n C 11 [(3, .int x_1), (0, .ref a0), (1, .int x1), (2, .int x2)] dX9_lateWith_10 rfl (by decide) rfl ?_
  refine J_iload_n C 12 dX9_lateWith_11 rfl rfl ?_
  refine J_aload_n C 13 dX9_lateWith_12 rfl rfl ?_
  refine J_get C 16 9 inlX9 0 21 rfl rfl (by decide) wd196 rfl rfl dX9_lateWith_13 rfl ?_
  refine J_icmp_le C 19 28 dX9_lateWith_16 rfl rfl (fun c => ?_) (fun c => ?_)
  · have h := h.1 c
    refine J_aload_n C 29 dX9_lateWith_28 rfl rfl ?_
    refine J_get C 32 9 inlX9 0 21 rfl rfl (by decide) wd196 rfl rfl dX9_lateWith_29 rfl ?_
    refine J_iload_n C 33 dX9_lateWith_32 rfl rfl ?_
    refine J_isub C 34 dX9_lateWith_33 rfl ?_
    refine J_loc [1, 2, 3] rfl ?_
    exact wk_X9_lateWith_c34 C hr hk v0 x1 x2 ((v0.1 21) - x_1) h
  · have h := h.2 c
    refine J_iload_n C 20 dX9_lateWith_19 rfl rfl ?_
    refine J_aload_n C 21 dX9_lateWith_20 rfl rfl ?_
    refine J_get C 24 9 inlX9 0 21 rfl rfl (by decide) wd196 rfl rfl dX9_lateWith_21 rfl ?_
    refine J_isub C 25 dX9_lateWith_24 rfl ?_
    refine J_goto C 34 dX9_lateWith_25 rfl ?_
    refine J_loc [1, 2, 3] rfl ?_
    exact wk_X9_lateWith_c34 C hr hk v0 x1 x2 (x_1 - (v0.1 21)) h
def wp_X9_late (v0 : Vl) (x1 : Int32) (Q : Int32 → Vl → Prop) : Prop := wp_X9_isLight v0 x1 (fun r_1 => ((r_1 = 0 → Q (-1000000001) v0) ∧ (¬ r_1 = 0 → wp_X9_lateWith v0 x1 0 (fun r_3 u_2 => Q r_3 u_2))))
set_option maxHeartbeats 4000000 in
set_option maxRecDepth 100000 in
theorem c_X9_late (l : Launch) (D : GG) (cI cJ cZ cS : ClassId) (a0 : Nat) (r0 : Nat → Nat) (v0 : Vl) (x1 : Int32) (Q : Int32 → Vl → Prop) (h : wp_X9_late v0 x1 Q) : Mi l D (tyL cI cJ cZ cS) yX9_late cX9_late 2 .int 3 83 [.ref a0, .int x1] (List.flatten [bX9 cI cJ cZ a0 r0 v0]) (fun (r : Int32) (u : Vl) => Q r u) (fun (u : Vl) => List.flatten [bX9 cI cJ cZ a0 r0 u]) := by
  refine Mi_of RX9 [(0, .ref a0), (1, .int x1)] (by decide +kernel) rfl rfl (Nat.le_of_ble_eq_true rfl) ?_
  intro p e s m args below meth c A C hr hk
  refine J_aload_n C 1 dX9_late_0 rfl rfl ?_
  refine J_iload_n C 2 dX9_late_1 rfl rfl ?_
  refine J_callBiV (Bs := [bX9 cI cJ cZ a0 r0 v0]) (As := [.int x1]) C 5 (c_X9_isLight l D cI cJ cZ cS a0 r0 v0 x1 _ h) wd552 wd549 wd5 wd550 wd551 9 0 rfl rfl rfl hdX9_isLight ⟨Nat.le_of_ble_eq_true rfl, Nat.le_of_ble_eq_true rfl⟩ ⟨Nat.zero_le _, Nat.zero_le _⟩ rfl (Nat.le_of_ble_eq_true rfl) [0] [] 1 rfl (by decide +kernel) rfl rfl (fun (u : Unit) => [bX9 cI cJ cZ a0 r0 v0]) (fun _ => rfl) [0] (by decide +kernel) (fun _ => rfl) rfl (fun (u : Unit) => [bX9 cI cJ cZ a0 r0 v0]) (fun _ => rfl) dX9_late_2 rfl (fun r_1 u h => ?_)
  refine J_if_eq C 8 17 dX9_late_5 rfl rfl (fun c => ?_) (fun c => ?_)
  · have h := h.1 c
    refine J_ldcw C 20 wd548 dX9_late_17 rfl ?_
    exact J_iret C hr hk v0 rfl dX9_late_20 h
  · have h := h.2 c
    refine J_aload_n C 9 dX9_late_8 rfl rfl ?_
    refine J_iload_n C 10 dX9_late_9 rfl rfl ?_
    refine J_iconst C 11 dX9_late_10 rfl ki_0 ?_
    refine J_callBiV (Bs := [bX9 cI cJ cZ a0 r0 v0]) (As := [.int x1, .int 0]) C 14 (c_X9_lateWith l D cI cJ cZ cS a0 r0 v0 x1 0 _ h) wd905 wd902 wd5 wd903 wd904 9 0 rfl rfl rfl hdX9_lateWith ⟨Nat.le_of_ble_eq_true rfl, Nat.le_of_ble_eq_true rfl⟩ ⟨Nat.zero_le _, Nat.zero_le _⟩ rfl (Nat.le_of_ble_eq_true rfl) [0] [] 1 rfl (by decide +kernel) rfl rfl (fun (u : Vl) => [bX9 cI cJ cZ a0 r0 u]) (fun _ => rfl) [0] (by decide +kernel) (fun _ => rfl) rfl (fun (u : Vl) => [bX9 cI cJ cZ a0 r0 u]) (fun _ => rfl) dX9_late_11 rfl (fun r_3 u h => ?_)
    obtain ⟨u_2, hu⟩ : ∃ z, z = u := ⟨_, rfl⟩
    subst hu
    refine J_goto C 20 dX9_late_14 rfl ?_
    exact J_iret C hr hk u_2 rfl dX9_late_20 h
def wp_X9_store (v0 : Vl) (x1 : Int32) (x2 : Int32) (Q : Int32 → Vl → Prop) : Prop := wp_X9_isLight v0 x1 (fun r_1 => ((¬ r_1 = 0 → wp_X9_in (Int32.toInt64 x2) 0 999 (fun r_2 => ((r_2 = 0 → Q (-1000000002) v0) ∧ (¬ r_2 = 0 → wp_X9_lateWith v0 x1 0 (fun r_4 u_3 => wp_X9_lateWith u_3 x1 x2 (fun r_6 u_5 => Q (r_4 - r_6) u_5)))))) ∧ (r_1 = 0 → Q (-1000000001) v0)))
set_option maxHeartbeats 4000000 in
set_option maxRecDepth 100000 in
theorem c_X9_store (l : Launch) (D : GG) (cI cJ cZ cS : ClassId) (a0 : Nat) (r0 : Nat → Nat) (v0 : Vl) (x1 : Int32) (x2 : Int32) (Q : Int32 → Vl → Prop) (h : wp_X9_store v0 x1 x2 Q) : Mi l D (tyL cI cJ cZ cS) yX9_store cX9_store 3 .int 3 83 [.ref a0, .int x1, .int x2] (List.flatten [bX9 cI cJ cZ a0 r0 v0]) (fun (r : Int32) (u : Vl) => Q r u) (fun (u : Vl) => List.flatten [bX9 cI cJ cZ a0 r0 u]) := by
  refine Mi_of RX9 [(0, .ref a0), (1, .int x1), (2, .int x2)] (by decide +kernel) rfl rfl (Nat.le_of_ble_eq_true rfl) ?_
  intro p e s m args below meth c A C hr hk
  refine J_aload_n C 1 dX9_store_0 rfl rfl ?_
  refine J_iload_n C 2 dX9_store_1 rfl rfl ?_
  refine J_callBiV (Bs := [bX9 cI cJ cZ a0 r0 v0]) (As := [.int x1]) C 5 (c_X9_isLight l D cI cJ cZ cS a0 r0 v0 x1 _ h) wd552 wd549 wd5 wd550 wd551 9 0 rfl rfl rfl hdX9_isLight ⟨Nat.le_of_ble_eq_true rfl, Nat.le_of_ble_eq_true rfl⟩ ⟨Nat.zero_le _, Nat.zero_le _⟩ rfl (Nat.le_of_ble_eq_true rfl) [0] [] 1 rfl (by decide +kernel) rfl rfl (fun (u : Unit) => [bX9 cI cJ cZ a0 r0 v0]) (fun _ => rfl) [0] (by decide +kernel) (fun _ => rfl) rfl (fun (u : Unit) => [bX9 cI cJ cZ a0 r0 v0]) (fun _ => rfl) dX9_store_2 rfl (fun r_1 u h => ?_)
  refine J_if_ne C 8 12 dX9_store_5 rfl rfl (fun c => ?_) (fun c => ?_)
  · have h := h.1 c
    refine J_iload_n C 13 dX9_store_12 rfl rfl ?_
    refine J_i2l C 14 dX9_store_13 rfl ?_
    refine J_lconst C 15 dX9_store_14 rfl kl_0 ?_
    refine J_ldc2 C 18 wd754 dX9_store_15 rfl ?_
    refine J_callBiS (Bs := [bX9 cI cJ cZ a0 r0 v0]) (As := [.long (Int32.toInt64 x2), .long 0, .long 999]) C 21 (c_X9_in l D cI cJ cZ cS (Int32.toInt64 x2) 0 999 _ h) wd225 wd223 wd5 wd224 hdX9_in ⟨Nat.le_of_ble_eq_true rfl, Nat.le_of_ble_eq_true rfl⟩ ⟨Nat.zero_le _, Nat.zero_le _⟩ rfl (Nat.le_of_ble_eq_true rfl) [] [0] 1 rfl (by decide +kernel) rfl rfl (fun (u : Unit) => ([] : List va_W)) (fun _ => rfl) [0] (by decide +kernel) (fun _ => rfl) rfl (fun (u : Unit) => [bX9 cI cJ cZ a0 r0 v0]) (fun _ => rfl) dX9_store_18 rfl (fun r_2 u h => ?_)
    refine J_if_eq C 24 40 dX9_store_21 rfl rfl (fun c => ?_) (fun c => ?_)
    · have h := h.1 c
      refine J_ldc C 42 wd219 dX9_store_40 rfl ?_
      exact J_iret C hr hk v0 rfl dX9_store_42 h
    · have h := h.2 c
      refine J_aload_n C 25 dX9_store_24 rfl rfl ?_
      refine J_iload_n C 26 dX9_store_25 rfl rfl ?_
      refine J_iconst C 27 dX9_store_26 rfl ki_0 ?_
      refine J_callBiV (Bs := [bX9 cI cJ cZ a0 r0 v0]) (As := [.int x1, .int 0]) C 30 (c_X9_lateWith l D cI cJ cZ cS a0 r0 v0 x1 0 _ h) wd905 wd902 wd5 wd903 wd904 9 0 rfl rfl rfl hdX9_lateWith ⟨Nat.le_of_ble_eq_true rfl, Nat.le_of_ble_eq_true rfl⟩ ⟨Nat.zero_le _, Nat.zero_le _⟩ rfl (Nat.le_of_ble_eq_true rfl) [0] [] 1 rfl (by decide +kernel) rfl rfl (fun (u : Vl) => [bX9 cI cJ cZ a0 r0 u]) (fun _ => rfl) [0] (by decide +kernel) (fun _ => rfl) rfl (fun (u : Vl) => [bX9 cI cJ cZ a0 r0 u]) (fun _ => rfl) dX9_store_27 rfl (fun r_4 u h => ?_)
      obtain ⟨u_3, hu⟩ : ∃ z, z = u := ⟨_, rfl⟩
      subst hu
      refine J_aload_n C 31 dX9_store_30 rfl rfl ?_
      refine J_iload_n C 32 dX9_store_31 rfl rfl ?_
      refine J_iload_n C 33 dX9_store_32 rfl rfl ?_
      refine J_callBiV (Bs := [bX9 cI cJ cZ a0 r0 u_3]) (As := [.int x1, .int x2]) C 36 (c_X9_lateWith l D cI cJ cZ cS a0 r0 u_3 x1 x2 _ h) wd905 wd902 wd5 wd903 wd904 9 0 rfl rfl rfl hdX9_lateWith ⟨Nat.le_of_ble_eq_true rfl, Nat.le_of_ble_eq_true rfl⟩ ⟨Nat.zero_le _, Nat.zero_le _⟩ rfl (Nat.le_of_ble_eq_true rfl) [0] [] 1 rfl (by decide +kernel) rfl rfl (fun (u : Vl) => [bX9 cI cJ cZ a0 r0 u]) (fun _ => rfl) [0] (by decide +kernel) (fun _ => rfl) rfl (fun (u : Vl) => [bX9 cI cJ cZ a0 r0 u]) (fun _ => rfl) dX9_store_33 rfl (fun r_6 u h => ?_)
      obtain ⟨u_5, hu⟩ : ∃ z, z = u := ⟨_, rfl⟩
      subst hu
      refine J_isub C 37 dX9_store_36 rfl ?_
      refine J_goto C 42 dX9_store_37 rfl ?_
      exact J_iret C hr hk u_5 rfl dX9_store_42 h
  · have h := h.2 c
    refine J_ldcw C 11 wd548 dX9_store_8 rfl ?_
    exact J_iret C hr hk v0 rfl dX9_store_11 h
def wp_X9_comes_c212  (Q : Int32 → Vl → Prop) (B71 : Vl → Int32 → Int32 → Int32 → Prop) : Nat → Vl → Int32 → Int32 → Int32 → Int32 → Prop
  | 0 => fun _ _ _ _ _ => False
  | n + 1 => fun v0 y2 y3 y4 y5 => ((3 ≤ y5 → ∀ x_4 : Int32, x_4 = y4 + 1 → B71 v0 y2 y3 x_4) ∧ (¬ 3 ≤ y5 → vp_in y5 3 ∧ (vp_in y5 3 ∧ (∀ v0s_5 : Vl, v0s_5 = setB v0 54 (Int32.toNatClampNeg y5) (v0.2.2.2 55 (Int32.toNatClampNeg y5)) → ∀ x_6 : Int32, x_6 = y5 + 1 → wp_X9_comes_c212  Q B71 n v0s_5 y2 y3 y4 x_6))))
set_option maxHeartbeats 4000000 in
set_option maxRecDepth 100000 in
theorem wk_X9_comes_c212 {p : Program} {l : Launch} {e : Env} {s : State} {m : MethodId} {args : Array Value} {below : List Frame} {meth : Method} {c : Code} {D : GG} {A : Nat → Prop} {cI cJ cZ cS : ClassId} {a0 : Nat} {r0 : Nat → Nat}  {B71 : Vl → Int32 → Int32 → Int32 → Prop} {Q : Int32 → Vl → Prop} (C : Cx p s m args c D (tyL cI cJ cZ cS) A RX9 cX9_comes 10) (hr : meth.sig.returnType = some .int) (hk : meth.locks = false) (hB71 : ∀ (v0 : Vl) (y2 : Int32) (y3 : Int32) (y4 : Int32), B71 v0 y2 y3 y4 → J p l e (rmk 2 45) s m args below meth c D A 10 0 0 (MQ below (va_Qi (fun (r : Int32) (u : Vl) => Q r u) (fun u t => va_P D.1 vwCl ((fun (u : Vl) => List.flatten [bX9 cI cJ cZ a0 r0 u]) u) t.heap ∧ va_D A ((fun (u : Vl) => List.flatten [bX9 cI cJ cZ a0 r0 u]) u)) A) args s 0 0 A) 71 [(0, .ref a0), (2, .int y2), (3, .int y3), (4, .int y4)] [] (List.flatten [bX9 cI cJ cZ a0 r0 v0])) : ∀ (n : Nat) (v0 : Vl) (y2 : Int32) (y3 : Int32) (y4 : Int32) (y5 : Int32), wp_X9_comes_c212  Q B71 n v0 y2 y3 y4 y5 → J p l e (rmk 2 45) s m args below meth c D A 10 0 0 (MQ below (va_Qi (fun (r : Int32) (u : Vl) => Q r u) (fun u t => va_P D.1 vwCl ((fun (u : Vl) => List.flatten [bX9 cI cJ cZ a0 r0 u]) u) t.heap ∧ va_D A ((fun (u : Vl) => List.flatten [bX9 cI cJ cZ a0 r0 u]) u)) A) args s 0 0 A) 212 [(0, .ref a0), (2, .int y2), (3, .int y3), (4, .int y4), (5, .int y5)] [] (List.flatten [bX9 cI cJ cZ a0 r0 v0]) := by
  intro n
  induction n with
  | zero =>
    intro v0 y2 y3 y4 y5 h
    exact False.elim h
  | succ n ih =>
    intro v0 y2 y3 y4 y5 h
    refine J_iload C 214 dX9_comes_212 rfl rfl ?_
    refine J_iconst C 215 dX9_comes_214 rfl ki_3 ?_
    refine J_icmp_ge C 218 238 dX9_comes_215 rfl rfl (fun c => ?_) (fun c => ?_)
    · have h := h.1 c
      obtain ⟨x_4, ex_4⟩ : ∃ z : Int32, z = y4 + 1 := ⟨_, rfl⟩
      have h := h x_4 ex_4
      refine J_iinc C 241 [(4, .int x_4), (0, .ref a0), (2, .int y2), (3, .int y3), (5, .int y5)] dX9_comes_238 rfl rfl ((kinc_1 _).trans ex_4.symm) (by decide) rfl ?_
      refine J_goto C 71 dX9_comes_241 rfl ?_
      refine J_loc [1, 2, 3, 0] rfl ?_
      exact hB71 v0 y2 y3 x_4 h
    · have h := h.2 c
      refine J_aload_n C 219 dX9_comes_218 rfl rfl ?_
      refine J_get C 222 9 inlX9 0 54 rfl rfl (by decide) wd181 rfl rfl dX9_comes_219 rfl ?_
      refine J_iload C 224 dX9_comes_222 rfl rfl ?_
      refine J_aload_n C 225 dX9_comes_224 rfl rfl ?_
      refine J_get C 228 9 inlX9 0 55 rfl rfl (by decide) wd182 rfl rfl dX9_comes_225 rfl ?_
      refine J_iload C 230 dX9_comes_228 rfl rfl ?_
      obtain ⟨hi, h⟩ := h
      refine J_lald C 231 24 1 rfl rfl hi dX9_comes_230 rfl ?_
      obtain ⟨hi, h⟩ := h
      obtain ⟨v0s_5, ev0s_5⟩ : ∃ z : Vl, z = setB v0 54 (Int32.toNatClampNeg y5) (v0.2.2.2 55 (Int32.toNatClampNeg y5)) := ⟨_, rfl⟩
      have h := h v0s_5 ev0s_5
      refine J_last C 232 23 1 rfl rfl hi (List.flatten [bX9 cI cJ cZ a0 r0 v0s_5]) (by subst ev0s_5; rfl) dX9_comes_231 rfl ?_
      obtain ⟨x_6, ex_6⟩ : ∃ z : Int32, z = y5 + 1 := ⟨_, rfl⟩
      have h := h x_6 ex_6
      refine J_iinc C 235 [(5, .int x_6), (0, .ref a0), (2, .int y2), (3, .int y3), (4, .int y4)] dX9_comes_232 rfl rfl ((kinc_1 _).trans ex_6.symm) (by decide) rfl ?_
      refine J_goto C 212 dX9_comes_235 rfl ?_
      refine J_loc [1, 2, 3, 4, 0] rfl ?_
      exact ih v0s_5 y2 y3 y4 x_6 h
def wp_X9_comes_c103  (Q : Int32 → Vl → Prop) (B71 : Vl → Int32 → Int32 → Int32 → Prop) : Nat → Vl → Int32 → Int32 → Int32 → Int32 → Prop
  | 0 => fun _ _ _ _ _ => False
  | n + 1 => fun v0 y2 y3 y4 y5 => ((3 ≤ y5 → (∃ k : Nat, wp_X9_comes_c212  Q B71 k v0 y2 y3 y4 0)) ∧ (¬ 3 ≤ y5 → vp_in y5 3 ∧ (vp_in (3 * y5) 9 ∧ (∀ x_7 : Int64, x_7 = (((v0.2.2.2 54 (Int32.toNatClampNeg y5)) * (Int32.toInt64 (v0.2.2.1 9 (Int32.toNatClampNeg (3 * y5))))) / 100) → vp_in y5 3 ∧ (vp_in ((3 * y5) + 1) 9 ∧ (∀ x_8 : Int64, x_8 = (((v0.2.2.2 54 (Int32.toNatClampNeg y5)) * (Int32.toInt64 (v0.2.2.1 9 (Int32.toNatClampNeg ((3 * y5) + 1))))) / 100) → vp_in 0 3 ∧ (vp_in 0 3 ∧ (∀ v0s_9 : Vl, v0s_9 = setB v0 55 (Int32.toNatClampNeg 0) ((v0.2.2.2 55 (Int32.toNatClampNeg 0)) + x_7) → vp_in 1 3 ∧ (vp_in 1 3 ∧ (∀ v0s_10 : Vl, v0s_10 = setB v0s_9 55 (Int32.toNatClampNeg 1) ((v0s_9.2.2.2 55 (Int32.toNatClampNeg 1)) + x_8) → vp_in 2 3 ∧ (vp_in y5 3 ∧ (vp_in 2 3 ∧ (∀ v0s_11 : Vl, v0s_11 = setB v0s_10 55 (Int32.toNatClampNeg 2) ((v0s_10.2.2.2 55 (Int32.toNatClampNeg 2)) + (((v0s_10.2.2.2 54 (Int32.toNatClampNeg y5)) - x_7) - x_8)) → ∀ x_12 : Int32, x_12 = y5 + 1 → wp_X9_comes_c103  Q B71 n v0s_11 y2 y3 y4 x_12)))))))))))))
set_option maxHeartbeats 4000000 in
set_option maxRecDepth 100000 in
theorem wk_X9_comes_c103 {p : Program} {l : Launch} {e : Env} {s : State} {m : MethodId} {args : Array Value} {below : List Frame} {meth : Method} {c : Code} {D : GG} {A : Nat → Prop} {cI cJ cZ cS : ClassId} {a0 : Nat} {r0 : Nat → Nat}  {B71 : Vl → Int32 → Int32 → Int32 → Prop} {Q : Int32 → Vl → Prop} (C : Cx p s m args c D (tyL cI cJ cZ cS) A RX9 cX9_comes 10) (hr : meth.sig.returnType = some .int) (hk : meth.locks = false) (hB71 : ∀ (v0 : Vl) (y2 : Int32) (y3 : Int32) (y4 : Int32), B71 v0 y2 y3 y4 → J p l e (rmk 2 45) s m args below meth c D A 10 0 0 (MQ below (va_Qi (fun (r : Int32) (u : Vl) => Q r u) (fun u t => va_P D.1 vwCl ((fun (u : Vl) => List.flatten [bX9 cI cJ cZ a0 r0 u]) u) t.heap ∧ va_D A ((fun (u : Vl) => List.flatten [bX9 cI cJ cZ a0 r0 u]) u)) A) args s 0 0 A) 71 [(0, .ref a0), (2, .int y2), (3, .int y3), (4, .int y4)] [] (List.flatten [bX9 cI cJ cZ a0 r0 v0])) : ∀ (n : Nat) (v0 : Vl) (y2 : Int32) (y3 : Int32) (y4 : Int32) (y5 : Int32), wp_X9_comes_c103  Q B71 n v0 y2 y3 y4 y5 → J p l e (rmk 2 45) s m args below meth c D A 10 0 0 (MQ below (va_Qi (fun (r : Int32) (u : Vl) => Q r u) (fun u t => va_P D.1 vwCl ((fun (u : Vl) => List.flatten [bX9 cI cJ cZ a0 r0 u]) u) t.heap ∧ va_D A ((fun (u : Vl) => List.flatten [bX9 cI cJ cZ a0 r0 u]) u)) A) args s 0 0 A) 103 [(0, .ref a0), (2, .int y2), (3, .int y3), (4, .int y4), (5, .int y5)] [] (List.flatten [bX9 cI cJ cZ a0 r0 v0]) := by
  intro n
  induction n with
  | zero =>
    intro v0 y2 y3 y4 y5 h
    exact False.elim h
  | succ n ih =>
    intro v0 y2 y3 y4 y5 h
    refine J_iload C 105 dX9_comes_103 rfl rfl ?_
    refine J_iconst C 106 dX9_comes_105 rfl ki_3 ?_
    refine J_icmp_ge C 109 209 dX9_comes_106 rfl rfl (fun c => ?_) (fun c => ?_)
    · have h := h.1 c
      refine J_iconst C 210 dX9_comes_209 rfl ki_0 ?_
      refine J_istore C 212 [(5, .int 0), (0, .ref a0), (2, .int y2), (3, .int y3), (4, .int y4)] dX9_comes_210 rfl (by decide) rfl ?_
      refine J_loc [1, 2, 3, 4, 0] rfl ?_
      obtain ⟨n1, h⟩ := h
      exact wk_X9_comes_c212 C hr hk hB71 n1 v0 y2 y3 y4 0 h
    · have h := h.2 c
      refine J_aload_n C 110 dX9_comes_109 rfl rfl ?_
      refine J_get C 113 9 inlX9 0 54 rfl rfl (by decide) wd181 rfl rfl dX9_comes_110 rfl ?_
      refine J_iload C 115 dX9_comes_113 rfl rfl ?_
      obtain ⟨hi, h⟩ := h
      refine J_lald C 116 23 1 rfl rfl hi dX9_comes_115 rfl ?_
      refine J_aload_n C 117 dX9_comes_116 rfl rfl ?_
      refine J_get C 120 9 inlX9 0 9 rfl rfl (by decide) wd159 rfl rfl dX9_comes_117 rfl ?_
      refine J_iconst C 121 dX9_comes_120 rfl ki_3 ?_
      refine J_iload C 123 dX9_comes_121 rfl rfl ?_
      refine J_imul C 124 dX9_comes_123 rfl ?_
      obtain ⟨hi, h⟩ := h
      refine J_iald C 125 3 0 rfl rfl hi dX9_comes_124 rfl ?_
      refine J_i2l C 126 dX9_comes_125 rfl ?_
      refine J_lmul C 127 dX9_comes_126 rfl ?_
      refine J_ldc2 C 130 wd907 dX9_comes_127 rfl ?_
      refine J_ldiv C 131 dX9_comes_130 rfl (by decide) ?_
      obtain ⟨x_7, ex_7⟩ : ∃ z : Int64, z = (((v0.2.2.2 54 (Int32.toNatClampNeg y5)) * (Int32.toInt64 (v0.2.2.1 9 (Int32.toNatClampNeg (3 * y5))))) / 100) := ⟨_, rfl⟩
      have h := h x_7 ex_7
      refine J_nml ex_7 ?_
      refine J_lstore C 133 [(6, .long x_7), (0, .ref a0), (2, .int y2), (3, .int y3), (4, .int y4), (5, .int y5)] dX9_comes_131 rfl (by decide) rfl ?_
      refine J_aload_n C 134 dX9_comes_133 rfl rfl ?_
      refine J_get C 137 9 inlX9 0 54 rfl rfl (by decide) wd181 rfl rfl dX9_comes_134 rfl ?_
      refine J_iload C 139 dX9_comes_137 rfl rfl ?_
      obtain ⟨hi, h⟩ := h
      refine J_lald C 140 23 1 rfl rfl hi dX9_comes_139 rfl ?_
      refine J_aload_n C 141 dX9_comes_140 rfl rfl ?_
      refine J_get C 144 9 inlX9 0 9 rfl rfl (by decide) wd159 rfl rfl dX9_comes_141 rfl ?_
      refine J_iconst C 145 dX9_comes_144 rfl ki_3 ?_
      refine J_iload C 147 dX9_comes_145 rfl rfl ?_
      refine J_imul C 148 dX9_comes_147 rfl ?_
      refine J_iconst C 149 dX9_comes_148 rfl ki_1 ?_
      refine J_iadd C 150 dX9_comes_149 rfl ?_
      obtain ⟨hi, h⟩ := h
      refine J_iald C 151 3 0 rfl rfl hi dX9_comes_150 rfl ?_
      refine J_i2l C 152 dX9_comes_151 rfl ?_
      refine J_lmul C 153 dX9_comes_152 rfl ?_
      refine J_ldc2 C 156 wd907 dX9_comes_153 rfl ?_
      refine J_ldiv C 157 dX9_comes_156 rfl (by decide) ?_
      obtain ⟨x_8, ex_8⟩ : ∃ z : Int64, z = (((v0.2.2.2 54 (Int32.toNatClampNeg y5)) * (Int32.toInt64 (v0.2.2.1 9 (Int32.toNatClampNeg ((3 * y5) + 1))))) / 100) := ⟨_, rfl⟩
      have h := h x_8 ex_8
      refine J_nml ex_8 ?_
      refine J_lstore C 159 [(8, .long x_8), (6, .long x_7), (0, .ref a0), (2, .int y2), (3, .int y3), (4, .int y4), (5, .int y5)] dX9_comes_157 rfl (by decide) rfl ?_
      refine J_aload_n C 160 dX9_comes_159 rfl rfl ?_
      refine J_get C 163 9 inlX9 0 55 rfl rfl (by decide) wd182 rfl rfl dX9_comes_160 rfl ?_
      refine J_iconst C 164 dX9_comes_163 rfl ki_0 ?_
      refine J_dup2 C 165 dX9_comes_164 rfl rfl rfl ?_
      obtain ⟨hi, h⟩ := h
      refine J_lald C 166 24 1 rfl rfl hi dX9_comes_165 rfl ?_
      refine J_lload C 168 dX9_comes_166 rfl rfl ?_
      refine J_ladd C 169 dX9_comes_168 rfl ?_
      obtain ⟨hi, h⟩ := h
      obtain ⟨v0s_9, ev0s_9⟩ : ∃ z : Vl, z = setB v0 55 (Int32.toNatClampNeg 0) ((v0.2.2.2 55 (Int32.toNatClampNeg 0)) + x_7) := ⟨_, rfl⟩
      have h := h v0s_9 ev0s_9
      refine J_last C 170 24 1 rfl rfl hi (List.flatten [bX9 cI cJ cZ a0 r0 v0s_9]) (by subst ev0s_9; rfl) dX9_comes_169 rfl ?_
      refine J_aload_n C 171 dX9_comes_170 rfl rfl ?_
      refine J_get C 174 9 inlX9 0 55 rfl rfl (by decide) wd182 rfl rfl dX9_comes_171 rfl ?_
      refine J_iconst C 175 dX9_comes_174 rfl ki_1 ?_
      refine J_dup2 C 176 dX9_comes_175 rfl rfl rfl ?_
      obtain ⟨hi, h⟩ := h
      refine J_lald C 177 24 1 rfl rfl hi dX9_comes_176 rfl ?_
      refine J_lload C 179 dX9_comes_177 rfl rfl ?_
      refine J_ladd C 180 dX9_comes_179 rfl ?_
      obtain ⟨hi, h⟩ := h
      obtain ⟨v0s_10, ev0s_10⟩ : ∃ z : Vl, z = setB v0s_9 55 (Int32.toNatClampNeg 1) ((v0s_9.2.2.2 55 (Int32.toNatClampNeg 1)) + x_8) := ⟨_, rfl⟩
      have h := h v0s_10 ev0s_10
      refine J_last C 181 24 1 rfl rfl hi (List.flatten [bX9 cI cJ cZ a0 r0 v0s_10]) (by subst ev0s_10; rfl) dX9_comes_180 rfl ?_
      refine J_aload_n C 182 dX9_comes_181 rfl rfl ?_
      refine J_get C 185 9 inlX9 0 55 rfl rfl (by decide) wd182 rfl rfl dX9_comes_182 rfl ?_
      refine J_iconst C 186 dX9_comes_185 rfl ki_2 ?_
      refine J_dup2 C 187 dX9_comes_186 rfl rfl rfl ?_
      obtain ⟨hi, h⟩ := h
      refine J_lald C 188 24 1 rfl rfl hi dX9_comes_187 rfl ?_
      refine J_aload_n C 189 dX9_comes_188 rfl rfl ?_
      refine J_get C 192 9 inlX9 0 54 rfl rfl (by decide) wd181 rfl rfl dX9_comes_189 rfl ?_
      refine J_iload C 194 dX9_comes_192 rfl rfl ?_
      obtain ⟨hi, h⟩ := h
      refine J_lald C 195 23 1 rfl rfl hi dX9_comes_194 rfl ?_
      refine J_lload C 197 dX9_comes_195 rfl rfl ?_
      refine J_lsub C 198 dX9_comes_197 rfl ?_
      refine J_lload C 200 dX9_comes_198 rfl rfl ?_
      refine J_lsub C 201 dX9_comes_200 rfl ?_
      refine J_ladd C 202 dX9_comes_201 rfl ?_
      obtain ⟨hi, h⟩ := h
      obtain ⟨v0s_11, ev0s_11⟩ : ∃ z : Vl, z = setB v0s_10 55 (Int32.toNatClampNeg 2) ((v0s_10.2.2.2 55 (Int32.toNatClampNeg 2)) + (((v0s_10.2.2.2 54 (Int32.toNatClampNeg y5)) - x_7) - x_8)) := ⟨_, rfl⟩
      have h := h v0s_11 ev0s_11
      refine J_last C 203 24 1 rfl rfl hi (List.flatten [bX9 cI cJ cZ a0 r0 v0s_11]) (by subst ev0s_11; rfl) dX9_comes_202 rfl ?_
      obtain ⟨x_12, ex_12⟩ : ∃ z : Int32, z = y5 + 1 := ⟨_, rfl⟩
      have h := h x_12 ex_12
      refine J_iinc C 206 [(5, .int x_12), (8, .long x_8), (6, .long x_7), (0, .ref a0), (2, .int y2), (3, .int y3), (4, .int y4)] dX9_comes_203 rfl rfl ((kinc_1 _).trans ex_12.symm) (by decide) rfl ?_
      refine J_goto C 103 dX9_comes_206 rfl ?_
      refine J_loc [3, 4, 5, 6, 0] rfl ?_
      exact ih v0s_11 y2 y3 y4 x_12 h
def wp_X9_comes_c80  (Q : Int32 → Vl → Prop) (B71 : Vl → Int32 → Int32 → Int32 → Prop) : Nat → Vl → Int32 → Int32 → Int32 → Int32 → Prop
  | 0 => fun _ _ _ _ _ => False
  | n + 1 => fun v0 y2 y3 y4 y5 => ((3 ≤ y5 → (∃ k : Nat, wp_X9_comes_c103  Q B71 k v0 y2 y3 y4 0)) ∧ (¬ 3 ≤ y5 → vp_in y5 3 ∧ (∀ v0s_13 : Vl, v0s_13 = setB v0 55 (Int32.toNatClampNeg y5) 0 → ∀ x_14 : Int32, x_14 = y5 + 1 → wp_X9_comes_c80  Q B71 n v0s_13 y2 y3 y4 x_14)))
set_option maxHeartbeats 4000000 in
set_option maxRecDepth 100000 in
theorem wk_X9_comes_c80 {p : Program} {l : Launch} {e : Env} {s : State} {m : MethodId} {args : Array Value} {below : List Frame} {meth : Method} {c : Code} {D : GG} {A : Nat → Prop} {cI cJ cZ cS : ClassId} {a0 : Nat} {r0 : Nat → Nat}  {B71 : Vl → Int32 → Int32 → Int32 → Prop} {Q : Int32 → Vl → Prop} (C : Cx p s m args c D (tyL cI cJ cZ cS) A RX9 cX9_comes 10) (hr : meth.sig.returnType = some .int) (hk : meth.locks = false) (hB71 : ∀ (v0 : Vl) (y2 : Int32) (y3 : Int32) (y4 : Int32), B71 v0 y2 y3 y4 → J p l e (rmk 2 45) s m args below meth c D A 10 0 0 (MQ below (va_Qi (fun (r : Int32) (u : Vl) => Q r u) (fun u t => va_P D.1 vwCl ((fun (u : Vl) => List.flatten [bX9 cI cJ cZ a0 r0 u]) u) t.heap ∧ va_D A ((fun (u : Vl) => List.flatten [bX9 cI cJ cZ a0 r0 u]) u)) A) args s 0 0 A) 71 [(0, .ref a0), (2, .int y2), (3, .int y3), (4, .int y4)] [] (List.flatten [bX9 cI cJ cZ a0 r0 v0])) : ∀ (n : Nat) (v0 : Vl) (y2 : Int32) (y3 : Int32) (y4 : Int32) (y5 : Int32), wp_X9_comes_c80  Q B71 n v0 y2 y3 y4 y5 → J p l e (rmk 2 45) s m args below meth c D A 10 0 0 (MQ below (va_Qi (fun (r : Int32) (u : Vl) => Q r u) (fun u t => va_P D.1 vwCl ((fun (u : Vl) => List.flatten [bX9 cI cJ cZ a0 r0 u]) u) t.heap ∧ va_D A ((fun (u : Vl) => List.flatten [bX9 cI cJ cZ a0 r0 u]) u)) A) args s 0 0 A) 80 [(0, .ref a0), (2, .int y2), (3, .int y3), (4, .int y4), (5, .int y5)] [] (List.flatten [bX9 cI cJ cZ a0 r0 v0]) := by
  intro n
  induction n with
  | zero =>
    intro v0 y2 y3 y4 y5 h
    exact False.elim h
  | succ n ih =>
    intro v0 y2 y3 y4 y5 h
    refine J_iload C 82 dX9_comes_80 rfl rfl ?_
    refine J_iconst C 83 dX9_comes_82 rfl ki_3 ?_
    refine J_icmp_ge C 86 100 dX9_comes_83 rfl rfl (fun c => ?_) (fun c => ?_)
    · have h := h.1 c
      refine J_iconst C 101 dX9_comes_100 rfl ki_0 ?_
      refine J_istore C 103 [(5, .int 0), (0, .ref a0), (2, .int y2), (3, .int y3), (4, .int y4)] dX9_comes_101 rfl (by decide) rfl ?_
      refine J_loc [1, 2, 3, 4, 0] rfl ?_
      obtain ⟨n1, h⟩ := h
      exact wk_X9_comes_c103 C hr hk hB71 n1 v0 y2 y3 y4 0 h
    · have h := h.2 c
      refine J_aload_n C 87 dX9_comes_86 rfl rfl ?_
      refine J_get C 90 9 inlX9 0 55 rfl rfl (by decide) wd182 rfl rfl dX9_comes_87 rfl ?_
      refine J_iload C 92 dX9_comes_90 rfl rfl ?_
      refine J_lconst C 93 dX9_comes_92 rfl kl_0 ?_
      obtain ⟨hi, h⟩ := h
      obtain ⟨v0s_13, ev0s_13⟩ : ∃ z : Vl, z = setB v0 55 (Int32.toNatClampNeg y5) 0 := ⟨_, rfl⟩
      have h := h v0s_13 ev0s_13
      refine J_last C 94 24 1 rfl rfl hi (List.flatten [bX9 cI cJ cZ a0 r0 v0s_13]) (by subst ev0s_13; rfl) dX9_comes_93 rfl ?_
      obtain ⟨x_14, ex_14⟩ : ∃ z : Int32, z = y5 + 1 := ⟨_, rfl⟩
      have h := h x_14 ex_14
      refine J_iinc C 97 [(5, .int x_14), (0, .ref a0), (2, .int y2), (3, .int y3), (4, .int y4)] dX9_comes_94 rfl rfl ((kinc_1 _).trans ex_14.symm) (by decide) rfl ?_
      refine J_goto C 80 dX9_comes_97 rfl ?_
      refine J_loc [1, 2, 3, 4, 0] rfl ?_
      exact ih v0s_13 y2 y3 y4 x_14 h
def wp_X9_comes_c71  (Q : Int32 → Vl → Prop) : Nat → Vl → Int32 → Int32 → Int32 → Prop
  | 0 => fun _ _ _ _ => False
  | n + 1 => fun v0 y2 y3 y4 => ((y3 ≤ y4 → vp_in y2 3 ∧ (Q (Int64.toInt32 ((v0.2.2.2 54 (Int32.toNatClampNeg y2)) / 1000)) v0)) ∧ (¬ y3 ≤ y4 → (∃ k : Nat, wp_X9_comes_c80  Q (wp_X9_comes_c71  Q n) k v0 y2 y3 y4 0)))
set_option maxHeartbeats 4000000 in
set_option maxRecDepth 100000 in
theorem wk_X9_comes_c71 {p : Program} {l : Launch} {e : Env} {s : State} {m : MethodId} {args : Array Value} {below : List Frame} {meth : Method} {c : Code} {D : GG} {A : Nat → Prop} {cI cJ cZ cS : ClassId} {a0 : Nat} {r0 : Nat → Nat}  {Q : Int32 → Vl → Prop} (C : Cx p s m args c D (tyL cI cJ cZ cS) A RX9 cX9_comes 10) (hr : meth.sig.returnType = some .int) (hk : meth.locks = false) : ∀ (n : Nat) (v0 : Vl) (y2 : Int32) (y3 : Int32) (y4 : Int32), wp_X9_comes_c71  Q n v0 y2 y3 y4 → J p l e (rmk 2 45) s m args below meth c D A 10 0 0 (MQ below (va_Qi (fun (r : Int32) (u : Vl) => Q r u) (fun u t => va_P D.1 vwCl ((fun (u : Vl) => List.flatten [bX9 cI cJ cZ a0 r0 u]) u) t.heap ∧ va_D A ((fun (u : Vl) => List.flatten [bX9 cI cJ cZ a0 r0 u]) u)) A) args s 0 0 A) 71 [(0, .ref a0), (2, .int y2), (3, .int y3), (4, .int y4)] [] (List.flatten [bX9 cI cJ cZ a0 r0 v0]) := by
  intro n
  induction n with
  | zero =>
    intro v0 y2 y3 y4 h
    exact False.elim h
  | succ n ih =>
    intro v0 y2 y3 y4 h
    refine J_iload C 73 dX9_comes_71 rfl rfl ?_
    refine J_iload_n C 74 dX9_comes_73 rfl rfl ?_
    refine J_icmp_ge C 77 244 dX9_comes_74 rfl rfl (fun c => ?_) (fun c => ?_)
    · have h := h.1 c
      refine J_aload_n C 245 dX9_comes_244 rfl rfl ?_
      refine J_get C 248 9 inlX9 0 54 rfl rfl (by decide) wd181 rfl rfl dX9_comes_245 rfl ?_
      refine J_iload_n C 249 dX9_comes_248 rfl rfl ?_
      obtain ⟨hi, h⟩ := h
      refine J_lald C 250 23 1 rfl rfl hi dX9_comes_249 rfl ?_
      refine J_ldc2 C 253 wd908 dX9_comes_250 rfl ?_
      refine J_ldiv C 254 dX9_comes_253 rfl (by decide) ?_
      refine J_l2i C 255 dX9_comes_254 rfl ?_
      exact J_iret C hr hk v0 rfl dX9_comes_255 h
    · have h := h.2 c
      refine J_iconst C 78 dX9_comes_77 rfl ki_0 ?_
      refine J_istore C 80 [(5, .int 0), (0, .ref a0), (2, .int y2), (3, .int y3), (4, .int y4)] dX9_comes_78 rfl (by decide) rfl ?_
      refine J_loc [1, 2, 3, 4, 0] rfl ?_
      obtain ⟨n1, h⟩ := h
      exact wk_X9_comes_c80 C hr hk ih n1 v0 y2 y3 y4 0 h
def wp_X9_comes_c61  (Q : Int32 → Vl → Prop) (B36 : Vl → Int32 → Int32 → Int32 → Int32 → Prop) (v0 : Vl) (y1 : Int32) (y2 : Int32) (y3 : Int32) (y4 : Int32) (s0 : Int64) (s1 : Int32) : Prop := vp_in s1 3 ∧ (∀ v0s_15 : Vl, v0s_15 = setB v0 54 (Int32.toNatClampNeg s1) s0 → ∀ x_16 : Int32, x_16 = y4 + 1 → B36 v0s_15 y1 y2 y3 x_16)
set_option maxHeartbeats 4000000 in
set_option maxRecDepth 100000 in
theorem wk_X9_comes_c61 {p : Program} {l : Launch} {e : Env} {s : State} {m : MethodId} {args : Array Value} {below : List Frame} {meth : Method} {c : Code} {D : GG} {A : Nat → Prop} {cI cJ cZ cS : ClassId} {a0 : Nat} {r0 : Nat → Nat}  {B36 : Vl → Int32 → Int32 → Int32 → Int32 → Prop} {Q : Int32 → Vl → Prop} (C : Cx p s m args c D (tyL cI cJ cZ cS) A RX9 cX9_comes 10) (hr : meth.sig.returnType = some .int) (hk : meth.locks = false) (hB36 : ∀ (v0 : Vl) (y1 : Int32) (y2 : Int32) (y3 : Int32) (y4 : Int32), B36 v0 y1 y2 y3 y4 → J p l e (rmk 2 45) s m args below meth c D A 10 0 0 (MQ below (va_Qi (fun (r : Int32) (u : Vl) => Q r u) (fun u t => va_P D.1 vwCl ((fun (u : Vl) => List.flatten [bX9 cI cJ cZ a0 r0 u]) u) t.heap ∧ va_D A ((fun (u : Vl) => List.flatten [bX9 cI cJ cZ a0 r0 u]) u)) A) args s 0 0 A) 36 [(0, .ref a0), (1, .int y1), (2, .int y2), (3, .int y3), (4, .int y4)] [] (List.flatten [bX9 cI cJ cZ a0 r0 v0])) : ∀ (v0 : Vl) (y1 : Int32) (y2 : Int32) (y3 : Int32) (y4 : Int32) (s0 : Int64) (s1 : Int32), wp_X9_comes_c61  Q B36 v0 y1 y2 y3 y4 s0 s1 → J p l e (rmk 2 45) s m args below meth c D A 10 0 0 (MQ below (va_Qi (fun (r : Int32) (u : Vl) => Q r u) (fun u t => va_P D.1 vwCl ((fun (u : Vl) => List.flatten [bX9 cI cJ cZ a0 r0 u]) u) t.heap ∧ va_D A ((fun (u : Vl) => List.flatten [bX9 cI cJ cZ a0 r0 u]) u)) A) args s 0 0 A) 61 [(0, .ref a0), (1, .int y1), (2, .int y2), (3, .int y3), (4, .int y4)] [.long s0, .int s1, .ref (r0 54)] (List.flatten [bX9 cI cJ cZ a0 r0 v0]) := by
  intro v0 y1 y2 y3 y4 s0 s1 h
  obtain ⟨hi, h⟩ := h
  obtain ⟨v0s_15, ev0s_15⟩ : ∃ z : Vl, z = setB v0 54 (Int32.toNatClampNeg s1) s0 := ⟨_, rfl⟩
  have h := h v0s_15 ev0s_15
  refine J_last C 62 23 1 rfl rfl hi (List.flatten [bX9 cI cJ cZ a0 r0 v0s_15]) (by subst ev0s_15; rfl) dX9_comes_61 rfl ?_
  obtain ⟨x_16, ex_16⟩ : ∃ z : Int32, z = y4 + 1 := ⟨_, rfl⟩
  have h := h x_16 ex_16
  refine J_iinc C 65 [(4, .int x_16), (0, .ref a0), (1, .int y1), (2, .int y2), (3, .int y3)] dX9_comes_62 rfl rfl ((kinc_1 _).trans ex_16.symm) (by decide) rfl ?_
  refine J_goto C 36 dX9_comes_65 rfl ?_
  refine J_loc [1, 2, 3, 4, 0] rfl ?_
  exact hB36 v0s_15 y1 y2 y3 x_16 h
def wp_X9_comes_c36  (Q : Int32 → Vl → Prop) : Nat → Vl → Int32 → Int32 → Int32 → Int32 → Prop
  | 0 => fun _ _ _ _ _ => False
  | n + 1 => fun v0 y1 y2 y3 y4 => ((3 ≤ y4 → (∃ k : Nat, wp_X9_comes_c71  Q k v0 y2 y3 0)) ∧ (¬ 3 ≤ y4 → ((¬ y4 = y1 → wp_X9_comes_c61  Q (wp_X9_comes_c36  Q n) v0 y1 y2 y3 y4 0 y4) ∧ (y4 = y1 → wp_X9_comes_c61  Q (wp_X9_comes_c36  Q n) v0 y1 y2 y3 y4 1000000000 y4))))
set_option maxHeartbeats 4000000 in
set_option maxRecDepth 100000 in
theorem wk_X9_comes_c36 {p : Program} {l : Launch} {e : Env} {s : State} {m : MethodId} {args : Array Value} {below : List Frame} {meth : Method} {c : Code} {D : GG} {A : Nat → Prop} {cI cJ cZ cS : ClassId} {a0 : Nat} {r0 : Nat → Nat}  {Q : Int32 → Vl → Prop} (C : Cx p s m args c D (tyL cI cJ cZ cS) A RX9 cX9_comes 10) (hr : meth.sig.returnType = some .int) (hk : meth.locks = false) : ∀ (n : Nat) (v0 : Vl) (y1 : Int32) (y2 : Int32) (y3 : Int32) (y4 : Int32), wp_X9_comes_c36  Q n v0 y1 y2 y3 y4 → J p l e (rmk 2 45) s m args below meth c D A 10 0 0 (MQ below (va_Qi (fun (r : Int32) (u : Vl) => Q r u) (fun u t => va_P D.1 vwCl ((fun (u : Vl) => List.flatten [bX9 cI cJ cZ a0 r0 u]) u) t.heap ∧ va_D A ((fun (u : Vl) => List.flatten [bX9 cI cJ cZ a0 r0 u]) u)) A) args s 0 0 A) 36 [(0, .ref a0), (1, .int y1), (2, .int y2), (3, .int y3), (4, .int y4)] [] (List.flatten [bX9 cI cJ cZ a0 r0 v0]) := by
  intro n
  induction n with
  | zero =>
    intro v0 y1 y2 y3 y4 h
    exact False.elim h
  | succ n ih =>
    intro v0 y1 y2 y3 y4 h
    refine J_iload C 38 dX9_comes_36 rfl rfl ?_
    refine J_iconst C 39 dX9_comes_38 rfl ki_3 ?_
    refine J_icmp_ge C 42 68 dX9_comes_39 rfl rfl (fun c => ?_) (fun c => ?_)
    · have h := h.1 c
      refine J_iconst C 69 dX9_comes_68 rfl ki_0 ?_
      refine J_istore C 71 [(4, .int 0), (0, .ref a0), (1, .int y1), (2, .int y2), (3, .int y3)] dX9_comes_69 rfl (by decide) rfl ?_
      refine J_loc [1, 3, 4, 0] rfl ?_
      obtain ⟨n1, h⟩ := h
      exact wk_X9_comes_c71 C hr hk n1 v0 y2 y3 0 h
    · have h := h.2 c
      refine J_aload_n C 43 dX9_comes_42 rfl rfl ?_
      refine J_get C 46 9 inlX9 0 54 rfl rfl (by decide) wd181 rfl rfl dX9_comes_43 rfl ?_
      refine J_iload C 48 dX9_comes_46 rfl rfl ?_
      refine J_iload C 50 dX9_comes_48 rfl rfl ?_
      refine J_iload_n C 51 dX9_comes_50 rfl rfl ?_
      refine J_icmp_ne C 54 60 dX9_comes_51 rfl rfl (fun c => ?_) (fun c => ?_)
      · have h := h.1 c
        refine J_lconst C 61 dX9_comes_60 rfl kl_0 ?_
        refine J_loc [0, 1, 2, 3, 4] rfl ?_
        exact wk_X9_comes_c61 C hr hk ih v0 y1 y2 y3 y4 0 y4 h
      · have h := h.2 c
        refine J_ldc2 C 57 wd906 dX9_comes_54 rfl ?_
        refine J_goto C 61 dX9_comes_57 rfl ?_
        refine J_loc [0, 1, 2, 3, 4] rfl ?_
        exact wk_X9_comes_c61 C hr hk ih v0 y1 y2 y3 y4 1000000000 y4 h
def wp_X9_comes (v0 : Vl) (x1 : Int32) (x2 : Int32) (x3 : Int32) (Q : Int32 → Vl → Prop) : Prop := wp_X9_isSky x1 (fun r_1 => ((r_1 = 0 → Q (-1000000001) v0) ∧ (¬ r_1 = 0 → wp_X9_isSky x2 (fun r_2 => ((¬ r_2 = 0 → wp_X9_in (Int32.toInt64 x3) 0 60 (fun r_3 => ((¬ r_3 = 0 → (∃ k : Nat, wp_X9_comes_c36  Q k v0 x1 x2 x3 0)) ∧ (r_3 = 0 → Q (-1000000002) v0)))) ∧ (r_2 = 0 → Q (-1000000001) v0))))))
set_option maxHeartbeats 4000000 in
set_option maxRecDepth 100000 in
theorem c_X9_comes (l : Launch) (D : GG) (cI cJ cZ cS : ClassId) (a0 : Nat) (r0 : Nat → Nat) (v0 : Vl) (x1 : Int32) (x2 : Int32) (x3 : Int32) (Q : Int32 → Vl → Prop) (h : wp_X9_comes v0 x1 x2 x3 Q) : Mi l D (tyL cI cJ cZ cS) yX9_comes cX9_comes 10 .int 2 45 [.ref a0, .int x1, .int x2, .int x3] (List.flatten [bX9 cI cJ cZ a0 r0 v0]) (fun (r : Int32) (u : Vl) => Q r u) (fun (u : Vl) => List.flatten [bX9 cI cJ cZ a0 r0 u]) := by
  refine Mi_of RX9 [(0, .ref a0), (1, .int x1), (2, .int x2), (3, .int x3)] (by decide +kernel) rfl rfl (Nat.le_of_ble_eq_true rfl) ?_
  intro p e s m args below meth c A C hr hk
  refine J_iload_n C 1 dX9_comes_0 rfl rfl ?_
  refine J_callBiS (Bs := [bX9 cI cJ cZ a0 r0 v0]) (As := [.int x1]) C 4 (c_X9_isSky l D cI cJ cZ cS x1 _ h) wd587 wd585 wd5 wd586 hdX9_isSky ⟨Nat.le_of_ble_eq_true rfl, Nat.le_of_ble_eq_true rfl⟩ ⟨Nat.zero_le _, Nat.zero_le _⟩ rfl (Nat.le_of_ble_eq_true rfl) [] [0] 1 rfl (by decide +kernel) rfl rfl (fun (u : Unit) => ([] : List va_W)) (fun _ => rfl) [0] (by decide +kernel) (fun _ => rfl) rfl (fun (u : Unit) => [bX9 cI cJ cZ a0 r0 v0]) (fun _ => rfl) dX9_comes_1 rfl (fun r_1 u h => ?_)
  refine J_if_eq C 7 14 dX9_comes_4 rfl rfl (fun c => ?_) (fun c => ?_)
  · have h := h.1 c
    refine J_ldcw C 17 wd548 dX9_comes_14 rfl ?_
    exact J_iret C hr hk v0 rfl dX9_comes_17 h
  · have h := h.2 c
    refine J_iload_n C 8 dX9_comes_7 rfl rfl ?_
    refine J_callBiS (Bs := [bX9 cI cJ cZ a0 r0 v0]) (As := [.int x2]) C 11 (c_X9_isSky l D cI cJ cZ cS x2 _ h) wd587 wd585 wd5 wd586 hdX9_isSky ⟨Nat.le_of_ble_eq_true rfl, Nat.le_of_ble_eq_true rfl⟩ ⟨Nat.zero_le _, Nat.zero_le _⟩ rfl (Nat.le_of_ble_eq_true rfl) [] [0] 1 rfl (by decide +kernel) rfl rfl (fun (u : Unit) => ([] : List va_W)) (fun _ => rfl) [0] (by decide +kernel) (fun _ => rfl) rfl (fun (u : Unit) => [bX9 cI cJ cZ a0 r0 v0]) (fun _ => rfl) dX9_comes_8 rfl (fun r_2 u h => ?_)
    refine J_if_ne C 14 18 dX9_comes_11 rfl rfl (fun c => ?_) (fun c => ?_)
    · have h := h.1 c
      refine J_iload_n C 19 dX9_comes_18 rfl rfl ?_
      refine J_i2l C 20 dX9_comes_19 rfl ?_
      refine J_lconst C 21 dX9_comes_20 rfl kl_0 ?_
      refine J_ldc2 C 24 wd929 dX9_comes_21 rfl ?_
      refine J_callBiS (Bs := [bX9 cI cJ cZ a0 r0 v0]) (As := [.long (Int32.toInt64 x3), .long 0, .long 60]) C 27 (c_X9_in l D cI cJ cZ cS (Int32.toInt64 x3) 0 60 _ h) wd225 wd223 wd5 wd224 hdX9_in ⟨Nat.le_of_ble_eq_true rfl, Nat.le_of_ble_eq_true rfl⟩ ⟨Nat.zero_le _, Nat.zero_le _⟩ rfl (Nat.le_of_ble_eq_true rfl) [] [0] 1 rfl (by decide +kernel) rfl rfl (fun (u : Unit) => ([] : List va_W)) (fun _ => rfl) [0] (by decide +kernel) (fun _ => rfl) rfl (fun (u : Unit) => [bX9 cI cJ cZ a0 r0 v0]) (fun _ => rfl) dX9_comes_24 rfl (fun r_3 u h => ?_)
      refine J_if_ne C 30 33 dX9_comes_27 rfl rfl (fun c => ?_) (fun c => ?_)
      · have h := h.1 c
        refine J_iconst C 34 dX9_comes_33 rfl ki_0 ?_
        refine J_istore C 36 [(4, .int 0), (0, .ref a0), (1, .int x1), (2, .int x2), (3, .int x3)] dX9_comes_34 rfl (by decide) rfl ?_
        refine J_loc [1, 2, 3, 4, 0] rfl ?_
        obtain ⟨n1, h⟩ := h
        exact wk_X9_comes_c36 C hr hk n1 v0 x1 x2 x3 0 h
      · have h := h.2 c
        refine J_ldc C 32 wd219 dX9_comes_30 rfl ?_
        exact J_iret C hr hk v0 rfl dX9_comes_32 h
    · have h := h.2 c
      refine J_ldcw C 17 wd548 dX9_comes_14 rfl ?_
      exact J_iret C hr hk v0 rfl dX9_comes_17 h
