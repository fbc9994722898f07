def wp_X9_in  (x0 : Int64) (x2 : Int64) (x4 : Int64) (Q : Int32 → Prop) : Prop := ((x0 < x2 → Q 0) ∧ (¬ x0 < x2 → ((x4 < x0 → Q 0) ∧ (¬ x4 < x0 → Q 1))))
set_option maxHeartbeats 4000000 in
set_option maxRecDepth 100000 in
theorem c_X9_in (l : Launch) (D : GG) (cI cJ cZ cS : ClassId)  (x0 : Int64) (x2 : Int64) (x4 : Int64) (Q : Int32 → Prop) (h : wp_X9_in x0 x2 x4 Q) : Mi l D (tyL cI cJ cZ cS) yX9_in cX9_in 6 .boolean 0 0 [.long x0, .long x2, .long x4] (List.flatten ([] : List va_W)) (fun (r : Int32) (u : Unit) => Q r) (fun (u : Unit) => List.flatten ([] : List va_W)) := by
  refine Mi_of RX9 [(0, .long x0), (2, .long x2), (4, .long x4)] (by decide +kernel) rfl rfl (Nat.le_of_ble_eq_true rfl) ?_
  intro p e s m args below meth c A C hr hk
  refine J_lload_n C 1 dX9_in_0 rfl rfl ?_
  refine J_lload_n C 2 dX9_in_1 rfl rfl ?_
  refine J_lc_lt C 3 6 17 dX9_in_2 rfl dX9_in_3 rfl rfl (fun c => ?_) (fun c => ?_)
  · have h := h.1 c
    refine J_iconst C 18 dX9_in_17 rfl ki_0 ?_
    exact J_zret C hr hk rfl () rfl dX9_in_18 h
  · have h := h.2 c
    refine J_lload_n C 7 dX9_in_6 rfl rfl ?_
    refine J_lload C 9 dX9_in_7 rfl rfl ?_
    refine J_lc_gt C 10 13 17 dX9_in_9 rfl dX9_in_10 rfl rfl (fun c => ?_) (fun c => ?_)
    · have h := h.1 c
      refine J_iconst C 18 dX9_in_17 rfl ki_0 ?_
      exact J_zret C hr hk rfl () rfl dX9_in_18 h
    · have h := h.2 c
      refine J_iconst C 14 dX9_in_13 rfl ki_1 ?_
      refine J_goto C 18 dX9_in_14 rfl ?_
      exact J_zret C hr hk rfl () rfl dX9_in_18 h
def wp_X9_has  (x0 : Int32) (x1 : Int32) (Q : Int32 → Prop) : Prop := ((¬ ((x0 >>> (x1 &&& 31)) &&& 1) = 1 → Q 0) ∧ (((x0 >>> (x1 &&& 31)) &&& 1) = 1 → Q 1))
set_option maxHeartbeats 4000000 in
set_option maxRecDepth 100000 in
theorem c_X9_has (l : Launch) (D : GG) (cI cJ cZ cS : ClassId)  (x0 : Int32) (x1 : Int32) (Q : Int32 → Prop) (h : wp_X9_has x0 x1 Q) : Mi l D (tyL cI cJ cZ cS) yX9_has cX9_has 2 .boolean 0 0 [.int x0, .int x1] (List.flatten ([] : List va_W)) (fun (r : Int32) (u : Unit) => Q r) (fun (u : Unit) => List.flatten ([] : List va_W)) := by
  refine Mi_of RX9 [(0, .int x0), (1, .int x1)] (by decide +kernel) rfl rfl (Nat.le_of_ble_eq_true rfl) ?_
  intro p e s m args below meth c A C hr hk
  refine J_iload_n C 1 dX9_has_0 rfl rfl ?_
  refine J_iload_n C 2 dX9_has_1 rfl rfl ?_
  refine J_ishr C 3 dX9_has_2 rfl ?_
  refine J_iconst C 4 dX9_has_3 rfl ki_1 ?_
  refine J_iand C 5 dX9_has_4 rfl ?_
  refine J_iconst C 6 dX9_has_5 rfl ki_1 ?_
  refine J_icmp_ne C 9 13 dX9_has_6 rfl rfl (fun c => ?_) (fun c => ?_)
  · have h := h.1 c
    refine J_iconst C 14 dX9_has_13 rfl ki_0 ?_
    exact J_zret C hr hk rfl () rfl dX9_has_14 h
  · have h := h.2 c
    refine J_iconst C 10 dX9_has_9 rfl ki_1 ?_
    refine J_goto C 14 dX9_has_10 rfl ?_
    exact J_zret C hr hk rfl () rfl dX9_has_14 h
def wp_X9_bits_c4  (Q : Int32 → Prop) : Nat → Int32 → Int32 → Int32 → Prop
  | 0 => fun _ _ _ => False
  | n + 1 => fun y0 y1 y2 => ((9 ≤ y2 → Q y1) ∧ (¬ 9 ≤ y2 → ∀ x_1 : Int32, x_1 = (y1 + ((y0 >>> (y2 &&& 31)) &&& 1)) → ∀ x_2 : Int32, x_2 = y2 + 1 → wp_X9_bits_c4  Q n y0 x_1 x_2))
set_option maxHeartbeats 4000000 in
set_option maxRecDepth 100000 in
theorem wk_X9_bits_c4 {p : Program} {l : Launch} {e : Env} {s : State} {m : MethodId} {args : Array Value} {below : List Frame} {meth : Method} {c : Code} {D : GG} {A : Nat → Prop} {cI cJ cZ cS : ClassId}   {Q : Int32 → Prop} (C : Cx p s m args c D (tyL cI cJ cZ cS) A RX9 cX9_bits 3) (hr : meth.sig.returnType = some .int) (hk : meth.locks = false) : ∀ (n : Nat) (y0 : Int32) (y1 : Int32) (y2 : Int32), wp_X9_bits_c4  Q n y0 y1 y2 → J p l e (rmk 0 0) s m args below meth c D A 3 0 0 (MQ below (va_Qi (fun (r : Int32) (u : Unit) => Q r) (fun u t => va_P D.1 vwCl ((fun (u : Unit) => List.flatten ([] : List va_W)) u) t.heap ∧ va_D A ((fun (u : Unit) => List.flatten ([] : List va_W)) u)) A) args s 0 0 A) 4 [(0, .int y0), (1, .int y1), (2, .int y2)] [] (List.flatten ([] : List va_W)) := by
  intro n
  induction n with
  | zero =>
    intro y0 y1 y2 h
    exact False.elim h
  | succ n ih =>
    intro y0 y1 y2 h
    refine J_iload_n C 5 dX9_bits_4 rfl rfl ?_
    refine J_bipush C 7 dX9_bits_5 rfl kb_9 ?_
    refine J_icmp_ge C 10 24 dX9_bits_7 rfl rfl (fun c => ?_) (fun c => ?_)
    · have h := h.1 c
      refine J_iload_n C 25 dX9_bits_24 rfl rfl ?_
      exact J_iret C hr hk () rfl dX9_bits_25 h
    · have h := h.2 c
      refine J_iload_n C 11 dX9_bits_10 rfl rfl ?_
      refine J_iload_n C 12 dX9_bits_11 rfl rfl ?_
      refine J_iload_n C 13 dX9_bits_12 rfl rfl ?_
      refine J_ishr C 14 dX9_bits_13 rfl ?_
      refine J_iconst C 15 dX9_bits_14 rfl ki_1 ?_
      refine J_iand C 16 dX9_bits_15 rfl ?_
      refine J_iadd C 17 dX9_bits_16 rfl ?_
      obtain ⟨x_1, ex_1⟩ : ∃ z : Int32, z = (y1 + ((y0 >>> (y2 &&& 31)) &&& 1)) := ⟨_, rfl⟩
      have h := h x_1 ex_1
      refine J_nmi ex_1 ?_
      refine J_istore_n C 18 [(1, .int x_1), (0, .int y0), (2, .int y2)] dX9_bits_17 rfl (by decide) rfl ?_
      obtain ⟨x_2, ex_2⟩ : ∃ z : Int32, z = y2 + 1 := ⟨_, rfl⟩
      have h := h x_2 ex_2
      refine J_iinc C 21 [(2, .int x_2), (1, .int x_1), (0, .int y0)] dX9_bits_18 rfl rfl ((kinc_1 _).trans ex_2.symm) (by decide) rfl ?_
      refine J_goto C 4 dX9_bits_21 rfl ?_
      refine J_loc [2, 1, 0] rfl ?_
      exact ih y0 x_1 x_2 h
def wp_X9_bits  (x0 : Int32) (Q : Int32 → Prop) : Prop := (∃ k : Nat, wp_X9_bits_c4  Q k x0 0 0)
set_option maxHeartbeats 4000000 in
set_option maxRecDepth 100000 in
theorem c_X9_bits (l : Launch) (D : GG) (cI cJ cZ cS : ClassId)  (x0 : Int32) (Q : Int32 → Prop) (h : wp_X9_bits x0 Q) : Mi l D (tyL cI cJ cZ cS) yX9_bits cX9_bits 3 .int 0 0 [.int x0] (List.flatten ([] : List va_W)) (fun (r : Int32) (u : Unit) => Q r) (fun (u : Unit) => List.flatten ([] : List va_W)) := by
  refine Mi_of RX9 [(0, .int x0)] (by decide +kernel) rfl rfl (Nat.le_of_ble_eq_true rfl) ?_
  intro p e s m args below meth c A C hr hk
  refine J_iconst C 1 dX9_bits_0 rfl ki_0 ?_
  refine J_istore_n C 2 [(1, .int 0), (0, .int x0)] dX9_bits_1 rfl (by decide) rfl ?_
  refine J_iconst C 3 dX9_bits_2 rfl ki_0 ?_
  refine J_istore_n C 4 [(2, .int 0), (1, .int 0), (0, .int x0)] dX9_bits_3 rfl (by decide) rfl ?_
  refine J_loc [2, 1, 0] rfl ?_
  obtain ⟨n1, h⟩ := h
  exact wk_X9_bits_c4 C hr hk n1 x0 0 0 h
def wp_X9_isLight (v0 : Vl) (x1 : Int32) (Q : Int32 → Prop) : Prop := wp_X9_in (Int32.toInt64 x1) 0 (Int32.toInt64 ((v0.1 0) - 1)) (fun r_1 => narrow .boolean (.int r_1) = .int r_1 ∧ Q r_1)
set_option maxHeartbeats 4000000 in
set_option maxRecDepth 100000 in
theorem c_X9_isLight (l : Launch) (D : GG) (cI cJ cZ cS : ClassId) (a0 : Nat) (r0 : Nat → Nat) (v0 : Vl) (x1 : Int32) (Q : Int32 → Prop) (h : wp_X9_isLight v0 x1 Q) : Mi l D (tyL cI cJ cZ cS) yX9_isLight cX9_isLight 2 .boolean 1 25 [.ref a0, .int x1] (List.flatten [bX9 cI cJ cZ a0 r0 v0]) (fun (r : Int32) (u : Unit) => Q r) (fun (u : Unit) => List.flatten [bX9 cI cJ cZ a0 r0 v0]) := by
  refine Mi_of RX9 [(0, .ref a0), (1, .int x1)] (by decide +kernel) rfl rfl (Nat.le_of_ble_eq_true rfl) ?_
  intro p e s m args below meth c A C hr hk
  refine J_iload_n C 1 dX9_isLight_0 rfl rfl ?_
  refine J_i2l C 2 dX9_isLight_1 rfl ?_
  refine J_lconst C 3 dX9_isLight_2 rfl kl_0 ?_
  refine J_aload_n C 4 dX9_isLight_3 rfl rfl ?_
  refine J_get C 7 9 inlX9 0 0 rfl rfl (by decide) wd191 rfl rfl dX9_isLight_4 rfl ?_
  refine J_iconst C 8 dX9_isLight_7 rfl ki_1 ?_
  refine J_isub C 9 dX9_isLight_8 rfl ?_
  refine J_i2l C 10 dX9_isLight_9 rfl ?_
  refine J_callBiS (Bs := [bX9 cI cJ cZ a0 r0 v0]) (As := [.long (Int32.toInt64 x1), .long 0, .long (Int32.toInt64 ((v0.1 0) - 1))]) C 13 (c_X9_in l D cI cJ cZ cS (Int32.toInt64 x1) 0 (Int32.toInt64 ((v0.1 0) - 1)) _ h) wd225 wd223 wd5 wd224 hdX9_in ⟨Nat.le_of_ble_eq_true rfl, Nat.le_of_ble_eq_true rfl⟩ ⟨Nat.zero_le _, Nat.zero_le _⟩ rfl (Nat.le_of_ble_eq_true rfl) [] [0] 1 rfl (by decide +kernel) rfl rfl (fun (u : Unit) => ([] : List va_W)) (fun _ => rfl) [0] (by decide +kernel) (fun _ => rfl) rfl (fun (u : Unit) => [bX9 cI cJ cZ a0 r0 v0]) (fun _ => rfl) dX9_isLight_10 rfl (fun r_1 u h => ?_)
  obtain ⟨hz, h⟩ := h
  exact J_zret C hr hk hz () rfl dX9_isLight_13 h
def wp_X9_isSky  (x0 : Int32) (Q : Int32 → Prop) : Prop := wp_X9_in (Int32.toInt64 x0) 0 2 (fun r_1 => narrow .boolean (.int r_1) = .int r_1 ∧ Q r_1)
set_option maxHeartbeats 4000000 in
set_option maxRecDepth 100000 in
theorem c_X9_isSky (l : Launch) (D : GG) (cI cJ cZ cS : ClassId)  (x0 : Int32) (Q : Int32 → Prop) (h : wp_X9_isSky x0 Q) : Mi l D (tyL cI cJ cZ cS) yX9_isSky cX9_isSky 1 .boolean 1 25 [.int x0] (List.flatten ([] : List va_W)) (fun (r : Int32) (u : Unit) => Q r) (fun (u : Unit) => List.flatten ([] : List va_W)) := by
  refine Mi_of RX9 [(0, .int x0)] (by decide +kernel) rfl rfl (Nat.le_of_ble_eq_true rfl) ?_
  intro p e s m args below meth c A C hr hk
  refine J_iload_n C 1 dX9_isSky_0 rfl rfl ?_
  refine J_i2l C 2 dX9_isSky_1 rfl ?_
  refine J_lconst C 3 dX9_isSky_2 rfl kl_0 ?_
  refine J_ldc2 C 6 wd588 dX9_isSky_3 rfl ?_
  refine J_callBiS (Bs := ([] : List va_W)) (As := [.long (Int32.toInt64 x0), .long 0, .long 2]) C 9 (c_X9_in l D cI cJ cZ cS (Int32.toInt64 x0) 0 2 _ h) wd225 wd223 wd5 wd224 hdX9_in ⟨Nat.le_of_ble_eq_true rfl, Nat.le_of_ble_eq_true rfl⟩ ⟨Nat.zero_le _, Nat.zero_le _⟩ rfl (Nat.le_of_ble_eq_true rfl) [] [] 0 rfl (by decide +kernel) rfl rfl (fun (u : Unit) => ([] : List va_W)) (fun _ => rfl) [] (by decide +kernel) (fun _ => rfl) rfl (fun (u : Unit) => ([] : List va_W)) (fun _ => rfl) dX9_isSky_6 rfl (fun r_1 u h => ?_)
  obtain ⟨hz, h⟩ := h
  exact J_zret C hr hk hz () rfl dX9_isSky_9 h
def wp_X9_anew_c35  (Q : Vl → Prop) (B2 : Vl → Int32 → Prop) (v0 : Vl) (y1 : Int32) (s0 : Int32) (s1 : Int32) : Prop := vp_in s1 9 ∧ (∀ v0s_13 : Vl, v0s_13 = setA v0 13 (Int32.toNatClampNeg s1) s0 → vp_in y1 9 ∧ (∀ v0s_14 : Vl, v0s_14 = setA v0s_13 14 (Int32.toNatClampNeg y1) (vp_nar .boolean 0) → vp_in y1 9 ∧ (∀ v0s_15 : Vl, v0s_15 = setA v0s_14 15 (Int32.toNatClampNeg y1) 0 → vp_in y1 9 ∧ (∀ v0s_16 : Vl, v0s_16 = setA v0s_15 16 (Int32.toNatClampNeg y1) 0 → ∀ x_17 : Int32, x_17 = y1 + 1 → B2 v0s_16 x_17))))
set_option maxHeartbeats 4000000 in
set_option maxRecDepth 100000 in
theorem wk_X9_anew_c35 {p : Program} {l : Launch} {e : Env} {s : State} {m : MethodId} {args : Array Value} {below : List Frame} {meth : Method} {c : Code} {D : GG} {A : Nat → Prop} {cI cJ cZ cS : ClassId} {a0 : Nat} {r0 : Nat → Nat}  {B2 : Vl → Int32 → Prop} {Q : Vl → Prop} (C : Cx p s m args c D (tyL cI cJ cZ cS) A RX9 cX9_anew 2) (hr : meth.sig.returnType = none) (hk : meth.locks = false) (hB2 : ∀ (v0 : Vl) (y1 : Int32), B2 v0 y1 → J p l e (rmk 0 0) s m args below meth c D A 2 0 0 (MQ below (va_Qv (fun (u : Vl) => Q u) (fun u t => va_P D.1 vwCl ((fun (u : Vl) => List.flatten [bX9 cI cJ cZ a0 r0 u]) u) t.heap ∧ va_D A ((fun (u : Vl) => List.flatten [bX9 cI cJ cZ a0 r0 u]) u)) A) args s 0 0 A) 2 [(0, .ref a0), (1, .int y1)] [] (List.flatten [bX9 cI cJ cZ a0 r0 v0])) : ∀ (v0 : Vl) (y1 : Int32) (s0 : Int32) (s1 : Int32), wp_X9_anew_c35  Q B2 v0 y1 s0 s1 → J p l e (rmk 0 0) s m args below meth c D A 2 0 0 (MQ below (va_Qv (fun (u : Vl) => Q u) (fun u t => va_P D.1 vwCl ((fun (u : Vl) => List.flatten [bX9 cI cJ cZ a0 r0 u]) u) t.heap ∧ va_D A ((fun (u : Vl) => List.flatten [bX9 cI cJ cZ a0 r0 u]) u)) A) args s 0 0 A) 35 [(0, .ref a0), (1, .int y1)] [.int s0, .int s1, .ref (r0 13)] (List.flatten [bX9 cI cJ cZ a0 r0 v0]) := by
  intro v0 y1 s0 s1 h
  obtain ⟨hi, h⟩ := h
  obtain ⟨v0s_13, ev0s_13⟩ : ∃ z : Vl, z = setA v0 13 (Int32.toNatClampNeg s1) s0 := ⟨_, rfl⟩
  have h := h v0s_13 ev0s_13
  refine J_iast C 36 6 0 rfl rfl hi (List.flatten [bX9 cI cJ cZ a0 r0 v0s_13]) (by subst ev0s_13; rfl) dX9_anew_35 rfl ?_
  refine J_aload_n C 37 dX9_anew_36 rfl rfl ?_
  refine J_get C 40 9 inlX9 0 14 rfl rfl (by decide) wd163 rfl rfl dX9_anew_37 rfl ?_
  refine J_iload_n C 41 dX9_anew_40 rfl rfl ?_
  refine J_iconst C 42 dX9_anew_41 rfl ki_0 ?_
  obtain ⟨hi, h⟩ := h
  obtain ⟨v0s_14, ev0s_14⟩ : ∃ z : Vl, z = setA v0s_13 14 (Int32.toNatClampNeg y1) (vp_nar .boolean 0) := ⟨_, rfl⟩
  have h := h v0s_14 ev0s_14
  refine J_zast C 43 7 2 rfl rfl hi (List.flatten [bX9 cI cJ cZ a0 r0 v0s_14]) (by subst ev0s_14; rfl) dX9_anew_42 rfl ?_
  refine J_aload_n C 44 dX9_anew_43 rfl rfl ?_
  refine J_get C 47 9 inlX9 0 15 rfl rfl (by decide) wd164 rfl rfl dX9_anew_44 rfl ?_
  refine J_iload_n C 48 dX9_anew_47 rfl rfl ?_
  refine J_iconst C 49 dX9_anew_48 rfl ki_0 ?_
  obtain ⟨hi, h⟩ := h
  obtain ⟨v0s_15, ev0s_15⟩ : ∃ z : Vl, z = setA v0s_14 15 (Int32.toNatClampNeg y1) 0 := ⟨_, rfl⟩
  have h := h v0s_15 ev0s_15
  refine J_iast C 50 8 0 rfl rfl hi (List.flatten [bX9 cI cJ cZ a0 r0 v0s_15]) (by subst ev0s_15; rfl) dX9_anew_49 rfl ?_
  refine J_aload_n C 51 dX9_anew_50 rfl rfl ?_
  refine J_get C 54 9 inlX9 0 16 rfl rfl (by decide) wd165 rfl rfl dX9_anew_51 rfl ?_
  refine J_iload_n C 55 dX9_anew_54 rfl rfl ?_
  refine J_iconst C 56 dX9_anew_55 rfl ki_0 ?_
  obtain ⟨hi, h⟩ := h
  obtain ⟨v0s_16, ev0s_16⟩ : ∃ z : Vl, z = setA v0s_15 16 (Int32.toNatClampNeg y1) 0 := ⟨_, rfl⟩
  have h := h v0s_16 ev0s_16
  refine J_iast C 57 9 0 rfl rfl hi (List.flatten [bX9 cI cJ cZ a0 r0 v0s_16]) (by subst ev0s_16; rfl) dX9_anew_56 rfl ?_
  obtain ⟨x_17, ex_17⟩ : ∃ z : Int32, z = y1 + 1 := ⟨_, rfl⟩
  have h := h x_17 ex_17
  refine J_iinc C 60 [(1, .int x_17), (0, .ref a0)] dX9_anew_57 rfl rfl ((kinc_1 _).trans ex_17.symm) (by decide) rfl ?_
  refine J_goto C 2 dX9_anew_60 rfl ?_
  refine J_loc [1, 0] rfl ?_
  exact hB2 v0s_16 x_17 h
def wp_X9_anew_c2  (Q : Vl → Prop) : Nat → Vl → Int32 → Prop
  | 0 => fun _ _ => False
  | n + 1 => fun v0 y1 => ((9 ≤ y1 → ∀ v0s_1 : Vl, v0s_1 = setJ v0 17 (Int32.toInt64 (v0.1 4)) → ∀ v0s_2 : Vl, v0s_2 = setI v0s_1 18 0 → ∀ v0s_3 : Vl, v0s_3 = setJ v0s_2 19 0 → ∀ v0s_4 : Vl, v0s_4 = setJ v0s_3 20 0 → ∀ v0s_5 : Vl, v0s_5 = setI v0s_4 21 0 → ∀ v0s_6 : Vl, v0s_6 = setI v0s_5 22 0 → ∀ v0s_7 : Vl, v0s_7 = setI v0s_6 23 (-1) → ∀ v0s_8 : Vl, v0s_8 = setI v0s_7 24 0 → ∀ v0s_9 : Vl, v0s_9 = setJ v0s_8 25 0 → ∀ v0s_10 : Vl, v0s_10 = setJ v0s_9 26 0 → ∀ v0s_11 : Vl, v0s_11 = setI v0s_10 27 0 → ∀ v0s_12 : Vl, v0s_12 = setI v0s_11 28 0 → Q v0s_12) ∧ (¬ 9 ≤ y1 → (((v0.1 0) ≤ y1 → wp_X9_anew_c35  Q (wp_X9_anew_c2  Q n) v0 y1 0 y1) ∧ (¬ (v0.1 0) ≤ y1 → vp_in ((5 * y1) + 3) 45 ∧ (wp_X9_anew_c35  Q (wp_X9_anew_c2  Q n) v0 y1 (v0.2.2.1 1 (Int32.toNatClampNeg ((5 * y1) + 3))) y1)))))
set_option maxHeartbeats 4000000 in
set_option maxRecDepth 100000 in
theorem wk_X9_anew_c2 {p : Program} {l : Launch} {e : Env} {s : State} {m : MethodId} {args : Array Value} {below : List Frame} {meth : Method} {c : Code} {D : GG} {A : Nat → Prop} {cI cJ cZ cS : ClassId} {a0 : Nat} {r0 : Nat → Nat}  {Q : Vl → Prop} (C : Cx p s m args c D (tyL cI cJ cZ cS) A RX9 cX9_anew 2) (hr : meth.sig.returnType = none) (hk : meth.locks = false) : ∀ (n : Nat) (v0 : Vl) (y1 : Int32), wp_X9_anew_c2  Q n v0 y1 → J p l e (rmk 0 0) s m args below meth c D A 2 0 0 (MQ below (va_Qv (fun (u : Vl) => Q u) (fun u t => va_P D.1 vwCl ((fun (u : Vl) => List.flatten [bX9 cI cJ cZ a0 r0 u]) u) t.heap ∧ va_D A ((fun (u : Vl) => List.flatten [bX9 cI cJ cZ a0 r0 u]) u)) A) args s 0 0 A) 2 [(0, .ref a0), (1, .int y1)] [] (List.flatten [bX9 cI cJ cZ a0 r0 v0]) := by
  intro n
  induction n with
  | zero =>
    intro v0 y1 h
    exact False.elim h
  | succ n ih =>
    intro v0 y1 h
    refine J_iload_n C 3 dX9_anew_2 rfl rfl ?_
    refine J_bipush C 5 dX9_anew_3 rfl kb_9 ?_
    refine J_icmp_ge C 8 63 dX9_anew_5 rfl rfl (fun c => ?_) (fun c => ?_)
    · have h := h.1 c
      refine J_aload_n C 64 dX9_anew_63 rfl rfl ?_
      refine J_aload_n C 65 dX9_anew_64 rfl rfl ?_
      refine J_get C 68 9 inlX9 0 4 rfl rfl (by decide) wd155 rfl rfl dX9_anew_65 rfl ?_
      refine J_i2l C 69 dX9_anew_68 rfl ?_
      obtain ⟨v0s_1, ev0s_1⟩ : ∃ z : Vl, z = setJ v0 17 (Int32.toInt64 (v0.1 4)) := ⟨_, rfl⟩
      have h := h v0s_1 ev0s_1
      refine J_put C 72 9 inlX9 tyX9 tyX9_ok nmX9 0 17 rfl rfl (by decide) wd192 rfl rfl rfl rfl rfl (List.flatten [bX9 cI cJ cZ a0 r0 v0s_1]) (by subst ev0s_1; rfl) dX9_anew_69 rfl ?_
      refine J_aload_n C 73 dX9_anew_72 rfl rfl ?_
      refine J_iconst C 74 dX9_anew_73 rfl ki_0 ?_
      obtain ⟨v0s_2, ev0s_2⟩ : ∃ z : Vl, z = setI v0s_1 18 0 := ⟨_, rfl⟩
      have h := h v0s_2 ev0s_2
      refine J_put C 77 9 inlX9 tyX9 tyX9_ok nmX9 0 18 rfl rfl (by decide) wd193 rfl rfl rfl rfl rfl (List.flatten [bX9 cI cJ cZ a0 r0 v0s_2]) (by subst ev0s_2; rfl) dX9_anew_74 rfl ?_
      refine J_aload_n C 78 dX9_anew_77 rfl rfl ?_
      refine J_lconst C 79 dX9_anew_78 rfl kl_0 ?_
      obtain ⟨v0s_3, ev0s_3⟩ : ∃ z : Vl, z = setJ v0s_2 19 0 := ⟨_, rfl⟩
      have h := h v0s_3 ev0s_3
      refine J_put C 82 9 inlX9 tyX9 tyX9_ok nmX9 0 19 rfl rfl (by decide) wd194 rfl rfl rfl rfl rfl (List.flatten [bX9 cI cJ cZ a0 r0 v0s_3]) (by subst ev0s_3; rfl) dX9_anew_79 rfl ?_
      refine J_aload_n C 83 dX9_anew_82 rfl rfl ?_
      refine J_lconst C 84 dX9_anew_83 rfl kl_0 ?_
      obtain ⟨v0s_4, ev0s_4⟩ : ∃ z : Vl, z = setJ v0s_3 20 0 := ⟨_, rfl⟩
      have h := h v0s_4 ev0s_4
      refine J_put C 87 9 inlX9 tyX9 tyX9_ok nmX9 0 20 rfl rfl (by decide) wd195 rfl rfl rfl rfl rfl (List.flatten [bX9 cI cJ cZ a0 r0 v0s_4]) (by subst ev0s_4; rfl) dX9_anew_84 rfl ?_
      refine J_aload_n C 88 dX9_anew_87 rfl rfl ?_
      refine J_iconst C 89 dX9_anew_88 rfl ki_0 ?_
      obtain ⟨v0s_5, ev0s_5⟩ : ∃ z : Vl, z = setI v0s_4 21 0 := ⟨_, rfl⟩
      have h := h v0s_5 ev0s_5
      refine J_put C 92 9 inlX9 tyX9 tyX9_ok nmX9 0 21 rfl rfl (by decide) wd196 rfl rfl rfl rfl rfl (List.flatten [bX9 cI cJ cZ a0 r0 v0s_5]) (by subst ev0s_5; rfl) dX9_anew_89 rfl ?_
      refine J_aload_n C 93 dX9_anew_92 rfl rfl ?_
      refine J_iconst C 94 dX9_anew_93 rfl ki_0 ?_
      obtain ⟨v0s_6, ev0s_6⟩ : ∃ z : Vl, z = setI v0s_5 22 0 := ⟨_, rfl⟩
      have h := h v0s_6 ev0s_6
      refine J_put C 97 9 inlX9 tyX9 tyX9_ok nmX9 0 22 rfl rfl (by decide) wd197 rfl rfl rfl rfl rfl (List.flatten [bX9 cI cJ cZ a0 r0 v0s_6]) (by subst ev0s_6; rfl) dX9_anew_94 rfl ?_
      refine J_aload_n C 98 dX9_anew_97 rfl rfl ?_
      refine J_iconst C 99 dX9_anew_98 rfl ki_m1 ?_
      obtain ⟨v0s_7, ev0s_7⟩ : ∃ z : Vl, z = setI v0s_6 23 (-1) := ⟨_, rfl⟩
      have h := h v0s_7 ev0s_7
      refine J_put C 102 9 inlX9 tyX9 tyX9_ok nmX9 0 23 rfl rfl (by decide) wd166 rfl rfl rfl rfl rfl (List.flatten [bX9 cI cJ cZ a0 r0 v0s_7]) (by subst ev0s_7; rfl) dX9_anew_99 rfl ?_
      refine J_aload_n C 103 dX9_anew_102 rfl rfl ?_
      refine J_iconst C 104 dX9_anew_103 rfl ki_0 ?_
      obtain ⟨v0s_8, ev0s_8⟩ : ∃ z : Vl, z = setI v0s_7 24 0 := ⟨_, rfl⟩
      have h := h v0s_8 ev0s_8
      refine J_put C 107 9 inlX9 tyX9 tyX9_ok nmX9 0 24 rfl rfl (by decide) wd198 rfl rfl rfl rfl rfl (List.flatten [bX9 cI cJ cZ a0 r0 v0s_8]) (by subst ev0s_8; rfl) dX9_anew_104 rfl ?_
      refine J_aload_n C 108 dX9_anew_107 rfl rfl ?_
      refine J_lconst C 109 dX9_anew_108 rfl kl_0 ?_
      obtain ⟨v0s_9, ev0s_9⟩ : ∃ z : Vl, z = setJ v0s_8 25 0 := ⟨_, rfl⟩
      have h := h v0s_9 ev0s_9
      refine J_put C 112 9 inlX9 tyX9 tyX9_ok nmX9 0 25 rfl rfl (by decide) wd199 rfl rfl rfl rfl rfl (List.flatten [bX9 cI cJ cZ a0 r0 v0s_9]) (by subst ev0s_9; rfl) dX9_anew_109 rfl ?_
      refine J_aload_n C 113 dX9_anew_112 rfl rfl ?_
      refine J_lconst C 114 dX9_anew_113 rfl kl_0 ?_
      obtain ⟨v0s_10, ev0s_10⟩ : ∃ z : Vl, z = setJ v0s_9 26 0 := ⟨_, rfl⟩
      have h := h v0s_10 ev0s_10
      refine J_put C 117 9 inlX9 tyX9 tyX9_ok nmX9 0 26 rfl rfl (by decide) wd200 rfl rfl rfl rfl rfl (List.flatten [bX9 cI cJ cZ a0 r0 v0s_10]) (by subst ev0s_10; rfl) dX9_anew_114 rfl ?_
      refine J_aload_n C 118 dX9_anew_117 rfl rfl ?_
      refine J_iconst C 119 dX9_anew_118 rfl ki_0 ?_
      obtain ⟨v0s_11, ev0s_11⟩ : ∃ z : Vl, z = setI v0s_10 27 0 := ⟨_, rfl⟩
      have h := h v0s_11 ev0s_11
      refine J_put C 122 9 inlX9 tyX9 tyX9_ok nmX9 0 27 rfl rfl (by decide) wd201 rfl rfl rfl rfl rfl (List.flatten [bX9 cI cJ cZ a0 r0 v0s_11]) (by subst ev0s_11; rfl) dX9_anew_119 rfl ?_
      refine J_aload_n C 123 dX9_anew_122 rfl rfl ?_
      refine J_iconst C 124 dX9_anew_123 rfl ki_0 ?_
      obtain ⟨v0s_12, ev0s_12⟩ : ∃ z : Vl, z = setI v0s_11 28 0 := ⟨_, rfl⟩
      have h := h v0s_12 ev0s_12
      refine J_put C 127 9 inlX9 tyX9 tyX9_ok nmX9 0 28 rfl rfl (by decide) wd202 rfl rfl rfl rfl rfl (List.flatten [bX9 cI cJ cZ a0 r0 v0s_12]) (by subst ev0s_12; rfl) dX9_anew_124 rfl ?_
      exact J_vret C hr hk v0s_12 rfl dX9_anew_127 h
    · have h := h.2 c
      refine J_aload_n C 9 dX9_anew_8 rfl rfl ?_
      refine J_get C 12 9 inlX9 0 13 rfl rfl (by decide) wd162 rfl rfl dX9_anew_9 rfl ?_
      refine J_iload_n C 13 dX9_anew_12 rfl rfl ?_
      refine J_iload_n C 14 dX9_anew_13 rfl rfl ?_
      refine J_aload_n C 15 dX9_anew_14 rfl rfl ?_
      refine J_get C 18 9 inlX9 0 0 rfl rfl (by decide) wd191 rfl rfl dX9_anew_15 rfl ?_
      refine J_icmp_ge C 21 34 dX9_anew_18 rfl rfl (fun c => ?_) (fun c => ?_)
      · have h := h.1 c
        refine J_iconst C 35 dX9_anew_34 rfl ki_0 ?_
        refine J_loc [0, 1] rfl ?_
        exact wk_X9_anew_c35 C hr hk ih v0 y1 0 y1 h
      · have h := h.2 c
        refine J_aload_n C 22 dX9_anew_21 rfl rfl ?_
        refine J_get C 25 9 inlX9 0 1 rfl rfl (by decide) wd152 rfl rfl dX9_anew_22 rfl ?_
        refine J_iconst C 26 dX9_anew_25 rfl ki_5 ?_
        refine J_iload_n C 27 dX9_anew_26 rfl rfl ?_
        refine J_imul C 28 dX9_anew_27 rfl ?_
        refine J_iconst C 29 dX9_anew_28 rfl ki_3 ?_
        refine J_iadd C 30 dX9_anew_29 rfl ?_
        obtain ⟨hi, h⟩ := h
        refine J_iald C 31 1 0 rfl rfl hi dX9_anew_30 rfl ?_
        refine J_goto C 35 dX9_anew_31 rfl ?_
        refine J_loc [0, 1] rfl ?_
        exact wk_X9_anew_c35 C hr hk ih v0 y1 (v0.2.2.1 1 (Int32.toNatClampNeg ((5 * y1) + 3))) y1 h
def wp_X9_anew (v0 : Vl)  (Q : Vl → Prop) : Prop := (∃ k : Nat, wp_X9_anew_c2  Q k v0 0)
set_option maxHeartbeats 4000000 in
set_option maxRecDepth 100000 in
theorem c_X9_anew (l : Launch) (D : GG) (cI cJ cZ cS : ClassId) (a0 : Nat) (r0 : Nat → Nat) (v0 : Vl)  (Q : Vl → Prop) (h : wp_X9_anew v0 Q) : Mv l D (tyL cI cJ cZ cS) yX9_anew cX9_anew 2 0 0 [.ref a0] (List.flatten [bX9 cI cJ cZ a0 r0 v0]) (fun (u : Vl) => Q u) (fun (u : Vl) => List.flatten [bX9 cI cJ cZ a0 r0 u]) := by
  refine Mv_of RX9 [(0, .ref a0)] (by decide +kernel) rfl rfl (Nat.le_of_ble_eq_true rfl) ?_
  intro p e s m args below meth c A C hr hk
  refine J_iconst C 1 dX9_anew_0 rfl ki_0 ?_
  refine J_istore_n C 2 [(1, .int 0), (0, .ref a0)] dX9_anew_1 rfl (by decide) rfl ?_
  refine J_loc [1, 0] rfl ?_
  obtain ⟨n1, h⟩ := h
  exact wk_X9_anew_c2 C hr hk n1 v0 0 h
def wp_X9_feed_c35  (Q : Int32 → Vl → Prop) : Nat → Vl → Int64 → Int32 → Prop
  | 0 => fun _ _ _ => False
  | n + 1 => fun v0 y2 y4 => ((y4 < 0 → Q (v0.1 32) v0) ∧ (¬ y4 < 0 → vp_in (v0.1 32) 500 ∧ (∀ v0s_3 : Vl, v0s_3 = setA v0 31 (Int32.toNatClampNeg (v0.1 32)) (Int64.toInt32 ((y2 >>> (Int32.toInt64 (8 * y4) &&& 63)) &&& 255)) → ∀ v0s_4 : Vl, v0s_4 = setI v0s_3 32 ((v0s_3.1 32) + 1) → ∀ x_5 : Int32, x_5 = y4 + (-1) → wp_X9_feed_c35  Q n v0s_4 y2 x_5)))
set_option maxHeartbeats 4000000 in
set_option maxRecDepth 100000 in
theorem wk_X9_feed_c35 {p : Program} {l : Launch} {e : Env} {s : State} {m : MethodId} {args : Array Value} {below : List Frame} {meth : Method} {c : Code} {D : GG} {A : Nat → Prop} {cI cJ cZ cS : ClassId} {a0 : Nat} {r0 : Nat → Nat}  {Q : Int32 → Vl → Prop} (C : Cx p s m args c D (tyL cI cJ cZ cS) A RX9 cX9_feed 5) (hr : meth.sig.returnType = some .int) (hk : meth.locks = false) : ∀ (n : Nat) (v0 : Vl) (y2 : Int64) (y4 : Int32), wp_X9_feed_c35  Q n v0 y2 y4 → J p l e (rmk 1 25) s m args below meth c D A 5 0 0 (MQ below (va_Qi (fun (r : Int32) (u : Vl) => Q r u) (fun u t => va_P D.1 vwCl ((fun (u : Vl) => List.flatten [bX9 cI cJ cZ a0 r0 u]) u) t.heap ∧ va_D A ((fun (u : Vl) => List.flatten [bX9 cI cJ cZ a0 r0 u]) u)) A) args s 0 0 A) 35 [(0, .ref a0), (2, .long y2), (4, .int y4)] [] (List.flatten [bX9 cI cJ cZ a0 r0 v0]) := by
  intro n
  induction n with
  | zero =>
    intro v0 y2 y4 h
    exact False.elim h
  | succ n ih =>
    intro v0 y2 y4 h
    refine J_iload C 37 dX9_feed_35 rfl rfl ?_
    refine J_if_lt C 40 77 dX9_feed_37 rfl rfl (fun c => ?_) (fun c => ?_)
    · have h := h.1 c
      refine J_aload_n C 78 dX9_feed_77 rfl rfl ?_
      refine J_get C 81 9 inlX9 0 32 rfl rfl (by decide) wd220 rfl rfl dX9_feed_78 rfl ?_
      exact J_iret C hr hk v0 rfl dX9_feed_81 h
    · have h := h.2 c
      refine J_aload_n C 41 dX9_feed_40 rfl rfl ?_
      refine J_get C 44 9 inlX9 0 31 rfl rfl (by decide) wd168 rfl rfl dX9_feed_41 rfl ?_
      refine J_aload_n C 45 dX9_feed_44 rfl rfl ?_
      refine J_get C 48 9 inlX9 0 32 rfl rfl (by decide) wd220 rfl rfl dX9_feed_45 rfl ?_
      refine J_lload_n C 49 dX9_feed_48 rfl rfl ?_
      refine J_bipush C 51 dX9_feed_49 rfl kb_8 ?_
      refine J_iload C 53 dX9_feed_51 rfl rfl ?_
      refine J_imul C 54 dX9_feed_53 rfl ?_
      refine J_lshr C 55 dX9_feed_54 rfl ?_
      refine J_ldc2 C 58 wd222 dX9_feed_55 rfl ?_
      refine J_land C 59 dX9_feed_58 rfl ?_
      refine J_l2i C 60 dX9_feed_59 rfl ?_
      obtain ⟨hi, h⟩ := h
      obtain ⟨v0s_3, ev0s_3⟩ : ∃ z : Vl, z = setA v0 31 (Int32.toNatClampNeg (v0.1 32)) (Int64.toInt32 ((y2 >>> (Int32.toInt64 (8 * y4) &&& 63)) &&& 255)) := ⟨_, rfl⟩
      have h := h v0s_3 ev0s_3
      refine J_iast C 61 11 0 rfl rfl hi (List.flatten [bX9 cI cJ cZ a0 r0 v0s_3]) (by subst ev0s_3; rfl) dX9_feed_60 rfl ?_
      refine J_aload_n C 62 dX9_feed_61 rfl rfl ?_
      refine J_dup C 63 dX9_feed_62 rfl rfl ?_
      refine J_get C 66 9 inlX9 0 32 rfl rfl (by decide) wd220 rfl rfl dX9_feed_63 rfl ?_
      refine J_iconst C 67 dX9_feed_66 rfl ki_1 ?_
      refine J_iadd C 68 dX9_feed_67 rfl ?_
      obtain ⟨v0s_4, ev0s_4⟩ : ∃ z : Vl, z = setI v0s_3 32 ((v0s_3.1 32) + 1) := ⟨_, rfl⟩
      have h := h v0s_4 ev0s_4
      refine J_put C 71 9 inlX9 tyX9 tyX9_ok nmX9 0 32 rfl rfl (by decide) wd220 rfl rfl rfl rfl rfl (List.flatten [bX9 cI cJ cZ a0 r0 v0s_4]) (by subst ev0s_4; rfl) dX9_feed_68 rfl ?_
      obtain ⟨x_5, ex_5⟩ : ∃ z : Int32, z = y4 + (-1) := ⟨_, rfl⟩
      have h := h x_5 ex_5
      refine J_iinc C 74 [(4, .int x_5), (0, .ref a0), (2, .long y2)] dX9_feed_71 rfl rfl ((kinc_m1 _).trans ex_5.symm) (by decide) rfl ?_
      refine J_goto C 35 dX9_feed_74 rfl ?_
      refine J_loc [1, 2, 0] rfl ?_
      exact ih v0s_4 y2 x_5 h
def wp_X9_feed (v0 : Vl) (x1 : Int32) (x2 : Int64) (Q : Int32 → Vl → Prop) : Prop := wp_X9_in (Int32.toInt64 x1) 1 8 (fun r_1 => ((¬ r_1 = 0 → ((((v0.1 32) + x1) ≤ 500 → ∀ x_2 : Int32, x_2 = (x1 - 1) → (∃ k : Nat, wp_X9_feed_c35  Q k v0 x2 x_2)) ∧ (¬ ((v0.1 32) + x1) ≤ 500 → Q (-1000000004) v0))) ∧ (r_1 = 0 → Q (-1000000002) v0)))
set_option maxHeartbeats 4000000 in
set_option maxRecDepth 100000 in
theorem c_X9_feed (l : Launch) (D : GG) (cI cJ cZ cS : ClassId) (a0 : Nat) (r0 : Nat → Nat) (v0 : Vl) (x1 : Int32) (x2 : Int64) (Q : Int32 → Vl → Prop) (h : wp_X9_feed v0 x1 x2 Q) : Mi l D (tyL cI cJ cZ cS) yX9_feed cX9_feed 5 .int 1 25 [.ref a0, .int x1, .long x2] (List.flatten [bX9 cI cJ cZ a0 r0 v0]) (fun (r : Int32) (u : Vl) => Q r u) (fun (u : Vl) => List.flatten [bX9 cI cJ cZ a0 r0 u]) := by
  refine Mi_of RX9 [(0, .ref a0), (1, .int x1), (2, .long x2)] (by decide +kernel) rfl rfl (Nat.le_of_ble_eq_true rfl) ?_
  intro p e s m args below meth c A C hr hk
  refine J_iload_n C 1 dX9_feed_0 rfl rfl ?_
  refine J_i2l C 2 dX9_feed_1 rfl ?_
  refine J_lconst C 3 dX9_feed_2 rfl kl_1 ?_
  refine J_ldc2 C 6 wd218 dX9_feed_3 rfl ?_
  refine J_callBiS (Bs := [bX9 cI cJ cZ a0 r0 v0]) (As := [.long (Int32.toInt64 x1), .long 1, .long 8]) C 9 (c_X9_in l D cI cJ cZ cS (Int32.toInt64 x1) 1 8 _ h) wd225 wd223 wd5 wd224 hdX9_in ⟨Nat.le_of_ble_eq_true rfl, Nat.le_of_ble_eq_true rfl⟩ ⟨Nat.zero_le _, Nat.zero_le _⟩ rfl (Nat.le_of_ble_eq_true rfl) [] [0] 1 rfl (by decide +kernel) rfl rfl (fun (u : Unit) => ([] : List va_W)) (fun _ => rfl) [0] (by decide +kernel) (fun _ => rfl) rfl (fun (u : Unit) => [bX9 cI cJ cZ a0 r0 v0]) (fun _ => rfl) dX9_feed_6 rfl (fun r_1 u h => ?_)
  refine J_if_ne C 12 15 dX9_feed_9 rfl rfl (fun c => ?_) (fun c => ?_)
  · have h := h.1 c
    refine J_aload_n C 16 dX9_feed_15 rfl rfl ?_
    refine J_get C 19 9 inlX9 0 32 rfl rfl (by decide) wd220 rfl rfl dX9_feed_16 rfl ?_
    refine J_iload_n C 20 dX9_feed_19 rfl rfl ?_
    refine J_iadd C 21 dX9_feed_20 rfl ?_
    refine J_sipush C 24 dX9_feed_21 rfl ks_500 ?_
    refine J_icmp_le C 27 30 dX9_feed_24 rfl rfl (fun c => ?_) (fun c => ?_)
    · have h := h.1 c
      refine J_iload_n C 31 dX9_feed_30 rfl rfl ?_
      refine J_iconst C 32 dX9_feed_31 rfl ki_1 ?_
      refine J_isub C 33 dX9_feed_32 rfl ?_
      obtain ⟨x_2, ex_2⟩ : ∃ z : Int32, z = (x1 - 1) := ⟨_, rfl⟩
      have h := h x_2 ex_2
      refine J_nmi ex_2 ?_
      refine J_istore C 35 [(4, .int x_2), (0, .ref a0), (1, .int x1), (2, .long x2)] dX9_feed_33 rfl (by decide) rfl ?_
      refine J_loc [1, 3, 0] rfl ?_
      obtain ⟨n1, h⟩ := h
      exact wk_X9_feed_c35 C hr hk n1 v0 x2 x_2 h
    · have h := h.2 c
      refine J_ldc C 29 wd221 dX9_feed_27 rfl ?_
      exact J_iret C hr hk v0 rfl dX9_feed_29 h
  · have h := h.2 c
    refine J_ldc C 14 wd219 dX9_feed_12 rfl ?_
    exact J_iret C hr hk v0 rfl dX9_feed_14 h
def wp_X9_here_c38  (Q : Int32 → Vl → Prop) (v0 : Vl) : Prop := (((v0.1 32) ≤ (v0.1 34) → Q (-1) v0) ∧ (¬ (v0.1 32) ≤ (v0.1 34) → vp_in (v0.1 34) 500 ∧ (Q (v0.2.2.1 31 (Int32.toNatClampNeg (v0.1 34))) v0)))
set_option maxHeartbeats 4000000 in
set_option maxRecDepth 100000 in
theorem wk_X9_here_c38 {p : Program} {l : Launch} {e : Env} {s : State} {m : MethodId} {args : Array Value} {below : List Frame} {meth : Method} {c : Code} {D : GG} {A : Nat → Prop} {cI cJ cZ cS : ClassId} {a0 : Nat} {r0 : Nat → Nat}  {Q : Int32 → Vl → Prop} (C : Cx p s m args c D (tyL cI cJ cZ cS) A RX9 cX9_here 1) (hr : meth.sig.returnType = some .int) (hk : meth.locks = false) : ∀ (v0 : Vl), wp_X9_here_c38  Q v0 → J p l e (rmk 0 0) s m args below meth c D A 1 0 0 (MQ below (va_Qi (fun (r : Int32) (u : Vl) => Q r u) (fun u t => va_P D.1 vwCl ((fun (u : Vl) => List.flatten [bX9 cI cJ cZ a0 r0 u]) u) t.heap ∧ va_D A ((fun (u : Vl) => List.flatten [bX9 cI cJ cZ a0 r0 u]) u)) A) args s 0 0 A) 38 [(0, .ref a0)] [] (List.flatten [bX9 cI cJ cZ a0 r0 v0]) := by
  intro v0 h
  refine J_aload_n C 39 dX9_here_38 rfl rfl ?_
  refine J_get C 42 9 inlX9 0 34 rfl rfl (by decide) wd402 rfl rfl dX9_here_39 rfl ?_
  refine J_aload_n C 43 dX9_here_42 rfl rfl ?_
  refine J_get C 46 9 inlX9 0 32 rfl rfl (by decide) wd220 rfl rfl dX9_here_43 rfl ?_
  refine J_icmp_ge C 49 61 dX9_here_46 rfl rfl (fun c => ?_) (fun c => ?_)
  · have h := h.1 c
    refine J_iconst C 62 dX9_here_61 rfl ki_m1 ?_
    exact J_iret C hr hk v0 rfl dX9_here_62 h
  · have h := h.2 c
    refine J_aload_n C 50 dX9_here_49 rfl rfl ?_
    refine J_get C 53 9 inlX9 0 31 rfl rfl (by decide) wd168 rfl rfl dX9_here_50 rfl ?_
    refine J_aload_n C 54 dX9_here_53 rfl rfl ?_
    refine J_get C 57 9 inlX9 0 34 rfl rfl (by decide) wd402 rfl rfl dX9_here_54 rfl ?_
    obtain ⟨hi, h⟩ := h
    refine J_iald C 58 11 0 rfl rfl hi dX9_here_57 rfl ?_
    refine J_goto C 62 dX9_here_58 rfl ?_
    exact J_iret C hr hk v0 rfl dX9_here_62 h
def wp_X9_here_c0  (Q : Int32 → Vl → Prop) : Nat → Vl → Prop
  | 0 => fun _ => False
  | n + 1 => fun v0 => (((v0.1 32) ≤ (v0.1 34) → wp_X9_here_c38  Q v0) ∧ (¬ (v0.1 32) ≤ (v0.1 34) → vp_in (v0.1 34) 500 ∧ (((¬ (v0.2.2.1 31 (Int32.toNatClampNeg (v0.1 34))) = 32 → wp_X9_here_c38  Q v0) ∧ ((v0.2.2.1 31 (Int32.toNatClampNeg (v0.1 34))) = 32 → ∀ v0s_2 : Vl, v0s_2 = setI v0 34 ((v0.1 34) + 1) → wp_X9_here_c0  Q n v0s_2)))))
set_option maxHeartbeats 4000000 in
set_option maxRecDepth 100000 in
theorem wk_X9_here_c0 {p : Program} {l : Launch} {e : Env} {s : State} {m : MethodId} {args : Array Value} {below : List Frame} {meth : Method} {c : Code} {D : GG} {A : Nat → Prop} {cI cJ cZ cS : ClassId} {a0 : Nat} {r0 : Nat → Nat}  {Q : Int32 → Vl → Prop} (C : Cx p s m args c D (tyL cI cJ cZ cS) A RX9 cX9_here 1) (hr : meth.sig.returnType = some .int) (hk : meth.locks = false) : ∀ (n : Nat) (v0 : Vl), wp_X9_here_c0  Q n v0 → J p l e (rmk 0 0) s m args below meth c D A 1 0 0 (MQ below (va_Qi (fun (r : Int32) (u : Vl) => Q r u) (fun u t => va_P D.1 vwCl ((fun (u : Vl) => List.flatten [bX9 cI cJ cZ a0 r0 u]) u) t.heap ∧ va_D A ((fun (u : Vl) => List.flatten [bX9 cI cJ cZ a0 r0 u]) u)) A) args s 0 0 A) 0 [(0, .ref a0)] [] (List.flatten [bX9 cI cJ cZ a0 r0 v0]) := by
  intro n
  induction n with
  | zero =>
    intro v0 h
    exact False.elim h
  | succ n ih =>
    intro v0 h
    refine J_aload_n C 1 dX9_here_0 rfl rfl ?_
    refine J_get C 4 9 inlX9 0 34 rfl rfl (by decide) wd402 rfl rfl dX9_here_1 rfl ?_
    refine J_aload_n C 5 dX9_here_4 rfl rfl ?_
    refine J_get C 8 9 inlX9 0 32 rfl rfl (by decide) wd220 rfl rfl dX9_here_5 rfl ?_
    refine J_icmp_ge C 11 38 dX9_here_8 rfl rfl (fun c => ?_) (fun c => ?_)
    · have h := h.1 c
      refine J_loc [0] rfl ?_
      exact wk_X9_here_c38 C hr hk v0 h
    · have h := h.2 c
      refine J_aload_n C 12 dX9_here_11 rfl rfl ?_
      refine J_get C 15 9 inlX9 0 31 rfl rfl (by decide) wd168 rfl rfl dX9_here_12 rfl ?_
      refine J_aload_n C 16 dX9_here_15 rfl rfl ?_
      refine J_get C 19 9 inlX9 0 34 rfl rfl (by decide) wd402 rfl rfl dX9_here_16 rfl ?_
      obtain ⟨hi, h⟩ := h
      refine J_iald C 20 11 0 rfl rfl hi dX9_here_19 rfl ?_
      refine J_bipush C 22 dX9_here_20 rfl kb_32 ?_
      refine J_icmp_ne C 25 38 dX9_here_22 rfl rfl (fun c => ?_) (fun c => ?_)
      · have h := h.1 c
        refine J_loc [0] rfl ?_
        exact wk_X9_here_c38 C hr hk v0 h
      · have h := h.2 c
        refine J_aload_n C 26 dX9_here_25 rfl rfl ?_
        refine J_dup C 27 dX9_here_26 rfl rfl ?_
        refine J_get C 30 9 inlX9 0 34 rfl rfl (by decide) wd402 rfl rfl dX9_here_27 rfl ?_
        refine J_iconst C 31 dX9_here_30 rfl ki_1 ?_
        refine J_iadd C 32 dX9_here_31 rfl ?_
        obtain ⟨v0s_2, ev0s_2⟩ : ∃ z : Vl, z = setI v0 34 ((v0.1 34) + 1) := ⟨_, rfl⟩
        have h := h v0s_2 ev0s_2
        refine J_put C 35 9 inlX9 tyX9 tyX9_ok nmX9 0 34 rfl rfl (by decide) wd402 rfl rfl rfl rfl rfl (List.flatten [bX9 cI cJ cZ a0 r0 v0s_2]) (by subst ev0s_2; rfl) dX9_here_32 rfl ?_
        refine J_goto C 0 dX9_here_35 rfl ?_
        refine J_loc [0] rfl ?_
        exact ih v0s_2 h
def wp_X9_here (v0 : Vl)  (Q : Int32 → Vl → Prop) : Prop := (((v0.1 32) ≤ (v0.1 34) → wp_X9_here_c38  Q v0) ∧ (¬ (v0.1 32) ≤ (v0.1 34) → vp_in (v0.1 34) 500 ∧ (((¬ (v0.2.2.1 31 (Int32.toNatClampNeg (v0.1 34))) = 32 → wp_X9_here_c38  Q v0) ∧ ((v0.2.2.1 31 (Int32.toNatClampNeg (v0.1 34))) = 32 → ∀ v0s_1 : Vl, v0s_1 = setI v0 34 ((v0.1 34) + 1) → (∃ k : Nat, wp_X9_here_c0  Q k v0s_1))))))
set_option maxHeartbeats 4000000 in
set_option maxRecDepth 100000 in
theorem c_X9_here (l : Launch) (D : GG) (cI cJ cZ cS : ClassId) (a0 : Nat) (r0 : Nat → Nat) (v0 : Vl)  (Q : Int32 → Vl → Prop) (h : wp_X9_here v0 Q) : Mi l D (tyL cI cJ cZ cS) yX9_here cX9_here 1 .int 0 0 [.ref a0] (List.flatten [bX9 cI cJ cZ a0 r0 v0]) (fun (r : Int32) (u : Vl) => Q r u) (fun (u : Vl) => List.flatten [bX9 cI cJ cZ a0 r0 u]) := by
  refine Mi_of RX9 [(0, .ref a0)] (by decide +kernel) rfl rfl (Nat.le_of_ble_eq_true rfl) ?_
  intro p e s m args below meth c A C hr hk
  refine J_aload_n C 1 dX9_here_0 rfl rfl ?_
  refine J_get C 4 9 inlX9 0 34 rfl rfl (by decide) wd402 rfl rfl dX9_here_1 rfl ?_
  refine J_aload_n C 5 dX9_here_4 rfl rfl ?_
  refine J_get C 8 9 inlX9 0 32 rfl rfl (by decide) wd220 rfl rfl dX9_here_5 rfl ?_
  refine J_icmp_ge C 11 38 dX9_here_8 rfl rfl (fun c => ?_) (fun c => ?_)
  · have h := h.1 c
    refine J_loc [0] rfl ?_
    exact wk_X9_here_c38 C hr hk v0 h
  · have h := h.2 c
    refine J_aload_n C 12 dX9_here_11 rfl rfl ?_
    refine J_get C 15 9 inlX9 0 31 rfl rfl (by decide) wd168 rfl rfl dX9_here_12 rfl ?_
    refine J_aload_n C 16 dX9_here_15 rfl rfl ?_
    refine J_get C 19 9 inlX9 0 34 rfl rfl (by decide) wd402 rfl rfl dX9_here_16 rfl ?_
    obtain ⟨hi, h⟩ := h
    refine J_iald C 20 11 0 rfl rfl hi dX9_here_19 rfl ?_
    refine J_bipush C 22 dX9_here_20 rfl kb_32 ?_
    refine J_icmp_ne C 25 38 dX9_here_22 rfl rfl (fun c => ?_) (fun c => ?_)
    · have h := h.1 c
      refine J_loc [0] rfl ?_
      exact wk_X9_here_c38 C hr hk v0 h
    · have h := h.2 c
      refine J_aload_n C 26 dX9_here_25 rfl rfl ?_
      refine J_dup C 27 dX9_here_26 rfl rfl ?_
      refine J_get C 30 9 inlX9 0 34 rfl rfl (by decide) wd402 rfl rfl dX9_here_27 rfl ?_
      refine J_iconst C 31 dX9_here_30 rfl ki_1 ?_
      refine J_iadd C 32 dX9_here_31 rfl ?_
      obtain ⟨v0s_1, ev0s_1⟩ : ∃ z : Vl, z = setI v0 34 ((v0.1 34) + 1) := ⟨_, rfl⟩
      have h := h v0s_1 ev0s_1
      refine J_put C 35 9 inlX9 tyX9 tyX9_ok nmX9 0 34 rfl rfl (by decide) wd402 rfl rfl rfl rfl rfl (List.flatten [bX9 cI cJ cZ a0 r0 v0s_1]) (by subst ev0s_1; rfl) dX9_here_32 rfl ?_
      refine J_goto C 0 dX9_here_35 rfl ?_
      refine J_loc [0] rfl ?_
      obtain ⟨n1, h⟩ := h
      exact wk_X9_here_c0 C hr hk n1 v0s_1 h
def wp_X9_fails (v0 : Vl) (x1 : Int32) (x2 : Int32) (Q : Int32 → Vl → Prop) : Prop := ∀ v0s_1 : Vl, v0s_1 = setI v0 33 x2 → Q x1 v0s_1
set_option maxHeartbeats 4000000 in
set_option maxRecDepth 100000 in
theorem c_X9_fails (l : Launch) (D : GG) (cI cJ cZ cS : ClassId) (a0 : Nat) (r0 : Nat → Nat) (v0 : Vl) (x1 : Int32) (x2 : Int32) (Q : Int32 → Vl → Prop) (h : wp_X9_fails v0 x1 x2 Q) : Mi l D (tyL cI cJ cZ cS) yX9_fails cX9_fails 3 .int 0 0 [.ref a0, .int x1, .int x2] (List.flatten [bX9 cI cJ cZ a0 r0 v0]) (fun (r : Int32) (u : Vl) => Q r u) (fun (u : Vl) => List.flatten [bX9 cI cJ cZ a0 r0 u]) := by
  refine Mi_of RX9 [(0, .ref a0), (1, .int x1), (2, .int x2)] (by decide +kernel) rfl rfl (Nat.le_of_ble_eq_true rfl) ?_
  intro p e s m args below meth c A C hr hk
  refine J_aload_n C 1 dX9_fails_0 rfl rfl ?_
  refine J_iload_n C 2 dX9_fails_1 rfl rfl ?_
  obtain ⟨v0s_1, ev0s_1⟩ : ∃ z : Vl, z = setI v0 33 x2 := ⟨_, rfl⟩
  have h := h v0s_1 ev0s_1
  refine J_put C 5 9 inlX9 tyX9 tyX9_ok nmX9 0 33 rfl rfl (by decide) wd169 rfl rfl rfl rfl rfl (List.flatten [bX9 cI cJ cZ a0 r0 v0s_1]) (by subst ev0s_1; rfl) dX9_fails_2 rfl ?_
  refine J_iload_n C 6 dX9_fails_5 rfl rfl ?_
  exact J_iret C hr hk v0s_1 rfl dX9_fails_6 h
def wp_X9_readWord_c92  (Q : Vl → Prop) (B18 : Vl → Prop) (v0 : Vl) (s0 : Int64) : Prop := ∀ v0s_6 : Vl, v0s_6 = setJ v0 35 s0 → ∀ v0s_7 : Vl, v0s_7 = setI v0s_6 36 ((v0s_6.1 36) + 1) → B18 v0s_7
set_option maxHeartbeats 4000000 in
set_option maxRecDepth 100000 in
theorem wk_X9_readWord_c92 {p : Program} {l : Launch} {e : Env} {s : State} {m : MethodId} {args : Array Value} {below : List Frame} {meth : Method} {c : Code} {D : GG} {A : Nat → Prop} {cI cJ cZ cS : ClassId} {a0 : Nat} {r0 : Nat → Nat}  {B18 : Vl → Prop} {Q : Vl → Prop} (C : Cx p s m args c D (tyL cI cJ cZ cS) A RX9 cX9_readWord 2) (hr : meth.sig.returnType = none) (hk : meth.locks = false) (hB18 : ∀ (v0 : Vl), B18 v0 → J p l e (rmk 1 25) s m args below meth c D A 2 0 0 (MQ below (va_Qv (fun (u : Vl) => Q u) (fun u t => va_P D.1 vwCl ((fun (u : Vl) => List.flatten [bX9 cI cJ cZ a0 r0 u]) u) t.heap ∧ va_D A ((fun (u : Vl) => List.flatten [bX9 cI cJ cZ a0 r0 u]) u)) A) args s 0 0 A) 18 [(0, .ref a0)] [] (List.flatten [bX9 cI cJ cZ a0 r0 v0])) : ∀ (v0 : Vl) (s0 : Int64), wp_X9_readWord_c92  Q B18 v0 s0 → J p l e (rmk 1 25) s m args below meth c D A 2 0 0 (MQ below (va_Qv (fun (u : Vl) => Q u) (fun u t => va_P D.1 vwCl ((fun (u : Vl) => List.flatten [bX9 cI cJ cZ a0 r0 u]) u) t.heap ∧ va_D A ((fun (u : Vl) => List.flatten [bX9 cI cJ cZ a0 r0 u]) u)) A) args s 0 0 A) 92 [(0, .ref a0)] [.long s0, .ref a0] (List.flatten [bX9 cI cJ cZ a0 r0 v0]) := by
  intro v0 s0 h
  obtain ⟨v0s_6, ev0s_6⟩ : ∃ z : Vl, z = setJ v0 35 s0 := ⟨_, rfl⟩
  have h := h v0s_6 ev0s_6
  refine J_put C 95 9 inlX9 tyX9 tyX9_ok nmX9 0 35 rfl rfl (by decide) wd414 rfl rfl rfl rfl rfl (List.flatten [bX9 cI cJ cZ a0 r0 v0s_6]) (by subst ev0s_6; rfl) dX9_readWord_92 rfl ?_
  refine J_aload_n C 96 dX9_readWord_95 rfl rfl ?_
  refine J_dup C 97 dX9_readWord_96 rfl rfl ?_
  refine J_get C 100 9 inlX9 0 36 rfl rfl (by decide) wd415 rfl rfl dX9_readWord_97 rfl ?_
  refine J_iconst C 101 dX9_readWord_100 rfl ki_1 ?_
  refine J_iadd C 102 dX9_readWord_101 rfl ?_
  obtain ⟨v0s_7, ev0s_7⟩ : ∃ z : Vl, z = setI v0s_6 36 ((v0s_6.1 36) + 1) := ⟨_, rfl⟩
  have h := h v0s_7 ev0s_7
  refine J_put C 105 9 inlX9 tyX9 tyX9_ok nmX9 0 36 rfl rfl (by decide) wd415 rfl rfl rfl rfl rfl (List.flatten [bX9 cI cJ cZ a0 r0 v0s_7]) (by subst ev0s_7; rfl) dX9_readWord_102 rfl ?_
  refine J_goto C 18 dX9_readWord_105 rfl ?_
  refine J_loc [0] rfl ?_
  exact hB18 v0s_7 h
def wp_X9_readWord_c18  (Q : Vl → Prop) : Nat → Vl → Prop
  | 0 => fun _ => False
  | n + 1 => fun v0 => (((v0.1 32) ≤ (v0.1 36) → Q v0) ∧ (¬ (v0.1 32) ≤ (v0.1 36) → vp_in (v0.1 36) 500 ∧ (wp_X9_in (Int32.toInt64 (v0.2.2.1 31 (Int32.toNatClampNeg (v0.1 36)))) 97 122 (fun r_5 => ((r_5 = 0 → Q v0) ∧ (¬ r_5 = 0 → (((v0.2.1 35) ≤ 10000000000000 → vp_in (v0.1 36) 500 ∧ (wp_X9_readWord_c92  Q (wp_X9_readWord_c18  Q n) v0 (((27 * (v0.2.1 35)) + (Int32.toInt64 (v0.2.2.1 31 (Int32.toNatClampNeg (v0.1 36))))) - 96))) ∧ (¬ (v0.2.1 35) ≤ 10000000000000 → wp_X9_readWord_c92  Q (wp_X9_readWord_c18  Q n) v0 20000000000000))))))))
set_option maxHeartbeats 4000000 in
set_option maxRecDepth 100000 in
theorem wk_X9_readWord_c18 {p : Program} {l : Launch} {e : Env} {s : State} {m : MethodId} {args : Array Value} {below : List Frame} {meth : Method} {c : Code} {D : GG} {A : Nat → Prop} {cI cJ cZ cS : ClassId} {a0 : Nat} {r0 : Nat → Nat}  {Q : Vl → Prop} (C : Cx p s m args c D (tyL cI cJ cZ cS) A RX9 cX9_readWord 2) (hr : meth.sig.returnType = none) (hk : meth.locks = false) : ∀ (n : Nat) (v0 : Vl), wp_X9_readWord_c18  Q n v0 → J p l e (rmk 1 25) s m args below meth c D A 2 0 0 (MQ below (va_Qv (fun (u : Vl) => Q u) (fun u t => va_P D.1 vwCl ((fun (u : Vl) => List.flatten [bX9 cI cJ cZ a0 r0 u]) u) t.heap ∧ va_D A ((fun (u : Vl) => List.flatten [bX9 cI cJ cZ a0 r0 u]) u)) A) args s 0 0 A) 18 [(0, .ref a0)] [] (List.flatten [bX9 cI cJ cZ a0 r0 v0]) := by
  intro n
  induction n with
  | zero =>
    intro v0 h
    exact False.elim h
  | succ n ih =>
    intro v0 h
    refine J_aload_n C 19 dX9_readWord_18 rfl rfl ?_
    refine J_get C 22 9 inlX9 0 36 rfl rfl (by decide) wd415 rfl rfl dX9_readWord_19 rfl ?_
    refine J_aload_n C 23 dX9_readWord_22 rfl rfl ?_
    refine J_get C 26 9 inlX9 0 32 rfl rfl (by decide) wd220 rfl rfl dX9_readWord_23 rfl ?_
    refine J_icmp_ge C 29 108 dX9_readWord_26 rfl rfl (fun c => ?_) (fun c => ?_)
    · have h := h.1 c
      exact J_vret C hr hk v0 rfl dX9_readWord_108 h
    · have h := h.2 c
      refine J_aload_n C 30 dX9_readWord_29 rfl rfl ?_
      refine J_get C 33 9 inlX9 0 31 rfl rfl (by decide) wd168 rfl rfl dX9_readWord_30 rfl ?_
      refine J_aload_n C 34 dX9_readWord_33 rfl rfl ?_
      refine J_get C 37 9 inlX9 0 36 rfl rfl (by decide) wd415 rfl rfl dX9_readWord_34 rfl ?_
      obtain ⟨hi, h⟩ := h
      refine J_iald C 38 11 0 rfl rfl hi dX9_readWord_37 rfl ?_
      refine J_i2l C 39 dX9_readWord_38 rfl ?_
      refine J_ldc2 C 42 wd420 dX9_readWord_39 rfl ?_
      refine J_ldc2 C 45 wd421 dX9_readWord_42 rfl ?_
      refine J_callBiS (Bs := [bX9 cI cJ cZ a0 r0 v0]) (As := [.long (Int32.toInt64 (v0.2.2.1 31 (Int32.toNatClampNeg (v0.1 36)))), .long 97, .long 122]) C 48 (c_X9_in l D cI cJ cZ cS (Int32.toInt64 (v0.2.2.1 31 (Int32.toNatClampNeg (v0.1 36)))) 97 122 _ h) wd225 wd223 wd5 wd224 hdX9_in ⟨Nat.le_of_ble_eq_true rfl, Nat.le_of_ble_eq_true rfl⟩ ⟨Nat.zero_le _, Nat.zero_le _⟩ rfl (Nat.le_of_ble_eq_true rfl) [] [0] 1 rfl (by decide +kernel) rfl rfl (fun (u : Unit) => ([] : List va_W)) (fun _ => rfl) [0] (by decide +kernel) (fun _ => rfl) rfl (fun (u : Unit) => [bX9 cI cJ cZ a0 r0 v0]) (fun _ => rfl) dX9_readWord_45 rfl (fun r_5 u h => ?_)
      refine J_if_eq C 51 108 dX9_readWord_48 rfl rfl (fun c => ?_) (fun c => ?_)
      · have h := h.1 c
        exact J_vret C hr hk v0 rfl dX9_readWord_108 h
      · have h := h.2 c
        refine J_aload_n C 52 dX9_readWord_51 rfl rfl ?_
        refine J_aload_n C 53 dX9_readWord_52 rfl rfl ?_
        refine J_get C 56 9 inlX9 0 35 rfl rfl (by decide) wd414 rfl rfl dX9_readWord_53 rfl ?_
        refine J_ldc2 C 59 wd422 dX9_readWord_56 rfl ?_
        refine J_lc_le C 60 63 69 dX9_readWord_59 rfl dX9_readWord_60 rfl rfl (fun c => ?_) (fun c => ?_)
        · have h := h.1 c
          refine J_ldc2 C 72 wd424 dX9_readWord_69 rfl ?_
          refine J_aload_n C 73 dX9_readWord_72 rfl rfl ?_
          refine J_get C 76 9 inlX9 0 35 rfl rfl (by decide) wd414 rfl rfl dX9_readWord_73 rfl ?_
          refine J_lmul C 77 dX9_readWord_76 rfl ?_
          refine J_aload_n C 78 dX9_readWord_77 rfl rfl ?_
          refine J_get C 81 9 inlX9 0 31 rfl rfl (by decide) wd168 rfl rfl dX9_readWord_78 rfl ?_
          refine J_aload_n C 82 dX9_readWord_81 rfl rfl ?_
          refine J_get C 85 9 inlX9 0 36 rfl rfl (by decide) wd415 rfl rfl dX9_readWord_82 rfl ?_
          obtain ⟨hi, h⟩ := h
          refine J_iald C 86 11 0 rfl rfl hi dX9_readWord_85 rfl ?_
          refine J_i2l C 87 dX9_readWord_86 rfl ?_
          refine J_ladd C 88 dX9_readWord_87 rfl ?_
          refine J_ldc2 C 91 wd425 dX9_readWord_88 rfl ?_
          refine J_lsub C 92 dX9_readWord_91 rfl ?_
          refine J_loc [0] rfl ?_
          exact wk_X9_readWord_c92 C hr hk ih v0 (((27 * (v0.2.1 35)) + (Int32.toInt64 (v0.2.2.1 31 (Int32.toNatClampNeg (v0.1 36))))) - 96) h
        · have h := h.2 c
          refine J_ldc2 C 66 wd423 dX9_readWord_63 rfl ?_
          refine J_goto C 92 dX9_readWord_66 rfl ?_
          refine J_loc [0] rfl ?_
          exact wk_X9_readWord_c92 C hr hk ih v0 20000000000000 h
def wp_X9_readWord (v0 : Vl)  (Q : Vl → Prop) : Prop := wp_X9_here v0 (fun r_2 u_1 => ∀ v0s_3 : Vl, v0s_3 = setJ u_1 35 0 → ∀ v0s_4 : Vl, v0s_4 = setI v0s_3 36 (v0s_3.1 34) → (∃ k : Nat, wp_X9_readWord_c18  Q k v0s_4))
set_option maxHeartbeats 4000000 in
set_option maxRecDepth 100000 in
theorem c_X9_readWord (l : Launch) (D : GG) (cI cJ cZ cS : ClassId) (a0 : Nat) (r0 : Nat → Nat) (v0 : Vl)  (Q : Vl → Prop) (h : wp_X9_readWord v0 Q) : Mv l D (tyL cI cJ cZ cS) yX9_readWord cX9_readWord 2 1 25 [.ref a0] (List.flatten [bX9 cI cJ cZ a0 r0 v0]) (fun (u : Vl) => Q u) (fun (u : Vl) => List.flatten [bX9 cI cJ cZ a0 r0 u]) := by
  refine Mv_of RX9 [(0, .ref a0)] (by decide +kernel) rfl rfl (Nat.le_of_ble_eq_true rfl) ?_
  intro p e s m args below meth c A C hr hk
  refine J_aload_n C 1 dX9_readWord_0 rfl rfl ?_
  refine J_callBiV (Bs := [bX9 cI cJ cZ a0 r0 v0]) (As := []) C 4 (c_X9_here l D cI cJ cZ cS a0 r0 v0 _ h) wd409 wd406 wd5 wd407 wd408 9 0 rfl rfl rfl hdX9_here ⟨Nat.le_of_ble_eq_true rfl, Nat.le_of_ble_eq_true rfl⟩ ⟨Nat.zero_le _, Nat.zero_le _⟩ rfl (Nat.le_of_ble_eq_true rfl) [0] [] 1 rfl (by decide +kernel) rfl rfl (fun (u : Vl) => [bX9 cI cJ cZ a0 r0 u]) (fun _ => rfl) [0] (by decide +kernel) (fun _ => rfl) rfl (fun (u : Vl) => [bX9 cI cJ cZ a0 r0 u]) (fun _ => rfl) dX9_readWord_1 rfl (fun r_2 u h => ?_)
  obtain ⟨u_1, hu⟩ : ∃ z, z = u := ⟨_, rfl⟩
  subst hu
  refine J_istore_n C 5 [(1, .int r_2), (0, .ref a0)] dX9_readWord_4 rfl (by decide) rfl ?_
  refine J_aload_n C 6 dX9_readWord_5 rfl rfl ?_
  refine J_lconst C 7 dX9_readWord_6 rfl kl_0 ?_
  obtain ⟨v0s_3, ev0s_3⟩ : ∃ z : Vl, z = setJ u_1 35 0 := ⟨_, rfl⟩
  have h := h v0s_3 ev0s_3
  refine J_put C 10 9 inlX9 tyX9 tyX9_ok nmX9 0 35 rfl rfl (by decide) wd414 rfl rfl rfl rfl rfl (List.flatten [bX9 cI cJ cZ a0 r0 v0s_3]) (by subst ev0s_3; rfl) dX9_readWord_7 rfl ?_
  refine J_aload_n C 11 dX9_readWord_10 rfl rfl ?_
  refine J_aload_n C 12 dX9_readWord_11 rfl rfl ?_
  refine J_get C 15 9 inlX9 0 34 rfl rfl (by decide) wd402 rfl rfl dX9_readWord_12 rfl ?_
  obtain ⟨v0s_4, ev0s_4⟩ : ∃ z : Vl, z = setI v0s_3 36 (v0s_3.1 34) := ⟨_, rfl⟩
  have h := h v0s_4 ev0s_4
  refine J_put C 18 9 inlX9 tyX9 tyX9_ok nmX9 0 36 rfl rfl (by decide) wd415 rfl rfl rfl rfl rfl (List.flatten [bX9 cI cJ cZ a0 r0 v0s_4]) (by subst ev0s_4; rfl) dX9_readWord_15 rfl ?_
  refine J_loc [1] rfl ?_
  obtain ⟨n1, h⟩ := h
  exact wk_X9_readWord_c18 C hr hk n1 v0s_4 h
def wp_X9_code  (x0 : Int32) (x1 : Int32) (x2 : Int32) (Q : Int64 → Prop) : Prop := Q (((27 * (((27 * ((Int32.toInt64 x0) - 96)) + (Int32.toInt64 x1)) - 96)) + (Int32.toInt64 x2)) - 96)
set_option maxHeartbeats 4000000 in
set_option maxRecDepth 100000 in
theorem c_X9_code (l : Launch) (D : GG) (cI cJ cZ cS : ClassId)  (x0 : Int32) (x1 : Int32) (x2 : Int32) (Q : Int64 → Prop) (h : wp_X9_code x0 x1 x2 Q) : Ml l D (tyL cI cJ cZ cS) yX9_code cX9_code 3 0 0 [.int x0, .int x1, .int x2] (List.flatten ([] : List va_W)) (fun (r : Int64) (u : Unit) => Q r) (fun (u : Unit) => List.flatten ([] : List va_W)) := by
  refine Ml_of RX9 [(0, .int x0), (1, .int x1), (2, .int x2)] (by decide +kernel) rfl rfl (Nat.le_of_ble_eq_true rfl) ?_
  intro p e s m args below meth c A C hr hk
  refine J_ldc2 C 3 wd424 dX9_code_0 rfl ?_
  refine J_ldc2 C 6 wd424 dX9_code_3 rfl ?_
  refine J_iload_n C 7 dX9_code_6 rfl rfl ?_
  refine J_i2l C 8 dX9_code_7 rfl ?_
  refine J_ldc2 C 11 wd425 dX9_code_8 rfl ?_
  refine J_lsub C 12 dX9_code_11 rfl ?_
  refine J_lmul C 13 dX9_code_12 rfl ?_
  refine J_iload_n C 14 dX9_code_13 rfl rfl ?_
  refine J_i2l C 15 dX9_code_14 rfl ?_
  refine J_ladd C 16 dX9_code_15 rfl ?_
  refine J_ldc2 C 19 wd425 dX9_code_16 rfl ?_
  refine J_lsub C 20 dX9_code_19 rfl ?_
  refine J_lmul C 21 dX9_code_20 rfl ?_
  refine J_iload_n C 22 dX9_code_21 rfl rfl ?_
  refine J_i2l C 23 dX9_code_22 rfl ?_
  refine J_ladd C 24 dX9_code_23 rfl ?_
  refine J_ldc2 C 27 wd425 dX9_code_24 rfl ?_
  refine J_lsub C 28 dX9_code_27 rfl ?_
  exact J_lret C hr hk () rfl dX9_code_28 h
def wp_X9_longer  (x0 : Int64) (x2 : Int32) (x3 : Int32) (Q : Int64 → Prop) : Prop := ((¬ x3 = 0 → Q (((27 * (((27 * x0) + (Int32.toInt64 x2)) - 96)) + (Int32.toInt64 x3)) - 96)) ∧ (x3 = 0 → Q (((27 * x0) + (Int32.toInt64 x2)) - 96)))
set_option maxHeartbeats 4000000 in
set_option maxRecDepth 100000 in
theorem c_X9_longer (l : Launch) (D : GG) (cI cJ cZ cS : ClassId)  (x0 : Int64) (x2 : Int32) (x3 : Int32) (Q : Int64 → Prop) (h : wp_X9_longer x0 x2 x3 Q) : Ml l D (tyL cI cJ cZ cS) yX9_longer cX9_longer 4 0 0 [.long x0, .int x2, .int x3] (List.flatten ([] : List va_W)) (fun (r : Int64) (u : Unit) => Q r) (fun (u : Unit) => List.flatten ([] : List va_W)) := by
  refine Ml_of RX9 [(0, .long x0), (2, .int x2), (3, .int x3)] (by decide +kernel) rfl rfl (Nat.le_of_ble_eq_true rfl) ?_
  intro p e s m args below meth c A C hr hk
  refine J_iload_n C 1 dX9_longer_0 rfl rfl ?_
  refine J_if_ne C 4 19 dX9_longer_1 rfl rfl (fun c => ?_) (fun c => ?_)
  · have h := h.1 c
    refine J_ldc2 C 22 wd424 dX9_longer_19 rfl ?_
    refine J_ldc2 C 25 wd424 dX9_longer_22 rfl ?_
    refine J_lload_n C 26 dX9_longer_25 rfl rfl ?_
    refine J_lmul C 27 dX9_longer_26 rfl ?_
    refine J_iload_n C 28 dX9_longer_27 rfl rfl ?_
    refine J_i2l C 29 dX9_longer_28 rfl ?_
    refine J_ladd C 30 dX9_longer_29 rfl ?_
    refine J_ldc2 C 33 wd425 dX9_longer_30 rfl ?_
    refine J_lsub C 34 dX9_longer_33 rfl ?_
    refine J_lmul C 35 dX9_longer_34 rfl ?_
    refine J_iload_n C 36 dX9_longer_35 rfl rfl ?_
    refine J_i2l C 37 dX9_longer_36 rfl ?_
    refine J_ladd C 38 dX9_longer_37 rfl ?_
    refine J_ldc2 C 41 wd425 dX9_longer_38 rfl ?_
    refine J_lsub C 42 dX9_longer_41 rfl ?_
    exact J_lret C hr hk () rfl dX9_longer_42 h
  · have h := h.2 c
    refine J_ldc2 C 7 wd424 dX9_longer_4 rfl ?_
    refine J_lload_n C 8 dX9_longer_7 rfl rfl ?_
    refine J_lmul C 9 dX9_longer_8 rfl ?_
    refine J_iload_n C 10 dX9_longer_9 rfl rfl ?_
    refine J_i2l C 11 dX9_longer_10 rfl ?_
    refine J_ladd C 12 dX9_longer_11 rfl ?_
    refine J_ldc2 C 15 wd425 dX9_longer_12 rfl ?_
    refine J_lsub C 16 dX9_longer_15 rfl ?_
    refine J_goto C 42 dX9_longer_16 rfl ?_
    exact J_lret C hr hk () rfl dX9_longer_42 h
def wp_X9_takeNumber_c156  (Q : Int32 → Vl → Prop) (v0 : Vl) : Prop := wp_X9_fails v0 2 (v0.1 38) (fun r_7 u_6 => Q r_7 u_6)
set_option maxHeartbeats 4000000 in
set_option maxRecDepth 100000 in
theorem wk_X9_takeNumber_c156 {p : Program} {l : Launch} {e : Env} {s : State} {m : MethodId} {args : Array Value} {below : List Frame} {meth : Method} {c : Code} {D : GG} {A : Nat → Prop} {cI cJ cZ cS : ClassId} {a0 : Nat} {r0 : Nat → Nat}  {Q : Int32 → Vl → Prop} (C : Cx p s m args c D (tyL cI cJ cZ cS) A RX9 cX9_takeNumber 4) (hr : meth.sig.returnType = some .int) (hk : meth.locks = false) : ∀ (v0 : Vl), wp_X9_takeNumber_c156  Q v0 → J p l e (rmk 1 25) s m args below meth c D A 4 0 0 (MQ below (va_Qi (fun (r : Int32) (u : Vl) => Q r u) (fun u t => va_P D.1 vwCl ((fun (u : Vl) => List.flatten [bX9 cI cJ cZ a0 r0 u]) u) t.heap ∧ va_D A ((fun (u : Vl) => List.flatten [bX9 cI cJ cZ a0 r0 u]) u)) A) args s 0 0 A) 156 [(0, .ref a0)] [] (List.flatten [bX9 cI cJ cZ a0 r0 v0]) := by
  intro v0 h
  refine J_aload_n C 157 dX9_takeNumber_156 rfl rfl ?_
  refine J_iconst C 158 dX9_takeNumber_157 rfl ki_2 ?_
  refine J_aload_n C 159 dX9_takeNumber_158 rfl rfl ?_
  refine J_get C 162 9 inlX9 0 38 rfl rfl (by decide) wd454 rfl rfl dX9_takeNumber_159 rfl ?_
  refine J_callBiV (Bs := [bX9 cI cJ cZ a0 r0 v0]) (As := [.int 2, .int (v0.1 38)]) C 165 (c_X9_fails l D cI cJ cZ cS a0 r0 v0 2 (v0.1 38) _ h) wd438 wd435 wd5 wd436 wd437 9 0 rfl rfl rfl hdX9_fails ⟨Nat.le_of_ble_eq_true rfl, Nat.le_of_ble_eq_true rfl⟩ ⟨Nat.zero_le _, Nat.zero_le _⟩ rfl (Nat.le_of_ble_eq_true rfl) [0] [] 1 rfl (by decide +kernel) rfl rfl (fun (u : Vl) => [bX9 cI cJ cZ a0 r0 u]) (fun _ => rfl) [0] (by decide +kernel) (fun _ => rfl) rfl (fun (u : Vl) => [bX9 cI cJ cZ a0 r0 u]) (fun _ => rfl) dX9_takeNumber_162 rfl (fun r_7 u h => ?_)
  obtain ⟨u_6, hu⟩ : ∃ z, z = u := ⟨_, rfl⟩
  subst hu
  refine J_goto C 169 dX9_takeNumber_165 rfl ?_
  exact J_iret C hr hk u_6 rfl dX9_takeNumber_169 h
def wp_X9_takeNumber_c128  (Q : Int32 → Vl → Prop) (v0 : Vl) (y1 : Int32) (y2 : Int32) : Prop := ((4 < ((v0.1 34) - (v0.1 38)) → wp_X9_takeNumber_c156  Q v0) ∧ (¬ 4 < ((v0.1 34) - (v0.1 38)) → wp_X9_in (Int32.toInt64 (v0.1 37)) (Int32.toInt64 y1) (Int32.toInt64 y2) (fun r_8 => ((¬ r_8 = 0 → Q 0 v0) ∧ (r_8 = 0 → wp_X9_takeNumber_c156  Q v0)))))
set_option maxHeartbeats 4000000 in
set_option maxRecDepth 100000 in
theorem wk_X9_takeNumber_c128 {p : Program} {l : Launch} {e : Env} {s : State} {m : MethodId} {args : Array Value} {below : List Frame} {meth : Method} {c : Code} {D : GG} {A : Nat → Prop} {cI cJ cZ cS : ClassId} {a0 : Nat} {r0 : Nat → Nat}  {Q : Int32 → Vl → Prop} (C : Cx p s m args c D (tyL cI cJ cZ cS) A RX9 cX9_takeNumber 4) (hr : meth.sig.returnType = some .int) (hk : meth.locks = false) : ∀ (v0 : Vl) (y1 : Int32) (y2 : Int32), wp_X9_takeNumber_c128  Q v0 y1 y2 → J p l e (rmk 1 25) s m args below meth c D A 4 0 0 (MQ below (va_Qi (fun (r : Int32) (u : Vl) => Q r u) (fun u t => va_P D.1 vwCl ((fun (u : Vl) => List.flatten [bX9 cI cJ cZ a0 r0 u]) u) t.heap ∧ va_D A ((fun (u : Vl) => List.flatten [bX9 cI cJ cZ a0 r0 u]) u)) A) args s 0 0 A) 128 [(0, .ref a0), (1, .int y1), (2, .int y2)] [] (List.flatten [bX9 cI cJ cZ a0 r0 v0]) := by
  intro v0 y1 y2 h
  refine J_aload_n C 129 dX9_takeNumber_128 rfl rfl ?_
  refine J_get C 132 9 inlX9 0 34 rfl rfl (by decide) wd402 rfl rfl dX9_takeNumber_129 rfl ?_
  refine J_aload_n C 133 dX9_takeNumber_132 rfl rfl ?_
  refine J_get C 136 9 inlX9 0 38 rfl rfl (by decide) wd454 rfl rfl dX9_takeNumber_133 rfl ?_
  refine J_isub C 137 dX9_takeNumber_136 rfl ?_
  refine J_iconst C 138 dX9_takeNumber_137 rfl ki_4 ?_
  refine J_icmp_gt C 141 156 dX9_takeNumber_138 rfl rfl (fun c => ?_) (fun c => ?_)
  · have h := h.1 c
    refine J_loc [0] rfl ?_
    exact wk_X9_takeNumber_c156 C hr hk v0 h
  · have h := h.2 c
    refine J_aload_n C 142 dX9_takeNumber_141 rfl rfl ?_
    refine J_get C 145 9 inlX9 0 37 rfl rfl (by decide) wd447 rfl rfl dX9_takeNumber_142 rfl ?_
    refine J_i2l C 146 dX9_takeNumber_145 rfl ?_
    refine J_iload_n C 147 dX9_takeNumber_146 rfl rfl ?_
    refine J_i2l C 148 dX9_takeNumber_147 rfl ?_
    refine J_iload_n C 149 dX9_takeNumber_148 rfl rfl ?_
    refine J_i2l C 150 dX9_takeNumber_149 rfl ?_
    refine J_callBiS (Bs := [bX9 cI cJ cZ a0 r0 v0]) (As := [.long (Int32.toInt64 (v0.1 37)), .long (Int32.toInt64 y1), .long (Int32.toInt64 y2)]) C 153 (c_X9_in l D cI cJ cZ cS (Int32.toInt64 (v0.1 37)) (Int32.toInt64 y1) (Int32.toInt64 y2) _ h) wd225 wd223 wd5 wd224 hdX9_in ⟨Nat.le_of_ble_eq_true rfl, Nat.le_of_ble_eq_true rfl⟩ ⟨Nat.zero_le _, Nat.zero_le _⟩ rfl (Nat.le_of_ble_eq_true rfl) [] [0] 1 rfl (by decide +kernel) rfl rfl (fun (u : Unit) => ([] : List va_W)) (fun _ => rfl) [0] (by decide +kernel) (fun _ => rfl) rfl (fun (u : Unit) => [bX9 cI cJ cZ a0 r0 v0]) (fun _ => rfl) dX9_takeNumber_150 rfl (fun r_8 u h => ?_)
    refine J_if_ne C 156 168 dX9_takeNumber_153 rfl rfl (fun c => ?_) (fun c => ?_)
    · have h := h.1 c
      refine J_iconst C 169 dX9_takeNumber_168 rfl ki_0 ?_
      exact J_iret C hr hk v0 rfl dX9_takeNumber_169 h
    · have h := h.2 c
      refine J_loc [0] rfl ?_
      exact wk_X9_takeNumber_c156 C hr hk v0 h
def wp_X9_takeNumber_c112  (Q : Int32 → Vl → Prop) (B42 : Vl → Int32 → Int32 → Prop) (v0 : Vl) (y1 : Int32) (y2 : Int32) (s0 : Int32) : Prop := ∀ v0s_10 : Vl, v0s_10 = setI v0 37 s0 → ∀ v0s_11 : Vl, v0s_11 = setI v0s_10 34 ((v0s_10.1 34) + 1) → B42 v0s_11 y1 y2
set_option maxHeartbeats 4000000 in
set_option maxRecDepth 100000 in
theorem wk_X9_takeNumber_c112 {p : Program} {l : Launch} {e : Env} {s : State} {m : MethodId} {args : Array Value} {below : List Frame} {meth : Method} {c : Code} {D : GG} {A : Nat → Prop} {cI cJ cZ cS : ClassId} {a0 : Nat} {r0 : Nat → Nat}  {B42 : Vl → Int32 → Int32 → Prop} {Q : Int32 → Vl → Prop} (C : Cx p s m args c D (tyL cI cJ cZ cS) A RX9 cX9_takeNumber 4) (hr : meth.sig.returnType = some .int) (hk : meth.locks = false) (hB42 : ∀ (v0 : Vl) (y1 : Int32) (y2 : Int32), B42 v0 y1 y2 → J p l e (rmk 1 25) s m args below meth c D A 4 0 0 (MQ below (va_Qi (fun (r : Int32) (u : Vl) => Q r u) (fun u t => va_P D.1 vwCl ((fun (u : Vl) => List.flatten [bX9 cI cJ cZ a0 r0 u]) u) t.heap ∧ va_D A ((fun (u : Vl) => List.flatten [bX9 cI cJ cZ a0 r0 u]) u)) A) args s 0 0 A) 42 [(0, .ref a0), (1, .int y1), (2, .int y2)] [] (List.flatten [bX9 cI cJ cZ a0 r0 v0])) : ∀ (v0 : Vl) (y1 : Int32) (y2 : Int32) (s0 : Int32), wp_X9_takeNumber_c112  Q B42 v0 y1 y2 s0 → J p l e (rmk 1 25) s m args below meth c D A 4 0 0 (MQ below (va_Qi (fun (r : Int32) (u : Vl) => Q r u) (fun u t => va_P D.1 vwCl ((fun (u : Vl) => List.flatten [bX9 cI cJ cZ a0 r0 u]) u) t.heap ∧ va_D A ((fun (u : Vl) => List.flatten [bX9 cI cJ cZ a0 r0 u]) u)) A) args s 0 0 A) 112 [(0, .ref a0), (1, .int y1), (2, .int y2)] [.int s0, .ref a0] (List.flatten [bX9 cI cJ cZ a0 r0 v0]) := by
  intro v0 y1 y2 s0 h
  obtain ⟨v0s_10, ev0s_10⟩ : ∃ z : Vl, z = setI v0 37 s0 := ⟨_, rfl⟩
  have h := h v0s_10 ev0s_10
  refine J_put C 115 9 inlX9 tyX9 tyX9_ok nmX9 0 37 rfl rfl (by decide) wd447 rfl rfl rfl rfl rfl (List.flatten [bX9 cI cJ cZ a0 r0 v0s_10]) (by subst ev0s_10; rfl) dX9_takeNumber_112 rfl ?_
  refine J_aload_n C 116 dX9_takeNumber_115 rfl rfl ?_
  refine J_dup C 117 dX9_takeNumber_116 rfl rfl ?_
  refine J_get C 120 9 inlX9 0 34 rfl rfl (by decide) wd402 rfl rfl dX9_takeNumber_117 rfl ?_
  refine J_iconst C 121 dX9_takeNumber_120 rfl ki_1 ?_
  refine J_iadd C 122 dX9_takeNumber_121 rfl ?_
  obtain ⟨v0s_11, ev0s_11⟩ : ∃ z : Vl, z = setI v0s_10 34 ((v0s_10.1 34) + 1) := ⟨_, rfl⟩
  have h := h v0s_11 ev0s_11
  refine J_put C 125 9 inlX9 tyX9 tyX9_ok nmX9 0 34 rfl rfl (by decide) wd402 rfl rfl rfl rfl rfl (List.flatten [bX9 cI cJ cZ a0 r0 v0s_11]) (by subst ev0s_11; rfl) dX9_takeNumber_122 rfl ?_
  refine J_goto C 42 dX9_takeNumber_125 rfl ?_
  refine J_loc [0, 1, 2] rfl ?_
  exact hB42 v0s_11 y1 y2 h
def wp_X9_takeNumber_c42  (Q : Int32 → Vl → Prop) : Nat → Vl → Int32 → Int32 → Prop
  | 0 => fun _ _ _ => False
  | n + 1 => fun v0 y1 y2 => (((v0.1 32) ≤ (v0.1 34) → wp_X9_takeNumber_c128  Q v0 y1 y2) ∧ (¬ (v0.1 32) ≤ (v0.1 34) → vp_in (v0.1 34) 500 ∧ (wp_X9_in (Int32.toInt64 (v0.2.2.1 31 (Int32.toNatClampNeg (v0.1 34)))) 48 57 (fun r_9 => ((r_9 = 0 → wp_X9_takeNumber_c128  Q v0 y1 y2) ∧ (¬ r_9 = 0 → (((v0.1 37) ≤ 100000 → vp_in (v0.1 34) 500 ∧ (wp_X9_takeNumber_c112  Q (wp_X9_takeNumber_c42  Q n) v0 y1 y2 (((10 * (v0.1 37)) + (v0.2.2.1 31 (Int32.toNatClampNeg (v0.1 34)))) - 48))) ∧ (¬ (v0.1 37) ≤ 100000 → wp_X9_takeNumber_c112  Q (wp_X9_takeNumber_c42  Q n) v0 y1 y2 (v0.1 37)))))))))
set_option maxHeartbeats 4000000 in
set_option maxRecDepth 100000 in
theorem wk_X9_takeNumber_c42 {p : Program} {l : Launch} {e : Env} {s : State} {m : MethodId} {args : Array Value} {below : List Frame} {meth : Method} {c : Code} {D : GG} {A : Nat → Prop} {cI cJ cZ cS : ClassId} {a0 : Nat} {r0 : Nat → Nat}  {Q : Int32 → Vl → Prop} (C : Cx p s m args c D (tyL cI cJ cZ cS) A RX9 cX9_takeNumber 4) (hr : meth.sig.returnType = some .int) (hk : meth.locks = false) : ∀ (n : Nat) (v0 : Vl) (y1 : Int32) (y2 : Int32), wp_X9_takeNumber_c42  Q n v0 y1 y2 → J p l e (rmk 1 25) s m args below meth c D A 4 0 0 (MQ below (va_Qi (fun (r : Int32) (u : Vl) => Q r u) (fun u t => va_P D.1 vwCl ((fun (u : Vl) => List.flatten [bX9 cI cJ cZ a0 r0 u]) u) t.heap ∧ va_D A ((fun (u : Vl) => List.flatten [bX9 cI cJ cZ a0 r0 u]) u)) A) args s 0 0 A) 42 [(0, .ref a0), (1, .int y1), (2, .int y2)] [] (List.flatten [bX9 cI cJ cZ a0 r0 v0]) := by
  intro n
  induction n with
  | zero =>
    intro v0 y1 y2 h
    exact False.elim h
  | succ n ih =>
    intro v0 y1 y2 h
    refine J_aload_n C 43 dX9_takeNumber_42 rfl rfl ?_
    refine J_get C 46 9 inlX9 0 34 rfl rfl (by decide) wd402 rfl rfl dX9_takeNumber_43 rfl ?_
    refine J_aload_n C 47 dX9_takeNumber_46 rfl rfl ?_
    refine J_get C 50 9 inlX9 0 32 rfl rfl (by decide) wd220 rfl rfl dX9_takeNumber_47 rfl ?_
    refine J_icmp_ge C 53 128 dX9_takeNumber_50 rfl rfl (fun c => ?_) (fun c => ?_)
    · have h := h.1 c
      refine J_loc [0, 1, 2] rfl ?_
      exact wk_X9_takeNumber_c128 C hr hk v0 y1 y2 h
    · have h := h.2 c
      refine J_aload_n C 54 dX9_takeNumber_53 rfl rfl ?_
      refine J_get C 57 9 inlX9 0 31 rfl rfl (by decide) wd168 rfl rfl dX9_takeNumber_54 rfl ?_
      refine J_aload_n C 58 dX9_takeNumber_57 rfl rfl ?_
      refine J_get C 61 9 inlX9 0 34 rfl rfl (by decide) wd402 rfl rfl dX9_takeNumber_58 rfl ?_
      obtain ⟨hi, h⟩ := h
      refine J_iald C 62 11 0 rfl rfl hi dX9_takeNumber_61 rfl ?_
      refine J_i2l C 63 dX9_takeNumber_62 rfl ?_
      refine J_ldc2 C 66 wd452 dX9_takeNumber_63 rfl ?_
      refine J_ldc2 C 69 wd453 dX9_takeNumber_66 rfl ?_
      refine J_callBiS (Bs := [bX9 cI cJ cZ a0 r0 v0]) (As := [.long (Int32.toInt64 (v0.2.2.1 31 (Int32.toNatClampNeg (v0.1 34)))), .long 48, .long 57]) C 72 (c_X9_in l D cI cJ cZ cS (Int32.toInt64 (v0.2.2.1 31 (Int32.toNatClampNeg (v0.1 34)))) 48 57 _ h) wd225 wd223 wd5 wd224 hdX9_in ⟨Nat.le_of_ble_eq_true rfl, Nat.le_of_ble_eq_true rfl⟩ ⟨Nat.zero_le _, Nat.zero_le _⟩ rfl (Nat.le_of_ble_eq_true rfl) [] [0] 1 rfl (by decide +kernel) rfl rfl (fun (u : Unit) => ([] : List va_W)) (fun _ => rfl) [0] (by decide +kernel) (fun _ => rfl) rfl (fun (u : Unit) => [bX9 cI cJ cZ a0 r0 v0]) (fun _ => rfl) dX9_takeNumber_69 rfl (fun r_9 u h => ?_)
      refine J_if_eq C 75 128 dX9_takeNumber_72 rfl rfl (fun c => ?_) (fun c => ?_)
      · have h := h.1 c
        refine J_loc [0, 1, 2] rfl ?_
        exact wk_X9_takeNumber_c128 C hr hk v0 y1 y2 h
      · have h := h.2 c
        refine J_aload_n C 76 dX9_takeNumber_75 rfl rfl ?_
        refine J_aload_n C 77 dX9_takeNumber_76 rfl rfl ?_
        refine J_get C 80 9 inlX9 0 37 rfl rfl (by decide) wd447 rfl rfl dX9_takeNumber_77 rfl ?_
        refine J_ldc C 82 wd455 dX9_takeNumber_80 rfl ?_
        refine J_icmp_le C 85 92 dX9_takeNumber_82 rfl rfl (fun c => ?_) (fun c => ?_)
        · have h := h.1 c
          refine J_bipush C 94 dX9_takeNumber_92 rfl kb_10 ?_
          refine J_aload_n C 95 dX9_takeNumber_94 rfl rfl ?_
          refine J_get C 98 9 inlX9 0 37 rfl rfl (by decide) wd447 rfl rfl dX9_takeNumber_95 rfl ?_
          refine J_imul C 99 dX9_takeNumber_98 rfl ?_
          refine J_aload_n C 100 dX9_takeNumber_99 rfl rfl ?_
          refine J_get C 103 9 inlX9 0 31 rfl rfl (by decide) wd168 rfl rfl dX9_takeNumber_100 rfl ?_
          refine J_aload_n C 104 dX9_takeNumber_103 rfl rfl ?_
          refine J_get C 107 9 inlX9 0 34 rfl rfl (by decide) wd402 rfl rfl dX9_takeNumber_104 rfl ?_
          obtain ⟨hi, h⟩ := h
          refine J_iald C 108 11 0 rfl rfl hi dX9_takeNumber_107 rfl ?_
          refine J_iadd C 109 dX9_takeNumber_108 rfl ?_
          refine J_bipush C 111 dX9_takeNumber_109 rfl kb_48 ?_
          refine J_isub C 112 dX9_takeNumber_111 rfl ?_
          refine J_loc [0, 1, 2] rfl ?_
          exact wk_X9_takeNumber_c112 C hr hk ih v0 y1 y2 (((10 * (v0.1 37)) + (v0.2.2.1 31 (Int32.toNatClampNeg (v0.1 34)))) - 48) h
        · have h := h.2 c
          refine J_aload_n C 86 dX9_takeNumber_85 rfl rfl ?_
          refine J_get C 89 9 inlX9 0 37 rfl rfl (by decide) wd447 rfl rfl dX9_takeNumber_86 rfl ?_
          refine J_goto C 112 dX9_takeNumber_89 rfl ?_
          refine J_loc [0, 1, 2] rfl ?_
          exact wk_X9_takeNumber_c112 C hr hk ih v0 y1 y2 (v0.1 37) h
def wp_X9_takeNumber (v0 : Vl) (x1 : Int32) (x2 : Int32) (Q : Int32 → Vl → Prop) : Prop := wp_X9_here v0 (fun r_2 u_1 => wp_X9_in (Int32.toInt64 r_2) 48 57 (fun r_3 => ((¬ r_3 = 0 → ∀ v0s_4 : Vl, v0s_4 = setI u_1 38 (u_1.1 34) → ∀ v0s_5 : Vl, v0s_5 = setI v0s_4 37 0 → (∃ k : Nat, wp_X9_takeNumber_c42  Q k v0s_5 x1 x2)) ∧ (r_3 = 0 → wp_X9_fails u_1 1 (u_1.1 34) (fun r_13 u_12 => Q r_13 u_12)))))
set_option maxHeartbeats 4000000 in
set_option maxRecDepth 100000 in
theorem c_X9_takeNumber (l : Launch) (D : GG) (cI cJ cZ cS : ClassId) (a0 : Nat) (r0 : Nat → Nat) (v0 : Vl) (x1 : Int32) (x2 : Int32) (Q : Int32 → Vl → Prop) (h : wp_X9_takeNumber v0 x1 x2 Q) : Mi l D (tyL cI cJ cZ cS) yX9_takeNumber cX9_takeNumber 4 .int 1 25 [.ref a0, .int x1, .int x2] (List.flatten [bX9 cI cJ cZ a0 r0 v0]) (fun (r : Int32) (u : Vl) => Q r u) (fun (u : Vl) => List.flatten [bX9 cI cJ cZ a0 r0 u]) := by
  refine Mi_of RX9 [(0, .ref a0), (1, .int x1), (2, .int x2)] (by decide +kernel) rfl rfl (Nat.le_of_ble_eq_true rfl) ?_
  intro p e s m args below meth c A C hr hk
  refine J_aload_n C 1 dX9_takeNumber_0 rfl rfl ?_
  refine J_callBiV (Bs := [bX9 cI cJ cZ a0 r0 v0]) (As := []) C 4 (c_X9_here l D cI cJ cZ cS a0 r0 v0 _ h) wd409 wd406 wd5 wd407 wd408 9 0 rfl rfl rfl hdX9_here ⟨Nat.le_of_ble_eq_true rfl, Nat.le_of_ble_eq_true rfl⟩ ⟨Nat.zero_le _, Nat.zero_le _⟩ rfl (Nat.le_of_ble_eq_true rfl) [0] [] 1 rfl (by decide +kernel) rfl rfl (fun (u : Vl) => [bX9 cI cJ cZ a0 r0 u]) (fun _ => rfl) [0] (by decide +kernel) (fun _ => rfl) rfl (fun (u : Vl) => [bX9 cI cJ cZ a0 r0 u]) (fun _ => rfl) dX9_takeNumber_1 rfl (fun r_2 u h => ?_)
  obtain ⟨u_1, hu⟩ : ∃ z, z = u := ⟨_, rfl⟩
  subst hu
  refine J_istore_n C 5 [(3, .int r_2), (0, .ref a0), (1, .int x1), (2, .int x2)] dX9_takeNumber_4 rfl (by decide) rfl ?_
  refine J_iload_n C 6 dX9_takeNumber_5 rfl rfl ?_
  refine J_i2l C 7 dX9_takeNumber_6 rfl ?_
  refine J_ldc2 C 10 wd452 dX9_takeNumber_7 rfl ?_
  refine J_ldc2 C 13 wd453 dX9_takeNumber_10 rfl ?_
  refine J_callBiS (Bs := [bX9 cI cJ cZ a0 r0 u_1]) (As := [.long (Int32.toInt64 r_2), .long 48, .long 57]) C 16 (c_X9_in l D cI cJ cZ cS (Int32.toInt64 r_2) 48 57 _ h) wd225 wd223 wd5 wd224 hdX9_in ⟨Nat.le_of_ble_eq_true rfl, Nat.le_of_ble_eq_true rfl⟩ ⟨Nat.zero_le _, Nat.zero_le _⟩ rfl (Nat.le_of_ble_eq_true rfl) [] [0] 1 rfl (by decide +kernel) rfl rfl (fun (u : Unit) => ([] : List va_W)) (fun _ => rfl) [0] (by decide +kernel) (fun _ => rfl) rfl (fun (u : Unit) => [bX9 cI cJ cZ a0 r0 u_1]) (fun _ => rfl) dX9_takeNumber_13 rfl (fun r_3 u h => ?_)
  refine J_if_ne C 19 29 dX9_takeNumber_16 rfl rfl (fun c => ?_) (fun c => ?_)
  · have h := h.1 c
    refine J_aload_n C 30 dX9_takeNumber_29 rfl rfl ?_
    refine J_aload_n C 31 dX9_takeNumber_30 rfl rfl ?_
    refine J_get C 34 9 inlX9 0 34 rfl rfl (by decide) wd402 rfl rfl dX9_takeNumber_31 rfl ?_
    obtain ⟨v0s_4, ev0s_4⟩ : ∃ z : Vl, z = setI u_1 38 (u_1.1 34) := ⟨_, rfl⟩
    have h := h v0s_4 ev0s_4
    refine J_put C 37 9 inlX9 tyX9 tyX9_ok nmX9 0 38 rfl rfl (by decide) wd454 rfl rfl rfl rfl rfl (List.flatten [bX9 cI cJ cZ a0 r0 v0s_4]) (by subst ev0s_4; rfl) dX9_takeNumber_34 rfl ?_
    refine J_aload_n C 38 dX9_takeNumber_37 rfl rfl ?_
    refine J_iconst C 39 dX9_takeNumber_38 rfl ki_0 ?_
    obtain ⟨v0s_5, ev0s_5⟩ : ∃ z : Vl, z = setI v0s_4 37 0 := ⟨_, rfl⟩
    have h := h v0s_5 ev0s_5
    refine J_put C 42 9 inlX9 tyX9 tyX9_ok nmX9 0 37 rfl rfl (by decide) wd447 rfl rfl rfl rfl rfl (List.flatten [bX9 cI cJ cZ a0 r0 v0s_5]) (by subst ev0s_5; rfl) dX9_takeNumber_39 rfl ?_
    refine J_loc [1, 2, 3] rfl ?_
    obtain ⟨n1, h⟩ := h
    exact wk_X9_takeNumber_c42 C hr hk n1 v0s_5 x1 x2 h
  · have h := h.2 c
    refine J_aload_n C 20 dX9_takeNumber_19 rfl rfl ?_
    refine J_iconst C 21 dX9_takeNumber_20 rfl ki_1 ?_
    refine J_aload_n C 22 dX9_takeNumber_21 rfl rfl ?_
    refine J_get C 25 9 inlX9 0 34 rfl rfl (by decide) wd402 rfl rfl dX9_takeNumber_22 rfl ?_
    refine J_callBiV (Bs := [bX9 cI cJ cZ a0 r0 u_1]) (As := [.int 1, .int (u_1.1 34)]) C 28 (c_X9_fails l D cI cJ cZ cS a0 r0 u_1 1 (u_1.1 34) _ h) wd438 wd435 wd5 wd436 wd437 9 0 rfl rfl rfl hdX9_fails ⟨Nat.le_of_ble_eq_true rfl, Nat.le_of_ble_eq_true rfl⟩ ⟨Nat.zero_le _, Nat.zero_le _⟩ rfl (Nat.le_of_ble_eq_true rfl) [0] [] 1 rfl (by decide +kernel) rfl rfl (fun (u : Vl) => [bX9 cI cJ cZ a0 r0 u]) (fun _ => rfl) [0] (by decide +kernel) (fun _ => rfl) rfl (fun (u : Vl) => [bX9 cI cJ cZ a0 r0 u]) (fun _ => rfl) dX9_takeNumber_25 rfl (fun r_13 u h => ?_)
    obtain ⟨u_12, hu⟩ : ∃ z, z = u := ⟨_, rfl⟩
    subst hu
    exact J_iret C hr hk u_12 rfl dX9_takeNumber_28 h
