def wp_X7_append (v0 : Vl) (x1 : Int32) (Q : Vl → Prop) : Prop := ((500 ≤ (v0.1 1) → Q v0) ∧ (¬ 500 ≤ (v0.1 1) → wp_X8_put 500 (v0.2.2.1 0) (v0.1 1) x1 (fun u_1 => ∀ v0s_2 : Vl, v0s_2 = setRA v0 0 u_1 → ∀ v0s_3 : Vl, v0s_3 = setI v0s_2 1 ((v0s_2.1 1) + 1) → Q v0s_3)))
set_option maxHeartbeats 4000000 in
set_option maxRecDepth 100000 in
theorem c_X7_append (l : Launch) (D : GG) (cI cJ cZ cS : ClassId) (a0 : Nat) (r0 : Nat → Nat) (v0 : Vl) (x1 : Int32) (Q : Vl → Prop) (h : wp_X7_append v0 x1 Q) : Mv l D (tyL cI cJ cZ cS) yX7_append cX7_append 2 1 22 [.ref a0, .int x1] (List.flatten [bX7 cI cJ cZ a0 r0 v0]) (fun (u : Vl) => Q u) (fun (u : Vl) => List.flatten [bX7 cI cJ cZ a0 r0 u]) := by
  refine Mv_of RX7 [(0, .ref a0), (1, .int x1)] (by decide +kernel) rfl rfl (Nat.le_of_ble_eq_true rfl) ?_
  intro p e s m args below meth c A C hr hk
  refine J_aload_n C 1 dX7_append_0 rfl rfl ?_
  refine J_get C 4 7 inlX7 0 1 rfl rfl (by decide) wd213 rfl rfl dX7_append_1 rfl ?_
  refine J_aload_n C 5 dX7_append_4 rfl rfl ?_
  refine J_get C 8 7 inlX7 0 0 rfl rfl (by decide) wd57 rfl rfl dX7_append_5 rfl ?_
  refine J_alen C 9 1 0 rfl rfl kn_500 dX7_append_8 rfl ?_
  refine J_icmp_ge C 12 34 dX7_append_9 rfl rfl (fun c => ?_) (fun c => ?_)
  · have h := h.1 c
    exact J_vret C hr hk v0 rfl dX7_append_34 h
  · have h := h.2 c
    refine J_aload_n C 13 dX7_append_12 rfl rfl ?_
    refine J_get C 16 7 inlX7 0 0 rfl rfl (by decide) wd57 rfl rfl dX7_append_13 rfl ?_
    refine J_aload_n C 17 dX7_append_16 rfl rfl ?_
    refine J_get C 20 7 inlX7 0 1 rfl rfl (by decide) wd213 rfl rfl dX7_append_17 rfl ?_
    refine J_iload_n C 21 dX7_append_20 rfl rfl ?_
    refine J_call1vSN (As := [.ref (r0 0), .int (v0.1 1), .int x1]) C 24 (c_X8_put l D cI cJ cZ cS 500 (r0 0) (v0.2.2.1 0) (v0.1 1) x1 _ h) wd83 (mi 65 rfl) wd2 wd82 hdX8_put ⟨Nat.le_of_ble_eq_true rfl, Nat.le_of_ble_eq_true rfl⟩ ⟨Nat.zero_le _, Nat.zero_le _⟩ rfl (Nat.le_of_ble_eq_true rfl) 1 rfl (fun u => .inl (cI, 500, .inl u)) (fun _ => rfl) (fun (u : (Nat → Int32)) => List.flatten [bX7 cI cJ cZ a0 r0 (setRA v0 0 u)]) (fun _ => rfl) dX7_append_21 rfl (fun u h => ?_)
    obtain ⟨u_1, hu⟩ : ∃ z, z = u := ⟨_, rfl⟩
    subst hu
    obtain ⟨v0s_2, ev0s_2⟩ : ∃ z : Vl, z = setRA v0 0 u_1 := ⟨_, rfl⟩
    have h := h v0s_2 ev0s_2
    refine J_ws (ws' := List.flatten [bX7 cI cJ cZ a0 r0 v0s_2]) (by subst ev0s_2; rfl) ?_
    refine J_aload_n C 25 dX7_append_24 rfl rfl ?_
    refine J_dup C 26 dX7_append_25 rfl rfl ?_
    refine J_get C 29 7 inlX7 0 1 rfl rfl (by decide) wd213 rfl rfl dX7_append_26 rfl ?_
    refine J_iconst C 30 dX7_append_29 rfl ki_1 ?_
    refine J_iadd C 31 dX7_append_30 rfl ?_
    obtain ⟨v0s_3, ev0s_3⟩ : ∃ z : Vl, z = setI v0s_2 1 ((v0s_2.1 1) + 1) := ⟨_, rfl⟩
    have h := h v0s_3 ev0s_3
    refine J_put C 34 7 inlX7 tyX7 tyX7_ok nmX7 0 1 rfl rfl (by decide) wd213 rfl rfl rfl rfl rfl (List.flatten [bX7 cI cJ cZ a0 r0 v0s_3]) (by subst ev0s_3; rfl) dX7_append_31 rfl ?_
    exact J_vret C hr hk v0s_3 rfl dX7_append_34 h
def wp_X7_byteAt (v0 : Vl) (x1 : Int32) (Q : Int32 → Prop) : Prop := ((x1 < 0 → Q (-1)) ∧ (¬ x1 < 0 → (((v0.1 1) ≤ x1 → Q (-1)) ∧ (¬ (v0.1 1) ≤ x1 → ((500 ≤ x1 → Q (-1)) ∧ (¬ 500 ≤ x1 → vp_in x1 500 ∧ (Q (v0.2.2.1 0 (Int32.toNatClampNeg x1)))))))))
set_option maxHeartbeats 4000000 in
set_option maxRecDepth 100000 in
theorem c_X7_byteAt (l : Launch) (D : GG) (cI cJ cZ cS : ClassId) (a0 : Nat) (r0 : Nat → Nat) (v0 : Vl) (x1 : Int32) (Q : Int32 → Prop) (h : wp_X7_byteAt v0 x1 Q) : Mi l D (tyL cI cJ cZ cS) yX7_byteAt cX7_byteAt 2 .int 0 0 [.ref a0, .int x1] (List.flatten [bX7 cI cJ cZ a0 r0 v0]) (fun (r : Int32) (u : Unit) => Q r) (fun (u : Unit) => List.flatten [bX7 cI cJ cZ a0 r0 v0]) := by
  refine Mi_of RX7 [(0, .ref a0), (1, .int x1)] (by decide +kernel) rfl rfl (Nat.le_of_ble_eq_true rfl) ?_
  intro p e s m args below meth c A C hr hk
  refine J_iload_n C 1 dX7_byteAt_0 rfl rfl ?_
  refine J_if_lt C 4 30 dX7_byteAt_1 rfl rfl (fun c => ?_) (fun c => ?_)
  · have h := h.1 c
    refine J_iconst C 31 dX7_byteAt_30 rfl ki_m1 ?_
    exact J_iret C hr hk () rfl dX7_byteAt_31 h
  · have h := h.2 c
    refine J_iload_n C 5 dX7_byteAt_4 rfl rfl ?_
    refine J_aload_n C 6 dX7_byteAt_5 rfl rfl ?_
    refine J_get C 9 7 inlX7 0 1 rfl rfl (by decide) wd213 rfl rfl dX7_byteAt_6 rfl ?_
    refine J_icmp_ge C 12 30 dX7_byteAt_9 rfl rfl (fun c => ?_) (fun c => ?_)
    · have h := h.1 c
      refine J_iconst C 31 dX7_byteAt_30 rfl ki_m1 ?_
      exact J_iret C hr hk () rfl dX7_byteAt_31 h
    · have h := h.2 c
      refine J_iload_n C 13 dX7_byteAt_12 rfl rfl ?_
      refine J_aload_n C 14 dX7_byteAt_13 rfl rfl ?_
      refine J_get C 17 7 inlX7 0 0 rfl rfl (by decide) wd57 rfl rfl dX7_byteAt_14 rfl ?_
      refine J_alen C 18 1 0 rfl rfl kn_500 dX7_byteAt_17 rfl ?_
      refine J_icmp_ge C 21 30 dX7_byteAt_18 rfl rfl (fun c => ?_) (fun c => ?_)
      · have h := h.1 c
        refine J_iconst C 31 dX7_byteAt_30 rfl ki_m1 ?_
        exact J_iret C hr hk () rfl dX7_byteAt_31 h
      · have h := h.2 c
        refine J_aload_n C 22 dX7_byteAt_21 rfl rfl ?_
        refine J_get C 25 7 inlX7 0 0 rfl rfl (by decide) wd57 rfl rfl dX7_byteAt_22 rfl ?_
        refine J_iload_n C 26 dX7_byteAt_25 rfl rfl ?_
        obtain ⟨hi, h⟩ := h
        refine J_iald C 27 1 0 rfl rfl hi dX7_byteAt_26 rfl ?_
        refine J_goto C 31 dX7_byteAt_27 rfl ?_
        exact J_iret C hr hk () rfl dX7_byteAt_31 h
def wp_X7_clear (v0 : Vl)  (Q : Vl → Prop) : Prop := ∀ v0s_1 : Vl, v0s_1 = setI v0 1 0 → Q v0s_1
set_option maxHeartbeats 4000000 in
set_option maxRecDepth 100000 in
theorem c_X7_clear (l : Launch) (D : GG) (cI cJ cZ cS : ClassId) (a0 : Nat) (r0 : Nat → Nat) (v0 : Vl)  (Q : Vl → Prop) (h : wp_X7_clear v0 Q) : Mv l D (tyL cI cJ cZ cS) yX7_clear cX7_clear 1 0 0 [.ref a0] (List.flatten [bX7 cI cJ cZ a0 r0 v0]) (fun (u : Vl) => Q u) (fun (u : Vl) => List.flatten [bX7 cI cJ cZ a0 r0 u]) := by
  refine Mv_of RX7 [(0, .ref a0)] (by decide +kernel) rfl rfl (Nat.le_of_ble_eq_true rfl) ?_
  intro p e s m args below meth c A C hr hk
  refine J_aload_n C 1 dX7_clear_0 rfl rfl ?_
  refine J_iconst C 2 dX7_clear_1 rfl ki_0 ?_
  obtain ⟨v0s_1, ev0s_1⟩ : ∃ z : Vl, z = setI v0 1 0 := ⟨_, rfl⟩
  have h := h v0s_1 ev0s_1
  refine J_put C 5 7 inlX7 tyX7 tyX7_ok nmX7 0 1 rfl rfl (by decide) wd213 rfl rfl rfl rfl rfl (List.flatten [bX7 cI cJ cZ a0 r0 v0s_1]) (by subst ev0s_1; rfl) dX7_clear_2 rfl ?_
  exact J_vret C hr hk v0s_1 rfl dX7_clear_5 h
def wp_X7_fail (v0 : Vl) (x1 : Int32) (x2 : Int32) (Q : Int32 → Vl → Prop) : Prop := ∀ v0s_1 : Vl, v0s_1 = setI v0 6 x1 → ∀ v0s_2 : Vl, v0s_2 = setI v0s_1 7 x2 → Q 0 v0s_2
set_option maxHeartbeats 4000000 in
set_option maxRecDepth 100000 in
theorem c_X7_fail (l : Launch) (D : GG) (cI cJ cZ cS : ClassId) (a0 : Nat) (r0 : Nat → Nat) (v0 : Vl) (x1 : Int32) (x2 : Int32) (Q : Int32 → Vl → Prop) (h : wp_X7_fail v0 x1 x2 Q) : Mi l D (tyL cI cJ cZ cS) yX7_fail cX7_fail 3 .boolean 0 0 [.ref a0, .int x1, .int x2] (List.flatten [bX7 cI cJ cZ a0 r0 v0]) (fun (r : Int32) (u : Vl) => Q r u) (fun (u : Vl) => List.flatten [bX7 cI cJ cZ a0 r0 u]) := by
  refine Mi_of RX7 [(0, .ref a0), (1, .int x1), (2, .int x2)] (by decide +kernel) rfl rfl (Nat.le_of_ble_eq_true rfl) ?_
  intro p e s m args below meth c A C hr hk
  refine J_aload_n C 1 dX7_fail_0 rfl rfl ?_
  refine J_iload_n C 2 dX7_fail_1 rfl rfl ?_
  obtain ⟨v0s_1, ev0s_1⟩ : ∃ z : Vl, z = setI v0 6 x1 := ⟨_, rfl⟩
  have h := h v0s_1 ev0s_1
  refine J_put C 5 7 inlX7 tyX7 tyX7_ok nmX7 0 6 rfl rfl (by decide) wd239 rfl rfl rfl rfl rfl (List.flatten [bX7 cI cJ cZ a0 r0 v0s_1]) (by subst ev0s_1; rfl) dX7_fail_2 rfl ?_
  refine J_aload_n C 6 dX7_fail_5 rfl rfl ?_
  refine J_iload_n C 7 dX7_fail_6 rfl rfl ?_
  obtain ⟨v0s_2, ev0s_2⟩ : ∃ z : Vl, z = setI v0s_1 7 x2 := ⟨_, rfl⟩
  have h := h v0s_2 ev0s_2
  refine J_put C 10 7 inlX7 tyX7 tyX7_ok nmX7 0 7 rfl rfl (by decide) wd58 rfl rfl rfl rfl rfl (List.flatten [bX7 cI cJ cZ a0 r0 v0s_2]) (by subst ev0s_2; rfl) dX7_fail_7 rfl ?_
  refine J_iconst C 11 dX7_fail_10 rfl ki_0 ?_
  exact J_zret C hr hk rfl v0s_2 rfl dX7_fail_11 h
def wp_X7_skipBlanks_c5  (Q : Vl → Prop) : Nat → Vl → Int32 → Prop
  | 0 => fun _ _ => False
  | n + 1 => fun v0 y1 => (((v0.1 1) ≤ y1 → Q v0) ∧ (¬ (v0.1 1) ≤ y1 → wp_X7_byteAt v0 y1 (fun r_2 => ((¬ r_2 = 32 → Q v0) ∧ (r_2 = 32 → ∀ v0s_3 : Vl, v0s_3 = setI v0 2 (y1 + 1) → ∀ x_4 : Int32, x_4 = y1 + 1 → wp_X7_skipBlanks_c5  Q n v0s_3 x_4)))))
set_option maxHeartbeats 4000000 in
set_option maxRecDepth 100000 in
theorem wk_X7_skipBlanks_c5 {p : Program} {l : Launch} {e : Env} {s : State} {m : MethodId} {args : Array Value} {below : List Frame} {meth : Method} {c : Code} {D : GG} {A : Nat → Prop} {cI cJ cZ cS : ClassId} {a0 : Nat} {r0 : Nat → Nat}  {Q : Vl → Prop} (C : Cx p s m args c D (tyL cI cJ cZ cS) A RX7 cX7_skipBlanks 2) (hr : meth.sig.returnType = none) (hk : meth.locks = false) : ∀ (n : Nat) (v0 : Vl) (y1 : Int32), wp_X7_skipBlanks_c5  Q n v0 y1 → J p l e (rmk 1 21) s m args below meth c D A 2 0 0 (MQ below (va_Qv (fun (u : Vl) => Q u) (fun u t => va_P D.1 vwCl ((fun (u : Vl) => List.flatten [bX7 cI cJ cZ a0 r0 u]) u) t.heap ∧ va_D A ((fun (u : Vl) => List.flatten [bX7 cI cJ cZ a0 r0 u]) u)) A) args s 0 0 A) 5 [(0, .ref a0), (1, .int y1)] [] (List.flatten [bX7 cI cJ cZ a0 r0 v0]) := by
  intro n
  induction n with
  | zero =>
    intro v0 y1 h
    exact False.elim h
  | succ n ih =>
    intro v0 y1 h
    refine J_iload_n C 6 dX7_skipBlanks_5 rfl rfl ?_
    refine J_aload_n C 7 dX7_skipBlanks_6 rfl rfl ?_
    refine J_get C 10 7 inlX7 0 1 rfl rfl (by decide) wd213 rfl rfl dX7_skipBlanks_7 rfl ?_
    refine J_icmp_ge C 13 36 dX7_skipBlanks_10 rfl rfl (fun c => ?_) (fun c => ?_)
    · have h := h.1 c
      exact J_vret C hr hk v0 rfl dX7_skipBlanks_36 h
    · have h := h.2 c
      refine J_aload_n C 14 dX7_skipBlanks_13 rfl rfl ?_
      refine J_iload_n C 15 dX7_skipBlanks_14 rfl rfl ?_
      refine J_callBiV (Bs := [bX7 cI cJ cZ a0 r0 v0]) (As := [.int y1]) C 18 (c_X7_byteAt l D cI cJ cZ cS a0 r0 v0 y1 _ h) wd251 wd248 wd15 wd249 wd250 7 0 rfl rfl rfl hdX7_byteAt ⟨Nat.le_of_ble_eq_true rfl, Nat.le_of_ble_eq_true rfl⟩ ⟨Nat.zero_le _, Nat.zero_le _⟩ rfl (Nat.le_of_ble_eq_true rfl) [0] [] 1 rfl (by decide +kernel) rfl rfl (fun (u : Unit) => [bX7 cI cJ cZ a0 r0 v0]) (fun _ => rfl) [0] (by decide +kernel) (fun _ => rfl) rfl (fun (u : Unit) => [bX7 cI cJ cZ a0 r0 v0]) (fun _ => rfl) dX7_skipBlanks_15 rfl (fun r_2 u h => ?_)
      refine J_bipush C 20 dX7_skipBlanks_18 rfl kb_32 ?_
      refine J_icmp_ne C 23 36 dX7_skipBlanks_20 rfl rfl (fun c => ?_) (fun c => ?_)
      · have h := h.1 c
        exact J_vret C hr hk v0 rfl dX7_skipBlanks_36 h
      · have h := h.2 c
        refine J_aload_n C 24 dX7_skipBlanks_23 rfl rfl ?_
        refine J_iload_n C 25 dX7_skipBlanks_24 rfl rfl ?_
        refine J_iconst C 26 dX7_skipBlanks_25 rfl ki_1 ?_
        refine J_iadd C 27 dX7_skipBlanks_26 rfl ?_
        obtain ⟨v0s_3, ev0s_3⟩ : ∃ z : Vl, z = setI v0 2 (y1 + 1) := ⟨_, rfl⟩
        have h := h v0s_3 ev0s_3
        refine J_put C 30 7 inlX7 tyX7 tyX7_ok nmX7 0 2 rfl rfl (by decide) wd238 rfl rfl rfl rfl rfl (List.flatten [bX7 cI cJ cZ a0 r0 v0s_3]) (by subst ev0s_3; rfl) dX7_skipBlanks_27 rfl ?_
        obtain ⟨x_4, ex_4⟩ : ∃ z : Int32, z = y1 + 1 := ⟨_, rfl⟩
        have h := h x_4 ex_4
        refine J_iinc C 33 [(1, .int x_4), (0, .ref a0)] dX7_skipBlanks_30 rfl rfl ((kinc_1 _).trans ex_4.symm) (by decide) rfl ?_
        refine J_goto C 5 dX7_skipBlanks_33 rfl ?_
        refine J_loc [1, 0] rfl ?_
        exact ih v0s_3 x_4 h
def wp_X7_skipBlanks (v0 : Vl)  (Q : Vl → Prop) : Prop := ∀ x_1 : Int32, x_1 = (v0.1 2) → (∃ k : Nat, wp_X7_skipBlanks_c5  Q k v0 x_1)
set_option maxHeartbeats 4000000 in
set_option maxRecDepth 100000 in
theorem c_X7_skipBlanks (l : Launch) (D : GG) (cI cJ cZ cS : ClassId) (a0 : Nat) (r0 : Nat → Nat) (v0 : Vl)  (Q : Vl → Prop) (h : wp_X7_skipBlanks v0 Q) : Mv l D (tyL cI cJ cZ cS) yX7_skipBlanks cX7_skipBlanks 2 1 21 [.ref a0] (List.flatten [bX7 cI cJ cZ a0 r0 v0]) (fun (u : Vl) => Q u) (fun (u : Vl) => List.flatten [bX7 cI cJ cZ a0 r0 u]) := by
  refine Mv_of RX7 [(0, .ref a0)] (by decide +kernel) rfl rfl (Nat.le_of_ble_eq_true rfl) ?_
  intro p e s m args below meth c A C hr hk
  refine J_aload_n C 1 dX7_skipBlanks_0 rfl rfl ?_
  refine J_get C 4 7 inlX7 0 2 rfl rfl (by decide) wd238 rfl rfl dX7_skipBlanks_1 rfl ?_
  obtain ⟨x_1, ex_1⟩ : ∃ z : Int32, z = (v0.1 2) := ⟨_, rfl⟩
  have h := h x_1 ex_1
  refine J_nmi ex_1 ?_
  refine J_istore_n C 5 [(1, .int x_1), (0, .ref a0)] dX7_skipBlanks_4 rfl (by decide) rfl ?_
  refine J_loc [1, 0] rfl ?_
  obtain ⟨n1, h⟩ := h
  exact wk_X7_skipBlanks_c5 C hr hk n1 v0 x_1 h
def wp_X7_isAtEnd (v0 : Vl)  (Q : Int32 → Vl → Prop) : Prop := wp_X7_skipBlanks v0 (fun u_1 => (((u_1.1 2) < (u_1.1 1) → Q 0 u_1) ∧ (¬ (u_1.1 2) < (u_1.1 1) → Q 1 u_1)))
set_option maxHeartbeats 4000000 in
set_option maxRecDepth 100000 in
theorem c_X7_isAtEnd (l : Launch) (D : GG) (cI cJ cZ cS : ClassId) (a0 : Nat) (r0 : Nat → Nat) (v0 : Vl)  (Q : Int32 → Vl → Prop) (h : wp_X7_isAtEnd v0 Q) : Mi l D (tyL cI cJ cZ cS) yX7_isAtEnd cX7_isAtEnd 1 .boolean 2 42 [.ref a0] (List.flatten [bX7 cI cJ cZ a0 r0 v0]) (fun (r : Int32) (u : Vl) => Q r u) (fun (u : Vl) => List.flatten [bX7 cI cJ cZ a0 r0 u]) := by
  refine Mi_of RX7 [(0, .ref a0)] (by decide +kernel) rfl rfl (Nat.le_of_ble_eq_true rfl) ?_
  intro p e s m args below meth c A C hr hk
  refine J_aload_n C 1 dX7_isAtEnd_0 rfl rfl ?_
  refine J_callBvV (Bs := [bX7 cI cJ cZ a0 r0 v0]) (As := []) C 4 (c_X7_skipBlanks l D cI cJ cZ cS a0 r0 v0 _ h) wd247 wd244 wd15 wd245 wd246 7 0 rfl rfl rfl hdX7_skipBlanks ⟨Nat.le_of_ble_eq_true rfl, Nat.le_of_ble_eq_true rfl⟩ ⟨Nat.zero_le _, Nat.zero_le _⟩ rfl (Nat.le_of_ble_eq_true rfl) [0] [] 1 rfl (by decide +kernel) rfl rfl (fun (u : Vl) => [bX7 cI cJ cZ a0 r0 u]) (fun _ => rfl) [0] (by decide +kernel) (fun _ => rfl) rfl (fun (u : Vl) => [bX7 cI cJ cZ a0 r0 u]) (fun _ => rfl) dX7_isAtEnd_1 rfl (fun u h => ?_)
  obtain ⟨u_1, hu⟩ : ∃ z, z = u := ⟨_, rfl⟩
  subst hu
  refine J_aload_n C 5 dX7_isAtEnd_4 rfl rfl ?_
  refine J_get C 8 7 inlX7 0 2 rfl rfl (by decide) wd238 rfl rfl dX7_isAtEnd_5 rfl ?_
  refine J_aload_n C 9 dX7_isAtEnd_8 rfl rfl ?_
  refine J_get C 12 7 inlX7 0 1 rfl rfl (by decide) wd213 rfl rfl dX7_isAtEnd_9 rfl ?_
  refine J_icmp_lt C 15 19 dX7_isAtEnd_12 rfl rfl (fun c => ?_) (fun c => ?_)
  · have h := h.1 c
    refine J_iconst C 20 dX7_isAtEnd_19 rfl ki_0 ?_
    exact J_zret C hr hk rfl u_1 rfl dX7_isAtEnd_20 h
  · have h := h.2 c
    refine J_iconst C 16 dX7_isAtEnd_15 rfl ki_1 ?_
    refine J_goto C 20 dX7_isAtEnd_16 rfl ?_
    exact J_zret C hr hk rfl u_1 rfl dX7_isAtEnd_20 h
def wp_X7_isFigure  (x0 : Int32) (Q : Int32 → Prop) : Prop := ((x0 < 48 → Q 0) ∧ (¬ x0 < 48 → ((57 < x0 → Q 0) ∧ (¬ 57 < x0 → Q 1))))
set_option maxHeartbeats 4000000 in
set_option maxRecDepth 100000 in
theorem c_X7_isFigure (l : Launch) (D : GG) (cI cJ cZ cS : ClassId)  (x0 : Int32) (Q : Int32 → Prop) (h : wp_X7_isFigure x0 Q) : Mi l D (tyL cI cJ cZ cS) yX7_isFigure cX7_isFigure 1 .boolean 0 0 [.int x0] (List.flatten ([] : List va_W)) (fun (r : Int32) (u : Unit) => Q r) (fun (u : Unit) => List.flatten ([] : List va_W)) := by
  refine Mi_of RX7 [(0, .int x0)] (by decide +kernel) rfl rfl (Nat.le_of_ble_eq_true rfl) ?_
  intro p e s m args below meth c A C hr hk
  refine J_iload_n C 1 dX7_isFigure_0 rfl rfl ?_
  refine J_bipush C 3 dX7_isFigure_1 rfl kb_48 ?_
  refine J_icmp_lt C 6 16 dX7_isFigure_3 rfl rfl (fun c => ?_) (fun c => ?_)
  · have h := h.1 c
    refine J_iconst C 17 dX7_isFigure_16 rfl ki_0 ?_
    exact J_zret C hr hk rfl () rfl dX7_isFigure_17 h
  · have h := h.2 c
    refine J_iload_n C 7 dX7_isFigure_6 rfl rfl ?_
    refine J_bipush C 9 dX7_isFigure_7 rfl kb_57 ?_
    refine J_icmp_gt C 12 16 dX7_isFigure_9 rfl rfl (fun c => ?_) (fun c => ?_)
    · have h := h.1 c
      refine J_iconst C 17 dX7_isFigure_16 rfl ki_0 ?_
      exact J_zret C hr hk rfl () rfl dX7_isFigure_17 h
    · have h := h.2 c
      refine J_iconst C 13 dX7_isFigure_12 rfl ki_1 ?_
      refine J_goto C 17 dX7_isFigure_13 rfl ?_
      exact J_zret C hr hk rfl () rfl dX7_isFigure_17 h
def wp_X7_isLetter  (x0 : Int32) (Q : Int32 → Prop) : Prop := ((x0 < 97 → Q 0) ∧ (¬ x0 < 97 → ((122 < x0 → Q 0) ∧ (¬ 122 < x0 → Q 1))))
set_option maxHeartbeats 4000000 in
set_option maxRecDepth 100000 in
theorem c_X7_isLetter (l : Launch) (D : GG) (cI cJ cZ cS : ClassId)  (x0 : Int32) (Q : Int32 → Prop) (h : wp_X7_isLetter x0 Q) : Mi l D (tyL cI cJ cZ cS) yX7_isLetter cX7_isLetter 1 .boolean 0 0 [.int x0] (List.flatten ([] : List va_W)) (fun (r : Int32) (u : Unit) => Q r) (fun (u : Unit) => List.flatten ([] : List va_W)) := by
  refine Mi_of RX7 [(0, .int x0)] (by decide +kernel) rfl rfl (Nat.le_of_ble_eq_true rfl) ?_
  intro p e s m args below meth c A C hr hk
  refine J_iload_n C 1 dX7_isLetter_0 rfl rfl ?_
  refine J_bipush C 3 dX7_isLetter_1 rfl kb_97 ?_
  refine J_icmp_lt C 6 16 dX7_isLetter_3 rfl rfl (fun c => ?_) (fun c => ?_)
  · have h := h.1 c
    refine J_iconst C 17 dX7_isLetter_16 rfl ki_0 ?_
    exact J_zret C hr hk rfl () rfl dX7_isLetter_17 h
  · have h := h.2 c
    refine J_iload_n C 7 dX7_isLetter_6 rfl rfl ?_
    refine J_bipush C 9 dX7_isLetter_7 rfl kb_122 ?_
    refine J_icmp_gt C 12 16 dX7_isLetter_9 rfl rfl (fun c => ?_) (fun c => ?_)
    · have h := h.1 c
      refine J_iconst C 17 dX7_isLetter_16 rfl ki_0 ?_
      exact J_zret C hr hk rfl () rfl dX7_isLetter_17 h
    · have h := h.2 c
      refine J_iconst C 13 dX7_isLetter_12 rfl ki_1 ?_
      refine J_goto C 17 dX7_isLetter_13 rfl ?_
      exact J_zret C hr hk rfl () rfl dX7_isLetter_17 h
def wp_X7_isNext (v0 : Vl) (x1 : Int32) (Q : Int32 → Vl → Prop) : Prop := wp_X7_skipBlanks v0 (fun u_1 => wp_X7_byteAt u_1 (u_1.1 2) (fun r_2 => ((¬ r_2 = x1 → Q 0 u_1) ∧ (r_2 = x1 → Q 1 u_1))))
set_option maxHeartbeats 4000000 in
set_option maxRecDepth 100000 in
theorem c_X7_isNext (l : Launch) (D : GG) (cI cJ cZ cS : ClassId) (a0 : Nat) (r0 : Nat → Nat) (v0 : Vl) (x1 : Int32) (Q : Int32 → Vl → Prop) (h : wp_X7_isNext v0 x1 Q) : Mi l D (tyL cI cJ cZ cS) yX7_isNext cX7_isNext 2 .boolean 2 42 [.ref a0, .int x1] (List.flatten [bX7 cI cJ cZ a0 r0 v0]) (fun (r : Int32) (u : Vl) => Q r u) (fun (u : Vl) => List.flatten [bX7 cI cJ cZ a0 r0 u]) := by
  refine Mi_of RX7 [(0, .ref a0), (1, .int x1)] (by decide +kernel) rfl rfl (Nat.le_of_ble_eq_true rfl) ?_
  intro p e s m args below meth c A C hr hk
  refine J_aload_n C 1 dX7_isNext_0 rfl rfl ?_
  refine J_callBvV (Bs := [bX7 cI cJ cZ a0 r0 v0]) (As := []) C 4 (c_X7_skipBlanks l D cI cJ cZ cS a0 r0 v0 _ h) wd247 wd244 wd15 wd245 wd246 7 0 rfl rfl rfl hdX7_skipBlanks ⟨Nat.le_of_ble_eq_true rfl, Nat.le_of_ble_eq_true rfl⟩ ⟨Nat.zero_le _, Nat.zero_le _⟩ rfl (Nat.le_of_ble_eq_true rfl) [0] [] 1 rfl (by decide +kernel) rfl rfl (fun (u : Vl) => [bX7 cI cJ cZ a0 r0 u]) (fun _ => rfl) [0] (by decide +kernel) (fun _ => rfl) rfl (fun (u : Vl) => [bX7 cI cJ cZ a0 r0 u]) (fun _ => rfl) dX7_isNext_1 rfl (fun u h => ?_)
  obtain ⟨u_1, hu⟩ : ∃ z, z = u := ⟨_, rfl⟩
  subst hu
  refine J_aload_n C 5 dX7_isNext_4 rfl rfl ?_
  refine J_aload_n C 6 dX7_isNext_5 rfl rfl ?_
  refine J_get C 9 7 inlX7 0 2 rfl rfl (by decide) wd238 rfl rfl dX7_isNext_6 rfl ?_
  refine J_callBiV (Bs := [bX7 cI cJ cZ a0 r0 u_1]) (As := [.int (u_1.1 2)]) C 12 (c_X7_byteAt l D cI cJ cZ cS a0 r0 u_1 (u_1.1 2) _ h) wd251 wd248 wd15 wd249 wd250 7 0 rfl rfl rfl hdX7_byteAt ⟨Nat.le_of_ble_eq_true rfl, Nat.le_of_ble_eq_true rfl⟩ ⟨Nat.zero_le _, Nat.zero_le _⟩ rfl (Nat.le_of_ble_eq_true rfl) [0] [] 1 rfl (by decide +kernel) rfl rfl (fun (u : Unit) => [bX7 cI cJ cZ a0 r0 u_1]) (fun _ => rfl) [0] (by decide +kernel) (fun _ => rfl) rfl (fun (u : Unit) => [bX7 cI cJ cZ a0 r0 u_1]) (fun _ => rfl) dX7_isNext_9 rfl (fun r_2 u h => ?_)
  refine J_iload_n C 13 dX7_isNext_12 rfl rfl ?_
  refine J_icmp_ne C 16 20 dX7_isNext_13 rfl rfl (fun c => ?_) (fun c => ?_)
  · have h := h.1 c
    refine J_iconst C 21 dX7_isNext_20 rfl ki_0 ?_
    exact J_zret C hr hk rfl u_1 rfl dX7_isNext_21 h
  · have h := h.2 c
    refine J_iconst C 17 dX7_isNext_16 rfl ki_1 ?_
    refine J_goto C 21 dX7_isNext_17 rfl ?_
    exact J_zret C hr hk rfl u_1 rfl dX7_isNext_21 h
def wp_X7_readNumber_c134  (Q : Int32 → Vl → Prop) (v0 : Vl) : Prop := wp_X7_fail v0 2 (v0.1 5) (fun r_8 u_7 => ((r_8 = 0 → Q 0 u_7) ∧ (¬ r_8 = 0 → Q 1 u_7)))
set_option maxHeartbeats 4000000 in
set_option maxRecDepth 100000 in
theorem wk_X7_readNumber_c134 {p : Program} {l : Launch} {e : Env} {s : State} {m : MethodId} {args : Array Value} {below : List Frame} {meth : Method} {c : Code} {D : GG} {A : Nat → Prop} {cI cJ cZ cS : ClassId} {a0 : Nat} {r0 : Nat → Nat}  {Q : Int32 → Vl → Prop} (C : Cx p s m args c D (tyL cI cJ cZ cS) A RX7 cX7_readNumber 4) (hr : meth.sig.returnType = some .boolean) (hk : meth.locks = false) : ∀ (v0 : Vl), wp_X7_readNumber_c134  Q v0 → J p l e (rmk 2 42) s m args below meth c D A 4 0 0 (MQ below (va_Qi (fun (r : Int32) (u : Vl) => Q r u) (fun u t => va_P D.1 vwCl ((fun (u : Vl) => List.flatten [bX7 cI cJ cZ a0 r0 u]) u) t.heap ∧ va_D A ((fun (u : Vl) => List.flatten [bX7 cI cJ cZ a0 r0 u]) u)) A) args s 0 0 A) 134 [(0, .ref a0)] [] (List.flatten [bX7 cI cJ cZ a0 r0 v0]) := by
  intro v0 h
  refine J_aload_n C 135 dX7_readNumber_134 rfl rfl ?_
  refine J_iconst C 136 dX7_readNumber_135 rfl ki_2 ?_
  refine J_aload_n C 137 dX7_readNumber_136 rfl rfl ?_
  refine J_get C 140 7 inlX7 0 5 rfl rfl (by decide) wd335 rfl rfl dX7_readNumber_137 rfl ?_
  refine J_callBiV (Bs := [bX7 cI cJ cZ a0 r0 v0]) (As := [.int 2, .int (v0.1 5)]) C 143 (c_X7_fail l D cI cJ cZ cS a0 r0 v0 2 (v0.1 5) _ h) wd267 wd264 wd15 wd265 wd266 7 0 rfl rfl rfl hdX7_fail ⟨Nat.le_of_ble_eq_true rfl, Nat.le_of_ble_eq_true rfl⟩ ⟨Nat.zero_le _, Nat.zero_le _⟩ rfl (Nat.le_of_ble_eq_true rfl) [0] [] 1 rfl (by decide +kernel) rfl rfl (fun (u : Vl) => [bX7 cI cJ cZ a0 r0 u]) (fun _ => rfl) [0] (by decide +kernel) (fun _ => rfl) rfl (fun (u : Vl) => [bX7 cI cJ cZ a0 r0 u]) (fun _ => rfl) dX7_readNumber_140 rfl (fun r_8 u h => ?_)
  obtain ⟨u_7, hu⟩ : ∃ z, z = u := ⟨_, rfl⟩
  subst hu
  refine J_if_eq C 146 150 dX7_readNumber_143 rfl rfl (fun c => ?_) (fun c => ?_)
  · have h := h.1 c
    refine J_iconst C 151 dX7_readNumber_150 rfl ki_0 ?_
    exact J_zret C hr hk rfl u_7 rfl dX7_readNumber_151 h
  · have h := h.2 c
    refine J_iconst C 147 dX7_readNumber_146 rfl ki_1 ?_
    refine J_goto C 151 dX7_readNumber_147 rfl ?_
    exact J_zret C hr hk rfl u_7 rfl dX7_readNumber_151 h
def wp_X7_readNumber_c118  (Q : Int32 → Vl → Prop) (v0 : Vl) (y1 : Int32) (y2 : Int32) : Prop := (((v0.1 4) < y1 → wp_X7_readNumber_c134  Q v0) ∧ (¬ (v0.1 4) < y1 → (((v0.1 4) ≤ y2 → Q 1 v0) ∧ (¬ (v0.1 4) ≤ y2 → wp_X7_readNumber_c134  Q v0))))
set_option maxHeartbeats 4000000 in
set_option maxRecDepth 100000 in
theorem wk_X7_readNumber_c118 {p : Program} {l : Launch} {e : Env} {s : State} {m : MethodId} {args : Array Value} {below : List Frame} {meth : Method} {c : Code} {D : GG} {A : Nat → Prop} {cI cJ cZ cS : ClassId} {a0 : Nat} {r0 : Nat → Nat}  {Q : Int32 → Vl → Prop} (C : Cx p s m args c D (tyL cI cJ cZ cS) A RX7 cX7_readNumber 4) (hr : meth.sig.returnType = some .boolean) (hk : meth.locks = false) : ∀ (v0 : Vl) (y1 : Int32) (y2 : Int32), wp_X7_readNumber_c118  Q v0 y1 y2 → J p l e (rmk 2 42) s m args below meth c D A 4 0 0 (MQ below (va_Qi (fun (r : Int32) (u : Vl) => Q r u) (fun u t => va_P D.1 vwCl ((fun (u : Vl) => List.flatten [bX7 cI cJ cZ a0 r0 u]) u) t.heap ∧ va_D A ((fun (u : Vl) => List.flatten [bX7 cI cJ cZ a0 r0 u]) u)) A) args s 0 0 A) 118 [(0, .ref a0), (1, .int y1), (2, .int y2)] [] (List.flatten [bX7 cI cJ cZ a0 r0 v0]) := by
  intro v0 y1 y2 h
  refine J_aload_n C 119 dX7_readNumber_118 rfl rfl ?_
  refine J_get C 122 7 inlX7 0 4 rfl rfl (by decide) wd336 rfl rfl dX7_readNumber_119 rfl ?_
  refine J_iload_n C 123 dX7_readNumber_122 rfl rfl ?_
  refine J_icmp_lt C 126 134 dX7_readNumber_123 rfl rfl (fun c => ?_) (fun c => ?_)
  · have h := h.1 c
    refine J_loc [0] rfl ?_
    exact wk_X7_readNumber_c134 C hr hk v0 h
  · have h := h.2 c
    refine J_aload_n C 127 dX7_readNumber_126 rfl rfl ?_
    refine J_get C 130 7 inlX7 0 4 rfl rfl (by decide) wd336 rfl rfl dX7_readNumber_127 rfl ?_
    refine J_iload_n C 131 dX7_readNumber_130 rfl rfl ?_
    refine J_icmp_le C 134 146 dX7_readNumber_131 rfl rfl (fun c => ?_) (fun c => ?_)
    · have h := h.1 c
      refine J_iconst C 147 dX7_readNumber_146 rfl ki_1 ?_
      refine J_goto C 151 dX7_readNumber_147 rfl ?_
      exact J_zret C hr hk rfl v0 rfl dX7_readNumber_151 h
    · have h := h.2 c
      refine J_loc [0] rfl ?_
      exact wk_X7_readNumber_c134 C hr hk v0 h
def wp_X7_readNumber_c46  (Q : Int32 → Vl → Prop) : Nat → Vl → Int32 → Int32 → Int32 → Prop
  | 0 => fun _ _ _ _ => False
  | n + 1 => fun v0 y1 y2 y3 => (((v0.1 1) ≤ y3 → wp_X7_readNumber_c118  Q v0 y1 y2) ∧ (¬ (v0.1 1) ≤ y3 → wp_X7_byteAt v0 y3 (fun r_9 => wp_X7_isFigure r_9 (fun r_10 => ((r_10 = 0 → wp_X7_readNumber_c118  Q v0 y1 y2) ∧ (¬ r_10 = 0 → (((y3 - (v0.1 5)) < 4 → wp_X7_byteAt v0 y3 (fun r_11 => ∀ v0s_12 : Vl, v0s_12 = setI v0 4 ((((v0.1 4) * 10) + r_11) - 48) → ∀ v0s_13 : Vl, v0s_13 = setI v0s_12 2 (y3 + 1) → ∀ x_14 : Int32, x_14 = y3 + 1 → wp_X7_readNumber_c46  Q n v0s_13 y1 y2 x_14)) ∧ (¬ (y3 - (v0.1 5)) < 4 → wp_X7_fail v0 2 (v0.1 5) (fun r_16 u_15 => narrow .boolean (.int r_16) = .int r_16 ∧ Q r_16 u_15)))))))))
set_option maxHeartbeats 4000000 in
set_option maxRecDepth 100000 in
theorem wk_X7_readNumber_c46 {p : Program} {l : Launch} {e : Env} {s : State} {m : MethodId} {args : Array Value} {below : List Frame} {meth : Method} {c : Code} {D : GG} {A : Nat → Prop} {cI cJ cZ cS : ClassId} {a0 : Nat} {r0 : Nat → Nat}  {Q : Int32 → Vl → Prop} (C : Cx p s m args c D (tyL cI cJ cZ cS) A RX7 cX7_readNumber 4) (hr : meth.sig.returnType = some .boolean) (hk : meth.locks = false) : ∀ (n : Nat) (v0 : Vl) (y1 : Int32) (y2 : Int32) (y3 : Int32), wp_X7_readNumber_c46  Q n v0 y1 y2 y3 → J p l e (rmk 2 42) s m args below meth c D A 4 0 0 (MQ below (va_Qi (fun (r : Int32) (u : Vl) => Q r u) (fun u t => va_P D.1 vwCl ((fun (u : Vl) => List.flatten [bX7 cI cJ cZ a0 r0 u]) u) t.heap ∧ va_D A ((fun (u : Vl) => List.flatten [bX7 cI cJ cZ a0 r0 u]) u)) A) args s 0 0 A) 46 [(0, .ref a0), (1, .int y1), (2, .int y2), (3, .int y3)] [] (List.flatten [bX7 cI cJ cZ a0 r0 v0]) := by
  intro n
  induction n with
  | zero =>
    intro v0 y1 y2 y3 h
    exact False.elim h
  | succ n ih =>
    intro v0 y1 y2 y3 h
    refine J_iload_n C 47 dX7_readNumber_46 rfl rfl ?_
    refine J_aload_n C 48 dX7_readNumber_47 rfl rfl ?_
    refine J_get C 51 7 inlX7 0 1 rfl rfl (by decide) wd213 rfl rfl dX7_readNumber_48 rfl ?_
    refine J_icmp_ge C 54 118 dX7_readNumber_51 rfl rfl (fun c => ?_) (fun c => ?_)
    · have h := h.1 c
      refine J_loc [0, 1, 2] rfl ?_
      exact wk_X7_readNumber_c118 C hr hk v0 y1 y2 h
    · have h := h.2 c
      refine J_aload_n C 55 dX7_readNumber_54 rfl rfl ?_
      refine J_iload_n C 56 dX7_readNumber_55 rfl rfl ?_
      refine J_callBiV (Bs := [bX7 cI cJ cZ a0 r0 v0]) (As := [.int y3]) C 59 (c_X7_byteAt l D cI cJ cZ cS a0 r0 v0 y3 _ h) wd251 wd248 wd15 wd249 wd250 7 0 rfl rfl rfl hdX7_byteAt ⟨Nat.le_of_ble_eq_true rfl, Nat.le_of_ble_eq_true rfl⟩ ⟨Nat.zero_le _, Nat.zero_le _⟩ rfl (Nat.le_of_ble_eq_true rfl) [0] [] 1 rfl (by decide +kernel) rfl rfl (fun (u : Unit) => [bX7 cI cJ cZ a0 r0 v0]) (fun _ => rfl) [0] (by decide +kernel) (fun _ => rfl) rfl (fun (u : Unit) => [bX7 cI cJ cZ a0 r0 v0]) (fun _ => rfl) dX7_readNumber_56 rfl (fun r_9 u h => ?_)
      refine J_callBiS (Bs := [bX7 cI cJ cZ a0 r0 v0]) (As := [.int r_9]) C 62 (c_X7_isFigure l D cI cJ cZ cS r_9 _ h) wd339 wd337 wd15 wd338 hdX7_isFigure ⟨Nat.le_of_ble_eq_true rfl, Nat.le_of_ble_eq_true rfl⟩ ⟨Nat.zero_le _, Nat.zero_le _⟩ rfl (Nat.le_of_ble_eq_true rfl) [] [0] 1 rfl (by decide +kernel) rfl rfl (fun (u : Unit) => ([] : List va_W)) (fun _ => rfl) [0] (by decide +kernel) (fun _ => rfl) rfl (fun (u : Unit) => [bX7 cI cJ cZ a0 r0 v0]) (fun _ => rfl) dX7_readNumber_59 rfl (fun r_10 u h => ?_)
      refine J_if_eq C 65 118 dX7_readNumber_62 rfl rfl (fun c => ?_) (fun c => ?_)
      · have h := h.1 c
        refine J_loc [0, 1, 2] rfl ?_
        exact wk_X7_readNumber_c118 C hr hk v0 y1 y2 h
      · have h := h.2 c
        refine J_iload_n C 66 dX7_readNumber_65 rfl rfl ?_
        refine J_aload_n C 67 dX7_readNumber_66 rfl rfl ?_
        refine J_get C 70 7 inlX7 0 5 rfl rfl (by decide) wd335 rfl rfl dX7_readNumber_67 rfl ?_
        refine J_isub C 71 dX7_readNumber_70 rfl ?_
        refine J_iconst C 72 dX7_readNumber_71 rfl ki_4 ?_
        refine J_icmp_lt C 75 85 dX7_readNumber_72 rfl rfl (fun c => ?_) (fun c => ?_)
        · have h := h.1 c
          refine J_aload_n C 86 dX7_readNumber_85 rfl rfl ?_
          refine J_aload_n C 87 dX7_readNumber_86 rfl rfl ?_
          refine J_get C 90 7 inlX7 0 4 rfl rfl (by decide) wd336 rfl rfl dX7_readNumber_87 rfl ?_
          refine J_bipush C 92 dX7_readNumber_90 rfl kb_10 ?_
          refine J_imul C 93 dX7_readNumber_92 rfl ?_
          refine J_aload_n C 94 dX7_readNumber_93 rfl rfl ?_
          refine J_iload_n C 95 dX7_readNumber_94 rfl rfl ?_
          refine J_callBiV (Bs := [bX7 cI cJ cZ a0 r0 v0]) (As := [.int y3]) C 98 (c_X7_byteAt l D cI cJ cZ cS a0 r0 v0 y3 _ h) wd251 wd248 wd15 wd249 wd250 7 0 rfl rfl rfl hdX7_byteAt ⟨Nat.le_of_ble_eq_true rfl, Nat.le_of_ble_eq_true rfl⟩ ⟨Nat.zero_le _, Nat.zero_le _⟩ rfl (Nat.le_of_ble_eq_true rfl) [0] [] 1 rfl (by decide +kernel) rfl rfl (fun (u : Unit) => [bX7 cI cJ cZ a0 r0 v0]) (fun _ => rfl) [0] (by decide +kernel) (fun _ => rfl) rfl (fun (u : Unit) => [bX7 cI cJ cZ a0 r0 v0]) (fun _ => rfl) dX7_readNumber_95 rfl (fun r_11 u h => ?_)
          refine J_iadd C 99 dX7_readNumber_98 rfl ?_
          refine J_bipush C 101 dX7_readNumber_99 rfl kb_48 ?_
          refine J_isub C 102 dX7_readNumber_101 rfl ?_
          obtain ⟨v0s_12, ev0s_12⟩ : ∃ z : Vl, z = setI v0 4 ((((v0.1 4) * 10) + r_11) - 48) := ⟨_, rfl⟩
          have h := h v0s_12 ev0s_12
          refine J_put C 105 7 inlX7 tyX7 tyX7_ok nmX7 0 4 rfl rfl (by decide) wd336 rfl rfl rfl rfl rfl (List.flatten [bX7 cI cJ cZ a0 r0 v0s_12]) (by subst ev0s_12; rfl) dX7_readNumber_102 rfl ?_
          refine J_aload_n C 106 dX7_readNumber_105 rfl rfl ?_
          refine J_iload_n C 107 dX7_readNumber_106 rfl rfl ?_
          refine J_iconst C 108 dX7_readNumber_107 rfl ki_1 ?_
          refine J_iadd C 109 dX7_readNumber_108 rfl ?_
          obtain ⟨v0s_13, ev0s_13⟩ : ∃ z : Vl, z = setI v0s_12 2 (y3 + 1) := ⟨_, rfl⟩
          have h := h v0s_13 ev0s_13
          refine J_put C 112 7 inlX7 tyX7 tyX7_ok nmX7 0 2 rfl rfl (by decide) wd238 rfl rfl rfl rfl rfl (List.flatten [bX7 cI cJ cZ a0 r0 v0s_13]) (by subst ev0s_13; rfl) dX7_readNumber_109 rfl ?_
          obtain ⟨x_14, ex_14⟩ : ∃ z : Int32, z = y3 + 1 := ⟨_, rfl⟩
          have h := h x_14 ex_14
          refine J_iinc C 115 [(3, .int x_14), (0, .ref a0), (1, .int y1), (2, .int y2)] dX7_readNumber_112 rfl rfl ((kinc_1 _).trans ex_14.symm) (by decide) rfl ?_
          refine J_goto C 46 dX7_readNumber_115 rfl ?_
          refine J_loc [1, 2, 3, 0] rfl ?_
          exact ih v0s_13 y1 y2 x_14 h
        · have h := h.2 c
          refine J_aload_n C 76 dX7_readNumber_75 rfl rfl ?_
          refine J_iconst C 77 dX7_readNumber_76 rfl ki_2 ?_
          refine J_aload_n C 78 dX7_readNumber_77 rfl rfl ?_
          refine J_get C 81 7 inlX7 0 5 rfl rfl (by decide) wd335 rfl rfl dX7_readNumber_78 rfl ?_
          refine J_callBiV (Bs := [bX7 cI cJ cZ a0 r0 v0]) (As := [.int 2, .int (v0.1 5)]) C 84 (c_X7_fail l D cI cJ cZ cS a0 r0 v0 2 (v0.1 5) _ h) wd267 wd264 wd15 wd265 wd266 7 0 rfl rfl rfl hdX7_fail ⟨Nat.le_of_ble_eq_true rfl, Nat.le_of_ble_eq_true rfl⟩ ⟨Nat.zero_le _, Nat.zero_le _⟩ rfl (Nat.le_of_ble_eq_true rfl) [0] [] 1 rfl (by decide +kernel) rfl rfl (fun (u : Vl) => [bX7 cI cJ cZ a0 r0 u]) (fun _ => rfl) [0] (by decide +kernel) (fun _ => rfl) rfl (fun (u : Vl) => [bX7 cI cJ cZ a0 r0 u]) (fun _ => rfl) dX7_readNumber_81 rfl (fun r_16 u h => ?_)
          obtain ⟨u_15, hu⟩ : ∃ z, z = u := ⟨_, rfl⟩
          subst hu
          obtain ⟨hz, h⟩ := h
          exact J_zret C hr hk hz u_15 rfl dX7_readNumber_84 h
def wp_X7_readNumber (v0 : Vl) (x1 : Int32) (x2 : Int32) (Q : Int32 → Vl → Prop) : Prop := wp_X7_skipBlanks v0 (fun u_1 => ∀ v0s_2 : Vl, v0s_2 = setI u_1 5 (u_1.1 2) → wp_X7_byteAt v0s_2 (v0s_2.1 2) (fun r_3 => wp_X7_isFigure r_3 (fun r_4 => ((¬ r_4 = 0 → ∀ v0s_5 : Vl, v0s_5 = setI v0s_2 4 0 → ∀ x_6 : Int32, x_6 = (v0s_5.1 2) → (∃ k : Nat, wp_X7_readNumber_c46  Q k v0s_5 x1 x2 x_6)) ∧ (r_4 = 0 → wp_X7_fail v0s_2 1 (v0s_2.1 2) (fun r_18 u_17 => narrow .boolean (.int r_18) = .int r_18 ∧ Q r_18 u_17))))))
set_option maxHeartbeats 4000000 in
set_option maxRecDepth 100000 in
theorem c_X7_readNumber (l : Launch) (D : GG) (cI cJ cZ cS : ClassId) (a0 : Nat) (r0 : Nat → Nat) (v0 : Vl) (x1 : Int32) (x2 : Int32) (Q : Int32 → Vl → Prop) (h : wp_X7_readNumber v0 x1 x2 Q) : Mi l D (tyL cI cJ cZ cS) yX7_readNumber cX7_readNumber 4 .boolean 2 42 [.ref a0, .int x1, .int x2] (List.flatten [bX7 cI cJ cZ a0 r0 v0]) (fun (r : Int32) (u : Vl) => Q r u) (fun (u : Vl) => List.flatten [bX7 cI cJ cZ a0 r0 u]) := by
  refine Mi_of RX7 [(0, .ref a0), (1, .int x1), (2, .int x2)] (by decide +kernel) rfl rfl (Nat.le_of_ble_eq_true rfl) ?_
  intro p e s m args below meth c A C hr hk
  refine J_aload_n C 1 dX7_readNumber_0 rfl rfl ?_
  refine J_callBvV (Bs := [bX7 cI cJ cZ a0 r0 v0]) (As := []) C 4 (c_X7_skipBlanks l D cI cJ cZ cS a0 r0 v0 _ h) wd247 wd244 wd15 wd245 wd246 7 0 rfl rfl rfl hdX7_skipBlanks ⟨Nat.le_of_ble_eq_true rfl, Nat.le_of_ble_eq_true rfl⟩ ⟨Nat.zero_le _, Nat.zero_le _⟩ rfl (Nat.le_of_ble_eq_true rfl) [0] [] 1 rfl (by decide +kernel) rfl rfl (fun (u : Vl) => [bX7 cI cJ cZ a0 r0 u]) (fun _ => rfl) [0] (by decide +kernel) (fun _ => rfl) rfl (fun (u : Vl) => [bX7 cI cJ cZ a0 r0 u]) (fun _ => rfl) dX7_readNumber_1 rfl (fun u h => ?_)
  obtain ⟨u_1, hu⟩ : ∃ z, z = u := ⟨_, rfl⟩
  subst hu
  refine J_aload_n C 5 dX7_readNumber_4 rfl rfl ?_
  refine J_aload_n C 6 dX7_readNumber_5 rfl rfl ?_
  refine J_get C 9 7 inlX7 0 2 rfl rfl (by decide) wd238 rfl rfl dX7_readNumber_6 rfl ?_
  obtain ⟨v0s_2, ev0s_2⟩ : ∃ z : Vl, z = setI u_1 5 (u_1.1 2) := ⟨_, rfl⟩
  have h := h v0s_2 ev0s_2
  refine J_put C 12 7 inlX7 tyX7 tyX7_ok nmX7 0 5 rfl rfl (by decide) wd335 rfl rfl rfl rfl rfl (List.flatten [bX7 cI cJ cZ a0 r0 v0s_2]) (by subst ev0s_2; rfl) dX7_readNumber_9 rfl ?_
  refine J_aload_n C 13 dX7_readNumber_12 rfl rfl ?_
  refine J_aload_n C 14 dX7_readNumber_13 rfl rfl ?_
  refine J_get C 17 7 inlX7 0 2 rfl rfl (by decide) wd238 rfl rfl dX7_readNumber_14 rfl ?_
  refine J_callBiV (Bs := [bX7 cI cJ cZ a0 r0 v0s_2]) (As := [.int (v0s_2.1 2)]) C 20 (c_X7_byteAt l D cI cJ cZ cS a0 r0 v0s_2 (v0s_2.1 2) _ h) wd251 wd248 wd15 wd249 wd250 7 0 rfl rfl rfl hdX7_byteAt ⟨Nat.le_of_ble_eq_true rfl, Nat.le_of_ble_eq_true rfl⟩ ⟨Nat.zero_le _, Nat.zero_le _⟩ rfl (Nat.le_of_ble_eq_true rfl) [0] [] 1 rfl (by decide +kernel) rfl rfl (fun (u : Unit) => [bX7 cI cJ cZ a0 r0 v0s_2]) (fun _ => rfl) [0] (by decide +kernel) (fun _ => rfl) rfl (fun (u : Unit) => [bX7 cI cJ cZ a0 r0 v0s_2]) (fun _ => rfl) dX7_readNumber_17 rfl (fun r_3 u h => ?_)
  refine J_callBiS (Bs := [bX7 cI cJ cZ a0 r0 v0s_2]) (As := [.int r_3]) C 23 (c_X7_isFigure l D cI cJ cZ cS r_3 _ h) wd339 wd337 wd15 wd338 hdX7_isFigure ⟨Nat.le_of_ble_eq_true rfl, Nat.le_of_ble_eq_true rfl⟩ ⟨Nat.zero_le _, Nat.zero_le _⟩ rfl (Nat.le_of_ble_eq_true rfl) [] [0] 1 rfl (by decide +kernel) rfl rfl (fun (u : Unit) => ([] : List va_W)) (fun _ => rfl) [0] (by decide +kernel) (fun _ => rfl) rfl (fun (u : Unit) => [bX7 cI cJ cZ a0 r0 v0s_2]) (fun _ => rfl) dX7_readNumber_20 rfl (fun r_4 u h => ?_)
  refine J_if_ne C 26 36 dX7_readNumber_23 rfl rfl (fun c => ?_) (fun c => ?_)
  · have h := h.1 c
    refine J_aload_n C 37 dX7_readNumber_36 rfl rfl ?_
    refine J_iconst C 38 dX7_readNumber_37 rfl ki_0 ?_
    obtain ⟨v0s_5, ev0s_5⟩ : ∃ z : Vl, z = setI v0s_2 4 0 := ⟨_, rfl⟩
    have h := h v0s_5 ev0s_5
    refine J_put C 41 7 inlX7 tyX7 tyX7_ok nmX7 0 4 rfl rfl (by decide) wd336 rfl rfl rfl rfl rfl (List.flatten [bX7 cI cJ cZ a0 r0 v0s_5]) (by subst ev0s_5; rfl) dX7_readNumber_38 rfl ?_
    refine J_aload_n C 42 dX7_readNumber_41 rfl rfl ?_
    refine J_get C 45 7 inlX7 0 2 rfl rfl (by decide) wd238 rfl rfl dX7_readNumber_42 rfl ?_
    obtain ⟨x_6, ex_6⟩ : ∃ z : Int32, z = (v0s_5.1 2) := ⟨_, rfl⟩
    have h := h x_6 ex_6
    refine J_nmi ex_6 ?_
    refine J_istore_n C 46 [(3, .int x_6), (0, .ref a0), (1, .int x1), (2, .int x2)] dX7_readNumber_45 rfl (by decide) rfl ?_
    refine J_loc [1, 2, 3, 0] rfl ?_
    obtain ⟨n1, h⟩ := h
    exact wk_X7_readNumber_c46 C hr hk n1 v0s_5 x1 x2 x_6 h
  · have h := h.2 c
    refine J_aload_n C 27 dX7_readNumber_26 rfl rfl ?_
    refine J_iconst C 28 dX7_readNumber_27 rfl ki_1 ?_
    refine J_aload_n C 29 dX7_readNumber_28 rfl rfl ?_
    refine J_get C 32 7 inlX7 0 2 rfl rfl (by decide) wd238 rfl rfl dX7_readNumber_29 rfl ?_
    refine J_callBiV (Bs := [bX7 cI cJ cZ a0 r0 v0s_2]) (As := [.int 1, .int (v0s_2.1 2)]) C 35 (c_X7_fail l D cI cJ cZ cS a0 r0 v0s_2 1 (v0s_2.1 2) _ h) wd267 wd264 wd15 wd265 wd266 7 0 rfl rfl rfl hdX7_fail ⟨Nat.le_of_ble_eq_true rfl, Nat.le_of_ble_eq_true rfl⟩ ⟨Nat.zero_le _, Nat.zero_le _⟩ rfl (Nat.le_of_ble_eq_true rfl) [0] [] 1 rfl (by decide +kernel) rfl rfl (fun (u : Vl) => [bX7 cI cJ cZ a0 r0 u]) (fun _ => rfl) [0] (by decide +kernel) (fun _ => rfl) rfl (fun (u : Vl) => [bX7 cI cJ cZ a0 r0 u]) (fun _ => rfl) dX7_readNumber_32 rfl (fun r_18 u h => ?_)
    obtain ⟨u_17, hu⟩ : ∃ z, z = u := ⟨_, rfl⟩
    subst hu
    obtain ⟨hz, h⟩ := h
    exact J_zret C hr hk hz u_17 rfl dX7_readNumber_35 h
def wp_X7_readSign (v0 : Vl) (x1 : Int32) (Q : Int32 → Vl → Prop) : Prop := wp_X7_isNext v0 x1 (fun r_2 u_1 => ((¬ r_2 = 0 → ∀ v0s_3 : Vl, v0s_3 = setI u_1 2 ((u_1.1 2) + 1) → Q 1 v0s_3) ∧ (r_2 = 0 → wp_X7_fail u_1 1 (u_1.1 2) (fun r_5 u_4 => narrow .boolean (.int r_5) = .int r_5 ∧ Q r_5 u_4))))
set_option maxHeartbeats 4000000 in
set_option maxRecDepth 100000 in
theorem c_X7_readSign (l : Launch) (D : GG) (cI cJ cZ cS : ClassId) (a0 : Nat) (r0 : Nat → Nat) (v0 : Vl) (x1 : Int32) (Q : Int32 → Vl → Prop) (h : wp_X7_readSign v0 x1 Q) : Mi l D (tyL cI cJ cZ cS) yX7_readSign cX7_readSign 2 .boolean 3 63 [.ref a0, .int x1] (List.flatten [bX7 cI cJ cZ a0 r0 v0]) (fun (r : Int32) (u : Vl) => Q r u) (fun (u : Vl) => List.flatten [bX7 cI cJ cZ a0 r0 u]) := by
  refine Mi_of RX7 [(0, .ref a0), (1, .int x1)] (by decide +kernel) rfl rfl (Nat.le_of_ble_eq_true rfl) ?_
  intro p e s m args below meth c A C hr hk
  refine J_aload_n C 1 dX7_readSign_0 rfl rfl ?_
  refine J_iload_n C 2 dX7_readSign_1 rfl rfl ?_
  refine J_callBiV (Bs := [bX7 cI cJ cZ a0 r0 v0]) (As := [.int x1]) C 5 (c_X7_isNext l D cI cJ cZ cS a0 r0 v0 x1 _ h) wd367 wd364 wd15 wd365 wd366 7 0 rfl rfl rfl hdX7_isNext ⟨Nat.le_of_ble_eq_true rfl, Nat.le_of_ble_eq_true rfl⟩ ⟨Nat.zero_le _, Nat.zero_le _⟩ rfl (Nat.le_of_ble_eq_true rfl) [0] [] 1 rfl (by decide +kernel) rfl rfl (fun (u : Vl) => [bX7 cI cJ cZ a0 r0 u]) (fun _ => rfl) [0] (by decide +kernel) (fun _ => rfl) rfl (fun (u : Vl) => [bX7 cI cJ cZ a0 r0 u]) (fun _ => rfl) dX7_readSign_2 rfl (fun r_2 u h => ?_)
  obtain ⟨u_1, hu⟩ : ∃ z, z = u := ⟨_, rfl⟩
  subst hu
  refine J_if_ne C 8 18 dX7_readSign_5 rfl rfl (fun c => ?_) (fun c => ?_)
  · have h := h.1 c
    refine J_aload_n C 19 dX7_readSign_18 rfl rfl ?_
    refine J_dup C 20 dX7_readSign_19 rfl rfl ?_
    refine J_get C 23 7 inlX7 0 2 rfl rfl (by decide) wd238 rfl rfl dX7_readSign_20 rfl ?_
    refine J_iconst C 24 dX7_readSign_23 rfl ki_1 ?_
    refine J_iadd C 25 dX7_readSign_24 rfl ?_
    obtain ⟨v0s_3, ev0s_3⟩ : ∃ z : Vl, z = setI u_1 2 ((u_1.1 2) + 1) := ⟨_, rfl⟩
    have h := h v0s_3 ev0s_3
    refine J_put C 28 7 inlX7 tyX7 tyX7_ok nmX7 0 2 rfl rfl (by decide) wd238 rfl rfl rfl rfl rfl (List.flatten [bX7 cI cJ cZ a0 r0 v0s_3]) (by subst ev0s_3; rfl) dX7_readSign_25 rfl ?_
    refine J_iconst C 29 dX7_readSign_28 rfl ki_1 ?_
    exact J_zret C hr hk rfl v0s_3 rfl dX7_readSign_29 h
  · have h := h.2 c
    refine J_aload_n C 9 dX7_readSign_8 rfl rfl ?_
    refine J_iconst C 10 dX7_readSign_9 rfl ki_1 ?_
    refine J_aload_n C 11 dX7_readSign_10 rfl rfl ?_
    refine J_get C 14 7 inlX7 0 2 rfl rfl (by decide) wd238 rfl rfl dX7_readSign_11 rfl ?_
    refine J_callBiV (Bs := [bX7 cI cJ cZ a0 r0 u_1]) (As := [.int 1, .int (u_1.1 2)]) C 17 (c_X7_fail l D cI cJ cZ cS a0 r0 u_1 1 (u_1.1 2) _ h) wd267 wd264 wd15 wd265 wd266 7 0 rfl rfl rfl hdX7_fail ⟨Nat.le_of_ble_eq_true rfl, Nat.le_of_ble_eq_true rfl⟩ ⟨Nat.zero_le _, Nat.zero_le _⟩ rfl (Nat.le_of_ble_eq_true rfl) [0] [] 1 rfl (by decide +kernel) rfl rfl (fun (u : Vl) => [bX7 cI cJ cZ a0 r0 u]) (fun _ => rfl) [0] (by decide +kernel) (fun _ => rfl) rfl (fun (u : Vl) => [bX7 cI cJ cZ a0 r0 u]) (fun _ => rfl) dX7_readSign_14 rfl (fun r_5 u h => ?_)
    obtain ⟨u_4, hu⟩ : ∃ z, z = u := ⟨_, rfl⟩
    subst hu
    obtain ⟨hz, h⟩ := h
    exact J_zret C hr hk hz u_4 rfl dX7_readSign_17 h
def wp_X7_readWord_c41  (Q : Int32 → Vl → Prop) : Nat → Vl → Int32 → Prop
  | 0 => fun _ _ => False
  | n + 1 => fun v0 y1 => (((v0.1 1) ≤ y1 → Q 1 v0) ∧ (¬ (v0.1 1) ≤ y1 → wp_X7_byteAt v0 y1 (fun r_6 => wp_X7_isLetter r_6 (fun r_7 => ((r_7 = 0 → Q 1 v0) ∧ (¬ r_7 = 0 → ∀ v0s_8 : Vl, v0s_8 = setI v0 2 (y1 + 1) → ∀ x_9 : Int32, x_9 = y1 + 1 → wp_X7_readWord_c41  Q n v0s_8 x_9))))))
set_option maxHeartbeats 4000000 in
set_option maxRecDepth 100000 in
theorem wk_X7_readWord_c41 {p : Program} {l : Launch} {e : Env} {s : State} {m : MethodId} {args : Array Value} {below : List Frame} {meth : Method} {c : Code} {D : GG} {A : Nat → Prop} {cI cJ cZ cS : ClassId} {a0 : Nat} {r0 : Nat → Nat}  {Q : Int32 → Vl → Prop} (C : Cx p s m args c D (tyL cI cJ cZ cS) A RX7 cX7_readWord 2) (hr : meth.sig.returnType = some .boolean) (hk : meth.locks = false) : ∀ (n : Nat) (v0 : Vl) (y1 : Int32), wp_X7_readWord_c41  Q n v0 y1 → J p l e (rmk 2 42) s m args below meth c D A 2 0 0 (MQ below (va_Qi (fun (r : Int32) (u : Vl) => Q r u) (fun u t => va_P D.1 vwCl ((fun (u : Vl) => List.flatten [bX7 cI cJ cZ a0 r0 u]) u) t.heap ∧ va_D A ((fun (u : Vl) => List.flatten [bX7 cI cJ cZ a0 r0 u]) u)) A) args s 0 0 A) 41 [(0, .ref a0), (1, .int y1)] [] (List.flatten [bX7 cI cJ cZ a0 r0 v0]) := by
  intro n
  induction n with
  | zero =>
    intro v0 y1 h
    exact False.elim h
  | succ n ih =>
    intro v0 y1 h
    refine J_iload_n C 42 dX7_readWord_41 rfl rfl ?_
    refine J_aload_n C 43 dX7_readWord_42 rfl rfl ?_
    refine J_get C 46 7 inlX7 0 1 rfl rfl (by decide) wd213 rfl rfl dX7_readWord_43 rfl ?_
    refine J_icmp_ge C 49 73 dX7_readWord_46 rfl rfl (fun c => ?_) (fun c => ?_)
    · have h := h.1 c
      refine J_iconst C 74 dX7_readWord_73 rfl ki_1 ?_
      exact J_zret C hr hk rfl v0 rfl dX7_readWord_74 h
    · have h := h.2 c
      refine J_aload_n C 50 dX7_readWord_49 rfl rfl ?_
      refine J_iload_n C 51 dX7_readWord_50 rfl rfl ?_
      refine J_callBiV (Bs := [bX7 cI cJ cZ a0 r0 v0]) (As := [.int y1]) C 54 (c_X7_byteAt l D cI cJ cZ cS a0 r0 v0 y1 _ h) wd251 wd248 wd15 wd249 wd250 7 0 rfl rfl rfl hdX7_byteAt ⟨Nat.le_of_ble_eq_true rfl, Nat.le_of_ble_eq_true rfl⟩ ⟨Nat.zero_le _, Nat.zero_le _⟩ rfl (Nat.le_of_ble_eq_true rfl) [0] [] 1 rfl (by decide +kernel) rfl rfl (fun (u : Unit) => [bX7 cI cJ cZ a0 r0 v0]) (fun _ => rfl) [0] (by decide +kernel) (fun _ => rfl) rfl (fun (u : Unit) => [bX7 cI cJ cZ a0 r0 v0]) (fun _ => rfl) dX7_readWord_51 rfl (fun r_6 u h => ?_)
      refine J_callBiS (Bs := [bX7 cI cJ cZ a0 r0 v0]) (As := [.int r_6]) C 57 (c_X7_isLetter l D cI cJ cZ cS r_6 _ h) wd263 wd261 wd15 wd262 hdX7_isLetter ⟨Nat.le_of_ble_eq_true rfl, Nat.le_of_ble_eq_true rfl⟩ ⟨Nat.zero_le _, Nat.zero_le _⟩ rfl (Nat.le_of_ble_eq_true rfl) [] [0] 1 rfl (by decide +kernel) rfl rfl (fun (u : Unit) => ([] : List va_W)) (fun _ => rfl) [0] (by decide +kernel) (fun _ => rfl) rfl (fun (u : Unit) => [bX7 cI cJ cZ a0 r0 v0]) (fun _ => rfl) dX7_readWord_54 rfl (fun r_7 u h => ?_)
      refine J_if_eq C 60 73 dX7_readWord_57 rfl rfl (fun c => ?_) (fun c => ?_)
      · have h := h.1 c
        refine J_iconst C 74 dX7_readWord_73 rfl ki_1 ?_
        exact J_zret C hr hk rfl v0 rfl dX7_readWord_74 h
      · have h := h.2 c
        refine J_aload_n C 61 dX7_readWord_60 rfl rfl ?_
        refine J_iload_n C 62 dX7_readWord_61 rfl rfl ?_
        refine J_iconst C 63 dX7_readWord_62 rfl ki_1 ?_
        refine J_iadd C 64 dX7_readWord_63 rfl ?_
        obtain ⟨v0s_8, ev0s_8⟩ : ∃ z : Vl, z = setI v0 2 (y1 + 1) := ⟨_, rfl⟩
        have h := h v0s_8 ev0s_8
        refine J_put C 67 7 inlX7 tyX7 tyX7_ok nmX7 0 2 rfl rfl (by decide) wd238 rfl rfl rfl rfl rfl (List.flatten [bX7 cI cJ cZ a0 r0 v0s_8]) (by subst ev0s_8; rfl) dX7_readWord_64 rfl ?_
        obtain ⟨x_9, ex_9⟩ : ∃ z : Int32, z = y1 + 1 := ⟨_, rfl⟩
        have h := h x_9 ex_9
        refine J_iinc C 70 [(1, .int x_9), (0, .ref a0)] dX7_readWord_67 rfl rfl ((kinc_1 _).trans ex_9.symm) (by decide) rfl ?_
        refine J_goto C 41 dX7_readWord_70 rfl ?_
        refine J_loc [1, 0] rfl ?_
        exact ih v0s_8 x_9 h
def wp_X7_readWord (v0 : Vl)  (Q : Int32 → Vl → Prop) : Prop := wp_X7_skipBlanks v0 (fun u_1 => ∀ v0s_2 : Vl, v0s_2 = setI u_1 3 (u_1.1 2) → wp_X7_byteAt v0s_2 (v0s_2.1 2) (fun r_3 => wp_X7_isLetter r_3 (fun r_4 => ((¬ r_4 = 0 → ∀ x_5 : Int32, x_5 = (v0s_2.1 2) → (∃ k : Nat, wp_X7_readWord_c41  Q k v0s_2 x_5)) ∧ (r_4 = 0 → wp_X7_fail v0s_2 1 (v0s_2.1 2) (fun r_11 u_10 => narrow .boolean (.int r_11) = .int r_11 ∧ Q r_11 u_10))))))
set_option maxHeartbeats 4000000 in
set_option maxRecDepth 100000 in
theorem c_X7_readWord (l : Launch) (D : GG) (cI cJ cZ cS : ClassId) (a0 : Nat) (r0 : Nat → Nat) (v0 : Vl)  (Q : Int32 → Vl → Prop) (h : wp_X7_readWord v0 Q) : Mi l D (tyL cI cJ cZ cS) yX7_readWord cX7_readWord 2 .boolean 2 42 [.ref a0] (List.flatten [bX7 cI cJ cZ a0 r0 v0]) (fun (r : Int32) (u : Vl) => Q r u) (fun (u : Vl) => List.flatten [bX7 cI cJ cZ a0 r0 u]) := by
  refine Mi_of RX7 [(0, .ref a0)] (by decide +kernel) rfl rfl (Nat.le_of_ble_eq_true rfl) ?_
  intro p e s m args below meth c A C hr hk
  refine J_aload_n C 1 dX7_readWord_0 rfl rfl ?_
  refine J_callBvV (Bs := [bX7 cI cJ cZ a0 r0 v0]) (As := []) C 4 (c_X7_skipBlanks l D cI cJ cZ cS a0 r0 v0 _ h) wd247 wd244 wd15 wd245 wd246 7 0 rfl rfl rfl hdX7_skipBlanks ⟨Nat.le_of_ble_eq_true rfl, Nat.le_of_ble_eq_true rfl⟩ ⟨Nat.zero_le _, Nat.zero_le _⟩ rfl (Nat.le_of_ble_eq_true rfl) [0] [] 1 rfl (by decide +kernel) rfl rfl (fun (u : Vl) => [bX7 cI cJ cZ a0 r0 u]) (fun _ => rfl) [0] (by decide +kernel) (fun _ => rfl) rfl (fun (u : Vl) => [bX7 cI cJ cZ a0 r0 u]) (fun _ => rfl) dX7_readWord_1 rfl (fun u h => ?_)
  obtain ⟨u_1, hu⟩ : ∃ z, z = u := ⟨_, rfl⟩
  subst hu
  refine J_aload_n C 5 dX7_readWord_4 rfl rfl ?_
  refine J_aload_n C 6 dX7_readWord_5 rfl rfl ?_
  refine J_get C 9 7 inlX7 0 2 rfl rfl (by decide) wd238 rfl rfl dX7_readWord_6 rfl ?_
  obtain ⟨v0s_2, ev0s_2⟩ : ∃ z : Vl, z = setI u_1 3 (u_1.1 2) := ⟨_, rfl⟩
  have h := h v0s_2 ev0s_2
  refine J_put C 12 7 inlX7 tyX7 tyX7_ok nmX7 0 3 rfl rfl (by decide) wd260 rfl rfl rfl rfl rfl (List.flatten [bX7 cI cJ cZ a0 r0 v0s_2]) (by subst ev0s_2; rfl) dX7_readWord_9 rfl ?_
  refine J_aload_n C 13 dX7_readWord_12 rfl rfl ?_
  refine J_aload_n C 14 dX7_readWord_13 rfl rfl ?_
  refine J_get C 17 7 inlX7 0 2 rfl rfl (by decide) wd238 rfl rfl dX7_readWord_14 rfl ?_
  refine J_callBiV (Bs := [bX7 cI cJ cZ a0 r0 v0s_2]) (As := [.int (v0s_2.1 2)]) C 20 (c_X7_byteAt l D cI cJ cZ cS a0 r0 v0s_2 (v0s_2.1 2) _ h) wd251 wd248 wd15 wd249 wd250 7 0 rfl rfl rfl hdX7_byteAt ⟨Nat.le_of_ble_eq_true rfl, Nat.le_of_ble_eq_true rfl⟩ ⟨Nat.zero_le _, Nat.zero_le _⟩ rfl (Nat.le_of_ble_eq_true rfl) [0] [] 1 rfl (by decide +kernel) rfl rfl (fun (u : Unit) => [bX7 cI cJ cZ a0 r0 v0s_2]) (fun _ => rfl) [0] (by decide +kernel) (fun _ => rfl) rfl (fun (u : Unit) => [bX7 cI cJ cZ a0 r0 v0s_2]) (fun _ => rfl) dX7_readWord_17 rfl (fun r_3 u h => ?_)
  refine J_callBiS (Bs := [bX7 cI cJ cZ a0 r0 v0s_2]) (As := [.int r_3]) C 23 (c_X7_isLetter l D cI cJ cZ cS r_3 _ h) wd263 wd261 wd15 wd262 hdX7_isLetter ⟨Nat.le_of_ble_eq_true rfl, Nat.le_of_ble_eq_true rfl⟩ ⟨Nat.zero_le _, Nat.zero_le _⟩ rfl (Nat.le_of_ble_eq_true rfl) [] [0] 1 rfl (by decide +kernel) rfl rfl (fun (u : Unit) => ([] : List va_W)) (fun _ => rfl) [0] (by decide +kernel) (fun _ => rfl) rfl (fun (u : Unit) => [bX7 cI cJ cZ a0 r0 v0s_2]) (fun _ => rfl) dX7_readWord_20 rfl (fun r_4 u h => ?_)
  refine J_if_ne C 26 36 dX7_readWord_23 rfl rfl (fun c => ?_) (fun c => ?_)
  · have h := h.1 c
    refine J_aload_n C 37 dX7_readWord_36 rfl rfl ?_
    refine J_get C 40 7 inlX7 0 2 rfl rfl (by decide) wd238 rfl rfl dX7_readWord_37 rfl ?_
    obtain ⟨x_5, ex_5⟩ : ∃ z : Int32, z = (v0s_2.1 2) := ⟨_, rfl⟩
    have h := h x_5 ex_5
    refine J_nmi ex_5 ?_
    refine J_istore_n C 41 [(1, .int x_5), (0, .ref a0)] dX7_readWord_40 rfl (by decide) rfl ?_
    refine J_loc [1, 0] rfl ?_
    obtain ⟨n1, h⟩ := h
    exact wk_X7_readWord_c41 C hr hk n1 v0s_2 x_5 h
  · have h := h.2 c
    refine J_aload_n C 27 dX7_readWord_26 rfl rfl ?_
    refine J_iconst C 28 dX7_readWord_27 rfl ki_1 ?_
    refine J_aload_n C 29 dX7_readWord_28 rfl rfl ?_
    refine J_get C 32 7 inlX7 0 2 rfl rfl (by decide) wd238 rfl rfl dX7_readWord_29 rfl ?_
    refine J_callBiV (Bs := [bX7 cI cJ cZ a0 r0 v0s_2]) (As := [.int 1, .int (v0s_2.1 2)]) C 35 (c_X7_fail l D cI cJ cZ cS a0 r0 v0s_2 1 (v0s_2.1 2) _ h) wd267 wd264 wd15 wd265 wd266 7 0 rfl rfl rfl hdX7_fail ⟨Nat.le_of_ble_eq_true rfl, Nat.le_of_ble_eq_true rfl⟩ ⟨Nat.zero_le _, Nat.zero_le _⟩ rfl (Nat.le_of_ble_eq_true rfl) [0] [] 1 rfl (by decide +kernel) rfl rfl (fun (u : Vl) => [bX7 cI cJ cZ a0 r0 u]) (fun _ => rfl) [0] (by decide +kernel) (fun _ => rfl) rfl (fun (u : Vl) => [bX7 cI cJ cZ a0 r0 u]) (fun _ => rfl) dX7_readWord_32 rfl (fun r_11 u h => ?_)
    obtain ⟨u_10, hu⟩ : ∃ z, z = u := ⟨_, rfl⟩
    subst hu
    obtain ⟨hz, h⟩ := h
    exact J_zret C hr hk hz u_10 rfl dX7_readWord_35 h
def wp_X7_startReading (v0 : Vl)  (Q : Vl → Prop) : Prop := ∀ v0s_1 : Vl, v0s_1 = setI v0 2 0 → ∀ v0s_2 : Vl, v0s_2 = setI v0s_1 6 0 → ∀ v0s_3 : Vl, v0s_3 = setI v0s_2 7 (-1) → Q v0s_3
set_option maxHeartbeats 4000000 in
set_option maxRecDepth 100000 in
theorem c_X7_startReading (l : Launch) (D : GG) (cI cJ cZ cS : ClassId) (a0 : Nat) (r0 : Nat → Nat) (v0 : Vl)  (Q : Vl → Prop) (h : wp_X7_startReading v0 Q) : Mv l D (tyL cI cJ cZ cS) yX7_startReading cX7_startReading 1 0 0 [.ref a0] (List.flatten [bX7 cI cJ cZ a0 r0 v0]) (fun (u : Vl) => Q u) (fun (u : Vl) => List.flatten [bX7 cI cJ cZ a0 r0 u]) := by
  refine Mv_of RX7 [(0, .ref a0)] (by decide +kernel) rfl rfl (Nat.le_of_ble_eq_true rfl) ?_
  intro p e s m args below meth c A C hr hk
  refine J_aload_n C 1 dX7_startReading_0 rfl rfl ?_
  refine J_iconst C 2 dX7_startReading_1 rfl ki_0 ?_
  obtain ⟨v0s_1, ev0s_1⟩ : ∃ z : Vl, z = setI v0 2 0 := ⟨_, rfl⟩
  have h := h v0s_1 ev0s_1
  refine J_put C 5 7 inlX7 tyX7 tyX7_ok nmX7 0 2 rfl rfl (by decide) wd238 rfl rfl rfl rfl rfl (List.flatten [bX7 cI cJ cZ a0 r0 v0s_1]) (by subst ev0s_1; rfl) dX7_startReading_2 rfl ?_
  refine J_aload_n C 6 dX7_startReading_5 rfl rfl ?_
  refine J_iconst C 7 dX7_startReading_6 rfl ki_0 ?_
  obtain ⟨v0s_2, ev0s_2⟩ : ∃ z : Vl, z = setI v0s_1 6 0 := ⟨_, rfl⟩
  have h := h v0s_2 ev0s_2
  refine J_put C 10 7 inlX7 tyX7 tyX7_ok nmX7 0 6 rfl rfl (by decide) wd239 rfl rfl rfl rfl rfl (List.flatten [bX7 cI cJ cZ a0 r0 v0s_2]) (by subst ev0s_2; rfl) dX7_startReading_7 rfl ?_
  refine J_aload_n C 11 dX7_startReading_10 rfl rfl ?_
  refine J_iconst C 12 dX7_startReading_11 rfl ki_m1 ?_
  obtain ⟨v0s_3, ev0s_3⟩ : ∃ z : Vl, z = setI v0s_2 7 (-1) := ⟨_, rfl⟩
  have h := h v0s_3 ev0s_3
  refine J_put C 15 7 inlX7 tyX7 tyX7_ok nmX7 0 7 rfl rfl (by decide) wd58 rfl rfl rfl rfl rfl (List.flatten [bX7 cI cJ cZ a0 r0 v0s_3]) (by subst ev0s_3; rfl) dX7_startReading_12 rfl ?_
  exact J_vret C hr hk v0s_3 rfl dX7_startReading_15 h
