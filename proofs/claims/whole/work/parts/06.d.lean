def wp_X2_add (n1 : Nat) (f1 : Nat → Int64) (x1 : Int32) (x2 : Int32) (x3 : Int64) (Q : (Nat → Int64) → Prop) : Prop := ∀ x_1 : Int32, x_1 = ((x2 * 3) + x1) → ((x2 ≤ 0 → Q f1) ∧ (¬ x2 ≤ 0 → ((x_1 < 0 → Q f1) ∧ (¬ x_1 < 0 → (((Int32.ofNat n1) ≤ x_1 → Q f1) ∧ (¬ (Int32.ofNat n1) ≤ x_1 → vp_in x_1 n1 ∧ (vp_in x_1 n1 ∧ (∀ f1s_2 : Nat → Int64, f1s_2 = vp_updL f1 (Int32.toNatClampNeg x_1) ((f1 (Int32.toNatClampNeg x_1)) + x3) → Q f1s_2))))))))
set_option maxHeartbeats 4000000 in
set_option maxRecDepth 100000 in
theorem c_X2_add (l : Launch) (D : GG) (cI cJ cZ cS : ClassId) (n1 : Nat) (a1 : Nat) (f1 : Nat → Int64) (x1 : Int32) (x2 : Int32) (x3 : Int64) (Q : (Nat → Int64) → Prop) (h : wp_X2_add n1 f1 x1 x2 x3 Q) : Mv l D (tyL cI cJ cZ cS) yX2_add cX2_add 6 0 0 [.ref a1, .int x1, .int x2, .long x3] (List.flatten [bL cJ n1 a1 f1]) (fun (u : (Nat → Int64)) => Q u) (fun (u : (Nat → Int64)) => List.flatten [bL cJ n1 a1 u]) := by
  refine Mv_of RX2 [(0, .ref a1), (1, .int x1), (2, .int x2), (3, .long x3)] (by decide +kernel) rfl rfl (Nat.le_of_ble_eq_true rfl) ?_
  intro p e s m args below meth c A C hr hk
  refine J_iload_n C 1 dX2_add_0 rfl rfl ?_
  refine J_iconst C 2 dX2_add_1 rfl ki_3 ?_
  refine J_imul C 3 dX2_add_2 rfl ?_
  refine J_iload_n C 4 dX2_add_3 rfl rfl ?_
  refine J_iadd C 5 dX2_add_4 rfl ?_
  obtain ⟨x_1, ex_1⟩ : ∃ z : Int32, z = ((x2 * 3) + x1) := ⟨_, rfl⟩
  have h := h x_1 ex_1
  refine J_nmi ex_1 ?_
  refine J_istore C 7 [(5, .int x_1), (0, .ref a1), (1, .int x1), (2, .int x2), (3, .long x3)] dX2_add_5 rfl (by decide) rfl ?_
  refine J_iload_n C 8 dX2_add_7 rfl rfl ?_
  refine J_if_le C 11 31 dX2_add_8 rfl rfl (fun c => ?_) (fun c => ?_)
  · have h := h.1 c
    exact J_vret C hr hk f1 rfl dX2_add_31 h
  · have h := h.2 c
    refine J_iload C 13 dX2_add_11 rfl rfl ?_
    refine J_if_lt C 16 31 dX2_add_13 rfl rfl (fun c => ?_) (fun c => ?_)
    · have h := h.1 c
      exact J_vret C hr hk f1 rfl dX2_add_31 h
    · have h := h.2 c
      refine J_iload C 18 dX2_add_16 rfl rfl ?_
      refine J_aload_n C 19 dX2_add_18 rfl rfl ?_
      refine J_alen C 20 0 1 rfl rfl rfl dX2_add_19 rfl ?_
      refine J_icmp_ge C 23 31 dX2_add_20 rfl rfl (fun c => ?_) (fun c => ?_)
      · have h := h.1 c
        exact J_vret C hr hk f1 rfl dX2_add_31 h
      · have h := h.2 c
        refine J_aload_n C 24 dX2_add_23 rfl rfl ?_
        refine J_iload C 26 dX2_add_24 rfl rfl ?_
        refine J_dup2 C 27 dX2_add_26 rfl rfl rfl ?_
        obtain ⟨hi, h⟩ := h
        refine J_lald C 28 0 1 rfl rfl hi dX2_add_27 rfl ?_
        refine J_lload_n C 29 dX2_add_28 rfl rfl ?_
        refine J_ladd C 30 dX2_add_29 rfl ?_
        obtain ⟨hi, h⟩ := h
        obtain ⟨f1s_2, ef1s_2⟩ : ∃ z : Nat → Int64, z = vp_updL f1 (Int32.toNatClampNeg x_1) ((f1 (Int32.toNatClampNeg x_1)) + x3) := ⟨_, rfl⟩
        have h := h f1s_2 ef1s_2
        refine J_last C 31 0 1 rfl rfl hi (List.flatten [bL cJ n1 a1 f1s_2]) (by subst ef1s_2; rfl) dX2_add_30 rfl ?_
        exact J_vret C hr hk f1s_2 rfl dX2_add_31 h
def wp_X2_partsOf_c42 (v0 : Vl) (f0_0 : Nat → Int64) (Q : Int64 → Prop) (B5 : Int32 → Int64 → Int32 → Prop) (y1 : Int32) (y2 : Int64) (y4 : Int32) : Prop := ∀ x_1 : Int32, x_1 = y4 + 1 → B5 y1 y2 x_1
set_option maxHeartbeats 4000000 in
set_option maxRecDepth 100000 in
theorem wk_X2_partsOf_c42 {p : Program} {l : Launch} {e : Env} {s : State} {m : MethodId} {args : Array Value} {below : List Frame} {meth : Method} {c : Code} {D : GG} {A : Nat → Prop} {cI cJ cZ cS : ClassId} {a0 : Nat} {r0 : Nat → Nat} {v0 : Vl} {f0_0 : Nat → Int64} {B5 : Int32 → Int64 → Int32 → Prop} {Q : Int64 → Prop} (C : Cx p s m args c D (tyL cI cJ cZ cS) A RX2 cX2_partsOf 5) (hr : meth.sig.returnType = some .long) (hk : meth.locks = false) (hB5 : ∀ (y1 : Int32) (y2 : Int64) (y4 : Int32), B5 y1 y2 y4 → J p l e (rmk 0 0) s m args below meth c D A 5 0 0 (MQ below (va_Ql (fun (r : Int64) (u : Unit) => Q r) (fun u t => va_P D.1 vwCl ((fun (u : Unit) => List.flatten [bX2 cI cJ cZ a0 r0 v0, bL cJ 300 (r0 0) f0_0]) u) t.heap ∧ va_D A ((fun (u : Unit) => List.flatten [bX2 cI cJ cZ a0 r0 v0, bL cJ 300 (r0 0) f0_0]) u)) A) args s 0 0 A) 5 [(0, .ref a0), (1, .int y1), (2, .long y2), (4, .int y4)] [] (List.flatten [bX2 cI cJ cZ a0 r0 v0, bL cJ 300 (r0 0) f0_0])) : ∀ (y1 : Int32) (y2 : Int64) (y4 : Int32), wp_X2_partsOf_c42 v0 f0_0 Q B5 y1 y2 y4 → J p l e (rmk 0 0) s m args below meth c D A 5 0 0 (MQ below (va_Ql (fun (r : Int64) (u : Unit) => Q r) (fun u t => va_P D.1 vwCl ((fun (u : Unit) => List.flatten [bX2 cI cJ cZ a0 r0 v0, bL cJ 300 (r0 0) f0_0]) u) t.heap ∧ va_D A ((fun (u : Unit) => List.flatten [bX2 cI cJ cZ a0 r0 v0, bL cJ 300 (r0 0) f0_0]) u)) A) args s 0 0 A) 42 [(0, .ref a0), (1, .int y1), (2, .long y2), (4, .int y4)] [] (List.flatten [bX2 cI cJ cZ a0 r0 v0, bL cJ 300 (r0 0) f0_0]) := by
  intro y1 y2 y4 h
  obtain ⟨x_1, ex_1⟩ : ∃ z : Int32, z = y4 + 1 := ⟨_, rfl⟩
  have h := h x_1 ex_1
  refine J_iinc C 45 [(4, .int x_1), (0, .ref a0), (1, .int y1), (2, .long y2)] dX2_partsOf_42 rfl rfl ((kinc_1 _).trans ex_1.symm) (by decide) rfl ?_
  refine J_goto C 5 dX2_partsOf_45 rfl ?_
  refine J_loc [1, 2, 3, 0] rfl ?_
  exact hB5 y1 y2 x_1 h
def wp_X2_partsOf_c5 (v0 : Vl) (f0_0 : Nat → Int64) (Q : Int64 → Prop) : Nat → Int32 → Int64 → Int32 → Prop
  | 0 => fun _ _ _ => False
  | n + 1 => fun y1 y2 y4 => (((v0.1 2) ≤ y4 → Q y2) ∧ (¬ (v0.1 2) ≤ y4 → ((300 ≤ y4 → Q y2) ∧ (¬ 300 ≤ y4 → ((¬ (y4 - y4 / 3 * 3) = y1 → wp_X2_partsOf_c42 v0 f0_0 Q (wp_X2_partsOf_c5 v0 f0_0 Q n) y1 y2 y4) ∧ ((y4 - y4 / 3 * 3) = y1 → vp_in y4 300 ∧ (∀ x_2 : Int64, x_2 = (y2 + (f0_0 (Int32.toNatClampNeg y4))) → wp_X2_partsOf_c42 v0 f0_0 Q (wp_X2_partsOf_c5 v0 f0_0 Q n) y1 x_2 y4)))))))
set_option maxHeartbeats 4000000 in
set_option maxRecDepth 100000 in
theorem wk_X2_partsOf_c5 {p : Program} {l : Launch} {e : Env} {s : State} {m : MethodId} {args : Array Value} {below : List Frame} {meth : Method} {c : Code} {D : GG} {A : Nat → Prop} {cI cJ cZ cS : ClassId} {a0 : Nat} {r0 : Nat → Nat} {v0 : Vl} {f0_0 : Nat → Int64} {Q : Int64 → Prop} (C : Cx p s m args c D (tyL cI cJ cZ cS) A RX2 cX2_partsOf 5) (hr : meth.sig.returnType = some .long) (hk : meth.locks = false) : ∀ (n : Nat) (y1 : Int32) (y2 : Int64) (y4 : Int32), wp_X2_partsOf_c5 v0 f0_0 Q n y1 y2 y4 → J p l e (rmk 0 0) s m args below meth c D A 5 0 0 (MQ below (va_Ql (fun (r : Int64) (u : Unit) => Q r) (fun u t => va_P D.1 vwCl ((fun (u : Unit) => List.flatten [bX2 cI cJ cZ a0 r0 v0, bL cJ 300 (r0 0) f0_0]) u) t.heap ∧ va_D A ((fun (u : Unit) => List.flatten [bX2 cI cJ cZ a0 r0 v0, bL cJ 300 (r0 0) f0_0]) u)) A) args s 0 0 A) 5 [(0, .ref a0), (1, .int y1), (2, .long y2), (4, .int y4)] [] (List.flatten [bX2 cI cJ cZ a0 r0 v0, bL cJ 300 (r0 0) f0_0]) := by
  intro n
  induction n with
  | zero =>
    intro y1 y2 y4 h
    exact False.elim h
  | succ n ih =>
    intro y1 y2 y4 h
    refine J_iload C 7 dX2_partsOf_5 rfl rfl ?_
    refine J_aload_n C 8 dX2_partsOf_7 rfl rfl ?_
    refine J_get C 11 2 inlX2 0 2 rfl rfl (by decide) wd882 rfl rfl dX2_partsOf_8 rfl ?_
    refine J_icmp_ge C 14 48 dX2_partsOf_11 rfl rfl (fun c => ?_) (fun c => ?_)
    · have h := h.1 c
      refine J_lload_n C 49 dX2_partsOf_48 rfl rfl ?_
      exact J_lret C hr hk () rfl dX2_partsOf_49 h
    · have h := h.2 c
      refine J_iload C 16 dX2_partsOf_14 rfl rfl ?_
      refine J_aload_n C 17 dX2_partsOf_16 rfl rfl ?_
      refine J_get C 20 2 inlX2 0 0 rfl rfl (by decide) wd118 rfl rfl dX2_partsOf_17 rfl ?_
      refine J_alen C 21 1 1 rfl rfl kn_300 dX2_partsOf_20 rfl ?_
      refine J_icmp_ge C 24 48 dX2_partsOf_21 rfl rfl (fun c => ?_) (fun c => ?_)
      · have h := h.1 c
        refine J_lload_n C 49 dX2_partsOf_48 rfl rfl ?_
        exact J_lret C hr hk () rfl dX2_partsOf_49 h
      · have h := h.2 c
        refine J_iload C 26 dX2_partsOf_24 rfl rfl ?_
        refine J_iconst C 27 dX2_partsOf_26 rfl ki_3 ?_
        refine J_irem C 28 dX2_partsOf_27 rfl (by decide) ?_
        refine J_iload_n C 29 dX2_partsOf_28 rfl rfl ?_
        refine J_icmp_ne C 32 42 dX2_partsOf_29 rfl rfl (fun c => ?_) (fun c => ?_)
        · have h := h.1 c
          refine J_loc [0, 1, 2, 3] rfl ?_
          exact wk_X2_partsOf_c42 C hr hk ih y1 y2 y4 h
        · have h := h.2 c
          refine J_lload_n C 33 dX2_partsOf_32 rfl rfl ?_
          refine J_aload_n C 34 dX2_partsOf_33 rfl rfl ?_
          refine J_get C 37 2 inlX2 0 0 rfl rfl (by decide) wd118 rfl rfl dX2_partsOf_34 rfl ?_
          refine J_iload C 39 dX2_partsOf_37 rfl rfl ?_
          obtain ⟨hi, h⟩ := h
          refine J_lald C 40 1 1 rfl rfl hi dX2_partsOf_39 rfl ?_
          refine J_ladd C 41 dX2_partsOf_40 rfl ?_
          obtain ⟨x_2, ex_2⟩ : ∃ z : Int64, z = (y2 + (f0_0 (Int32.toNatClampNeg y4))) := ⟨_, rfl⟩
          have h := h x_2 ex_2
          refine J_nml ex_2 ?_
          refine J_lstore_n C 42 [(2, .long x_2), (0, .ref a0), (1, .int y1), (4, .int y4)] dX2_partsOf_41 rfl (by decide) rfl ?_
          refine J_loc [1, 2, 0, 3] rfl ?_
          exact wk_X2_partsOf_c42 C hr hk ih y1 x_2 y4 h
def wp_X2_partsOf (v0 : Vl) (f0_0 : Nat → Int64) (x1 : Int32) (Q : Int64 → Prop) : Prop := (∃ k : Nat, wp_X2_partsOf_c5 v0 f0_0 Q k x1 0 0)
set_option maxHeartbeats 4000000 in
set_option maxRecDepth 100000 in
theorem c_X2_partsOf (l : Launch) (D : GG) (cI cJ cZ cS : ClassId) (a0 : Nat) (r0 : Nat → Nat) (v0 : Vl) (f0_0 : Nat → Int64) (x1 : Int32) (Q : Int64 → Prop) (h : wp_X2_partsOf v0 f0_0 x1 Q) : Ml l D (tyL cI cJ cZ cS) yX2_partsOf cX2_partsOf 5 0 0 [.ref a0, .int x1] (List.flatten [bX2 cI cJ cZ a0 r0 v0, bL cJ 300 (r0 0) f0_0]) (fun (r : Int64) (u : Unit) => Q r) (fun (u : Unit) => List.flatten [bX2 cI cJ cZ a0 r0 v0, bL cJ 300 (r0 0) f0_0]) := by
  refine Ml_of RX2 [(0, .ref a0), (1, .int x1)] (by decide +kernel) rfl rfl (Nat.le_of_ble_eq_true rfl) ?_
  intro p e s m args below meth c A C hr hk
  refine J_lconst C 1 dX2_partsOf_0 rfl kl_0 ?_
  refine J_lstore_n C 2 [(2, .long 0), (0, .ref a0), (1, .int x1)] dX2_partsOf_1 rfl (by decide) rfl ?_
  refine J_iconst C 3 dX2_partsOf_2 rfl ki_0 ?_
  refine J_istore C 5 [(4, .int 0), (2, .long 0), (0, .ref a0), (1, .int x1)] dX2_partsOf_3 rfl (by decide) rfl ?_
  refine J_loc [2, 3, 1, 0] rfl ?_
  obtain ⟨n1, h⟩ := h
  exact wk_X2_partsOf_c5 C hr hk n1 x1 0 0 h
def wp_X2_passDay_c144 (v0 : Vl) (v1 : Vl) (Q : (Nat → Int64) → (Nat → Int64) → Prop) (f0_0 : Nat → Int64) (f0_1 : Nat → Int64) : Prop := Q f0_1 f0_0
set_option maxHeartbeats 4000000 in
set_option maxRecDepth 100000 in
theorem wk_X2_passDay_c144 {p : Program} {l : Launch} {e : Env} {s : State} {m : MethodId} {args : Array Value} {below : List Frame} {meth : Method} {c : Code} {D : GG} {A : Nat → Prop} {cI cJ cZ cS : ClassId} {a0 : Nat} {a1 : Nat} {r1 : Nat → Nat} {v0 : Vl} {v1 : Vl} {Q : (Nat → Int64) → (Nat → Int64) → Prop} (C : Cx p s m args c D (tyL cI cJ cZ cS) A RX2 cX2_passDay 13) (hr : meth.sig.returnType = none) (hk : meth.locks = false) : ∀ (r0 : Nat → Nat) (f0_0 : Nat → Int64) (f0_1 : Nat → Int64), wp_X2_passDay_c144 v0 v1 Q f0_0 f0_1 → J p l e (rmk 2 43) s m args below meth c D A 13 0 0 (MQ below (va_Qv (fun (u : (Nat → Int64) × (Nat → Int64) × (Nat → Nat)) => Q u.1 u.2.1) (fun u t => va_P D.1 vwCl ((fun (u : (Nat → Int64) × (Nat → Int64) × (Nat → Nat)) => List.flatten [bX2 cI cJ cZ a0 u.2.2 v0, bX3 cI cJ cZ a1 r1 v1, bL cJ 300 (u.2.2 0) u.1, bL cJ 300 (u.2.2 1) u.2.1]) u) t.heap ∧ va_D A ((fun (u : (Nat → Int64) × (Nat → Int64) × (Nat → Nat)) => List.flatten [bX2 cI cJ cZ a0 u.2.2 v0, bX3 cI cJ cZ a1 r1 v1, bL cJ 300 (u.2.2 0) u.1, bL cJ 300 (u.2.2 1) u.2.1]) u)) A) args s 0 0 A) 144 [(0, .ref a0)] [] (List.flatten [bX2 cI cJ cZ a0 r0 v0, bX3 cI cJ cZ a1 r1 v1, bL cJ 300 (r0 0) f0_0, bL cJ 300 (r0 1) f0_1]) := by
  intro r0 f0_0 f0_1 h
  refine J_aload_n C 145 dX2_passDay_144 rfl rfl ?_
  refine J_get C 148 2 inlX2 0 0 rfl rfl (by decide) wd118 rfl rfl dX2_passDay_145 rfl ?_
  refine J_astore C 150 [(4, .ref (r0 0)), (0, .ref a0)] dX2_passDay_148 rfl (by decide) rfl ?_
  refine J_aload_n C 151 dX2_passDay_150 rfl rfl ?_
  refine J_aload_n C 152 dX2_passDay_151 rfl rfl ?_
  refine J_get C 155 2 inlX2 0 1 rfl rfl (by decide) wd119 rfl rfl dX2_passDay_152 rfl ?_
  refine J_put C 158 2 inlX2 tyX2 tyX2_ok nmX2 0 0 rfl rfl (by decide) wd118 rfl rfl rfl rfl rfl (List.flatten [bX2 cI cJ cZ a0 (va_up r0 0 (r0 1)) v0, bX3 cI cJ cZ a1 r1 v1, bL cJ 300 (r0 0) f0_0, bL cJ 300 (r0 1) f0_1]) rfl dX2_passDay_155 rfl ?_
  refine J_aload_n C 159 dX2_passDay_158 rfl rfl ?_
  refine J_aload C 161 dX2_passDay_159 rfl rfl ?_
  refine J_put C 164 2 inlX2 tyX2 tyX2_ok nmX2 0 1 rfl rfl (by decide) wd119 rfl rfl rfl rfl rfl (List.flatten [bX2 cI cJ cZ a0 (va_up (va_up r0 0 (r0 1)) 1 (r0 0)) v0, bX3 cI cJ cZ a1 r1 v1, bL cJ 300 (r0 0) f0_0, bL cJ 300 (r0 1) f0_1]) rfl dX2_passDay_161 rfl ?_
  refine J_sub (ws' := List.flatten [bX2 cI cJ cZ a0 (va_up (va_up r0 0 (r0 1)) 1 (r0 0)) v0, bX3 cI cJ cZ a1 r1 v1, bL cJ 300 (r0 1) f0_1, bL cJ 300 (r0 0) f0_0]) [0, 1, 2, 3, 4, 5, 6, 7, 8, 10, 9] rfl rfl ?_
  exact J_vret C hr hk (f0_1, f0_0, va_up (va_up r0 0 (r0 1)) 1 (r0 0)) rfl dX2_passDay_164 h
def wp_X2_passDay_c138 (v0 : Vl) (v1 : Vl) (Q : (Nat → Int64) → (Nat → Int64) → Prop) (B3 : (Nat → Int64) → (Nat → Int64) → Int32 → Int32 → Int32 → Prop) (f0_0 : Nat → Int64) (f0_1 : Nat → Int64) (y2 : Int32) (y3 : Int32) (y4 : Int32) : Prop := ∀ x_2 : Int32, x_2 = y4 + 1 → B3 f0_0 f0_1 y2 y3 x_2
set_option maxHeartbeats 4000000 in
set_option maxRecDepth 100000 in
theorem wk_X2_passDay_c138 {p : Program} {l : Launch} {e : Env} {s : State} {m : MethodId} {args : Array Value} {below : List Frame} {meth : Method} {c : Code} {D : GG} {A : Nat → Prop} {cI cJ cZ cS : ClassId} {a0 : Nat} {a1 : Nat} {r1 : Nat → Nat} {v0 : Vl} {v1 : Vl} {B3 : (Nat → Int64) → (Nat → Int64) → Int32 → Int32 → Int32 → Prop} {Q : (Nat → Int64) → (Nat → Int64) → Prop} (C : Cx p s m args c D (tyL cI cJ cZ cS) A RX2 cX2_passDay 13) (hr : meth.sig.returnType = none) (hk : meth.locks = false) (hB3 : ∀ (r0 : Nat → Nat) (f0_0 : Nat → Int64) (f0_1 : Nat → Int64) (y2 : Int32) (y3 : Int32) (y4 : Int32), B3 f0_0 f0_1 y2 y3 y4 → J p l e (rmk 2 43) s m args below meth c D A 13 0 0 (MQ below (va_Qv (fun (u : (Nat → Int64) × (Nat → Int64) × (Nat → Nat)) => Q u.1 u.2.1) (fun u t => va_P D.1 vwCl ((fun (u : (Nat → Int64) × (Nat → Int64) × (Nat → Nat)) => List.flatten [bX2 cI cJ cZ a0 u.2.2 v0, bX3 cI cJ cZ a1 r1 v1, bL cJ 300 (u.2.2 0) u.1, bL cJ 300 (u.2.2 1) u.2.1]) u) t.heap ∧ va_D A ((fun (u : (Nat → Int64) × (Nat → Int64) × (Nat → Nat)) => List.flatten [bX2 cI cJ cZ a0 u.2.2 v0, bX3 cI cJ cZ a1 r1 v1, bL cJ 300 (u.2.2 0) u.1, bL cJ 300 (u.2.2 1) u.2.1]) u)) A) args s 0 0 A) 3 [(0, .ref a0), (1, .ref a1), (2, .int y2), (3, .int y3), (4, .int y4)] [] (List.flatten [bX2 cI cJ cZ a0 r0 v0, bX3 cI cJ cZ a1 r1 v1, bL cJ 300 (r0 0) f0_0, bL cJ 300 (r0 1) f0_1])) : ∀ (r0 : Nat → Nat) (f0_0 : Nat → Int64) (f0_1 : Nat → Int64) (y2 : Int32) (y3 : Int32) (y4 : Int32), wp_X2_passDay_c138 v0 v1 Q B3 f0_0 f0_1 y2 y3 y4 → J p l e (rmk 2 43) s m args below meth c D A 13 0 0 (MQ below (va_Qv (fun (u : (Nat → Int64) × (Nat → Int64) × (Nat → Nat)) => Q u.1 u.2.1) (fun u t => va_P D.1 vwCl ((fun (u : (Nat → Int64) × (Nat → Int64) × (Nat → Nat)) => List.flatten [bX2 cI cJ cZ a0 u.2.2 v0, bX3 cI cJ cZ a1 r1 v1, bL cJ 300 (u.2.2 0) u.1, bL cJ 300 (u.2.2 1) u.2.1]) u) t.heap ∧ va_D A ((fun (u : (Nat → Int64) × (Nat → Int64) × (Nat → Nat)) => List.flatten [bX2 cI cJ cZ a0 u.2.2 v0, bX3 cI cJ cZ a1 r1 v1, bL cJ 300 (u.2.2 0) u.1, bL cJ 300 (u.2.2 1) u.2.1]) u)) A) args s 0 0 A) 138 [(0, .ref a0), (1, .ref a1), (2, .int y2), (3, .int y3), (4, .int y4)] [] (List.flatten [bX2 cI cJ cZ a0 r0 v0, bX3 cI cJ cZ a1 r1 v1, bL cJ 300 (r0 0) f0_0, bL cJ 300 (r0 1) f0_1]) := by
  intro r0 f0_0 f0_1 y2 y3 y4 h
  obtain ⟨x_2, ex_2⟩ : ∃ z : Int32, z = y4 + 1 := ⟨_, rfl⟩
  have h := h x_2 ex_2
  refine J_iinc C 141 [(4, .int x_2), (0, .ref a0), (1, .ref a1), (2, .int y2), (3, .int y3)] dX2_passDay_138 rfl rfl ((kinc_1 _).trans ex_2.symm) (by decide) rfl ?_
  refine J_goto C 3 dX2_passDay_141 rfl ?_
  refine J_loc [1, 2, 3, 4, 0] rfl ?_
  exact hB3 r0 f0_0 f0_1 y2 y3 x_2 h
def wp_X2_passDay_c3 (v0 : Vl) (v1 : Vl) (Q : (Nat → Int64) → (Nat → Int64) → Prop) : Nat → (Nat → Int64) → (Nat → Int64) → Int32 → Int32 → Int32 → Prop
  | 0 => fun _ _ _ _ _ => False
  | n + 1 => fun f0_0 f0_1 y2 y3 y4 => (((v0.1 2) ≤ y4 → wp_X2_passDay_c144 v0 v1 Q f0_0 f0_1) ∧ (¬ (v0.1 2) ≤ y4 → ((300 ≤ y4 → wp_X2_passDay_c144 v0 v1 Q f0_0 f0_1) ∧ (¬ 300 ≤ y4 → vp_in y4 300 ∧ (∀ x_1 : Int64, x_1 = (f0_0 (Int32.toNatClampNeg y4)) → ((x_1 ≤ 0 → wp_X2_passDay_c138 v0 v1 Q (wp_X2_passDay_c3 v0 v1 Q n) f0_0 f0_1 y2 y3 y4) ∧ (¬ x_1 ≤ 0 → ∀ x_3 : Int32, x_3 = (y4 - y4 / 3 * 3) → ∀ x_4 : Int32, x_4 = (y4 / 3) → wp_X3_chanceOf v1 x_3 0 (fun r_5 => ∀ x_6 : Int64, x_6 = ((x_1 * (Int32.toInt64 r_5)) / 100) → wp_X3_chanceOf v1 x_3 1 (fun r_7 => ∀ x_8 : Int64, x_8 = ((x_1 * (Int32.toInt64 r_7)) / 100) → wp_X2_add 300 f0_1 0 (x_4 - y2) x_6 (fun u_9 => wp_X2_add 300 u_9 1 (x_4 - y3) x_8 (fun u_10 => wp_X2_add 300 u_10 2 x_4 ((x_1 - x_6) - x_8) (fun u_11 => vp_in y4 300 ∧ (∀ f00s_12 : Nat → Int64, f00s_12 = vp_updL f0_0 (Int32.toNatClampNeg y4) 0 → wp_X2_passDay_c138 v0 v1 Q (wp_X2_passDay_c3 v0 v1 Q n) f00s_12 u_11 y2 y3 y4)))))))))))))
set_option maxHeartbeats 4000000 in
set_option maxRecDepth 100000 in
theorem wk_X2_passDay_c3 {p : Program} {l : Launch} {e : Env} {s : State} {m : MethodId} {args : Array Value} {below : List Frame} {meth : Method} {c : Code} {D : GG} {A : Nat → Prop} {cI cJ cZ cS : ClassId} {a0 : Nat} {a1 : Nat} {r1 : Nat → Nat} {v0 : Vl} {v1 : Vl} {Q : (Nat → Int64) → (Nat → Int64) → Prop} (C : Cx p s m args c D (tyL cI cJ cZ cS) A RX2 cX2_passDay 13) (hr : meth.sig.returnType = none) (hk : meth.locks = false) : ∀ (n : Nat) (r0 : Nat → Nat) (f0_0 : Nat → Int64) (f0_1 : Nat → Int64) (y2 : Int32) (y3 : Int32) (y4 : Int32), wp_X2_passDay_c3 v0 v1 Q n f0_0 f0_1 y2 y3 y4 → J p l e (rmk 2 43) s m args below meth c D A 13 0 0 (MQ below (va_Qv (fun (u : (Nat → Int64) × (Nat → Int64) × (Nat → Nat)) => Q u.1 u.2.1) (fun u t => va_P D.1 vwCl ((fun (u : (Nat → Int64) × (Nat → Int64) × (Nat → Nat)) => List.flatten [bX2 cI cJ cZ a0 u.2.2 v0, bX3 cI cJ cZ a1 r1 v1, bL cJ 300 (u.2.2 0) u.1, bL cJ 300 (u.2.2 1) u.2.1]) u) t.heap ∧ va_D A ((fun (u : (Nat → Int64) × (Nat → Int64) × (Nat → Nat)) => List.flatten [bX2 cI cJ cZ a0 u.2.2 v0, bX3 cI cJ cZ a1 r1 v1, bL cJ 300 (u.2.2 0) u.1, bL cJ 300 (u.2.2 1) u.2.1]) u)) A) args s 0 0 A) 3 [(0, .ref a0), (1, .ref a1), (2, .int y2), (3, .int y3), (4, .int y4)] [] (List.flatten [bX2 cI cJ cZ a0 r0 v0, bX3 cI cJ cZ a1 r1 v1, bL cJ 300 (r0 0) f0_0, bL cJ 300 (r0 1) f0_1]) := by
  intro n
  induction n with
  | zero =>
    intro r0 f0_0 f0_1 y2 y3 y4 h
    exact False.elim h
  | succ n ih =>
    intro r0 f0_0 f0_1 y2 y3 y4 h
    refine J_iload C 5 dX2_passDay_3 rfl rfl ?_
    refine J_aload_n C 6 dX2_passDay_5 rfl rfl ?_
    refine J_get C 9 2 inlX2 0 2 rfl rfl (by decide) wd882 rfl rfl dX2_passDay_6 rfl ?_
    refine J_icmp_ge C 12 144 dX2_passDay_9 rfl rfl (fun c => ?_) (fun c => ?_)
    · have h := h.1 c
      refine J_loc [0] rfl ?_
      exact wk_X2_passDay_c144 C hr hk r0 f0_0 f0_1 h
    · have h := h.2 c
      refine J_iload C 14 dX2_passDay_12 rfl rfl ?_
      refine J_aload_n C 15 dX2_passDay_14 rfl rfl ?_
      refine J_get C 18 2 inlX2 0 0 rfl rfl (by decide) wd118 rfl rfl dX2_passDay_15 rfl ?_
      refine J_alen C 19 9 1 rfl rfl kn_300 dX2_passDay_18 rfl ?_
      refine J_icmp_ge C 22 144 dX2_passDay_19 rfl rfl (fun c => ?_) (fun c => ?_)
      · have h := h.1 c
        refine J_loc [0] rfl ?_
        exact wk_X2_passDay_c144 C hr hk r0 f0_0 f0_1 h
      · have h := h.2 c
        refine J_aload_n C 23 dX2_passDay_22 rfl rfl ?_
        refine J_get C 26 2 inlX2 0 0 rfl rfl (by decide) wd118 rfl rfl dX2_passDay_23 rfl ?_
        refine J_iload C 28 dX2_passDay_26 rfl rfl ?_
        obtain ⟨hi, h⟩ := h
        refine J_lald C 29 9 1 rfl rfl hi dX2_passDay_28 rfl ?_
        obtain ⟨x_1, ex_1⟩ : ∃ z : Int64, z = (f0_0 (Int32.toNatClampNeg y4)) := ⟨_, rfl⟩
        have h := h x_1 ex_1
        refine J_nml ex_1 ?_
        refine J_lstore C 31 [(5, .long x_1), (0, .ref a0), (1, .ref a1), (2, .int y2), (3, .int y3), (4, .int y4)] dX2_passDay_29 rfl (by decide) rfl ?_
        refine J_lload C 33 dX2_passDay_31 rfl rfl ?_
        refine J_lconst C 34 dX2_passDay_33 rfl kl_0 ?_
        refine J_lc_le C 35 38 138 dX2_passDay_34 rfl dX2_passDay_35 rfl rfl (fun c => ?_) (fun c => ?_)
        · have h := h.1 c
          refine J_loc [1, 2, 3, 4, 5] rfl ?_
          exact wk_X2_passDay_c138 C hr hk ih r0 f0_0 f0_1 y2 y3 y4 h
        · have h := h.2 c
          refine J_iload C 40 dX2_passDay_38 rfl rfl ?_
          refine J_iconst C 41 dX2_passDay_40 rfl ki_3 ?_
          refine J_irem C 42 dX2_passDay_41 rfl (by decide) ?_
          obtain ⟨x_3, ex_3⟩ : ∃ z : Int32, z = (y4 - y4 / 3 * 3) := ⟨_, rfl⟩
          have h := h x_3 ex_3
          refine J_nmi ex_3 ?_
          refine J_istore C 44 [(7, .int x_3), (5, .long x_1), (0, .ref a0), (1, .ref a1), (2, .int y2), (3, .int y3), (4, .int y4)] dX2_passDay_42 rfl (by decide) rfl ?_
          refine J_iload C 46 dX2_passDay_44 rfl rfl ?_
          refine J_iconst C 47 dX2_passDay_46 rfl ki_3 ?_
          refine J_idiv C 48 dX2_passDay_47 rfl (by decide) ?_
          obtain ⟨x_4, ex_4⟩ : ∃ z : Int32, z = (y4 / 3) := ⟨_, rfl⟩
          have h := h x_4 ex_4
          refine J_nmi ex_4 ?_
          refine J_istore C 50 [(8, .int x_4), (7, .int x_3), (5, .long x_1), (0, .ref a0), (1, .ref a1), (2, .int y2), (3, .int y3), (4, .int y4)] dX2_passDay_48 rfl (by decide) rfl ?_
          refine J_lload C 52 dX2_passDay_50 rfl rfl ?_
          refine J_aload_n C 53 dX2_passDay_52 rfl rfl ?_
          refine J_iload C 55 dX2_passDay_53 rfl rfl ?_
          refine J_iconst C 56 dX2_passDay_55 rfl ki_0 ?_
          refine J_callBiV (Bs := [bX2 cI cJ cZ a0 r0 v0, bX3 cI cJ cZ a1 r1 v1, bL cJ 300 (r0 0) f0_0, bL cJ 300 (r0 1) f0_1]) (As := [.int x_3, .int 0]) C 59 (c_X3_chanceOf l D cI cJ cZ cS a1 r1 v1 x_3 0 _ h) wd580 wd893 wd19 wd578 wd579 3 0 rfl rfl rfl hdX3_chanceOf ⟨Nat.le_of_ble_eq_true rfl, Nat.le_of_ble_eq_true rfl⟩ ⟨Nat.zero_le _, Nat.zero_le _⟩ rfl (Nat.le_of_ble_eq_true rfl) [1] [0, 2, 3] 4 rfl (by decide +kernel) rfl rfl (fun (u : Unit) => [bX3 cI cJ cZ a1 r1 v1]) (fun _ => rfl) [1, 0, 2, 3] (by decide +kernel) (fun _ => rfl) rfl (fun (u : Unit) => [bX2 cI cJ cZ a0 r0 v0, bX3 cI cJ cZ a1 r1 v1, bL cJ 300 (r0 0) f0_0, bL cJ 300 (r0 1) f0_1]) (fun _ => rfl) dX2_passDay_56 rfl (fun r_5 u h => ?_)
          refine J_i2l C 60 dX2_passDay_59 rfl ?_
          refine J_lmul C 61 dX2_passDay_60 rfl ?_
          refine J_ldc2 C 64 wd892 dX2_passDay_61 rfl ?_
          refine J_ldiv C 65 dX2_passDay_64 rfl (by decide) ?_
          obtain ⟨x_6, ex_6⟩ : ∃ z : Int64, z = ((x_1 * (Int32.toInt64 r_5)) / 100) := ⟨_, rfl⟩
          have h := h x_6 ex_6
          refine J_nml ex_6 ?_
          refine J_lstore C 67 [(9, .long x_6), (8, .int x_4), (7, .int x_3), (5, .long x_1), (0, .ref a0), (1, .ref a1), (2, .int y2), (3, .int y3), (4, .int y4)] dX2_passDay_65 rfl (by decide) rfl ?_
          refine J_lload C 69 dX2_passDay_67 rfl rfl ?_
          refine J_aload_n C 70 dX2_passDay_69 rfl rfl ?_
          refine J_iload C 72 dX2_passDay_70 rfl rfl ?_
          refine J_iconst C 73 dX2_passDay_72 rfl ki_1 ?_
          refine J_callBiV (Bs := [bX2 cI cJ cZ a0 r0 v0, bX3 cI cJ cZ a1 r1 v1, bL cJ 300 (r0 0) f0_0, bL cJ 300 (r0 1) f0_1]) (As := [.int x_3, .int 1]) C 76 (c_X3_chanceOf l D cI cJ cZ cS a1 r1 v1 x_3 1 _ h) wd580 wd893 wd19 wd578 wd579 3 0 rfl rfl rfl hdX3_chanceOf ⟨Nat.le_of_ble_eq_true rfl, Nat.le_of_ble_eq_true rfl⟩ ⟨Nat.zero_le _, Nat.zero_le _⟩ rfl (Nat.le_of_ble_eq_true rfl) [1] [0, 2, 3] 4 rfl (by decide +kernel) rfl rfl (fun (u : Unit) => [bX3 cI cJ cZ a1 r1 v1]) (fun _ => rfl) [1, 0, 2, 3] (by decide +kernel) (fun _ => rfl) rfl (fun (u : Unit) => [bX2 cI cJ cZ a0 r0 v0, bX3 cI cJ cZ a1 r1 v1, bL cJ 300 (r0 0) f0_0, bL cJ 300 (r0 1) f0_1]) (fun _ => rfl) dX2_passDay_73 rfl (fun r_7 u h => ?_)
          refine J_i2l C 77 dX2_passDay_76 rfl ?_
          refine J_lmul C 78 dX2_passDay_77 rfl ?_
          refine J_ldc2 C 81 wd892 dX2_passDay_78 rfl ?_
          refine J_ldiv C 82 dX2_passDay_81 rfl (by decide) ?_
          obtain ⟨x_8, ex_8⟩ : ∃ z : Int64, z = ((x_1 * (Int32.toInt64 r_7)) / 100) := ⟨_, rfl⟩
          have h := h x_8 ex_8
          refine J_nml ex_8 ?_
          refine J_lstore C 84 [(11, .long x_8), (9, .long x_6), (8, .int x_4), (7, .int x_3), (5, .long x_1), (0, .ref a0), (1, .ref a1), (2, .int y2), (3, .int y3), (4, .int y4)] dX2_passDay_82 rfl (by decide) rfl ?_
          refine J_aload_n C 85 dX2_passDay_84 rfl rfl ?_
          refine J_get C 88 2 inlX2 0 1 rfl rfl (by decide) wd119 rfl rfl dX2_passDay_85 rfl ?_
          refine J_iconst C 89 dX2_passDay_88 rfl ki_0 ?_
          refine J_iload C 91 dX2_passDay_89 rfl rfl ?_
          refine J_iload_n C 92 dX2_passDay_91 rfl rfl ?_
          refine J_isub C 93 dX2_passDay_92 rfl ?_
          refine J_lload C 95 dX2_passDay_93 rfl rfl ?_
          refine J_call1vS (As := [.ref (r0 1), .int 0, .int (x_4 - y2), .long x_6]) C 98 (c_X2_add l D cI cJ cZ cS 300 (r0 1) f0_1 0 (x_4 - y2) x_6 _ h) wd886 wd884 wd40 wd885 hdX2_add ⟨Nat.le_of_ble_eq_true rfl, Nat.le_of_ble_eq_true rfl⟩ ⟨Nat.zero_le _, Nat.zero_le _⟩ rfl (Nat.le_of_ble_eq_true rfl) 10 rfl (fun u => .inl (cJ, 300, .inr (.inl u))) (fun _ => rfl) (fun (u : (Nat → Int64)) => List.flatten [bX2 cI cJ cZ a0 r0 v0, bX3 cI cJ cZ a1 r1 v1, bL cJ 300 (r0 0) f0_0, bL cJ 300 (r0 1) u]) (fun _ => rfl) dX2_passDay_95 rfl (fun u h => ?_)
          obtain ⟨u_9, hu⟩ : ∃ z, z = u := ⟨_, rfl⟩
          subst hu
          refine J_aload_n C 99 dX2_passDay_98 rfl rfl ?_
          refine J_get C 102 2 inlX2 0 1 rfl rfl (by decide) wd119 rfl rfl dX2_passDay_99 rfl ?_
          refine J_iconst C 103 dX2_passDay_102 rfl ki_1 ?_
          refine J_iload C 105 dX2_passDay_103 rfl rfl ?_
          refine J_iload_n C 106 dX2_passDay_105 rfl rfl ?_
          refine J_isub C 107 dX2_passDay_106 rfl ?_
          refine J_lload C 109 dX2_passDay_107 rfl rfl ?_
          refine J_call1vS (As := [.ref (r0 1), .int 1, .int (x_4 - y3), .long x_8]) C 112 (c_X2_add l D cI cJ cZ cS 300 (r0 1) u_9 1 (x_4 - y3) x_8 _ h) wd886 wd884 wd40 wd885 hdX2_add ⟨Nat.le_of_ble_eq_true rfl, Nat.le_of_ble_eq_true rfl⟩ ⟨Nat.zero_le _, Nat.zero_le _⟩ rfl (Nat.le_of_ble_eq_true rfl) 10 rfl (fun u => .inl (cJ, 300, .inr (.inl u))) (fun _ => rfl) (fun (u : (Nat → Int64)) => List.flatten [bX2 cI cJ cZ a0 r0 v0, bX3 cI cJ cZ a1 r1 v1, bL cJ 300 (r0 0) f0_0, bL cJ 300 (r0 1) u]) (fun _ => rfl) dX2_passDay_109 rfl (fun u h => ?_)
          obtain ⟨u_10, hu⟩ : ∃ z, z = u := ⟨_, rfl⟩
          subst hu
          refine J_aload_n C 113 dX2_passDay_112 rfl rfl ?_
          refine J_get C 116 2 inlX2 0 1 rfl rfl (by decide) wd119 rfl rfl dX2_passDay_113 rfl ?_
          refine J_iconst C 117 dX2_passDay_116 rfl ki_2 ?_
          refine J_iload C 119 dX2_passDay_117 rfl rfl ?_
          refine J_lload C 121 dX2_passDay_119 rfl rfl ?_
          refine J_lload C 123 dX2_passDay_121 rfl rfl ?_
          refine J_lsub C 124 dX2_passDay_123 rfl ?_
          refine J_lload C 126 dX2_passDay_124 rfl rfl ?_
          refine J_lsub C 127 dX2_passDay_126 rfl ?_
          refine J_call1vS (As := [.ref (r0 1), .int 2, .int x_4, .long ((x_1 - x_6) - x_8)]) C 130 (c_X2_add l D cI cJ cZ cS 300 (r0 1) u_10 2 x_4 ((x_1 - x_6) - x_8) _ h) wd886 wd884 wd40 wd885 hdX2_add ⟨Nat.le_of_ble_eq_true rfl, Nat.le_of_ble_eq_true rfl⟩ ⟨Nat.zero_le _, Nat.zero_le _⟩ rfl (Nat.le_of_ble_eq_true rfl) 10 rfl (fun u => .inl (cJ, 300, .inr (.inl u))) (fun _ => rfl) (fun (u : (Nat → Int64)) => List.flatten [bX2 cI cJ cZ a0 r0 v0, bX3 cI cJ cZ a1 r1 v1, bL cJ 300 (r0 0) f0_0, bL cJ 300 (r0 1) u]) (fun _ => rfl) dX2_passDay_127 rfl (fun u h => ?_)
          obtain ⟨u_11, hu⟩ : ∃ z, z = u := ⟨_, rfl⟩
          subst hu
          refine J_aload_n C 131 dX2_passDay_130 rfl rfl ?_
          refine J_get C 134 2 inlX2 0 0 rfl rfl (by decide) wd118 rfl rfl dX2_passDay_131 rfl ?_
          refine J_iload C 136 dX2_passDay_134 rfl rfl ?_
          refine J_lconst C 137 dX2_passDay_136 rfl kl_0 ?_
          obtain ⟨hi, h⟩ := h
          obtain ⟨f00s_12, ef00s_12⟩ : ∃ z : Nat → Int64, z = vp_updL f0_0 (Int32.toNatClampNeg y4) 0 := ⟨_, rfl⟩
          have h := h f00s_12 ef00s_12
          refine J_last C 138 9 1 rfl rfl hi (List.flatten [bX2 cI cJ cZ a0 r0 v0, bX3 cI cJ cZ a1 r1 v1, bL cJ 300 (r0 0) f00s_12, bL cJ 300 (r0 1) u_11]) (by subst ef00s_12; rfl) dX2_passDay_137 rfl ?_
          refine J_loc [5, 6, 7, 8, 9] rfl ?_
          exact wk_X2_passDay_c138 C hr hk ih r0 f00s_12 u_11 y2 y3 y4 h
def wp_X2_passDay (v0 : Vl) (v1 : Vl) (f0_0 : Nat → Int64) (f0_1 : Nat → Int64) (x2 : Int32) (x3 : Int32) (Q : (Nat → Int64) → (Nat → Int64) → Prop) : Prop := (∃ k : Nat, wp_X2_passDay_c3 v0 v1 Q k f0_0 f0_1 x2 x3 0)
set_option maxHeartbeats 4000000 in
set_option maxRecDepth 100000 in
theorem c_X2_passDay (l : Launch) (D : GG) (cI cJ cZ cS : ClassId) (a0 : Nat) (r0 : Nat → Nat) (v0 : Vl) (a1 : Nat) (r1 : Nat → Nat) (v1 : Vl) (f0_0 : Nat → Int64) (f0_1 : Nat → Int64) (x2 : Int32) (x3 : Int32) (Q : (Nat → Int64) → (Nat → Int64) → Prop) (h : wp_X2_passDay v0 v1 f0_0 f0_1 x2 x3 Q) : Mv l D (tyL cI cJ cZ cS) yX2_passDay cX2_passDay 13 2 43 [.ref a0, .ref a1, .int x2, .int x3] (List.flatten [bX2 cI cJ cZ a0 r0 v0, bX3 cI cJ cZ a1 r1 v1, bL cJ 300 (r0 0) f0_0, bL cJ 300 (r0 1) f0_1]) (fun (u : (Nat → Int64) × (Nat → Int64) × (Nat → Nat)) => Q u.1 u.2.1) (fun (u : (Nat → Int64) × (Nat → Int64) × (Nat → Nat)) => List.flatten [bX2 cI cJ cZ a0 u.2.2 v0, bX3 cI cJ cZ a1 r1 v1, bL cJ 300 (u.2.2 0) u.1, bL cJ 300 (u.2.2 1) u.2.1]) := by
  refine Mv_of RX2 [(0, .ref a0), (1, .ref a1), (2, .int x2), (3, .int x3)] (by decide +kernel) rfl rfl (Nat.le_of_ble_eq_true rfl) ?_
  intro p e s m args below meth c A C hr hk
  refine J_iconst C 1 dX2_passDay_0 rfl ki_0 ?_
  refine J_istore C 3 [(4, .int 0), (0, .ref a0), (1, .ref a1), (2, .int x2), (3, .int x3)] dX2_passDay_1 rfl (by decide) rfl ?_
  refine J_loc [1, 2, 3, 4, 0] rfl ?_
  obtain ⟨n1, h⟩ := h
  exact wk_X2_passDay_c3 C hr hk n1 r0 f0_0 f0_1 x2 x3 0 h
def wp_X2_start_c40  (Q : Vl → (Nat → Int64) → (Nat → Int64) → Prop) (v0 : Vl) (f0_0 : Nat → Int64) (f0_1 : Nat → Int64) (y1 : Int32) (y2 : Int32) : Prop := ∀ v0s_1 : Vl, v0s_1 = setI v0 2 ((y2 + 1) * 3) → wp_X2_add 300 f0_0 y1 y2 1000000000 (fun u_2 => Q v0s_1 u_2 f0_1)
set_option maxHeartbeats 4000000 in
set_option maxRecDepth 100000 in
theorem wk_X2_start_c40 {p : Program} {l : Launch} {e : Env} {s : State} {m : MethodId} {args : Array Value} {below : List Frame} {meth : Method} {c : Code} {D : GG} {A : Nat → Prop} {cI cJ cZ cS : ClassId} {a0 : Nat} {r0 : Nat → Nat}  {Q : Vl → (Nat → Int64) → (Nat → Int64) → Prop} (C : Cx p s m args c D (tyL cI cJ cZ cS) A RX2 cX2_start 4) (hr : meth.sig.returnType = none) (hk : meth.locks = false) : ∀ (v0 : Vl) (f0_0 : Nat → Int64) (f0_1 : Nat → Int64) (y1 : Int32) (y2 : Int32), wp_X2_start_c40  Q v0 f0_0 f0_1 y1 y2 → J p l e (rmk 1 25) s m args below meth c D A 4 0 0 (MQ below (va_Qv (fun (u : Vl × (Nat → Int64) × (Nat → Int64)) => Q u.1 u.2.1 u.2.2) (fun u t => va_P D.1 vwCl ((fun (u : Vl × (Nat → Int64) × (Nat → Int64)) => List.flatten [bX2 cI cJ cZ a0 r0 u.1, bL cJ 300 (r0 0) u.2.1, bL cJ 300 (r0 1) u.2.2]) u) t.heap ∧ va_D A ((fun (u : Vl × (Nat → Int64) × (Nat → Int64)) => List.flatten [bX2 cI cJ cZ a0 r0 u.1, bL cJ 300 (r0 0) u.2.1, bL cJ 300 (r0 1) u.2.2]) u)) A) args s 0 0 A) 40 [(0, .ref a0), (1, .int y1), (2, .int y2)] [] (List.flatten [bX2 cI cJ cZ a0 r0 v0, bL cJ 300 (r0 0) f0_0, bL cJ 300 (r0 1) f0_1]) := by
  intro v0 f0_0 f0_1 y1 y2 h
  refine J_aload_n C 41 dX2_start_40 rfl rfl ?_
  refine J_iload_n C 42 dX2_start_41 rfl rfl ?_
  refine J_iconst C 43 dX2_start_42 rfl ki_1 ?_
  refine J_iadd C 44 dX2_start_43 rfl ?_
  refine J_iconst C 45 dX2_start_44 rfl ki_3 ?_
  refine J_imul C 46 dX2_start_45 rfl ?_
  obtain ⟨v0s_1, ev0s_1⟩ : ∃ z : Vl, z = setI v0 2 ((y2 + 1) * 3) := ⟨_, rfl⟩
  have h := h v0s_1 ev0s_1
  refine J_put C 49 2 inlX2 tyX2 tyX2_ok nmX2 0 2 rfl rfl (by decide) wd882 rfl rfl rfl rfl rfl (List.flatten [bX2 cI cJ cZ a0 r0 v0s_1, bL cJ 300 (r0 0) f0_0, bL cJ 300 (r0 1) f0_1]) (by subst ev0s_1; rfl) dX2_start_46 rfl ?_
  refine J_aload_n C 50 dX2_start_49 rfl rfl ?_
  refine J_get C 53 2 inlX2 0 0 rfl rfl (by decide) wd118 rfl rfl dX2_start_50 rfl ?_
  refine J_iload_n C 54 dX2_start_53 rfl rfl ?_
  refine J_iload_n C 55 dX2_start_54 rfl rfl ?_
  refine J_ldc2 C 58 wd883 dX2_start_55 rfl ?_
  refine J_call1vS (As := [.ref (r0 0), .int y1, .int y2, .long 1000000000]) C 61 (c_X2_add l D cI cJ cZ cS 300 (r0 0) f0_0 y1 y2 1000000000 _ h) wd886 wd884 wd40 wd885 hdX2_add ⟨Nat.le_of_ble_eq_true rfl, Nat.le_of_ble_eq_true rfl⟩ ⟨Nat.zero_le _, Nat.zero_le _⟩ rfl (Nat.le_of_ble_eq_true rfl) 1 rfl (fun u => .inl (cJ, 300, .inr (.inl u))) (fun _ => rfl) (fun (u : (Nat → Int64)) => List.flatten [bX2 cI cJ cZ a0 r0 v0s_1, bL cJ 300 (r0 0) u, bL cJ 300 (r0 1) f0_1]) (fun _ => rfl) dX2_start_58 rfl (fun u h => ?_)
  obtain ⟨u_2, hu⟩ : ∃ z, z = u := ⟨_, rfl⟩
  subst hu
  exact J_vret C hr hk (v0s_1, u_2, f0_1) rfl dX2_start_61 h
def wp_X2_start_c2  (Q : Vl → (Nat → Int64) → (Nat → Int64) → Prop) : Nat → Vl → (Nat → Int64) → (Nat → Int64) → Int32 → Int32 → Int32 → Prop
  | 0 => fun _ _ _ _ _ _ => False
  | n + 1 => fun v0 f0_0 f0_1 y1 y2 y3 => ((300 ≤ y3 → wp_X2_start_c40  Q v0 f0_0 f0_1 y1 y2) ∧ (¬ 300 ≤ y3 → ((300 ≤ y3 → wp_X2_start_c40  Q v0 f0_0 f0_1 y1 y2) ∧ (¬ 300 ≤ y3 → vp_in y3 300 ∧ (∀ f00s_3 : Nat → Int64, f00s_3 = vp_updL f0_0 (Int32.toNatClampNeg y3) 0 → vp_in y3 300 ∧ (∀ f01s_4 : Nat → Int64, f01s_4 = vp_updL f0_1 (Int32.toNatClampNeg y3) 0 → ∀ x_5 : Int32, x_5 = y3 + 1 → wp_X2_start_c2  Q n v0 f00s_3 f01s_4 y1 y2 x_5))))))
set_option maxHeartbeats 4000000 in
set_option maxRecDepth 100000 in
theorem wk_X2_start_c2 {p : Program} {l : Launch} {e : Env} {s : State} {m : MethodId} {args : Array Value} {below : List Frame} {meth : Method} {c : Code} {D : GG} {A : Nat → Prop} {cI cJ cZ cS : ClassId} {a0 : Nat} {r0 : Nat → Nat}  {Q : Vl → (Nat → Int64) → (Nat → Int64) → Prop} (C : Cx p s m args c D (tyL cI cJ cZ cS) A RX2 cX2_start 4) (hr : meth.sig.returnType = none) (hk : meth.locks = false) : ∀ (n : Nat) (v0 : Vl) (f0_0 : Nat → Int64) (f0_1 : Nat → Int64) (y1 : Int32) (y2 : Int32) (y3 : Int32), wp_X2_start_c2  Q n v0 f0_0 f0_1 y1 y2 y3 → J p l e (rmk 1 25) s m args below meth c D A 4 0 0 (MQ below (va_Qv (fun (u : Vl × (Nat → Int64) × (Nat → Int64)) => Q u.1 u.2.1 u.2.2) (fun u t => va_P D.1 vwCl ((fun (u : Vl × (Nat → Int64) × (Nat → Int64)) => List.flatten [bX2 cI cJ cZ a0 r0 u.1, bL cJ 300 (r0 0) u.2.1, bL cJ 300 (r0 1) u.2.2]) u) t.heap ∧ va_D A ((fun (u : Vl × (Nat → Int64) × (Nat → Int64)) => List.flatten [bX2 cI cJ cZ a0 r0 u.1, bL cJ 300 (r0 0) u.2.1, bL cJ 300 (r0 1) u.2.2]) u)) A) args s 0 0 A) 2 [(0, .ref a0), (1, .int y1), (2, .int y2), (3, .int y3)] [] (List.flatten [bX2 cI cJ cZ a0 r0 v0, bL cJ 300 (r0 0) f0_0, bL cJ 300 (r0 1) f0_1]) := by
  intro n
  induction n with
  | zero =>
    intro v0 f0_0 f0_1 y1 y2 y3 h
    exact False.elim h
  | succ n ih =>
    intro v0 f0_0 f0_1 y1 y2 y3 h
    refine J_iload_n C 3 dX2_start_2 rfl rfl ?_
    refine J_aload_n C 4 dX2_start_3 rfl rfl ?_
    refine J_get C 7 2 inlX2 0 0 rfl rfl (by decide) wd118 rfl rfl dX2_start_4 rfl ?_
    refine J_alen C 8 1 1 rfl rfl kn_300 dX2_start_7 rfl ?_
    refine J_icmp_ge C 11 40 dX2_start_8 rfl rfl (fun c => ?_) (fun c => ?_)
    · have h := h.1 c
      refine J_loc [0, 1, 2] rfl ?_
      exact wk_X2_start_c40 C hr hk v0 f0_0 f0_1 y1 y2 h
    · have h := h.2 c
      refine J_iload_n C 12 dX2_start_11 rfl rfl ?_
      refine J_aload_n C 13 dX2_start_12 rfl rfl ?_
      refine J_get C 16 2 inlX2 0 1 rfl rfl (by decide) wd119 rfl rfl dX2_start_13 rfl ?_
      refine J_alen C 17 2 1 rfl rfl kn_300 dX2_start_16 rfl ?_
      refine J_icmp_ge C 20 40 dX2_start_17 rfl rfl (fun c => ?_) (fun c => ?_)
      · have h := h.1 c
        refine J_loc [0, 1, 2] rfl ?_
        exact wk_X2_start_c40 C hr hk v0 f0_0 f0_1 y1 y2 h
      · have h := h.2 c
        refine J_aload_n C 21 dX2_start_20 rfl rfl ?_
        refine J_get C 24 2 inlX2 0 0 rfl rfl (by decide) wd118 rfl rfl dX2_start_21 rfl ?_
        refine J_iload_n C 25 dX2_start_24 rfl rfl ?_
        refine J_lconst C 26 dX2_start_25 rfl kl_0 ?_
        obtain ⟨hi, h⟩ := h
        obtain ⟨f00s_3, ef00s_3⟩ : ∃ z : Nat → Int64, z = vp_updL f0_0 (Int32.toNatClampNeg y3) 0 := ⟨_, rfl⟩
        have h := h f00s_3 ef00s_3
        refine J_last C 27 1 1 rfl rfl hi (List.flatten [bX2 cI cJ cZ a0 r0 v0, bL cJ 300 (r0 0) f00s_3, bL cJ 300 (r0 1) f0_1]) (by subst ef00s_3; rfl) dX2_start_26 rfl ?_
        refine J_aload_n C 28 dX2_start_27 rfl rfl ?_
        refine J_get C 31 2 inlX2 0 1 rfl rfl (by decide) wd119 rfl rfl dX2_start_28 rfl ?_
        refine J_iload_n C 32 dX2_start_31 rfl rfl ?_
        refine J_lconst C 33 dX2_start_32 rfl kl_0 ?_
        obtain ⟨hi, h⟩ := h
        obtain ⟨f01s_4, ef01s_4⟩ : ∃ z : Nat → Int64, z = vp_updL f0_1 (Int32.toNatClampNeg y3) 0 := ⟨_, rfl⟩
        have h := h f01s_4 ef01s_4
        refine J_last C 34 2 1 rfl rfl hi (List.flatten [bX2 cI cJ cZ a0 r0 v0, bL cJ 300 (r0 0) f00s_3, bL cJ 300 (r0 1) f01s_4]) (by subst ef01s_4; rfl) dX2_start_33 rfl ?_
        obtain ⟨x_5, ex_5⟩ : ∃ z : Int32, z = y3 + 1 := ⟨_, rfl⟩
        have h := h x_5 ex_5
        refine J_iinc C 37 [(3, .int x_5), (0, .ref a0), (1, .int y1), (2, .int y2)] dX2_start_34 rfl rfl ((kinc_1 _).trans ex_5.symm) (by decide) rfl ?_
        refine J_goto C 2 dX2_start_37 rfl ?_
        refine J_loc [1, 2, 3, 0] rfl ?_
        exact ih v0 f00s_3 f01s_4 y1 y2 x_5 h
def wp_X2_start (v0 : Vl) (f0_0 : Nat → Int64) (f0_1 : Nat → Int64) (x1 : Int32) (x2 : Int32) (Q : Vl → (Nat → Int64) → (Nat → Int64) → Prop) : Prop := (∃ k : Nat, wp_X2_start_c2  Q k v0 f0_0 f0_1 x1 x2 0)
set_option maxHeartbeats 4000000 in
set_option maxRecDepth 100000 in
theorem c_X2_start (l : Launch) (D : GG) (cI cJ cZ cS : ClassId) (a0 : Nat) (r0 : Nat → Nat) (v0 : Vl) (f0_0 : Nat → Int64) (f0_1 : Nat → Int64) (x1 : Int32) (x2 : Int32) (Q : Vl → (Nat → Int64) → (Nat → Int64) → Prop) (h : wp_X2_start v0 f0_0 f0_1 x1 x2 Q) : Mv l D (tyL cI cJ cZ cS) yX2_start cX2_start 4 1 25 [.ref a0, .int x1, .int x2] (List.flatten [bX2 cI cJ cZ a0 r0 v0, bL cJ 300 (r0 0) f0_0, bL cJ 300 (r0 1) f0_1]) (fun (u : Vl × (Nat → Int64) × (Nat → Int64)) => Q u.1 u.2.1 u.2.2) (fun (u : Vl × (Nat → Int64) × (Nat → Int64)) => List.flatten [bX2 cI cJ cZ a0 r0 u.1, bL cJ 300 (r0 0) u.2.1, bL cJ 300 (r0 1) u.2.2]) := by
  refine Mv_of RX2 [(0, .ref a0), (1, .int x1), (2, .int x2)] (by decide +kernel) rfl rfl (Nat.le_of_ble_eq_true rfl) ?_
  intro p e s m args below meth c A C hr hk
  refine J_iconst C 1 dX2_start_0 rfl ki_0 ?_
  refine J_istore_n C 2 [(3, .int 0), (0, .ref a0), (1, .int x1), (2, .int x2)] dX2_start_1 rfl (by decide) rfl ?_
  refine J_loc [1, 2, 3, 0] rfl ?_
  obtain ⟨n1, h⟩ := h
  exact wk_X2_start_c2 C hr hk n1 v0 f0_0 f0_1 x1 x2 0 h
