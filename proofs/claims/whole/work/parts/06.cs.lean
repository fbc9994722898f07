def wp_X8_kindWord  (x0 : Int32) (Q : Nat → Prop) : Prop := ((x0 = 0 → Q 0) ∧ (x0 = 1 → Q 1) ∧ (x0 = 2 → Q 2) ∧ (x0 = 3 → Q 3) ∧ (x0 = 4 → Q 4) ∧ ((x0 < 0 ∨ 4 < x0) → Q 5))
set_option maxHeartbeats 4000000 in
set_option maxRecDepth 100000 in
theorem c_X8_kindWord (l : Launch) (D : GG) (cI cJ cZ cS : ClassId) (x0 : Int32) (Q : Nat → Prop) (h : wp_X8_kindWord x0 Q) : Mr l D (tyL cI cJ cZ cS) yX8_kindWord cX8_kindWord 1 0 0 [.int x0] Q := by
  refine Mr_of RX8 [(0, .int x0)] (by decide +kernel) rfl rfl (Nat.le_of_ble_eq_true rfl) ?_
  intro p e s m args below meth c A C hr hk
  refine J_iload_n C 1 dX8_kindWord_0 rfl rfl ?_
  rcases sw_4 x0 with c | c | c | c | c | c
  · have h := (h.2.2.2.2.2) c
    refine J_tabOut C 56 dX8_kindWord_1 (sw_out_4 c) rfl ?_
    refine J_ldcSw C 59 5 rfl dX8_kindWord_56 rfl ?_
    exact J_aretS C hr hk 5 dX8_kindWord_59 h
  · have h := (h.1) c
    refine J_nmi c.symm ?_
    refine J_tabIn C 36 dX8_kindWord_1 (by decide) (by decide) rfl rfl ?_
    refine J_ldcSw C 39 0 rfl dX8_kindWord_36 rfl ?_
    exact J_aretS C hr hk 0 dX8_kindWord_39 h
  · have h := (h.2.1) c
    refine J_nmi c.symm ?_
    refine J_tabIn C 40 dX8_kindWord_1 (by decide) (by decide) rfl rfl ?_
    refine J_ldcSw C 43 1 rfl dX8_kindWord_40 rfl ?_
    exact J_aretS C hr hk 1 dX8_kindWord_43 h
  · have h := (h.2.2.1) c
    refine J_nmi c.symm ?_
    refine J_tabIn C 44 dX8_kindWord_1 (by decide) (by decide) rfl rfl ?_
    refine J_ldcSw C 47 2 rfl dX8_kindWord_44 rfl ?_
    exact J_aretS C hr hk 2 dX8_kindWord_47 h
  · have h := (h.2.2.2.1) c
    refine J_nmi c.symm ?_
    refine J_tabIn C 48 dX8_kindWord_1 (by decide) (by decide) rfl rfl ?_
    refine J_ldcSw C 51 3 rfl dX8_kindWord_48 rfl ?_
    exact J_aretS C hr hk 3 dX8_kindWord_51 h
  · have h := (h.2.2.2.2.1) c
    refine J_nmi c.symm ?_
    refine J_tabIn C 52 dX8_kindWord_1 (by decide) (by decide) rfl rfl ?_
    refine J_ldcSw C 55 4 rfl dX8_kindWord_52 rfl ?_
    exact J_aretS C hr hk 4 dX8_kindWord_55 h
def wp_X8_skyWord  (x0 : Int32) (Q : Nat → Prop) : Prop := ((x0 = 0 → Q 6) ∧ (x0 = 1 → Q 7) ∧ (x0 = 2 → Q 8) ∧ ((x0 < 0 ∨ 2 < x0) → Q 5))
set_option maxHeartbeats 4000000 in
set_option maxRecDepth 100000 in
theorem c_X8_skyWord (l : Launch) (D : GG) (cI cJ cZ cS : ClassId) (x0 : Int32) (Q : Nat → Prop) (h : wp_X8_skyWord x0 Q) : Mr l D (tyL cI cJ cZ cS) yX8_skyWord cX8_skyWord 1 0 0 [.int x0] Q := by
  refine Mr_of RX8 [(0, .int x0)] (by decide +kernel) rfl rfl (Nat.le_of_ble_eq_true rfl) ?_
  intro p e s m args below meth c A C hr hk
  refine J_iload_n C 1 dX8_skyWord_0 rfl rfl ?_
  rcases sw_2 x0 with c | c | c | c
  · have h := (h.2.2.2) c
    refine J_tabOut C 40 dX8_skyWord_1 (sw_out_2 c) rfl ?_
    refine J_ldcSw C 43 5 rfl dX8_skyWord_40 rfl ?_
    exact J_aretS C hr hk 5 dX8_skyWord_43 h
  · have h := (h.1) c
    refine J_nmi c.symm ?_
    refine J_tabIn C 28 dX8_skyWord_1 (by decide) (by decide) rfl rfl ?_
    refine J_ldcSw C 31 6 rfl dX8_skyWord_28 rfl ?_
    exact J_aretS C hr hk 6 dX8_skyWord_31 h
  · have h := (h.2.1) c
    refine J_nmi c.symm ?_
    refine J_tabIn C 32 dX8_skyWord_1 (by decide) (by decide) rfl rfl ?_
    refine J_ldcSw C 35 7 rfl dX8_skyWord_32 rfl ?_
    exact J_aretS C hr hk 7 dX8_skyWord_35 h
  · have h := (h.2.2.1) c
    refine J_nmi c.symm ?_
    refine J_tabIn C 36 dX8_skyWord_1 (by decide) (by decide) rfl rfl ?_
    refine J_ldcSw C 39 8 rfl dX8_skyWord_36 rfl ?_
    exact J_aretS C hr hk 8 dX8_skyWord_39 h
def wp_X7_isWord_c20 (k1 : Nat) (v0 : Vl) (Q : Int32 → Prop) : Nat → Int32 → Prop
  | 0 => fun _ => False
  | n + 1 => fun y2 => (((Int32.ofNat (lenS.getD k1 0)) ≤ y2 → Q 1) ∧ (¬ (Int32.ofNat (lenS.getD k1 0)) ≤ y2 → wp_X7_byteAt v0 ((v0.1 3) + y2) (fun r_3 => vp_in y2 (lenS.getD k1 0) ∧ (((r_3 = ((bytS.getD k1 []).getD (Int32.toNatClampNeg y2) 0) → ∀ x_5 : Int32, x_5 = y2 + 1 → wp_X7_isWord_c20 k1 v0 Q n x_5) ∧ (¬ r_3 = ((bytS.getD k1 []).getD (Int32.toNatClampNeg y2) 0) → Q 0))))))
set_option maxHeartbeats 4000000 in
set_option maxRecDepth 100000 in
theorem wk_X7_isWord_c20 {p : Program} {l : Launch} {e : Env} {s : State} {m : MethodId} {args : Array Value} {below : List Frame} {meth : Method} {c : Code} {D : GG} {A : Nat → Prop} {cI cJ cZ cS : ClassId} {a0 : Nat} {r0 : Nat → Nat} {k1 : Nat} {v0 : Vl} {Q : Int32 → Prop} (C : Cx p s m args c D (tyL cI cJ cZ cS) A RX7 cX7_isWord 3) (hr : meth.sig.returnType = some .boolean) (hk : meth.locks = false) (hk1 : k1 < 15) : ∀ (n : Nat) (y2 : Int32), wp_X7_isWord_c20 k1 v0 Q n y2 → J p l e (rmk 4 85) s m args below meth c D A 3 0 0 (MQ below (va_Qi (fun (r : Int32) (u : Unit) => Q r) (fun u t => va_P D.1 vwCl ((fun (u : Unit) => List.flatten [bX7 cI cJ cZ a0 r0 v0]) u) t.heap ∧ va_D A ((fun (u : Unit) => List.flatten [bX7 cI cJ cZ a0 r0 v0]) u)) A) args s 0 0 A) 20 [(0, .ref a0), (1, .ref (D.2.1 k1)), (2, .int y2)] [] (List.flatten [bX7 cI cJ cZ a0 r0 v0]) := by
  intro n
  induction n with
  | zero =>
    intro y2 h
    exact False.elim h
  | succ n ih =>
    intro y2 h
    refine J_iload_n C 21 dX7_isWord_20 rfl rfl ?_
    refine J_aload_n C 22 dX7_isWord_21 rfl rfl ?_
    refine J_callStr (As := []) C 25 hk1 (c_length l D cI cJ cZ cS k1 hk1) wd276 wd272 wd275 wd273 wd274 hdJ0_length_8abf5 ⟨Nat.le_of_ble_eq_true rfl, Nat.le_of_ble_eq_true rfl⟩ ⟨Nat.zero_le _, Nat.zero_le _⟩ rfl (Nat.le_of_ble_eq_true rfl) dX7_isWord_22 rfl (fun r_2 er_2 => ?_)
    refine J_nmi (y := Int32.ofNat (lenS.getD k1 0)) (Eq.symm er_2) ?_
    refine J_icmp_ge C 28 54 dX7_isWord_25 rfl rfl (fun c => ?_) (fun c => ?_)
    · have h := h.1 c
      refine J_iconst C 55 dX7_isWord_54 rfl ki_1 ?_
      exact J_zret C hr hk rfl () rfl dX7_isWord_55 h
    · have h := h.2 c
      refine J_aload_n C 29 dX7_isWord_28 rfl rfl ?_
      refine J_aload_n C 30 dX7_isWord_29 rfl rfl ?_
      refine J_get C 33 7 inlX7 0 3 rfl rfl (by decide) wd260 rfl rfl dX7_isWord_30 rfl ?_
      refine J_iload_n C 34 dX7_isWord_33 rfl rfl ?_
      refine J_iadd C 35 dX7_isWord_34 rfl ?_
      refine J_callBiV (Bs := [bX7 cI cJ cZ a0 r0 v0]) (As := [.int ((v0.1 3) + y2)]) C 38 (c_X7_byteAt l D cI cJ cZ cS a0 r0 v0 ((v0.1 3) + y2) _ h) wd251 wd248 wd15 wd249 wd250 7 0 rfl rfl rfl hdX7_byteAt ⟨Nat.le_of_ble_eq_true rfl, Nat.le_of_ble_eq_true rfl⟩ ⟨Nat.zero_le _, Nat.zero_le _⟩ rfl (Nat.le_of_ble_eq_true rfl) [0] [] 1 rfl (by decide +kernel) rfl rfl (fun (u : Unit) => [bX7 cI cJ cZ a0 r0 v0]) (fun _ => rfl) [0] (by decide +kernel) (fun _ => rfl) rfl (fun (u : Unit) => [bX7 cI cJ cZ a0 r0 v0]) (fun _ => rfl) dX7_isWord_35 rfl (fun r_3 u h => ?_)
      refine J_aload_n C 39 dX7_isWord_38 rfl rfl ?_
      refine J_iload_n C 40 dX7_isWord_39 rfl rfl ?_
      obtain ⟨hi, h⟩ := h
      refine J_callStr (As := [.int y2]) C 43 hk1 (c_charAt l D cI cJ cZ cS k1 hk1 y2 hi) wd287 wd284 wd275 wd285 wd286 hdJ0_charAt_5068e ⟨Nat.le_of_ble_eq_true rfl, Nat.le_of_ble_eq_true rfl⟩ ⟨Nat.zero_le _, Nat.zero_le _⟩ rfl (Nat.le_of_ble_eq_true rfl) dX7_isWord_40 rfl (fun r_4 er_4 => ?_)
      refine J_nmi (y := (bytS.getD k1 []).getD (Int32.toNatClampNeg y2) 0) (Eq.symm er_4) ?_
      refine J_icmp_eq C 46 48 dX7_isWord_43 rfl rfl (fun c => ?_) (fun c => ?_)
      · have h := h.1 c
        obtain ⟨x_5, ex_5⟩ : ∃ z : Int32, z = y2 + 1 := ⟨_, rfl⟩
        have h := h x_5 ex_5
        refine J_iinc C 51 [(2, .int x_5), (0, .ref a0), (1, .ref (D.2.1 k1))] dX7_isWord_48 rfl rfl ((kinc_1 _).trans ex_5.symm) (by decide) rfl ?_
        refine J_goto C 20 dX7_isWord_51 rfl ?_
        refine J_loc [1, 2, 0] rfl ?_
        exact ih x_5 h
      · have h := h.2 c
        refine J_iconst C 47 dX7_isWord_46 rfl ki_0 ?_
        exact J_zret C hr hk rfl () rfl dX7_isWord_47 h
def wp_X7_isWord (v0 : Vl) (k1 : Nat)  (Q : Int32 → Prop) : Prop := k1 < 15 ∧ (((((v0.1 2) - (v0.1 3)) = (Int32.ofNat (lenS.getD k1 0)) → (∃ k : Nat, wp_X7_isWord_c20 k1 v0 Q k 0)) ∧ (¬ ((v0.1 2) - (v0.1 3)) = (Int32.ofNat (lenS.getD k1 0)) → Q 0)))
set_option maxHeartbeats 4000000 in
set_option maxRecDepth 100000 in
theorem c_X7_isWord (l : Launch) (D : GG) (cI cJ cZ cS : ClassId) (a0 : Nat) (r0 : Nat → Nat) (v0 : Vl) (k1 : Nat)  (Q : Int32 → Prop) (h : wp_X7_isWord v0 k1 Q) : Mi l D (tyL cI cJ cZ cS) yX7_isWord cX7_isWord 3 .boolean 4 85 [.ref a0, .ref (D.2.1 k1)] (List.flatten [bX7 cI cJ cZ a0 r0 v0]) (fun (r : Int32) (u : Unit) => Q r) (fun (u : Unit) => List.flatten [bX7 cI cJ cZ a0 r0 v0]) := by
  refine Mi_of RX7 [(0, .ref a0), (1, .ref (D.2.1 k1))] (by decide +kernel) rfl rfl (Nat.le_of_ble_eq_true rfl) ?_
  intro p e s m args below meth c A C hr hk
  obtain ⟨hk1, h⟩ := h
  refine J_aload_n C 1 dX7_isWord_0 rfl rfl ?_
  refine J_get C 4 7 inlX7 0 2 rfl rfl (by decide) wd238 rfl rfl dX7_isWord_1 rfl ?_
  refine J_aload_n C 5 dX7_isWord_4 rfl rfl ?_
  refine J_get C 8 7 inlX7 0 3 rfl rfl (by decide) wd260 rfl rfl dX7_isWord_5 rfl ?_
  refine J_isub C 9 dX7_isWord_8 rfl ?_
  refine J_aload_n C 10 dX7_isWord_9 rfl rfl ?_
  refine J_callStr (As := []) C 13 hk1 (c_length l D cI cJ cZ cS k1 hk1) wd276 wd272 wd275 wd273 wd274 hdJ0_length_8abf5 ⟨Nat.le_of_ble_eq_true rfl, Nat.le_of_ble_eq_true rfl⟩ ⟨Nat.zero_le _, Nat.zero_le _⟩ rfl (Nat.le_of_ble_eq_true rfl) dX7_isWord_10 rfl (fun r_1 er_1 => ?_)
  refine J_nmi (y := Int32.ofNat (lenS.getD k1 0)) (Eq.symm er_1) ?_
  refine J_icmp_eq C 16 18 dX7_isWord_13 rfl rfl (fun c => ?_) (fun c => ?_)
  · have h := h.1 c
    refine J_iconst C 19 dX7_isWord_18 rfl ki_0 ?_
    refine J_istore_n C 20 [(2, .int 0), (0, .ref a0), (1, .ref (D.2.1 k1))] dX7_isWord_19 rfl (by decide) rfl ?_
    refine J_loc [1, 2, 0] rfl ?_
    obtain ⟨n1, h⟩ := h
    exact wk_X7_isWord_c20 C hr hk hk1 n1 0 h
  · have h := h.2 c
    refine J_iconst C 17 dX7_isWord_16 rfl ki_0 ?_
    exact J_zret C hr hk rfl () rfl dX7_isWord_17 h
def wp_X3_kindNamed_c2 (v1 : Vl) (Q : Int32 → Prop) : Nat → Int32 → Prop
  | 0 => fun _ => False
  | n + 1 => fun y1 => ((5 ≤ y1 → Q (-1)) ∧ (¬ 5 ≤ y1 → wp_X8_kindWord y1 (fun k_1 => wp_X7_isWord v1 k_1 (fun r_2 => ((r_2 = 0 → ∀ x_3 : Int32, x_3 = y1 + 1 → wp_X3_kindNamed_c2 v1 Q n x_3) ∧ (¬ r_2 = 0 → Q y1))))))
set_option maxHeartbeats 4000000 in
set_option maxRecDepth 100000 in
theorem wk_X3_kindNamed_c2 {p : Program} {l : Launch} {e : Env} {s : State} {m : MethodId} {args : Array Value} {below : List Frame} {meth : Method} {c : Code} {D : GG} {A : Nat → Prop} {cI cJ cZ cS : ClassId} {a1 : Nat} {r1 : Nat → Nat} {v1 : Vl} {Q : Int32 → Prop} (C : Cx p s m args c D (tyL cI cJ cZ cS) A RX3 cX3_kindNamed 2) (hr : meth.sig.returnType = some .int) (hk : meth.locks = false) : ∀ (n : Nat) (y1 : Int32), wp_X3_kindNamed_c2 v1 Q n y1 → J p l e (rmk 5 107) s m args below meth c D A 2 0 0 (MQ below (va_Qi (fun (r : Int32) (u : Unit) => Q r) (fun u t => va_P D.1 vwCl ((fun (u : Unit) => List.flatten [bX7 cI cJ cZ a1 r1 v1]) u) t.heap ∧ va_D A ((fun (u : Unit) => List.flatten [bX7 cI cJ cZ a1 r1 v1]) u)) A) args s 0 0 A) 2 [(0, .ref a1), (1, .int y1)] [] (List.flatten [bX7 cI cJ cZ a1 r1 v1]) := by
  intro n
  induction n with
  | zero =>
    intro y1 h
    exact False.elim h
  | succ n ih =>
    intro y1 h
    refine J_iload_n C 3 dX3_kindNamed_2 rfl rfl ?_
    refine J_iconst C 4 dX3_kindNamed_3 rfl ki_5 ?_
    refine J_icmp_ge C 7 26 dX3_kindNamed_4 rfl rfl (fun c => ?_) (fun c => ?_)
    · have h := h.1 c
      refine J_iconst C 27 dX3_kindNamed_26 rfl ki_m1 ?_
      exact J_iret C hr hk () rfl dX3_kindNamed_27 h
    · have h := h.2 c
      refine J_aload_n C 8 dX3_kindNamed_7 rfl rfl ?_
      refine J_iload_n C 9 dX3_kindNamed_8 rfl rfl ?_
      refine J_callrSN (As := [.int y1]) C 12 (c_X8_kindWord l D cI cJ cZ cS y1 _ h) wd330 (mi 54 rfl) wd2 wd329 hdX8_kindWord ⟨Nat.le_of_ble_eq_true rfl, Nat.le_of_ble_eq_true rfl⟩ ⟨Nat.zero_le _, Nat.zero_le _⟩ rfl (Nat.le_of_ble_eq_true rfl) dX3_kindNamed_9 rfl (fun k_1 h => ?_)
      refine J_callBiV (Bs := [bX7 cI cJ cZ a1 r1 v1]) (As := [.ref (D.2.1 k_1)]) C 15 (c_X7_isWord l D cI cJ cZ cS a1 r1 v1 k_1 _ h) wd271 wd268 wd15 wd269 wd270 7 0 rfl rfl rfl hdX7_isWord ⟨Nat.le_of_ble_eq_true rfl, Nat.le_of_ble_eq_true rfl⟩ ⟨Nat.zero_le _, Nat.zero_le _⟩ rfl (Nat.le_of_ble_eq_true rfl) [0] [] 1 rfl (by decide +kernel) rfl rfl (fun (u : Unit) => [bX7 cI cJ cZ a1 r1 v1]) (fun _ => rfl) [0] (by decide +kernel) (fun _ => rfl) rfl (fun (u : Unit) => [bX7 cI cJ cZ a1 r1 v1]) (fun _ => rfl) dX3_kindNamed_12 rfl (fun r_2 u h => ?_)
      refine J_if_eq C 18 20 dX3_kindNamed_15 rfl rfl (fun c => ?_) (fun c => ?_)
      · have h := h.1 c
        obtain ⟨x_3, ex_3⟩ : ∃ z : Int32, z = y1 + 1 := ⟨_, rfl⟩
        have h := h x_3 ex_3
        refine J_iinc C 23 [(1, .int x_3), (0, .ref a1)] dX3_kindNamed_20 rfl rfl ((kinc_1 _).trans ex_3.symm) (by decide) rfl ?_
        refine J_goto C 2 dX3_kindNamed_23 rfl ?_
        refine J_loc [1, 0] rfl ?_
        exact ih x_3 h
      · have h := h.2 c
        refine J_iload_n C 19 dX3_kindNamed_18 rfl rfl ?_
        exact J_iret C hr hk () rfl dX3_kindNamed_19 h
def wp_X3_kindNamed (v1 : Vl)  (Q : Int32 → Prop) : Prop := (∃ k : Nat, wp_X3_kindNamed_c2 v1 Q k 0)
set_option maxHeartbeats 4000000 in
set_option maxRecDepth 100000 in
theorem c_X3_kindNamed (l : Launch) (D : GG) (cI cJ cZ cS : ClassId) (a1 : Nat) (r1 : Nat → Nat) (v1 : Vl)  (Q : Int32 → Prop) (h : wp_X3_kindNamed v1 Q) : Mi l D (tyL cI cJ cZ cS) yX3_kindNamed cX3_kindNamed 2 .int 5 107 [.ref a1] (List.flatten [bX7 cI cJ cZ a1 r1 v1]) (fun (r : Int32) (u : Unit) => Q r) (fun (u : Unit) => List.flatten [bX7 cI cJ cZ a1 r1 v1]) := by
  refine Mi_of RX3 [(0, .ref a1)] (by decide +kernel) rfl rfl (Nat.le_of_ble_eq_true rfl) ?_
  intro p e s m args below meth c A C hr hk
  refine J_iconst C 1 dX3_kindNamed_0 rfl ki_0 ?_
  refine J_istore_n C 2 [(1, .int 0), (0, .ref a1)] dX3_kindNamed_1 rfl (by decide) rfl ?_
  refine J_loc [1, 0] rfl ?_
  obtain ⟨n1, h⟩ := h
  exact wk_X3_kindNamed_c2 C hr hk n1 0 h
def wp_X3_readLight (v0 : Vl) (v1 : Vl)  (Q : Int32 → Vl → Vl → Prop) : Prop := (((v0.1 7) < 9 → wp_X7_readWord v1 (fun r_2 u_1 => ((¬ r_2 = 0 → wp_X3_kindNamed u_1 (fun r_3 => ((¬ r_3 = (-1) → wp_X8_put 9 (v0.2.2.1 0) (v0.1 7) r_3 (fun u_4 => ∀ v0s_5 : Vl, v0s_5 = setRA v0 0 u_4 → wp_X7_readNumber u_1 0 99 (fun r_7 u_6 => ((¬ r_7 = 0 → wp_X8_put 9 (v0s_5.2.2.1 1) (v0s_5.1 7) (u_6.1 4) (fun u_8 => ∀ v0s_9 : Vl, v0s_9 = setRA v0s_5 1 u_8 → wp_X7_readNumber u_6 0 99 (fun r_11 u_10 => ((¬ r_11 = 0 → wp_X8_put 9 (v0s_9.2.2.1 2) (v0s_9.1 7) (u_10.1 4) (fun u_12 => ∀ v0s_13 : Vl, v0s_13 = setRA v0s_9 2 u_12 → wp_X7_readNumber u_10 0 999 (fun r_15 u_14 => ((¬ r_15 = 0 → wp_X8_put 9 (v0s_13.2.2.1 3) (v0s_13.1 7) (u_14.1 4) (fun u_16 => ∀ v0s_17 : Vl, v0s_17 = setRA v0s_13 3 u_16 → wp_X7_readNumber u_14 0 99 (fun r_19 u_18 => ((¬ r_19 = 0 → wp_X8_put 9 (v0s_17.2.2.1 4) (v0s_17.1 7) (u_18.1 4) (fun u_20 => ∀ v0s_21 : Vl, v0s_21 = setRA v0s_17 4 u_20 → ∀ v0s_22 : Vl, v0s_22 = setI v0s_21 7 ((v0s_21.1 7) + 1) → Q 1 v0s_22 u_18)) ∧ (r_19 = 0 → Q 0 v0s_17 u_18))))) ∧ (r_15 = 0 → Q 0 v0s_13 u_14))))) ∧ (r_11 = 0 → Q 0 v0s_9 u_10))))) ∧ (r_7 = 0 → Q 0 v0s_5 u_6))))) ∧ (r_3 = (-1) → wp_X7_fail u_1 1 (u_1.1 3) (fun r_24 u_23 => narrow .boolean (.int r_24) = .int r_24 ∧ Q r_24 v0 u_23))))) ∧ (r_2 = 0 → Q 0 v0 u_1)))) ∧ (¬ (v0.1 7) < 9 → wp_X7_fail v1 3 (v1.1 3) (fun r_26 u_25 => narrow .boolean (.int r_26) = .int r_26 ∧ Q r_26 v0 u_25)))
set_option maxHeartbeats 4000000 in
set_option maxRecDepth 100000 in
theorem c_X3_readLight (l : Launch) (D : GG) (cI cJ cZ cS : ClassId) (a0 : Nat) (r0 : Nat → Nat) (v0 : Vl) (a1 : Nat) (r1 : Nat → Nat) (v1 : Vl)  (Q : Int32 → Vl → Vl → Prop) (h : wp_X3_readLight v0 v1 Q) : Mi l D (tyL cI cJ cZ cS) yX3_readLight cX3_readLight 3 .boolean 6 128 [.ref a0, .ref a1] (List.flatten [bX3 cI cJ cZ a0 r0 v0, bX7 cI cJ cZ a1 r1 v1]) (fun (r : Int32) (u : Vl × Vl) => Q r u.1 u.2) (fun (u : Vl × Vl) => List.flatten [bX3 cI cJ cZ a0 r0 u.1, bX7 cI cJ cZ a1 r1 u.2]) := by
  refine Mi_of RX3 [(0, .ref a0), (1, .ref a1)] (by decide +kernel) rfl rfl (Nat.le_of_ble_eq_true rfl) ?_
  intro p e s m args below meth c A C hr hk
  refine J_aload_n C 1 dX3_readLight_0 rfl rfl ?_
  refine J_get C 4 3 inlX3 0 7 rfl rfl (by decide) wd74 rfl rfl dX3_readLight_1 rfl ?_
  refine J_bipush C 6 dX3_readLight_4 rfl kb_9 ?_
  refine J_icmp_lt C 9 19 dX3_readLight_6 rfl rfl (fun c => ?_) (fun c => ?_)
  · have h := h.1 c
    refine J_aload_n C 20 dX3_readLight_19 rfl rfl ?_
    refine J_callBiV (Bs := [bX3 cI cJ cZ a0 r0 v0, bX7 cI cJ cZ a1 r1 v1]) (As := []) C 23 (c_X7_readWord l D cI cJ cZ cS a1 r1 v1 _ h) wd259 wd256 wd15 wd257 wd258 7 0 rfl rfl rfl hdX7_readWord ⟨Nat.le_of_ble_eq_true rfl, Nat.le_of_ble_eq_true rfl⟩ ⟨Nat.zero_le _, Nat.zero_le _⟩ rfl (Nat.le_of_ble_eq_true rfl) [1] [0] 2 rfl (by decide +kernel) rfl rfl (fun (u : Vl) => [bX7 cI cJ cZ a1 r1 u]) (fun _ => rfl) [1, 0] (by decide +kernel) (fun _ => rfl) rfl (fun (u : Vl) => [bX3 cI cJ cZ a0 r0 v0, bX7 cI cJ cZ a1 r1 u]) (fun _ => rfl) dX3_readLight_20 rfl (fun r_2 u h => ?_)
    obtain ⟨u_1, hu⟩ : ∃ z, z = u := ⟨_, rfl⟩
    subst hu
    refine J_if_ne C 26 28 dX3_readLight_23 rfl rfl (fun c => ?_) (fun c => ?_)
    · have h := h.1 c
      refine J_aload_n C 29 dX3_readLight_28 rfl rfl ?_
      refine J_callBiS (Bs := [bX3 cI cJ cZ a0 r0 v0, bX7 cI cJ cZ a1 r1 u_1]) (As := [.ref a1]) C 32 (c_X3_kindNamed l D cI cJ cZ cS a1 r1 u_1 _ h) wd328 wd326 wd19 wd327 hdX3_kindNamed ⟨Nat.le_of_ble_eq_true rfl, Nat.le_of_ble_eq_true rfl⟩ ⟨Nat.zero_le _, Nat.zero_le _⟩ rfl (Nat.le_of_ble_eq_true rfl) [1] [0] 2 rfl (by decide +kernel) rfl rfl (fun (u : Unit) => [bX7 cI cJ cZ a1 r1 u_1]) (fun _ => rfl) [1, 0] (by decide +kernel) (fun _ => rfl) rfl (fun (u : Unit) => [bX3 cI cJ cZ a0 r0 v0, bX7 cI cJ cZ a1 r1 u_1]) (fun _ => rfl) dX3_readLight_29 rfl (fun r_3 u h => ?_)
      refine J_istore_n C 33 [(2, .int r_3), (0, .ref a0), (1, .ref a1)] dX3_readLight_32 rfl (by decide) rfl ?_
      refine J_iload_n C 34 dX3_readLight_33 rfl rfl ?_
      refine J_iconst C 35 dX3_readLight_34 rfl ki_m1 ?_
      refine J_icmp_ne C 38 48 dX3_readLight_35 rfl rfl (fun c => ?_) (fun c => ?_)
      · have h := h.1 c
        refine J_aload_n C 49 dX3_readLight_48 rfl rfl ?_
        refine J_get C 52 3 inlX3 0 0 rfl rfl (by decide) wd63 rfl rfl dX3_readLight_49 rfl ?_
        refine J_aload_n C 53 dX3_readLight_52 rfl rfl ?_
        refine J_get C 56 3 inlX3 0 7 rfl rfl (by decide) wd74 rfl rfl dX3_readLight_53 rfl ?_
        refine J_iload_n C 57 dX3_readLight_56 rfl rfl ?_
        refine J_call1vSN (As := [.ref (r0 0), .int (v0.1 7), .int r_3]) C 60 (c_X8_put l D cI cJ cZ cS 9 (r0 0) (v0.2.2.1 0) (v0.1 7) r_3 _ h) wd83 (mi 56 rfl) wd2 wd82 hdX8_put ⟨Nat.le_of_ble_eq_true rfl, Nat.le_of_ble_eq_true rfl⟩ ⟨Nat.zero_le _, Nat.zero_le _⟩ rfl (Nat.le_of_ble_eq_true rfl) 1 rfl (fun u => .inl (cI, 9, .inl u)) (fun _ => rfl) (fun (u : (Nat → Int32)) => List.flatten [bX3 cI cJ cZ a0 r0 (setRA v0 0 u), bX7 cI cJ cZ a1 r1 u_1]) (fun _ => rfl) dX3_readLight_57 rfl (fun u h => ?_)
        obtain ⟨u_4, hu⟩ : ∃ z, z = u := ⟨_, rfl⟩
        subst hu
        obtain ⟨v0s_5, ev0s_5⟩ : ∃ z : Vl, z = setRA v0 0 u_4 := ⟨_, rfl⟩
        have h := h v0s_5 ev0s_5
        refine J_ws (ws' := List.flatten [bX3 cI cJ cZ a0 r0 v0s_5, bX7 cI cJ cZ a1 r1 u_1]) (by subst ev0s_5; rfl) ?_
        refine J_aload_n C 61 dX3_readLight_60 rfl rfl ?_
        refine J_iconst C 62 dX3_readLight_61 rfl ki_0 ?_
        refine J_bipush C 64 dX3_readLight_62 rfl kb_99 ?_
        refine J_callBiV (Bs := [bX3 cI cJ cZ a0 r0 v0s_5, bX7 cI cJ cZ a1 r1 u_1]) (As := [.int 0, .int 99]) C 67 (c_X7_readNumber l D cI cJ cZ cS a1 r1 u_1 0 99 _ h) wd334 wd331 wd15 wd332 wd333 7 0 rfl rfl rfl hdX7_readNumber ⟨Nat.le_of_ble_eq_true rfl, Nat.le_of_ble_eq_true rfl⟩ ⟨Nat.zero_le _, Nat.zero_le _⟩ rfl (Nat.le_of_ble_eq_true rfl) [1] [0] 2 rfl (by decide +kernel) rfl rfl (fun (u : Vl) => [bX7 cI cJ cZ a1 r1 u]) (fun _ => rfl) [1, 0] (by decide +kernel) (fun _ => rfl) rfl (fun (u : Vl) => [bX3 cI cJ cZ a0 r0 v0s_5, bX7 cI cJ cZ a1 r1 u]) (fun _ => rfl) dX3_readLight_64 rfl (fun r_7 u h => ?_)
        obtain ⟨u_6, hu⟩ : ∃ z, z = u := ⟨_, rfl⟩
        subst hu
        refine J_if_ne C 70 72 dX3_readLight_67 rfl rfl (fun c => ?_) (fun c => ?_)
        · have h := h.1 c
          refine J_aload_n C 73 dX3_readLight_72 rfl rfl ?_
          refine J_get C 76 3 inlX3 0 1 rfl rfl (by decide) wd64 rfl rfl dX3_readLight_73 rfl ?_
          refine J_aload_n C 77 dX3_readLight_76 rfl rfl ?_
          refine J_get C 80 3 inlX3 0 7 rfl rfl (by decide) wd74 rfl rfl dX3_readLight_77 rfl ?_
          refine J_aload_n C 81 dX3_readLight_80 rfl rfl ?_
          refine J_getN C 84 7 inlX7 8 4 rfl rfl (by decide) (mi 33 rfl) rfl rfl dX3_readLight_81 rfl ?_
          refine J_call1vSN (As := [.ref (r0 1), .int (v0s_5.1 7), .int (u_6.1 4)]) C 87 (c_X8_put l D cI cJ cZ cS 9 (r0 1) (v0s_5.2.2.1 1) (v0s_5.1 7) (u_6.1 4) _ h) wd83 (mi 56 rfl) wd2 wd82 hdX8_put ⟨Nat.le_of_ble_eq_true rfl, Nat.le_of_ble_eq_true rfl⟩ ⟨Nat.zero_le _, Nat.zero_le _⟩ rfl (Nat.le_of_ble_eq_true rfl) 2 rfl (fun u => .inl (cI, 9, .inl u)) (fun _ => rfl) (fun (u : (Nat → Int32)) => List.flatten [bX3 cI cJ cZ a0 r0 (setRA v0s_5 1 u), bX7 cI cJ cZ a1 r1 u_6]) (fun _ => rfl) dX3_readLight_84 rfl (fun u h => ?_)
          obtain ⟨u_8, hu⟩ : ∃ z, z = u := ⟨_, rfl⟩
          subst hu
          obtain ⟨v0s_9, ev0s_9⟩ : ∃ z : Vl, z = setRA v0s_5 1 u_8 := ⟨_, rfl⟩
          have h := h v0s_9 ev0s_9
          refine J_ws (ws' := List.flatten [bX3 cI cJ cZ a0 r0 v0s_9, bX7 cI cJ cZ a1 r1 u_6]) (by subst ev0s_9; rfl) ?_
          refine J_aload_n C 88 dX3_readLight_87 rfl rfl ?_
          refine J_iconst C 89 dX3_readLight_88 rfl ki_0 ?_
          refine J_bipush C 91 dX3_readLight_89 rfl kb_99 ?_
          refine J_callBiV (Bs := [bX3 cI cJ cZ a0 r0 v0s_9, bX7 cI cJ cZ a1 r1 u_6]) (As := [.int 0, .int 99]) C 94 (c_X7_readNumber l D cI cJ cZ cS a1 r1 u_6 0 99 _ h) wd334 wd331 wd15 wd332 wd333 7 0 rfl rfl rfl hdX7_readNumber ⟨Nat.le_of_ble_eq_true rfl, Nat.le_of_ble_eq_true rfl⟩ ⟨Nat.zero_le _, Nat.zero_le _⟩ rfl (Nat.le_of_ble_eq_true rfl) [1] [0] 2 rfl (by decide +kernel) rfl rfl (fun (u : Vl) => [bX7 cI cJ cZ a1 r1 u]) (fun _ => rfl) [1, 0] (by decide +kernel) (fun _ => rfl) rfl (fun (u : Vl) => [bX3 cI cJ cZ a0 r0 v0s_9, bX7 cI cJ cZ a1 r1 u]) (fun _ => rfl) dX3_readLight_91 rfl (fun r_11 u h => ?_)
          obtain ⟨u_10, hu⟩ : ∃ z, z = u := ⟨_, rfl⟩
          subst hu
          refine J_if_ne C 97 99 dX3_readLight_94 rfl rfl (fun c => ?_) (fun c => ?_)
          · have h := h.1 c
            refine J_aload_n C 100 dX3_readLight_99 rfl rfl ?_
            refine J_get C 103 3 inlX3 0 2 rfl rfl (by decide) wd65 rfl rfl dX3_readLight_100 rfl ?_
            refine J_aload_n C 104 dX3_readLight_103 rfl rfl ?_
            refine J_get C 107 3 inlX3 0 7 rfl rfl (by decide) wd74 rfl rfl dX3_readLight_104 rfl ?_
            refine J_aload_n C 108 dX3_readLight_107 rfl rfl ?_
            refine J_getN C 111 7 inlX7 8 4 rfl rfl (by decide) (mi 33 rfl) rfl rfl dX3_readLight_108 rfl ?_
            refine J_call1vSN (As := [.ref (r0 2), .int (v0s_9.1 7), .int (u_10.1 4)]) C 114 (c_X8_put l D cI cJ cZ cS 9 (r0 2) (v0s_9.2.2.1 2) (v0s_9.1 7) (u_10.1 4) _ h) wd83 (mi 56 rfl) wd2 wd82 hdX8_put ⟨Nat.le_of_ble_eq_true rfl, Nat.le_of_ble_eq_true rfl⟩ ⟨Nat.zero_le _, Nat.zero_le _⟩ rfl (Nat.le_of_ble_eq_true rfl) 3 rfl (fun u => .inl (cI, 9, .inl u)) (fun _ => rfl) (fun (u : (Nat → Int32)) => List.flatten [bX3 cI cJ cZ a0 r0 (setRA v0s_9 2 u), bX7 cI cJ cZ a1 r1 u_10]) (fun _ => rfl) dX3_readLight_111 rfl (fun u h => ?_)
            obtain ⟨u_12, hu⟩ : ∃ z, z = u := ⟨_, rfl⟩
            subst hu
            obtain ⟨v0s_13, ev0s_13⟩ : ∃ z : Vl, z = setRA v0s_9 2 u_12 := ⟨_, rfl⟩
            have h := h v0s_13 ev0s_13
            refine J_ws (ws' := List.flatten [bX3 cI cJ cZ a0 r0 v0s_13, bX7 cI cJ cZ a1 r1 u_10]) (by subst ev0s_13; rfl) ?_
            refine J_aload_n C 115 dX3_readLight_114 rfl rfl ?_
            refine J_iconst C 116 dX3_readLight_115 rfl ki_0 ?_
            refine J_sipush C 119 dX3_readLight_116 rfl ks_999 ?_
            refine J_callBiV (Bs := [bX3 cI cJ cZ a0 r0 v0s_13, bX7 cI cJ cZ a1 r1 u_10]) (As := [.int 0, .int 999]) C 122 (c_X7_readNumber l D cI cJ cZ cS a1 r1 u_10 0 999 _ h) wd334 wd331 wd15 wd332 wd333 7 0 rfl rfl rfl hdX7_readNumber ⟨Nat.le_of_ble_eq_true rfl, Nat.le_of_ble_eq_true rfl⟩ ⟨Nat.zero_le _, Nat.zero_le _⟩ rfl (Nat.le_of_ble_eq_true rfl) [1] [0] 2 rfl (by decide +kernel) rfl rfl (fun (u : Vl) => [bX7 cI cJ cZ a1 r1 u]) (fun _ => rfl) [1, 0] (by decide +kernel) (fun _ => rfl) rfl (fun (u : Vl) => [bX3 cI cJ cZ a0 r0 v0s_13, bX7 cI cJ cZ a1 r1 u]) (fun _ => rfl) dX3_readLight_119 rfl (fun r_15 u h => ?_)
            obtain ⟨u_14, hu⟩ : ∃ z, z = u := ⟨_, rfl⟩
            subst hu
            refine J_if_ne C 125 127 dX3_readLight_122 rfl rfl (fun c => ?_) (fun c => ?_)
            · have h := h.1 c
              refine J_aload_n C 128 dX3_readLight_127 rfl rfl ?_
              refine J_get C 131 3 inlX3 0 3 rfl rfl (by decide) wd66 rfl rfl dX3_readLight_128 rfl ?_
              refine J_aload_n C 132 dX3_readLight_131 rfl rfl ?_
              refine J_get C 135 3 inlX3 0 7 rfl rfl (by decide) wd74 rfl rfl dX3_readLight_132 rfl ?_
              refine J_aload_n C 136 dX3_readLight_135 rfl rfl ?_
              refine J_getN C 139 7 inlX7 8 4 rfl rfl (by decide) (mi 33 rfl) rfl rfl dX3_readLight_136 rfl ?_
              refine J_call1vSN (As := [.ref (r0 3), .int (v0s_13.1 7), .int (u_14.1 4)]) C 142 (c_X8_put l D cI cJ cZ cS 9 (r0 3) (v0s_13.2.2.1 3) (v0s_13.1 7) (u_14.1 4) _ h) wd83 (mi 56 rfl) wd2 wd82 hdX8_put ⟨Nat.le_of_ble_eq_true rfl, Nat.le_of_ble_eq_true rfl⟩ ⟨Nat.zero_le _, Nat.zero_le _⟩ rfl (Nat.le_of_ble_eq_true rfl) 4 rfl (fun u => .inl (cI, 9, .inl u)) (fun _ => rfl) (fun (u : (Nat → Int32)) => List.flatten [bX3 cI cJ cZ a0 r0 (setRA v0s_13 3 u), bX7 cI cJ cZ a1 r1 u_14]) (fun _ => rfl) dX3_readLight_139 rfl (fun u h => ?_)
              obtain ⟨u_16, hu⟩ : ∃ z, z = u := ⟨_, rfl⟩
              subst hu
              obtain ⟨v0s_17, ev0s_17⟩ : ∃ z : Vl, z = setRA v0s_13 3 u_16 := ⟨_, rfl⟩
              have h := h v0s_17 ev0s_17
              refine J_ws (ws' := List.flatten [bX3 cI cJ cZ a0 r0 v0s_17, bX7 cI cJ cZ a1 r1 u_14]) (by subst ev0s_17; rfl) ?_
              refine J_aload_n C 143 dX3_readLight_142 rfl rfl ?_
              refine J_iconst C 144 dX3_readLight_143 rfl ki_0 ?_
              refine J_bipush C 146 dX3_readLight_144 rfl kb_99 ?_
              refine J_callBiV (Bs := [bX3 cI cJ cZ a0 r0 v0s_17, bX7 cI cJ cZ a1 r1 u_14]) (As := [.int 0, .int 99]) C 149 (c_X7_readNumber l D cI cJ cZ cS a1 r1 u_14 0 99 _ h) wd334 wd331 wd15 wd332 wd333 7 0 rfl rfl rfl hdX7_readNumber ⟨Nat.le_of_ble_eq_true rfl, Nat.le_of_ble_eq_true rfl⟩ ⟨Nat.zero_le _, Nat.zero_le _⟩ rfl (Nat.le_of_ble_eq_true rfl) [1] [0] 2 rfl (by decide +kernel) rfl rfl (fun (u : Vl) => [bX7 cI cJ cZ a1 r1 u]) (fun _ => rfl) [1, 0] (by decide +kernel) (fun _ => rfl) rfl (fun (u : Vl) => [bX3 cI cJ cZ a0 r0 v0s_17, bX7 cI cJ cZ a1 r1 u]) (fun _ => rfl) dX3_readLight_146 rfl (fun r_19 u h => ?_)
              obtain ⟨u_18, hu⟩ : ∃ z, z = u := ⟨_, rfl⟩
              subst hu
              refine J_if_ne C 152 154 dX3_readLight_149 rfl rfl (fun c => ?_) (fun c => ?_)
              · have h := h.1 c
                refine J_aload_n C 155 dX3_readLight_154 rfl rfl ?_
                refine J_get C 158 3 inlX3 0 4 rfl rfl (by decide) wd67 rfl rfl dX3_readLight_155 rfl ?_
                refine J_aload_n C 159 dX3_readLight_158 rfl rfl ?_
                refine J_get C 162 3 inlX3 0 7 rfl rfl (by decide) wd74 rfl rfl dX3_readLight_159 rfl ?_
                refine J_aload_n C 163 dX3_readLight_162 rfl rfl ?_
                refine J_getN C 166 7 inlX7 8 4 rfl rfl (by decide) (mi 33 rfl) rfl rfl dX3_readLight_163 rfl ?_
                refine J_call1vSN (As := [.ref (r0 4), .int (v0s_17.1 7), .int (u_18.1 4)]) C 169 (c_X8_put l D cI cJ cZ cS 9 (r0 4) (v0s_17.2.2.1 4) (v0s_17.1 7) (u_18.1 4) _ h) wd83 (mi 56 rfl) wd2 wd82 hdX8_put ⟨Nat.le_of_ble_eq_true rfl, Nat.le_of_ble_eq_true rfl⟩ ⟨Nat.zero_le _, Nat.zero_le _⟩ rfl (Nat.le_of_ble_eq_true rfl) 5 rfl (fun u => .inl (cI, 9, .inl u)) (fun _ => rfl) (fun (u : (Nat → Int32)) => List.flatten [bX3 cI cJ cZ a0 r0 (setRA v0s_17 4 u), bX7 cI cJ cZ a1 r1 u_18]) (fun _ => rfl) dX3_readLight_166 rfl (fun u h => ?_)
                obtain ⟨u_20, hu⟩ : ∃ z, z = u := ⟨_, rfl⟩
                subst hu
                obtain ⟨v0s_21, ev0s_21⟩ : ∃ z : Vl, z = setRA v0s_17 4 u_20 := ⟨_, rfl⟩
                have h := h v0s_21 ev0s_21
                refine J_ws (ws' := List.flatten [bX3 cI cJ cZ a0 r0 v0s_21, bX7 cI cJ cZ a1 r1 u_18]) (by subst ev0s_21; rfl) ?_
                refine J_aload_n C 170 dX3_readLight_169 rfl rfl ?_
                refine J_dup C 171 dX3_readLight_170 rfl rfl ?_
                refine J_get C 174 3 inlX3 0 7 rfl rfl (by decide) wd74 rfl rfl dX3_readLight_171 rfl ?_
                refine J_iconst C 175 dX3_readLight_174 rfl ki_1 ?_
                refine J_iadd C 176 dX3_readLight_175 rfl ?_
                obtain ⟨v0s_22, ev0s_22⟩ : ∃ z : Vl, z = setI v0s_21 7 ((v0s_21.1 7) + 1) := ⟨_, rfl⟩
                have h := h v0s_22 ev0s_22
                refine J_put C 179 3 inlX3 tyX3 tyX3_ok nmX3 0 7 rfl rfl (by decide) wd74 rfl rfl rfl rfl rfl (List.flatten [bX3 cI cJ cZ a0 r0 v0s_22, bX7 cI cJ cZ a1 r1 u_18]) (by subst ev0s_22; rfl) dX3_readLight_176 rfl ?_
                refine J_iconst C 180 dX3_readLight_179 rfl ki_1 ?_
                exact J_zret C hr hk rfl (v0s_22, u_18) rfl dX3_readLight_180 h
              · have h := h.2 c
                refine J_iconst C 153 dX3_readLight_152 rfl ki_0 ?_
                exact J_zret C hr hk rfl (v0s_17, u_18) rfl dX3_readLight_153 h
            · have h := h.2 c
              refine J_iconst C 126 dX3_readLight_125 rfl ki_0 ?_
              exact J_zret C hr hk rfl (v0s_13, u_14) rfl dX3_readLight_126 h
          · have h := h.2 c
            refine J_iconst C 98 dX3_readLight_97 rfl ki_0 ?_
            exact J_zret C hr hk rfl (v0s_9, u_10) rfl dX3_readLight_98 h
        · have h := h.2 c
          refine J_iconst C 71 dX3_readLight_70 rfl ki_0 ?_
          exact J_zret C hr hk rfl (v0s_5, u_6) rfl dX3_readLight_71 h
      · have h := h.2 c
        refine J_aload_n C 39 dX3_readLight_38 rfl rfl ?_
        refine J_iconst C 40 dX3_readLight_39 rfl ki_1 ?_
        refine J_aload_n C 41 dX3_readLight_40 rfl rfl ?_
        refine J_getN C 44 7 inlX7 8 3 rfl rfl (by decide) (mi 32 rfl) rfl rfl dX3_readLight_41 rfl ?_
        refine J_callBiV (Bs := [bX3 cI cJ cZ a0 r0 v0, bX7 cI cJ cZ a1 r1 u_1]) (As := [.int 1, .int (u_1.1 3)]) C 47 (c_X7_fail l D cI cJ cZ cS a1 r1 u_1 1 (u_1.1 3) _ h) wd267 wd325 wd15 wd265 wd266 7 0 rfl rfl rfl hdX7_fail ⟨Nat.le_of_ble_eq_true rfl, Nat.le_of_ble_eq_true rfl⟩ ⟨Nat.zero_le _, Nat.zero_le _⟩ rfl (Nat.le_of_ble_eq_true rfl) [1] [0] 2 rfl (by decide +kernel) rfl rfl (fun (u : Vl) => [bX7 cI cJ cZ a1 r1 u]) (fun _ => rfl) [1, 0] (by decide +kernel) (fun _ => rfl) rfl (fun (u : Vl) => [bX3 cI cJ cZ a0 r0 v0, bX7 cI cJ cZ a1 r1 u]) (fun _ => rfl) dX3_readLight_44 rfl (fun r_24 u h => ?_)
        obtain ⟨u_23, hu⟩ : ∃ z, z = u := ⟨_, rfl⟩
        subst hu
        obtain ⟨hz, h⟩ := h
        exact J_zret C hr hk hz (v0, u_23) rfl dX3_readLight_47 h
    · have h := h.2 c
      refine J_iconst C 27 dX3_readLight_26 rfl ki_0 ?_
      exact J_zret C hr hk rfl (v0, u_1) rfl dX3_readLight_27 h
  · have h := h.2 c
    refine J_aload_n C 10 dX3_readLight_9 rfl rfl ?_
    refine J_iconst C 11 dX3_readLight_10 rfl ki_3 ?_
    refine J_aload_n C 12 dX3_readLight_11 rfl rfl ?_
    refine J_getN C 15 7 inlX7 8 3 rfl rfl (by decide) (mi 32 rfl) rfl rfl dX3_readLight_12 rfl ?_
    refine J_callBiV (Bs := [bX3 cI cJ cZ a0 r0 v0, bX7 cI cJ cZ a1 r1 v1]) (As := [.int 3, .int (v1.1 3)]) C 18 (c_X7_fail l D cI cJ cZ cS a1 r1 v1 3 (v1.1 3) _ h) wd267 wd325 wd15 wd265 wd266 7 0 rfl rfl rfl hdX7_fail ⟨Nat.le_of_ble_eq_true rfl, Nat.le_of_ble_eq_true rfl⟩ ⟨Nat.zero_le _, Nat.zero_le _⟩ rfl (Nat.le_of_ble_eq_true rfl) [1] [0] 2 rfl (by decide +kernel) rfl rfl (fun (u : Vl) => [bX7 cI cJ cZ a1 r1 u]) (fun _ => rfl) [1, 0] (by decide +kernel) (fun _ => rfl) rfl (fun (u : Vl) => [bX3 cI cJ cZ a0 r0 v0, bX7 cI cJ cZ a1 r1 u]) (fun _ => rfl) dX3_readLight_15 rfl (fun r_26 u h => ?_)
    obtain ⟨u_25, hu⟩ : ∃ z, z = u := ⟨_, rfl⟩
    subst hu
    obtain ⟨hz, h⟩ := h
    exact J_zret C hr hk hz (v0, u_25) rfl dX3_readLight_18 h
def wp_X3_readClause (v0 : Vl) (v1 : Vl)  (Q : Int32 → Vl → Vl → Prop) : Prop := wp_X7_readWord v1 (fun r_2 u_1 => ((¬ r_2 = 0 → wp_X7_isWord u_1 9 (fun r_3 => ((r_3 = 0 → wp_X7_isWord u_1 10 (fun r_4 => ((r_4 = 0 → wp_X7_isWord u_1 11 (fun r_5 => ((r_5 = 0 → wp_X7_isWord u_1 12 (fun r_6 => ((r_6 = 0 → wp_X7_isWord u_1 13 (fun r_7 => ((r_7 = 0 → wp_X7_isWord u_1 14 (fun r_8 => ((r_8 = 0 → wp_X7_fail u_1 1 (u_1.1 3) (fun r_10 u_9 => narrow .boolean (.int r_10) = .int r_10 ∧ Q r_10 v0 u_9)) ∧ (¬ r_8 = 0 → wp_X3_isFirst v0 u_1 16 (fun r_13 u_11 u_12 => ((r_13 = 0 → Q 0 u_11 u_12) ∧ (¬ r_13 = 0 → wp_X3_readChances u_11 u_12 (fun r_16 u_14 u_15 => ((r_16 = 0 → Q 0 u_14 u_15) ∧ (¬ r_16 = 0 → Q 1 u_14 u_15)))))))))) ∧ (¬ r_7 = 0 → wp_X3_isFirst v0 u_1 8 (fun r_19 u_17 u_18 => ((r_19 = 0 → Q 0 u_17 u_18) ∧ (¬ r_19 = 0 → wp_X3_readNights u_17 u_18 (fun r_22 u_20 u_21 => ((r_22 = 0 → Q 0 u_20 u_21) ∧ (¬ r_22 = 0 → Q 1 u_20 u_21)))))))))) ∧ (¬ r_6 = 0 → wp_X3_isFirst v0 u_1 4 (fun r_25 u_23 u_24 => ((r_25 = 0 → Q 0 u_23 u_24) ∧ (¬ r_25 = 0 → wp_X3_readHens u_23 u_24 (fun r_28 u_26 u_27 => ((r_28 = 0 → Q 0 u_26 u_27) ∧ (¬ r_28 = 0 → Q 1 u_26 u_27)))))))))) ∧ (¬ r_5 = 0 → wp_X3_isFirst v0 u_1 2 (fun r_31 u_29 u_30 => ((r_31 = 0 → Q 0 u_29 u_30) ∧ (¬ r_31 = 0 → wp_X3_readBarrel u_29 u_30 (fun r_34 u_32 u_33 => ((r_34 = 0 → Q 0 u_32 u_33) ∧ (¬ r_34 = 0 → Q 1 u_32 u_33)))))))))) ∧ (¬ r_4 = 0 → wp_X3_isFirst v0 u_1 1 (fun r_37 u_35 u_36 => ((r_37 = 0 → Q 0 u_35 u_36) ∧ (¬ r_37 = 0 → wp_X3_readBoat u_35 u_36 (fun r_40 u_38 u_39 => ((r_40 = 0 → Q 0 u_38 u_39) ∧ (¬ r_40 = 0 → Q 1 u_38 u_39)))))))))) ∧ (¬ r_3 = 0 → wp_X3_readLight v0 u_1 (fun r_43 u_41 u_42 => narrow .boolean (.int r_43) = .int r_43 ∧ Q r_43 u_41 u_42))))) ∧ (r_2 = 0 → Q 0 v0 u_1)))
set_option maxHeartbeats 4000000 in
set_option maxRecDepth 100000 in
theorem c_X3_readClause (l : Launch) (D : GG) (cI cJ cZ cS : ClassId) (a0 : Nat) (r0 : Nat → Nat) (v0 : Vl) (a1 : Nat) (r1 : Nat → Nat) (v1 : Vl)  (Q : Int32 → Vl → Vl → Prop) (h : wp_X3_readClause v0 v1 Q) : Mi l D (tyL cI cJ cZ cS) yX3_readClause cX3_readClause 2 .boolean 7 150 [.ref a0, .ref a1] (List.flatten [bX3 cI cJ cZ a0 r0 v0, bX7 cI cJ cZ a1 r1 v1]) (fun (r : Int32) (u : Vl × Vl) => Q r u.1 u.2) (fun (u : Vl × Vl) => List.flatten [bX3 cI cJ cZ a0 r0 u.1, bX7 cI cJ cZ a1 r1 u.2]) := by
  refine Mi_of RX3 [(0, .ref a0), (1, .ref a1)] (by decide +kernel) rfl rfl (Nat.le_of_ble_eq_true rfl) ?_
  intro p e s m args below meth c A C hr hk
  refine J_aload_n C 1 dX3_readClause_0 rfl rfl ?_
  refine J_callBiV (Bs := [bX3 cI cJ cZ a0 r0 v0, bX7 cI cJ cZ a1 r1 v1]) (As := []) C 4 (c_X7_readWord l D cI cJ cZ cS a1 r1 v1 _ h) wd259 wd256 wd15 wd257 wd258 7 0 rfl rfl rfl hdX7_readWord ⟨Nat.le_of_ble_eq_true rfl, Nat.le_of_ble_eq_true rfl⟩ ⟨Nat.zero_le _, Nat.zero_le _⟩ rfl (Nat.le_of_ble_eq_true rfl) [1] [0] 2 rfl (by decide +kernel) rfl rfl (fun (u : Vl) => [bX7 cI cJ cZ a1 r1 u]) (fun _ => rfl) [1, 0] (by decide +kernel) (fun _ => rfl) rfl (fun (u : Vl) => [bX3 cI cJ cZ a0 r0 v0, bX7 cI cJ cZ a1 r1 u]) (fun _ => rfl) dX3_readClause_1 rfl (fun r_2 u h => ?_)
  obtain ⟨u_1, hu⟩ : ∃ z, z = u := ⟨_, rfl⟩
  subst hu
  refine J_if_ne C 7 9 dX3_readClause_4 rfl rfl (fun c => ?_) (fun c => ?_)
  · have h := h.1 c
    refine J_aload_n C 10 dX3_readClause_9 rfl rfl ?_
    refine J_ldcS C 12 9 rfl dX3_readClause_10 rfl ?_
    refine J_callBiV (Bs := [bX3 cI cJ cZ a0 r0 v0, bX7 cI cJ cZ a1 r1 u_1]) (As := [.ref (D.2.1 9)]) C 15 (c_X7_isWord l D cI cJ cZ cS a1 r1 u_1 9 _ h) wd271 wd268 wd15 wd269 wd270 7 0 rfl rfl rfl hdX7_isWord ⟨Nat.le_of_ble_eq_true rfl, Nat.le_of_ble_eq_true rfl⟩ ⟨Nat.zero_le _, Nat.zero_le _⟩ rfl (Nat.le_of_ble_eq_true rfl) [1] [0] 2 rfl (by decide +kernel) rfl rfl (fun (u : Unit) => [bX7 cI cJ cZ a1 r1 u_1]) (fun _ => rfl) [1, 0] (by decide +kernel) (fun _ => rfl) rfl (fun (u : Unit) => [bX3 cI cJ cZ a0 r0 v0, bX7 cI cJ cZ a1 r1 u_1]) (fun _ => rfl) dX3_readClause_12 rfl (fun r_3 u h => ?_)
    refine J_if_eq C 18 24 dX3_readClause_15 rfl rfl (fun c => ?_) (fun c => ?_)
    · have h := h.1 c
      refine J_aload_n C 25 dX3_readClause_24 rfl rfl ?_
      refine J_ldcS C 27 10 rfl dX3_readClause_25 rfl ?_
      refine J_callBiV (Bs := [bX3 cI cJ cZ a0 r0 v0, bX7 cI cJ cZ a1 r1 u_1]) (As := [.ref (D.2.1 10)]) C 30 (c_X7_isWord l D cI cJ cZ cS a1 r1 u_1 10 _ h) wd271 wd268 wd15 wd269 wd270 7 0 rfl rfl rfl hdX7_isWord ⟨Nat.le_of_ble_eq_true rfl, Nat.le_of_ble_eq_true rfl⟩ ⟨Nat.zero_le _, Nat.zero_le _⟩ rfl (Nat.le_of_ble_eq_true rfl) [1] [0] 2 rfl (by decide +kernel) rfl rfl (fun (u : Unit) => [bX7 cI cJ cZ a1 r1 u_1]) (fun _ => rfl) [1, 0] (by decide +kernel) (fun _ => rfl) rfl (fun (u : Unit) => [bX3 cI cJ cZ a0 r0 v0, bX7 cI cJ cZ a1 r1 u_1]) (fun _ => rfl) dX3_readClause_27 rfl (fun r_4 u h => ?_)
      refine J_if_eq C 33 56 dX3_readClause_30 rfl rfl (fun c => ?_) (fun c => ?_)
      · have h := h.1 c
        refine J_aload_n C 57 dX3_readClause_56 rfl rfl ?_
        refine J_ldcS C 59 11 rfl dX3_readClause_57 rfl ?_
        refine J_callBiV (Bs := [bX3 cI cJ cZ a0 r0 v0, bX7 cI cJ cZ a1 r1 u_1]) (As := [.ref (D.2.1 11)]) C 62 (c_X7_isWord l D cI cJ cZ cS a1 r1 u_1 11 _ h) wd271 wd268 wd15 wd269 wd270 7 0 rfl rfl rfl hdX7_isWord ⟨Nat.le_of_ble_eq_true rfl, Nat.le_of_ble_eq_true rfl⟩ ⟨Nat.zero_le _, Nat.zero_le _⟩ rfl (Nat.le_of_ble_eq_true rfl) [1] [0] 2 rfl (by decide +kernel) rfl rfl (fun (u : Unit) => [bX7 cI cJ cZ a1 r1 u_1]) (fun _ => rfl) [1, 0] (by decide +kernel) (fun _ => rfl) rfl (fun (u : Unit) => [bX3 cI cJ cZ a0 r0 v0, bX7 cI cJ cZ a1 r1 u_1]) (fun _ => rfl) dX3_readClause_59 rfl (fun r_5 u h => ?_)
        refine J_if_eq C 65 88 dX3_readClause_62 rfl rfl (fun c => ?_) (fun c => ?_)
        · have h := h.1 c
          refine J_aload_n C 89 dX3_readClause_88 rfl rfl ?_
          refine J_ldcS C 91 12 rfl dX3_readClause_89 rfl ?_
          refine J_callBiV (Bs := [bX3 cI cJ cZ a0 r0 v0, bX7 cI cJ cZ a1 r1 u_1]) (As := [.ref (D.2.1 12)]) C 94 (c_X7_isWord l D cI cJ cZ cS a1 r1 u_1 12 _ h) wd271 wd268 wd15 wd269 wd270 7 0 rfl rfl rfl hdX7_isWord ⟨Nat.le_of_ble_eq_true rfl, Nat.le_of_ble_eq_true rfl⟩ ⟨Nat.zero_le _, Nat.zero_le _⟩ rfl (Nat.le_of_ble_eq_true rfl) [1] [0] 2 rfl (by decide +kernel) rfl rfl (fun (u : Unit) => [bX7 cI cJ cZ a1 r1 u_1]) (fun _ => rfl) [1, 0] (by decide +kernel) (fun _ => rfl) rfl (fun (u : Unit) => [bX3 cI cJ cZ a0 r0 v0, bX7 cI cJ cZ a1 r1 u_1]) (fun _ => rfl) dX3_readClause_91 rfl (fun r_6 u h => ?_)
          refine J_if_eq C 97 120 dX3_readClause_94 rfl rfl (fun c => ?_) (fun c => ?_)
          · have h := h.1 c
            refine J_aload_n C 121 dX3_readClause_120 rfl rfl ?_
            refine J_ldcS C 123 13 rfl dX3_readClause_121 rfl ?_
            refine J_callBiV (Bs := [bX3 cI cJ cZ a0 r0 v0, bX7 cI cJ cZ a1 r1 u_1]) (As := [.ref (D.2.1 13)]) C 126 (c_X7_isWord l D cI cJ cZ cS a1 r1 u_1 13 _ h) wd271 wd268 wd15 wd269 wd270 7 0 rfl rfl rfl hdX7_isWord ⟨Nat.le_of_ble_eq_true rfl, Nat.le_of_ble_eq_true rfl⟩ ⟨Nat.zero_le _, Nat.zero_le _⟩ rfl (Nat.le_of_ble_eq_true rfl) [1] [0] 2 rfl (by decide +kernel) rfl rfl (fun (u : Unit) => [bX7 cI cJ cZ a1 r1 u_1]) (fun _ => rfl) [1, 0] (by decide +kernel) (fun _ => rfl) rfl (fun (u : Unit) => [bX3 cI cJ cZ a0 r0 v0, bX7 cI cJ cZ a1 r1 u_1]) (fun _ => rfl) dX3_readClause_123 rfl (fun r_7 u h => ?_)
            refine J_if_eq C 129 153 dX3_readClause_126 rfl rfl (fun c => ?_) (fun c => ?_)
            · have h := h.1 c
              refine J_aload_n C 154 dX3_readClause_153 rfl rfl ?_
              refine J_ldcS C 156 14 rfl dX3_readClause_154 rfl ?_
              refine J_callBiV (Bs := [bX3 cI cJ cZ a0 r0 v0, bX7 cI cJ cZ a1 r1 u_1]) (As := [.ref (D.2.1 14)]) C 159 (c_X7_isWord l D cI cJ cZ cS a1 r1 u_1 14 _ h) wd271 wd268 wd15 wd269 wd270 7 0 rfl rfl rfl hdX7_isWord ⟨Nat.le_of_ble_eq_true rfl, Nat.le_of_ble_eq_true rfl⟩ ⟨Nat.zero_le _, Nat.zero_le _⟩ rfl (Nat.le_of_ble_eq_true rfl) [1] [0] 2 rfl (by decide +kernel) rfl rfl (fun (u : Unit) => [bX7 cI cJ cZ a1 r1 u_1]) (fun _ => rfl) [1, 0] (by decide +kernel) (fun _ => rfl) rfl (fun (u : Unit) => [bX3 cI cJ cZ a0 r0 v0, bX7 cI cJ cZ a1 r1 u_1]) (fun _ => rfl) dX3_readClause_156 rfl (fun r_8 u h => ?_)
              refine J_if_eq C 162 186 dX3_readClause_159 rfl rfl (fun c => ?_) (fun c => ?_)
              · have h := h.1 c
                refine J_aload_n C 187 dX3_readClause_186 rfl rfl ?_
                refine J_iconst C 188 dX3_readClause_187 rfl ki_1 ?_
                refine J_aload_n C 189 dX3_readClause_188 rfl rfl ?_
                refine J_getN C 192 7 inlX7 8 3 rfl rfl (by decide) (mi 32 rfl) rfl rfl dX3_readClause_189 rfl ?_
                refine J_callBiV (Bs := [bX3 cI cJ cZ a0 r0 v0, bX7 cI cJ cZ a1 r1 u_1]) (As := [.int 1, .int (u_1.1 3)]) C 195 (c_X7_fail l D cI cJ cZ cS a1 r1 u_1 1 (u_1.1 3) _ h) wd267 wd325 wd15 wd265 wd266 7 0 rfl rfl rfl hdX7_fail ⟨Nat.le_of_ble_eq_true rfl, Nat.le_of_ble_eq_true rfl⟩ ⟨Nat.zero_le _, Nat.zero_le _⟩ rfl (Nat.le_of_ble_eq_true rfl) [1] [0] 2 rfl (by decide +kernel) rfl rfl (fun (u : Vl) => [bX7 cI cJ cZ a1 r1 u]) (fun _ => rfl) [1, 0] (by decide +kernel) (fun _ => rfl) rfl (fun (u : Vl) => [bX3 cI cJ cZ a0 r0 v0, bX7 cI cJ cZ a1 r1 u]) (fun _ => rfl) dX3_readClause_192 rfl (fun r_10 u h => ?_)
                obtain ⟨u_9, hu⟩ : ∃ z, z = u := ⟨_, rfl⟩
                subst hu
                obtain ⟨hz, h⟩ := h
                exact J_zret C hr hk hz (v0, u_9) rfl dX3_readClause_195 h
              · have h := h.2 c
                refine J_aload_n C 163 dX3_readClause_162 rfl rfl ?_
                refine J_aload_n C 164 dX3_readClause_163 rfl rfl ?_
                refine J_bipush C 166 dX3_readClause_164 rfl kb_16 ?_
                refine J_callBiV (Bs := [bX3 cI cJ cZ a0 r0 v0, bX7 cI cJ cZ a1 r1 u_1]) (As := [.ref a1, .int 16]) C 169 (c_X3_isFirst l D cI cJ cZ cS a0 r0 v0 a1 r1 u_1 16 _ h) wd343 wd340 wd19 wd341 wd342 3 0 rfl rfl rfl hdX3_isFirst ⟨Nat.le_of_ble_eq_true rfl, Nat.le_of_ble_eq_true rfl⟩ ⟨Nat.zero_le _, Nat.zero_le _⟩ rfl (Nat.le_of_ble_eq_true rfl) [0, 1] [] 2 rfl (by decide +kernel) rfl rfl (fun (u : Vl × Vl) => [bX3 cI cJ cZ a0 r0 u.1, bX7 cI cJ cZ a1 r1 u.2]) (fun _ => rfl) [0, 1] (by decide +kernel) (fun _ => rfl) rfl (fun (u : Vl × Vl) => [bX3 cI cJ cZ a0 r0 u.1, bX7 cI cJ cZ a1 r1 u.2]) (fun _ => rfl) dX3_readClause_166 rfl (fun r_13 u h => ?_)
                obtain ⟨u_11, u_12⟩ := u
                refine J_if_eq C 172 184 dX3_readClause_169 rfl rfl (fun c => ?_) (fun c => ?_)
                · have h := h.1 c
                  refine J_iconst C 185 dX3_readClause_184 rfl ki_0 ?_
                  exact J_zret C hr hk rfl (u_11, u_12) rfl dX3_readClause_185 h
                · have h := h.2 c
                  refine J_aload_n C 173 dX3_readClause_172 rfl rfl ?_
                  refine J_aload_n C 174 dX3_readClause_173 rfl rfl ?_
                  refine J_callBiV (Bs := [bX3 cI cJ cZ a0 r0 u_11, bX7 cI cJ cZ a1 r1 u_12]) (As := [.ref a1]) C 177 (c_X3_readChances l D cI cJ cZ cS a0 r0 u_11 a1 r1 u_12 _ h) wd372 wd369 wd19 wd370 wd371 3 0 rfl rfl rfl hdX3_readChances ⟨Nat.le_of_ble_eq_true rfl, Nat.le_of_ble_eq_true rfl⟩ ⟨Nat.zero_le _, Nat.zero_le _⟩ rfl (Nat.le_of_ble_eq_true rfl) [0, 1] [] 2 rfl (by decide +kernel) rfl rfl (fun (u : Vl × Vl) => [bX3 cI cJ cZ a0 r0 u.1, bX7 cI cJ cZ a1 r1 u.2]) (fun _ => rfl) [0, 1] (by decide +kernel) (fun _ => rfl) rfl (fun (u : Vl × Vl) => [bX3 cI cJ cZ a0 r0 u.1, bX7 cI cJ cZ a1 r1 u.2]) (fun _ => rfl) dX3_readClause_174 rfl (fun r_16 u h => ?_)
                  obtain ⟨u_14, u_15⟩ := u
                  refine J_if_eq C 180 184 dX3_readClause_177 rfl rfl (fun c => ?_) (fun c => ?_)
                  · have h := h.1 c
                    refine J_iconst C 185 dX3_readClause_184 rfl ki_0 ?_
                    exact J_zret C hr hk rfl (u_14, u_15) rfl dX3_readClause_185 h
                  · have h := h.2 c
                    refine J_iconst C 181 dX3_readClause_180 rfl ki_1 ?_
                    refine J_goto C 185 dX3_readClause_181 rfl ?_
                    exact J_zret C hr hk rfl (u_14, u_15) rfl dX3_readClause_185 h
            · have h := h.2 c
              refine J_aload_n C 130 dX3_readClause_129 rfl rfl ?_
              refine J_aload_n C 131 dX3_readClause_130 rfl rfl ?_
              refine J_bipush C 133 dX3_readClause_131 rfl kb_8 ?_
              refine J_callBiV (Bs := [bX3 cI cJ cZ a0 r0 v0, bX7 cI cJ cZ a1 r1 u_1]) (As := [.ref a1, .int 8]) C 136 (c_X3_isFirst l D cI cJ cZ cS a0 r0 v0 a1 r1 u_1 8 _ h) wd343 wd340 wd19 wd341 wd342 3 0 rfl rfl rfl hdX3_isFirst ⟨Nat.le_of_ble_eq_true rfl, Nat.le_of_ble_eq_true rfl⟩ ⟨Nat.zero_le _, Nat.zero_le _⟩ rfl (Nat.le_of_ble_eq_true rfl) [0, 1] [] 2 rfl (by decide +kernel) rfl rfl (fun (u : Vl × Vl) => [bX3 cI cJ cZ a0 r0 u.1, bX7 cI cJ cZ a1 r1 u.2]) (fun _ => rfl) [0, 1] (by decide +kernel) (fun _ => rfl) rfl (fun (u : Vl × Vl) => [bX3 cI cJ cZ a0 r0 u.1, bX7 cI cJ cZ a1 r1 u.2]) (fun _ => rfl) dX3_readClause_133 rfl (fun r_19 u h => ?_)
              obtain ⟨u_17, u_18⟩ := u
              refine J_if_eq C 139 151 dX3_readClause_136 rfl rfl (fun c => ?_) (fun c => ?_)
              · have h := h.1 c
                refine J_iconst C 152 dX3_readClause_151 rfl ki_0 ?_
                exact J_zret C hr hk rfl (u_17, u_18) rfl dX3_readClause_152 h
              · have h := h.2 c
                refine J_aload_n C 140 dX3_readClause_139 rfl rfl ?_
                refine J_aload_n C 141 dX3_readClause_140 rfl rfl ?_
                refine J_callBiV (Bs := [bX3 cI cJ cZ a0 r0 u_17, bX7 cI cJ cZ a1 r1 u_18]) (As := [.ref a1]) C 144 (c_X3_readNights l D cI cJ cZ cS a0 r0 u_17 a1 r1 u_18 _ h) wd359 wd356 wd19 wd357 wd358 3 0 rfl rfl rfl hdX3_readNights ⟨Nat.le_of_ble_eq_true rfl, Nat.le_of_ble_eq_true rfl⟩ ⟨Nat.zero_le _, Nat.zero_le _⟩ rfl (Nat.le_of_ble_eq_true rfl) [0, 1] [] 2 rfl (by decide +kernel) rfl rfl (fun (u : Vl × Vl) => [bX3 cI cJ cZ a0 r0 u.1, bX7 cI cJ cZ a1 r1 u.2]) (fun _ => rfl) [0, 1] (by decide +kernel) (fun _ => rfl) rfl (fun (u : Vl × Vl) => [bX3 cI cJ cZ a0 r0 u.1, bX7 cI cJ cZ a1 r1 u.2]) (fun _ => rfl) dX3_readClause_141 rfl (fun r_22 u h => ?_)
                obtain ⟨u_20, u_21⟩ := u
                refine J_if_eq C 147 151 dX3_readClause_144 rfl rfl (fun c => ?_) (fun c => ?_)
                · have h := h.1 c
                  refine J_iconst C 152 dX3_readClause_151 rfl ki_0 ?_
                  exact J_zret C hr hk rfl (u_20, u_21) rfl dX3_readClause_152 h
                · have h := h.2 c
                  refine J_iconst C 148 dX3_readClause_147 rfl ki_1 ?_
                  refine J_goto C 152 dX3_readClause_148 rfl ?_
                  exact J_zret C hr hk rfl (u_20, u_21) rfl dX3_readClause_152 h
          · have h := h.2 c
            refine J_aload_n C 98 dX3_readClause_97 rfl rfl ?_
            refine J_aload_n C 99 dX3_readClause_98 rfl rfl ?_
            refine J_iconst C 100 dX3_readClause_99 rfl ki_4 ?_
            refine J_callBiV (Bs := [bX3 cI cJ cZ a0 r0 v0, bX7 cI cJ cZ a1 r1 u_1]) (As := [.ref a1, .int 4]) C 103 (c_X3_isFirst l D cI cJ cZ cS a0 r0 v0 a1 r1 u_1 4 _ h) wd343 wd340 wd19 wd341 wd342 3 0 rfl rfl rfl hdX3_isFirst ⟨Nat.le_of_ble_eq_true rfl, Nat.le_of_ble_eq_true rfl⟩ ⟨Nat.zero_le _, Nat.zero_le _⟩ rfl (Nat.le_of_ble_eq_true rfl) [0, 1] [] 2 rfl (by decide +kernel) rfl rfl (fun (u : Vl × Vl) => [bX3 cI cJ cZ a0 r0 u.1, bX7 cI cJ cZ a1 r1 u.2]) (fun _ => rfl) [0, 1] (by decide +kernel) (fun _ => rfl) rfl (fun (u : Vl × Vl) => [bX3 cI cJ cZ a0 r0 u.1, bX7 cI cJ cZ a1 r1 u.2]) (fun _ => rfl) dX3_readClause_100 rfl (fun r_25 u h => ?_)
            obtain ⟨u_23, u_24⟩ := u
            refine J_if_eq C 106 118 dX3_readClause_103 rfl rfl (fun c => ?_) (fun c => ?_)
            · have h := h.1 c
              refine J_iconst C 119 dX3_readClause_118 rfl ki_0 ?_
              exact J_zret C hr hk rfl (u_23, u_24) rfl dX3_readClause_119 h
            · have h := h.2 c
              refine J_aload_n C 107 dX3_readClause_106 rfl rfl ?_
              refine J_aload_n C 108 dX3_readClause_107 rfl rfl ?_
              refine J_callBiV (Bs := [bX3 cI cJ cZ a0 r0 u_23, bX7 cI cJ cZ a1 r1 u_24]) (As := [.ref a1]) C 111 (c_X3_readHens l D cI cJ cZ cS a0 r0 u_23 a1 r1 u_24 _ h) wd355 wd352 wd19 wd353 wd354 3 0 rfl rfl rfl hdX3_readHens ⟨Nat.le_of_ble_eq_true rfl, Nat.le_of_ble_eq_true rfl⟩ ⟨Nat.zero_le _, Nat.zero_le _⟩ rfl (Nat.le_of_ble_eq_true rfl) [0, 1] [] 2 rfl (by decide +kernel) rfl rfl (fun (u : Vl × Vl) => [bX3 cI cJ cZ a0 r0 u.1, bX7 cI cJ cZ a1 r1 u.2]) (fun _ => rfl) [0, 1] (by decide +kernel) (fun _ => rfl) rfl (fun (u : Vl × Vl) => [bX3 cI cJ cZ a0 r0 u.1, bX7 cI cJ cZ a1 r1 u.2]) (fun _ => rfl) dX3_readClause_108 rfl (fun r_28 u h => ?_)
              obtain ⟨u_26, u_27⟩ := u
              refine J_if_eq C 114 118 dX3_readClause_111 rfl rfl (fun c => ?_) (fun c => ?_)
              · have h := h.1 c
                refine J_iconst C 119 dX3_readClause_118 rfl ki_0 ?_
                exact J_zret C hr hk rfl (u_26, u_27) rfl dX3_readClause_119 h
              · have h := h.2 c
                refine J_iconst C 115 dX3_readClause_114 rfl ki_1 ?_
                refine J_goto C 119 dX3_readClause_115 rfl ?_
                exact J_zret C hr hk rfl (u_26, u_27) rfl dX3_readClause_119 h
        · have h := h.2 c
          refine J_aload_n C 66 dX3_readClause_65 rfl rfl ?_
          refine J_aload_n C 67 dX3_readClause_66 rfl rfl ?_
          refine J_iconst C 68 dX3_readClause_67 rfl ki_2 ?_
          refine J_callBiV (Bs := [bX3 cI cJ cZ a0 r0 v0, bX7 cI cJ cZ a1 r1 u_1]) (As := [.ref a1, .int 2]) C 71 (c_X3_isFirst l D cI cJ cZ cS a0 r0 v0 a1 r1 u_1 2 _ h) wd343 wd340 wd19 wd341 wd342 3 0 rfl rfl rfl hdX3_isFirst ⟨Nat.le_of_ble_eq_true rfl, Nat.le_of_ble_eq_true rfl⟩ ⟨Nat.zero_le _, Nat.zero_le _⟩ rfl (Nat.le_of_ble_eq_true rfl) [0, 1] [] 2 rfl (by decide +kernel) rfl rfl (fun (u : Vl × Vl) => [bX3 cI cJ cZ a0 r0 u.1, bX7 cI cJ cZ a1 r1 u.2]) (fun _ => rfl) [0, 1] (by decide +kernel) (fun _ => rfl) rfl (fun (u : Vl × Vl) => [bX3 cI cJ cZ a0 r0 u.1, bX7 cI cJ cZ a1 r1 u.2]) (fun _ => rfl) dX3_readClause_68 rfl (fun r_31 u h => ?_)
          obtain ⟨u_29, u_30⟩ := u
          refine J_if_eq C 74 86 dX3_readClause_71 rfl rfl (fun c => ?_) (fun c => ?_)
          · have h := h.1 c
            refine J_iconst C 87 dX3_readClause_86 rfl ki_0 ?_
            exact J_zret C hr hk rfl (u_29, u_30) rfl dX3_readClause_87 h
          · have h := h.2 c
            refine J_aload_n C 75 dX3_readClause_74 rfl rfl ?_
            refine J_aload_n C 76 dX3_readClause_75 rfl rfl ?_
            refine J_callBiV (Bs := [bX3 cI cJ cZ a0 r0 u_29, bX7 cI cJ cZ a1 r1 u_30]) (As := [.ref a1]) C 79 (c_X3_readBarrel l D cI cJ cZ cS a0 r0 u_29 a1 r1 u_30 _ h) wd351 wd348 wd19 wd349 wd350 3 0 rfl rfl rfl hdX3_readBarrel ⟨Nat.le_of_ble_eq_true rfl, Nat.le_of_ble_eq_true rfl⟩ ⟨Nat.zero_le _, Nat.zero_le _⟩ rfl (Nat.le_of_ble_eq_true rfl) [0, 1] [] 2 rfl (by decide +kernel) rfl rfl (fun (u : Vl × Vl) => [bX3 cI cJ cZ a0 r0 u.1, bX7 cI cJ cZ a1 r1 u.2]) (fun _ => rfl) [0, 1] (by decide +kernel) (fun _ => rfl) rfl (fun (u : Vl × Vl) => [bX3 cI cJ cZ a0 r0 u.1, bX7 cI cJ cZ a1 r1 u.2]) (fun _ => rfl) dX3_readClause_76 rfl (fun r_34 u h => ?_)
            obtain ⟨u_32, u_33⟩ := u
            refine J_if_eq C 82 86 dX3_readClause_79 rfl rfl (fun c => ?_) (fun c => ?_)
            · have h := h.1 c
              refine J_iconst C 87 dX3_readClause_86 rfl ki_0 ?_
              exact J_zret C hr hk rfl (u_32, u_33) rfl dX3_readClause_87 h
            · have h := h.2 c
              refine J_iconst C 83 dX3_readClause_82 rfl ki_1 ?_
              refine J_goto C 87 dX3_readClause_83 rfl ?_
              exact J_zret C hr hk rfl (u_32, u_33) rfl dX3_readClause_87 h
      · have h := h.2 c
        refine J_aload_n C 34 dX3_readClause_33 rfl rfl ?_
        refine J_aload_n C 35 dX3_readClause_34 rfl rfl ?_
        refine J_iconst C 36 dX3_readClause_35 rfl ki_1 ?_
        refine J_callBiV (Bs := [bX3 cI cJ cZ a0 r0 v0, bX7 cI cJ cZ a1 r1 u_1]) (As := [.ref a1, .int 1]) C 39 (c_X3_isFirst l D cI cJ cZ cS a0 r0 v0 a1 r1 u_1 1 _ h) wd343 wd340 wd19 wd341 wd342 3 0 rfl rfl rfl hdX3_isFirst ⟨Nat.le_of_ble_eq_true rfl, Nat.le_of_ble_eq_true rfl⟩ ⟨Nat.zero_le _, Nat.zero_le _⟩ rfl (Nat.le_of_ble_eq_true rfl) [0, 1] [] 2 rfl (by decide +kernel) rfl rfl (fun (u : Vl × Vl) => [bX3 cI cJ cZ a0 r0 u.1, bX7 cI cJ cZ a1 r1 u.2]) (fun _ => rfl) [0, 1] (by decide +kernel) (fun _ => rfl) rfl (fun (u : Vl × Vl) => [bX3 cI cJ cZ a0 r0 u.1, bX7 cI cJ cZ a1 r1 u.2]) (fun _ => rfl) dX3_readClause_36 rfl (fun r_37 u h => ?_)
        obtain ⟨u_35, u_36⟩ := u
        refine J_if_eq C 42 54 dX3_readClause_39 rfl rfl (fun c => ?_) (fun c => ?_)
        · have h := h.1 c
          refine J_iconst C 55 dX3_readClause_54 rfl ki_0 ?_
          exact J_zret C hr hk rfl (u_35, u_36) rfl dX3_readClause_55 h
        · have h := h.2 c
          refine J_aload_n C 43 dX3_readClause_42 rfl rfl ?_
          refine J_aload_n C 44 dX3_readClause_43 rfl rfl ?_
          refine J_callBiV (Bs := [bX3 cI cJ cZ a0 r0 u_35, bX7 cI cJ cZ a1 r1 u_36]) (As := [.ref a1]) C 47 (c_X3_readBoat l D cI cJ cZ cS a0 r0 u_35 a1 r1 u_36 _ h) wd347 wd344 wd19 wd345 wd346 3 0 rfl rfl rfl hdX3_readBoat ⟨Nat.le_of_ble_eq_true rfl, Nat.le_of_ble_eq_true rfl⟩ ⟨Nat.zero_le _, Nat.zero_le _⟩ rfl (Nat.le_of_ble_eq_true rfl) [0, 1] [] 2 rfl (by decide +kernel) rfl rfl (fun (u : Vl × Vl) => [bX3 cI cJ cZ a0 r0 u.1, bX7 cI cJ cZ a1 r1 u.2]) (fun _ => rfl) [0, 1] (by decide +kernel) (fun _ => rfl) rfl (fun (u : Vl × Vl) => [bX3 cI cJ cZ a0 r0 u.1, bX7 cI cJ cZ a1 r1 u.2]) (fun _ => rfl) dX3_readClause_44 rfl (fun r_40 u h => ?_)
          obtain ⟨u_38, u_39⟩ := u
          refine J_if_eq C 50 54 dX3_readClause_47 rfl rfl (fun c => ?_) (fun c => ?_)
          · have h := h.1 c
            refine J_iconst C 55 dX3_readClause_54 rfl ki_0 ?_
            exact J_zret C hr hk rfl (u_38, u_39) rfl dX3_readClause_55 h
          · have h := h.2 c
            refine J_iconst C 51 dX3_readClause_50 rfl ki_1 ?_
            refine J_goto C 55 dX3_readClause_51 rfl ?_
            exact J_zret C hr hk rfl (u_38, u_39) rfl dX3_readClause_55 h
    · have h := h.2 c
      refine J_aload_n C 19 dX3_readClause_18 rfl rfl ?_
      refine J_aload_n C 20 dX3_readClause_19 rfl rfl ?_
      refine J_callBiV (Bs := [bX3 cI cJ cZ a0 r0 v0, bX7 cI cJ cZ a1 r1 u_1]) (As := [.ref a1]) C 23 (c_X3_readLight l D cI cJ cZ cS a0 r0 v0 a1 r1 u_1 _ h) wd324 wd321 wd19 wd322 wd323 3 0 rfl rfl rfl hdX3_readLight ⟨Nat.le_of_ble_eq_true rfl, Nat.le_of_ble_eq_true rfl⟩ ⟨Nat.zero_le _, Nat.zero_le _⟩ rfl (Nat.le_of_ble_eq_true rfl) [0, 1] [] 2 rfl (by decide +kernel) rfl rfl (fun (u : Vl × Vl) => [bX3 cI cJ cZ a0 r0 u.1, bX7 cI cJ cZ a1 r1 u.2]) (fun _ => rfl) [0, 1] (by decide +kernel) (fun _ => rfl) rfl (fun (u : Vl × Vl) => [bX3 cI cJ cZ a0 r0 u.1, bX7 cI cJ cZ a1 r1 u.2]) (fun _ => rfl) dX3_readClause_20 rfl (fun r_43 u h => ?_)
      obtain ⟨u_41, u_42⟩ := u
      obtain ⟨hz, h⟩ := h
      exact J_zret C hr hk hz (u_41, u_42) rfl dX3_readClause_23 h
  · have h := h.2 c
    refine J_iconst C 8 dX3_readClause_7 rfl ki_0 ?_
    exact J_zret C hr hk rfl (v0, u_1) rfl dX3_readClause_8 h
def wp_X3_readFrom_c10  (Q : Int32 → Vl → Vl → Prop) : Nat → Vl → Vl → Int32 → Prop
  | 0 => fun _ _ _ => False
  | n + 1 => fun v0 v1 y2 => ((500 < y2 → Q 1 v0 v1) ∧ (¬ 500 < y2 → wp_X7_isAtEnd v1 (fun r_4 u_3 => ((r_4 = 0 → wp_X3_readClause v0 u_3 (fun r_7 u_5 u_6 => ((r_7 = 0 → Q 0 u_5 u_6) ∧ (¬ r_7 = 0 → wp_X7_readSign u_6 59 (fun r_9 u_8 => ((¬ r_9 = 0 → ∀ x_10 : Int32, x_10 = y2 + 1 → wp_X3_readFrom_c10  Q n u_5 u_8 x_10) ∧ (r_9 = 0 → Q 0 u_5 u_8))))))) ∧ (¬ r_4 = 0 → Q 1 v0 u_3)))))
set_option maxHeartbeats 4000000 in
set_option maxRecDepth 100000 in
theorem wk_X3_readFrom_c10 {p : Program} {l : Launch} {e : Env} {s : State} {m : MethodId} {args : Array Value} {below : List Frame} {meth : Method} {c : Code} {D : GG} {A : Nat → Prop} {cI cJ cZ cS : ClassId} {a0 : Nat} {r0 : Nat → Nat} {a1 : Nat} {r1 : Nat → Nat}  {Q : Int32 → Vl → Vl → Prop} (C : Cx p s m args c D (tyL cI cJ cZ cS) A RX3 cX3_readFrom 3) (hr : meth.sig.returnType = some .boolean) (hk : meth.locks = false) : ∀ (n : Nat) (v0 : Vl) (v1 : Vl) (y2 : Int32), wp_X3_readFrom_c10  Q n v0 v1 y2 → J p l e (rmk 8 171) s m args below meth c D A 3 0 0 (MQ below (va_Qi (fun (r : Int32) (u : Vl × Vl) => Q r u.1 u.2) (fun u t => va_P D.1 vwCl ((fun (u : Vl × Vl) => List.flatten [bX3 cI cJ cZ a0 r0 u.1, bX7 cI cJ cZ a1 r1 u.2]) u) t.heap ∧ va_D A ((fun (u : Vl × Vl) => List.flatten [bX3 cI cJ cZ a0 r0 u.1, bX7 cI cJ cZ a1 r1 u.2]) u)) A) args s 0 0 A) 10 [(0, .ref a0), (1, .ref a1), (2, .int y2)] [] (List.flatten [bX3 cI cJ cZ a0 r0 v0, bX7 cI cJ cZ a1 r1 v1]) := by
  intro n
  induction n with
  | zero =>
    intro v0 v1 y2 h
    exact False.elim h
  | succ n ih =>
    intro v0 v1 y2 h
    refine J_iload_n C 11 dX3_readFrom_10 rfl rfl ?_
    refine J_sipush C 14 dX3_readFrom_11 rfl ks_500 ?_
    refine J_icmp_gt C 17 51 dX3_readFrom_14 rfl rfl (fun c => ?_) (fun c => ?_)
    · have h := h.1 c
      refine J_iconst C 52 dX3_readFrom_51 rfl ki_1 ?_
      exact J_zret C hr hk rfl (v0, v1) rfl dX3_readFrom_52 h
    · have h := h.2 c
      refine J_aload_n C 18 dX3_readFrom_17 rfl rfl ?_
      refine J_callBiV (Bs := [bX3 cI cJ cZ a0 r0 v0, bX7 cI cJ cZ a1 r1 v1]) (As := []) C 21 (c_X7_isAtEnd l D cI cJ cZ cS a1 r1 v1 _ h) wd243 wd240 wd15 wd241 wd242 7 0 rfl rfl rfl hdX7_isAtEnd ⟨Nat.le_of_ble_eq_true rfl, Nat.le_of_ble_eq_true rfl⟩ ⟨Nat.zero_le _, Nat.zero_le _⟩ rfl (Nat.le_of_ble_eq_true rfl) [1] [0] 2 rfl (by decide +kernel) rfl rfl (fun (u : Vl) => [bX7 cI cJ cZ a1 r1 u]) (fun _ => rfl) [1, 0] (by decide +kernel) (fun _ => rfl) rfl (fun (u : Vl) => [bX3 cI cJ cZ a0 r0 v0, bX7 cI cJ cZ a1 r1 u]) (fun _ => rfl) dX3_readFrom_18 rfl (fun r_4 u h => ?_)
      obtain ⟨u_3, hu⟩ : ∃ z, z = u := ⟨_, rfl⟩
      subst hu
      refine J_if_eq C 24 26 dX3_readFrom_21 rfl rfl (fun c => ?_) (fun c => ?_)
      · have h := h.1 c
        refine J_aload_n C 27 dX3_readFrom_26 rfl rfl ?_
        refine J_aload_n C 28 dX3_readFrom_27 rfl rfl ?_
        refine J_callBiV (Bs := [bX3 cI cJ cZ a0 r0 v0, bX7 cI cJ cZ a1 r1 u_3]) (As := [.ref a1]) C 31 (c_X3_readClause l D cI cJ cZ cS a0 r0 v0 a1 r1 u_3 _ h) wd255 wd252 wd19 wd253 wd254 3 0 rfl rfl rfl hdX3_readClause ⟨Nat.le_of_ble_eq_true rfl, Nat.le_of_ble_eq_true rfl⟩ ⟨Nat.zero_le _, Nat.zero_le _⟩ rfl (Nat.le_of_ble_eq_true rfl) [0, 1] [] 2 rfl (by decide +kernel) rfl rfl (fun (u : Vl × Vl) => [bX3 cI cJ cZ a0 r0 u.1, bX7 cI cJ cZ a1 r1 u.2]) (fun _ => rfl) [0, 1] (by decide +kernel) (fun _ => rfl) rfl (fun (u : Vl × Vl) => [bX3 cI cJ cZ a0 r0 u.1, bX7 cI cJ cZ a1 r1 u.2]) (fun _ => rfl) dX3_readFrom_28 rfl (fun r_7 u h => ?_)
        obtain ⟨u_5, u_6⟩ := u
        refine J_if_eq C 34 43 dX3_readFrom_31 rfl rfl (fun c => ?_) (fun c => ?_)
        · have h := h.1 c
          refine J_iconst C 44 dX3_readFrom_43 rfl ki_0 ?_
          exact J_zret C hr hk rfl (u_5, u_6) rfl dX3_readFrom_44 h
        · have h := h.2 c
          refine J_aload_n C 35 dX3_readFrom_34 rfl rfl ?_
          refine J_bipush C 37 dX3_readFrom_35 rfl kb_59 ?_
          refine J_callBiV (Bs := [bX3 cI cJ cZ a0 r0 u_5, bX7 cI cJ cZ a1 r1 u_6]) (As := [.int 59]) C 40 (c_X7_readSign l D cI cJ cZ cS a1 r1 u_6 59 _ h) wd363 wd360 wd15 wd361 wd362 7 0 rfl rfl rfl hdX7_readSign ⟨Nat.le_of_ble_eq_true rfl, Nat.le_of_ble_eq_true rfl⟩ ⟨Nat.zero_le _, Nat.zero_le _⟩ rfl (Nat.le_of_ble_eq_true rfl) [1] [0] 2 rfl (by decide +kernel) rfl rfl (fun (u : Vl) => [bX7 cI cJ cZ a1 r1 u]) (fun _ => rfl) [1, 0] (by decide +kernel) (fun _ => rfl) rfl (fun (u : Vl) => [bX3 cI cJ cZ a0 r0 u_5, bX7 cI cJ cZ a1 r1 u]) (fun _ => rfl) dX3_readFrom_37 rfl (fun r_9 u h => ?_)
          obtain ⟨u_8, hu⟩ : ∃ z, z = u := ⟨_, rfl⟩
          subst hu
          refine J_if_ne C 43 45 dX3_readFrom_40 rfl rfl (fun c => ?_) (fun c => ?_)
          · have h := h.1 c
            obtain ⟨x_10, ex_10⟩ : ∃ z : Int32, z = y2 + 1 := ⟨_, rfl⟩
            have h := h x_10 ex_10
            refine J_iinc C 48 [(2, .int x_10), (0, .ref a0), (1, .ref a1)] dX3_readFrom_45 rfl rfl ((kinc_1 _).trans ex_10.symm) (by decide) rfl ?_
            refine J_goto C 10 dX3_readFrom_48 rfl ?_
            refine J_loc [1, 2, 0] rfl ?_
            exact ih u_5 u_8 x_10 h
          · have h := h.2 c
            refine J_iconst C 44 dX3_readFrom_43 rfl ki_0 ?_
            exact J_zret C hr hk rfl (u_5, u_8) rfl dX3_readFrom_44 h
      · have h := h.2 c
        refine J_iconst C 25 dX3_readFrom_24 rfl ki_1 ?_
        exact J_zret C hr hk rfl (v0, u_3) rfl dX3_readFrom_25 h
def wp_X3_readFrom (v0 : Vl) (v1 : Vl)  (Q : Int32 → Vl → Vl → Prop) : Prop := wp_X3_setUntold v0 (fun u_1 => wp_X7_startReading v1 (fun u_2 => (∃ k : Nat, wp_X3_readFrom_c10  Q k u_1 u_2 0)))
set_option maxHeartbeats 4000000 in
set_option maxRecDepth 100000 in
theorem c_X3_readFrom (l : Launch) (D : GG) (cI cJ cZ cS : ClassId) (a0 : Nat) (r0 : Nat → Nat) (v0 : Vl) (a1 : Nat) (r1 : Nat → Nat) (v1 : Vl)  (Q : Int32 → Vl → Vl → Prop) (h : wp_X3_readFrom v0 v1 Q) : Mi l D (tyL cI cJ cZ cS) yX3_readFrom cX3_readFrom 3 .boolean 8 171 [.ref a0, .ref a1] (List.flatten [bX3 cI cJ cZ a0 r0 v0, bX7 cI cJ cZ a1 r1 v1]) (fun (r : Int32) (u : Vl × Vl) => Q r u.1 u.2) (fun (u : Vl × Vl) => List.flatten [bX3 cI cJ cZ a0 r0 u.1, bX7 cI cJ cZ a1 r1 u.2]) := by
  refine Mi_of RX3 [(0, .ref a0), (1, .ref a1)] (by decide +kernel) rfl rfl (Nat.le_of_ble_eq_true rfl) ?_
  intro p e s m args below meth c A C hr hk
  refine J_aload_n C 1 dX3_readFrom_0 rfl rfl ?_
  refine J_callBvV (Bs := [bX3 cI cJ cZ a0 r0 v0, bX7 cI cJ cZ a1 r1 v1]) (As := []) C 4 (c_X3_setUntold l D cI cJ cZ cS a0 r0 v0 _ h) wd73 wd70 wd19 wd71 wd72 3 0 rfl rfl rfl hdX3_setUntold ⟨Nat.le_of_ble_eq_true rfl, Nat.le_of_ble_eq_true rfl⟩ ⟨Nat.zero_le _, Nat.zero_le _⟩ rfl (Nat.le_of_ble_eq_true rfl) [0] [1] 2 rfl (by decide +kernel) rfl rfl (fun (u : Vl) => [bX3 cI cJ cZ a0 r0 u]) (fun _ => rfl) [0, 1] (by decide +kernel) (fun _ => rfl) rfl (fun (u : Vl) => [bX3 cI cJ cZ a0 r0 u, bX7 cI cJ cZ a1 r1 v1]) (fun _ => rfl) dX3_readFrom_1 rfl (fun u h => ?_)
  obtain ⟨u_1, hu⟩ : ∃ z, z = u := ⟨_, rfl⟩
  subst hu
  refine J_aload_n C 5 dX3_readFrom_4 rfl rfl ?_
  refine J_callBvV (Bs := [bX3 cI cJ cZ a0 r0 u_1, bX7 cI cJ cZ a1 r1 v1]) (As := []) C 8 (c_X7_startReading l D cI cJ cZ cS a1 r1 v1 _ h) wd237 wd234 wd15 wd235 wd236 7 0 rfl rfl rfl hdX7_startReading ⟨Nat.le_of_ble_eq_true rfl, Nat.le_of_ble_eq_true rfl⟩ ⟨Nat.zero_le _, Nat.zero_le _⟩ rfl (Nat.le_of_ble_eq_true rfl) [1] [0] 2 rfl (by decide +kernel) rfl rfl (fun (u : Vl) => [bX7 cI cJ cZ a1 r1 u]) (fun _ => rfl) [1, 0] (by decide +kernel) (fun _ => rfl) rfl (fun (u : Vl) => [bX3 cI cJ cZ a0 r0 u_1, bX7 cI cJ cZ a1 r1 u]) (fun _ => rfl) dX3_readFrom_5 rfl (fun u h => ?_)
  obtain ⟨u_2, hu⟩ : ∃ z, z = u := ⟨_, rfl⟩
  subst hu
  refine J_iconst C 9 dX3_readFrom_8 rfl ki_0 ?_
  refine J_istore_n C 10 [(2, .int 0), (0, .ref a0), (1, .ref a1)] dX3_readFrom_9 rfl (by decide) rfl ?_
  refine J_loc [1, 2, 0] rfl ?_
  obtain ⟨n1, h⟩ := h
  exact wk_X3_readFrom_c10 C hr hk n1 u_1 u_2 0 h
def wp_X5_skyNamed_c2 (v1 : Vl) (Q : Int32 → Prop) : Nat → Int32 → Prop
  | 0 => fun _ => False
  | n + 1 => fun y1 => ((3 ≤ y1 → Q (-1)) ∧ (¬ 3 ≤ y1 → wp_X8_skyWord y1 (fun k_1 => wp_X7_isWord v1 k_1 (fun r_2 => ((r_2 = 0 → ∀ x_3 : Int32, x_3 = y1 + 1 → wp_X5_skyNamed_c2 v1 Q n x_3) ∧ (¬ r_2 = 0 → Q y1))))))
set_option maxHeartbeats 4000000 in
set_option maxRecDepth 100000 in
theorem wk_X5_skyNamed_c2 {p : Program} {l : Launch} {e : Env} {s : State} {m : MethodId} {args : Array Value} {below : List Frame} {meth : Method} {c : Code} {D : GG} {A : Nat → Prop} {cI cJ cZ cS : ClassId} {a1 : Nat} {r1 : Nat → Nat} {v1 : Vl} {Q : Int32 → Prop} (C : Cx p s m args c D (tyL cI cJ cZ cS) A RX5 cX5_skyNamed 2) (hr : meth.sig.returnType = some .int) (hk : meth.locks = false) : ∀ (n : Nat) (y1 : Int32), wp_X5_skyNamed_c2 v1 Q n y1 → J p l e (rmk 5 107) s m args below meth c D A 2 0 0 (MQ below (va_Qi (fun (r : Int32) (u : Unit) => Q r) (fun u t => va_P D.1 vwCl ((fun (u : Unit) => List.flatten [bX7 cI cJ cZ a1 r1 v1]) u) t.heap ∧ va_D A ((fun (u : Unit) => List.flatten [bX7 cI cJ cZ a1 r1 v1]) u)) A) args s 0 0 A) 2 [(0, .ref a1), (1, .int y1)] [] (List.flatten [bX7 cI cJ cZ a1 r1 v1]) := by
  intro n
  induction n with
  | zero =>
    intro y1 h
    exact False.elim h
  | succ n ih =>
    intro y1 h
    refine J_iload_n C 3 dX5_skyNamed_2 rfl rfl ?_
    refine J_iconst C 4 dX5_skyNamed_3 rfl ki_3 ?_
    refine J_icmp_ge C 7 26 dX5_skyNamed_4 rfl rfl (fun c => ?_) (fun c => ?_)
    · have h := h.1 c
      refine J_iconst C 27 dX5_skyNamed_26 rfl ki_m1 ?_
      exact J_iret C hr hk () rfl dX5_skyNamed_27 h
    · have h := h.2 c
      refine J_aload_n C 8 dX5_skyNamed_7 rfl rfl ?_
      refine J_iload_n C 9 dX5_skyNamed_8 rfl rfl ?_
      refine J_callrSN (As := [.int y1]) C 12 (c_X8_skyWord l D cI cJ cZ cS y1 _ h) wd496 (mi 60 rfl) wd2 wd495 hdX8_skyWord ⟨Nat.le_of_ble_eq_true rfl, Nat.le_of_ble_eq_true rfl⟩ ⟨Nat.zero_le _, Nat.zero_le _⟩ rfl (Nat.le_of_ble_eq_true rfl) dX5_skyNamed_9 rfl (fun k_1 h => ?_)
      refine J_callBiV (Bs := [bX7 cI cJ cZ a1 r1 v1]) (As := [.ref (D.2.1 k_1)]) C 15 (c_X7_isWord l D cI cJ cZ cS a1 r1 v1 k_1 _ h) wd271 wd497 wd15 wd269 wd270 7 0 rfl rfl rfl hdX7_isWord ⟨Nat.le_of_ble_eq_true rfl, Nat.le_of_ble_eq_true rfl⟩ ⟨Nat.zero_le _, Nat.zero_le _⟩ rfl (Nat.le_of_ble_eq_true rfl) [0] [] 1 rfl (by decide +kernel) rfl rfl (fun (u : Unit) => [bX7 cI cJ cZ a1 r1 v1]) (fun _ => rfl) [0] (by decide +kernel) (fun _ => rfl) rfl (fun (u : Unit) => [bX7 cI cJ cZ a1 r1 v1]) (fun _ => rfl) dX5_skyNamed_12 rfl (fun r_2 u h => ?_)
      refine J_if_eq C 18 20 dX5_skyNamed_15 rfl rfl (fun c => ?_) (fun c => ?_)
      · have h := h.1 c
        obtain ⟨x_3, ex_3⟩ : ∃ z : Int32, z = y1 + 1 := ⟨_, rfl⟩
        have h := h x_3 ex_3
        refine J_iinc C 23 [(1, .int x_3), (0, .ref a1)] dX5_skyNamed_20 rfl rfl ((kinc_1 _).trans ex_3.symm) (by decide) rfl ?_
        refine J_goto C 2 dX5_skyNamed_23 rfl ?_
        refine J_loc [1, 0] rfl ?_
        exact ih x_3 h
      · have h := h.2 c
        refine J_iload_n C 19 dX5_skyNamed_18 rfl rfl ?_
        exact J_iret C hr hk () rfl dX5_skyNamed_19 h
def wp_X5_skyNamed (v1 : Vl)  (Q : Int32 → Prop) : Prop := (∃ k : Nat, wp_X5_skyNamed_c2 v1 Q k 0)
set_option maxHeartbeats 4000000 in
set_option maxRecDepth 100000 in
theorem c_X5_skyNamed (l : Launch) (D : GG) (cI cJ cZ cS : ClassId) (a1 : Nat) (r1 : Nat → Nat) (v1 : Vl)  (Q : Int32 → Prop) (h : wp_X5_skyNamed v1 Q) : Mi l D (tyL cI cJ cZ cS) yX5_skyNamed cX5_skyNamed 2 .int 5 107 [.ref a1] (List.flatten [bX7 cI cJ cZ a1 r1 v1]) (fun (r : Int32) (u : Unit) => Q r) (fun (u : Unit) => List.flatten [bX7 cI cJ cZ a1 r1 v1]) := by
  refine Mi_of RX5 [(0, .ref a1)] (by decide +kernel) rfl rfl (Nat.le_of_ble_eq_true rfl) ?_
  intro p e s m args below meth c A C hr hk
  refine J_iconst C 1 dX5_skyNamed_0 rfl ki_0 ?_
  refine J_istore_n C 2 [(1, .int 0), (0, .ref a1)] dX5_skyNamed_1 rfl (by decide) rfl ?_
  refine J_loc [1, 0] rfl ?_
  obtain ⟨n1, h⟩ := h
  exact wk_X5_skyNamed_c2 C hr hk n1 0 h
def wp_X5_readClause (v0 : Vl) (v1 : Vl)  (Q : Int32 → Vl → Vl → Prop) : Prop := wp_X7_readWord v1 (fun r_2 u_1 => ((¬ r_2 = 0 → wp_X5_skyNamed u_1 (fun r_3 => ((¬ r_3 = (-1) → (((v0.1 2) < 30 → wp_X7_readNumber u_1 1 99 (fun r_5 u_4 => ((r_5 = 0 → Q 0 v0 u_4) ∧ (¬ r_5 = 0 → wp_X7_readSign u_4 59 (fun r_7 u_6 => ((¬ r_7 = 0 → wp_X8_put 30 (v0.2.2.1 0) (v0.1 2) r_3 (fun u_8 => ∀ v0s_9 : Vl, v0s_9 = setRA v0 0 u_8 → wp_X8_put 30 (v0s_9.2.2.1 1) (v0s_9.1 2) (u_6.1 4) (fun u_10 => ∀ v0s_11 : Vl, v0s_11 = setRA v0s_9 1 u_10 → ∀ v0s_12 : Vl, v0s_12 = setI v0s_11 2 ((v0s_11.1 2) + 1) → ∀ v0s_13 : Vl, v0s_13 = setI v0s_12 3 ((v0s_12.1 3) + (u_6.1 4)) → Q 1 v0s_13 u_6))) ∧ (r_7 = 0 → Q 0 v0 u_6))))))) ∧ (¬ (v0.1 2) < 30 → wp_X7_fail u_1 3 (u_1.1 3) (fun r_15 u_14 => narrow .boolean (.int r_15) = .int r_15 ∧ Q r_15 v0 u_14)))) ∧ (r_3 = (-1) → wp_X7_fail u_1 1 (u_1.1 3) (fun r_17 u_16 => narrow .boolean (.int r_17) = .int r_17 ∧ Q r_17 v0 u_16))))) ∧ (r_2 = 0 → Q 0 v0 u_1)))
set_option maxHeartbeats 4000000 in
set_option maxRecDepth 100000 in
theorem c_X5_readClause (l : Launch) (D : GG) (cI cJ cZ cS : ClassId) (a0 : Nat) (r0 : Nat → Nat) (v0 : Vl) (a1 : Nat) (r1 : Nat → Nat) (v1 : Vl)  (Q : Int32 → Vl → Vl → Prop) (h : wp_X5_readClause v0 v1 Q) : Mi l D (tyL cI cJ cZ cS) yX5_readClause cX5_readClause 3 .boolean 6 128 [.ref a0, .ref a1] (List.flatten [bX5 cI cJ cZ a0 r0 v0, bX7 cI cJ cZ a1 r1 v1]) (fun (r : Int32) (u : Vl × Vl) => Q r u.1 u.2) (fun (u : Vl × Vl) => List.flatten [bX5 cI cJ cZ a0 r0 u.1, bX7 cI cJ cZ a1 r1 u.2]) := by
  refine Mi_of RX5 [(0, .ref a0), (1, .ref a1)] (by decide +kernel) rfl rfl (Nat.le_of_ble_eq_true rfl) ?_
  intro p e s m args below meth c A C hr hk
  refine J_aload_n C 1 dX5_readClause_0 rfl rfl ?_
  refine J_callBiV (Bs := [bX5 cI cJ cZ a0 r0 v0, bX7 cI cJ cZ a1 r1 v1]) (As := []) C 4 (c_X7_readWord l D cI cJ cZ cS a1 r1 v1 _ h) wd259 wd491 wd15 wd257 wd258 7 0 rfl rfl rfl hdX7_readWord ⟨Nat.le_of_ble_eq_true rfl, Nat.le_of_ble_eq_true rfl⟩ ⟨Nat.zero_le _, Nat.zero_le _⟩ rfl (Nat.le_of_ble_eq_true rfl) [1] [0] 2 rfl (by decide +kernel) rfl rfl (fun (u : Vl) => [bX7 cI cJ cZ a1 r1 u]) (fun _ => rfl) [1, 0] (by decide +kernel) (fun _ => rfl) rfl (fun (u : Vl) => [bX5 cI cJ cZ a0 r0 v0, bX7 cI cJ cZ a1 r1 u]) (fun _ => rfl) dX5_readClause_1 rfl (fun r_2 u h => ?_)
  obtain ⟨u_1, hu⟩ : ∃ z, z = u := ⟨_, rfl⟩
  subst hu
  refine J_if_ne C 7 9 dX5_readClause_4 rfl rfl (fun c => ?_) (fun c => ?_)
  · have h := h.1 c
    refine J_aload_n C 10 dX5_readClause_9 rfl rfl ?_
    refine J_callBiS (Bs := [bX5 cI cJ cZ a0 r0 v0, bX7 cI cJ cZ a1 r1 u_1]) (As := [.ref a1]) C 13 (c_X5_skyNamed l D cI cJ cZ cS a1 r1 u_1 _ h) wd494 wd492 wd24 wd493 hdX5_skyNamed ⟨Nat.le_of_ble_eq_true rfl, Nat.le_of_ble_eq_true rfl⟩ ⟨Nat.zero_le _, Nat.zero_le _⟩ rfl (Nat.le_of_ble_eq_true rfl) [1] [0] 2 rfl (by decide +kernel) rfl rfl (fun (u : Unit) => [bX7 cI cJ cZ a1 r1 u_1]) (fun _ => rfl) [1, 0] (by decide +kernel) (fun _ => rfl) rfl (fun (u : Unit) => [bX5 cI cJ cZ a0 r0 v0, bX7 cI cJ cZ a1 r1 u_1]) (fun _ => rfl) dX5_readClause_10 rfl (fun r_3 u h => ?_)
    refine J_istore_n C 14 [(2, .int r_3), (0, .ref a0), (1, .ref a1)] dX5_readClause_13 rfl (by decide) rfl ?_
    refine J_iload_n C 15 dX5_readClause_14 rfl rfl ?_
    refine J_iconst C 16 dX5_readClause_15 rfl ki_m1 ?_
    refine J_icmp_ne C 19 29 dX5_readClause_16 rfl rfl (fun c => ?_) (fun c => ?_)
    · have h := h.1 c
      refine J_aload_n C 30 dX5_readClause_29 rfl rfl ?_
      refine J_get C 33 5 inlX5 0 2 rfl rfl (by decide) wd483 rfl rfl dX5_readClause_30 rfl ?_
      refine J_bipush C 35 dX5_readClause_33 rfl kb_30 ?_
      refine J_icmp_lt C 38 48 dX5_readClause_35 rfl rfl (fun c => ?_) (fun c => ?_)
      · have h := h.1 c
        refine J_aload_n C 49 dX5_readClause_48 rfl rfl ?_
        refine J_iconst C 50 dX5_readClause_49 rfl ki_1 ?_
        refine J_bipush C 52 dX5_readClause_50 rfl kb_99 ?_
        refine J_callBiV (Bs := [bX5 cI cJ cZ a0 r0 v0, bX7 cI cJ cZ a1 r1 u_1]) (As := [.int 1, .int 99]) C 55 (c_X7_readNumber l D cI cJ cZ cS a1 r1 u_1 1 99 _ h) wd334 wd499 wd15 wd332 wd333 7 0 rfl rfl rfl hdX7_readNumber ⟨Nat.le_of_ble_eq_true rfl, Nat.le_of_ble_eq_true rfl⟩ ⟨Nat.zero_le _, Nat.zero_le _⟩ rfl (Nat.le_of_ble_eq_true rfl) [1] [0] 2 rfl (by decide +kernel) rfl rfl (fun (u : Vl) => [bX7 cI cJ cZ a1 r1 u]) (fun _ => rfl) [1, 0] (by decide +kernel) (fun _ => rfl) rfl (fun (u : Vl) => [bX5 cI cJ cZ a0 r0 v0, bX7 cI cJ cZ a1 r1 u]) (fun _ => rfl) dX5_readClause_52 rfl (fun r_5 u h => ?_)
        obtain ⟨u_4, hu⟩ : ∃ z, z = u := ⟨_, rfl⟩
        subst hu
        refine J_if_eq C 58 67 dX5_readClause_55 rfl rfl (fun c => ?_) (fun c => ?_)
        · have h := h.1 c
          refine J_iconst C 68 dX5_readClause_67 rfl ki_0 ?_
          exact J_zret C hr hk rfl (v0, u_4) rfl dX5_readClause_68 h
        · have h := h.2 c
          refine J_aload_n C 59 dX5_readClause_58 rfl rfl ?_
          refine J_bipush C 61 dX5_readClause_59 rfl kb_59 ?_
          refine J_callBiV (Bs := [bX5 cI cJ cZ a0 r0 v0, bX7 cI cJ cZ a1 r1 u_4]) (As := [.int 59]) C 64 (c_X7_readSign l D cI cJ cZ cS a1 r1 u_4 59 _ h) wd363 wd500 wd15 wd361 wd362 7 0 rfl rfl rfl hdX7_readSign ⟨Nat.le_of_ble_eq_true rfl, Nat.le_of_ble_eq_true rfl⟩ ⟨Nat.zero_le _, Nat.zero_le _⟩ rfl (Nat.le_of_ble_eq_true rfl) [1] [0] 2 rfl (by decide +kernel) rfl rfl (fun (u : Vl) => [bX7 cI cJ cZ a1 r1 u]) (fun _ => rfl) [1, 0] (by decide +kernel) (fun _ => rfl) rfl (fun (u : Vl) => [bX5 cI cJ cZ a0 r0 v0, bX7 cI cJ cZ a1 r1 u]) (fun _ => rfl) dX5_readClause_61 rfl (fun r_7 u h => ?_)
          obtain ⟨u_6, hu⟩ : ∃ z, z = u := ⟨_, rfl⟩
          subst hu
          refine J_if_ne C 67 69 dX5_readClause_64 rfl rfl (fun c => ?_) (fun c => ?_)
          · have h := h.1 c
            refine J_aload_n C 70 dX5_readClause_69 rfl rfl ?_
            refine J_get C 73 5 inlX5 0 0 rfl rfl (by decide) wd88 rfl rfl dX5_readClause_70 rfl ?_
            refine J_aload_n C 74 dX5_readClause_73 rfl rfl ?_
            refine J_get C 77 5 inlX5 0 2 rfl rfl (by decide) wd483 rfl rfl dX5_readClause_74 rfl ?_
            refine J_iload_n C 78 dX5_readClause_77 rfl rfl ?_
            refine J_call1vSN (As := [.ref (r0 0), .int (v0.1 2), .int r_3]) C 81 (c_X8_put l D cI cJ cZ cS 30 (r0 0) (v0.2.2.1 0) (v0.1 2) r_3 _ h) wd83 (mi 59 rfl) wd2 wd82 hdX8_put ⟨Nat.le_of_ble_eq_true rfl, Nat.le_of_ble_eq_true rfl⟩ ⟨Nat.zero_le _, Nat.zero_le _⟩ rfl (Nat.le_of_ble_eq_true rfl) 1 rfl (fun u => .inl (cI, 30, .inl u)) (fun _ => rfl) (fun (u : (Nat → Int32)) => List.flatten [bX5 cI cJ cZ a0 r0 (setRA v0 0 u), bX7 cI cJ cZ a1 r1 u_6]) (fun _ => rfl) dX5_readClause_78 rfl (fun u h => ?_)
            obtain ⟨u_8, hu⟩ : ∃ z, z = u := ⟨_, rfl⟩
            subst hu
            obtain ⟨v0s_9, ev0s_9⟩ : ∃ z : Vl, z = setRA v0 0 u_8 := ⟨_, rfl⟩
            have h := h v0s_9 ev0s_9
            refine J_ws (ws' := List.flatten [bX5 cI cJ cZ a0 r0 v0s_9, bX7 cI cJ cZ a1 r1 u_6]) (by subst ev0s_9; rfl) ?_
            refine J_aload_n C 82 dX5_readClause_81 rfl rfl ?_
            refine J_get C 85 5 inlX5 0 1 rfl rfl (by decide) wd89 rfl rfl dX5_readClause_82 rfl ?_
            refine J_aload_n C 86 dX5_readClause_85 rfl rfl ?_
            refine J_get C 89 5 inlX5 0 2 rfl rfl (by decide) wd483 rfl rfl dX5_readClause_86 rfl ?_
            refine J_aload_n C 90 dX5_readClause_89 rfl rfl ?_
            refine J_getN C 93 7 inlX7 3 4 rfl rfl (by decide) (mi 41 rfl) rfl rfl dX5_readClause_90 rfl ?_
            refine J_call1vSN (As := [.ref (r0 1), .int (v0s_9.1 2), .int (u_6.1 4)]) C 96 (c_X8_put l D cI cJ cZ cS 30 (r0 1) (v0s_9.2.2.1 1) (v0s_9.1 2) (u_6.1 4) _ h) wd83 (mi 59 rfl) wd2 wd82 hdX8_put ⟨Nat.le_of_ble_eq_true rfl, Nat.le_of_ble_eq_true rfl⟩ ⟨Nat.zero_le _, Nat.zero_le _⟩ rfl (Nat.le_of_ble_eq_true rfl) 2 rfl (fun u => .inl (cI, 30, .inl u)) (fun _ => rfl) (fun (u : (Nat → Int32)) => List.flatten [bX5 cI cJ cZ a0 r0 (setRA v0s_9 1 u), bX7 cI cJ cZ a1 r1 u_6]) (fun _ => rfl) dX5_readClause_93 rfl (fun u h => ?_)
            obtain ⟨u_10, hu⟩ : ∃ z, z = u := ⟨_, rfl⟩
            subst hu
            obtain ⟨v0s_11, ev0s_11⟩ : ∃ z : Vl, z = setRA v0s_9 1 u_10 := ⟨_, rfl⟩
            have h := h v0s_11 ev0s_11
            refine J_ws (ws' := List.flatten [bX5 cI cJ cZ a0 r0 v0s_11, bX7 cI cJ cZ a1 r1 u_6]) (by subst ev0s_11; rfl) ?_
            refine J_aload_n C 97 dX5_readClause_96 rfl rfl ?_
            refine J_dup C 98 dX5_readClause_97 rfl rfl ?_
            refine J_get C 101 5 inlX5 0 2 rfl rfl (by decide) wd483 rfl rfl dX5_readClause_98 rfl ?_
            refine J_iconst C 102 dX5_readClause_101 rfl ki_1 ?_
            refine J_iadd C 103 dX5_readClause_102 rfl ?_
            obtain ⟨v0s_12, ev0s_12⟩ : ∃ z : Vl, z = setI v0s_11 2 ((v0s_11.1 2) + 1) := ⟨_, rfl⟩
            have h := h v0s_12 ev0s_12
            refine J_put C 106 5 inlX5 tyX5 tyX5_ok nmX5 0 2 rfl rfl (by decide) wd483 rfl rfl rfl rfl rfl (List.flatten [bX5 cI cJ cZ a0 r0 v0s_12, bX7 cI cJ cZ a1 r1 u_6]) (by subst ev0s_12; rfl) dX5_readClause_103 rfl ?_
            refine J_aload_n C 107 dX5_readClause_106 rfl rfl ?_
            refine J_dup C 108 dX5_readClause_107 rfl rfl ?_
            refine J_get C 111 5 inlX5 0 3 rfl rfl (by decide) wd484 rfl rfl dX5_readClause_108 rfl ?_
            refine J_aload_n C 112 dX5_readClause_111 rfl rfl ?_
            refine J_getN C 115 7 inlX7 3 4 rfl rfl (by decide) (mi 41 rfl) rfl rfl dX5_readClause_112 rfl ?_
            refine J_iadd C 116 dX5_readClause_115 rfl ?_
            obtain ⟨v0s_13, ev0s_13⟩ : ∃ z : Vl, z = setI v0s_12 3 ((v0s_12.1 3) + (u_6.1 4)) := ⟨_, rfl⟩
            have h := h v0s_13 ev0s_13
            refine J_put C 119 5 inlX5 tyX5 tyX5_ok nmX5 0 3 rfl rfl (by decide) wd484 rfl rfl rfl rfl rfl (List.flatten [bX5 cI cJ cZ a0 r0 v0s_13, bX7 cI cJ cZ a1 r1 u_6]) (by subst ev0s_13; rfl) dX5_readClause_116 rfl ?_
            refine J_iconst C 120 dX5_readClause_119 rfl ki_1 ?_
            exact J_zret C hr hk rfl (v0s_13, u_6) rfl dX5_readClause_120 h
          · have h := h.2 c
            refine J_iconst C 68 dX5_readClause_67 rfl ki_0 ?_
            exact J_zret C hr hk rfl (v0, u_6) rfl dX5_readClause_68 h
      · have h := h.2 c
        refine J_aload_n C 39 dX5_readClause_38 rfl rfl ?_
        refine J_iconst C 40 dX5_readClause_39 rfl ki_3 ?_
        refine J_aload_n C 41 dX5_readClause_40 rfl rfl ?_
        refine J_getN C 44 7 inlX7 3 3 rfl rfl (by decide) (mi 40 rfl) rfl rfl dX5_readClause_41 rfl ?_
        refine J_callBiV (Bs := [bX5 cI cJ cZ a0 r0 v0, bX7 cI cJ cZ a1 r1 u_1]) (As := [.int 3, .int (u_1.1 3)]) C 47 (c_X7_fail l D cI cJ cZ cS a1 r1 u_1 3 (u_1.1 3) _ h) wd267 wd498 wd15 wd265 wd266 7 0 rfl rfl rfl hdX7_fail ⟨Nat.le_of_ble_eq_true rfl, Nat.le_of_ble_eq_true rfl⟩ ⟨Nat.zero_le _, Nat.zero_le _⟩ rfl (Nat.le_of_ble_eq_true rfl) [1] [0] 2 rfl (by decide +kernel) rfl rfl (fun (u : Vl) => [bX7 cI cJ cZ a1 r1 u]) (fun _ => rfl) [1, 0] (by decide +kernel) (fun _ => rfl) rfl (fun (u : Vl) => [bX5 cI cJ cZ a0 r0 v0, bX7 cI cJ cZ a1 r1 u]) (fun _ => rfl) dX5_readClause_44 rfl (fun r_15 u h => ?_)
        obtain ⟨u_14, hu⟩ : ∃ z, z = u := ⟨_, rfl⟩
        subst hu
        obtain ⟨hz, h⟩ := h
        exact J_zret C hr hk hz (v0, u_14) rfl dX5_readClause_47 h
    · have h := h.2 c
      refine J_aload_n C 20 dX5_readClause_19 rfl rfl ?_
      refine J_iconst C 21 dX5_readClause_20 rfl ki_1 ?_
      refine J_aload_n C 22 dX5_readClause_21 rfl rfl ?_
      refine J_getN C 25 7 inlX7 3 3 rfl rfl (by decide) (mi 40 rfl) rfl rfl dX5_readClause_22 rfl ?_
      refine J_callBiV (Bs := [bX5 cI cJ cZ a0 r0 v0, bX7 cI cJ cZ a1 r1 u_1]) (As := [.int 1, .int (u_1.1 3)]) C 28 (c_X7_fail l D cI cJ cZ cS a1 r1 u_1 1 (u_1.1 3) _ h) wd267 wd498 wd15 wd265 wd266 7 0 rfl rfl rfl hdX7_fail ⟨Nat.le_of_ble_eq_true rfl, Nat.le_of_ble_eq_true rfl⟩ ⟨Nat.zero_le _, Nat.zero_le _⟩ rfl (Nat.le_of_ble_eq_true rfl) [1] [0] 2 rfl (by decide +kernel) rfl rfl (fun (u : Vl) => [bX7 cI cJ cZ a1 r1 u]) (fun _ => rfl) [1, 0] (by decide +kernel) (fun _ => rfl) rfl (fun (u : Vl) => [bX5 cI cJ cZ a0 r0 v0, bX7 cI cJ cZ a1 r1 u]) (fun _ => rfl) dX5_readClause_25 rfl (fun r_17 u h => ?_)
      obtain ⟨u_16, hu⟩ : ∃ z, z = u := ⟨_, rfl⟩
      subst hu
      obtain ⟨hz, h⟩ := h
      exact J_zret C hr hk hz (v0, u_16) rfl dX5_readClause_28 h
  · have h := h.2 c
    refine J_iconst C 8 dX5_readClause_7 rfl ki_0 ?_
    exact J_zret C hr hk rfl (v0, u_1) rfl dX5_readClause_8 h
def wp_X5_readFrom_c16  (Q : Int32 → Vl → Vl → Prop) : Nat → Vl → Vl → Int32 → Prop
  | 0 => fun _ _ _ => False
  | n + 1 => fun v0 v1 y2 => ((500 < y2 → Q 1 v0 v1) ∧ (¬ 500 < y2 → wp_X7_isAtEnd v1 (fun r_5 u_4 => ((r_5 = 0 → wp_X5_readClause v0 u_4 (fun r_8 u_6 u_7 => ((¬ r_8 = 0 → ∀ x_9 : Int32, x_9 = y2 + 1 → wp_X5_readFrom_c16  Q n u_6 u_7 x_9) ∧ (r_8 = 0 → Q 0 u_6 u_7)))) ∧ (¬ r_5 = 0 → Q 1 v0 u_4)))))
set_option maxHeartbeats 4000000 in
set_option maxRecDepth 100000 in
theorem wk_X5_readFrom_c16 {p : Program} {l : Launch} {e : Env} {s : State} {m : MethodId} {args : Array Value} {below : List Frame} {meth : Method} {c : Code} {D : GG} {A : Nat → Prop} {cI cJ cZ cS : ClassId} {a0 : Nat} {r0 : Nat → Nat} {a1 : Nat} {r1 : Nat → Nat}  {Q : Int32 → Vl → Vl → Prop} (C : Cx p s m args c D (tyL cI cJ cZ cS) A RX5 cX5_readFrom 3) (hr : meth.sig.returnType = some .boolean) (hk : meth.locks = false) : ∀ (n : Nat) (v0 : Vl) (v1 : Vl) (y2 : Int32), wp_X5_readFrom_c16  Q n v0 v1 y2 → J p l e (rmk 7 150) s m args below meth c D A 3 0 0 (MQ below (va_Qi (fun (r : Int32) (u : Vl × Vl) => Q r u.1 u.2) (fun u t => va_P D.1 vwCl ((fun (u : Vl × Vl) => List.flatten [bX5 cI cJ cZ a0 r0 u.1, bX7 cI cJ cZ a1 r1 u.2]) u) t.heap ∧ va_D A ((fun (u : Vl × Vl) => List.flatten [bX5 cI cJ cZ a0 r0 u.1, bX7 cI cJ cZ a1 r1 u.2]) u)) A) args s 0 0 A) 16 [(0, .ref a0), (1, .ref a1), (2, .int y2)] [] (List.flatten [bX5 cI cJ cZ a0 r0 v0, bX7 cI cJ cZ a1 r1 v1]) := by
  intro n
  induction n with
  | zero =>
    intro v0 v1 y2 h
    exact False.elim h
  | succ n ih =>
    intro v0 v1 y2 h
    refine J_iload_n C 17 dX5_readFrom_16 rfl rfl ?_
    refine J_sipush C 20 dX5_readFrom_17 rfl ks_500 ?_
    refine J_icmp_gt C 23 48 dX5_readFrom_20 rfl rfl (fun c => ?_) (fun c => ?_)
    · have h := h.1 c
      refine J_iconst C 49 dX5_readFrom_48 rfl ki_1 ?_
      exact J_zret C hr hk rfl (v0, v1) rfl dX5_readFrom_49 h
    · have h := h.2 c
      refine J_aload_n C 24 dX5_readFrom_23 rfl rfl ?_
      refine J_callBiV (Bs := [bX5 cI cJ cZ a0 r0 v0, bX7 cI cJ cZ a1 r1 v1]) (As := []) C 27 (c_X7_isAtEnd l D cI cJ cZ cS a1 r1 v1 _ h) wd243 wd486 wd15 wd241 wd242 7 0 rfl rfl rfl hdX7_isAtEnd ⟨Nat.le_of_ble_eq_true rfl, Nat.le_of_ble_eq_true rfl⟩ ⟨Nat.zero_le _, Nat.zero_le _⟩ rfl (Nat.le_of_ble_eq_true rfl) [1] [0] 2 rfl (by decide +kernel) rfl rfl (fun (u : Vl) => [bX7 cI cJ cZ a1 r1 u]) (fun _ => rfl) [1, 0] (by decide +kernel) (fun _ => rfl) rfl (fun (u : Vl) => [bX5 cI cJ cZ a0 r0 v0, bX7 cI cJ cZ a1 r1 u]) (fun _ => rfl) dX5_readFrom_24 rfl (fun r_5 u h => ?_)
      obtain ⟨u_4, hu⟩ : ∃ z, z = u := ⟨_, rfl⟩
      subst hu
      refine J_if_eq C 30 32 dX5_readFrom_27 rfl rfl (fun c => ?_) (fun c => ?_)
      · have h := h.1 c
        refine J_aload_n C 33 dX5_readFrom_32 rfl rfl ?_
        refine J_aload_n C 34 dX5_readFrom_33 rfl rfl ?_
        refine J_callBiV (Bs := [bX5 cI cJ cZ a0 r0 v0, bX7 cI cJ cZ a1 r1 u_4]) (As := [.ref a1]) C 37 (c_X5_readClause l D cI cJ cZ cS a0 r0 v0 a1 r1 u_4 _ h) wd490 wd487 wd24 wd488 wd489 5 0 rfl rfl rfl hdX5_readClause ⟨Nat.le_of_ble_eq_true rfl, Nat.le_of_ble_eq_true rfl⟩ ⟨Nat.zero_le _, Nat.zero_le _⟩ rfl (Nat.le_of_ble_eq_true rfl) [0, 1] [] 2 rfl (by decide +kernel) rfl rfl (fun (u : Vl × Vl) => [bX5 cI cJ cZ a0 r0 u.1, bX7 cI cJ cZ a1 r1 u.2]) (fun _ => rfl) [0, 1] (by decide +kernel) (fun _ => rfl) rfl (fun (u : Vl × Vl) => [bX5 cI cJ cZ a0 r0 u.1, bX7 cI cJ cZ a1 r1 u.2]) (fun _ => rfl) dX5_readFrom_34 rfl (fun r_8 u h => ?_)
        obtain ⟨u_6, u_7⟩ := u
        refine J_if_ne C 40 42 dX5_readFrom_37 rfl rfl (fun c => ?_) (fun c => ?_)
        · have h := h.1 c
          obtain ⟨x_9, ex_9⟩ : ∃ z : Int32, z = y2 + 1 := ⟨_, rfl⟩
          have h := h x_9 ex_9
          refine J_iinc C 45 [(2, .int x_9), (0, .ref a0), (1, .ref a1)] dX5_readFrom_42 rfl rfl ((kinc_1 _).trans ex_9.symm) (by decide) rfl ?_
          refine J_goto C 16 dX5_readFrom_45 rfl ?_
          refine J_loc [1, 2, 0] rfl ?_
          exact ih u_6 u_7 x_9 h
        · have h := h.2 c
          refine J_iconst C 41 dX5_readFrom_40 rfl ki_0 ?_
          exact J_zret C hr hk rfl (u_6, u_7) rfl dX5_readFrom_41 h
      · have h := h.2 c
        refine J_iconst C 31 dX5_readFrom_30 rfl ki_1 ?_
        exact J_zret C hr hk rfl (v0, u_4) rfl dX5_readFrom_31 h
def wp_X5_readFrom (v0 : Vl) (v1 : Vl)  (Q : Int32 → Vl → Vl → Prop) : Prop := ∀ v0s_1 : Vl, v0s_1 = setI v0 2 0 → ∀ v0s_2 : Vl, v0s_2 = setI v0s_1 3 0 → wp_X7_startReading v1 (fun u_3 => (∃ k : Nat, wp_X5_readFrom_c16  Q k v0s_2 u_3 0))
set_option maxHeartbeats 4000000 in
set_option maxRecDepth 100000 in
theorem c_X5_readFrom (l : Launch) (D : GG) (cI cJ cZ cS : ClassId) (a0 : Nat) (r0 : Nat → Nat) (v0 : Vl) (a1 : Nat) (r1 : Nat → Nat) (v1 : Vl)  (Q : Int32 → Vl → Vl → Prop) (h : wp_X5_readFrom v0 v1 Q) : Mi l D (tyL cI cJ cZ cS) yX5_readFrom cX5_readFrom 3 .boolean 7 150 [.ref a0, .ref a1] (List.flatten [bX5 cI cJ cZ a0 r0 v0, bX7 cI cJ cZ a1 r1 v1]) (fun (r : Int32) (u : Vl × Vl) => Q r u.1 u.2) (fun (u : Vl × Vl) => List.flatten [bX5 cI cJ cZ a0 r0 u.1, bX7 cI cJ cZ a1 r1 u.2]) := by
  refine Mi_of RX5 [(0, .ref a0), (1, .ref a1)] (by decide +kernel) rfl rfl (Nat.le_of_ble_eq_true rfl) ?_
  intro p e s m args below meth c A C hr hk
  refine J_aload_n C 1 dX5_readFrom_0 rfl rfl ?_
  refine J_iconst C 2 dX5_readFrom_1 rfl ki_0 ?_
  obtain ⟨v0s_1, ev0s_1⟩ : ∃ z : Vl, z = setI v0 2 0 := ⟨_, rfl⟩
  have h := h v0s_1 ev0s_1
  refine J_put C 5 5 inlX5 tyX5 tyX5_ok nmX5 0 2 rfl rfl (by decide) wd483 rfl rfl rfl rfl rfl (List.flatten [bX5 cI cJ cZ a0 r0 v0s_1, bX7 cI cJ cZ a1 r1 v1]) (by subst ev0s_1; rfl) dX5_readFrom_2 rfl ?_
  refine J_aload_n C 6 dX5_readFrom_5 rfl rfl ?_
  refine J_iconst C 7 dX5_readFrom_6 rfl ki_0 ?_
  obtain ⟨v0s_2, ev0s_2⟩ : ∃ z : Vl, z = setI v0s_1 3 0 := ⟨_, rfl⟩
  have h := h v0s_2 ev0s_2
  refine J_put C 10 5 inlX5 tyX5 tyX5_ok nmX5 0 3 rfl rfl (by decide) wd484 rfl rfl rfl rfl rfl (List.flatten [bX5 cI cJ cZ a0 r0 v0s_2, bX7 cI cJ cZ a1 r1 v1]) (by subst ev0s_2; rfl) dX5_readFrom_7 rfl ?_
  refine J_aload_n C 11 dX5_readFrom_10 rfl rfl ?_
  refine J_callBvV (Bs := [bX5 cI cJ cZ a0 r0 v0s_2, bX7 cI cJ cZ a1 r1 v1]) (As := []) C 14 (c_X7_startReading l D cI cJ cZ cS a1 r1 v1 _ h) wd237 wd485 wd15 wd235 wd236 7 0 rfl rfl rfl hdX7_startReading ⟨Nat.le_of_ble_eq_true rfl, Nat.le_of_ble_eq_true rfl⟩ ⟨Nat.zero_le _, Nat.zero_le _⟩ rfl (Nat.le_of_ble_eq_true rfl) [1] [0] 2 rfl (by decide +kernel) rfl rfl (fun (u : Vl) => [bX7 cI cJ cZ a1 r1 u]) (fun _ => rfl) [1, 0] (by decide +kernel) (fun _ => rfl) rfl (fun (u : Vl) => [bX5 cI cJ cZ a0 r0 v0s_2, bX7 cI cJ cZ a1 r1 u]) (fun _ => rfl) dX5_readFrom_11 rfl (fun u h => ?_)
  obtain ⟨u_3, hu⟩ : ∃ z, z = u := ⟨_, rfl⟩
  subst hu
  refine J_iconst C 15 dX5_readFrom_14 rfl ki_0 ?_
  refine J_istore_n C 16 [(2, .int 0), (0, .ref a0), (1, .ref a1)] dX5_readFrom_15 rfl (by decide) rfl ?_
  refine J_loc [1, 2, 0] rfl ?_
  obtain ⟨n1, h⟩ := h
  exact wk_X5_readFrom_c16 C hr hk n1 v0s_2 u_3 0 h
