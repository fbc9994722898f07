def wp_X9_pour (v0 : Vl) (x1 : Int32) (Q : Int32 → Vl → Prop) : Prop := wp_X9_in (Int32.toInt64 x1) 0 999 (fun r_1 => ((¬ r_1 = 0 → (((v0.1 21) = 0 → wp_X9_lesser (Int32.toInt64 x1) (v0.2.1 17) (fun r_2 => wp_X9_lesser r_2 (Int32.toInt64 ((v0.1 3) - (v0.1 22))) (fun r_3 => ∀ x_4 : Int32, x_4 = (Int64.toInt32 r_3) → ∀ v0s_5 : Vl, v0s_5 = setJ v0 17 ((v0.2.1 17) - (Int32.toInt64 x_4)) → ∀ v0s_6 : Vl, v0s_6 = setI v0s_5 22 ((v0s_5.1 22) + x_4) → Q x_4 v0s_6))) ∧ (¬ (v0.1 21) = 0 → Q (-1000000003) v0))) ∧ (r_1 = 0 → Q (-1000000002) v0)))
set_option maxHeartbeats 4000000 in
set_option maxRecDepth 100000 in
theorem c_X9_pour (l : Launch) (D : GG) (cI cJ cZ cS : ClassId) (a0 : Nat) (r0 : Nat → Nat) (v0 : Vl) (x1 : Int32) (Q : Int32 → Vl → Prop) (h : wp_X9_pour v0 x1 Q) : Mi l D (tyL cI cJ cZ cS) yX9_pour cX9_pour 3 .int 1 25 [.ref a0, .int x1] (List.flatten [bX9 cI cJ cZ a0 r0 v0]) (fun (r : Int32) (u : Vl) => Q r u) (fun (u : Vl) => List.flatten [bX9 cI cJ cZ a0 r0 u]) := by
  refine Mi_of RX9 [(0, .ref a0), (1, .int x1)] (by decide +kernel) rfl rfl (Nat.le_of_ble_eq_true rfl) ?_
  intro p e s m args below meth c A C hr hk
  refine J_iload_n C 1 dX9_pour_0 rfl rfl ?_
  refine J_i2l C 2 dX9_pour_1 rfl ?_
  refine J_lconst C 3 dX9_pour_2 rfl kl_0 ?_
  refine J_ldc2 C 6 wd754 dX9_pour_3 rfl ?_
  refine J_callBiS (Bs := [bX9 cI cJ cZ a0 r0 v0]) (As := [.long (Int32.toInt64 x1), .long 0, .long 999]) C 9 (c_X9_in l D cI cJ cZ cS (Int32.toInt64 x1) 0 999 _ h) wd225 wd223 wd5 wd224 hdX9_in ⟨Nat.le_of_ble_eq_true rfl, Nat.le_of_ble_eq_true rfl⟩ ⟨Nat.zero_le _, Nat.zero_le _⟩ rfl (Nat.le_of_ble_eq_true rfl) [] [0] 1 rfl (by decide +kernel) rfl rfl (fun (u : Unit) => ([] : List va_W)) (fun _ => rfl) [0] (by decide +kernel) (fun _ => rfl) rfl (fun (u : Unit) => [bX9 cI cJ cZ a0 r0 v0]) (fun _ => rfl) dX9_pour_6 rfl (fun r_1 u h => ?_)
  refine J_if_ne C 12 15 dX9_pour_9 rfl rfl (fun c => ?_) (fun c => ?_)
  · have h := h.1 c
    refine J_aload_n C 16 dX9_pour_15 rfl rfl ?_
    refine J_get C 19 9 inlX9 0 21 rfl rfl (by decide) wd196 rfl rfl dX9_pour_16 rfl ?_
    refine J_if_eq C 22 26 dX9_pour_19 rfl rfl (fun c => ?_) (fun c => ?_)
    · have h := h.1 c
      refine J_iload_n C 27 dX9_pour_26 rfl rfl ?_
      refine J_i2l C 28 dX9_pour_27 rfl ?_
      refine J_aload_n C 29 dX9_pour_28 rfl rfl ?_
      refine J_get C 32 9 inlX9 0 17 rfl rfl (by decide) wd192 rfl rfl dX9_pour_29 rfl ?_
      refine J_callBlS (Bs := [bX9 cI cJ cZ a0 r0 v0]) (As := [.long (Int32.toInt64 x1), .long (v0.2.1 17)]) C 35 (c_X9_lesser l D cI cJ cZ cS (Int32.toInt64 x1) (v0.2.1 17) _ h) wd698 wd696 wd5 wd697 hdX9_lesser ⟨Nat.le_of_ble_eq_true rfl, Nat.le_of_ble_eq_true rfl⟩ ⟨Nat.zero_le _, Nat.zero_le _⟩ rfl (Nat.le_of_ble_eq_true rfl) [] [0] 1 rfl (by decide +kernel) rfl rfl (fun (u : Unit) => ([] : List va_W)) (fun _ => rfl) [0] (by decide +kernel) (fun _ => rfl) rfl (fun (u : Unit) => [bX9 cI cJ cZ a0 r0 v0]) (fun _ => rfl) dX9_pour_32 rfl (fun r_2 u h => ?_)
      refine J_aload_n C 36 dX9_pour_35 rfl rfl ?_
      refine J_get C 39 9 inlX9 0 3 rfl rfl (by decide) wd154 rfl rfl dX9_pour_36 rfl ?_
      refine J_aload_n C 40 dX9_pour_39 rfl rfl ?_
      refine J_get C 43 9 inlX9 0 22 rfl rfl (by decide) wd197 rfl rfl dX9_pour_40 rfl ?_
      refine J_isub C 44 dX9_pour_43 rfl ?_
      refine J_i2l C 45 dX9_pour_44 rfl ?_
      refine J_callBlS (Bs := [bX9 cI cJ cZ a0 r0 v0]) (As := [.long r_2, .long (Int32.toInt64 ((v0.1 3) - (v0.1 22)))]) C 48 (c_X9_lesser l D cI cJ cZ cS r_2 (Int32.toInt64 ((v0.1 3) - (v0.1 22))) _ h) wd698 wd696 wd5 wd697 hdX9_lesser ⟨Nat.le_of_ble_eq_true rfl, Nat.le_of_ble_eq_true rfl⟩ ⟨Nat.zero_le _, Nat.zero_le _⟩ rfl (Nat.le_of_ble_eq_true rfl) [] [0] 1 rfl (by decide +kernel) rfl rfl (fun (u : Unit) => ([] : List va_W)) (fun _ => rfl) [0] (by decide +kernel) (fun _ => rfl) rfl (fun (u : Unit) => [bX9 cI cJ cZ a0 r0 v0]) (fun _ => rfl) dX9_pour_45 rfl (fun r_3 u h => ?_)
      refine J_l2i C 49 dX9_pour_48 rfl ?_
      obtain ⟨x_4, ex_4⟩ : ∃ z : Int32, z = (Int64.toInt32 r_3) := ⟨_, rfl⟩
      have h := h x_4 ex_4
      refine J_nmi ex_4 ?_
      refine J_istore_n C 50 [(2, .int x_4), (0, .ref a0), (1, .int x1)] dX9_pour_49 rfl (by decide) rfl ?_
      refine J_aload_n C 51 dX9_pour_50 rfl rfl ?_
      refine J_dup C 52 dX9_pour_51 rfl rfl ?_
      refine J_get C 55 9 inlX9 0 17 rfl rfl (by decide) wd192 rfl rfl dX9_pour_52 rfl ?_
      refine J_iload_n C 56 dX9_pour_55 rfl rfl ?_
      refine J_i2l C 57 dX9_pour_56 rfl ?_
      refine J_lsub C 58 dX9_pour_57 rfl ?_
      obtain ⟨v0s_5, ev0s_5⟩ : ∃ z : Vl, z = setJ v0 17 ((v0.2.1 17) - (Int32.toInt64 x_4)) := ⟨_, rfl⟩
      have h := h v0s_5 ev0s_5
      refine J_put C 61 9 inlX9 tyX9 tyX9_ok nmX9 0 17 rfl rfl (by decide) wd192 rfl rfl rfl rfl rfl (List.flatten [bX9 cI cJ cZ a0 r0 v0s_5]) (by subst ev0s_5; rfl) dX9_pour_58 rfl ?_
      refine J_aload_n C 62 dX9_pour_61 rfl rfl ?_
      refine J_dup C 63 dX9_pour_62 rfl rfl ?_
      refine J_get C 66 9 inlX9 0 22 rfl rfl (by decide) wd197 rfl rfl dX9_pour_63 rfl ?_
      refine J_iload_n C 67 dX9_pour_66 rfl rfl ?_
      refine J_iadd C 68 dX9_pour_67 rfl ?_
      obtain ⟨v0s_6, ev0s_6⟩ : ∃ z : Vl, z = setI v0s_5 22 ((v0s_5.1 22) + x_4) := ⟨_, rfl⟩
      have h := h v0s_6 ev0s_6
      refine J_put C 71 9 inlX9 tyX9 tyX9_ok nmX9 0 22 rfl rfl (by decide) wd197 rfl rfl rfl rfl rfl (List.flatten [bX9 cI cJ cZ a0 r0 v0s_6]) (by subst ev0s_6; rfl) dX9_pour_68 rfl ?_
      refine J_iload_n C 72 dX9_pour_71 rfl rfl ?_
      exact J_iret C hr hk v0s_6 rfl dX9_pour_72 h
    · have h := h.2 c
      refine J_ldcw C 25 wd505 dX9_pour_22 rfl ?_
      exact J_iret C hr hk v0 rfl dX9_pour_25 h
  · have h := h.2 c
    refine J_ldc C 14 wd219 dX9_pour_12 rfl ?_
    exact J_iret C hr hk v0 rfl dX9_pour_14 h
def wp_X9_begin (v0 : Vl)  (Q : Int32 → Vl → Prop) : Prop := ∀ x_1 : Int32, x_1 = (v0.1 24) → wp_X9_anew v0 (fun u_2 => Q x_1 u_2)
set_option maxHeartbeats 4000000 in
set_option maxRecDepth 100000 in
theorem c_X9_begin (l : Launch) (D : GG) (cI cJ cZ cS : ClassId) (a0 : Nat) (r0 : Nat → Nat) (v0 : Vl)  (Q : Int32 → Vl → Prop) (h : wp_X9_begin v0 Q) : Mi l D (tyL cI cJ cZ cS) yX9_begin cX9_begin 2 .int 1 21 [.ref a0] (List.flatten [bX9 cI cJ cZ a0 r0 v0]) (fun (r : Int32) (u : Vl) => Q r u) (fun (u : Vl) => List.flatten [bX9 cI cJ cZ a0 r0 u]) := by
  refine Mi_of RX9 [(0, .ref a0)] (by decide +kernel) rfl rfl (Nat.le_of_ble_eq_true rfl) ?_
  intro p e s m args below meth c A C hr hk
  refine J_aload_n C 1 dX9_begin_0 rfl rfl ?_
  refine J_get C 4 9 inlX9 0 24 rfl rfl (by decide) wd198 rfl rfl dX9_begin_1 rfl ?_
  obtain ⟨x_1, ex_1⟩ : ∃ z : Int32, z = (v0.1 24) := ⟨_, rfl⟩
  have h := h x_1 ex_1
  refine J_nmi ex_1 ?_
  refine J_istore_n C 5 [(1, .int x_1), (0, .ref a0)] dX9_begin_4 rfl (by decide) rfl ?_
  refine J_aload_n C 6 dX9_begin_5 rfl rfl ?_
  refine J_callBvV (Bs := [bX9 cI cJ cZ a0 r0 v0]) (As := []) C 9 (c_X9_anew l D cI cJ cZ cS a0 r0 v0 _ h) wd190 wd187 wd5 wd188 wd189 9 0 rfl rfl rfl hdX9_anew ⟨Nat.le_of_ble_eq_true rfl, Nat.le_of_ble_eq_true rfl⟩ ⟨Nat.zero_le _, Nat.zero_le _⟩ rfl (Nat.le_of_ble_eq_true rfl) [0] [] 1 rfl (by decide +kernel) rfl rfl (fun (u : Vl) => [bX9 cI cJ cZ a0 r0 u]) (fun _ => rfl) [0] (by decide +kernel) (fun _ => rfl) rfl (fun (u : Vl) => [bX9 cI cJ cZ a0 r0 u]) (fun _ => rfl) dX9_begin_6 rfl (fun u h => ?_)
  obtain ⟨u_2, hu⟩ : ∃ z, z = u := ⟨_, rfl⟩
  subst hu
  refine J_iload_n C 10 dX9_begin_9 rfl rfl ?_
  exact J_iret C hr hk u_2 rfl dX9_begin_10 h
def wp_X9_save_c275  (Q : Vl → Prop) : Nat → Vl → Int32 → Int32 → Prop
  | 0 => fun _ _ _ => False
  | n + 1 => fun v0 y2 y3 => ((360 ≤ y3 → Q v0) ∧ (¬ 360 ≤ y3 → vp_in y3 360 ∧ (vp_in ((y2 + 50) + y3) 1230 ∧ (∀ v0s_15 : Vl, v0s_15 = setB v0 49 (Int32.toNatClampNeg ((y2 + 50) + y3)) (Int32.toInt64 (v0.2.2.1 29 (Int32.toNatClampNeg y3))) → ∀ x_16 : Int32, x_16 = y3 + 1 → wp_X9_save_c275  Q n v0s_15 y2 x_16))))
set_option maxHeartbeats 4000000 in
set_option maxRecDepth 100000 in
theorem wk_X9_save_c275 {p : Program} {l : Launch} {e : Env} {s : State} {m : MethodId} {args : Array Value} {below : List Frame} {meth : Method} {c : Code} {D : GG} {A : Nat → Prop} {cI cJ cZ cS : ClassId} {a0 : Nat} {r0 : Nat → Nat}  {Q : Vl → Prop} (C : Cx p s m args c D (tyL cI cJ cZ cS) A RX9 cX9_save 4) (hr : meth.sig.returnType = none) (hk : meth.locks = false) : ∀ (n : Nat) (v0 : Vl) (y2 : Int32) (y3 : Int32), wp_X9_save_c275  Q n v0 y2 y3 → J p l e (rmk 0 0) s m args below meth c D A 4 0 0 (MQ below (va_Qv (fun (u : Vl) => Q u) (fun u t => va_P D.1 vwCl ((fun (u : Vl) => List.flatten [bX9 cI cJ cZ a0 r0 u]) u) t.heap ∧ va_D A ((fun (u : Vl) => List.flatten [bX9 cI cJ cZ a0 r0 u]) u)) A) args s 0 0 A) 275 [(0, .ref a0), (2, .int y2), (3, .int y3)] [] (List.flatten [bX9 cI cJ cZ a0 r0 v0]) := by
  intro n
  induction n with
  | zero =>
    intro v0 y2 y3 h
    exact False.elim h
  | succ n ih =>
    intro v0 y2 y3 h
    refine J_iload_n C 276 dX9_save_275 rfl rfl ?_
    refine J_sipush C 279 dX9_save_276 rfl ks_360 ?_
    refine J_icmp_ge C 282 306 dX9_save_279 rfl rfl (fun c => ?_) (fun c => ?_)
    · have h := h.1 c
      exact J_vret C hr hk v0 rfl dX9_save_306 h
    · have h := h.2 c
      refine J_aload_n C 283 dX9_save_282 rfl rfl ?_
      refine J_get C 286 9 inlX9 0 49 rfl rfl (by decide) wd176 rfl rfl dX9_save_283 rfl ?_
      refine J_iload_n C 287 dX9_save_286 rfl rfl ?_
      refine J_bipush C 289 dX9_save_287 rfl kb_50 ?_
      refine J_iadd C 290 dX9_save_289 rfl ?_
      refine J_iload_n C 291 dX9_save_290 rfl rfl ?_
      refine J_iadd C 292 dX9_save_291 rfl ?_
      refine J_aload_n C 293 dX9_save_292 rfl rfl ?_
      refine J_get C 296 9 inlX9 0 29 rfl rfl (by decide) wd167 rfl rfl dX9_save_293 rfl ?_
      refine J_iload_n C 297 dX9_save_296 rfl rfl ?_
      obtain ⟨hi, h⟩ := h
      refine J_iald C 298 10 0 rfl rfl hi dX9_save_297 rfl ?_
      refine J_i2l C 299 dX9_save_298 rfl ?_
      obtain ⟨hi, h⟩ := h
      obtain ⟨v0s_15, ev0s_15⟩ : ∃ z : Vl, z = setB v0 49 (Int32.toNatClampNeg ((y2 + 50) + y3)) (Int32.toInt64 (v0.2.2.1 29 (Int32.toNatClampNeg y3))) := ⟨_, rfl⟩
      have h := h v0s_15 ev0s_15
      refine J_last C 300 18 1 rfl rfl hi (List.flatten [bX9 cI cJ cZ a0 r0 v0s_15]) (by subst ev0s_15; rfl) dX9_save_299 rfl ?_
      obtain ⟨x_16, ex_16⟩ : ∃ z : Int32, z = y3 + 1 := ⟨_, rfl⟩
      have h := h x_16 ex_16
      refine J_iinc C 303 [(3, .int x_16), (0, .ref a0), (2, .int y2)] dX9_save_300 rfl rfl ((kinc_1 _).trans ex_16.symm) (by decide) rfl ?_
      refine J_goto C 275 dX9_save_303 rfl ?_
      refine J_loc [1, 2, 0] rfl ?_
      exact ih v0s_15 y2 x_16 h
def wp_X9_save_c53  (Q : Vl → Prop) (B8 : Vl → Int32 → Int32 → Prop) (v0 : Vl) (y2 : Int32) (y3 : Int32) (s0 : Int64) (s1 : Int32) : Prop := vp_in s1 1230 ∧ (∀ v0s_18 : Vl, v0s_18 = setB v0 49 (Int32.toNatClampNeg s1) s0 → vp_in y3 9 ∧ (vp_in ((y2 + 18) + y3) 1230 ∧ (∀ v0s_19 : Vl, v0s_19 = setB v0s_18 49 (Int32.toNatClampNeg ((y2 + 18) + y3)) (Int32.toInt64 (v0s_18.2.2.1 15 (Int32.toNatClampNeg y3))) → vp_in y3 9 ∧ (vp_in ((y2 + 27) + y3) 1230 ∧ (∀ v0s_20 : Vl, v0s_20 = setB v0s_19 49 (Int32.toNatClampNeg ((y2 + 27) + y3)) (Int32.toInt64 (v0s_19.2.2.1 16 (Int32.toNatClampNeg y3))) → ∀ x_21 : Int32, x_21 = y3 + 1 → B8 v0s_20 y2 x_21)))))
set_option maxHeartbeats 4000000 in
set_option maxRecDepth 100000 in
theorem wk_X9_save_c53 {p : Program} {l : Launch} {e : Env} {s : State} {m : MethodId} {args : Array Value} {below : List Frame} {meth : Method} {c : Code} {D : GG} {A : Nat → Prop} {cI cJ cZ cS : ClassId} {a0 : Nat} {r0 : Nat → Nat}  {B8 : Vl → Int32 → Int32 → Prop} {Q : Vl → Prop} (C : Cx p s m args c D (tyL cI cJ cZ cS) A RX9 cX9_save 4) (hr : meth.sig.returnType = none) (hk : meth.locks = false) (hB8 : ∀ (v0 : Vl) (y2 : Int32) (y3 : Int32), B8 v0 y2 y3 → J p l e (rmk 0 0) s m args below meth c D A 4 0 0 (MQ below (va_Qv (fun (u : Vl) => Q u) (fun u t => va_P D.1 vwCl ((fun (u : Vl) => List.flatten [bX9 cI cJ cZ a0 r0 u]) u) t.heap ∧ va_D A ((fun (u : Vl) => List.flatten [bX9 cI cJ cZ a0 r0 u]) u)) A) args s 0 0 A) 8 [(0, .ref a0), (2, .int y2), (3, .int y3)] [] (List.flatten [bX9 cI cJ cZ a0 r0 v0])) : ∀ (v0 : Vl) (y2 : Int32) (y3 : Int32) (s0 : Int64) (s1 : Int32), wp_X9_save_c53  Q B8 v0 y2 y3 s0 s1 → J p l e (rmk 0 0) s m args below meth c D A 4 0 0 (MQ below (va_Qv (fun (u : Vl) => Q u) (fun u t => va_P D.1 vwCl ((fun (u : Vl) => List.flatten [bX9 cI cJ cZ a0 r0 u]) u) t.heap ∧ va_D A ((fun (u : Vl) => List.flatten [bX9 cI cJ cZ a0 r0 u]) u)) A) args s 0 0 A) 53 [(0, .ref a0), (2, .int y2), (3, .int y3)] [.long s0, .int s1, .ref (r0 49)] (List.flatten [bX9 cI cJ cZ a0 r0 v0]) := by
  intro v0 y2 y3 s0 s1 h
  obtain ⟨hi, h⟩ := h
  obtain ⟨v0s_18, ev0s_18⟩ : ∃ z : Vl, z = setB v0 49 (Int32.toNatClampNeg s1) s0 := ⟨_, rfl⟩
  have h := h v0s_18 ev0s_18
  refine J_last C 54 18 1 rfl rfl hi (List.flatten [bX9 cI cJ cZ a0 r0 v0s_18]) (by subst ev0s_18; rfl) dX9_save_53 rfl ?_
  refine J_aload_n C 55 dX9_save_54 rfl rfl ?_
  refine J_get C 58 9 inlX9 0 49 rfl rfl (by decide) wd176 rfl rfl dX9_save_55 rfl ?_
  refine J_iload_n C 59 dX9_save_58 rfl rfl ?_
  refine J_bipush C 61 dX9_save_59 rfl kb_18 ?_
  refine J_iadd C 62 dX9_save_61 rfl ?_
  refine J_iload_n C 63 dX9_save_62 rfl rfl ?_
  refine J_iadd C 64 dX9_save_63 rfl ?_
  refine J_aload_n C 65 dX9_save_64 rfl rfl ?_
  refine J_get C 68 9 inlX9 0 15 rfl rfl (by decide) wd164 rfl rfl dX9_save_65 rfl ?_
  refine J_iload_n C 69 dX9_save_68 rfl rfl ?_
  obtain ⟨hi, h⟩ := h
  refine J_iald C 70 8 0 rfl rfl hi dX9_save_69 rfl ?_
  refine J_i2l C 71 dX9_save_70 rfl ?_
  obtain ⟨hi, h⟩ := h
  obtain ⟨v0s_19, ev0s_19⟩ : ∃ z : Vl, z = setB v0s_18 49 (Int32.toNatClampNeg ((y2 + 18) + y3)) (Int32.toInt64 (v0s_18.2.2.1 15 (Int32.toNatClampNeg y3))) := ⟨_, rfl⟩
  have h := h v0s_19 ev0s_19
  refine J_last C 72 18 1 rfl rfl hi (List.flatten [bX9 cI cJ cZ a0 r0 v0s_19]) (by subst ev0s_19; rfl) dX9_save_71 rfl ?_
  refine J_aload_n C 73 dX9_save_72 rfl rfl ?_
  refine J_get C 76 9 inlX9 0 49 rfl rfl (by decide) wd176 rfl rfl dX9_save_73 rfl ?_
  refine J_iload_n C 77 dX9_save_76 rfl rfl ?_
  refine J_bipush C 79 dX9_save_77 rfl kb_27 ?_
  refine J_iadd C 80 dX9_save_79 rfl ?_
  refine J_iload_n C 81 dX9_save_80 rfl rfl ?_
  refine J_iadd C 82 dX9_save_81 rfl ?_
  refine J_aload_n C 83 dX9_save_82 rfl rfl ?_
  refine J_get C 86 9 inlX9 0 16 rfl rfl (by decide) wd165 rfl rfl dX9_save_83 rfl ?_
  refine J_iload_n C 87 dX9_save_86 rfl rfl ?_
  obtain ⟨hi, h⟩ := h
  refine J_iald C 88 9 0 rfl rfl hi dX9_save_87 rfl ?_
  refine J_i2l C 89 dX9_save_88 rfl ?_
  obtain ⟨hi, h⟩ := h
  obtain ⟨v0s_20, ev0s_20⟩ : ∃ z : Vl, z = setB v0s_19 49 (Int32.toNatClampNeg ((y2 + 27) + y3)) (Int32.toInt64 (v0s_19.2.2.1 16 (Int32.toNatClampNeg y3))) := ⟨_, rfl⟩
  have h := h v0s_20 ev0s_20
  refine J_last C 90 18 1 rfl rfl hi (List.flatten [bX9 cI cJ cZ a0 r0 v0s_20]) (by subst ev0s_20; rfl) dX9_save_89 rfl ?_
  obtain ⟨x_21, ex_21⟩ : ∃ z : Int32, z = y3 + 1 := ⟨_, rfl⟩
  have h := h x_21 ex_21
  refine J_iinc C 93 [(3, .int x_21), (0, .ref a0), (2, .int y2)] dX9_save_90 rfl rfl ((kinc_1 _).trans ex_21.symm) (by decide) rfl ?_
  refine J_goto C 8 dX9_save_93 rfl ?_
  refine J_loc [1, 2, 0] rfl ?_
  exact hB8 v0s_20 y2 x_21 h
def wp_X9_save_c8  (Q : Vl → Prop) : Nat → Vl → Int32 → Int32 → Prop
  | 0 => fun _ _ _ => False
  | n + 1 => fun v0 y2 y3 => ((9 ≤ y3 → vp_in (y2 + 36) 1230 ∧ (∀ v0s_2 : Vl, v0s_2 = setB v0 49 (Int32.toNatClampNeg (y2 + 36)) (v0.2.1 17) → vp_in (y2 + 37) 1230 ∧ (∀ v0s_3 : Vl, v0s_3 = setB v0s_2 49 (Int32.toNatClampNeg (y2 + 37)) (Int32.toInt64 (v0s_2.1 18)) → vp_in (y2 + 38) 1230 ∧ (∀ v0s_4 : Vl, v0s_4 = setB v0s_3 49 (Int32.toNatClampNeg (y2 + 38)) (v0s_3.2.1 19) → vp_in (y2 + 39) 1230 ∧ (∀ v0s_5 : Vl, v0s_5 = setB v0s_4 49 (Int32.toNatClampNeg (y2 + 39)) (v0s_4.2.1 20) → vp_in (y2 + 40) 1230 ∧ (∀ v0s_6 : Vl, v0s_6 = setB v0s_5 49 (Int32.toNatClampNeg (y2 + 40)) (Int32.toInt64 (v0s_5.1 21)) → vp_in (y2 + 41) 1230 ∧ (∀ v0s_7 : Vl, v0s_7 = setB v0s_6 49 (Int32.toNatClampNeg (y2 + 41)) (Int32.toInt64 (v0s_6.1 22)) → vp_in (y2 + 42) 1230 ∧ (∀ v0s_8 : Vl, v0s_8 = setB v0s_7 49 (Int32.toNatClampNeg (y2 + 42)) (Int32.toInt64 (v0s_7.1 23)) → vp_in (y2 + 43) 1230 ∧ (∀ v0s_9 : Vl, v0s_9 = setB v0s_8 49 (Int32.toNatClampNeg (y2 + 43)) (Int32.toInt64 (v0s_8.1 24)) → vp_in (y2 + 44) 1230 ∧ (∀ v0s_10 : Vl, v0s_10 = setB v0s_9 49 (Int32.toNatClampNeg (y2 + 44)) (v0s_9.2.1 25) → vp_in (y2 + 45) 1230 ∧ (∀ v0s_11 : Vl, v0s_11 = setB v0s_10 49 (Int32.toNatClampNeg (y2 + 45)) (v0s_10.2.1 26) → vp_in (y2 + 46) 1230 ∧ (∀ v0s_12 : Vl, v0s_12 = setB v0s_11 49 (Int32.toNatClampNeg (y2 + 46)) (Int32.toInt64 (v0s_11.1 27)) → vp_in (y2 + 47) 1230 ∧ (∀ v0s_13 : Vl, v0s_13 = setB v0s_12 49 (Int32.toNatClampNeg (y2 + 47)) (Int32.toInt64 (v0s_12.1 28)) → vp_in (y2 + 48) 1230 ∧ (∀ v0s_14 : Vl, v0s_14 = setB v0s_13 49 (Int32.toNatClampNeg (y2 + 48)) (Int32.toInt64 (v0s_13.1 30)) → (∃ k : Nat, wp_X9_save_c275  Q k v0s_14 y2 0))))))))))))))) ∧ (¬ 9 ≤ y3 → vp_in y3 9 ∧ (vp_in (y2 + y3) 1230 ∧ (∀ v0s_17 : Vl, v0s_17 = setB v0 49 (Int32.toNatClampNeg (y2 + y3)) (Int32.toInt64 (v0.2.2.1 13 (Int32.toNatClampNeg y3))) → vp_in y3 9 ∧ ((((v0s_17.2.2.1 14 (Int32.toNatClampNeg y3)) = 0 → wp_X9_save_c53  Q (wp_X9_save_c8  Q n) v0s_17 y2 y3 0 ((y2 + 9) + y3)) ∧ (¬ (v0s_17.2.2.1 14 (Int32.toNatClampNeg y3)) = 0 → wp_X9_save_c53  Q (wp_X9_save_c8  Q n) v0s_17 y2 y3 1 ((y2 + 9) + y3))))))))
set_option maxHeartbeats 4000000 in
set_option maxRecDepth 100000 in
theorem wk_X9_save_c8 {p : Program} {l : Launch} {e : Env} {s : State} {m : MethodId} {args : Array Value} {below : List Frame} {meth : Method} {c : Code} {D : GG} {A : Nat → Prop} {cI cJ cZ cS : ClassId} {a0 : Nat} {r0 : Nat → Nat}  {Q : Vl → Prop} (C : Cx p s m args c D (tyL cI cJ cZ cS) A RX9 cX9_save 4) (hr : meth.sig.returnType = none) (hk : meth.locks = false) : ∀ (n : Nat) (v0 : Vl) (y2 : Int32) (y3 : Int32), wp_X9_save_c8  Q n v0 y2 y3 → J p l e (rmk 0 0) s m args below meth c D A 4 0 0 (MQ below (va_Qv (fun (u : Vl) => Q u) (fun u t => va_P D.1 vwCl ((fun (u : Vl) => List.flatten [bX9 cI cJ cZ a0 r0 u]) u) t.heap ∧ va_D A ((fun (u : Vl) => List.flatten [bX9 cI cJ cZ a0 r0 u]) u)) A) args s 0 0 A) 8 [(0, .ref a0), (2, .int y2), (3, .int y3)] [] (List.flatten [bX9 cI cJ cZ a0 r0 v0]) := by
  intro n
  induction n with
  | zero =>
    intro v0 y2 y3 h
    exact False.elim h
  | succ n ih =>
    intro v0 y2 y3 h
    refine J_iload_n C 9 dX9_save_8 rfl rfl ?_
    refine J_bipush C 11 dX9_save_9 rfl kb_9 ?_
    refine J_icmp_ge C 14 96 dX9_save_11 rfl rfl (fun c => ?_) (fun c => ?_)
    · have h := h.1 c
      refine J_aload_n C 97 dX9_save_96 rfl rfl ?_
      refine J_get C 100 9 inlX9 0 49 rfl rfl (by decide) wd176 rfl rfl dX9_save_97 rfl ?_
      refine J_iload_n C 101 dX9_save_100 rfl rfl ?_
      refine J_bipush C 103 dX9_save_101 rfl kb_36 ?_
      refine J_iadd C 104 dX9_save_103 rfl ?_
      refine J_aload_n C 105 dX9_save_104 rfl rfl ?_
      refine J_get C 108 9 inlX9 0 17 rfl rfl (by decide) wd192 rfl rfl dX9_save_105 rfl ?_
      obtain ⟨hi, h⟩ := h
      obtain ⟨v0s_2, ev0s_2⟩ : ∃ z : Vl, z = setB v0 49 (Int32.toNatClampNeg (y2 + 36)) (v0.2.1 17) := ⟨_, rfl⟩
      have h := h v0s_2 ev0s_2
      refine J_last C 109 18 1 rfl rfl hi (List.flatten [bX9 cI cJ cZ a0 r0 v0s_2]) (by subst ev0s_2; rfl) dX9_save_108 rfl ?_
      refine J_aload_n C 110 dX9_save_109 rfl rfl ?_
      refine J_get C 113 9 inlX9 0 49 rfl rfl (by decide) wd176 rfl rfl dX9_save_110 rfl ?_
      refine J_iload_n C 114 dX9_save_113 rfl rfl ?_
      refine J_bipush C 116 dX9_save_114 rfl kb_37 ?_
      refine J_iadd C 117 dX9_save_116 rfl ?_
      refine J_aload_n C 118 dX9_save_117 rfl rfl ?_
      refine J_get C 121 9 inlX9 0 18 rfl rfl (by decide) wd193 rfl rfl dX9_save_118 rfl ?_
      refine J_i2l C 122 dX9_save_121 rfl ?_
      obtain ⟨hi, h⟩ := h
      obtain ⟨v0s_3, ev0s_3⟩ : ∃ z : Vl, z = setB v0s_2 49 (Int32.toNatClampNeg (y2 + 37)) (Int32.toInt64 (v0s_2.1 18)) := ⟨_, rfl⟩
      have h := h v0s_3 ev0s_3
      refine J_last C 123 18 1 rfl rfl hi (List.flatten [bX9 cI cJ cZ a0 r0 v0s_3]) (by subst ev0s_3; rfl) dX9_save_122 rfl ?_
      refine J_aload_n C 124 dX9_save_123 rfl rfl ?_
      refine J_get C 127 9 inlX9 0 49 rfl rfl (by decide) wd176 rfl rfl dX9_save_124 rfl ?_
      refine J_iload_n C 128 dX9_save_127 rfl rfl ?_
      refine J_bipush C 130 dX9_save_128 rfl kb_38 ?_
      refine J_iadd C 131 dX9_save_130 rfl ?_
      refine J_aload_n C 132 dX9_save_131 rfl rfl ?_
      refine J_get C 135 9 inlX9 0 19 rfl rfl (by decide) wd194 rfl rfl dX9_save_132 rfl ?_
      obtain ⟨hi, h⟩ := h
      obtain ⟨v0s_4, ev0s_4⟩ : ∃ z : Vl, z = setB v0s_3 49 (Int32.toNatClampNeg (y2 + 38)) (v0s_3.2.1 19) := ⟨_, rfl⟩
      have h := h v0s_4 ev0s_4
      refine J_last C 136 18 1 rfl rfl hi (List.flatten [bX9 cI cJ cZ a0 r0 v0s_4]) (by subst ev0s_4; rfl) dX9_save_135 rfl ?_
      refine J_aload_n C 137 dX9_save_136 rfl rfl ?_
      refine J_get C 140 9 inlX9 0 49 rfl rfl (by decide) wd176 rfl rfl dX9_save_137 rfl ?_
      refine J_iload_n C 141 dX9_save_140 rfl rfl ?_
      refine J_bipush C 143 dX9_save_141 rfl kb_39 ?_
      refine J_iadd C 144 dX9_save_143 rfl ?_
      refine J_aload_n C 145 dX9_save_144 rfl rfl ?_
      refine J_get C 148 9 inlX9 0 20 rfl rfl (by decide) wd195 rfl rfl dX9_save_145 rfl ?_
      obtain ⟨hi, h⟩ := h
      obtain ⟨v0s_5, ev0s_5⟩ : ∃ z : Vl, z = setB v0s_4 49 (Int32.toNatClampNeg (y2 + 39)) (v0s_4.2.1 20) := ⟨_, rfl⟩
      have h := h v0s_5 ev0s_5
      refine J_last C 149 18 1 rfl rfl hi (List.flatten [bX9 cI cJ cZ a0 r0 v0s_5]) (by subst ev0s_5; rfl) dX9_save_148 rfl ?_
      refine J_aload_n C 150 dX9_save_149 rfl rfl ?_
      refine J_get C 153 9 inlX9 0 49 rfl rfl (by decide) wd176 rfl rfl dX9_save_150 rfl ?_
      refine J_iload_n C 154 dX9_save_153 rfl rfl ?_
      refine J_bipush C 156 dX9_save_154 rfl kb_40 ?_
      refine J_iadd C 157 dX9_save_156 rfl ?_
      refine J_aload_n C 158 dX9_save_157 rfl rfl ?_
      refine J_get C 161 9 inlX9 0 21 rfl rfl (by decide) wd196 rfl rfl dX9_save_158 rfl ?_
      refine J_i2l C 162 dX9_save_161 rfl ?_
      obtain ⟨hi, h⟩ := h
      obtain ⟨v0s_6, ev0s_6⟩ : ∃ z : Vl, z = setB v0s_5 49 (Int32.toNatClampNeg (y2 + 40)) (Int32.toInt64 (v0s_5.1 21)) := ⟨_, rfl⟩
      have h := h v0s_6 ev0s_6
      refine J_last C 163 18 1 rfl rfl hi (List.flatten [bX9 cI cJ cZ a0 r0 v0s_6]) (by subst ev0s_6; rfl) dX9_save_162 rfl ?_
      refine J_aload_n C 164 dX9_save_163 rfl rfl ?_
      refine J_get C 167 9 inlX9 0 49 rfl rfl (by decide) wd176 rfl rfl dX9_save_164 rfl ?_
      refine J_iload_n C 168 dX9_save_167 rfl rfl ?_
      refine J_bipush C 170 dX9_save_168 rfl kb_41 ?_
      refine J_iadd C 171 dX9_save_170 rfl ?_
      refine J_aload_n C 172 dX9_save_171 rfl rfl ?_
      refine J_get C 175 9 inlX9 0 22 rfl rfl (by decide) wd197 rfl rfl dX9_save_172 rfl ?_
      refine J_i2l C 176 dX9_save_175 rfl ?_
      obtain ⟨hi, h⟩ := h
      obtain ⟨v0s_7, ev0s_7⟩ : ∃ z : Vl, z = setB v0s_6 49 (Int32.toNatClampNeg (y2 + 41)) (Int32.toInt64 (v0s_6.1 22)) := ⟨_, rfl⟩
      have h := h v0s_7 ev0s_7
      refine J_last C 177 18 1 rfl rfl hi (List.flatten [bX9 cI cJ cZ a0 r0 v0s_7]) (by subst ev0s_7; rfl) dX9_save_176 rfl ?_
      refine J_aload_n C 178 dX9_save_177 rfl rfl ?_
      refine J_get C 181 9 inlX9 0 49 rfl rfl (by decide) wd176 rfl rfl dX9_save_178 rfl ?_
      refine J_iload_n C 182 dX9_save_181 rfl rfl ?_
      refine J_bipush C 184 dX9_save_182 rfl kb_42 ?_
      refine J_iadd C 185 dX9_save_184 rfl ?_
      refine J_aload_n C 186 dX9_save_185 rfl rfl ?_
      refine J_get C 189 9 inlX9 0 23 rfl rfl (by decide) wd166 rfl rfl dX9_save_186 rfl ?_
      refine J_i2l C 190 dX9_save_189 rfl ?_
      obtain ⟨hi, h⟩ := h
      obtain ⟨v0s_8, ev0s_8⟩ : ∃ z : Vl, z = setB v0s_7 49 (Int32.toNatClampNeg (y2 + 42)) (Int32.toInt64 (v0s_7.1 23)) := ⟨_, rfl⟩
      have h := h v0s_8 ev0s_8
      refine J_last C 191 18 1 rfl rfl hi (List.flatten [bX9 cI cJ cZ a0 r0 v0s_8]) (by subst ev0s_8; rfl) dX9_save_190 rfl ?_
      refine J_aload_n C 192 dX9_save_191 rfl rfl ?_
      refine J_get C 195 9 inlX9 0 49 rfl rfl (by decide) wd176 rfl rfl dX9_save_192 rfl ?_
      refine J_iload_n C 196 dX9_save_195 rfl rfl ?_
      refine J_bipush C 198 dX9_save_196 rfl kb_43 ?_
      refine J_iadd C 199 dX9_save_198 rfl ?_
      refine J_aload_n C 200 dX9_save_199 rfl rfl ?_
      refine J_get C 203 9 inlX9 0 24 rfl rfl (by decide) wd198 rfl rfl dX9_save_200 rfl ?_
      refine J_i2l C 204 dX9_save_203 rfl ?_
      obtain ⟨hi, h⟩ := h
      obtain ⟨v0s_9, ev0s_9⟩ : ∃ z : Vl, z = setB v0s_8 49 (Int32.toNatClampNeg (y2 + 43)) (Int32.toInt64 (v0s_8.1 24)) := ⟨_, rfl⟩
      have h := h v0s_9 ev0s_9
      refine J_last C 205 18 1 rfl rfl hi (List.flatten [bX9 cI cJ cZ a0 r0 v0s_9]) (by subst ev0s_9; rfl) dX9_save_204 rfl ?_
      refine J_aload_n C 206 dX9_save_205 rfl rfl ?_
      refine J_get C 209 9 inlX9 0 49 rfl rfl (by decide) wd176 rfl rfl dX9_save_206 rfl ?_
      refine J_iload_n C 210 dX9_save_209 rfl rfl ?_
      refine J_bipush C 212 dX9_save_210 rfl kb_44 ?_
      refine J_iadd C 213 dX9_save_212 rfl ?_
      refine J_aload_n C 214 dX9_save_213 rfl rfl ?_
      refine J_get C 217 9 inlX9 0 25 rfl rfl (by decide) wd199 rfl rfl dX9_save_214 rfl ?_
      obtain ⟨hi, h⟩ := h
      obtain ⟨v0s_10, ev0s_10⟩ : ∃ z : Vl, z = setB v0s_9 49 (Int32.toNatClampNeg (y2 + 44)) (v0s_9.2.1 25) := ⟨_, rfl⟩
      have h := h v0s_10 ev0s_10
      refine J_last C 218 18 1 rfl rfl hi (List.flatten [bX9 cI cJ cZ a0 r0 v0s_10]) (by subst ev0s_10; rfl) dX9_save_217 rfl ?_
      refine J_aload_n C 219 dX9_save_218 rfl rfl ?_
      refine J_get C 222 9 inlX9 0 49 rfl rfl (by decide) wd176 rfl rfl dX9_save_219 rfl ?_
      refine J_iload_n C 223 dX9_save_222 rfl rfl ?_
      refine J_bipush C 225 dX9_save_223 rfl kb_45 ?_
      refine J_iadd C 226 dX9_save_225 rfl ?_
      refine J_aload_n C 227 dX9_save_226 rfl rfl ?_
      refine J_get C 230 9 inlX9 0 26 rfl rfl (by decide) wd200 rfl rfl dX9_save_227 rfl ?_
      obtain ⟨hi, h⟩ := h
      obtain ⟨v0s_11, ev0s_11⟩ : ∃ z : Vl, z = setB v0s_10 49 (Int32.toNatClampNeg (y2 + 45)) (v0s_10.2.1 26) := ⟨_, rfl⟩
      have h := h v0s_11 ev0s_11
      refine J_last C 231 18 1 rfl rfl hi (List.flatten [bX9 cI cJ cZ a0 r0 v0s_11]) (by subst ev0s_11; rfl) dX9_save_230 rfl ?_
      refine J_aload_n C 232 dX9_save_231 rfl rfl ?_
      refine J_get C 235 9 inlX9 0 49 rfl rfl (by decide) wd176 rfl rfl dX9_save_232 rfl ?_
      refine J_iload_n C 236 dX9_save_235 rfl rfl ?_
      refine J_bipush C 238 dX9_save_236 rfl kb_46 ?_
      refine J_iadd C 239 dX9_save_238 rfl ?_
      refine J_aload_n C 240 dX9_save_239 rfl rfl ?_
      refine J_get C 243 9 inlX9 0 27 rfl rfl (by decide) wd201 rfl rfl dX9_save_240 rfl ?_
      refine J_i2l C 244 dX9_save_243 rfl ?_
      obtain ⟨hi, h⟩ := h
      obtain ⟨v0s_12, ev0s_12⟩ : ∃ z : Vl, z = setB v0s_11 49 (Int32.toNatClampNeg (y2 + 46)) (Int32.toInt64 (v0s_11.1 27)) := ⟨_, rfl⟩
      have h := h v0s_12 ev0s_12
      refine J_last C 245 18 1 rfl rfl hi (List.flatten [bX9 cI cJ cZ a0 r0 v0s_12]) (by subst ev0s_12; rfl) dX9_save_244 rfl ?_
      refine J_aload_n C 246 dX9_save_245 rfl rfl ?_
      refine J_get C 249 9 inlX9 0 49 rfl rfl (by decide) wd176 rfl rfl dX9_save_246 rfl ?_
      refine J_iload_n C 250 dX9_save_249 rfl rfl ?_
      refine J_bipush C 252 dX9_save_250 rfl kb_47 ?_
      refine J_iadd C 253 dX9_save_252 rfl ?_
      refine J_aload_n C 254 dX9_save_253 rfl rfl ?_
      refine J_get C 257 9 inlX9 0 28 rfl rfl (by decide) wd202 rfl rfl dX9_save_254 rfl ?_
      refine J_i2l C 258 dX9_save_257 rfl ?_
      obtain ⟨hi, h⟩ := h
      obtain ⟨v0s_13, ev0s_13⟩ : ∃ z : Vl, z = setB v0s_12 49 (Int32.toNatClampNeg (y2 + 47)) (Int32.toInt64 (v0s_12.1 28)) := ⟨_, rfl⟩
      have h := h v0s_13 ev0s_13
      refine J_last C 259 18 1 rfl rfl hi (List.flatten [bX9 cI cJ cZ a0 r0 v0s_13]) (by subst ev0s_13; rfl) dX9_save_258 rfl ?_
      refine J_aload_n C 260 dX9_save_259 rfl rfl ?_
      refine J_get C 263 9 inlX9 0 49 rfl rfl (by decide) wd176 rfl rfl dX9_save_260 rfl ?_
      refine J_iload_n C 264 dX9_save_263 rfl rfl ?_
      refine J_bipush C 266 dX9_save_264 rfl kb_48 ?_
      refine J_iadd C 267 dX9_save_266 rfl ?_
      refine J_aload_n C 268 dX9_save_267 rfl rfl ?_
      refine J_get C 271 9 inlX9 0 30 rfl rfl (by decide) wd740 rfl rfl dX9_save_268 rfl ?_
      refine J_i2l C 272 dX9_save_271 rfl ?_
      obtain ⟨hi, h⟩ := h
      obtain ⟨v0s_14, ev0s_14⟩ : ∃ z : Vl, z = setB v0s_13 49 (Int32.toNatClampNeg (y2 + 48)) (Int32.toInt64 (v0s_13.1 30)) := ⟨_, rfl⟩
      have h := h v0s_14 ev0s_14
      refine J_last C 273 18 1 rfl rfl hi (List.flatten [bX9 cI cJ cZ a0 r0 v0s_14]) (by subst ev0s_14; rfl) dX9_save_272 rfl ?_
      refine J_iconst C 274 dX9_save_273 rfl ki_0 ?_
      refine J_istore_n C 275 [(3, .int 0), (0, .ref a0), (2, .int y2)] dX9_save_274 rfl (by decide) rfl ?_
      refine J_loc [1, 2, 0] rfl ?_
      obtain ⟨n1, h⟩ := h
      exact wk_X9_save_c275 C hr hk n1 v0s_14 y2 0 h
    · have h := h.2 c
      refine J_aload_n C 15 dX9_save_14 rfl rfl ?_
      refine J_get C 18 9 inlX9 0 49 rfl rfl (by decide) wd176 rfl rfl dX9_save_15 rfl ?_
      refine J_iload_n C 19 dX9_save_18 rfl rfl ?_
      refine J_iload_n C 20 dX9_save_19 rfl rfl ?_
      refine J_iadd C 21 dX9_save_20 rfl ?_
      refine J_aload_n C 22 dX9_save_21 rfl rfl ?_
      refine J_get C 25 9 inlX9 0 13 rfl rfl (by decide) wd162 rfl rfl dX9_save_22 rfl ?_
      refine J_iload_n C 26 dX9_save_25 rfl rfl ?_
      obtain ⟨hi, h⟩ := h
      refine J_iald C 27 6 0 rfl rfl hi dX9_save_26 rfl ?_
      refine J_i2l C 28 dX9_save_27 rfl ?_
      obtain ⟨hi, h⟩ := h
      obtain ⟨v0s_17, ev0s_17⟩ : ∃ z : Vl, z = setB v0 49 (Int32.toNatClampNeg (y2 + y3)) (Int32.toInt64 (v0.2.2.1 13 (Int32.toNatClampNeg y3))) := ⟨_, rfl⟩
      have h := h v0s_17 ev0s_17
      refine J_last C 29 18 1 rfl rfl hi (List.flatten [bX9 cI cJ cZ a0 r0 v0s_17]) (by subst ev0s_17; rfl) dX9_save_28 rfl ?_
      refine J_aload_n C 30 dX9_save_29 rfl rfl ?_
      refine J_get C 33 9 inlX9 0 49 rfl rfl (by decide) wd176 rfl rfl dX9_save_30 rfl ?_
      refine J_iload_n C 34 dX9_save_33 rfl rfl ?_
      refine J_bipush C 36 dX9_save_34 rfl kb_9 ?_
      refine J_iadd C 37 dX9_save_36 rfl ?_
      refine J_iload_n C 38 dX9_save_37 rfl rfl ?_
      refine J_iadd C 39 dX9_save_38 rfl ?_
      refine J_aload_n C 40 dX9_save_39 rfl rfl ?_
      refine J_get C 43 9 inlX9 0 14 rfl rfl (by decide) wd163 rfl rfl dX9_save_40 rfl ?_
      refine J_iload_n C 44 dX9_save_43 rfl rfl ?_
      obtain ⟨hi, h⟩ := h
      refine J_zald C 45 7 2 rfl rfl hi dX9_save_44 rfl ?_
      refine J_if_eq C 48 52 dX9_save_45 rfl rfl (fun c => ?_) (fun c => ?_)
      · have h := h.1 c
        refine J_lconst C 53 dX9_save_52 rfl kl_0 ?_
        refine J_loc [0, 1, 2] rfl ?_
        exact wk_X9_save_c53 C hr hk ih v0s_17 y2 y3 0 ((y2 + 9) + y3) h
      · have h := h.2 c
        refine J_lconst C 49 dX9_save_48 rfl kl_1 ?_
        refine J_goto C 53 dX9_save_49 rfl ?_
        refine J_loc [0, 1, 2] rfl ?_
        exact wk_X9_save_c53 C hr hk ih v0s_17 y2 y3 1 ((y2 + 9) + y3) h
def wp_X9_save (v0 : Vl) (x1 : Int32) (Q : Vl → Prop) : Prop := ∀ x_1 : Int32, x_1 = (410 * x1) → (∃ k : Nat, wp_X9_save_c8  Q k v0 x_1 0)
set_option maxHeartbeats 4000000 in
set_option maxRecDepth 100000 in
theorem c_X9_save (l : Launch) (D : GG) (cI cJ cZ cS : ClassId) (a0 : Nat) (r0 : Nat → Nat) (v0 : Vl) (x1 : Int32) (Q : Vl → Prop) (h : wp_X9_save v0 x1 Q) : Mv l D (tyL cI cJ cZ cS) yX9_save cX9_save 4 0 0 [.ref a0, .int x1] (List.flatten [bX9 cI cJ cZ a0 r0 v0]) (fun (u : Vl) => Q u) (fun (u : Vl) => List.flatten [bX9 cI cJ cZ a0 r0 u]) := by
  refine Mv_of RX9 [(0, .ref a0), (1, .int x1)] (by decide +kernel) rfl rfl (Nat.le_of_ble_eq_true rfl) ?_
  intro p e s m args below meth c A C hr hk
  refine J_sipush C 3 dX9_save_0 rfl ks_410 ?_
  refine J_iload_n C 4 dX9_save_3 rfl rfl ?_
  refine J_imul C 5 dX9_save_4 rfl ?_
  obtain ⟨x_1, ex_1⟩ : ∃ z : Int32, z = (410 * x1) := ⟨_, rfl⟩
  have h := h x_1 ex_1
  refine J_nmi ex_1 ?_
  refine J_istore_n C 6 [(2, .int x_1), (0, .ref a0), (1, .int x1)] dX9_save_5 rfl (by decide) rfl ?_
  refine J_iconst C 7 dX9_save_6 rfl ki_0 ?_
  refine J_istore_n C 8 [(3, .int 0), (2, .int x_1), (0, .ref a0), (1, .int x1)] dX9_save_7 rfl (by decide) rfl ?_
  refine J_loc [2, 1, 0] rfl ?_
  obtain ⟨n1, h⟩ := h
  exact wk_X9_save_c8 C hr hk n1 v0 x_1 0 h
def wp_X9_load_c277  (Q : Vl → Prop) : Nat → Vl → Int32 → Int32 → Prop
  | 0 => fun _ _ _ => False
  | n + 1 => fun v0 y2 y3 => ((360 ≤ y3 → Q v0) ∧ (¬ 360 ≤ y3 → vp_in ((y2 + 50) + y3) 1230 ∧ (vp_in y3 360 ∧ (∀ v0s_15 : Vl, v0s_15 = setA v0 29 (Int32.toNatClampNeg y3) (Int64.toInt32 (v0.2.2.2 49 (Int32.toNatClampNeg ((y2 + 50) + y3)))) → ∀ x_16 : Int32, x_16 = y3 + 1 → wp_X9_load_c277  Q n v0s_15 y2 x_16))))
set_option maxHeartbeats 4000000 in
set_option maxRecDepth 100000 in
theorem wk_X9_load_c277 {p : Program} {l : Launch} {e : Env} {s : State} {m : MethodId} {args : Array Value} {below : List Frame} {meth : Method} {c : Code} {D : GG} {A : Nat → Prop} {cI cJ cZ cS : ClassId} {a0 : Nat} {r0 : Nat → Nat}  {Q : Vl → Prop} (C : Cx p s m args c D (tyL cI cJ cZ cS) A RX9 cX9_load 4) (hr : meth.sig.returnType = none) (hk : meth.locks = false) : ∀ (n : Nat) (v0 : Vl) (y2 : Int32) (y3 : Int32), wp_X9_load_c277  Q n v0 y2 y3 → J p l e (rmk 0 0) s m args below meth c D A 4 0 0 (MQ below (va_Qv (fun (u : Vl) => Q u) (fun u t => va_P D.1 vwCl ((fun (u : Vl) => List.flatten [bX9 cI cJ cZ a0 r0 u]) u) t.heap ∧ va_D A ((fun (u : Vl) => List.flatten [bX9 cI cJ cZ a0 r0 u]) u)) A) args s 0 0 A) 277 [(0, .ref a0), (2, .int y2), (3, .int y3)] [] (List.flatten [bX9 cI cJ cZ a0 r0 v0]) := by
  intro n
  induction n with
  | zero =>
    intro v0 y2 y3 h
    exact False.elim h
  | succ n ih =>
    intro v0 y2 y3 h
    refine J_iload_n C 278 dX9_load_277 rfl rfl ?_
    refine J_sipush C 281 dX9_load_278 rfl ks_360 ?_
    refine J_icmp_ge C 284 308 dX9_load_281 rfl rfl (fun c => ?_) (fun c => ?_)
    · have h := h.1 c
      exact J_vret C hr hk v0 rfl dX9_load_308 h
    · have h := h.2 c
      refine J_aload_n C 285 dX9_load_284 rfl rfl ?_
      refine J_get C 288 9 inlX9 0 29 rfl rfl (by decide) wd167 rfl rfl dX9_load_285 rfl ?_
      refine J_iload_n C 289 dX9_load_288 rfl rfl ?_
      refine J_aload_n C 290 dX9_load_289 rfl rfl ?_
      refine J_get C 293 9 inlX9 0 49 rfl rfl (by decide) wd176 rfl rfl dX9_load_290 rfl ?_
      refine J_iload_n C 294 dX9_load_293 rfl rfl ?_
      refine J_bipush C 296 dX9_load_294 rfl kb_50 ?_
      refine J_iadd C 297 dX9_load_296 rfl ?_
      refine J_iload_n C 298 dX9_load_297 rfl rfl ?_
      refine J_iadd C 299 dX9_load_298 rfl ?_
      obtain ⟨hi, h⟩ := h
      refine J_lald C 300 18 1 rfl rfl hi dX9_load_299 rfl ?_
      refine J_l2i C 301 dX9_load_300 rfl ?_
      obtain ⟨hi, h⟩ := h
      obtain ⟨v0s_15, ev0s_15⟩ : ∃ z : Vl, z = setA v0 29 (Int32.toNatClampNeg y3) (Int64.toInt32 (v0.2.2.2 49 (Int32.toNatClampNeg ((y2 + 50) + y3)))) := ⟨_, rfl⟩
      have h := h v0s_15 ev0s_15
      refine J_iast C 302 10 0 rfl rfl hi (List.flatten [bX9 cI cJ cZ a0 r0 v0s_15]) (by subst ev0s_15; rfl) dX9_load_301 rfl ?_
      obtain ⟨x_16, ex_16⟩ : ∃ z : Int32, z = y3 + 1 := ⟨_, rfl⟩
      have h := h x_16 ex_16
      refine J_iinc C 305 [(3, .int x_16), (0, .ref a0), (2, .int y2)] dX9_load_302 rfl rfl ((kinc_1 _).trans ex_16.symm) (by decide) rfl ?_
      refine J_goto C 277 dX9_load_305 rfl ?_
      refine J_loc [1, 2, 0] rfl ?_
      exact ih v0s_15 y2 x_16 h
def wp_X9_load_c55  (Q : Vl → Prop) (B8 : Vl → Int32 → Int32 → Prop) (v0 : Vl) (y2 : Int32) (y3 : Int32) (s0 : Int32) (s1 : Int32) : Prop := vp_in s1 9 ∧ (∀ v0s_18 : Vl, v0s_18 = setA v0 14 (Int32.toNatClampNeg s1) (vp_nar .boolean s0) → vp_in ((y2 + 18) + y3) 1230 ∧ (vp_in y3 9 ∧ (∀ v0s_19 : Vl, v0s_19 = setA v0s_18 15 (Int32.toNatClampNeg y3) (Int64.toInt32 (v0s_18.2.2.2 49 (Int32.toNatClampNeg ((y2 + 18) + y3)))) → vp_in ((y2 + 27) + y3) 1230 ∧ (vp_in y3 9 ∧ (∀ v0s_20 : Vl, v0s_20 = setA v0s_19 16 (Int32.toNatClampNeg y3) (Int64.toInt32 (v0s_19.2.2.2 49 (Int32.toNatClampNeg ((y2 + 27) + y3)))) → ∀ x_21 : Int32, x_21 = y3 + 1 → B8 v0s_20 y2 x_21)))))
set_option maxHeartbeats 4000000 in
set_option maxRecDepth 100000 in
theorem wk_X9_load_c55 {p : Program} {l : Launch} {e : Env} {s : State} {m : MethodId} {args : Array Value} {below : List Frame} {meth : Method} {c : Code} {D : GG} {A : Nat → Prop} {cI cJ cZ cS : ClassId} {a0 : Nat} {r0 : Nat → Nat}  {B8 : Vl → Int32 → Int32 → Prop} {Q : Vl → Prop} (C : Cx p s m args c D (tyL cI cJ cZ cS) A RX9 cX9_load 4) (hr : meth.sig.returnType = none) (hk : meth.locks = false) (hB8 : ∀ (v0 : Vl) (y2 : Int32) (y3 : Int32), B8 v0 y2 y3 → J p l e (rmk 0 0) s m args below meth c D A 4 0 0 (MQ below (va_Qv (fun (u : Vl) => Q u) (fun u t => va_P D.1 vwCl ((fun (u : Vl) => List.flatten [bX9 cI cJ cZ a0 r0 u]) u) t.heap ∧ va_D A ((fun (u : Vl) => List.flatten [bX9 cI cJ cZ a0 r0 u]) u)) A) args s 0 0 A) 8 [(0, .ref a0), (2, .int y2), (3, .int y3)] [] (List.flatten [bX9 cI cJ cZ a0 r0 v0])) : ∀ (v0 : Vl) (y2 : Int32) (y3 : Int32) (s0 : Int32) (s1 : Int32), wp_X9_load_c55  Q B8 v0 y2 y3 s0 s1 → J p l e (rmk 0 0) s m args below meth c D A 4 0 0 (MQ below (va_Qv (fun (u : Vl) => Q u) (fun u t => va_P D.1 vwCl ((fun (u : Vl) => List.flatten [bX9 cI cJ cZ a0 r0 u]) u) t.heap ∧ va_D A ((fun (u : Vl) => List.flatten [bX9 cI cJ cZ a0 r0 u]) u)) A) args s 0 0 A) 55 [(0, .ref a0), (2, .int y2), (3, .int y3)] [.int s0, .int s1, .ref (r0 14)] (List.flatten [bX9 cI cJ cZ a0 r0 v0]) := by
  intro v0 y2 y3 s0 s1 h
  obtain ⟨hi, h⟩ := h
  obtain ⟨v0s_18, ev0s_18⟩ : ∃ z : Vl, z = setA v0 14 (Int32.toNatClampNeg s1) (vp_nar .boolean s0) := ⟨_, rfl⟩
  have h := h v0s_18 ev0s_18
  refine J_zast C 56 7 2 rfl rfl hi (List.flatten [bX9 cI cJ cZ a0 r0 v0s_18]) (by subst ev0s_18; rfl) dX9_load_55 rfl ?_
  refine J_aload_n C 57 dX9_load_56 rfl rfl ?_
  refine J_get C 60 9 inlX9 0 15 rfl rfl (by decide) wd164 rfl rfl dX9_load_57 rfl ?_
  refine J_iload_n C 61 dX9_load_60 rfl rfl ?_
  refine J_aload_n C 62 dX9_load_61 rfl rfl ?_
  refine J_get C 65 9 inlX9 0 49 rfl rfl (by decide) wd176 rfl rfl dX9_load_62 rfl ?_
  refine J_iload_n C 66 dX9_load_65 rfl rfl ?_
  refine J_bipush C 68 dX9_load_66 rfl kb_18 ?_
  refine J_iadd C 69 dX9_load_68 rfl ?_
  refine J_iload_n C 70 dX9_load_69 rfl rfl ?_
  refine J_iadd C 71 dX9_load_70 rfl ?_
  obtain ⟨hi, h⟩ := h
  refine J_lald C 72 18 1 rfl rfl hi dX9_load_71 rfl ?_
  refine J_l2i C 73 dX9_load_72 rfl ?_
  obtain ⟨hi, h⟩ := h
  obtain ⟨v0s_19, ev0s_19⟩ : ∃ z : Vl, z = setA v0s_18 15 (Int32.toNatClampNeg y3) (Int64.toInt32 (v0s_18.2.2.2 49 (Int32.toNatClampNeg ((y2 + 18) + y3)))) := ⟨_, rfl⟩
  have h := h v0s_19 ev0s_19
  refine J_iast C 74 8 0 rfl rfl hi (List.flatten [bX9 cI cJ cZ a0 r0 v0s_19]) (by subst ev0s_19; rfl) dX9_load_73 rfl ?_
  refine J_aload_n C 75 dX9_load_74 rfl rfl ?_
  refine J_get C 78 9 inlX9 0 16 rfl rfl (by decide) wd165 rfl rfl dX9_load_75 rfl ?_
  refine J_iload_n C 79 dX9_load_78 rfl rfl ?_
  refine J_aload_n C 80 dX9_load_79 rfl rfl ?_
  refine J_get C 83 9 inlX9 0 49 rfl rfl (by decide) wd176 rfl rfl dX9_load_80 rfl ?_
  refine J_iload_n C 84 dX9_load_83 rfl rfl ?_
  refine J_bipush C 86 dX9_load_84 rfl kb_27 ?_
  refine J_iadd C 87 dX9_load_86 rfl ?_
  refine J_iload_n C 88 dX9_load_87 rfl rfl ?_
  refine J_iadd C 89 dX9_load_88 rfl ?_
  obtain ⟨hi, h⟩ := h
  refine J_lald C 90 18 1 rfl rfl hi dX9_load_89 rfl ?_
  refine J_l2i C 91 dX9_load_90 rfl ?_
  obtain ⟨hi, h⟩ := h
  obtain ⟨v0s_20, ev0s_20⟩ : ∃ z : Vl, z = setA v0s_19 16 (Int32.toNatClampNeg y3) (Int64.toInt32 (v0s_19.2.2.2 49 (Int32.toNatClampNeg ((y2 + 27) + y3)))) := ⟨_, rfl⟩
  have h := h v0s_20 ev0s_20
  refine J_iast C 92 9 0 rfl rfl hi (List.flatten [bX9 cI cJ cZ a0 r0 v0s_20]) (by subst ev0s_20; rfl) dX9_load_91 rfl ?_
  obtain ⟨x_21, ex_21⟩ : ∃ z : Int32, z = y3 + 1 := ⟨_, rfl⟩
  have h := h x_21 ex_21
  refine J_iinc C 95 [(3, .int x_21), (0, .ref a0), (2, .int y2)] dX9_load_92 rfl rfl ((kinc_1 _).trans ex_21.symm) (by decide) rfl ?_
  refine J_goto C 8 dX9_load_95 rfl ?_
  refine J_loc [1, 2, 0] rfl ?_
  exact hB8 v0s_20 y2 x_21 h
def wp_X9_load_c8  (Q : Vl → Prop) : Nat → Vl → Int32 → Int32 → Prop
  | 0 => fun _ _ _ => False
  | n + 1 => fun v0 y2 y3 => ((9 ≤ y3 → vp_in (y2 + 36) 1230 ∧ (∀ v0s_2 : Vl, v0s_2 = setJ v0 17 (v0.2.2.2 49 (Int32.toNatClampNeg (y2 + 36))) → vp_in (y2 + 37) 1230 ∧ (∀ v0s_3 : Vl, v0s_3 = setI v0s_2 18 (Int64.toInt32 (v0s_2.2.2.2 49 (Int32.toNatClampNeg (y2 + 37)))) → vp_in (y2 + 38) 1230 ∧ (∀ v0s_4 : Vl, v0s_4 = setJ v0s_3 19 (v0s_3.2.2.2 49 (Int32.toNatClampNeg (y2 + 38))) → vp_in (y2 + 39) 1230 ∧ (∀ v0s_5 : Vl, v0s_5 = setJ v0s_4 20 (v0s_4.2.2.2 49 (Int32.toNatClampNeg (y2 + 39))) → vp_in (y2 + 40) 1230 ∧ (∀ v0s_6 : Vl, v0s_6 = setI v0s_5 21 (Int64.toInt32 (v0s_5.2.2.2 49 (Int32.toNatClampNeg (y2 + 40)))) → vp_in (y2 + 41) 1230 ∧ (∀ v0s_7 : Vl, v0s_7 = setI v0s_6 22 (Int64.toInt32 (v0s_6.2.2.2 49 (Int32.toNatClampNeg (y2 + 41)))) → vp_in (y2 + 42) 1230 ∧ (∀ v0s_8 : Vl, v0s_8 = setI v0s_7 23 (Int64.toInt32 (v0s_7.2.2.2 49 (Int32.toNatClampNeg (y2 + 42)))) → vp_in (y2 + 43) 1230 ∧ (∀ v0s_9 : Vl, v0s_9 = setI v0s_8 24 (Int64.toInt32 (v0s_8.2.2.2 49 (Int32.toNatClampNeg (y2 + 43)))) → vp_in (y2 + 44) 1230 ∧ (∀ v0s_10 : Vl, v0s_10 = setJ v0s_9 25 (v0s_9.2.2.2 49 (Int32.toNatClampNeg (y2 + 44))) → vp_in (y2 + 45) 1230 ∧ (∀ v0s_11 : Vl, v0s_11 = setJ v0s_10 26 (v0s_10.2.2.2 49 (Int32.toNatClampNeg (y2 + 45))) → vp_in (y2 + 46) 1230 ∧ (∀ v0s_12 : Vl, v0s_12 = setI v0s_11 27 (Int64.toInt32 (v0s_11.2.2.2 49 (Int32.toNatClampNeg (y2 + 46)))) → vp_in (y2 + 47) 1230 ∧ (∀ v0s_13 : Vl, v0s_13 = setI v0s_12 28 (Int64.toInt32 (v0s_12.2.2.2 49 (Int32.toNatClampNeg (y2 + 47)))) → vp_in (y2 + 48) 1230 ∧ (∀ v0s_14 : Vl, v0s_14 = setI v0s_13 30 (Int64.toInt32 (v0s_13.2.2.2 49 (Int32.toNatClampNeg (y2 + 48)))) → (∃ k : Nat, wp_X9_load_c277  Q k v0s_14 y2 0))))))))))))))) ∧ (¬ 9 ≤ y3 → vp_in (y2 + y3) 1230 ∧ (vp_in y3 9 ∧ (∀ v0s_17 : Vl, v0s_17 = setA v0 13 (Int32.toNatClampNeg y3) (Int64.toInt32 (v0.2.2.2 49 (Int32.toNatClampNeg (y2 + y3)))) → vp_in ((y2 + 9) + y3) 1230 ∧ (((¬ (v0s_17.2.2.2 49 (Int32.toNatClampNeg ((y2 + 9) + y3))) = 1 → wp_X9_load_c55  Q (wp_X9_load_c8  Q n) v0s_17 y2 y3 0 y3) ∧ ((v0s_17.2.2.2 49 (Int32.toNatClampNeg ((y2 + 9) + y3))) = 1 → wp_X9_load_c55  Q (wp_X9_load_c8  Q n) v0s_17 y2 y3 1 y3)))))))
set_option maxHeartbeats 4000000 in
set_option maxRecDepth 100000 in
theorem wk_X9_load_c8 {p : Program} {l : Launch} {e : Env} {s : State} {m : MethodId} {args : Array Value} {below : List Frame} {meth : Method} {c : Code} {D : GG} {A : Nat → Prop} {cI cJ cZ cS : ClassId} {a0 : Nat} {r0 : Nat → Nat}  {Q : Vl → Prop} (C : Cx p s m args c D (tyL cI cJ cZ cS) A RX9 cX9_load 4) (hr : meth.sig.returnType = none) (hk : meth.locks = false) : ∀ (n : Nat) (v0 : Vl) (y2 : Int32) (y3 : Int32), wp_X9_load_c8  Q n v0 y2 y3 → J p l e (rmk 0 0) s m args below meth c D A 4 0 0 (MQ below (va_Qv (fun (u : Vl) => Q u) (fun u t => va_P D.1 vwCl ((fun (u : Vl) => List.flatten [bX9 cI cJ cZ a0 r0 u]) u) t.heap ∧ va_D A ((fun (u : Vl) => List.flatten [bX9 cI cJ cZ a0 r0 u]) u)) A) args s 0 0 A) 8 [(0, .ref a0), (2, .int y2), (3, .int y3)] [] (List.flatten [bX9 cI cJ cZ a0 r0 v0]) := by
  intro n
  induction n with
  | zero =>
    intro v0 y2 y3 h
    exact False.elim h
  | succ n ih =>
    intro v0 y2 y3 h
    refine J_iload_n C 9 dX9_load_8 rfl rfl ?_
    refine J_bipush C 11 dX9_load_9 rfl kb_9 ?_
    refine J_icmp_ge C 14 98 dX9_load_11 rfl rfl (fun c => ?_) (fun c => ?_)
    · have h := h.1 c
      refine J_aload_n C 99 dX9_load_98 rfl rfl ?_
      refine J_aload_n C 100 dX9_load_99 rfl rfl ?_
      refine J_get C 103 9 inlX9 0 49 rfl rfl (by decide) wd176 rfl rfl dX9_load_100 rfl ?_
      refine J_iload_n C 104 dX9_load_103 rfl rfl ?_
      refine J_bipush C 106 dX9_load_104 rfl kb_36 ?_
      refine J_iadd C 107 dX9_load_106 rfl ?_
      obtain ⟨hi, h⟩ := h
      refine J_lald C 108 18 1 rfl rfl hi dX9_load_107 rfl ?_
      obtain ⟨v0s_2, ev0s_2⟩ : ∃ z : Vl, z = setJ v0 17 (v0.2.2.2 49 (Int32.toNatClampNeg (y2 + 36))) := ⟨_, rfl⟩
      have h := h v0s_2 ev0s_2
      refine J_put C 111 9 inlX9 tyX9 tyX9_ok nmX9 0 17 rfl rfl (by decide) wd192 rfl rfl rfl rfl rfl (List.flatten [bX9 cI cJ cZ a0 r0 v0s_2]) (by subst ev0s_2; rfl) dX9_load_108 rfl ?_
      refine J_aload_n C 112 dX9_load_111 rfl rfl ?_
      refine J_aload_n C 113 dX9_load_112 rfl rfl ?_
      refine J_get C 116 9 inlX9 0 49 rfl rfl (by decide) wd176 rfl rfl dX9_load_113 rfl ?_
      refine J_iload_n C 117 dX9_load_116 rfl rfl ?_
      refine J_bipush C 119 dX9_load_117 rfl kb_37 ?_
      refine J_iadd C 120 dX9_load_119 rfl ?_
      obtain ⟨hi, h⟩ := h
      refine J_lald C 121 18 1 rfl rfl hi dX9_load_120 rfl ?_
      refine J_l2i C 122 dX9_load_121 rfl ?_
      obtain ⟨v0s_3, ev0s_3⟩ : ∃ z : Vl, z = setI v0s_2 18 (Int64.toInt32 (v0s_2.2.2.2 49 (Int32.toNatClampNeg (y2 + 37)))) := ⟨_, rfl⟩
      have h := h v0s_3 ev0s_3
      refine J_put C 125 9 inlX9 tyX9 tyX9_ok nmX9 0 18 rfl rfl (by decide) wd193 rfl rfl rfl rfl rfl (List.flatten [bX9 cI cJ cZ a0 r0 v0s_3]) (by subst ev0s_3; rfl) dX9_load_122 rfl ?_
      refine J_aload_n C 126 dX9_load_125 rfl rfl ?_
      refine J_aload_n C 127 dX9_load_126 rfl rfl ?_
      refine J_get C 130 9 inlX9 0 49 rfl rfl (by decide) wd176 rfl rfl dX9_load_127 rfl ?_
      refine J_iload_n C 131 dX9_load_130 rfl rfl ?_
      refine J_bipush C 133 dX9_load_131 rfl kb_38 ?_
      refine J_iadd C 134 dX9_load_133 rfl ?_
      obtain ⟨hi, h⟩ := h
      refine J_lald C 135 18 1 rfl rfl hi dX9_load_134 rfl ?_
      obtain ⟨v0s_4, ev0s_4⟩ : ∃ z : Vl, z = setJ v0s_3 19 (v0s_3.2.2.2 49 (Int32.toNatClampNeg (y2 + 38))) := ⟨_, rfl⟩
      have h := h v0s_4 ev0s_4
      refine J_put C 138 9 inlX9 tyX9 tyX9_ok nmX9 0 19 rfl rfl (by decide) wd194 rfl rfl rfl rfl rfl (List.flatten [bX9 cI cJ cZ a0 r0 v0s_4]) (by subst ev0s_4; rfl) dX9_load_135 rfl ?_
      refine J_aload_n C 139 dX9_load_138 rfl rfl ?_
      refine J_aload_n C 140 dX9_load_139 rfl rfl ?_
      refine J_get C 143 9 inlX9 0 49 rfl rfl (by decide) wd176 rfl rfl dX9_load_140 rfl ?_
      refine J_iload_n C 144 dX9_load_143 rfl rfl ?_
      refine J_bipush C 146 dX9_load_144 rfl kb_39 ?_
      refine J_iadd C 147 dX9_load_146 rfl ?_
      obtain ⟨hi, h⟩ := h
      refine J_lald C 148 18 1 rfl rfl hi dX9_load_147 rfl ?_
      obtain ⟨v0s_5, ev0s_5⟩ : ∃ z : Vl, z = setJ v0s_4 20 (v0s_4.2.2.2 49 (Int32.toNatClampNeg (y2 + 39))) := ⟨_, rfl⟩
      have h := h v0s_5 ev0s_5
      refine J_put C 151 9 inlX9 tyX9 tyX9_ok nmX9 0 20 rfl rfl (by decide) wd195 rfl rfl rfl rfl rfl (List.flatten [bX9 cI cJ cZ a0 r0 v0s_5]) (by subst ev0s_5; rfl) dX9_load_148 rfl ?_
      refine J_aload_n C 152 dX9_load_151 rfl rfl ?_
      refine J_aload_n C 153 dX9_load_152 rfl rfl ?_
      refine J_get C 156 9 inlX9 0 49 rfl rfl (by decide) wd176 rfl rfl dX9_load_153 rfl ?_
      refine J_iload_n C 157 dX9_load_156 rfl rfl ?_
      refine J_bipush C 159 dX9_load_157 rfl kb_40 ?_
      refine J_iadd C 160 dX9_load_159 rfl ?_
      obtain ⟨hi, h⟩ := h
      refine J_lald C 161 18 1 rfl rfl hi dX9_load_160 rfl ?_
      refine J_l2i C 162 dX9_load_161 rfl ?_
      obtain ⟨v0s_6, ev0s_6⟩ : ∃ z : Vl, z = setI v0s_5 21 (Int64.toInt32 (v0s_5.2.2.2 49 (Int32.toNatClampNeg (y2 + 40)))) := ⟨_, rfl⟩
      have h := h v0s_6 ev0s_6
      refine J_put C 165 9 inlX9 tyX9 tyX9_ok nmX9 0 21 rfl rfl (by decide) wd196 rfl rfl rfl rfl rfl (List.flatten [bX9 cI cJ cZ a0 r0 v0s_6]) (by subst ev0s_6; rfl) dX9_load_162 rfl ?_
      refine J_aload_n C 166 dX9_load_165 rfl rfl ?_
      refine J_aload_n C 167 dX9_load_166 rfl rfl ?_
      refine J_get C 170 9 inlX9 0 49 rfl rfl (by decide) wd176 rfl rfl dX9_load_167 rfl ?_
      refine J_iload_n C 171 dX9_load_170 rfl rfl ?_
      refine J_bipush C 173 dX9_load_171 rfl kb_41 ?_
      refine J_iadd C 174 dX9_load_173 rfl ?_
      obtain ⟨hi, h⟩ := h
      refine J_lald C 175 18 1 rfl rfl hi dX9_load_174 rfl ?_
      refine J_l2i C 176 dX9_load_175 rfl ?_
      obtain ⟨v0s_7, ev0s_7⟩ : ∃ z : Vl, z = setI v0s_6 22 (Int64.toInt32 (v0s_6.2.2.2 49 (Int32.toNatClampNeg (y2 + 41)))) := ⟨_, rfl⟩
      have h := h v0s_7 ev0s_7
      refine J_put C 179 9 inlX9 tyX9 tyX9_ok nmX9 0 22 rfl rfl (by decide) wd197 rfl rfl rfl rfl rfl (List.flatten [bX9 cI cJ cZ a0 r0 v0s_7]) (by subst ev0s_7; rfl) dX9_load_176 rfl ?_
      refine J_aload_n C 180 dX9_load_179 rfl rfl ?_
      refine J_aload_n C 181 dX9_load_180 rfl rfl ?_
      refine J_get C 184 9 inlX9 0 49 rfl rfl (by decide) wd176 rfl rfl dX9_load_181 rfl ?_
      refine J_iload_n C 185 dX9_load_184 rfl rfl ?_
      refine J_bipush C 187 dX9_load_185 rfl kb_42 ?_
      refine J_iadd C 188 dX9_load_187 rfl ?_
      obtain ⟨hi, h⟩ := h
      refine J_lald C 189 18 1 rfl rfl hi dX9_load_188 rfl ?_
      refine J_l2i C 190 dX9_load_189 rfl ?_
      obtain ⟨v0s_8, ev0s_8⟩ : ∃ z : Vl, z = setI v0s_7 23 (Int64.toInt32 (v0s_7.2.2.2 49 (Int32.toNatClampNeg (y2 + 42)))) := ⟨_, rfl⟩
      have h := h v0s_8 ev0s_8
      refine J_put C 193 9 inlX9 tyX9 tyX9_ok nmX9 0 23 rfl rfl (by decide) wd166 rfl rfl rfl rfl rfl (List.flatten [bX9 cI cJ cZ a0 r0 v0s_8]) (by subst ev0s_8; rfl) dX9_load_190 rfl ?_
      refine J_aload_n C 194 dX9_load_193 rfl rfl ?_
      refine J_aload_n C 195 dX9_load_194 rfl rfl ?_
      refine J_get C 198 9 inlX9 0 49 rfl rfl (by decide) wd176 rfl rfl dX9_load_195 rfl ?_
      refine J_iload_n C 199 dX9_load_198 rfl rfl ?_
      refine J_bipush C 201 dX9_load_199 rfl kb_43 ?_
      refine J_iadd C 202 dX9_load_201 rfl ?_
      obtain ⟨hi, h⟩ := h
      refine J_lald C 203 18 1 rfl rfl hi dX9_load_202 rfl ?_
      refine J_l2i C 204 dX9_load_203 rfl ?_
      obtain ⟨v0s_9, ev0s_9⟩ : ∃ z : Vl, z = setI v0s_8 24 (Int64.toInt32 (v0s_8.2.2.2 49 (Int32.toNatClampNeg (y2 + 43)))) := ⟨_, rfl⟩
      have h := h v0s_9 ev0s_9
      refine J_put C 207 9 inlX9 tyX9 tyX9_ok nmX9 0 24 rfl rfl (by decide) wd198 rfl rfl rfl rfl rfl (List.flatten [bX9 cI cJ cZ a0 r0 v0s_9]) (by subst ev0s_9; rfl) dX9_load_204 rfl ?_
      refine J_aload_n C 208 dX9_load_207 rfl rfl ?_
      refine J_aload_n C 209 dX9_load_208 rfl rfl ?_
      refine J_get C 212 9 inlX9 0 49 rfl rfl (by decide) wd176 rfl rfl dX9_load_209 rfl ?_
      refine J_iload_n C 213 dX9_load_212 rfl rfl ?_
      refine J_bipush C 215 dX9_load_213 rfl kb_44 ?_
      refine J_iadd C 216 dX9_load_215 rfl ?_
      obtain ⟨hi, h⟩ := h
      refine J_lald C 217 18 1 rfl rfl hi dX9_load_216 rfl ?_
      obtain ⟨v0s_10, ev0s_10⟩ : ∃ z : Vl, z = setJ v0s_9 25 (v0s_9.2.2.2 49 (Int32.toNatClampNeg (y2 + 44))) := ⟨_, rfl⟩
      have h := h v0s_10 ev0s_10
      refine J_put C 220 9 inlX9 tyX9 tyX9_ok nmX9 0 25 rfl rfl (by decide) wd199 rfl rfl rfl rfl rfl (List.flatten [bX9 cI cJ cZ a0 r0 v0s_10]) (by subst ev0s_10; rfl) dX9_load_217 rfl ?_
      refine J_aload_n C 221 dX9_load_220 rfl rfl ?_
      refine J_aload_n C 222 dX9_load_221 rfl rfl ?_
      refine J_get C 225 9 inlX9 0 49 rfl rfl (by decide) wd176 rfl rfl dX9_load_222 rfl ?_
      refine J_iload_n C 226 dX9_load_225 rfl rfl ?_
      refine J_bipush C 228 dX9_load_226 rfl kb_45 ?_
      refine J_iadd C 229 dX9_load_228 rfl ?_
      obtain ⟨hi, h⟩ := h
      refine J_lald C 230 18 1 rfl rfl hi dX9_load_229 rfl ?_
      obtain ⟨v0s_11, ev0s_11⟩ : ∃ z : Vl, z = setJ v0s_10 26 (v0s_10.2.2.2 49 (Int32.toNatClampNeg (y2 + 45))) := ⟨_, rfl⟩
      have h := h v0s_11 ev0s_11
      refine J_put C 233 9 inlX9 tyX9 tyX9_ok nmX9 0 26 rfl rfl (by decide) wd200 rfl rfl rfl rfl rfl (List.flatten [bX9 cI cJ cZ a0 r0 v0s_11]) (by subst ev0s_11; rfl) dX9_load_230 rfl ?_
      refine J_aload_n C 234 dX9_load_233 rfl rfl ?_
      refine J_aload_n C 235 dX9_load_234 rfl rfl ?_
      refine J_get C 238 9 inlX9 0 49 rfl rfl (by decide) wd176 rfl rfl dX9_load_235 rfl ?_
      refine J_iload_n C 239 dX9_load_238 rfl rfl ?_
      refine J_bipush C 241 dX9_load_239 rfl kb_46 ?_
      refine J_iadd C 242 dX9_load_241 rfl ?_
      obtain ⟨hi, h⟩ := h
      refine J_lald C 243 18 1 rfl rfl hi dX9_load_242 rfl ?_
      refine J_l2i C 244 dX9_load_243 rfl ?_
      obtain ⟨v0s_12, ev0s_12⟩ : ∃ z : Vl, z = setI v0s_11 27 (Int64.toInt32 (v0s_11.2.2.2 49 (Int32.toNatClampNeg (y2 + 46)))) := ⟨_, rfl⟩
      have h := h v0s_12 ev0s_12
      refine J_put C 247 9 inlX9 tyX9 tyX9_ok nmX9 0 27 rfl rfl (by decide) wd201 rfl rfl rfl rfl rfl (List.flatten [bX9 cI cJ cZ a0 r0 v0s_12]) (by subst ev0s_12; rfl) dX9_load_244 rfl ?_
      refine J_aload_n C 248 dX9_load_247 rfl rfl ?_
      refine J_aload_n C 249 dX9_load_248 rfl rfl ?_
      refine J_get C 252 9 inlX9 0 49 rfl rfl (by decide) wd176 rfl rfl dX9_load_249 rfl ?_
      refine J_iload_n C 253 dX9_load_252 rfl rfl ?_
      refine J_bipush C 255 dX9_load_253 rfl kb_47 ?_
      refine J_iadd C 256 dX9_load_255 rfl ?_
      obtain ⟨hi, h⟩ := h
      refine J_lald C 257 18 1 rfl rfl hi dX9_load_256 rfl ?_
      refine J_l2i C 258 dX9_load_257 rfl ?_
      obtain ⟨v0s_13, ev0s_13⟩ : ∃ z : Vl, z = setI v0s_12 28 (Int64.toInt32 (v0s_12.2.2.2 49 (Int32.toNatClampNeg (y2 + 47)))) := ⟨_, rfl⟩
      have h := h v0s_13 ev0s_13
      refine J_put C 261 9 inlX9 tyX9 tyX9_ok nmX9 0 28 rfl rfl (by decide) wd202 rfl rfl rfl rfl rfl (List.flatten [bX9 cI cJ cZ a0 r0 v0s_13]) (by subst ev0s_13; rfl) dX9_load_258 rfl ?_
      refine J_aload_n C 262 dX9_load_261 rfl rfl ?_
      refine J_aload_n C 263 dX9_load_262 rfl rfl ?_
      refine J_get C 266 9 inlX9 0 49 rfl rfl (by decide) wd176 rfl rfl dX9_load_263 rfl ?_
      refine J_iload_n C 267 dX9_load_266 rfl rfl ?_
      refine J_bipush C 269 dX9_load_267 rfl kb_48 ?_
      refine J_iadd C 270 dX9_load_269 rfl ?_
      obtain ⟨hi, h⟩ := h
      refine J_lald C 271 18 1 rfl rfl hi dX9_load_270 rfl ?_
      refine J_l2i C 272 dX9_load_271 rfl ?_
      obtain ⟨v0s_14, ev0s_14⟩ : ∃ z : Vl, z = setI v0s_13 30 (Int64.toInt32 (v0s_13.2.2.2 49 (Int32.toNatClampNeg (y2 + 48)))) := ⟨_, rfl⟩
      have h := h v0s_14 ev0s_14
      refine J_put C 275 9 inlX9 tyX9 tyX9_ok nmX9 0 30 rfl rfl (by decide) wd740 rfl rfl rfl rfl rfl (List.flatten [bX9 cI cJ cZ a0 r0 v0s_14]) (by subst ev0s_14; rfl) dX9_load_272 rfl ?_
      refine J_iconst C 276 dX9_load_275 rfl ki_0 ?_
      refine J_istore_n C 277 [(3, .int 0), (0, .ref a0), (2, .int y2)] dX9_load_276 rfl (by decide) rfl ?_
      refine J_loc [1, 2, 0] rfl ?_
      obtain ⟨n1, h⟩ := h
      exact wk_X9_load_c277 C hr hk n1 v0s_14 y2 0 h
    · have h := h.2 c
      refine J_aload_n C 15 dX9_load_14 rfl rfl ?_
      refine J_get C 18 9 inlX9 0 13 rfl rfl (by decide) wd162 rfl rfl dX9_load_15 rfl ?_
      refine J_iload_n C 19 dX9_load_18 rfl rfl ?_
      refine J_aload_n C 20 dX9_load_19 rfl rfl ?_
      refine J_get C 23 9 inlX9 0 49 rfl rfl (by decide) wd176 rfl rfl dX9_load_20 rfl ?_
      refine J_iload_n C 24 dX9_load_23 rfl rfl ?_
      refine J_iload_n C 25 dX9_load_24 rfl rfl ?_
      refine J_iadd C 26 dX9_load_25 rfl ?_
      obtain ⟨hi, h⟩ := h
      refine J_lald C 27 18 1 rfl rfl hi dX9_load_26 rfl ?_
      refine J_l2i C 28 dX9_load_27 rfl ?_
      obtain ⟨hi, h⟩ := h
      obtain ⟨v0s_17, ev0s_17⟩ : ∃ z : Vl, z = setA v0 13 (Int32.toNatClampNeg y3) (Int64.toInt32 (v0.2.2.2 49 (Int32.toNatClampNeg (y2 + y3)))) := ⟨_, rfl⟩
      have h := h v0s_17 ev0s_17
      refine J_iast C 29 6 0 rfl rfl hi (List.flatten [bX9 cI cJ cZ a0 r0 v0s_17]) (by subst ev0s_17; rfl) dX9_load_28 rfl ?_
      refine J_aload_n C 30 dX9_load_29 rfl rfl ?_
      refine J_get C 33 9 inlX9 0 14 rfl rfl (by decide) wd163 rfl rfl dX9_load_30 rfl ?_
      refine J_iload_n C 34 dX9_load_33 rfl rfl ?_
      refine J_aload_n C 35 dX9_load_34 rfl rfl ?_
      refine J_get C 38 9 inlX9 0 49 rfl rfl (by decide) wd176 rfl rfl dX9_load_35 rfl ?_
      refine J_iload_n C 39 dX9_load_38 rfl rfl ?_
      refine J_bipush C 41 dX9_load_39 rfl kb_9 ?_
      refine J_iadd C 42 dX9_load_41 rfl ?_
      refine J_iload_n C 43 dX9_load_42 rfl rfl ?_
      refine J_iadd C 44 dX9_load_43 rfl ?_
      obtain ⟨hi, h⟩ := h
      refine J_lald C 45 18 1 rfl rfl hi dX9_load_44 rfl ?_
      refine J_lconst C 46 dX9_load_45 rfl kl_1 ?_
      refine J_lc_ne C 47 50 54 dX9_load_46 rfl dX9_load_47 rfl rfl (fun c => ?_) (fun c => ?_)
      · have h := h.1 c
        refine J_iconst C 55 dX9_load_54 rfl ki_0 ?_
        refine J_loc [0, 1, 2] rfl ?_
        exact wk_X9_load_c55 C hr hk ih v0s_17 y2 y3 0 y3 h
      · have h := h.2 c
        refine J_iconst C 51 dX9_load_50 rfl ki_1 ?_
        refine J_goto C 55 dX9_load_51 rfl ?_
        refine J_loc [0, 1, 2] rfl ?_
        exact wk_X9_load_c55 C hr hk ih v0s_17 y2 y3 1 y3 h
def wp_X9_load (v0 : Vl) (x1 : Int32) (Q : Vl → Prop) : Prop := ∀ x_1 : Int32, x_1 = (410 * x1) → (∃ k : Nat, wp_X9_load_c8  Q k v0 x_1 0)
set_option maxHeartbeats 4000000 in
set_option maxRecDepth 100000 in
theorem c_X9_load (l : Launch) (D : GG) (cI cJ cZ cS : ClassId) (a0 : Nat) (r0 : Nat → Nat) (v0 : Vl) (x1 : Int32) (Q : Vl → Prop) (h : wp_X9_load v0 x1 Q) : Mv l D (tyL cI cJ cZ cS) yX9_load cX9_load 4 0 0 [.ref a0, .int x1] (List.flatten [bX9 cI cJ cZ a0 r0 v0]) (fun (u : Vl) => Q u) (fun (u : Vl) => List.flatten [bX9 cI cJ cZ a0 r0 u]) := by
  refine Mv_of RX9 [(0, .ref a0), (1, .int x1)] (by decide +kernel) rfl rfl (Nat.le_of_ble_eq_true rfl) ?_
  intro p e s m args below meth c A C hr hk
  refine J_sipush C 3 dX9_load_0 rfl ks_410 ?_
  refine J_iload_n C 4 dX9_load_3 rfl rfl ?_
  refine J_imul C 5 dX9_load_4 rfl ?_
  obtain ⟨x_1, ex_1⟩ : ∃ z : Int32, z = (410 * x1) := ⟨_, rfl⟩
  have h := h x_1 ex_1
  refine J_nmi ex_1 ?_
  refine J_istore_n C 6 [(2, .int x_1), (0, .ref a0), (1, .int x1)] dX9_load_5 rfl (by decide) rfl ?_
  refine J_iconst C 7 dX9_load_6 rfl ki_0 ?_
  refine J_istore_n C 8 [(3, .int 0), (2, .int x_1), (0, .ref a0), (1, .int x1)] dX9_load_7 rfl (by decide) rfl ?_
  refine J_loc [2, 1, 0] rfl ?_
  obtain ⟨n1, h⟩ := h
  exact wk_X9_load_c8 C hr hk n1 v0 x_1 0 h
