def wp_X9_takeClause_c228  (Q : Int32 → Vl → Prop) (v0 : Vl) (s0 : Int32) : Prop := wp_X9_fails v0 s0 (v0.1 34) (fun r_16 u_15 => Q r_16 u_15)
set_option maxHeartbeats 4000000 in
set_option maxRecDepth 100000 in
theorem wk_X9_takeClause_c228 {p : Program} {l : Launch} {e : Env} {s : State} {m : MethodId} {args : Array Value} {below : List Frame} {meth : Method} {c : Code} {D : GG} {A : Nat → Prop} {cI cJ cZ cS : ClassId} {a0 : Nat} {r0 : Nat → Nat}  {Q : Int32 → Vl → Prop} (C : Cx p s m args c D (tyL cI cJ cZ cS) A RX9 cX9_takeClause 4) (hr : meth.sig.returnType = some .int) (hk : meth.locks = false) : ∀ (v0 : Vl) (s0 : Int32), wp_X9_takeClause_c228  Q v0 s0 → J p l e (rmk 4 96) s m args below meth c D A 4 0 0 (MQ below (va_Qi (fun (r : Int32) (u : Vl) => Q r u) (fun u t => va_P D.1 vwCl ((fun (u : Vl) => List.flatten [bX9 cI cJ cZ a0 r0 u]) u) t.heap ∧ va_D A ((fun (u : Vl) => List.flatten [bX9 cI cJ cZ a0 r0 u]) u)) A) args s 0 0 A) 228 [(0, .ref a0)] [.int s0, .ref a0] (List.flatten [bX9 cI cJ cZ a0 r0 v0]) := by
  intro v0 s0 h
  refine J_aload_n C 229 dX9_takeClause_228 rfl rfl ?_
  refine J_get C 232 9 inlX9 0 34 rfl rfl (by decide) wd402 rfl rfl dX9_takeClause_229 rfl ?_
  refine J_callBiV (Bs := [bX9 cI cJ cZ a0 r0 v0]) (As := [.int s0, .int (v0.1 34)]) C 235 (c_X9_fails l D cI cJ cZ cS a0 r0 v0 s0 (v0.1 34) _ h) wd438 wd435 wd5 wd436 wd437 9 0 rfl rfl rfl hdX9_fails ⟨Nat.le_of_ble_eq_true rfl, Nat.le_of_ble_eq_true rfl⟩ ⟨Nat.zero_le _, Nat.zero_le _⟩ rfl (Nat.le_of_ble_eq_true rfl) [0] [] 1 rfl (by decide +kernel) rfl rfl (fun (u : Vl) => [bX9 cI cJ cZ a0 r0 u]) (fun _ => rfl) [0] (by decide +kernel) (fun _ => rfl) rfl (fun (u : Vl) => [bX9 cI cJ cZ a0 r0 u]) (fun _ => rfl) dX9_takeClause_232 rfl (fun r_16 u h => ?_)
  obtain ⟨u_15, hu⟩ : ∃ z, z = u := ⟨_, rfl⟩
  subst hu
  exact J_iret C hr hk u_15 rfl dX9_takeClause_235 h
def wp_X9_takeClause_c218  (Q : Int32 → Vl → Prop) (v0 : Vl) (y2 : Int32) : Prop := ((0 ≤ y2 → wp_X9_takeClause_c228  Q v0 3) ∧ (¬ 0 ≤ y2 → wp_X9_takeClause_c228  Q v0 1))
set_option maxHeartbeats 4000000 in
set_option maxRecDepth 100000 in
theorem wk_X9_takeClause_c218 {p : Program} {l : Launch} {e : Env} {s : State} {m : MethodId} {args : Array Value} {below : List Frame} {meth : Method} {c : Code} {D : GG} {A : Nat → Prop} {cI cJ cZ cS : ClassId} {a0 : Nat} {r0 : Nat → Nat}  {Q : Int32 → Vl → Prop} (C : Cx p s m args c D (tyL cI cJ cZ cS) A RX9 cX9_takeClause 4) (hr : meth.sig.returnType = some .int) (hk : meth.locks = false) : ∀ (v0 : Vl) (y2 : Int32), wp_X9_takeClause_c218  Q v0 y2 → J p l e (rmk 4 96) s m args below meth c D A 4 0 0 (MQ below (va_Qi (fun (r : Int32) (u : Vl) => Q r u) (fun u t => va_P D.1 vwCl ((fun (u : Vl) => List.flatten [bX9 cI cJ cZ a0 r0 u]) u) t.heap ∧ va_D A ((fun (u : Vl) => List.flatten [bX9 cI cJ cZ a0 r0 u]) u)) A) args s 0 0 A) 218 [(0, .ref a0), (2, .int y2)] [] (List.flatten [bX9 cI cJ cZ a0 r0 v0]) := by
  intro v0 y2 h
  refine J_aload_n C 219 dX9_takeClause_218 rfl rfl ?_
  refine J_iload_n C 220 dX9_takeClause_219 rfl rfl ?_
  refine J_if_ge C 223 227 dX9_takeClause_220 rfl rfl (fun c => ?_) (fun c => ?_)
  · have h := h.1 c
    refine J_iconst C 228 dX9_takeClause_227 rfl ki_3 ?_
    refine J_loc [0] rfl ?_
    exact wk_X9_takeClause_c228 C hr hk v0 3 h
  · have h := h.2 c
    refine J_iconst C 224 dX9_takeClause_223 rfl ki_1 ?_
    refine J_goto C 228 dX9_takeClause_224 rfl ?_
    refine J_loc [0] rfl ?_
    exact wk_X9_takeClause_c228 C hr hk v0 1 h
def wp_X9_takeClause_c320  (Q : Int32 → Vl → Prop) (v0 : Vl) (y3 : Int32) : Prop := ∀ v0s_22 : Vl, v0s_22 = setI v0 34 ((v0.1 34) + 1) → Q y3 v0s_22
set_option maxHeartbeats 4000000 in
set_option maxRecDepth 100000 in
theorem wk_X9_takeClause_c320 {p : Program} {l : Launch} {e : Env} {s : State} {m : MethodId} {args : Array Value} {below : List Frame} {meth : Method} {c : Code} {D : GG} {A : Nat → Prop} {cI cJ cZ cS : ClassId} {a0 : Nat} {r0 : Nat → Nat}  {Q : Int32 → Vl → Prop} (C : Cx p s m args c D (tyL cI cJ cZ cS) A RX9 cX9_takeClause 4) (hr : meth.sig.returnType = some .int) (hk : meth.locks = false) : ∀ (v0 : Vl) (y3 : Int32), wp_X9_takeClause_c320  Q v0 y3 → J p l e (rmk 4 96) s m args below meth c D A 4 0 0 (MQ below (va_Qi (fun (r : Int32) (u : Vl) => Q r u) (fun u t => va_P D.1 vwCl ((fun (u : Vl) => List.flatten [bX9 cI cJ cZ a0 r0 u]) u) t.heap ∧ va_D A ((fun (u : Vl) => List.flatten [bX9 cI cJ cZ a0 r0 u]) u)) A) args s 0 0 A) 320 [(0, .ref a0), (3, .int y3)] [] (List.flatten [bX9 cI cJ cZ a0 r0 v0]) := by
  intro v0 y3 h
  refine J_aload_n C 321 dX9_takeClause_320 rfl rfl ?_
  refine J_dup C 322 dX9_takeClause_321 rfl rfl ?_
  refine J_get C 325 9 inlX9 0 34 rfl rfl (by decide) wd402 rfl rfl dX9_takeClause_322 rfl ?_
  refine J_iconst C 326 dX9_takeClause_325 rfl ki_1 ?_
  refine J_iadd C 327 dX9_takeClause_326 rfl ?_
  obtain ⟨v0s_22, ev0s_22⟩ : ∃ z : Vl, z = setI v0 34 ((v0.1 34) + 1) := ⟨_, rfl⟩
  have h := h v0s_22 ev0s_22
  refine J_put C 330 9 inlX9 tyX9 tyX9_ok nmX9 0 34 rfl rfl (by decide) wd402 rfl rfl rfl rfl rfl (List.flatten [bX9 cI cJ cZ a0 r0 v0s_22]) (by subst ev0s_22; rfl) dX9_takeClause_327 rfl ?_
  refine J_iload_n C 331 dX9_takeClause_330 rfl rfl ?_
  exact J_iret C hr hk v0s_22 rfl dX9_takeClause_331 h
def wp_X9_takeClause_c296  (Q : Int32 → Vl → Prop) (v0 : Vl) (s0 : Int32) : Prop := ((¬ s0 = 0 → wp_X9_takeClause_c320  Q v0 s0) ∧ (s0 = 0 → wp_X9_here v0 (fun r_24 u_23 => ((r_24 = 59 → wp_X9_takeClause_c320  Q u_23 s0) ∧ (¬ r_24 = 59 → wp_X9_fails u_23 1 (u_23.1 34) (fun r_26 u_25 => Q r_26 u_25))))))
set_option maxHeartbeats 4000000 in
set_option maxRecDepth 100000 in
theorem wk_X9_takeClause_c296 {p : Program} {l : Launch} {e : Env} {s : State} {m : MethodId} {args : Array Value} {below : List Frame} {meth : Method} {c : Code} {D : GG} {A : Nat → Prop} {cI cJ cZ cS : ClassId} {a0 : Nat} {r0 : Nat → Nat}  {Q : Int32 → Vl → Prop} (C : Cx p s m args c D (tyL cI cJ cZ cS) A RX9 cX9_takeClause 4) (hr : meth.sig.returnType = some .int) (hk : meth.locks = false) : ∀ (v0 : Vl) (s0 : Int32), wp_X9_takeClause_c296  Q v0 s0 → J p l e (rmk 4 96) s m args below meth c D A 4 0 0 (MQ below (va_Qi (fun (r : Int32) (u : Vl) => Q r u) (fun u t => va_P D.1 vwCl ((fun (u : Vl) => List.flatten [bX9 cI cJ cZ a0 r0 u]) u) t.heap ∧ va_D A ((fun (u : Vl) => List.flatten [bX9 cI cJ cZ a0 r0 u]) u)) A) args s 0 0 A) 296 [(0, .ref a0)] [.int s0] (List.flatten [bX9 cI cJ cZ a0 r0 v0]) := by
  intro v0 s0 h
  refine J_istore_n C 297 [(3, .int s0), (0, .ref a0)] dX9_takeClause_296 rfl (by decide) rfl ?_
  refine J_iload_n C 298 dX9_takeClause_297 rfl rfl ?_
  refine J_if_ne C 301 320 dX9_takeClause_298 rfl rfl (fun c => ?_) (fun c => ?_)
  · have h := h.1 c
    refine J_loc [1, 0] rfl ?_
    exact wk_X9_takeClause_c320 C hr hk v0 s0 h
  · have h := h.2 c
    refine J_aload_n C 302 dX9_takeClause_301 rfl rfl ?_
    refine J_callBiV (Bs := [bX9 cI cJ cZ a0 r0 v0]) (As := []) C 305 (c_X9_here l D cI cJ cZ cS a0 r0 v0 _ h) wd409 wd406 wd5 wd407 wd408 9 0 rfl rfl rfl hdX9_here ⟨Nat.le_of_ble_eq_true rfl, Nat.le_of_ble_eq_true rfl⟩ ⟨Nat.zero_le _, Nat.zero_le _⟩ rfl (Nat.le_of_ble_eq_true rfl) [0] [] 1 rfl (by decide +kernel) rfl rfl (fun (u : Vl) => [bX9 cI cJ cZ a0 r0 u]) (fun _ => rfl) [0] (by decide +kernel) (fun _ => rfl) rfl (fun (u : Vl) => [bX9 cI cJ cZ a0 r0 u]) (fun _ => rfl) dX9_takeClause_302 rfl (fun r_24 u h => ?_)
    obtain ⟨u_23, hu⟩ : ∃ z, z = u := ⟨_, rfl⟩
    subst hu
    refine J_bipush C 307 dX9_takeClause_305 rfl kb_59 ?_
    refine J_icmp_eq C 310 320 dX9_takeClause_307 rfl rfl (fun c => ?_) (fun c => ?_)
    · have h := h.1 c
      refine J_loc [1, 0] rfl ?_
      exact wk_X9_takeClause_c320 C hr hk u_23 s0 h
    · have h := h.2 c
      refine J_aload_n C 311 dX9_takeClause_310 rfl rfl ?_
      refine J_iconst C 312 dX9_takeClause_311 rfl ki_1 ?_
      refine J_aload_n C 313 dX9_takeClause_312 rfl rfl ?_
      refine J_get C 316 9 inlX9 0 34 rfl rfl (by decide) wd402 rfl rfl dX9_takeClause_313 rfl ?_
      refine J_callBiV (Bs := [bX9 cI cJ cZ a0 r0 u_23]) (As := [.int 1, .int (u_23.1 34)]) C 319 (c_X9_fails l D cI cJ cZ cS a0 r0 u_23 1 (u_23.1 34) _ h) wd438 wd435 wd5 wd436 wd437 9 0 rfl rfl rfl hdX9_fails ⟨Nat.le_of_ble_eq_true rfl, Nat.le_of_ble_eq_true rfl⟩ ⟨Nat.zero_le _, Nat.zero_le _⟩ rfl (Nat.le_of_ble_eq_true rfl) [0] [] 1 rfl (by decide +kernel) rfl rfl (fun (u : Vl) => [bX9 cI cJ cZ a0 r0 u]) (fun _ => rfl) [0] (by decide +kernel) (fun _ => rfl) rfl (fun (u : Vl) => [bX9 cI cJ cZ a0 r0 u]) (fun _ => rfl) dX9_takeClause_316 rfl (fun r_26 u h => ?_)
      obtain ⟨u_25, hu⟩ : ∃ z, z = u := ⟨_, rfl⟩
      subst hu
      exact J_iret C hr hk u_25 rfl dX9_takeClause_319 h
def wp_X9_takeClause_c236  (Q : Int32 → Vl → Prop) (v0 : Vl) (y2 : Int32) : Prop := ∀ v0s_18 : Vl, v0s_18 = setI v0 34 (v0.1 36) → ∀ v0s_19 : Vl, v0s_19 = setI v0s_18 45 ((v0s_18.1 45) ||| (1 <<< (y2 &&& 31))) → ((¬ y2 = 0 → ((4 ≤ y2 → ((¬ y2 = 4 → wp_X9_takeOdds v0s_19 (fun r_21 u_20 => wp_X9_takeClause_c296  Q u_20 r_21)) ∧ (y2 = 4 → wp_X9_takeNights v0s_19 (fun r_28 u_27 => wp_X9_takeClause_c296  Q u_27 r_28)))) ∧ (¬ 4 ≤ y2 → wp_X9_takeOnce v0s_19 y2 (fun r_30 u_29 => wp_X9_takeClause_c296  Q u_29 r_30)))) ∧ (y2 = 0 → wp_X9_takeLight v0s_19 (fun r_32 u_31 => wp_X9_takeClause_c296  Q u_31 r_32)))
set_option maxHeartbeats 4000000 in
set_option maxRecDepth 100000 in
theorem wk_X9_takeClause_c236 {p : Program} {l : Launch} {e : Env} {s : State} {m : MethodId} {args : Array Value} {below : List Frame} {meth : Method} {c : Code} {D : GG} {A : Nat → Prop} {cI cJ cZ cS : ClassId} {a0 : Nat} {r0 : Nat → Nat}  {Q : Int32 → Vl → Prop} (C : Cx p s m args c D (tyL cI cJ cZ cS) A RX9 cX9_takeClause 4) (hr : meth.sig.returnType = some .int) (hk : meth.locks = false) : ∀ (v0 : Vl) (y2 : Int32), wp_X9_takeClause_c236  Q v0 y2 → J p l e (rmk 4 96) s m args below meth c D A 4 0 0 (MQ below (va_Qi (fun (r : Int32) (u : Vl) => Q r u) (fun u t => va_P D.1 vwCl ((fun (u : Vl) => List.flatten [bX9 cI cJ cZ a0 r0 u]) u) t.heap ∧ va_D A ((fun (u : Vl) => List.flatten [bX9 cI cJ cZ a0 r0 u]) u)) A) args s 0 0 A) 236 [(0, .ref a0), (2, .int y2)] [] (List.flatten [bX9 cI cJ cZ a0 r0 v0]) := by
  intro v0 y2 h
  refine J_aload_n C 237 dX9_takeClause_236 rfl rfl ?_
  refine J_aload_n C 238 dX9_takeClause_237 rfl rfl ?_
  refine J_get C 241 9 inlX9 0 36 rfl rfl (by decide) wd415 rfl rfl dX9_takeClause_238 rfl ?_
  obtain ⟨v0s_18, ev0s_18⟩ : ∃ z : Vl, z = setI v0 34 (v0.1 36) := ⟨_, rfl⟩
  have h := h v0s_18 ev0s_18
  refine J_put C 244 9 inlX9 tyX9 tyX9_ok nmX9 0 34 rfl rfl (by decide) wd402 rfl rfl rfl rfl rfl (List.flatten [bX9 cI cJ cZ a0 r0 v0s_18]) (by subst ev0s_18; rfl) dX9_takeClause_241 rfl ?_
  refine J_aload_n C 245 dX9_takeClause_244 rfl rfl ?_
  refine J_dup C 246 dX9_takeClause_245 rfl rfl ?_
  refine J_get C 249 9 inlX9 0 45 rfl rfl (by decide) wd404 rfl rfl dX9_takeClause_246 rfl ?_
  refine J_iconst C 250 dX9_takeClause_249 rfl ki_1 ?_
  refine J_iload_n C 251 dX9_takeClause_250 rfl rfl ?_
  refine J_ishl C 252 dX9_takeClause_251 rfl ?_
  refine J_ior C 253 dX9_takeClause_252 rfl ?_
  obtain ⟨v0s_19, ev0s_19⟩ : ∃ z : Vl, z = setI v0s_18 45 ((v0s_18.1 45) ||| (1 <<< (y2 &&& 31))) := ⟨_, rfl⟩
  have h := h v0s_19 ev0s_19
  refine J_put C 256 9 inlX9 tyX9 tyX9_ok nmX9 0 45 rfl rfl (by decide) wd404 rfl rfl rfl rfl rfl (List.flatten [bX9 cI cJ cZ a0 r0 v0s_19]) (by subst ev0s_19; rfl) dX9_takeClause_253 rfl ?_
  refine J_iload_n C 257 dX9_takeClause_256 rfl rfl ?_
  refine J_if_ne C 260 267 dX9_takeClause_257 rfl rfl (fun c => ?_) (fun c => ?_)
  · have h := h.1 c
    refine J_iload_n C 268 dX9_takeClause_267 rfl rfl ?_
    refine J_iconst C 269 dX9_takeClause_268 rfl ki_4 ?_
    refine J_icmp_ge C 272 280 dX9_takeClause_269 rfl rfl (fun c => ?_) (fun c => ?_)
    · have h := h.1 c
      refine J_iload_n C 281 dX9_takeClause_280 rfl rfl ?_
      refine J_iconst C 282 dX9_takeClause_281 rfl ki_4 ?_
      refine J_icmp_ne C 285 292 dX9_takeClause_282 rfl rfl (fun c => ?_) (fun c => ?_)
      · have h := h.1 c
        refine J_aload_n C 293 dX9_takeClause_292 rfl rfl ?_
        refine J_callBiV (Bs := [bX9 cI cJ cZ a0 r0 v0s_19]) (As := []) C 296 (c_X9_takeOdds l D cI cJ cZ cS a0 r0 v0s_19 _ h) wd467 wd464 wd5 wd465 wd466 9 0 rfl rfl rfl hdX9_takeOdds ⟨Nat.le_of_ble_eq_true rfl, Nat.le_of_ble_eq_true rfl⟩ ⟨Nat.zero_le _, Nat.zero_le _⟩ rfl (Nat.le_of_ble_eq_true rfl) [0] [] 1 rfl (by decide +kernel) rfl rfl (fun (u : Vl) => [bX9 cI cJ cZ a0 r0 u]) (fun _ => rfl) [0] (by decide +kernel) (fun _ => rfl) rfl (fun (u : Vl) => [bX9 cI cJ cZ a0 r0 u]) (fun _ => rfl) dX9_takeClause_293 rfl (fun r_21 u h => ?_)
        obtain ⟨u_20, hu⟩ : ∃ z, z = u := ⟨_, rfl⟩
        subst hu
        refine J_loc [0] rfl ?_
        exact wk_X9_takeClause_c296 C hr hk u_20 r_21 h
      · have h := h.2 c
        refine J_aload_n C 286 dX9_takeClause_285 rfl rfl ?_
        refine J_callBiV (Bs := [bX9 cI cJ cZ a0 r0 v0s_19]) (As := []) C 289 (c_X9_takeNights l D cI cJ cZ cS a0 r0 v0s_19 _ h) wd463 wd460 wd5 wd461 wd462 9 0 rfl rfl rfl hdX9_takeNights ⟨Nat.le_of_ble_eq_true rfl, Nat.le_of_ble_eq_true rfl⟩ ⟨Nat.zero_le _, Nat.zero_le _⟩ rfl (Nat.le_of_ble_eq_true rfl) [0] [] 1 rfl (by decide +kernel) rfl rfl (fun (u : Vl) => [bX9 cI cJ cZ a0 r0 u]) (fun _ => rfl) [0] (by decide +kernel) (fun _ => rfl) rfl (fun (u : Vl) => [bX9 cI cJ cZ a0 r0 u]) (fun _ => rfl) dX9_takeClause_286 rfl (fun r_28 u h => ?_)
        obtain ⟨u_27, hu⟩ : ∃ z, z = u := ⟨_, rfl⟩
        subst hu
        refine J_goto C 296 dX9_takeClause_289 rfl ?_
        refine J_loc [0] rfl ?_
        exact wk_X9_takeClause_c296 C hr hk u_27 r_28 h
    · have h := h.2 c
      refine J_aload_n C 273 dX9_takeClause_272 rfl rfl ?_
      refine J_iload_n C 274 dX9_takeClause_273 rfl rfl ?_
      refine J_callBiV (Bs := [bX9 cI cJ cZ a0 r0 v0s_19]) (As := [.int y2]) C 277 (c_X9_takeOnce l D cI cJ cZ cS a0 r0 v0s_19 y2 _ h) wd459 wd456 wd5 wd457 wd458 9 0 rfl rfl rfl hdX9_takeOnce ⟨Nat.le_of_ble_eq_true rfl, Nat.le_of_ble_eq_true rfl⟩ ⟨Nat.zero_le _, Nat.zero_le _⟩ rfl (Nat.le_of_ble_eq_true rfl) [0] [] 1 rfl (by decide +kernel) rfl rfl (fun (u : Vl) => [bX9 cI cJ cZ a0 r0 u]) (fun _ => rfl) [0] (by decide +kernel) (fun _ => rfl) rfl (fun (u : Vl) => [bX9 cI cJ cZ a0 r0 u]) (fun _ => rfl) dX9_takeClause_274 rfl (fun r_30 u h => ?_)
      obtain ⟨u_29, hu⟩ : ∃ z, z = u := ⟨_, rfl⟩
      subst hu
      refine J_goto C 296 dX9_takeClause_277 rfl ?_
      refine J_loc [0] rfl ?_
      exact wk_X9_takeClause_c296 C hr hk u_29 r_30 h
  · have h := h.2 c
    refine J_aload_n C 261 dX9_takeClause_260 rfl rfl ?_
    refine J_callBiV (Bs := [bX9 cI cJ cZ a0 r0 v0s_19]) (As := []) C 264 (c_X9_takeLight l D cI cJ cZ cS a0 r0 v0s_19 _ h) wd442 wd439 wd5 wd440 wd441 9 0 rfl rfl rfl hdX9_takeLight ⟨Nat.le_of_ble_eq_true rfl, Nat.le_of_ble_eq_true rfl⟩ ⟨Nat.zero_le _, Nat.zero_le _⟩ rfl (Nat.le_of_ble_eq_true rfl) [0] [] 1 rfl (by decide +kernel) rfl rfl (fun (u : Vl) => [bX9 cI cJ cZ a0 r0 u]) (fun _ => rfl) [0] (by decide +kernel) (fun _ => rfl) rfl (fun (u : Vl) => [bX9 cI cJ cZ a0 r0 u]) (fun _ => rfl) dX9_takeClause_261 rfl (fun r_32 u h => ?_)
    obtain ⟨u_31, hu⟩ : ∃ z, z = u := ⟨_, rfl⟩
    subst hu
    refine J_goto C 296 dX9_takeClause_264 rfl ?_
    refine J_loc [0] rfl ?_
    exact wk_X9_takeClause_c296 C hr hk u_31 r_32 h
def wp_X9_takeClause_c186  (Q : Int32 → Vl → Prop) (v0 : Vl) (s0 : Int32) : Prop := ((s0 < 0 → wp_X9_takeClause_c218  Q v0 s0) ∧ (¬ s0 < 0 → ((¬ s0 = 0 → wp_X9_has (v0.1 45) s0 (fun r_17 => ((r_17 = 0 → wp_X9_takeClause_c236  Q v0 s0) ∧ (¬ r_17 = 0 → wp_X9_takeClause_c218  Q v0 s0)))) ∧ (s0 = 0 → ((¬ (v0.1 39) = 9 → wp_X9_takeClause_c236  Q v0 s0) ∧ ((v0.1 39) = 9 → wp_X9_takeClause_c218  Q v0 s0))))))
set_option maxHeartbeats 4000000 in
set_option maxRecDepth 100000 in
theorem wk_X9_takeClause_c186 {p : Program} {l : Launch} {e : Env} {s : State} {m : MethodId} {args : Array Value} {below : List Frame} {meth : Method} {c : Code} {D : GG} {A : Nat → Prop} {cI cJ cZ cS : ClassId} {a0 : Nat} {r0 : Nat → Nat}  {Q : Int32 → Vl → Prop} (C : Cx p s m args c D (tyL cI cJ cZ cS) A RX9 cX9_takeClause 4) (hr : meth.sig.returnType = some .int) (hk : meth.locks = false) : ∀ (v0 : Vl) (s0 : Int32), wp_X9_takeClause_c186  Q v0 s0 → J p l e (rmk 4 96) s m args below meth c D A 4 0 0 (MQ below (va_Qi (fun (r : Int32) (u : Vl) => Q r u) (fun u t => va_P D.1 vwCl ((fun (u : Vl) => List.flatten [bX9 cI cJ cZ a0 r0 u]) u) t.heap ∧ va_D A ((fun (u : Vl) => List.flatten [bX9 cI cJ cZ a0 r0 u]) u)) A) args s 0 0 A) 186 [(0, .ref a0)] [.int s0] (List.flatten [bX9 cI cJ cZ a0 r0 v0]) := by
  intro v0 s0 h
  refine J_istore_n C 187 [(2, .int s0), (0, .ref a0)] dX9_takeClause_186 rfl (by decide) rfl ?_
  refine J_iload_n C 188 dX9_takeClause_187 rfl rfl ?_
  refine J_if_lt C 191 218 dX9_takeClause_188 rfl rfl (fun c => ?_) (fun c => ?_)
  · have h := h.1 c
    refine J_loc [1, 0] rfl ?_
    exact wk_X9_takeClause_c218 C hr hk v0 s0 h
  · have h := h.2 c
    refine J_iload_n C 192 dX9_takeClause_191 rfl rfl ?_
    refine J_if_ne C 195 207 dX9_takeClause_192 rfl rfl (fun c => ?_) (fun c => ?_)
    · have h := h.1 c
      refine J_aload_n C 208 dX9_takeClause_207 rfl rfl ?_
      refine J_get C 211 9 inlX9 0 45 rfl rfl (by decide) wd404 rfl rfl dX9_takeClause_208 rfl ?_
      refine J_iload_n C 212 dX9_takeClause_211 rfl rfl ?_
      refine J_callBiS (Bs := [bX9 cI cJ cZ a0 r0 v0]) (As := [.int (v0.1 45), .int s0]) C 215 (c_X9_has l D cI cJ cZ cS (v0.1 45) s0 _ h) wd434 wd432 wd5 wd433 hdX9_has ⟨Nat.le_of_ble_eq_true rfl, Nat.le_of_ble_eq_true rfl⟩ ⟨Nat.zero_le _, Nat.zero_le _⟩ rfl (Nat.le_of_ble_eq_true rfl) [] [0] 1 rfl (by decide +kernel) rfl rfl (fun (u : Unit) => ([] : List va_W)) (fun _ => rfl) [0] (by decide +kernel) (fun _ => rfl) rfl (fun (u : Unit) => [bX9 cI cJ cZ a0 r0 v0]) (fun _ => rfl) dX9_takeClause_212 rfl (fun r_17 u h => ?_)
      refine J_if_eq C 218 236 dX9_takeClause_215 rfl rfl (fun c => ?_) (fun c => ?_)
      · have h := h.1 c
        refine J_loc [1, 0] rfl ?_
        exact wk_X9_takeClause_c236 C hr hk v0 s0 h
      · have h := h.2 c
        refine J_loc [1, 0] rfl ?_
        exact wk_X9_takeClause_c218 C hr hk v0 s0 h
    · have h := h.2 c
      refine J_aload_n C 196 dX9_takeClause_195 rfl rfl ?_
      refine J_get C 199 9 inlX9 0 39 rfl rfl (by decide) wd403 rfl rfl dX9_takeClause_196 rfl ?_
      refine J_bipush C 201 dX9_takeClause_199 rfl kb_9 ?_
      refine J_icmp_ne C 204 236 dX9_takeClause_201 rfl rfl (fun c => ?_) (fun c => ?_)
      · have h := h.1 c
        refine J_loc [1, 0] rfl ?_
        exact wk_X9_takeClause_c236 C hr hk v0 s0 h
      · have h := h.2 c
        refine J_goto C 218 dX9_takeClause_204 rfl ?_
        refine J_loc [1, 0] rfl ?_
        exact wk_X9_takeClause_c218 C hr hk v0 s0 h
def wp_X9_takeClause_c94  (Q : Int32 → Vl → Prop) (v0 : Vl) (s0 : Int32) : Prop := ((s0 < 0 → wp_X9_code 104 101 110 (fun r_9 => wp_X9_longer r_9 115 0 (fun r_10 => ((¬ (v0.2.1 35) = r_10 → wp_X9_code 110 105 103 (fun r_11 => wp_X9_longer r_11 104 116 (fun r_12 => ((¬ (v0.2.1 35) = r_12 → wp_X9_code 111 100 100 (fun r_13 => wp_X9_longer r_13 115 0 (fun r_14 => ((¬ (v0.2.1 35) = r_14 → wp_X9_takeClause_c186  Q v0 (-1)) ∧ ((v0.2.1 35) = r_14 → wp_X9_takeClause_c186  Q v0 5))))) ∧ ((v0.2.1 35) = r_12 → wp_X9_takeClause_c186  Q v0 4))))) ∧ ((v0.2.1 35) = r_10 → wp_X9_takeClause_c186  Q v0 3))))) ∧ (¬ s0 < 0 → wp_X9_takeClause_c186  Q v0 s0))
set_option maxHeartbeats 4000000 in
set_option maxRecDepth 100000 in
theorem wk_X9_takeClause_c94 {p : Program} {l : Launch} {e : Env} {s : State} {m : MethodId} {args : Array Value} {below : List Frame} {meth : Method} {c : Code} {D : GG} {A : Nat → Prop} {cI cJ cZ cS : ClassId} {a0 : Nat} {r0 : Nat → Nat}  {Q : Int32 → Vl → Prop} (C : Cx p s m args c D (tyL cI cJ cZ cS) A RX9 cX9_takeClause 4) (hr : meth.sig.returnType = some .int) (hk : meth.locks = false) : ∀ (v0 : Vl) (s0 : Int32), wp_X9_takeClause_c94  Q v0 s0 → J p l e (rmk 4 96) s m args below meth c D A 4 0 0 (MQ below (va_Qi (fun (r : Int32) (u : Vl) => Q r u) (fun u t => va_P D.1 vwCl ((fun (u : Vl) => List.flatten [bX9 cI cJ cZ a0 r0 u]) u) t.heap ∧ va_D A ((fun (u : Vl) => List.flatten [bX9 cI cJ cZ a0 r0 u]) u)) A) args s 0 0 A) 94 [(0, .ref a0)] [.int s0] (List.flatten [bX9 cI cJ cZ a0 r0 v0]) := by
  intro v0 s0 h
  refine J_istore_n C 95 [(1, .int s0), (0, .ref a0)] dX9_takeClause_94 rfl (by decide) rfl ?_
  refine J_iload_n C 96 dX9_takeClause_95 rfl rfl ?_
  refine J_if_lt C 99 103 dX9_takeClause_96 rfl rfl (fun c => ?_) (fun c => ?_)
  · have h := h.1 c
    refine J_aload_n C 104 dX9_takeClause_103 rfl rfl ?_
    refine J_get C 107 9 inlX9 0 35 rfl rfl (by decide) wd414 rfl rfl dX9_takeClause_104 rfl ?_
    refine J_bipush C 109 dX9_takeClause_107 rfl kb_104 ?_
    refine J_bipush C 111 dX9_takeClause_109 rfl kb_101 ?_
    refine J_bipush C 113 dX9_takeClause_111 rfl kb_110 ?_
    refine J_callBlS (Bs := [bX9 cI cJ cZ a0 r0 v0]) (As := [.int 104, .int 101, .int 110]) C 116 (c_X9_code l D cI cJ cZ cS 104 101 110 _ h) wd428 wd426 wd5 wd427 hdX9_code ⟨Nat.le_of_ble_eq_true rfl, Nat.le_of_ble_eq_true rfl⟩ ⟨Nat.zero_le _, Nat.zero_le _⟩ rfl (Nat.le_of_ble_eq_true rfl) [] [0] 1 rfl (by decide +kernel) rfl rfl (fun (u : Unit) => ([] : List va_W)) (fun _ => rfl) [0] (by decide +kernel) (fun _ => rfl) rfl (fun (u : Unit) => [bX9 cI cJ cZ a0 r0 v0]) (fun _ => rfl) dX9_takeClause_113 rfl (fun r_9 u h => ?_)
    refine J_bipush C 118 dX9_takeClause_116 rfl kb_115 ?_
    refine J_iconst C 119 dX9_takeClause_118 rfl ki_0 ?_
    refine J_callBlS (Bs := [bX9 cI cJ cZ a0 r0 v0]) (As := [.long r_9, .int 115, .int 0]) C 122 (c_X9_longer l D cI cJ cZ cS r_9 115 0 _ h) wd431 wd429 wd5 wd430 hdX9_longer ⟨Nat.le_of_ble_eq_true rfl, Nat.le_of_ble_eq_true rfl⟩ ⟨Nat.zero_le _, Nat.zero_le _⟩ rfl (Nat.le_of_ble_eq_true rfl) [] [0] 1 rfl (by decide +kernel) rfl rfl (fun (u : Unit) => ([] : List va_W)) (fun _ => rfl) [0] (by decide +kernel) (fun _ => rfl) rfl (fun (u : Unit) => [bX9 cI cJ cZ a0 r0 v0]) (fun _ => rfl) dX9_takeClause_119 rfl (fun r_10 u h => ?_)
    refine J_lc_ne C 123 126 130 dX9_takeClause_122 rfl dX9_takeClause_123 rfl rfl (fun c => ?_) (fun c => ?_)
    · have h := h.1 c
      refine J_aload_n C 131 dX9_takeClause_130 rfl rfl ?_
      refine J_get C 134 9 inlX9 0 35 rfl rfl (by decide) wd414 rfl rfl dX9_takeClause_131 rfl ?_
      refine J_bipush C 136 dX9_takeClause_134 rfl kb_110 ?_
      refine J_bipush C 138 dX9_takeClause_136 rfl kb_105 ?_
      refine J_bipush C 140 dX9_takeClause_138 rfl kb_103 ?_
      refine J_callBlS (Bs := [bX9 cI cJ cZ a0 r0 v0]) (As := [.int 110, .int 105, .int 103]) C 143 (c_X9_code l D cI cJ cZ cS 110 105 103 _ h) wd428 wd426 wd5 wd427 hdX9_code ⟨Nat.le_of_ble_eq_true rfl, Nat.le_of_ble_eq_true rfl⟩ ⟨Nat.zero_le _, Nat.zero_le _⟩ rfl (Nat.le_of_ble_eq_true rfl) [] [0] 1 rfl (by decide +kernel) rfl rfl (fun (u : Unit) => ([] : List va_W)) (fun _ => rfl) [0] (by decide +kernel) (fun _ => rfl) rfl (fun (u : Unit) => [bX9 cI cJ cZ a0 r0 v0]) (fun _ => rfl) dX9_takeClause_140 rfl (fun r_11 u h => ?_)
      refine J_bipush C 145 dX9_takeClause_143 rfl kb_104 ?_
      refine J_bipush C 147 dX9_takeClause_145 rfl kb_116 ?_
      refine J_callBlS (Bs := [bX9 cI cJ cZ a0 r0 v0]) (As := [.long r_11, .int 104, .int 116]) C 150 (c_X9_longer l D cI cJ cZ cS r_11 104 116 _ h) wd431 wd429 wd5 wd430 hdX9_longer ⟨Nat.le_of_ble_eq_true rfl, Nat.le_of_ble_eq_true rfl⟩ ⟨Nat.zero_le _, Nat.zero_le _⟩ rfl (Nat.le_of_ble_eq_true rfl) [] [0] 1 rfl (by decide +kernel) rfl rfl (fun (u : Unit) => ([] : List va_W)) (fun _ => rfl) [0] (by decide +kernel) (fun _ => rfl) rfl (fun (u : Unit) => [bX9 cI cJ cZ a0 r0 v0]) (fun _ => rfl) dX9_takeClause_147 rfl (fun r_12 u h => ?_)
      refine J_lc_ne C 151 154 158 dX9_takeClause_150 rfl dX9_takeClause_151 rfl rfl (fun c => ?_) (fun c => ?_)
      · have h := h.1 c
        refine J_aload_n C 159 dX9_takeClause_158 rfl rfl ?_
        refine J_get C 162 9 inlX9 0 35 rfl rfl (by decide) wd414 rfl rfl dX9_takeClause_159 rfl ?_
        refine J_bipush C 164 dX9_takeClause_162 rfl kb_111 ?_
        refine J_bipush C 166 dX9_takeClause_164 rfl kb_100 ?_
        refine J_bipush C 168 dX9_takeClause_166 rfl kb_100 ?_
        refine J_callBlS (Bs := [bX9 cI cJ cZ a0 r0 v0]) (As := [.int 111, .int 100, .int 100]) C 171 (c_X9_code l D cI cJ cZ cS 111 100 100 _ h) wd428 wd426 wd5 wd427 hdX9_code ⟨Nat.le_of_ble_eq_true rfl, Nat.le_of_ble_eq_true rfl⟩ ⟨Nat.zero_le _, Nat.zero_le _⟩ rfl (Nat.le_of_ble_eq_true rfl) [] [0] 1 rfl (by decide +kernel) rfl rfl (fun (u : Unit) => ([] : List va_W)) (fun _ => rfl) [0] (by decide +kernel) (fun _ => rfl) rfl (fun (u : Unit) => [bX9 cI cJ cZ a0 r0 v0]) (fun _ => rfl) dX9_takeClause_168 rfl (fun r_13 u h => ?_)
        refine J_bipush C 173 dX9_takeClause_171 rfl kb_115 ?_
        refine J_iconst C 174 dX9_takeClause_173 rfl ki_0 ?_
        refine J_callBlS (Bs := [bX9 cI cJ cZ a0 r0 v0]) (As := [.long r_13, .int 115, .int 0]) C 177 (c_X9_longer l D cI cJ cZ cS r_13 115 0 _ h) wd431 wd429 wd5 wd430 hdX9_longer ⟨Nat.le_of_ble_eq_true rfl, Nat.le_of_ble_eq_true rfl⟩ ⟨Nat.zero_le _, Nat.zero_le _⟩ rfl (Nat.le_of_ble_eq_true rfl) [] [0] 1 rfl (by decide +kernel) rfl rfl (fun (u : Unit) => ([] : List va_W)) (fun _ => rfl) [0] (by decide +kernel) (fun _ => rfl) rfl (fun (u : Unit) => [bX9 cI cJ cZ a0 r0 v0]) (fun _ => rfl) dX9_takeClause_174 rfl (fun r_14 u h => ?_)
        refine J_lc_ne C 178 181 185 dX9_takeClause_177 rfl dX9_takeClause_178 rfl rfl (fun c => ?_) (fun c => ?_)
        · have h := h.1 c
          refine J_iconst C 186 dX9_takeClause_185 rfl ki_m1 ?_
          refine J_loc [1] rfl ?_
          exact wk_X9_takeClause_c186 C hr hk v0 (-1) h
        · have h := h.2 c
          refine J_iconst C 182 dX9_takeClause_181 rfl ki_5 ?_
          refine J_goto C 186 dX9_takeClause_182 rfl ?_
          refine J_loc [1] rfl ?_
          exact wk_X9_takeClause_c186 C hr hk v0 5 h
      · have h := h.2 c
        refine J_iconst C 155 dX9_takeClause_154 rfl ki_4 ?_
        refine J_goto C 186 dX9_takeClause_155 rfl ?_
        refine J_loc [1] rfl ?_
        exact wk_X9_takeClause_c186 C hr hk v0 4 h
    · have h := h.2 c
      refine J_iconst C 127 dX9_takeClause_126 rfl ki_3 ?_
      refine J_goto C 186 dX9_takeClause_127 rfl ?_
      refine J_loc [1] rfl ?_
      exact wk_X9_takeClause_c186 C hr hk v0 3 h
  · have h := h.2 c
    refine J_iload_n C 100 dX9_takeClause_99 rfl rfl ?_
    refine J_goto C 186 dX9_takeClause_100 rfl ?_
    refine J_loc [1] rfl ?_
    exact wk_X9_takeClause_c186 C hr hk v0 s0 h
def wp_X9_takeClause (v0 : Vl)  (Q : Int32 → Vl → Prop) : Prop := wp_X9_readWord v0 (fun u_1 => wp_X9_code 108 105 103 (fun r_2 => wp_X9_longer r_2 104 116 (fun r_3 => ((¬ (u_1.2.1 35) = r_3 → wp_X9_code 98 111 97 (fun r_4 => wp_X9_longer r_4 116 0 (fun r_5 => ((¬ (u_1.2.1 35) = r_5 → wp_X9_code 98 97 114 (fun r_6 => wp_X9_longer r_6 114 101 (fun r_7 => wp_X9_longer r_7 108 0 (fun r_8 => ((¬ (u_1.2.1 35) = r_8 → wp_X9_takeClause_c94  Q u_1 (-1)) ∧ ((u_1.2.1 35) = r_8 → wp_X9_takeClause_c94  Q u_1 2)))))) ∧ ((u_1.2.1 35) = r_5 → wp_X9_takeClause_c94  Q u_1 1))))) ∧ ((u_1.2.1 35) = r_3 → wp_X9_takeClause_c94  Q u_1 0)))))
set_option maxHeartbeats 4000000 in
set_option maxRecDepth 100000 in
theorem c_X9_takeClause (l : Launch) (D : GG) (cI cJ cZ cS : ClassId) (a0 : Nat) (r0 : Nat → Nat) (v0 : Vl)  (Q : Int32 → Vl → Prop) (h : wp_X9_takeClause v0 Q) : Mi l D (tyL cI cJ cZ cS) yX9_takeClause cX9_takeClause 4 .int 4 96 [.ref a0] (List.flatten [bX9 cI cJ cZ a0 r0 v0]) (fun (r : Int32) (u : Vl) => Q r u) (fun (u : Vl) => List.flatten [bX9 cI cJ cZ a0 r0 u]) := by
  refine Mi_of RX9 [(0, .ref a0)] (by decide +kernel) rfl rfl (Nat.le_of_ble_eq_true rfl) ?_
  intro p e s m args below meth c A C hr hk
  refine J_aload_n C 1 dX9_takeClause_0 rfl rfl ?_
  refine J_callBvV (Bs := [bX9 cI cJ cZ a0 r0 v0]) (As := []) C 4 (c_X9_readWord l D cI cJ cZ cS a0 r0 v0 _ h) wd419 wd416 wd5 wd417 wd418 9 0 rfl rfl rfl hdX9_readWord ⟨Nat.le_of_ble_eq_true rfl, Nat.le_of_ble_eq_true rfl⟩ ⟨Nat.zero_le _, Nat.zero_le _⟩ rfl (Nat.le_of_ble_eq_true rfl) [0] [] 1 rfl (by decide +kernel) rfl rfl (fun (u : Vl) => [bX9 cI cJ cZ a0 r0 u]) (fun _ => rfl) [0] (by decide +kernel) (fun _ => rfl) rfl (fun (u : Vl) => [bX9 cI cJ cZ a0 r0 u]) (fun _ => rfl) dX9_takeClause_1 rfl (fun u h => ?_)
  obtain ⟨u_1, hu⟩ : ∃ z, z = u := ⟨_, rfl⟩
  subst hu
  refine J_aload_n C 5 dX9_takeClause_4 rfl rfl ?_
  refine J_get C 8 9 inlX9 0 35 rfl rfl (by decide) wd414 rfl rfl dX9_takeClause_5 rfl ?_
  refine J_bipush C 10 dX9_takeClause_8 rfl kb_108 ?_
  refine J_bipush C 12 dX9_takeClause_10 rfl kb_105 ?_
  refine J_bipush C 14 dX9_takeClause_12 rfl kb_103 ?_
  refine J_callBlS (Bs := [bX9 cI cJ cZ a0 r0 u_1]) (As := [.int 108, .int 105, .int 103]) C 17 (c_X9_code l D cI cJ cZ cS 108 105 103 _ h) wd428 wd426 wd5 wd427 hdX9_code ⟨Nat.le_of_ble_eq_true rfl, Nat.le_of_ble_eq_true rfl⟩ ⟨Nat.zero_le _, Nat.zero_le _⟩ rfl (Nat.le_of_ble_eq_true rfl) [] [0] 1 rfl (by decide +kernel) rfl rfl (fun (u : Unit) => ([] : List va_W)) (fun _ => rfl) [0] (by decide +kernel) (fun _ => rfl) rfl (fun (u : Unit) => [bX9 cI cJ cZ a0 r0 u_1]) (fun _ => rfl) dX9_takeClause_14 rfl (fun r_2 u h => ?_)
  refine J_bipush C 19 dX9_takeClause_17 rfl kb_104 ?_
  refine J_bipush C 21 dX9_takeClause_19 rfl kb_116 ?_
  refine J_callBlS (Bs := [bX9 cI cJ cZ a0 r0 u_1]) (As := [.long r_2, .int 104, .int 116]) C 24 (c_X9_longer l D cI cJ cZ cS r_2 104 116 _ h) wd431 wd429 wd5 wd430 hdX9_longer ⟨Nat.le_of_ble_eq_true rfl, Nat.le_of_ble_eq_true rfl⟩ ⟨Nat.zero_le _, Nat.zero_le _⟩ rfl (Nat.le_of_ble_eq_true rfl) [] [0] 1 rfl (by decide +kernel) rfl rfl (fun (u : Unit) => ([] : List va_W)) (fun _ => rfl) [0] (by decide +kernel) (fun _ => rfl) rfl (fun (u : Unit) => [bX9 cI cJ cZ a0 r0 u_1]) (fun _ => rfl) dX9_takeClause_21 rfl (fun r_3 u h => ?_)
  refine J_lc_ne C 25 28 32 dX9_takeClause_24 rfl dX9_takeClause_25 rfl rfl (fun c => ?_) (fun c => ?_)
  · have h := h.1 c
    refine J_aload_n C 33 dX9_takeClause_32 rfl rfl ?_
    refine J_get C 36 9 inlX9 0 35 rfl rfl (by decide) wd414 rfl rfl dX9_takeClause_33 rfl ?_
    refine J_bipush C 38 dX9_takeClause_36 rfl kb_98 ?_
    refine J_bipush C 40 dX9_takeClause_38 rfl kb_111 ?_
    refine J_bipush C 42 dX9_takeClause_40 rfl kb_97 ?_
    refine J_callBlS (Bs := [bX9 cI cJ cZ a0 r0 u_1]) (As := [.int 98, .int 111, .int 97]) C 45 (c_X9_code l D cI cJ cZ cS 98 111 97 _ h) wd428 wd426 wd5 wd427 hdX9_code ⟨Nat.le_of_ble_eq_true rfl, Nat.le_of_ble_eq_true rfl⟩ ⟨Nat.zero_le _, Nat.zero_le _⟩ rfl (Nat.le_of_ble_eq_true rfl) [] [0] 1 rfl (by decide +kernel) rfl rfl (fun (u : Unit) => ([] : List va_W)) (fun _ => rfl) [0] (by decide +kernel) (fun _ => rfl) rfl (fun (u : Unit) => [bX9 cI cJ cZ a0 r0 u_1]) (fun _ => rfl) dX9_takeClause_42 rfl (fun r_4 u h => ?_)
    refine J_bipush C 47 dX9_takeClause_45 rfl kb_116 ?_
    refine J_iconst C 48 dX9_takeClause_47 rfl ki_0 ?_
    refine J_callBlS (Bs := [bX9 cI cJ cZ a0 r0 u_1]) (As := [.long r_4, .int 116, .int 0]) C 51 (c_X9_longer l D cI cJ cZ cS r_4 116 0 _ h) wd431 wd429 wd5 wd430 hdX9_longer ⟨Nat.le_of_ble_eq_true rfl, Nat.le_of_ble_eq_true rfl⟩ ⟨Nat.zero_le _, Nat.zero_le _⟩ rfl (Nat.le_of_ble_eq_true rfl) [] [0] 1 rfl (by decide +kernel) rfl rfl (fun (u : Unit) => ([] : List va_W)) (fun _ => rfl) [0] (by decide +kernel) (fun _ => rfl) rfl (fun (u : Unit) => [bX9 cI cJ cZ a0 r0 u_1]) (fun _ => rfl) dX9_takeClause_48 rfl (fun r_5 u h => ?_)
    refine J_lc_ne C 52 55 59 dX9_takeClause_51 rfl dX9_takeClause_52 rfl rfl (fun c => ?_) (fun c => ?_)
    · have h := h.1 c
      refine J_aload_n C 60 dX9_takeClause_59 rfl rfl ?_
      refine J_get C 63 9 inlX9 0 35 rfl rfl (by decide) wd414 rfl rfl dX9_takeClause_60 rfl ?_
      refine J_bipush C 65 dX9_takeClause_63 rfl kb_98 ?_
      refine J_bipush C 67 dX9_takeClause_65 rfl kb_97 ?_
      refine J_bipush C 69 dX9_takeClause_67 rfl kb_114 ?_
      refine J_callBlS (Bs := [bX9 cI cJ cZ a0 r0 u_1]) (As := [.int 98, .int 97, .int 114]) C 72 (c_X9_code l D cI cJ cZ cS 98 97 114 _ h) wd428 wd426 wd5 wd427 hdX9_code ⟨Nat.le_of_ble_eq_true rfl, Nat.le_of_ble_eq_true rfl⟩ ⟨Nat.zero_le _, Nat.zero_le _⟩ rfl (Nat.le_of_ble_eq_true rfl) [] [0] 1 rfl (by decide +kernel) rfl rfl (fun (u : Unit) => ([] : List va_W)) (fun _ => rfl) [0] (by decide +kernel) (fun _ => rfl) rfl (fun (u : Unit) => [bX9 cI cJ cZ a0 r0 u_1]) (fun _ => rfl) dX9_takeClause_69 rfl (fun r_6 u h => ?_)
      refine J_bipush C 74 dX9_takeClause_72 rfl kb_114 ?_
      refine J_bipush C 76 dX9_takeClause_74 rfl kb_101 ?_
      refine J_callBlS (Bs := [bX9 cI cJ cZ a0 r0 u_1]) (As := [.long r_6, .int 114, .int 101]) C 79 (c_X9_longer l D cI cJ cZ cS r_6 114 101 _ h) wd431 wd429 wd5 wd430 hdX9_longer ⟨Nat.le_of_ble_eq_true rfl, Nat.le_of_ble_eq_true rfl⟩ ⟨Nat.zero_le _, Nat.zero_le _⟩ rfl (Nat.le_of_ble_eq_true rfl) [] [0] 1 rfl (by decide +kernel) rfl rfl (fun (u : Unit) => ([] : List va_W)) (fun _ => rfl) [0] (by decide +kernel) (fun _ => rfl) rfl (fun (u : Unit) => [bX9 cI cJ cZ a0 r0 u_1]) (fun _ => rfl) dX9_takeClause_76 rfl (fun r_7 u h => ?_)
      refine J_bipush C 81 dX9_takeClause_79 rfl kb_108 ?_
      refine J_iconst C 82 dX9_takeClause_81 rfl ki_0 ?_
      refine J_callBlS (Bs := [bX9 cI cJ cZ a0 r0 u_1]) (As := [.long r_7, .int 108, .int 0]) C 85 (c_X9_longer l D cI cJ cZ cS r_7 108 0 _ h) wd431 wd429 wd5 wd430 hdX9_longer ⟨Nat.le_of_ble_eq_true rfl, Nat.le_of_ble_eq_true rfl⟩ ⟨Nat.zero_le _, Nat.zero_le _⟩ rfl (Nat.le_of_ble_eq_true rfl) [] [0] 1 rfl (by decide +kernel) rfl rfl (fun (u : Unit) => ([] : List va_W)) (fun _ => rfl) [0] (by decide +kernel) (fun _ => rfl) rfl (fun (u : Unit) => [bX9 cI cJ cZ a0 r0 u_1]) (fun _ => rfl) dX9_takeClause_82 rfl (fun r_8 u h => ?_)
      refine J_lc_ne C 86 89 93 dX9_takeClause_85 rfl dX9_takeClause_86 rfl rfl (fun c => ?_) (fun c => ?_)
      · have h := h.1 c
        refine J_iconst C 94 dX9_takeClause_93 rfl ki_m1 ?_
        refine J_loc [0] rfl ?_
        exact wk_X9_takeClause_c94 C hr hk u_1 (-1) h
      · have h := h.2 c
        refine J_iconst C 90 dX9_takeClause_89 rfl ki_2 ?_
        refine J_goto C 94 dX9_takeClause_90 rfl ?_
        refine J_loc [0] rfl ?_
        exact wk_X9_takeClause_c94 C hr hk u_1 2 h
    · have h := h.2 c
      refine J_iconst C 56 dX9_takeClause_55 rfl ki_1 ?_
      refine J_goto C 94 dX9_takeClause_56 rfl ?_
      refine J_loc [0] rfl ?_
      exact wk_X9_takeClause_c94 C hr hk u_1 1 h
  · have h := h.2 c
    refine J_iconst C 29 dX9_takeClause_28 rfl ki_0 ?_
    refine J_goto C 94 dX9_takeClause_29 rfl ?_
    refine J_loc [0] rfl ?_
    exact wk_X9_takeClause_c94 C hr hk u_1 0 h
def wp_X9_takeReef_c120  (Q : Vl → Prop) : Nat → Vl → Int32 → Prop
  | 0 => fun _ _ => False
  | n + 1 => fun v0 y1 => ((9 ≤ y1 → ∀ v0s_8 : Vl, v0s_8 = setI v0 56 0 → vp_in 0 2 ∧ (∀ v0s_9 : Vl, v0s_9 = setA v0s_8 50 (Int32.toNatClampNeg 0) (vp_nar .boolean 0) → vp_in 1 2 ∧ (∀ v0s_10 : Vl, v0s_10 = setA v0s_9 50 (Int32.toNatClampNeg 1) (vp_nar .boolean 0) → wp_X9_anew v0s_10 (fun u_11 => Q u_11)))) ∧ (¬ 9 ≤ y1 → vp_in y1 9 ∧ (vp_in y1 9 ∧ (∀ v0s_12 : Vl, v0s_12 = setA v0 9 (Int32.toNatClampNeg y1) (v0.2.2.1 44 (Int32.toNatClampNeg y1)) → vp_in y1 9 ∧ (∀ v0s_13 : Vl, v0s_13 = setA v0s_12 59 (Int32.toNatClampNeg y1) 0 → ∀ x_14 : Int32, x_14 = y1 + 1 → wp_X9_takeReef_c120  Q n v0s_13 x_14)))))
set_option maxHeartbeats 4000000 in
set_option maxRecDepth 100000 in
theorem wk_X9_takeReef_c120 {p : Program} {l : Launch} {e : Env} {s : State} {m : MethodId} {args : Array Value} {below : List Frame} {meth : Method} {c : Code} {D : GG} {A : Nat → Prop} {cI cJ cZ cS : ClassId} {a0 : Nat} {r0 : Nat → Nat}  {Q : Vl → Prop} (C : Cx p s m args c D (tyL cI cJ cZ cS) A RX9 cX9_takeReef 2) (hr : meth.sig.returnType = none) (hk : meth.locks = false) : ∀ (n : Nat) (v0 : Vl) (y1 : Int32), wp_X9_takeReef_c120  Q n v0 y1 → J p l e (rmk 1 21) s m args below meth c D A 2 0 0 (MQ below (va_Qv (fun (u : Vl) => Q u) (fun u t => va_P D.1 vwCl ((fun (u : Vl) => List.flatten [bX9 cI cJ cZ a0 r0 u]) u) t.heap ∧ va_D A ((fun (u : Vl) => List.flatten [bX9 cI cJ cZ a0 r0 u]) u)) A) args s 0 0 A) 120 [(0, .ref a0), (1, .int y1)] [] (List.flatten [bX9 cI cJ cZ a0 r0 v0]) := by
  intro n
  induction n with
  | zero =>
    intro v0 y1 h
    exact False.elim h
  | succ n ih =>
    intro v0 y1 h
    refine J_iload_n C 121 dX9_takeReef_120 rfl rfl ?_
    refine J_bipush C 123 dX9_takeReef_121 rfl kb_9 ?_
    refine J_icmp_ge C 126 151 dX9_takeReef_123 rfl rfl (fun c => ?_) (fun c => ?_)
    · have h := h.1 c
      refine J_aload_n C 152 dX9_takeReef_151 rfl rfl ?_
      refine J_iconst C 153 dX9_takeReef_152 rfl ki_0 ?_
      obtain ⟨v0s_8, ev0s_8⟩ : ∃ z : Vl, z = setI v0 56 0 := ⟨_, rfl⟩
      have h := h v0s_8 ev0s_8
      refine J_put C 156 9 inlX9 tyX9 tyX9_ok nmX9 0 56 rfl rfl (by decide) wd473 rfl rfl rfl rfl rfl (List.flatten [bX9 cI cJ cZ a0 r0 v0s_8]) (by subst ev0s_8; rfl) dX9_takeReef_153 rfl ?_
      refine J_aload_n C 157 dX9_takeReef_156 rfl rfl ?_
      refine J_get C 160 9 inlX9 0 50 rfl rfl (by decide) wd177 rfl rfl dX9_takeReef_157 rfl ?_
      refine J_iconst C 161 dX9_takeReef_160 rfl ki_0 ?_
      refine J_iconst C 162 dX9_takeReef_161 rfl ki_0 ?_
      obtain ⟨hi, h⟩ := h
      obtain ⟨v0s_9, ev0s_9⟩ : ∃ z : Vl, z = setA v0s_8 50 (Int32.toNatClampNeg 0) (vp_nar .boolean 0) := ⟨_, rfl⟩
      have h := h v0s_9 ev0s_9
      refine J_zast C 163 19 2 rfl rfl hi (List.flatten [bX9 cI cJ cZ a0 r0 v0s_9]) (by subst ev0s_9; rfl) dX9_takeReef_162 rfl ?_
      refine J_aload_n C 164 dX9_takeReef_163 rfl rfl ?_
      refine J_get C 167 9 inlX9 0 50 rfl rfl (by decide) wd177 rfl rfl dX9_takeReef_164 rfl ?_
      refine J_iconst C 168 dX9_takeReef_167 rfl ki_1 ?_
      refine J_iconst C 169 dX9_takeReef_168 rfl ki_0 ?_
      obtain ⟨hi, h⟩ := h
      obtain ⟨v0s_10, ev0s_10⟩ : ∃ z : Vl, z = setA v0s_9 50 (Int32.toNatClampNeg 1) (vp_nar .boolean 0) := ⟨_, rfl⟩
      have h := h v0s_10 ev0s_10
      refine J_zast C 170 19 2 rfl rfl hi (List.flatten [bX9 cI cJ cZ a0 r0 v0s_10]) (by subst ev0s_10; rfl) dX9_takeReef_169 rfl ?_
      refine J_aload_n C 171 dX9_takeReef_170 rfl rfl ?_
      refine J_callBvV (Bs := [bX9 cI cJ cZ a0 r0 v0s_10]) (As := []) C 174 (c_X9_anew l D cI cJ cZ cS a0 r0 v0s_10 _ h) wd190 wd187 wd5 wd188 wd189 9 0 rfl rfl rfl hdX9_anew ⟨Nat.le_of_ble_eq_true rfl, Nat.le_of_ble_eq_true rfl⟩ ⟨Nat.zero_le _, Nat.zero_le _⟩ rfl (Nat.le_of_ble_eq_true rfl) [0] [] 1 rfl (by decide +kernel) rfl rfl (fun (u : Vl) => [bX9 cI cJ cZ a0 r0 u]) (fun _ => rfl) [0] (by decide +kernel) (fun _ => rfl) rfl (fun (u : Vl) => [bX9 cI cJ cZ a0 r0 u]) (fun _ => rfl) dX9_takeReef_171 rfl (fun u h => ?_)
      obtain ⟨u_11, hu⟩ : ∃ z, z = u := ⟨_, rfl⟩
      subst hu
      exact J_vret C hr hk u_11 rfl dX9_takeReef_174 h
    · have h := h.2 c
      refine J_aload_n C 127 dX9_takeReef_126 rfl rfl ?_
      refine J_get C 130 9 inlX9 0 9 rfl rfl (by decide) wd159 rfl rfl dX9_takeReef_127 rfl ?_
      refine J_iload_n C 131 dX9_takeReef_130 rfl rfl ?_
      refine J_aload_n C 132 dX9_takeReef_131 rfl rfl ?_
      refine J_get C 135 9 inlX9 0 44 rfl rfl (by decide) wd173 rfl rfl dX9_takeReef_132 rfl ?_
      refine J_iload_n C 136 dX9_takeReef_135 rfl rfl ?_
      obtain ⟨hi, h⟩ := h
      refine J_iald C 137 15 0 rfl rfl hi dX9_takeReef_136 rfl ?_
      obtain ⟨hi, h⟩ := h
      obtain ⟨v0s_12, ev0s_12⟩ : ∃ z : Vl, z = setA v0 9 (Int32.toNatClampNeg y1) (v0.2.2.1 44 (Int32.toNatClampNeg y1)) := ⟨_, rfl⟩
      have h := h v0s_12 ev0s_12
      refine J_iast C 138 3 0 rfl rfl hi (List.flatten [bX9 cI cJ cZ a0 r0 v0s_12]) (by subst ev0s_12; rfl) dX9_takeReef_137 rfl ?_
      refine J_aload_n C 139 dX9_takeReef_138 rfl rfl ?_
      refine J_get C 142 9 inlX9 0 59 rfl rfl (by decide) wd185 rfl rfl dX9_takeReef_139 rfl ?_
      refine J_iload_n C 143 dX9_takeReef_142 rfl rfl ?_
      refine J_iconst C 144 dX9_takeReef_143 rfl ki_0 ?_
      obtain ⟨hi, h⟩ := h
      obtain ⟨v0s_13, ev0s_13⟩ : ∃ z : Vl, z = setA v0s_12 59 (Int32.toNatClampNeg y1) 0 := ⟨_, rfl⟩
      have h := h v0s_13 ev0s_13
      refine J_iast C 145 27 0 rfl rfl hi (List.flatten [bX9 cI cJ cZ a0 r0 v0s_13]) (by subst ev0s_13; rfl) dX9_takeReef_144 rfl ?_
      obtain ⟨x_14, ex_14⟩ : ∃ z : Int32, z = y1 + 1 := ⟨_, rfl⟩
      have h := h x_14 ex_14
      refine J_iinc C 148 [(1, .int x_14), (0, .ref a0)] dX9_takeReef_145 rfl rfl ((kinc_1 _).trans ex_14.symm) (by decide) rfl ?_
      refine J_goto C 120 dX9_takeReef_148 rfl ?_
      refine J_loc [1, 0] rfl ?_
      exact ih v0s_13 x_14 h
def wp_X9_takeReef_c94  (Q : Vl → Prop) : Nat → Vl → Int32 → Prop
  | 0 => fun _ _ => False
  | n + 1 => fun v0 y1 => ((12 ≤ y1 → (∃ k : Nat, wp_X9_takeReef_c120  Q k v0 0)) ∧ (¬ 12 ≤ y1 → vp_in y1 12 ∧ (vp_in y1 12 ∧ (∀ v0s_15 : Vl, v0s_15 = setA v0 8 (Int32.toNatClampNeg y1) (v0.2.2.1 43 (Int32.toNatClampNeg y1)) → ∀ x_16 : Int32, x_16 = y1 + 1 → wp_X9_takeReef_c94  Q n v0s_15 x_16))))
set_option maxHeartbeats 4000000 in
set_option maxRecDepth 100000 in
theorem wk_X9_takeReef_c94 {p : Program} {l : Launch} {e : Env} {s : State} {m : MethodId} {args : Array Value} {below : List Frame} {meth : Method} {c : Code} {D : GG} {A : Nat → Prop} {cI cJ cZ cS : ClassId} {a0 : Nat} {r0 : Nat → Nat}  {Q : Vl → Prop} (C : Cx p s m args c D (tyL cI cJ cZ cS) A RX9 cX9_takeReef 2) (hr : meth.sig.returnType = none) (hk : meth.locks = false) : ∀ (n : Nat) (v0 : Vl) (y1 : Int32), wp_X9_takeReef_c94  Q n v0 y1 → J p l e (rmk 1 21) s m args below meth c D A 2 0 0 (MQ below (va_Qv (fun (u : Vl) => Q u) (fun u t => va_P D.1 vwCl ((fun (u : Vl) => List.flatten [bX9 cI cJ cZ a0 r0 u]) u) t.heap ∧ va_D A ((fun (u : Vl) => List.flatten [bX9 cI cJ cZ a0 r0 u]) u)) A) args s 0 0 A) 94 [(0, .ref a0), (1, .int y1)] [] (List.flatten [bX9 cI cJ cZ a0 r0 v0]) := by
  intro n
  induction n with
  | zero =>
    intro v0 y1 h
    exact False.elim h
  | succ n ih =>
    intro v0 y1 h
    refine J_iload_n C 95 dX9_takeReef_94 rfl rfl ?_
    refine J_bipush C 97 dX9_takeReef_95 rfl kb_12 ?_
    refine J_icmp_ge C 100 118 dX9_takeReef_97 rfl rfl (fun c => ?_) (fun c => ?_)
    · have h := h.1 c
      refine J_iconst C 119 dX9_takeReef_118 rfl ki_0 ?_
      refine J_istore_n C 120 [(1, .int 0), (0, .ref a0)] dX9_takeReef_119 rfl (by decide) rfl ?_
      refine J_loc [1, 0] rfl ?_
      obtain ⟨n1, h⟩ := h
      exact wk_X9_takeReef_c120 C hr hk n1 v0 0 h
    · have h := h.2 c
      refine J_aload_n C 101 dX9_takeReef_100 rfl rfl ?_
      refine J_get C 104 9 inlX9 0 8 rfl rfl (by decide) wd158 rfl rfl dX9_takeReef_101 rfl ?_
      refine J_iload_n C 105 dX9_takeReef_104 rfl rfl ?_
      refine J_aload_n C 106 dX9_takeReef_105 rfl rfl ?_
      refine J_get C 109 9 inlX9 0 43 rfl rfl (by decide) wd172 rfl rfl dX9_takeReef_106 rfl ?_
      refine J_iload_n C 110 dX9_takeReef_109 rfl rfl ?_
      obtain ⟨hi, h⟩ := h
      refine J_iald C 111 14 0 rfl rfl hi dX9_takeReef_110 rfl ?_
      obtain ⟨hi, h⟩ := h
      obtain ⟨v0s_15, ev0s_15⟩ : ∃ z : Vl, z = setA v0 8 (Int32.toNatClampNeg y1) (v0.2.2.1 43 (Int32.toNatClampNeg y1)) := ⟨_, rfl⟩
      have h := h v0s_15 ev0s_15
      refine J_iast C 112 2 0 rfl rfl hi (List.flatten [bX9 cI cJ cZ a0 r0 v0s_15]) (by subst ev0s_15; rfl) dX9_takeReef_111 rfl ?_
      obtain ⟨x_16, ex_16⟩ : ∃ z : Int32, z = y1 + 1 := ⟨_, rfl⟩
      have h := h x_16 ex_16
      refine J_iinc C 115 [(1, .int x_16), (0, .ref a0)] dX9_takeReef_112 rfl rfl ((kinc_1 _).trans ex_16.symm) (by decide) rfl ?_
      refine J_goto C 94 dX9_takeReef_115 rfl ?_
      refine J_loc [1, 0] rfl ?_
      exact ih v0s_15 x_16 h
def wp_X9_takeReef_c10  (Q : Vl → Prop) : Nat → Vl → Int32 → Prop
  | 0 => fun _ _ => False
  | n + 1 => fun v0 y1 => ((45 ≤ y1 → vp_in 0 5 ∧ (∀ v0s_2 : Vl, v0s_2 = setI v0 2 (v0.2.2.1 41 (Int32.toNatClampNeg 0)) → vp_in 1 5 ∧ (∀ v0s_3 : Vl, v0s_3 = setI v0s_2 3 (v0s_2.2.2.1 41 (Int32.toNatClampNeg 1)) → vp_in 2 5 ∧ (∀ v0s_4 : Vl, v0s_4 = setI v0s_3 4 (v0s_3.2.2.1 41 (Int32.toNatClampNeg 2)) → vp_in 3 5 ∧ (∀ v0s_5 : Vl, v0s_5 = setI v0s_4 5 (v0s_4.2.2.1 41 (Int32.toNatClampNeg 3)) → vp_in 4 5 ∧ (∀ v0s_6 : Vl, v0s_6 = setI v0s_5 6 (v0s_5.2.2.1 41 (Int32.toNatClampNeg 4)) → ∀ v0s_7 : Vl, v0s_7 = setI v0s_6 7 (v0s_6.1 42) → (∃ k : Nat, wp_X9_takeReef_c94  Q k v0s_7 0))))))) ∧ (¬ 45 ≤ y1 → vp_in y1 45 ∧ (vp_in y1 45 ∧ (∀ v0s_17 : Vl, v0s_17 = setA v0 1 (Int32.toNatClampNeg y1) (v0.2.2.1 40 (Int32.toNatClampNeg y1)) → ∀ x_18 : Int32, x_18 = y1 + 1 → wp_X9_takeReef_c10  Q n v0s_17 x_18))))
set_option maxHeartbeats 4000000 in
set_option maxRecDepth 100000 in
theorem wk_X9_takeReef_c10 {p : Program} {l : Launch} {e : Env} {s : State} {m : MethodId} {args : Array Value} {below : List Frame} {meth : Method} {c : Code} {D : GG} {A : Nat → Prop} {cI cJ cZ cS : ClassId} {a0 : Nat} {r0 : Nat → Nat}  {Q : Vl → Prop} (C : Cx p s m args c D (tyL cI cJ cZ cS) A RX9 cX9_takeReef 2) (hr : meth.sig.returnType = none) (hk : meth.locks = false) : ∀ (n : Nat) (v0 : Vl) (y1 : Int32), wp_X9_takeReef_c10  Q n v0 y1 → J p l e (rmk 1 21) s m args below meth c D A 2 0 0 (MQ below (va_Qv (fun (u : Vl) => Q u) (fun u t => va_P D.1 vwCl ((fun (u : Vl) => List.flatten [bX9 cI cJ cZ a0 r0 u]) u) t.heap ∧ va_D A ((fun (u : Vl) => List.flatten [bX9 cI cJ cZ a0 r0 u]) u)) A) args s 0 0 A) 10 [(0, .ref a0), (1, .int y1)] [] (List.flatten [bX9 cI cJ cZ a0 r0 v0]) := by
  intro n
  induction n with
  | zero =>
    intro v0 y1 h
    exact False.elim h
  | succ n ih =>
    intro v0 y1 h
    refine J_iload_n C 11 dX9_takeReef_10 rfl rfl ?_
    refine J_bipush C 13 dX9_takeReef_11 rfl kb_45 ?_
    refine J_icmp_ge C 16 34 dX9_takeReef_13 rfl rfl (fun c => ?_) (fun c => ?_)
    · have h := h.1 c
      refine J_aload_n C 35 dX9_takeReef_34 rfl rfl ?_
      refine J_aload_n C 36 dX9_takeReef_35 rfl rfl ?_
      refine J_get C 39 9 inlX9 0 41 rfl rfl (by decide) wd171 rfl rfl dX9_takeReef_36 rfl ?_
      refine J_iconst C 40 dX9_takeReef_39 rfl ki_0 ?_
      obtain ⟨hi, h⟩ := h
      refine J_iald C 41 13 0 rfl rfl hi dX9_takeReef_40 rfl ?_
      obtain ⟨v0s_2, ev0s_2⟩ : ∃ z : Vl, z = setI v0 2 (v0.2.2.1 41 (Int32.toNatClampNeg 0)) := ⟨_, rfl⟩
      have h := h v0s_2 ev0s_2
      refine J_put C 44 9 inlX9 tyX9 tyX9_ok nmX9 0 2 rfl rfl (by decide) wd153 rfl rfl rfl rfl rfl (List.flatten [bX9 cI cJ cZ a0 r0 v0s_2]) (by subst ev0s_2; rfl) dX9_takeReef_41 rfl ?_
      refine J_aload_n C 45 dX9_takeReef_44 rfl rfl ?_
      refine J_aload_n C 46 dX9_takeReef_45 rfl rfl ?_
      refine J_get C 49 9 inlX9 0 41 rfl rfl (by decide) wd171 rfl rfl dX9_takeReef_46 rfl ?_
      refine J_iconst C 50 dX9_takeReef_49 rfl ki_1 ?_
      obtain ⟨hi, h⟩ := h
      refine J_iald C 51 13 0 rfl rfl hi dX9_takeReef_50 rfl ?_
      obtain ⟨v0s_3, ev0s_3⟩ : ∃ z : Vl, z = setI v0s_2 3 (v0s_2.2.2.1 41 (Int32.toNatClampNeg 1)) := ⟨_, rfl⟩
      have h := h v0s_3 ev0s_3
      refine J_put C 54 9 inlX9 tyX9 tyX9_ok nmX9 0 3 rfl rfl (by decide) wd154 rfl rfl rfl rfl rfl (List.flatten [bX9 cI cJ cZ a0 r0 v0s_3]) (by subst ev0s_3; rfl) dX9_takeReef_51 rfl ?_
      refine J_aload_n C 55 dX9_takeReef_54 rfl rfl ?_
      refine J_aload_n C 56 dX9_takeReef_55 rfl rfl ?_
      refine J_get C 59 9 inlX9 0 41 rfl rfl (by decide) wd171 rfl rfl dX9_takeReef_56 rfl ?_
      refine J_iconst C 60 dX9_takeReef_59 rfl ki_2 ?_
      obtain ⟨hi, h⟩ := h
      refine J_iald C 61 13 0 rfl rfl hi dX9_takeReef_60 rfl ?_
      obtain ⟨v0s_4, ev0s_4⟩ : ∃ z : Vl, z = setI v0s_3 4 (v0s_3.2.2.1 41 (Int32.toNatClampNeg 2)) := ⟨_, rfl⟩
      have h := h v0s_4 ev0s_4
      refine J_put C 64 9 inlX9 tyX9 tyX9_ok nmX9 0 4 rfl rfl (by decide) wd155 rfl rfl rfl rfl rfl (List.flatten [bX9 cI cJ cZ a0 r0 v0s_4]) (by subst ev0s_4; rfl) dX9_takeReef_61 rfl ?_
      refine J_aload_n C 65 dX9_takeReef_64 rfl rfl ?_
      refine J_aload_n C 66 dX9_takeReef_65 rfl rfl ?_
      refine J_get C 69 9 inlX9 0 41 rfl rfl (by decide) wd171 rfl rfl dX9_takeReef_66 rfl ?_
      refine J_iconst C 70 dX9_takeReef_69 rfl ki_3 ?_
      obtain ⟨hi, h⟩ := h
      refine J_iald C 71 13 0 rfl rfl hi dX9_takeReef_70 rfl ?_
      obtain ⟨v0s_5, ev0s_5⟩ : ∃ z : Vl, z = setI v0s_4 5 (v0s_4.2.2.1 41 (Int32.toNatClampNeg 3)) := ⟨_, rfl⟩
      have h := h v0s_5 ev0s_5
      refine J_put C 74 9 inlX9 tyX9 tyX9_ok nmX9 0 5 rfl rfl (by decide) wd472 rfl rfl rfl rfl rfl (List.flatten [bX9 cI cJ cZ a0 r0 v0s_5]) (by subst ev0s_5; rfl) dX9_takeReef_71 rfl ?_
      refine J_aload_n C 75 dX9_takeReef_74 rfl rfl ?_
      refine J_aload_n C 76 dX9_takeReef_75 rfl rfl ?_
      refine J_get C 79 9 inlX9 0 41 rfl rfl (by decide) wd171 rfl rfl dX9_takeReef_76 rfl ?_
      refine J_iconst C 80 dX9_takeReef_79 rfl ki_4 ?_
      obtain ⟨hi, h⟩ := h
      refine J_iald C 81 13 0 rfl rfl hi dX9_takeReef_80 rfl ?_
      obtain ⟨v0s_6, ev0s_6⟩ : ∃ z : Vl, z = setI v0s_5 6 (v0s_5.2.2.1 41 (Int32.toNatClampNeg 4)) := ⟨_, rfl⟩
      have h := h v0s_6 ev0s_6
      refine J_put C 84 9 inlX9 tyX9 tyX9_ok nmX9 0 6 rfl rfl (by decide) wd156 rfl rfl rfl rfl rfl (List.flatten [bX9 cI cJ cZ a0 r0 v0s_6]) (by subst ev0s_6; rfl) dX9_takeReef_81 rfl ?_
      refine J_aload_n C 85 dX9_takeReef_84 rfl rfl ?_
      refine J_aload_n C 86 dX9_takeReef_85 rfl rfl ?_
      refine J_get C 89 9 inlX9 0 42 rfl rfl (by decide) wd405 rfl rfl dX9_takeReef_86 rfl ?_
      obtain ⟨v0s_7, ev0s_7⟩ : ∃ z : Vl, z = setI v0s_6 7 (v0s_6.1 42) := ⟨_, rfl⟩
      have h := h v0s_7 ev0s_7
      refine J_put C 92 9 inlX9 tyX9 tyX9_ok nmX9 0 7 rfl rfl (by decide) wd157 rfl rfl rfl rfl rfl (List.flatten [bX9 cI cJ cZ a0 r0 v0s_7]) (by subst ev0s_7; rfl) dX9_takeReef_89 rfl ?_
      refine J_iconst C 93 dX9_takeReef_92 rfl ki_0 ?_
      refine J_istore_n C 94 [(1, .int 0), (0, .ref a0)] dX9_takeReef_93 rfl (by decide) rfl ?_
      refine J_loc [1, 0] rfl ?_
      obtain ⟨n1, h⟩ := h
      exact wk_X9_takeReef_c94 C hr hk n1 v0s_7 0 h
    · have h := h.2 c
      refine J_aload_n C 17 dX9_takeReef_16 rfl rfl ?_
      refine J_get C 20 9 inlX9 0 1 rfl rfl (by decide) wd152 rfl rfl dX9_takeReef_17 rfl ?_
      refine J_iload_n C 21 dX9_takeReef_20 rfl rfl ?_
      refine J_aload_n C 22 dX9_takeReef_21 rfl rfl ?_
      refine J_get C 25 9 inlX9 0 40 rfl rfl (by decide) wd170 rfl rfl dX9_takeReef_22 rfl ?_
      refine J_iload_n C 26 dX9_takeReef_25 rfl rfl ?_
      obtain ⟨hi, h⟩ := h
      refine J_iald C 27 12 0 rfl rfl hi dX9_takeReef_26 rfl ?_
      obtain ⟨hi, h⟩ := h
      obtain ⟨v0s_17, ev0s_17⟩ : ∃ z : Vl, z = setA v0 1 (Int32.toNatClampNeg y1) (v0.2.2.1 40 (Int32.toNatClampNeg y1)) := ⟨_, rfl⟩
      have h := h v0s_17 ev0s_17
      refine J_iast C 28 1 0 rfl rfl hi (List.flatten [bX9 cI cJ cZ a0 r0 v0s_17]) (by subst ev0s_17; rfl) dX9_takeReef_27 rfl ?_
      obtain ⟨x_18, ex_18⟩ : ∃ z : Int32, z = y1 + 1 := ⟨_, rfl⟩
      have h := h x_18 ex_18
      refine J_iinc C 31 [(1, .int x_18), (0, .ref a0)] dX9_takeReef_28 rfl rfl ((kinc_1 _).trans ex_18.symm) (by decide) rfl ?_
      refine J_goto C 10 dX9_takeReef_31 rfl ?_
      refine J_loc [1, 0] rfl ?_
      exact ih v0s_17 x_18 h
def wp_X9_takeReef (v0 : Vl)  (Q : Vl → Prop) : Prop := ∀ v0s_1 : Vl, v0s_1 = setI v0 0 (v0.1 39) → (∃ k : Nat, wp_X9_takeReef_c10  Q k v0s_1 0)
set_option maxHeartbeats 4000000 in
set_option maxRecDepth 100000 in
theorem c_X9_takeReef (l : Launch) (D : GG) (cI cJ cZ cS : ClassId) (a0 : Nat) (r0 : Nat → Nat) (v0 : Vl)  (Q : Vl → Prop) (h : wp_X9_takeReef v0 Q) : Mv l D (tyL cI cJ cZ cS) yX9_takeReef cX9_takeReef 2 1 21 [.ref a0] (List.flatten [bX9 cI cJ cZ a0 r0 v0]) (fun (u : Vl) => Q u) (fun (u : Vl) => List.flatten [bX9 cI cJ cZ a0 r0 u]) := by
  refine Mv_of RX9 [(0, .ref a0)] (by decide +kernel) rfl rfl (Nat.le_of_ble_eq_true rfl) ?_
  intro p e s m args below meth c A C hr hk
  refine J_aload_n C 1 dX9_takeReef_0 rfl rfl ?_
  refine J_aload_n C 2 dX9_takeReef_1 rfl rfl ?_
  refine J_get C 5 9 inlX9 0 39 rfl rfl (by decide) wd403 rfl rfl dX9_takeReef_2 rfl ?_
  obtain ⟨v0s_1, ev0s_1⟩ : ∃ z : Vl, z = setI v0 0 (v0.1 39) := ⟨_, rfl⟩
  have h := h v0s_1 ev0s_1
  refine J_put C 8 9 inlX9 tyX9 tyX9_ok nmX9 0 0 rfl rfl (by decide) wd191 rfl rfl rfl rfl rfl (List.flatten [bX9 cI cJ cZ a0 r0 v0s_1]) (by subst ev0s_1; rfl) dX9_takeReef_5 rfl ?_
  refine J_iconst C 9 dX9_takeReef_8 rfl ki_0 ?_
  refine J_istore_n C 10 [(1, .int 0), (0, .ref a0)] dX9_takeReef_9 rfl (by decide) rfl ?_
  refine J_loc [1, 0] rfl ?_
  obtain ⟨n1, h⟩ := h
  exact wk_X9_takeReef_c10 C hr hk n1 v0s_1 0 h
def wp_X9_reef_c126  (Q : Int32 → Vl → Prop) (v0 : Vl) (y1 : Int32) : Prop := ∀ v0s_12 : Vl, v0s_12 = setI v0 32 0 → ((y1 ≤ 0 → wp_X9_takeReef v0s_12 (fun u_13 => Q (u_13.1 0) u_13)) ∧ (¬ y1 ≤ 0 → Q ((-10) - y1) v0s_12))
set_option maxHeartbeats 4000000 in
set_option maxRecDepth 100000 in
theorem wk_X9_reef_c126 {p : Program} {l : Launch} {e : Env} {s : State} {m : MethodId} {args : Array Value} {below : List Frame} {meth : Method} {c : Code} {D : GG} {A : Nat → Prop} {cI cJ cZ cS : ClassId} {a0 : Nat} {r0 : Nat → Nat}  {Q : Int32 → Vl → Prop} (C : Cx p s m args c D (tyL cI cJ cZ cS) A RX9 cX9_reef 2) (hr : meth.sig.returnType = some .int) (hk : meth.locks = false) : ∀ (v0 : Vl) (y1 : Int32), wp_X9_reef_c126  Q v0 y1 → J p l e (rmk 5 119) s m args below meth c D A 2 0 0 (MQ below (va_Qi (fun (r : Int32) (u : Vl) => Q r u) (fun u t => va_P D.1 vwCl ((fun (u : Vl) => List.flatten [bX9 cI cJ cZ a0 r0 u]) u) t.heap ∧ va_D A ((fun (u : Vl) => List.flatten [bX9 cI cJ cZ a0 r0 u]) u)) A) args s 0 0 A) 126 [(0, .ref a0), (1, .int y1)] [] (List.flatten [bX9 cI cJ cZ a0 r0 v0]) := by
  intro v0 y1 h
  refine J_aload_n C 127 dX9_reef_126 rfl rfl ?_
  refine J_iconst C 128 dX9_reef_127 rfl ki_0 ?_
  obtain ⟨v0s_12, ev0s_12⟩ : ∃ z : Vl, z = setI v0 32 0 := ⟨_, rfl⟩
  have h := h v0s_12 ev0s_12
  refine J_put C 131 9 inlX9 tyX9 tyX9_ok nmX9 0 32 rfl rfl (by decide) wd220 rfl rfl rfl rfl rfl (List.flatten [bX9 cI cJ cZ a0 r0 v0s_12]) (by subst ev0s_12; rfl) dX9_reef_128 rfl ?_
  refine J_iload_n C 132 dX9_reef_131 rfl rfl ?_
  refine J_if_le C 135 140 dX9_reef_132 rfl rfl (fun c => ?_) (fun c => ?_)
  · have h := h.1 c
    refine J_aload_n C 141 dX9_reef_140 rfl rfl ?_
    refine J_callBvV (Bs := [bX9 cI cJ cZ a0 r0 v0s_12]) (As := []) C 144 (c_X9_takeReef l D cI cJ cZ cS a0 r0 v0s_12 _ h) wd471 wd468 wd5 wd469 wd470 9 0 rfl rfl rfl hdX9_takeReef ⟨Nat.le_of_ble_eq_true rfl, Nat.le_of_ble_eq_true rfl⟩ ⟨Nat.zero_le _, Nat.zero_le _⟩ rfl (Nat.le_of_ble_eq_true rfl) [0] [] 1 rfl (by decide +kernel) rfl rfl (fun (u : Vl) => [bX9 cI cJ cZ a0 r0 u]) (fun _ => rfl) [0] (by decide +kernel) (fun _ => rfl) rfl (fun (u : Vl) => [bX9 cI cJ cZ a0 r0 u]) (fun _ => rfl) dX9_reef_141 rfl (fun u h => ?_)
    obtain ⟨u_13, hu⟩ : ∃ z, z = u := ⟨_, rfl⟩
    subst hu
    refine J_aload_n C 145 dX9_reef_144 rfl rfl ?_
    refine J_get C 148 9 inlX9 0 0 rfl rfl (by decide) wd191 rfl rfl dX9_reef_145 rfl ?_
    exact J_iret C hr hk u_13 rfl dX9_reef_148 h
  · have h := h.2 c
    refine J_bipush C 137 dX9_reef_135 rfl kb_m10 ?_
    refine J_iload_n C 138 dX9_reef_137 rfl rfl ?_
    refine J_isub C 139 dX9_reef_138 rfl ?_
    exact J_iret C hr hk v0s_12 rfl dX9_reef_139 h
def wp_X9_reef_c107  (Q : Int32 → Vl → Prop) : Nat → Vl → Int32 → Prop
  | 0 => fun _ _ => False
  | n + 1 => fun v0 y1 => ((¬ y1 = 0 → wp_X9_reef_c126  Q v0 y1) ∧ (y1 = 0 → wp_X9_here v0 (fun r_15 u_14 => ((r_15 < 0 → wp_X9_reef_c126  Q u_14 y1) ∧ (¬ r_15 < 0 → wp_X9_takeClause u_14 (fun r_17 u_16 => wp_X9_reef_c107  Q n u_16 r_17))))))
set_option maxHeartbeats 4000000 in
set_option maxRecDepth 100000 in
theorem wk_X9_reef_c107 {p : Program} {l : Launch} {e : Env} {s : State} {m : MethodId} {args : Array Value} {below : List Frame} {meth : Method} {c : Code} {D : GG} {A : Nat → Prop} {cI cJ cZ cS : ClassId} {a0 : Nat} {r0 : Nat → Nat}  {Q : Int32 → Vl → Prop} (C : Cx p s m args c D (tyL cI cJ cZ cS) A RX9 cX9_reef 2) (hr : meth.sig.returnType = some .int) (hk : meth.locks = false) : ∀ (n : Nat) (v0 : Vl) (y1 : Int32), wp_X9_reef_c107  Q n v0 y1 → J p l e (rmk 5 119) s m args below meth c D A 2 0 0 (MQ below (va_Qi (fun (r : Int32) (u : Vl) => Q r u) (fun u t => va_P D.1 vwCl ((fun (u : Vl) => List.flatten [bX9 cI cJ cZ a0 r0 u]) u) t.heap ∧ va_D A ((fun (u : Vl) => List.flatten [bX9 cI cJ cZ a0 r0 u]) u)) A) args s 0 0 A) 107 [(0, .ref a0), (1, .int y1)] [] (List.flatten [bX9 cI cJ cZ a0 r0 v0]) := by
  intro n
  induction n with
  | zero =>
    intro v0 y1 h
    exact False.elim h
  | succ n ih =>
    intro v0 y1 h
    refine J_iload_n C 108 dX9_reef_107 rfl rfl ?_
    refine J_if_ne C 111 126 dX9_reef_108 rfl rfl (fun c => ?_) (fun c => ?_)
    · have h := h.1 c
      refine J_loc [0, 1] rfl ?_
      exact wk_X9_reef_c126 C hr hk v0 y1 h
    · have h := h.2 c
      refine J_aload_n C 112 dX9_reef_111 rfl rfl ?_
      refine J_callBiV (Bs := [bX9 cI cJ cZ a0 r0 v0]) (As := []) C 115 (c_X9_here l D cI cJ cZ cS a0 r0 v0 _ h) wd409 wd406 wd5 wd407 wd408 9 0 rfl rfl rfl hdX9_here ⟨Nat.le_of_ble_eq_true rfl, Nat.le_of_ble_eq_true rfl⟩ ⟨Nat.zero_le _, Nat.zero_le _⟩ rfl (Nat.le_of_ble_eq_true rfl) [0] [] 1 rfl (by decide +kernel) rfl rfl (fun (u : Vl) => [bX9 cI cJ cZ a0 r0 u]) (fun _ => rfl) [0] (by decide +kernel) (fun _ => rfl) rfl (fun (u : Vl) => [bX9 cI cJ cZ a0 r0 u]) (fun _ => rfl) dX9_reef_112 rfl (fun r_15 u h => ?_)
      obtain ⟨u_14, hu⟩ : ∃ z, z = u := ⟨_, rfl⟩
      subst hu
      refine J_if_lt C 118 126 dX9_reef_115 rfl rfl (fun c => ?_) (fun c => ?_)
      · have h := h.1 c
        refine J_loc [0, 1] rfl ?_
        exact wk_X9_reef_c126 C hr hk u_14 y1 h
      · have h := h.2 c
        refine J_aload_n C 119 dX9_reef_118 rfl rfl ?_
        refine J_callBiV (Bs := [bX9 cI cJ cZ a0 r0 u_14]) (As := []) C 122 (c_X9_takeClause l D cI cJ cZ cS a0 r0 u_14 _ h) wd413 wd410 wd5 wd411 wd412 9 0 rfl rfl rfl hdX9_takeClause ⟨Nat.le_of_ble_eq_true rfl, Nat.le_of_ble_eq_true rfl⟩ ⟨Nat.zero_le _, Nat.zero_le _⟩ rfl (Nat.le_of_ble_eq_true rfl) [0] [] 1 rfl (by decide +kernel) rfl rfl (fun (u : Vl) => [bX9 cI cJ cZ a0 r0 u]) (fun _ => rfl) [0] (by decide +kernel) (fun _ => rfl) rfl (fun (u : Vl) => [bX9 cI cJ cZ a0 r0 u]) (fun _ => rfl) dX9_reef_119 rfl (fun r_17 u h => ?_)
        obtain ⟨u_16, hu⟩ : ∃ z, z = u := ⟨_, rfl⟩
        subst hu
        refine J_istore_n C 123 [(1, .int r_17), (0, .ref a0)] dX9_reef_122 rfl (by decide) rfl ?_
        refine J_goto C 107 dX9_reef_123 rfl ?_
        refine J_loc [1, 0] rfl ?_
        exact ih u_16 r_17 h
def wp_X9_reef_c98  (Q : Int32 → Vl → Prop) (B75 : Vl → Int32 → Prop) (v0 : Vl) (y1 : Int32) (s0 : Int32) (s1 : Int32) : Prop := vp_in s1 9 ∧ (∀ v0s_18 : Vl, v0s_18 = setA v0 44 (Int32.toNatClampNeg s1) s0 → ∀ x_19 : Int32, x_19 = y1 + 1 → B75 v0s_18 x_19)
set_option maxHeartbeats 4000000 in
set_option maxRecDepth 100000 in
theorem wk_X9_reef_c98 {p : Program} {l : Launch} {e : Env} {s : State} {m : MethodId} {args : Array Value} {below : List Frame} {meth : Method} {c : Code} {D : GG} {A : Nat → Prop} {cI cJ cZ cS : ClassId} {a0 : Nat} {r0 : Nat → Nat}  {B75 : Vl → Int32 → Prop} {Q : Int32 → Vl → Prop} (C : Cx p s m args c D (tyL cI cJ cZ cS) A RX9 cX9_reef 2) (hr : meth.sig.returnType = some .int) (hk : meth.locks = false) (hB75 : ∀ (v0 : Vl) (y1 : Int32), B75 v0 y1 → J p l e (rmk 5 119) s m args below meth c D A 2 0 0 (MQ below (va_Qi (fun (r : Int32) (u : Vl) => Q r u) (fun u t => va_P D.1 vwCl ((fun (u : Vl) => List.flatten [bX9 cI cJ cZ a0 r0 u]) u) t.heap ∧ va_D A ((fun (u : Vl) => List.flatten [bX9 cI cJ cZ a0 r0 u]) u)) A) args s 0 0 A) 75 [(0, .ref a0), (1, .int y1)] [] (List.flatten [bX9 cI cJ cZ a0 r0 v0])) : ∀ (v0 : Vl) (y1 : Int32) (s0 : Int32) (s1 : Int32), wp_X9_reef_c98  Q B75 v0 y1 s0 s1 → J p l e (rmk 5 119) s m args below meth c D A 2 0 0 (MQ below (va_Qi (fun (r : Int32) (u : Vl) => Q r u) (fun u t => va_P D.1 vwCl ((fun (u : Vl) => List.flatten [bX9 cI cJ cZ a0 r0 u]) u) t.heap ∧ va_D A ((fun (u : Vl) => List.flatten [bX9 cI cJ cZ a0 r0 u]) u)) A) args s 0 0 A) 98 [(0, .ref a0), (1, .int y1)] [.int s0, .int s1, .ref (r0 44)] (List.flatten [bX9 cI cJ cZ a0 r0 v0]) := by
  intro v0 y1 s0 s1 h
  obtain ⟨hi, h⟩ := h
  obtain ⟨v0s_18, ev0s_18⟩ : ∃ z : Vl, z = setA v0 44 (Int32.toNatClampNeg s1) s0 := ⟨_, rfl⟩
  have h := h v0s_18 ev0s_18
  refine J_iast C 99 15 0 rfl rfl hi (List.flatten [bX9 cI cJ cZ a0 r0 v0s_18]) (by subst ev0s_18; rfl) dX9_reef_98 rfl ?_
  obtain ⟨x_19, ex_19⟩ : ∃ z : Int32, z = y1 + 1 := ⟨_, rfl⟩
  have h := h x_19 ex_19
  refine J_iinc C 102 [(1, .int x_19), (0, .ref a0)] dX9_reef_99 rfl rfl ((kinc_1 _).trans ex_19.symm) (by decide) rfl ?_
  refine J_goto C 75 dX9_reef_102 rfl ?_
  refine J_loc [1, 0] rfl ?_
  exact hB75 v0s_18 x_19 h
def wp_X9_reef_c75  (Q : Int32 → Vl → Prop) : Nat → Vl → Int32 → Prop
  | 0 => fun _ _ => False
  | n + 1 => fun v0 y1 => ((9 ≤ y1 → (∃ k : Nat, wp_X9_reef_c107  Q k v0 0)) ∧ (¬ 9 ≤ y1 → ((¬ (y1 - y1 / 4 * 4) = 0 → wp_X9_reef_c98  Q (wp_X9_reef_c75  Q n) v0 y1 0 y1) ∧ ((y1 - y1 / 4 * 4) = 0 → wp_X9_reef_c98  Q (wp_X9_reef_c75  Q n) v0 y1 100 y1))))
set_option maxHeartbeats 4000000 in
set_option maxRecDepth 100000 in
theorem wk_X9_reef_c75 {p : Program} {l : Launch} {e : Env} {s : State} {m : MethodId} {args : Array Value} {below : List Frame} {meth : Method} {c : Code} {D : GG} {A : Nat → Prop} {cI cJ cZ cS : ClassId} {a0 : Nat} {r0 : Nat → Nat}  {Q : Int32 → Vl → Prop} (C : Cx p s m args c D (tyL cI cJ cZ cS) A RX9 cX9_reef 2) (hr : meth.sig.returnType = some .int) (hk : meth.locks = false) : ∀ (n : Nat) (v0 : Vl) (y1 : Int32), wp_X9_reef_c75  Q n v0 y1 → J p l e (rmk 5 119) s m args below meth c D A 2 0 0 (MQ below (va_Qi (fun (r : Int32) (u : Vl) => Q r u) (fun u t => va_P D.1 vwCl ((fun (u : Vl) => List.flatten [bX9 cI cJ cZ a0 r0 u]) u) t.heap ∧ va_D A ((fun (u : Vl) => List.flatten [bX9 cI cJ cZ a0 r0 u]) u)) A) args s 0 0 A) 75 [(0, .ref a0), (1, .int y1)] [] (List.flatten [bX9 cI cJ cZ a0 r0 v0]) := by
  intro n
  induction n with
  | zero =>
    intro v0 y1 h
    exact False.elim h
  | succ n ih =>
    intro v0 y1 h
    refine J_iload_n C 76 dX9_reef_75 rfl rfl ?_
    refine J_bipush C 78 dX9_reef_76 rfl kb_9 ?_
    refine J_icmp_ge C 81 105 dX9_reef_78 rfl rfl (fun c => ?_) (fun c => ?_)
    · have h := h.1 c
      refine J_iconst C 106 dX9_reef_105 rfl ki_0 ?_
      refine J_istore_n C 107 [(1, .int 0), (0, .ref a0)] dX9_reef_106 rfl (by decide) rfl ?_
      refine J_loc [1, 0] rfl ?_
      obtain ⟨n1, h⟩ := h
      exact wk_X9_reef_c107 C hr hk n1 v0 0 h
    · have h := h.2 c
      refine J_aload_n C 82 dX9_reef_81 rfl rfl ?_
      refine J_get C 85 9 inlX9 0 44 rfl rfl (by decide) wd173 rfl rfl dX9_reef_82 rfl ?_
      refine J_iload_n C 86 dX9_reef_85 rfl rfl ?_
      refine J_iload_n C 87 dX9_reef_86 rfl rfl ?_
      refine J_iconst C 88 dX9_reef_87 rfl ki_4 ?_
      refine J_irem C 89 dX9_reef_88 rfl (by decide) ?_
      refine J_if_ne C 92 97 dX9_reef_89 rfl rfl (fun c => ?_) (fun c => ?_)
      · have h := h.1 c
        refine J_iconst C 98 dX9_reef_97 rfl ki_0 ?_
        refine J_loc [0, 1] rfl ?_
        exact wk_X9_reef_c98 C hr hk ih v0 y1 0 y1 h
      · have h := h.2 c
        refine J_bipush C 94 dX9_reef_92 rfl kb_100 ?_
        refine J_goto C 98 dX9_reef_94 rfl ?_
        refine J_loc [0, 1] rfl ?_
        exact wk_X9_reef_c98 C hr hk ih v0 y1 100 y1 h
def wp_X9_reef (v0 : Vl)  (Q : Int32 → Vl → Prop) : Prop := ∀ v0s_1 : Vl, v0s_1 = setI v0 33 (-1) → ∀ v0s_2 : Vl, v0s_2 = setI v0s_1 34 0 → ∀ v0s_3 : Vl, v0s_3 = setI v0s_2 39 0 → ∀ v0s_4 : Vl, v0s_4 = setI v0s_3 45 0 → vp_in 0 5 ∧ (∀ v0s_5 : Vl, v0s_5 = setA v0s_4 41 (Int32.toNatClampNeg 0) 20 → vp_in 1 5 ∧ (∀ v0s_6 : Vl, v0s_6 = setA v0s_5 41 (Int32.toNatClampNeg 1) 50 → vp_in 2 5 ∧ (∀ v0s_7 : Vl, v0s_7 = setA v0s_6 41 (Int32.toNatClampNeg 2) 500 → vp_in 3 5 ∧ (∀ v0s_8 : Vl, v0s_8 = setA v0s_7 41 (Int32.toNatClampNeg 3) 0 → vp_in 4 5 ∧ (∀ v0s_9 : Vl, v0s_9 = setA v0s_8 41 (Int32.toNatClampNeg 4) 10 → ∀ v0s_10 : Vl, v0s_10 = setI v0s_9 42 1 → vp_in 0 12 ∧ (∀ v0s_11 : Vl, v0s_11 = setA v0s_10 43 (Int32.toNatClampNeg 0) 12 → (∃ k : Nat, wp_X9_reef_c75  Q k v0s_11 0)))))))
set_option maxHeartbeats 4000000 in
set_option maxRecDepth 100000 in
theorem c_X9_reef (l : Launch) (D : GG) (cI cJ cZ cS : ClassId) (a0 : Nat) (r0 : Nat → Nat) (v0 : Vl)  (Q : Int32 → Vl → Prop) (h : wp_X9_reef v0 Q) : Mi l D (tyL cI cJ cZ cS) yX9_reef cX9_reef 2 .int 5 119 [.ref a0] (List.flatten [bX9 cI cJ cZ a0 r0 v0]) (fun (r : Int32) (u : Vl) => Q r u) (fun (u : Vl) => List.flatten [bX9 cI cJ cZ a0 r0 u]) := by
  refine Mi_of RX9 [(0, .ref a0)] (by decide +kernel) rfl rfl (Nat.le_of_ble_eq_true rfl) ?_
  intro p e s m args below meth c A C hr hk
  refine J_aload_n C 1 dX9_reef_0 rfl rfl ?_
  refine J_iconst C 2 dX9_reef_1 rfl ki_m1 ?_
  obtain ⟨v0s_1, ev0s_1⟩ : ∃ z : Vl, z = setI v0 33 (-1) := ⟨_, rfl⟩
  have h := h v0s_1 ev0s_1
  refine J_put C 5 9 inlX9 tyX9 tyX9_ok nmX9 0 33 rfl rfl (by decide) wd169 rfl rfl rfl rfl rfl (List.flatten [bX9 cI cJ cZ a0 r0 v0s_1]) (by subst ev0s_1; rfl) dX9_reef_2 rfl ?_
  refine J_aload_n C 6 dX9_reef_5 rfl rfl ?_
  refine J_iconst C 7 dX9_reef_6 rfl ki_0 ?_
  obtain ⟨v0s_2, ev0s_2⟩ : ∃ z : Vl, z = setI v0s_1 34 0 := ⟨_, rfl⟩
  have h := h v0s_2 ev0s_2
  refine J_put C 10 9 inlX9 tyX9 tyX9_ok nmX9 0 34 rfl rfl (by decide) wd402 rfl rfl rfl rfl rfl (List.flatten [bX9 cI cJ cZ a0 r0 v0s_2]) (by subst ev0s_2; rfl) dX9_reef_7 rfl ?_
  refine J_aload_n C 11 dX9_reef_10 rfl rfl ?_
  refine J_iconst C 12 dX9_reef_11 rfl ki_0 ?_
  obtain ⟨v0s_3, ev0s_3⟩ : ∃ z : Vl, z = setI v0s_2 39 0 := ⟨_, rfl⟩
  have h := h v0s_3 ev0s_3
  refine J_put C 15 9 inlX9 tyX9 tyX9_ok nmX9 0 39 rfl rfl (by decide) wd403 rfl rfl rfl rfl rfl (List.flatten [bX9 cI cJ cZ a0 r0 v0s_3]) (by subst ev0s_3; rfl) dX9_reef_12 rfl ?_
  refine J_aload_n C 16 dX9_reef_15 rfl rfl ?_
  refine J_iconst C 17 dX9_reef_16 rfl ki_0 ?_
  obtain ⟨v0s_4, ev0s_4⟩ : ∃ z : Vl, z = setI v0s_3 45 0 := ⟨_, rfl⟩
  have h := h v0s_4 ev0s_4
  refine J_put C 20 9 inlX9 tyX9 tyX9_ok nmX9 0 45 rfl rfl (by decide) wd404 rfl rfl rfl rfl rfl (List.flatten [bX9 cI cJ cZ a0 r0 v0s_4]) (by subst ev0s_4; rfl) dX9_reef_17 rfl ?_
  refine J_aload_n C 21 dX9_reef_20 rfl rfl ?_
  refine J_get C 24 9 inlX9 0 41 rfl rfl (by decide) wd171 rfl rfl dX9_reef_21 rfl ?_
  refine J_iconst C 25 dX9_reef_24 rfl ki_0 ?_
  refine J_bipush C 27 dX9_reef_25 rfl kb_20 ?_
  obtain ⟨hi, h⟩ := h
  obtain ⟨v0s_5, ev0s_5⟩ : ∃ z : Vl, z = setA v0s_4 41 (Int32.toNatClampNeg 0) 20 := ⟨_, rfl⟩
  have h := h v0s_5 ev0s_5
  refine J_iast C 28 13 0 rfl rfl hi (List.flatten [bX9 cI cJ cZ a0 r0 v0s_5]) (by subst ev0s_5; rfl) dX9_reef_27 rfl ?_
  refine J_aload_n C 29 dX9_reef_28 rfl rfl ?_
  refine J_get C 32 9 inlX9 0 41 rfl rfl (by decide) wd171 rfl rfl dX9_reef_29 rfl ?_
  refine J_iconst C 33 dX9_reef_32 rfl ki_1 ?_
  refine J_bipush C 35 dX9_reef_33 rfl kb_50 ?_
  obtain ⟨hi, h⟩ := h
  obtain ⟨v0s_6, ev0s_6⟩ : ∃ z : Vl, z = setA v0s_5 41 (Int32.toNatClampNeg 1) 50 := ⟨_, rfl⟩
  have h := h v0s_6 ev0s_6
  refine J_iast C 36 13 0 rfl rfl hi (List.flatten [bX9 cI cJ cZ a0 r0 v0s_6]) (by subst ev0s_6; rfl) dX9_reef_35 rfl ?_
  refine J_aload_n C 37 dX9_reef_36 rfl rfl ?_
  refine J_get C 40 9 inlX9 0 41 rfl rfl (by decide) wd171 rfl rfl dX9_reef_37 rfl ?_
  refine J_iconst C 41 dX9_reef_40 rfl ki_2 ?_
  refine J_sipush C 44 dX9_reef_41 rfl ks_500 ?_
  obtain ⟨hi, h⟩ := h
  obtain ⟨v0s_7, ev0s_7⟩ : ∃ z : Vl, z = setA v0s_6 41 (Int32.toNatClampNeg 2) 500 := ⟨_, rfl⟩
  have h := h v0s_7 ev0s_7
  refine J_iast C 45 13 0 rfl rfl hi (List.flatten [bX9 cI cJ cZ a0 r0 v0s_7]) (by subst ev0s_7; rfl) dX9_reef_44 rfl ?_
  refine J_aload_n C 46 dX9_reef_45 rfl rfl ?_
  refine J_get C 49 9 inlX9 0 41 rfl rfl (by decide) wd171 rfl rfl dX9_reef_46 rfl ?_
  refine J_iconst C 50 dX9_reef_49 rfl ki_3 ?_
  refine J_iconst C 51 dX9_reef_50 rfl ki_0 ?_
  obtain ⟨hi, h⟩ := h
  obtain ⟨v0s_8, ev0s_8⟩ : ∃ z : Vl, z = setA v0s_7 41 (Int32.toNatClampNeg 3) 0 := ⟨_, rfl⟩
  have h := h v0s_8 ev0s_8
  refine J_iast C 52 13 0 rfl rfl hi (List.flatten [bX9 cI cJ cZ a0 r0 v0s_8]) (by subst ev0s_8; rfl) dX9_reef_51 rfl ?_
  refine J_aload_n C 53 dX9_reef_52 rfl rfl ?_
  refine J_get C 56 9 inlX9 0 41 rfl rfl (by decide) wd171 rfl rfl dX9_reef_53 rfl ?_
  refine J_iconst C 57 dX9_reef_56 rfl ki_4 ?_
  refine J_bipush C 59 dX9_reef_57 rfl kb_10 ?_
  obtain ⟨hi, h⟩ := h
  obtain ⟨v0s_9, ev0s_9⟩ : ∃ z : Vl, z = setA v0s_8 41 (Int32.toNatClampNeg 4) 10 := ⟨_, rfl⟩
  have h := h v0s_9 ev0s_9
  refine J_iast C 60 13 0 rfl rfl hi (List.flatten [bX9 cI cJ cZ a0 r0 v0s_9]) (by subst ev0s_9; rfl) dX9_reef_59 rfl ?_
  refine J_aload_n C 61 dX9_reef_60 rfl rfl ?_
  refine J_iconst C 62 dX9_reef_61 rfl ki_1 ?_
  obtain ⟨v0s_10, ev0s_10⟩ : ∃ z : Vl, z = setI v0s_9 42 1 := ⟨_, rfl⟩
  have h := h v0s_10 ev0s_10
  refine J_put C 65 9 inlX9 tyX9 tyX9_ok nmX9 0 42 rfl rfl (by decide) wd405 rfl rfl rfl rfl rfl (List.flatten [bX9 cI cJ cZ a0 r0 v0s_10]) (by subst ev0s_10; rfl) dX9_reef_62 rfl ?_
  refine J_aload_n C 66 dX9_reef_65 rfl rfl ?_
  refine J_get C 69 9 inlX9 0 43 rfl rfl (by decide) wd172 rfl rfl dX9_reef_66 rfl ?_
  refine J_iconst C 70 dX9_reef_69 rfl ki_0 ?_
  refine J_bipush C 72 dX9_reef_70 rfl kb_12 ?_
  obtain ⟨hi, h⟩ := h
  obtain ⟨v0s_11, ev0s_11⟩ : ∃ z : Vl, z = setA v0s_10 43 (Int32.toNatClampNeg 0) 12 := ⟨_, rfl⟩
  have h := h v0s_11 ev0s_11
  refine J_iast C 73 14 0 rfl rfl hi (List.flatten [bX9 cI cJ cZ a0 r0 v0s_11]) (by subst ev0s_11; rfl) dX9_reef_72 rfl ?_
  refine J_iconst C 74 dX9_reef_73 rfl ki_0 ?_
  refine J_istore_n C 75 [(1, .int 0), (0, .ref a0)] dX9_reef_74 rfl (by decide) rfl ?_
  refine J_loc [1, 0] rfl ?_
  obtain ⟨n1, h⟩ := h
  exact wk_X9_reef_c75 C hr hk n1 v0s_11 0 h
def wp_X9_into_kt_48 (v0 : Vl) (x2 : Int32) (x3 : Int32) (x4 : Int32) (Q : Int32 → Vl → Prop) : Prop := wp_X9_takeNumber v0 x3 x4 (fun r_2 u_1 => vp_in x2 30 ∧ (∀ v0s_3 : Vl, v0s_3 = setA u_1 48 (Int32.toNatClampNeg x2) (u_1.1 37) → Q r_2 v0s_3))
set_option maxHeartbeats 4000000 in
set_option maxRecDepth 100000 in
theorem c_X9_into_kt_48 (l : Launch) (D : GG) (cI cJ cZ cS : ClassId) (a0 : Nat) (r0 : Nat → Nat) (v0 : Vl) (x2 : Int32) (x3 : Int32) (x4 : Int32) (Q : Int32 → Vl → Prop) (h : wp_X9_into_kt_48 v0 x2 x3 x4 Q) : Mi l D (tyL cI cJ cZ cS) yX9_into cX9_into 6 .int 2 48 [.ref a0, .ref (r0 48), .int x2, .int x3, .int x4] (List.flatten [bX9 cI cJ cZ a0 r0 v0]) (fun (r : Int32) (u : Vl) => Q r u) (fun (u : Vl) => List.flatten [bX9 cI cJ cZ a0 r0 u]) := by
  refine Mi_of RX9 [(0, .ref a0), (1, .ref (r0 48)), (2, .int x2), (3, .int x3), (4, .int x4)] (by decide +kernel) rfl rfl (Nat.le_of_ble_eq_true rfl) ?_
  intro p e s m args below meth c A C hr hk
  refine J_aload_n C 1 dX9_into_0 rfl rfl ?_
  refine J_iload_n C 2 dX9_into_1 rfl rfl ?_
  refine J_iload C 4 dX9_into_2 rfl rfl ?_
  refine J_callBiV (Bs := [bX9 cI cJ cZ a0 r0 v0]) (As := [.int x3, .int x4]) C 7 (c_X9_takeNumber l D cI cJ cZ cS a0 r0 v0 x3 x4 _ h) wd451 wd448 wd5 wd449 wd450 9 0 rfl rfl rfl hdX9_takeNumber ⟨Nat.le_of_ble_eq_true rfl, Nat.le_of_ble_eq_true rfl⟩ ⟨Nat.zero_le _, Nat.zero_le _⟩ rfl (Nat.le_of_ble_eq_true rfl) [0] [] 1 rfl (by decide +kernel) rfl rfl (fun (u : Vl) => [bX9 cI cJ cZ a0 r0 u]) (fun _ => rfl) [0] (by decide +kernel) (fun _ => rfl) rfl (fun (u : Vl) => [bX9 cI cJ cZ a0 r0 u]) (fun _ => rfl) dX9_into_4 rfl (fun r_2 u h => ?_)
  obtain ⟨u_1, hu⟩ : ∃ z, z = u := ⟨_, rfl⟩
  subst hu
  refine J_istore C 9 [(5, .int r_2), (0, .ref a0), (1, .ref (r0 48)), (2, .int x2), (3, .int x3), (4, .int x4)] dX9_into_7 rfl (by decide) rfl ?_
  refine J_aload_n C 10 dX9_into_9 rfl rfl ?_
  refine J_iload_n C 11 dX9_into_10 rfl rfl ?_
  refine J_aload_n C 12 dX9_into_11 rfl rfl ?_
  refine J_get C 15 9 inlX9 0 37 rfl rfl (by decide) wd447 rfl rfl dX9_into_12 rfl ?_
  obtain ⟨hi, h⟩ := h
  obtain ⟨v0s_3, ev0s_3⟩ : ∃ z : Vl, z = setA u_1 48 (Int32.toNatClampNeg x2) (u_1.1 37) := ⟨_, rfl⟩
  have h := h v0s_3 ev0s_3
  refine J_iast C 16 17 0 rfl rfl hi (List.flatten [bX9 cI cJ cZ a0 r0 v0s_3]) (by subst ev0s_3; rfl) dX9_into_15 rfl ?_
  refine J_iload C 18 dX9_into_16 rfl rfl ?_
  exact J_iret C hr hk v0s_3 rfl dX9_into_18 h
def wp_X9_takeSky_c105  (Q : Int32 → Vl → Prop) (v0 : Vl) (s0 : Int32) : Prop := wp_X9_fails v0 s0 (v0.1 34) (fun r_8 u_7 => Q r_8 u_7)
set_option maxHeartbeats 4000000 in
set_option maxRecDepth 100000 in
theorem wk_X9_takeSky_c105 {p : Program} {l : Launch} {e : Env} {s : State} {m : MethodId} {args : Array Value} {below : List Frame} {meth : Method} {c : Code} {D : GG} {A : Nat → Prop} {cI cJ cZ cS : ClassId} {a0 : Nat} {r0 : Nat → Nat}  {Q : Int32 → Vl → Prop} (C : Cx p s m args c D (tyL cI cJ cZ cS) A RX9 cX9_takeSky 3) (hr : meth.sig.returnType = some .int) (hk : meth.locks = false) : ∀ (v0 : Vl) (s0 : Int32), wp_X9_takeSky_c105  Q v0 s0 → J p l e (rmk 3 73) s m args below meth c D A 3 0 0 (MQ below (va_Qi (fun (r : Int32) (u : Vl) => Q r u) (fun u t => va_P D.1 vwCl ((fun (u : Vl) => List.flatten [bX9 cI cJ cZ a0 r0 u]) u) t.heap ∧ va_D A ((fun (u : Vl) => List.flatten [bX9 cI cJ cZ a0 r0 u]) u)) A) args s 0 0 A) 105 [(0, .ref a0)] [.int s0, .ref a0] (List.flatten [bX9 cI cJ cZ a0 r0 v0]) := by
  intro v0 s0 h
  refine J_aload_n C 106 dX9_takeSky_105 rfl rfl ?_
  refine J_get C 109 9 inlX9 0 34 rfl rfl (by decide) wd402 rfl rfl dX9_takeSky_106 rfl ?_
  refine J_callBiV (Bs := [bX9 cI cJ cZ a0 r0 v0]) (As := [.int s0, .int (v0.1 34)]) C 112 (c_X9_fails l D cI cJ cZ cS a0 r0 v0 s0 (v0.1 34) _ h) wd438 wd435 wd5 wd436 wd437 9 0 rfl rfl rfl hdX9_fails ⟨Nat.le_of_ble_eq_true rfl, Nat.le_of_ble_eq_true rfl⟩ ⟨Nat.zero_le _, Nat.zero_le _⟩ rfl (Nat.le_of_ble_eq_true rfl) [0] [] 1 rfl (by decide +kernel) rfl rfl (fun (u : Vl) => [bX9 cI cJ cZ a0 r0 u]) (fun _ => rfl) [0] (by decide +kernel) (fun _ => rfl) rfl (fun (u : Vl) => [bX9 cI cJ cZ a0 r0 u]) (fun _ => rfl) dX9_takeSky_109 rfl (fun r_8 u h => ?_)
  obtain ⟨u_7, hu⟩ : ∃ z, z = u := ⟨_, rfl⟩
  subst hu
  exact J_iret C hr hk u_7 rfl dX9_takeSky_112 h
def wp_X9_takeSky_c95  (Q : Int32 → Vl → Prop) (v0 : Vl) (y1 : Int32) : Prop := ((0 ≤ y1 → wp_X9_takeSky_c105  Q v0 3) ∧ (¬ 0 ≤ y1 → wp_X9_takeSky_c105  Q v0 1))
set_option maxHeartbeats 4000000 in
set_option maxRecDepth 100000 in
theorem wk_X9_takeSky_c95 {p : Program} {l : Launch} {e : Env} {s : State} {m : MethodId} {args : Array Value} {below : List Frame} {meth : Method} {c : Code} {D : GG} {A : Nat → Prop} {cI cJ cZ cS : ClassId} {a0 : Nat} {r0 : Nat → Nat}  {Q : Int32 → Vl → Prop} (C : Cx p s m args c D (tyL cI cJ cZ cS) A RX9 cX9_takeSky 3) (hr : meth.sig.returnType = some .int) (hk : meth.locks = false) : ∀ (v0 : Vl) (y1 : Int32), wp_X9_takeSky_c95  Q v0 y1 → J p l e (rmk 3 73) s m args below meth c D A 3 0 0 (MQ below (va_Qi (fun (r : Int32) (u : Vl) => Q r u) (fun u t => va_P D.1 vwCl ((fun (u : Vl) => List.flatten [bX9 cI cJ cZ a0 r0 u]) u) t.heap ∧ va_D A ((fun (u : Vl) => List.flatten [bX9 cI cJ cZ a0 r0 u]) u)) A) args s 0 0 A) 95 [(0, .ref a0), (1, .int y1)] [] (List.flatten [bX9 cI cJ cZ a0 r0 v0]) := by
  intro v0 y1 h
  refine J_aload_n C 96 dX9_takeSky_95 rfl rfl ?_
  refine J_iload_n C 97 dX9_takeSky_96 rfl rfl ?_
  refine J_if_ge C 100 104 dX9_takeSky_97 rfl rfl (fun c => ?_) (fun c => ?_)
  · have h := h.1 c
    refine J_iconst C 105 dX9_takeSky_104 rfl ki_3 ?_
    refine J_loc [0] rfl ?_
    exact wk_X9_takeSky_c105 C hr hk v0 3 h
  · have h := h.2 c
    refine J_iconst C 101 dX9_takeSky_100 rfl ki_1 ?_
    refine J_goto C 105 dX9_takeSky_101 rfl ?_
    refine J_loc [0] rfl ?_
    exact wk_X9_takeSky_c105 C hr hk v0 1 h
def wp_X9_takeSky_c180  (Q : Int32 → Vl → Prop) (v0 : Vl) (y2 : Int32) : Prop := ∀ v0s_14 : Vl, v0s_14 = setI v0 34 ((v0.1 34) + 1) → Q y2 v0s_14
set_option maxHeartbeats 4000000 in
set_option maxRecDepth 100000 in
theorem wk_X9_takeSky_c180 {p : Program} {l : Launch} {e : Env} {s : State} {m : MethodId} {args : Array Value} {below : List Frame} {meth : Method} {c : Code} {D : GG} {A : Nat → Prop} {cI cJ cZ cS : ClassId} {a0 : Nat} {r0 : Nat → Nat}  {Q : Int32 → Vl → Prop} (C : Cx p s m args c D (tyL cI cJ cZ cS) A RX9 cX9_takeSky 3) (hr : meth.sig.returnType = some .int) (hk : meth.locks = false) : ∀ (v0 : Vl) (y2 : Int32), wp_X9_takeSky_c180  Q v0 y2 → J p l e (rmk 3 73) s m args below meth c D A 3 0 0 (MQ below (va_Qi (fun (r : Int32) (u : Vl) => Q r u) (fun u t => va_P D.1 vwCl ((fun (u : Vl) => List.flatten [bX9 cI cJ cZ a0 r0 u]) u) t.heap ∧ va_D A ((fun (u : Vl) => List.flatten [bX9 cI cJ cZ a0 r0 u]) u)) A) args s 0 0 A) 180 [(0, .ref a0), (2, .int y2)] [] (List.flatten [bX9 cI cJ cZ a0 r0 v0]) := by
  intro v0 y2 h
  refine J_aload_n C 181 dX9_takeSky_180 rfl rfl ?_
  refine J_dup C 182 dX9_takeSky_181 rfl rfl ?_
  refine J_get C 185 9 inlX9 0 34 rfl rfl (by decide) wd402 rfl rfl dX9_takeSky_182 rfl ?_
  refine J_iconst C 186 dX9_takeSky_185 rfl ki_1 ?_
  refine J_iadd C 187 dX9_takeSky_186 rfl ?_
  obtain ⟨v0s_14, ev0s_14⟩ : ∃ z : Vl, z = setI v0 34 ((v0.1 34) + 1) := ⟨_, rfl⟩
  have h := h v0s_14 ev0s_14
  refine J_put C 190 9 inlX9 tyX9 tyX9_ok nmX9 0 34 rfl rfl (by decide) wd402 rfl rfl rfl rfl rfl (List.flatten [bX9 cI cJ cZ a0 r0 v0s_14]) (by subst ev0s_14; rfl) dX9_takeSky_187 rfl ?_
  refine J_iload_n C 191 dX9_takeSky_190 rfl rfl ?_
  exact J_iret C hr hk v0s_14 rfl dX9_takeSky_191 h
def wp_X9_takeSky_c81  (Q : Int32 → Vl → Prop) (v0 : Vl) (s0 : Int32) : Prop := ((s0 < 0 → wp_X9_takeSky_c95  Q v0 s0) ∧ (¬ s0 < 0 → ((¬ (v0.1 46) = 30 → ∀ v0s_9 : Vl, v0s_9 = setI v0 34 (v0.1 36) → vp_in (v0s_9.1 46) 30 ∧ (∀ v0s_10 : Vl, v0s_10 = setA v0s_9 47 (Int32.toNatClampNeg (v0s_9.1 46)) s0 → wp_X9_into_kt_48 v0s_10 (v0s_10.1 46) 1 99 (fun r_12 u_11 => ∀ v0s_13 : Vl, v0s_13 = setI u_11 46 ((u_11.1 46) + 1) → ((¬ r_12 = 0 → wp_X9_takeSky_c180  Q v0s_13 r_12) ∧ (r_12 = 0 → wp_X9_here v0s_13 (fun r_16 u_15 => ((r_16 = 59 → wp_X9_takeSky_c180  Q u_15 r_12) ∧ (¬ r_16 = 59 → wp_X9_fails u_15 1 (u_15.1 34) (fun r_18 u_17 => Q r_18 u_17))))))))) ∧ ((v0.1 46) = 30 → wp_X9_takeSky_c95  Q v0 s0))))
set_option maxHeartbeats 4000000 in
set_option maxRecDepth 100000 in
theorem wk_X9_takeSky_c81 {p : Program} {l : Launch} {e : Env} {s : State} {m : MethodId} {args : Array Value} {below : List Frame} {meth : Method} {c : Code} {D : GG} {A : Nat → Prop} {cI cJ cZ cS : ClassId} {a0 : Nat} {r0 : Nat → Nat}  {Q : Int32 → Vl → Prop} (C : Cx p s m args c D (tyL cI cJ cZ cS) A RX9 cX9_takeSky 3) (hr : meth.sig.returnType = some .int) (hk : meth.locks = false) : ∀ (v0 : Vl) (s0 : Int32), wp_X9_takeSky_c81  Q v0 s0 → J p l e (rmk 3 73) s m args below meth c D A 3 0 0 (MQ below (va_Qi (fun (r : Int32) (u : Vl) => Q r u) (fun u t => va_P D.1 vwCl ((fun (u : Vl) => List.flatten [bX9 cI cJ cZ a0 r0 u]) u) t.heap ∧ va_D A ((fun (u : Vl) => List.flatten [bX9 cI cJ cZ a0 r0 u]) u)) A) args s 0 0 A) 81 [(0, .ref a0)] [.int s0] (List.flatten [bX9 cI cJ cZ a0 r0 v0]) := by
  intro v0 s0 h
  refine J_istore_n C 82 [(1, .int s0), (0, .ref a0)] dX9_takeSky_81 rfl (by decide) rfl ?_
  refine J_iload_n C 83 dX9_takeSky_82 rfl rfl ?_
  refine J_if_lt C 86 95 dX9_takeSky_83 rfl rfl (fun c => ?_) (fun c => ?_)
  · have h := h.1 c
    refine J_loc [1, 0] rfl ?_
    exact wk_X9_takeSky_c95 C hr hk v0 s0 h
  · have h := h.2 c
    refine J_aload_n C 87 dX9_takeSky_86 rfl rfl ?_
    refine J_get C 90 9 inlX9 0 46 rfl rfl (by decide) wd506 rfl rfl dX9_takeSky_87 rfl ?_
    refine J_bipush C 92 dX9_takeSky_90 rfl kb_30 ?_
    refine J_icmp_ne C 95 113 dX9_takeSky_92 rfl rfl (fun c => ?_) (fun c => ?_)
    · have h := h.1 c
      refine J_aload_n C 114 dX9_takeSky_113 rfl rfl ?_
      refine J_aload_n C 115 dX9_takeSky_114 rfl rfl ?_
      refine J_get C 118 9 inlX9 0 36 rfl rfl (by decide) wd415 rfl rfl dX9_takeSky_115 rfl ?_
      obtain ⟨v0s_9, ev0s_9⟩ : ∃ z : Vl, z = setI v0 34 (v0.1 36) := ⟨_, rfl⟩
      have h := h v0s_9 ev0s_9
      refine J_put C 121 9 inlX9 tyX9 tyX9_ok nmX9 0 34 rfl rfl (by decide) wd402 rfl rfl rfl rfl rfl (List.flatten [bX9 cI cJ cZ a0 r0 v0s_9]) (by subst ev0s_9; rfl) dX9_takeSky_118 rfl ?_
      refine J_aload_n C 122 dX9_takeSky_121 rfl rfl ?_
      refine J_get C 125 9 inlX9 0 47 rfl rfl (by decide) wd174 rfl rfl dX9_takeSky_122 rfl ?_
      refine J_aload_n C 126 dX9_takeSky_125 rfl rfl ?_
      refine J_get C 129 9 inlX9 0 46 rfl rfl (by decide) wd506 rfl rfl dX9_takeSky_126 rfl ?_
      refine J_iload_n C 130 dX9_takeSky_129 rfl rfl ?_
      obtain ⟨hi, h⟩ := h
      obtain ⟨v0s_10, ev0s_10⟩ : ∃ z : Vl, z = setA v0s_9 47 (Int32.toNatClampNeg (v0s_9.1 46)) s0 := ⟨_, rfl⟩
      have h := h v0s_10 ev0s_10
      refine J_iast C 131 16 0 rfl rfl hi (List.flatten [bX9 cI cJ cZ a0 r0 v0s_10]) (by subst ev0s_10; rfl) dX9_takeSky_130 rfl ?_
      refine J_aload_n C 132 dX9_takeSky_131 rfl rfl ?_
      refine J_aload_n C 133 dX9_takeSky_132 rfl rfl ?_
      refine J_get C 136 9 inlX9 0 48 rfl rfl (by decide) wd175 rfl rfl dX9_takeSky_133 rfl ?_
      refine J_aload_n C 137 dX9_takeSky_136 rfl rfl ?_
      refine J_get C 140 9 inlX9 0 46 rfl rfl (by decide) wd506 rfl rfl dX9_takeSky_137 rfl ?_
      refine J_iconst C 141 dX9_takeSky_140 rfl ki_1 ?_
      refine J_bipush C 143 dX9_takeSky_141 rfl kb_99 ?_
      refine J_callBiV (Bs := [bX9 cI cJ cZ a0 r0 v0s_10]) (As := [.ref (r0 48), .int (v0s_10.1 46), .int 1, .int 99]) C 146 (c_X9_into_kt_48 l D cI cJ cZ cS a0 r0 v0s_10 (v0s_10.1 46) 1 99 _ h) wd446 wd443 wd5 wd444 wd445 9 0 rfl rfl rfl hdX9_into ⟨Nat.le_of_ble_eq_true rfl, Nat.le_of_ble_eq_true rfl⟩ ⟨Nat.zero_le _, Nat.zero_le _⟩ rfl (Nat.le_of_ble_eq_true rfl) [0] [] 1 rfl (by decide +kernel) rfl rfl (fun (u : Vl) => [bX9 cI cJ cZ a0 r0 u]) (fun _ => rfl) [0] (by decide +kernel) (fun _ => rfl) rfl (fun (u : Vl) => [bX9 cI cJ cZ a0 r0 u]) (fun _ => rfl) dX9_takeSky_143 rfl (fun r_12 u h => ?_)
      obtain ⟨u_11, hu⟩ : ∃ z, z = u := ⟨_, rfl⟩
      subst hu
      refine J_istore_n C 147 [(2, .int r_12), (1, .int s0), (0, .ref a0)] dX9_takeSky_146 rfl (by decide) rfl ?_
      refine J_aload_n C 148 dX9_takeSky_147 rfl rfl ?_
      refine J_dup C 149 dX9_takeSky_148 rfl rfl ?_
      refine J_get C 152 9 inlX9 0 46 rfl rfl (by decide) wd506 rfl rfl dX9_takeSky_149 rfl ?_
      refine J_iconst C 153 dX9_takeSky_152 rfl ki_1 ?_
      refine J_iadd C 154 dX9_takeSky_153 rfl ?_
      obtain ⟨v0s_13, ev0s_13⟩ : ∃ z : Vl, z = setI u_11 46 ((u_11.1 46) + 1) := ⟨_, rfl⟩
      have h := h v0s_13 ev0s_13
      refine J_put C 157 9 inlX9 tyX9 tyX9_ok nmX9 0 46 rfl rfl (by decide) wd506 rfl rfl rfl rfl rfl (List.flatten [bX9 cI cJ cZ a0 r0 v0s_13]) (by subst ev0s_13; rfl) dX9_takeSky_154 rfl ?_
      refine J_iload_n C 158 dX9_takeSky_157 rfl rfl ?_
      refine J_if_ne C 161 180 dX9_takeSky_158 rfl rfl (fun c => ?_) (fun c => ?_)
      · have h := h.1 c
        refine J_loc [2, 0] rfl ?_
        exact wk_X9_takeSky_c180 C hr hk v0s_13 r_12 h
      · have h := h.2 c
        refine J_aload_n C 162 dX9_takeSky_161 rfl rfl ?_
        refine J_callBiV (Bs := [bX9 cI cJ cZ a0 r0 v0s_13]) (As := []) C 165 (c_X9_here l D cI cJ cZ cS a0 r0 v0s_13 _ h) wd409 wd406 wd5 wd407 wd408 9 0 rfl rfl rfl hdX9_here ⟨Nat.le_of_ble_eq_true rfl, Nat.le_of_ble_eq_true rfl⟩ ⟨Nat.zero_le _, Nat.zero_le _⟩ rfl (Nat.le_of_ble_eq_true rfl) [0] [] 1 rfl (by decide +kernel) rfl rfl (fun (u : Vl) => [bX9 cI cJ cZ a0 r0 u]) (fun _ => rfl) [0] (by decide +kernel) (fun _ => rfl) rfl (fun (u : Vl) => [bX9 cI cJ cZ a0 r0 u]) (fun _ => rfl) dX9_takeSky_162 rfl (fun r_16 u h => ?_)
        obtain ⟨u_15, hu⟩ : ∃ z, z = u := ⟨_, rfl⟩
        subst hu
        refine J_bipush C 167 dX9_takeSky_165 rfl kb_59 ?_
        refine J_icmp_eq C 170 180 dX9_takeSky_167 rfl rfl (fun c => ?_) (fun c => ?_)
        · have h := h.1 c
          refine J_loc [2, 0] rfl ?_
          exact wk_X9_takeSky_c180 C hr hk u_15 r_12 h
        · have h := h.2 c
          refine J_aload_n C 171 dX9_takeSky_170 rfl rfl ?_
          refine J_iconst C 172 dX9_takeSky_171 rfl ki_1 ?_
          refine J_aload_n C 173 dX9_takeSky_172 rfl rfl ?_
          refine J_get C 176 9 inlX9 0 34 rfl rfl (by decide) wd402 rfl rfl dX9_takeSky_173 rfl ?_
          refine J_callBiV (Bs := [bX9 cI cJ cZ a0 r0 u_15]) (As := [.int 1, .int (u_15.1 34)]) C 179 (c_X9_fails l D cI cJ cZ cS a0 r0 u_15 1 (u_15.1 34) _ h) wd438 wd435 wd5 wd436 wd437 9 0 rfl rfl rfl hdX9_fails ⟨Nat.le_of_ble_eq_true rfl, Nat.le_of_ble_eq_true rfl⟩ ⟨Nat.zero_le _, Nat.zero_le _⟩ rfl (Nat.le_of_ble_eq_true rfl) [0] [] 1 rfl (by decide +kernel) rfl rfl (fun (u : Vl) => [bX9 cI cJ cZ a0 r0 u]) (fun _ => rfl) [0] (by decide +kernel) (fun _ => rfl) rfl (fun (u : Vl) => [bX9 cI cJ cZ a0 r0 u]) (fun _ => rfl) dX9_takeSky_176 rfl (fun r_18 u h => ?_)
          obtain ⟨u_17, hu⟩ : ∃ z, z = u := ⟨_, rfl⟩
          subst hu
          exact J_iret C hr hk u_17 rfl dX9_takeSky_179 h
    · have h := h.2 c
      refine J_loc [1, 0] rfl ?_
      exact wk_X9_takeSky_c95 C hr hk v0 s0 h
def wp_X9_takeSky (v0 : Vl)  (Q : Int32 → Vl → Prop) : Prop := wp_X9_readWord v0 (fun u_1 => wp_X9_code 102 105 110 (fun r_2 => wp_X9_longer r_2 101 0 (fun r_3 => ((¬ (u_1.2.1 35) = r_3 → wp_X9_code 114 111 117 (fun r_4 => wp_X9_longer r_4 103 104 (fun r_5 => ((¬ (u_1.2.1 35) = r_5 → wp_X9_code 105 99 101 (fun r_6 => ((¬ (u_1.2.1 35) = r_6 → wp_X9_takeSky_c81  Q u_1 (-1)) ∧ ((u_1.2.1 35) = r_6 → wp_X9_takeSky_c81  Q u_1 2)))) ∧ ((u_1.2.1 35) = r_5 → wp_X9_takeSky_c81  Q u_1 1))))) ∧ ((u_1.2.1 35) = r_3 → wp_X9_takeSky_c81  Q u_1 0)))))
set_option maxHeartbeats 4000000 in
set_option maxRecDepth 100000 in
theorem c_X9_takeSky (l : Launch) (D : GG) (cI cJ cZ cS : ClassId) (a0 : Nat) (r0 : Nat → Nat) (v0 : Vl)  (Q : Int32 → Vl → Prop) (h : wp_X9_takeSky v0 Q) : Mi l D (tyL cI cJ cZ cS) yX9_takeSky cX9_takeSky 3 .int 3 73 [.ref a0] (List.flatten [bX9 cI cJ cZ a0 r0 v0]) (fun (r : Int32) (u : Vl) => Q r u) (fun (u : Vl) => List.flatten [bX9 cI cJ cZ a0 r0 u]) := by
  refine Mi_of RX9 [(0, .ref a0)] (by decide +kernel) rfl rfl (Nat.le_of_ble_eq_true rfl) ?_
  intro p e s m args below meth c A C hr hk
  refine J_aload_n C 1 dX9_takeSky_0 rfl rfl ?_
  refine J_callBvV (Bs := [bX9 cI cJ cZ a0 r0 v0]) (As := []) C 4 (c_X9_readWord l D cI cJ cZ cS a0 r0 v0 _ h) wd419 wd416 wd5 wd417 wd418 9 0 rfl rfl rfl hdX9_readWord ⟨Nat.le_of_ble_eq_true rfl, Nat.le_of_ble_eq_true rfl⟩ ⟨Nat.zero_le _, Nat.zero_le _⟩ rfl (Nat.le_of_ble_eq_true rfl) [0] [] 1 rfl (by decide +kernel) rfl rfl (fun (u : Vl) => [bX9 cI cJ cZ a0 r0 u]) (fun _ => rfl) [0] (by decide +kernel) (fun _ => rfl) rfl (fun (u : Vl) => [bX9 cI cJ cZ a0 r0 u]) (fun _ => rfl) dX9_takeSky_1 rfl (fun u h => ?_)
  obtain ⟨u_1, hu⟩ : ∃ z, z = u := ⟨_, rfl⟩
  subst hu
  refine J_aload_n C 5 dX9_takeSky_4 rfl rfl ?_
  refine J_get C 8 9 inlX9 0 35 rfl rfl (by decide) wd414 rfl rfl dX9_takeSky_5 rfl ?_
  refine J_bipush C 10 dX9_takeSky_8 rfl kb_102 ?_
  refine J_bipush C 12 dX9_takeSky_10 rfl kb_105 ?_
  refine J_bipush C 14 dX9_takeSky_12 rfl kb_110 ?_
  refine J_callBlS (Bs := [bX9 cI cJ cZ a0 r0 u_1]) (As := [.int 102, .int 105, .int 110]) C 17 (c_X9_code l D cI cJ cZ cS 102 105 110 _ h) wd428 wd426 wd5 wd427 hdX9_code ⟨Nat.le_of_ble_eq_true rfl, Nat.le_of_ble_eq_true rfl⟩ ⟨Nat.zero_le _, Nat.zero_le _⟩ rfl (Nat.le_of_ble_eq_true rfl) [] [0] 1 rfl (by decide +kernel) rfl rfl (fun (u : Unit) => ([] : List va_W)) (fun _ => rfl) [0] (by decide +kernel) (fun _ => rfl) rfl (fun (u : Unit) => [bX9 cI cJ cZ a0 r0 u_1]) (fun _ => rfl) dX9_takeSky_14 rfl (fun r_2 u h => ?_)
  refine J_bipush C 19 dX9_takeSky_17 rfl kb_101 ?_
  refine J_iconst C 20 dX9_takeSky_19 rfl ki_0 ?_
  refine J_callBlS (Bs := [bX9 cI cJ cZ a0 r0 u_1]) (As := [.long r_2, .int 101, .int 0]) C 23 (c_X9_longer l D cI cJ cZ cS r_2 101 0 _ h) wd431 wd429 wd5 wd430 hdX9_longer ⟨Nat.le_of_ble_eq_true rfl, Nat.le_of_ble_eq_true rfl⟩ ⟨Nat.zero_le _, Nat.zero_le _⟩ rfl (Nat.le_of_ble_eq_true rfl) [] [0] 1 rfl (by decide +kernel) rfl rfl (fun (u : Unit) => ([] : List va_W)) (fun _ => rfl) [0] (by decide +kernel) (fun _ => rfl) rfl (fun (u : Unit) => [bX9 cI cJ cZ a0 r0 u_1]) (fun _ => rfl) dX9_takeSky_20 rfl (fun r_3 u h => ?_)
  refine J_lc_ne C 24 27 31 dX9_takeSky_23 rfl dX9_takeSky_24 rfl rfl (fun c => ?_) (fun c => ?_)
  · have h := h.1 c
    refine J_aload_n C 32 dX9_takeSky_31 rfl rfl ?_
    refine J_get C 35 9 inlX9 0 35 rfl rfl (by decide) wd414 rfl rfl dX9_takeSky_32 rfl ?_
    refine J_bipush C 37 dX9_takeSky_35 rfl kb_114 ?_
    refine J_bipush C 39 dX9_takeSky_37 rfl kb_111 ?_
    refine J_bipush C 41 dX9_takeSky_39 rfl kb_117 ?_
    refine J_callBlS (Bs := [bX9 cI cJ cZ a0 r0 u_1]) (As := [.int 114, .int 111, .int 117]) C 44 (c_X9_code l D cI cJ cZ cS 114 111 117 _ h) wd428 wd426 wd5 wd427 hdX9_code ⟨Nat.le_of_ble_eq_true rfl, Nat.le_of_ble_eq_true rfl⟩ ⟨Nat.zero_le _, Nat.zero_le _⟩ rfl (Nat.le_of_ble_eq_true rfl) [] [0] 1 rfl (by decide +kernel) rfl rfl (fun (u : Unit) => ([] : List va_W)) (fun _ => rfl) [0] (by decide +kernel) (fun _ => rfl) rfl (fun (u : Unit) => [bX9 cI cJ cZ a0 r0 u_1]) (fun _ => rfl) dX9_takeSky_41 rfl (fun r_4 u h => ?_)
    refine J_bipush C 46 dX9_takeSky_44 rfl kb_103 ?_
    refine J_bipush C 48 dX9_takeSky_46 rfl kb_104 ?_
    refine J_callBlS (Bs := [bX9 cI cJ cZ a0 r0 u_1]) (As := [.long r_4, .int 103, .int 104]) C 51 (c_X9_longer l D cI cJ cZ cS r_4 103 104 _ h) wd431 wd429 wd5 wd430 hdX9_longer ⟨Nat.le_of_ble_eq_true rfl, Nat.le_of_ble_eq_true rfl⟩ ⟨Nat.zero_le _, Nat.zero_le _⟩ rfl (Nat.le_of_ble_eq_true rfl) [] [0] 1 rfl (by decide +kernel) rfl rfl (fun (u : Unit) => ([] : List va_W)) (fun _ => rfl) [0] (by decide +kernel) (fun _ => rfl) rfl (fun (u : Unit) => [bX9 cI cJ cZ a0 r0 u_1]) (fun _ => rfl) dX9_takeSky_48 rfl (fun r_5 u h => ?_)
    refine J_lc_ne C 52 55 59 dX9_takeSky_51 rfl dX9_takeSky_52 rfl rfl (fun c => ?_) (fun c => ?_)
    · have h := h.1 c
      refine J_aload_n C 60 dX9_takeSky_59 rfl rfl ?_
      refine J_get C 63 9 inlX9 0 35 rfl rfl (by decide) wd414 rfl rfl dX9_takeSky_60 rfl ?_
      refine J_bipush C 65 dX9_takeSky_63 rfl kb_105 ?_
      refine J_bipush C 67 dX9_takeSky_65 rfl kb_99 ?_
      refine J_bipush C 69 dX9_takeSky_67 rfl kb_101 ?_
      refine J_callBlS (Bs := [bX9 cI cJ cZ a0 r0 u_1]) (As := [.int 105, .int 99, .int 101]) C 72 (c_X9_code l D cI cJ cZ cS 105 99 101 _ h) wd428 wd426 wd5 wd427 hdX9_code ⟨Nat.le_of_ble_eq_true rfl, Nat.le_of_ble_eq_true rfl⟩ ⟨Nat.zero_le _, Nat.zero_le _⟩ rfl (Nat.le_of_ble_eq_true rfl) [] [0] 1 rfl (by decide +kernel) rfl rfl (fun (u : Unit) => ([] : List va_W)) (fun _ => rfl) [0] (by decide +kernel) (fun _ => rfl) rfl (fun (u : Unit) => [bX9 cI cJ cZ a0 r0 u_1]) (fun _ => rfl) dX9_takeSky_69 rfl (fun r_6 u h => ?_)
      refine J_lc_ne C 73 76 80 dX9_takeSky_72 rfl dX9_takeSky_73 rfl rfl (fun c => ?_) (fun c => ?_)
      · have h := h.1 c
        refine J_iconst C 81 dX9_takeSky_80 rfl ki_m1 ?_
        refine J_loc [0] rfl ?_
        exact wk_X9_takeSky_c81 C hr hk u_1 (-1) h
      · have h := h.2 c
        refine J_iconst C 77 dX9_takeSky_76 rfl ki_2 ?_
        refine J_goto C 81 dX9_takeSky_77 rfl ?_
        refine J_loc [0] rfl ?_
        exact wk_X9_takeSky_c81 C hr hk u_1 2 h
    · have h := h.2 c
      refine J_iconst C 56 dX9_takeSky_55 rfl ki_1 ?_
      refine J_goto C 81 dX9_takeSky_56 rfl ?_
      refine J_loc [0] rfl ?_
      exact wk_X9_takeSky_c81 C hr hk u_1 1 h
  · have h := h.2 c
    refine J_iconst C 28 dX9_takeSky_27 rfl ki_0 ?_
    refine J_goto C 81 dX9_takeSky_28 rfl ?_
    refine J_loc [0] rfl ?_
    exact wk_X9_takeSky_c81 C hr hk u_1 0 h
def wp_X9_skyAll_c4 (v0 : Vl) (Q : Int32 → Prop) : Nat → Int32 → Int32 → Prop
  | 0 => fun _ _ => False
  | n + 1 => fun y1 y2 => (((v0.1 10) ≤ y2 → Q y1) ∧ (¬ (v0.1 10) ≤ y2 → vp_in y2 30 ∧ (∀ x_1 : Int32, x_1 = (y1 + (v0.2.2.1 12 (Int32.toNatClampNeg y2))) → ∀ x_2 : Int32, x_2 = y2 + 1 → wp_X9_skyAll_c4 v0 Q n x_1 x_2)))
set_option maxHeartbeats 4000000 in
set_option maxRecDepth 100000 in
theorem wk_X9_skyAll_c4 {p : Program} {l : Launch} {e : Env} {s : State} {m : MethodId} {args : Array Value} {below : List Frame} {meth : Method} {c : Code} {D : GG} {A : Nat → Prop} {cI cJ cZ cS : ClassId} {a0 : Nat} {r0 : Nat → Nat} {v0 : Vl} {Q : Int32 → Prop} (C : Cx p s m args c D (tyL cI cJ cZ cS) A RX9 cX9_skyAll 3) (hr : meth.sig.returnType = some .int) (hk : meth.locks = false) : ∀ (n : Nat) (y1 : Int32) (y2 : Int32), wp_X9_skyAll_c4 v0 Q n y1 y2 → J p l e (rmk 0 0) s m args below meth c D A 3 0 0 (MQ below (va_Qi (fun (r : Int32) (u : Unit) => Q r) (fun u t => va_P D.1 vwCl ((fun (u : Unit) => List.flatten [bX9 cI cJ cZ a0 r0 v0]) u) t.heap ∧ va_D A ((fun (u : Unit) => List.flatten [bX9 cI cJ cZ a0 r0 v0]) u)) A) args s 0 0 A) 4 [(0, .ref a0), (1, .int y1), (2, .int y2)] [] (List.flatten [bX9 cI cJ cZ a0 r0 v0]) := by
  intro n
  induction n with
  | zero =>
    intro y1 y2 h
    exact False.elim h
  | succ n ih =>
    intro y1 y2 h
    refine J_iload_n C 5 dX9_skyAll_4 rfl rfl ?_
    refine J_aload_n C 6 dX9_skyAll_5 rfl rfl ?_
    refine J_get C 9 9 inlX9 0 10 rfl rfl (by decide) wd507 rfl rfl dX9_skyAll_6 rfl ?_
    refine J_icmp_ge C 12 27 dX9_skyAll_9 rfl rfl (fun c => ?_) (fun c => ?_)
    · have h := h.1 c
      refine J_iload_n C 28 dX9_skyAll_27 rfl rfl ?_
      exact J_iret C hr hk () rfl dX9_skyAll_28 h
    · have h := h.2 c
      refine J_iload_n C 13 dX9_skyAll_12 rfl rfl ?_
      refine J_aload_n C 14 dX9_skyAll_13 rfl rfl ?_
      refine J_get C 17 9 inlX9 0 12 rfl rfl (by decide) wd161 rfl rfl dX9_skyAll_14 rfl ?_
      refine J_iload_n C 18 dX9_skyAll_17 rfl rfl ?_
      obtain ⟨hi, h⟩ := h
      refine J_iald C 19 5 0 rfl rfl hi dX9_skyAll_18 rfl ?_
      refine J_iadd C 20 dX9_skyAll_19 rfl ?_
      obtain ⟨x_1, ex_1⟩ : ∃ z : Int32, z = (y1 + (v0.2.2.1 12 (Int32.toNatClampNeg y2))) := ⟨_, rfl⟩
      have h := h x_1 ex_1
      refine J_nmi ex_1 ?_
      refine J_istore_n C 21 [(1, .int x_1), (0, .ref a0), (2, .int y2)] dX9_skyAll_20 rfl (by decide) rfl ?_
      obtain ⟨x_2, ex_2⟩ : ∃ z : Int32, z = y2 + 1 := ⟨_, rfl⟩
      have h := h x_2 ex_2
      refine J_iinc C 24 [(2, .int x_2), (1, .int x_1), (0, .ref a0)] dX9_skyAll_21 rfl rfl ((kinc_1 _).trans ex_2.symm) (by decide) rfl ?_
      refine J_goto C 4 dX9_skyAll_24 rfl ?_
      refine J_loc [2, 1, 0] rfl ?_
      exact ih x_1 x_2 h
def wp_X9_skyAll (v0 : Vl)  (Q : Int32 → Prop) : Prop := (∃ k : Nat, wp_X9_skyAll_c4 v0 Q k 0 0)
set_option maxHeartbeats 4000000 in
set_option maxRecDepth 100000 in
theorem c_X9_skyAll (l : Launch) (D : GG) (cI cJ cZ cS : ClassId) (a0 : Nat) (r0 : Nat → Nat) (v0 : Vl)  (Q : Int32 → Prop) (h : wp_X9_skyAll v0 Q) : Mi l D (tyL cI cJ cZ cS) yX9_skyAll cX9_skyAll 3 .int 0 0 [.ref a0] (List.flatten [bX9 cI cJ cZ a0 r0 v0]) (fun (r : Int32) (u : Unit) => Q r) (fun (u : Unit) => List.flatten [bX9 cI cJ cZ a0 r0 v0]) := by
  refine Mi_of RX9 [(0, .ref a0)] (by decide +kernel) rfl rfl (Nat.le_of_ble_eq_true rfl) ?_
  intro p e s m args below meth c A C hr hk
  refine J_iconst C 1 dX9_skyAll_0 rfl ki_0 ?_
  refine J_istore_n C 2 [(1, .int 0), (0, .ref a0)] dX9_skyAll_1 rfl (by decide) rfl ?_
  refine J_iconst C 3 dX9_skyAll_2 rfl ki_0 ?_
  refine J_istore_n C 4 [(2, .int 0), (1, .int 0), (0, .ref a0)] dX9_skyAll_3 rfl (by decide) rfl ?_
  refine J_loc [2, 1, 0] rfl ?_
  obtain ⟨n1, h⟩ := h
  exact wk_X9_skyAll_c4 C hr hk n1 0 0 h
def wp_X9_skies_c74  (Q : Int32 → Vl → Prop) : Nat → Vl → Int32 → Prop
  | 0 => fun _ _ => False
  | n + 1 => fun v0 y2 => ((30 ≤ y2 → wp_X9_skyAll v0 (fun r_6 => Q r_6 v0)) ∧ (¬ 30 ≤ y2 → vp_in y2 30 ∧ (vp_in y2 30 ∧ (∀ v0s_7 : Vl, v0s_7 = setA v0 11 (Int32.toNatClampNeg y2) (v0.2.2.1 47 (Int32.toNatClampNeg y2)) → vp_in y2 30 ∧ (vp_in y2 30 ∧ (∀ v0s_8 : Vl, v0s_8 = setA v0s_7 12 (Int32.toNatClampNeg y2) (v0s_7.2.2.1 48 (Int32.toNatClampNeg y2)) → ∀ x_9 : Int32, x_9 = y2 + 1 → wp_X9_skies_c74  Q n v0s_8 x_9))))))
set_option maxHeartbeats 4000000 in
set_option maxRecDepth 100000 in
theorem wk_X9_skies_c74 {p : Program} {l : Launch} {e : Env} {s : State} {m : MethodId} {args : Array Value} {below : List Frame} {meth : Method} {c : Code} {D : GG} {A : Nat → Prop} {cI cJ cZ cS : ClassId} {a0 : Nat} {r0 : Nat → Nat}  {Q : Int32 → Vl → Prop} (C : Cx p s m args c D (tyL cI cJ cZ cS) A RX9 cX9_skies 3) (hr : meth.sig.returnType = some .int) (hk : meth.locks = false) : ∀ (n : Nat) (v0 : Vl) (y2 : Int32), wp_X9_skies_c74  Q n v0 y2 → J p l e (rmk 4 95) s m args below meth c D A 3 0 0 (MQ below (va_Qi (fun (r : Int32) (u : Vl) => Q r u) (fun u t => va_P D.1 vwCl ((fun (u : Vl) => List.flatten [bX9 cI cJ cZ a0 r0 u]) u) t.heap ∧ va_D A ((fun (u : Vl) => List.flatten [bX9 cI cJ cZ a0 r0 u]) u)) A) args s 0 0 A) 74 [(0, .ref a0), (2, .int y2)] [] (List.flatten [bX9 cI cJ cZ a0 r0 v0]) := by
  intro n
  induction n with
  | zero =>
    intro v0 y2 h
    exact False.elim h
  | succ n ih =>
    intro v0 y2 h
    refine J_iload_n C 75 dX9_skies_74 rfl rfl ?_
    refine J_bipush C 77 dX9_skies_75 rfl kb_30 ?_
    refine J_icmp_ge C 80 110 dX9_skies_77 rfl rfl (fun c => ?_) (fun c => ?_)
    · have h := h.1 c
      refine J_aload_n C 111 dX9_skies_110 rfl rfl ?_
      refine J_callBiV (Bs := [bX9 cI cJ cZ a0 r0 v0]) (As := []) C 114 (c_X9_skyAll l D cI cJ cZ cS a0 r0 v0 _ h) wd515 wd512 wd5 wd513 wd514 9 0 rfl rfl rfl hdX9_skyAll ⟨Nat.le_of_ble_eq_true rfl, Nat.le_of_ble_eq_true rfl⟩ ⟨Nat.zero_le _, Nat.zero_le _⟩ rfl (Nat.le_of_ble_eq_true rfl) [0] [] 1 rfl (by decide +kernel) rfl rfl (fun (u : Unit) => [bX9 cI cJ cZ a0 r0 v0]) (fun _ => rfl) [0] (by decide +kernel) (fun _ => rfl) rfl (fun (u : Unit) => [bX9 cI cJ cZ a0 r0 v0]) (fun _ => rfl) dX9_skies_111 rfl (fun r_6 u h => ?_)
      exact J_iret C hr hk v0 rfl dX9_skies_114 h
    · have h := h.2 c
      refine J_aload_n C 81 dX9_skies_80 rfl rfl ?_
      refine J_get C 84 9 inlX9 0 11 rfl rfl (by decide) wd160 rfl rfl dX9_skies_81 rfl ?_
      refine J_iload_n C 85 dX9_skies_84 rfl rfl ?_
      refine J_aload_n C 86 dX9_skies_85 rfl rfl ?_
      refine J_get C 89 9 inlX9 0 47 rfl rfl (by decide) wd174 rfl rfl dX9_skies_86 rfl ?_
      refine J_iload_n C 90 dX9_skies_89 rfl rfl ?_
      obtain ⟨hi, h⟩ := h
      refine J_iald C 91 16 0 rfl rfl hi dX9_skies_90 rfl ?_
      obtain ⟨hi, h⟩ := h
      obtain ⟨v0s_7, ev0s_7⟩ : ∃ z : Vl, z = setA v0 11 (Int32.toNatClampNeg y2) (v0.2.2.1 47 (Int32.toNatClampNeg y2)) := ⟨_, rfl⟩
      have h := h v0s_7 ev0s_7
      refine J_iast C 92 4 0 rfl rfl hi (List.flatten [bX9 cI cJ cZ a0 r0 v0s_7]) (by subst ev0s_7; rfl) dX9_skies_91 rfl ?_
      refine J_aload_n C 93 dX9_skies_92 rfl rfl ?_
      refine J_get C 96 9 inlX9 0 12 rfl rfl (by decide) wd161 rfl rfl dX9_skies_93 rfl ?_
      refine J_iload_n C 97 dX9_skies_96 rfl rfl ?_
      refine J_aload_n C 98 dX9_skies_97 rfl rfl ?_
      refine J_get C 101 9 inlX9 0 48 rfl rfl (by decide) wd175 rfl rfl dX9_skies_98 rfl ?_
      refine J_iload_n C 102 dX9_skies_101 rfl rfl ?_
      obtain ⟨hi, h⟩ := h
      refine J_iald C 103 17 0 rfl rfl hi dX9_skies_102 rfl ?_
      obtain ⟨hi, h⟩ := h
      obtain ⟨v0s_8, ev0s_8⟩ : ∃ z : Vl, z = setA v0s_7 12 (Int32.toNatClampNeg y2) (v0s_7.2.2.1 48 (Int32.toNatClampNeg y2)) := ⟨_, rfl⟩
      have h := h v0s_8 ev0s_8
      refine J_iast C 104 5 0 rfl rfl hi (List.flatten [bX9 cI cJ cZ a0 r0 v0s_8]) (by subst ev0s_8; rfl) dX9_skies_103 rfl ?_
      obtain ⟨x_9, ex_9⟩ : ∃ z : Int32, z = y2 + 1 := ⟨_, rfl⟩
      have h := h x_9 ex_9
      refine J_iinc C 107 [(2, .int x_9), (0, .ref a0)] dX9_skies_104 rfl rfl ((kinc_1 _).trans ex_9.symm) (by decide) rfl ?_
      refine J_goto C 74 dX9_skies_107 rfl ?_
      refine J_loc [1, 0] rfl ?_
      exact ih v0s_8 x_9 h
def wp_X9_skies_c50  (Q : Int32 → Vl → Prop) (v0 : Vl) (y1 : Int32) : Prop := ∀ v0s_4 : Vl, v0s_4 = setI v0 32 0 → ((y1 ≤ 0 → ∀ v0s_5 : Vl, v0s_5 = setI v0s_4 10 (v0s_4.1 46) → (∃ k : Nat, wp_X9_skies_c74  Q k v0s_5 0)) ∧ (¬ y1 ≤ 0 → Q ((-10) - y1) v0s_4))
set_option maxHeartbeats 4000000 in
set_option maxRecDepth 100000 in
theorem wk_X9_skies_c50 {p : Program} {l : Launch} {e : Env} {s : State} {m : MethodId} {args : Array Value} {below : List Frame} {meth : Method} {c : Code} {D : GG} {A : Nat → Prop} {cI cJ cZ cS : ClassId} {a0 : Nat} {r0 : Nat → Nat}  {Q : Int32 → Vl → Prop} (C : Cx p s m args c D (tyL cI cJ cZ cS) A RX9 cX9_skies 3) (hr : meth.sig.returnType = some .int) (hk : meth.locks = false) : ∀ (v0 : Vl) (y1 : Int32), wp_X9_skies_c50  Q v0 y1 → J p l e (rmk 4 95) s m args below meth c D A 3 0 0 (MQ below (va_Qi (fun (r : Int32) (u : Vl) => Q r u) (fun u t => va_P D.1 vwCl ((fun (u : Vl) => List.flatten [bX9 cI cJ cZ a0 r0 u]) u) t.heap ∧ va_D A ((fun (u : Vl) => List.flatten [bX9 cI cJ cZ a0 r0 u]) u)) A) args s 0 0 A) 50 [(0, .ref a0), (1, .int y1)] [] (List.flatten [bX9 cI cJ cZ a0 r0 v0]) := by
  intro v0 y1 h
  refine J_aload_n C 51 dX9_skies_50 rfl rfl ?_
  refine J_iconst C 52 dX9_skies_51 rfl ki_0 ?_
  obtain ⟨v0s_4, ev0s_4⟩ : ∃ z : Vl, z = setI v0 32 0 := ⟨_, rfl⟩
  have h := h v0s_4 ev0s_4
  refine J_put C 55 9 inlX9 tyX9 tyX9_ok nmX9 0 32 rfl rfl (by decide) wd220 rfl rfl rfl rfl rfl (List.flatten [bX9 cI cJ cZ a0 r0 v0s_4]) (by subst ev0s_4; rfl) dX9_skies_52 rfl ?_
  refine J_iload_n C 56 dX9_skies_55 rfl rfl ?_
  refine J_if_le C 59 64 dX9_skies_56 rfl rfl (fun c => ?_) (fun c => ?_)
  · have h := h.1 c
    refine J_aload_n C 65 dX9_skies_64 rfl rfl ?_
    refine J_aload_n C 66 dX9_skies_65 rfl rfl ?_
    refine J_get C 69 9 inlX9 0 46 rfl rfl (by decide) wd506 rfl rfl dX9_skies_66 rfl ?_
    obtain ⟨v0s_5, ev0s_5⟩ : ∃ z : Vl, z = setI v0s_4 10 (v0s_4.1 46) := ⟨_, rfl⟩
    have h := h v0s_5 ev0s_5
    refine J_put C 72 9 inlX9 tyX9 tyX9_ok nmX9 0 10 rfl rfl (by decide) wd507 rfl rfl rfl rfl rfl (List.flatten [bX9 cI cJ cZ a0 r0 v0s_5]) (by subst ev0s_5; rfl) dX9_skies_69 rfl ?_
    refine J_iconst C 73 dX9_skies_72 rfl ki_0 ?_
    refine J_istore_n C 74 [(2, .int 0), (0, .ref a0), (1, .int y1)] dX9_skies_73 rfl (by decide) rfl ?_
    refine J_loc [1, 0] rfl ?_
    obtain ⟨n1, h⟩ := h
    exact wk_X9_skies_c74 C hr hk n1 v0s_5 0 h
  · have h := h.2 c
    refine J_bipush C 61 dX9_skies_59 rfl kb_m10 ?_
    refine J_iload_n C 62 dX9_skies_61 rfl rfl ?_
    refine J_isub C 63 dX9_skies_62 rfl ?_
    exact J_iret C hr hk v0s_4 rfl dX9_skies_63 h
def wp_X9_skies_c31  (Q : Int32 → Vl → Prop) : Nat → Vl → Int32 → Prop
  | 0 => fun _ _ => False
  | n + 1 => fun v0 y1 => ((¬ y1 = 0 → wp_X9_skies_c50  Q v0 y1) ∧ (y1 = 0 → wp_X9_here v0 (fun r_11 u_10 => ((r_11 < 0 → wp_X9_skies_c50  Q u_10 y1) ∧ (¬ r_11 < 0 → wp_X9_takeSky u_10 (fun r_13 u_12 => wp_X9_skies_c31  Q n u_12 r_13))))))
set_option maxHeartbeats 4000000 in
set_option maxRecDepth 100000 in
theorem wk_X9_skies_c31 {p : Program} {l : Launch} {e : Env} {s : State} {m : MethodId} {args : Array Value} {below : List Frame} {meth : Method} {c : Code} {D : GG} {A : Nat → Prop} {cI cJ cZ cS : ClassId} {a0 : Nat} {r0 : Nat → Nat}  {Q : Int32 → Vl → Prop} (C : Cx p s m args c D (tyL cI cJ cZ cS) A RX9 cX9_skies 3) (hr : meth.sig.returnType = some .int) (hk : meth.locks = false) : ∀ (n : Nat) (v0 : Vl) (y1 : Int32), wp_X9_skies_c31  Q n v0 y1 → J p l e (rmk 4 95) s m args below meth c D A 3 0 0 (MQ below (va_Qi (fun (r : Int32) (u : Vl) => Q r u) (fun u t => va_P D.1 vwCl ((fun (u : Vl) => List.flatten [bX9 cI cJ cZ a0 r0 u]) u) t.heap ∧ va_D A ((fun (u : Vl) => List.flatten [bX9 cI cJ cZ a0 r0 u]) u)) A) args s 0 0 A) 31 [(0, .ref a0), (1, .int y1)] [] (List.flatten [bX9 cI cJ cZ a0 r0 v0]) := by
  intro n
  induction n with
  | zero =>
    intro v0 y1 h
    exact False.elim h
  | succ n ih =>
    intro v0 y1 h
    refine J_iload_n C 32 dX9_skies_31 rfl rfl ?_
    refine J_if_ne C 35 50 dX9_skies_32 rfl rfl (fun c => ?_) (fun c => ?_)
    · have h := h.1 c
      refine J_loc [0, 1] rfl ?_
      exact wk_X9_skies_c50 C hr hk v0 y1 h
    · have h := h.2 c
      refine J_aload_n C 36 dX9_skies_35 rfl rfl ?_
      refine J_callBiV (Bs := [bX9 cI cJ cZ a0 r0 v0]) (As := []) C 39 (c_X9_here l D cI cJ cZ cS a0 r0 v0 _ h) wd409 wd406 wd5 wd407 wd408 9 0 rfl rfl rfl hdX9_here ⟨Nat.le_of_ble_eq_true rfl, Nat.le_of_ble_eq_true rfl⟩ ⟨Nat.zero_le _, Nat.zero_le _⟩ rfl (Nat.le_of_ble_eq_true rfl) [0] [] 1 rfl (by decide +kernel) rfl rfl (fun (u : Vl) => [bX9 cI cJ cZ a0 r0 u]) (fun _ => rfl) [0] (by decide +kernel) (fun _ => rfl) rfl (fun (u : Vl) => [bX9 cI cJ cZ a0 r0 u]) (fun _ => rfl) dX9_skies_36 rfl (fun r_11 u h => ?_)
      obtain ⟨u_10, hu⟩ : ∃ z, z = u := ⟨_, rfl⟩
      subst hu
      refine J_if_lt C 42 50 dX9_skies_39 rfl rfl (fun c => ?_) (fun c => ?_)
      · have h := h.1 c
        refine J_loc [0, 1] rfl ?_
        exact wk_X9_skies_c50 C hr hk u_10 y1 h
      · have h := h.2 c
        refine J_aload_n C 43 dX9_skies_42 rfl rfl ?_
        refine J_callBiV (Bs := [bX9 cI cJ cZ a0 r0 u_10]) (As := []) C 46 (c_X9_takeSky l D cI cJ cZ cS a0 r0 u_10 _ h) wd511 wd508 wd5 wd509 wd510 9 0 rfl rfl rfl hdX9_takeSky ⟨Nat.le_of_ble_eq_true rfl, Nat.le_of_ble_eq_true rfl⟩ ⟨Nat.zero_le _, Nat.zero_le _⟩ rfl (Nat.le_of_ble_eq_true rfl) [0] [] 1 rfl (by decide +kernel) rfl rfl (fun (u : Vl) => [bX9 cI cJ cZ a0 r0 u]) (fun _ => rfl) [0] (by decide +kernel) (fun _ => rfl) rfl (fun (u : Vl) => [bX9 cI cJ cZ a0 r0 u]) (fun _ => rfl) dX9_skies_43 rfl (fun r_13 u h => ?_)
        obtain ⟨u_12, hu⟩ : ∃ z, z = u := ⟨_, rfl⟩
        subst hu
        refine J_istore_n C 47 [(1, .int r_13), (0, .ref a0)] dX9_skies_46 rfl (by decide) rfl ?_
        refine J_goto C 31 dX9_skies_47 rfl ?_
        refine J_loc [1, 0] rfl ?_
        exact ih u_12 r_13 h
def wp_X9_skies (v0 : Vl)  (Q : Int32 → Vl → Prop) : Prop := (((v0.1 32) ≤ 200 → ∀ v0s_1 : Vl, v0s_1 = setI v0 33 (-1) → ∀ v0s_2 : Vl, v0s_2 = setI v0s_1 34 0 → ∀ v0s_3 : Vl, v0s_3 = setI v0s_2 46 0 → (∃ k : Nat, wp_X9_skies_c31  Q k v0s_3 0)) ∧ (¬ (v0.1 32) ≤ 200 → Q (-1000000003) v0))
set_option maxHeartbeats 4000000 in
set_option maxRecDepth 100000 in
theorem c_X9_skies (l : Launch) (D : GG) (cI cJ cZ cS : ClassId) (a0 : Nat) (r0 : Nat → Nat) (v0 : Vl)  (Q : Int32 → Vl → Prop) (h : wp_X9_skies v0 Q) : Mi l D (tyL cI cJ cZ cS) yX9_skies cX9_skies 3 .int 4 95 [.ref a0] (List.flatten [bX9 cI cJ cZ a0 r0 v0]) (fun (r : Int32) (u : Vl) => Q r u) (fun (u : Vl) => List.flatten [bX9 cI cJ cZ a0 r0 u]) := by
  refine Mi_of RX9 [(0, .ref a0)] (by decide +kernel) rfl rfl (Nat.le_of_ble_eq_true rfl) ?_
  intro p e s m args below meth c A C hr hk
  refine J_aload_n C 1 dX9_skies_0 rfl rfl ?_
  refine J_get C 4 9 inlX9 0 32 rfl rfl (by decide) wd220 rfl rfl dX9_skies_1 rfl ?_
  refine J_sipush C 7 dX9_skies_4 rfl ks_200 ?_
  refine J_icmp_le C 10 14 dX9_skies_7 rfl rfl (fun c => ?_) (fun c => ?_)
  · have h := h.1 c
    refine J_aload_n C 15 dX9_skies_14 rfl rfl ?_
    refine J_iconst C 16 dX9_skies_15 rfl ki_m1 ?_
    obtain ⟨v0s_1, ev0s_1⟩ : ∃ z : Vl, z = setI v0 33 (-1) := ⟨_, rfl⟩
    have h := h v0s_1 ev0s_1
    refine J_put C 19 9 inlX9 tyX9 tyX9_ok nmX9 0 33 rfl rfl (by decide) wd169 rfl rfl rfl rfl rfl (List.flatten [bX9 cI cJ cZ a0 r0 v0s_1]) (by subst ev0s_1; rfl) dX9_skies_16 rfl ?_
    refine J_aload_n C 20 dX9_skies_19 rfl rfl ?_
    refine J_iconst C 21 dX9_skies_20 rfl ki_0 ?_
    obtain ⟨v0s_2, ev0s_2⟩ : ∃ z : Vl, z = setI v0s_1 34 0 := ⟨_, rfl⟩
    have h := h v0s_2 ev0s_2
    refine J_put C 24 9 inlX9 tyX9 tyX9_ok nmX9 0 34 rfl rfl (by decide) wd402 rfl rfl rfl rfl rfl (List.flatten [bX9 cI cJ cZ a0 r0 v0s_2]) (by subst ev0s_2; rfl) dX9_skies_21 rfl ?_
    refine J_aload_n C 25 dX9_skies_24 rfl rfl ?_
    refine J_iconst C 26 dX9_skies_25 rfl ki_0 ?_
    obtain ⟨v0s_3, ev0s_3⟩ : ∃ z : Vl, z = setI v0s_2 46 0 := ⟨_, rfl⟩
    have h := h v0s_3 ev0s_3
    refine J_put C 29 9 inlX9 tyX9 tyX9_ok nmX9 0 46 rfl rfl (by decide) wd506 rfl rfl rfl rfl rfl (List.flatten [bX9 cI cJ cZ a0 r0 v0s_3]) (by subst ev0s_3; rfl) dX9_skies_26 rfl ?_
    refine J_iconst C 30 dX9_skies_29 rfl ki_0 ?_
    refine J_istore_n C 31 [(1, .int 0), (0, .ref a0)] dX9_skies_30 rfl (by decide) rfl ?_
    refine J_loc [1, 0] rfl ?_
    obtain ⟨n1, h⟩ := h
    exact wk_X9_skies_c31 C hr hk n1 v0s_3 0 h
  · have h := h.2 c
    refine J_ldcw C 13 wd505 dX9_skies_10 rfl ?_
    exact J_iret C hr hk v0 rfl dX9_skies_13 h
