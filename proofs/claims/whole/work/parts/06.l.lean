def wp_X9_into_kt_40 (v0 : Vl) (x2 : Int32) (x3 : Int32) (x4 : Int32) (Q : Int32 → Vl → Prop) : Prop := wp_X9_takeNumber v0 x3 x4 (fun r_2 u_1 => vp_in x2 45 ∧ (∀ v0s_3 : Vl, v0s_3 = setA u_1 40 (Int32.toNatClampNeg x2) (u_1.1 37) → Q r_2 v0s_3))
set_option maxHeartbeats 4000000 in
set_option maxRecDepth 100000 in
theorem c_X9_into_kt_40 (l : Launch) (D : GG) (cI cJ cZ cS : ClassId) (a0 : Nat) (r0 : Nat → Nat) (v0 : Vl) (x2 : Int32) (x3 : Int32) (x4 : Int32) (Q : Int32 → Vl → Prop) (h : wp_X9_into_kt_40 v0 x2 x3 x4 Q) : Mi l D (tyL cI cJ cZ cS) yX9_into cX9_into 6 .int 2 48 [.ref a0, .ref (r0 40), .int x2, .int x3, .int x4] (List.flatten [bX9 cI cJ cZ a0 r0 v0]) (fun (r : Int32) (u : Vl) => Q r u) (fun (u : Vl) => List.flatten [bX9 cI cJ cZ a0 r0 u]) := by
  refine Mi_of RX9 [(0, .ref a0), (1, .ref (r0 40)), (2, .int x2), (3, .int x3), (4, .int x4)] (by decide +kernel) rfl rfl (Nat.le_of_ble_eq_true rfl) ?_
  intro p e s m args below meth c A C hr hk
  refine J_aload_n C 1 dX9_into_0 rfl rfl ?_
  refine J_iload_n C 2 dX9_into_1 rfl rfl ?_
  refine J_iload C 4 dX9_into_2 rfl rfl ?_
  refine J_callBiV (Bs := [bX9 cI cJ cZ a0 r0 v0]) (As := [.int x3, .int x4]) C 7 (c_X9_takeNumber l D cI cJ cZ cS a0 r0 v0 x3 x4 _ h) wd451 wd448 wd5 wd449 wd450 9 0 rfl rfl rfl hdX9_takeNumber ⟨Nat.le_of_ble_eq_true rfl, Nat.le_of_ble_eq_true rfl⟩ ⟨Nat.zero_le _, Nat.zero_le _⟩ rfl (Nat.le_of_ble_eq_true rfl) [0] [] 1 rfl (by decide +kernel) rfl rfl (fun (u : Vl) => [bX9 cI cJ cZ a0 r0 u]) (fun _ => rfl) [0] (by decide +kernel) (fun _ => rfl) rfl (fun (u : Vl) => [bX9 cI cJ cZ a0 r0 u]) (fun _ => rfl) dX9_into_4 rfl (fun r_2 u h => ?_)
  obtain ⟨u_1, hu⟩ : ∃ z, z = u := ⟨_, rfl⟩
  subst hu
  refine J_istore C 9 [(5, .int r_2), (0, .ref a0), (1, .ref (r0 40)), (2, .int x2), (3, .int x3), (4, .int x4)] dX9_into_7 rfl (by decide) rfl ?_
  refine J_aload_n C 10 dX9_into_9 rfl rfl ?_
  refine J_iload_n C 11 dX9_into_10 rfl rfl ?_
  refine J_aload_n C 12 dX9_into_11 rfl rfl ?_
  refine J_get C 15 9 inlX9 0 37 rfl rfl (by decide) wd447 rfl rfl dX9_into_12 rfl ?_
  obtain ⟨hi, h⟩ := h
  obtain ⟨v0s_3, ev0s_3⟩ : ∃ z : Vl, z = setA u_1 40 (Int32.toNatClampNeg x2) (u_1.1 37) := ⟨_, rfl⟩
  have h := h v0s_3 ev0s_3
  refine J_iast C 16 12 0 rfl rfl hi (List.flatten [bX9 cI cJ cZ a0 r0 v0s_3]) (by subst ev0s_3; rfl) dX9_into_15 rfl ?_
  refine J_iload C 18 dX9_into_16 rfl rfl ?_
  exact J_iret C hr hk v0s_3 rfl dX9_into_18 h
def wp_X9_takeLight_c265  (Q : Int32 → Vl → Prop) (v0 : Vl) (y1 : Int32) (s0 : Int32) : Prop := ((s0 ≤ 0 → wp_X9_into_kt_40 v0 (y1 + 4) 0 99 (fun r_25 u_24 => Q r_25 u_24)) ∧ (¬ s0 ≤ 0 → Q s0 v0))
set_option maxHeartbeats 4000000 in
set_option maxRecDepth 100000 in
theorem wk_X9_takeLight_c265 {p : Program} {l : Launch} {e : Env} {s : State} {m : MethodId} {args : Array Value} {below : List Frame} {meth : Method} {c : Code} {D : GG} {A : Nat → Prop} {cI cJ cZ cS : ClassId} {a0 : Nat} {r0 : Nat → Nat}  {Q : Int32 → Vl → Prop} (C : Cx p s m args c D (tyL cI cJ cZ cS) A RX9 cX9_takeLight 4) (hr : meth.sig.returnType = some .int) (hk : meth.locks = false) : ∀ (v0 : Vl) (y1 : Int32) (s0 : Int32), wp_X9_takeLight_c265  Q v0 y1 s0 → J p l e (rmk 3 73) s m args below meth c D A 4 0 0 (MQ below (va_Qi (fun (r : Int32) (u : Vl) => Q r u) (fun u t => va_P D.1 vwCl ((fun (u : Vl) => List.flatten [bX9 cI cJ cZ a0 r0 u]) u) t.heap ∧ va_D A ((fun (u : Vl) => List.flatten [bX9 cI cJ cZ a0 r0 u]) u)) A) args s 0 0 A) 265 [(0, .ref a0), (1, .int y1)] [.int s0] (List.flatten [bX9 cI cJ cZ a0 r0 v0]) := by
  intro v0 y1 s0 h
  refine J_istore_n C 266 [(3, .int s0), (0, .ref a0), (1, .int y1)] dX9_takeLight_265 rfl (by decide) rfl ?_
  refine J_iload_n C 267 dX9_takeLight_266 rfl rfl ?_
  refine J_if_le C 270 274 dX9_takeLight_267 rfl rfl (fun c => ?_) (fun c => ?_)
  · have h := h.1 c
    refine J_aload_n C 275 dX9_takeLight_274 rfl rfl ?_
    refine J_aload_n C 276 dX9_takeLight_275 rfl rfl ?_
    refine J_get C 279 9 inlX9 0 40 rfl rfl (by decide) wd170 rfl rfl dX9_takeLight_276 rfl ?_
    refine J_iload_n C 280 dX9_takeLight_279 rfl rfl ?_
    refine J_iconst C 281 dX9_takeLight_280 rfl ki_4 ?_
    refine J_iadd C 282 dX9_takeLight_281 rfl ?_
    refine J_iconst C 283 dX9_takeLight_282 rfl ki_0 ?_
    refine J_bipush C 285 dX9_takeLight_283 rfl kb_99 ?_
    refine J_callBiV (Bs := [bX9 cI cJ cZ a0 r0 v0]) (As := [.ref (r0 40), .int (y1 + 4), .int 0, .int 99]) C 288 (c_X9_into_kt_40 l D cI cJ cZ cS a0 r0 v0 (y1 + 4) 0 99 _ h) wd446 wd443 wd5 wd444 wd445 9 0 rfl rfl rfl hdX9_into ⟨Nat.le_of_ble_eq_true rfl, Nat.le_of_ble_eq_true rfl⟩ ⟨Nat.zero_le _, Nat.zero_le _⟩ rfl (Nat.le_of_ble_eq_true rfl) [0] [] 1 rfl (by decide +kernel) rfl rfl (fun (u : Vl) => [bX9 cI cJ cZ a0 r0 u]) (fun _ => rfl) [0] (by decide +kernel) (fun _ => rfl) rfl (fun (u : Vl) => [bX9 cI cJ cZ a0 r0 u]) (fun _ => rfl) dX9_takeLight_285 rfl (fun r_25 u h => ?_)
    obtain ⟨u_24, hu⟩ : ∃ z, z = u := ⟨_, rfl⟩
    subst hu
    exact J_iret C hr hk u_24 rfl dX9_takeLight_288 h
  · have h := h.2 c
    refine J_iload_n C 271 dX9_takeLight_270 rfl rfl ?_
    refine J_goto C 288 dX9_takeLight_271 rfl ?_
    exact J_iret C hr hk v0 rfl dX9_takeLight_288 h
def wp_X9_takeLight_c241  (Q : Int32 → Vl → Prop) (v0 : Vl) (y1 : Int32) (s0 : Int32) : Prop := ((s0 ≤ 0 → wp_X9_into_kt_40 v0 (y1 + 3) 0 999 (fun r_23 u_22 => wp_X9_takeLight_c265  Q u_22 y1 r_23)) ∧ (¬ s0 ≤ 0 → wp_X9_takeLight_c265  Q v0 y1 s0))
set_option maxHeartbeats 4000000 in
set_option maxRecDepth 100000 in
theorem wk_X9_takeLight_c241 {p : Program} {l : Launch} {e : Env} {s : State} {m : MethodId} {args : Array Value} {below : List Frame} {meth : Method} {c : Code} {D : GG} {A : Nat → Prop} {cI cJ cZ cS : ClassId} {a0 : Nat} {r0 : Nat → Nat}  {Q : Int32 → Vl → Prop} (C : Cx p s m args c D (tyL cI cJ cZ cS) A RX9 cX9_takeLight 4) (hr : meth.sig.returnType = some .int) (hk : meth.locks = false) : ∀ (v0 : Vl) (y1 : Int32) (s0 : Int32), wp_X9_takeLight_c241  Q v0 y1 s0 → J p l e (rmk 3 73) s m args below meth c D A 4 0 0 (MQ below (va_Qi (fun (r : Int32) (u : Vl) => Q r u) (fun u t => va_P D.1 vwCl ((fun (u : Vl) => List.flatten [bX9 cI cJ cZ a0 r0 u]) u) t.heap ∧ va_D A ((fun (u : Vl) => List.flatten [bX9 cI cJ cZ a0 r0 u]) u)) A) args s 0 0 A) 241 [(0, .ref a0), (1, .int y1)] [.int s0] (List.flatten [bX9 cI cJ cZ a0 r0 v0]) := by
  intro v0 y1 s0 h
  refine J_istore_n C 242 [(3, .int s0), (0, .ref a0), (1, .int y1)] dX9_takeLight_241 rfl (by decide) rfl ?_
  refine J_iload_n C 243 dX9_takeLight_242 rfl rfl ?_
  refine J_if_le C 246 250 dX9_takeLight_243 rfl rfl (fun c => ?_) (fun c => ?_)
  · have h := h.1 c
    refine J_aload_n C 251 dX9_takeLight_250 rfl rfl ?_
    refine J_aload_n C 252 dX9_takeLight_251 rfl rfl ?_
    refine J_get C 255 9 inlX9 0 40 rfl rfl (by decide) wd170 rfl rfl dX9_takeLight_252 rfl ?_
    refine J_iload_n C 256 dX9_takeLight_255 rfl rfl ?_
    refine J_iconst C 257 dX9_takeLight_256 rfl ki_3 ?_
    refine J_iadd C 258 dX9_takeLight_257 rfl ?_
    refine J_iconst C 259 dX9_takeLight_258 rfl ki_0 ?_
    refine J_sipush C 262 dX9_takeLight_259 rfl ks_999 ?_
    refine J_callBiV (Bs := [bX9 cI cJ cZ a0 r0 v0]) (As := [.ref (r0 40), .int (y1 + 3), .int 0, .int 999]) C 265 (c_X9_into_kt_40 l D cI cJ cZ cS a0 r0 v0 (y1 + 3) 0 999 _ h) wd446 wd443 wd5 wd444 wd445 9 0 rfl rfl rfl hdX9_into ⟨Nat.le_of_ble_eq_true rfl, Nat.le_of_ble_eq_true rfl⟩ ⟨Nat.zero_le _, Nat.zero_le _⟩ rfl (Nat.le_of_ble_eq_true rfl) [0] [] 1 rfl (by decide +kernel) rfl rfl (fun (u : Vl) => [bX9 cI cJ cZ a0 r0 u]) (fun _ => rfl) [0] (by decide +kernel) (fun _ => rfl) rfl (fun (u : Vl) => [bX9 cI cJ cZ a0 r0 u]) (fun _ => rfl) dX9_takeLight_262 rfl (fun r_23 u h => ?_)
    obtain ⟨u_22, hu⟩ : ∃ z, z = u := ⟨_, rfl⟩
    subst hu
    refine J_loc [1, 2] rfl ?_
    exact wk_X9_takeLight_c265 C hr hk u_22 y1 r_23 h
  · have h := h.2 c
    refine J_iload_n C 247 dX9_takeLight_246 rfl rfl ?_
    refine J_goto C 265 dX9_takeLight_247 rfl ?_
    refine J_loc [1, 2] rfl ?_
    exact wk_X9_takeLight_c265 C hr hk v0 y1 s0 h
def wp_X9_takeLight_c164  (Q : Int32 → Vl → Prop) (v0 : Vl) (y1 : Int32) (s0 : Int32) : Prop := ((0 ≤ s0 → ∀ v0s_15 : Vl, v0s_15 = setI v0 34 (v0.1 36) → ∀ v0s_16 : Vl, v0s_16 = setI v0s_15 39 ((v0s_15.1 39) + 1) → vp_in y1 45 ∧ (∀ v0s_17 : Vl, v0s_17 = setA v0s_16 40 (Int32.toNatClampNeg y1) s0 → wp_X9_into_kt_40 v0s_17 (y1 + 1) 0 99 (fun r_19 u_18 => ((r_19 ≤ 0 → wp_X9_into_kt_40 u_18 (y1 + 2) 0 99 (fun r_21 u_20 => wp_X9_takeLight_c241  Q u_20 y1 r_21)) ∧ (¬ r_19 ≤ 0 → wp_X9_takeLight_c241  Q u_18 y1 r_19))))) ∧ (¬ 0 ≤ s0 → wp_X9_fails v0 1 (v0.1 34) (fun r_27 u_26 => Q r_27 u_26)))
set_option maxHeartbeats 4000000 in
set_option maxRecDepth 100000 in
theorem wk_X9_takeLight_c164 {p : Program} {l : Launch} {e : Env} {s : State} {m : MethodId} {args : Array Value} {below : List Frame} {meth : Method} {c : Code} {D : GG} {A : Nat → Prop} {cI cJ cZ cS : ClassId} {a0 : Nat} {r0 : Nat → Nat}  {Q : Int32 → Vl → Prop} (C : Cx p s m args c D (tyL cI cJ cZ cS) A RX9 cX9_takeLight 4) (hr : meth.sig.returnType = some .int) (hk : meth.locks = false) : ∀ (v0 : Vl) (y1 : Int32) (s0 : Int32), wp_X9_takeLight_c164  Q v0 y1 s0 → J p l e (rmk 3 73) s m args below meth c D A 4 0 0 (MQ below (va_Qi (fun (r : Int32) (u : Vl) => Q r u) (fun u t => va_P D.1 vwCl ((fun (u : Vl) => List.flatten [bX9 cI cJ cZ a0 r0 u]) u) t.heap ∧ va_D A ((fun (u : Vl) => List.flatten [bX9 cI cJ cZ a0 r0 u]) u)) A) args s 0 0 A) 164 [(0, .ref a0), (1, .int y1)] [.int s0] (List.flatten [bX9 cI cJ cZ a0 r0 v0]) := by
  intro v0 y1 s0 h
  refine J_istore_n C 165 [(2, .int s0), (0, .ref a0), (1, .int y1)] dX9_takeLight_164 rfl (by decide) rfl ?_
  refine J_iload_n C 166 dX9_takeLight_165 rfl rfl ?_
  refine J_if_ge C 169 179 dX9_takeLight_166 rfl rfl (fun c => ?_) (fun c => ?_)
  · have h := h.1 c
    refine J_aload_n C 180 dX9_takeLight_179 rfl rfl ?_
    refine J_aload_n C 181 dX9_takeLight_180 rfl rfl ?_
    refine J_get C 184 9 inlX9 0 36 rfl rfl (by decide) wd415 rfl rfl dX9_takeLight_181 rfl ?_
    obtain ⟨v0s_15, ev0s_15⟩ : ∃ z : Vl, z = setI v0 34 (v0.1 36) := ⟨_, rfl⟩
    have h := h v0s_15 ev0s_15
    refine J_put C 187 9 inlX9 tyX9 tyX9_ok nmX9 0 34 rfl rfl (by decide) wd402 rfl rfl rfl rfl rfl (List.flatten [bX9 cI cJ cZ a0 r0 v0s_15]) (by subst ev0s_15; rfl) dX9_takeLight_184 rfl ?_
    refine J_aload_n C 188 dX9_takeLight_187 rfl rfl ?_
    refine J_dup C 189 dX9_takeLight_188 rfl rfl ?_
    refine J_get C 192 9 inlX9 0 39 rfl rfl (by decide) wd403 rfl rfl dX9_takeLight_189 rfl ?_
    refine J_iconst C 193 dX9_takeLight_192 rfl ki_1 ?_
    refine J_iadd C 194 dX9_takeLight_193 rfl ?_
    obtain ⟨v0s_16, ev0s_16⟩ : ∃ z : Vl, z = setI v0s_15 39 ((v0s_15.1 39) + 1) := ⟨_, rfl⟩
    have h := h v0s_16 ev0s_16
    refine J_put C 197 9 inlX9 tyX9 tyX9_ok nmX9 0 39 rfl rfl (by decide) wd403 rfl rfl rfl rfl rfl (List.flatten [bX9 cI cJ cZ a0 r0 v0s_16]) (by subst ev0s_16; rfl) dX9_takeLight_194 rfl ?_
    refine J_aload_n C 198 dX9_takeLight_197 rfl rfl ?_
    refine J_get C 201 9 inlX9 0 40 rfl rfl (by decide) wd170 rfl rfl dX9_takeLight_198 rfl ?_
    refine J_iload_n C 202 dX9_takeLight_201 rfl rfl ?_
    refine J_iload_n C 203 dX9_takeLight_202 rfl rfl ?_
    obtain ⟨hi, h⟩ := h
    obtain ⟨v0s_17, ev0s_17⟩ : ∃ z : Vl, z = setA v0s_16 40 (Int32.toNatClampNeg y1) s0 := ⟨_, rfl⟩
    have h := h v0s_17 ev0s_17
    refine J_iast C 204 12 0 rfl rfl hi (List.flatten [bX9 cI cJ cZ a0 r0 v0s_17]) (by subst ev0s_17; rfl) dX9_takeLight_203 rfl ?_
    refine J_aload_n C 205 dX9_takeLight_204 rfl rfl ?_
    refine J_aload_n C 206 dX9_takeLight_205 rfl rfl ?_
    refine J_get C 209 9 inlX9 0 40 rfl rfl (by decide) wd170 rfl rfl dX9_takeLight_206 rfl ?_
    refine J_iload_n C 210 dX9_takeLight_209 rfl rfl ?_
    refine J_iconst C 211 dX9_takeLight_210 rfl ki_1 ?_
    refine J_iadd C 212 dX9_takeLight_211 rfl ?_
    refine J_iconst C 213 dX9_takeLight_212 rfl ki_0 ?_
    refine J_bipush C 215 dX9_takeLight_213 rfl kb_99 ?_
    refine J_callBiV (Bs := [bX9 cI cJ cZ a0 r0 v0s_17]) (As := [.ref (r0 40), .int (y1 + 1), .int 0, .int 99]) C 218 (c_X9_into_kt_40 l D cI cJ cZ cS a0 r0 v0s_17 (y1 + 1) 0 99 _ h) wd446 wd443 wd5 wd444 wd445 9 0 rfl rfl rfl hdX9_into ⟨Nat.le_of_ble_eq_true rfl, Nat.le_of_ble_eq_true rfl⟩ ⟨Nat.zero_le _, Nat.zero_le _⟩ rfl (Nat.le_of_ble_eq_true rfl) [0] [] 1 rfl (by decide +kernel) rfl rfl (fun (u : Vl) => [bX9 cI cJ cZ a0 r0 u]) (fun _ => rfl) [0] (by decide +kernel) (fun _ => rfl) rfl (fun (u : Vl) => [bX9 cI cJ cZ a0 r0 u]) (fun _ => rfl) dX9_takeLight_215 rfl (fun r_19 u h => ?_)
    obtain ⟨u_18, hu⟩ : ∃ z, z = u := ⟨_, rfl⟩
    subst hu
    refine J_istore_n C 219 [(3, .int r_19), (2, .int s0), (0, .ref a0), (1, .int y1)] dX9_takeLight_218 rfl (by decide) rfl ?_
    refine J_iload_n C 220 dX9_takeLight_219 rfl rfl ?_
    refine J_if_le C 223 227 dX9_takeLight_220 rfl rfl (fun c => ?_) (fun c => ?_)
    · have h := h.1 c
      refine J_aload_n C 228 dX9_takeLight_227 rfl rfl ?_
      refine J_aload_n C 229 dX9_takeLight_228 rfl rfl ?_
      refine J_get C 232 9 inlX9 0 40 rfl rfl (by decide) wd170 rfl rfl dX9_takeLight_229 rfl ?_
      refine J_iload_n C 233 dX9_takeLight_232 rfl rfl ?_
      refine J_iconst C 234 dX9_takeLight_233 rfl ki_2 ?_
      refine J_iadd C 235 dX9_takeLight_234 rfl ?_
      refine J_iconst C 236 dX9_takeLight_235 rfl ki_0 ?_
      refine J_bipush C 238 dX9_takeLight_236 rfl kb_99 ?_
      refine J_callBiV (Bs := [bX9 cI cJ cZ a0 r0 u_18]) (As := [.ref (r0 40), .int (y1 + 2), .int 0, .int 99]) C 241 (c_X9_into_kt_40 l D cI cJ cZ cS a0 r0 u_18 (y1 + 2) 0 99 _ h) wd446 wd443 wd5 wd444 wd445 9 0 rfl rfl rfl hdX9_into ⟨Nat.le_of_ble_eq_true rfl, Nat.le_of_ble_eq_true rfl⟩ ⟨Nat.zero_le _, Nat.zero_le _⟩ rfl (Nat.le_of_ble_eq_true rfl) [0] [] 1 rfl (by decide +kernel) rfl rfl (fun (u : Vl) => [bX9 cI cJ cZ a0 r0 u]) (fun _ => rfl) [0] (by decide +kernel) (fun _ => rfl) rfl (fun (u : Vl) => [bX9 cI cJ cZ a0 r0 u]) (fun _ => rfl) dX9_takeLight_238 rfl (fun r_21 u h => ?_)
      obtain ⟨u_20, hu⟩ : ∃ z, z = u := ⟨_, rfl⟩
      subst hu
      refine J_loc [2, 3] rfl ?_
      exact wk_X9_takeLight_c241 C hr hk u_20 y1 r_21 h
    · have h := h.2 c
      refine J_iload_n C 224 dX9_takeLight_223 rfl rfl ?_
      refine J_goto C 241 dX9_takeLight_224 rfl ?_
      refine J_loc [2, 3] rfl ?_
      exact wk_X9_takeLight_c241 C hr hk u_18 y1 r_19 h
  · have h := h.2 c
    refine J_aload_n C 170 dX9_takeLight_169 rfl rfl ?_
    refine J_iconst C 171 dX9_takeLight_170 rfl ki_1 ?_
    refine J_aload_n C 172 dX9_takeLight_171 rfl rfl ?_
    refine J_get C 175 9 inlX9 0 34 rfl rfl (by decide) wd402 rfl rfl dX9_takeLight_172 rfl ?_
    refine J_callBiV (Bs := [bX9 cI cJ cZ a0 r0 v0]) (As := [.int 1, .int (v0.1 34)]) C 178 (c_X9_fails l D cI cJ cZ cS a0 r0 v0 1 (v0.1 34) _ h) wd438 wd435 wd5 wd436 wd437 9 0 rfl rfl rfl hdX9_fails ⟨Nat.le_of_ble_eq_true rfl, Nat.le_of_ble_eq_true rfl⟩ ⟨Nat.zero_le _, Nat.zero_le _⟩ rfl (Nat.le_of_ble_eq_true rfl) [0] [] 1 rfl (by decide +kernel) rfl rfl (fun (u : Vl) => [bX9 cI cJ cZ a0 r0 u]) (fun _ => rfl) [0] (by decide +kernel) (fun _ => rfl) rfl (fun (u : Vl) => [bX9 cI cJ cZ a0 r0 u]) (fun _ => rfl) dX9_takeLight_175 rfl (fun r_27 u h => ?_)
    obtain ⟨u_26, hu⟩ : ∃ z, z = u := ⟨_, rfl⟩
    subst hu
    exact J_iret C hr hk u_26 rfl dX9_takeLight_178 h
def wp_X9_takeLight (v0 : Vl)  (Q : Int32 → Vl → Prop) : Prop := ∀ x_1 : Int32, x_1 = (5 * (v0.1 39)) → wp_X9_readWord v0 (fun u_2 => wp_X9_code 112 108 97 (fun r_3 => wp_X9_longer r_3 105 110 (fun r_4 => ((¬ (u_2.2.1 35) = r_4 → wp_X9_code 100 111 117 (fun r_5 => wp_X9_longer r_5 98 108 (fun r_6 => wp_X9_longer r_6 101 0 (fun r_7 => ((¬ (u_2.2.1 35) = r_7 → wp_X9_code 108 101 97 (fun r_8 => wp_X9_longer r_8 107 121 (fun r_9 => ((¬ (u_2.2.1 35) = r_9 → wp_X9_code 102 108 111 (fun r_10 => wp_X9_longer r_10 97 116 (fun r_11 => wp_X9_longer r_11 105 110 (fun r_12 => wp_X9_longer r_12 103 0 (fun r_13 => ((¬ (u_2.2.1 35) = r_13 → wp_X9_code 103 97 115 (fun r_14 => ((¬ (u_2.2.1 35) = r_14 → wp_X9_takeLight_c164  Q u_2 x_1 (-1)) ∧ ((u_2.2.1 35) = r_14 → wp_X9_takeLight_c164  Q u_2 x_1 4)))) ∧ ((u_2.2.1 35) = r_13 → wp_X9_takeLight_c164  Q u_2 x_1 3))))))) ∧ ((u_2.2.1 35) = r_9 → wp_X9_takeLight_c164  Q u_2 x_1 2))))) ∧ ((u_2.2.1 35) = r_7 → wp_X9_takeLight_c164  Q u_2 x_1 1)))))) ∧ ((u_2.2.1 35) = r_4 → wp_X9_takeLight_c164  Q u_2 x_1 0)))))
set_option maxHeartbeats 4000000 in
set_option maxRecDepth 100000 in
theorem c_X9_takeLight (l : Launch) (D : GG) (cI cJ cZ cS : ClassId) (a0 : Nat) (r0 : Nat → Nat) (v0 : Vl)  (Q : Int32 → Vl → Prop) (h : wp_X9_takeLight v0 Q) : Mi l D (tyL cI cJ cZ cS) yX9_takeLight cX9_takeLight 4 .int 3 73 [.ref a0] (List.flatten [bX9 cI cJ cZ a0 r0 v0]) (fun (r : Int32) (u : Vl) => Q r u) (fun (u : Vl) => List.flatten [bX9 cI cJ cZ a0 r0 u]) := by
  refine Mi_of RX9 [(0, .ref a0)] (by decide +kernel) rfl rfl (Nat.le_of_ble_eq_true rfl) ?_
  intro p e s m args below meth c A C hr hk
  refine J_iconst C 1 dX9_takeLight_0 rfl ki_5 ?_
  refine J_aload_n C 2 dX9_takeLight_1 rfl rfl ?_
  refine J_get C 5 9 inlX9 0 39 rfl rfl (by decide) wd403 rfl rfl dX9_takeLight_2 rfl ?_
  refine J_imul C 6 dX9_takeLight_5 rfl ?_
  obtain ⟨x_1, ex_1⟩ : ∃ z : Int32, z = (5 * (v0.1 39)) := ⟨_, rfl⟩
  have h := h x_1 ex_1
  refine J_nmi ex_1 ?_
  refine J_istore_n C 7 [(1, .int x_1), (0, .ref a0)] dX9_takeLight_6 rfl (by decide) rfl ?_
  refine J_aload_n C 8 dX9_takeLight_7 rfl rfl ?_
  refine J_callBvV (Bs := [bX9 cI cJ cZ a0 r0 v0]) (As := []) C 11 (c_X9_readWord l D cI cJ cZ cS a0 r0 v0 _ h) wd419 wd416 wd5 wd417 wd418 9 0 rfl rfl rfl hdX9_readWord ⟨Nat.le_of_ble_eq_true rfl, Nat.le_of_ble_eq_true rfl⟩ ⟨Nat.zero_le _, Nat.zero_le _⟩ rfl (Nat.le_of_ble_eq_true rfl) [0] [] 1 rfl (by decide +kernel) rfl rfl (fun (u : Vl) => [bX9 cI cJ cZ a0 r0 u]) (fun _ => rfl) [0] (by decide +kernel) (fun _ => rfl) rfl (fun (u : Vl) => [bX9 cI cJ cZ a0 r0 u]) (fun _ => rfl) dX9_takeLight_8 rfl (fun u h => ?_)
  obtain ⟨u_2, hu⟩ : ∃ z, z = u := ⟨_, rfl⟩
  subst hu
  refine J_aload_n C 12 dX9_takeLight_11 rfl rfl ?_
  refine J_get C 15 9 inlX9 0 35 rfl rfl (by decide) wd414 rfl rfl dX9_takeLight_12 rfl ?_
  refine J_bipush C 17 dX9_takeLight_15 rfl kb_112 ?_
  refine J_bipush C 19 dX9_takeLight_17 rfl kb_108 ?_
  refine J_bipush C 21 dX9_takeLight_19 rfl kb_97 ?_
  refine J_callBlS (Bs := [bX9 cI cJ cZ a0 r0 u_2]) (As := [.int 112, .int 108, .int 97]) C 24 (c_X9_code l D cI cJ cZ cS 112 108 97 _ h) wd428 wd426 wd5 wd427 hdX9_code ⟨Nat.le_of_ble_eq_true rfl, Nat.le_of_ble_eq_true rfl⟩ ⟨Nat.zero_le _, Nat.zero_le _⟩ rfl (Nat.le_of_ble_eq_true rfl) [] [0] 1 rfl (by decide +kernel) rfl rfl (fun (u : Unit) => ([] : List va_W)) (fun _ => rfl) [0] (by decide +kernel) (fun _ => rfl) rfl (fun (u : Unit) => [bX9 cI cJ cZ a0 r0 u_2]) (fun _ => rfl) dX9_takeLight_21 rfl (fun r_3 u h => ?_)
  refine J_bipush C 26 dX9_takeLight_24 rfl kb_105 ?_
  refine J_bipush C 28 dX9_takeLight_26 rfl kb_110 ?_
  refine J_callBlS (Bs := [bX9 cI cJ cZ a0 r0 u_2]) (As := [.long r_3, .int 105, .int 110]) C 31 (c_X9_longer l D cI cJ cZ cS r_3 105 110 _ h) wd431 wd429 wd5 wd430 hdX9_longer ⟨Nat.le_of_ble_eq_true rfl, Nat.le_of_ble_eq_true rfl⟩ ⟨Nat.zero_le _, Nat.zero_le _⟩ rfl (Nat.le_of_ble_eq_true rfl) [] [0] 1 rfl (by decide +kernel) rfl rfl (fun (u : Unit) => ([] : List va_W)) (fun _ => rfl) [0] (by decide +kernel) (fun _ => rfl) rfl (fun (u : Unit) => [bX9 cI cJ cZ a0 r0 u_2]) (fun _ => rfl) dX9_takeLight_28 rfl (fun r_4 u h => ?_)
  refine J_lc_ne C 32 35 39 dX9_takeLight_31 rfl dX9_takeLight_32 rfl rfl (fun c => ?_) (fun c => ?_)
  · have h := h.1 c
    refine J_aload_n C 40 dX9_takeLight_39 rfl rfl ?_
    refine J_get C 43 9 inlX9 0 35 rfl rfl (by decide) wd414 rfl rfl dX9_takeLight_40 rfl ?_
    refine J_bipush C 45 dX9_takeLight_43 rfl kb_100 ?_
    refine J_bipush C 47 dX9_takeLight_45 rfl kb_111 ?_
    refine J_bipush C 49 dX9_takeLight_47 rfl kb_117 ?_
    refine J_callBlS (Bs := [bX9 cI cJ cZ a0 r0 u_2]) (As := [.int 100, .int 111, .int 117]) C 52 (c_X9_code l D cI cJ cZ cS 100 111 117 _ h) wd428 wd426 wd5 wd427 hdX9_code ⟨Nat.le_of_ble_eq_true rfl, Nat.le_of_ble_eq_true rfl⟩ ⟨Nat.zero_le _, Nat.zero_le _⟩ rfl (Nat.le_of_ble_eq_true rfl) [] [0] 1 rfl (by decide +kernel) rfl rfl (fun (u : Unit) => ([] : List va_W)) (fun _ => rfl) [0] (by decide +kernel) (fun _ => rfl) rfl (fun (u : Unit) => [bX9 cI cJ cZ a0 r0 u_2]) (fun _ => rfl) dX9_takeLight_49 rfl (fun r_5 u h => ?_)
    refine J_bipush C 54 dX9_takeLight_52 rfl kb_98 ?_
    refine J_bipush C 56 dX9_takeLight_54 rfl kb_108 ?_
    refine J_callBlS (Bs := [bX9 cI cJ cZ a0 r0 u_2]) (As := [.long r_5, .int 98, .int 108]) C 59 (c_X9_longer l D cI cJ cZ cS r_5 98 108 _ h) wd431 wd429 wd5 wd430 hdX9_longer ⟨Nat.le_of_ble_eq_true rfl, Nat.le_of_ble_eq_true rfl⟩ ⟨Nat.zero_le _, Nat.zero_le _⟩ rfl (Nat.le_of_ble_eq_true rfl) [] [0] 1 rfl (by decide +kernel) rfl rfl (fun (u : Unit) => ([] : List va_W)) (fun _ => rfl) [0] (by decide +kernel) (fun _ => rfl) rfl (fun (u : Unit) => [bX9 cI cJ cZ a0 r0 u_2]) (fun _ => rfl) dX9_takeLight_56 rfl (fun r_6 u h => ?_)
    refine J_bipush C 61 dX9_takeLight_59 rfl kb_101 ?_
    refine J_iconst C 62 dX9_takeLight_61 rfl ki_0 ?_
    refine J_callBlS (Bs := [bX9 cI cJ cZ a0 r0 u_2]) (As := [.long r_6, .int 101, .int 0]) C 65 (c_X9_longer l D cI cJ cZ cS r_6 101 0 _ h) wd431 wd429 wd5 wd430 hdX9_longer ⟨Nat.le_of_ble_eq_true rfl, Nat.le_of_ble_eq_true rfl⟩ ⟨Nat.zero_le _, Nat.zero_le _⟩ rfl (Nat.le_of_ble_eq_true rfl) [] [0] 1 rfl (by decide +kernel) rfl rfl (fun (u : Unit) => ([] : List va_W)) (fun _ => rfl) [0] (by decide +kernel) (fun _ => rfl) rfl (fun (u : Unit) => [bX9 cI cJ cZ a0 r0 u_2]) (fun _ => rfl) dX9_takeLight_62 rfl (fun r_7 u h => ?_)
    refine J_lc_ne C 66 69 73 dX9_takeLight_65 rfl dX9_takeLight_66 rfl rfl (fun c => ?_) (fun c => ?_)
    · have h := h.1 c
      refine J_aload_n C 74 dX9_takeLight_73 rfl rfl ?_
      refine J_get C 77 9 inlX9 0 35 rfl rfl (by decide) wd414 rfl rfl dX9_takeLight_74 rfl ?_
      refine J_bipush C 79 dX9_takeLight_77 rfl kb_108 ?_
      refine J_bipush C 81 dX9_takeLight_79 rfl kb_101 ?_
      refine J_bipush C 83 dX9_takeLight_81 rfl kb_97 ?_
      refine J_callBlS (Bs := [bX9 cI cJ cZ a0 r0 u_2]) (As := [.int 108, .int 101, .int 97]) C 86 (c_X9_code l D cI cJ cZ cS 108 101 97 _ h) wd428 wd426 wd5 wd427 hdX9_code ⟨Nat.le_of_ble_eq_true rfl, Nat.le_of_ble_eq_true rfl⟩ ⟨Nat.zero_le _, Nat.zero_le _⟩ rfl (Nat.le_of_ble_eq_true rfl) [] [0] 1 rfl (by decide +kernel) rfl rfl (fun (u : Unit) => ([] : List va_W)) (fun _ => rfl) [0] (by decide +kernel) (fun _ => rfl) rfl (fun (u : Unit) => [bX9 cI cJ cZ a0 r0 u_2]) (fun _ => rfl) dX9_takeLight_83 rfl (fun r_8 u h => ?_)
      refine J_bipush C 88 dX9_takeLight_86 rfl kb_107 ?_
      refine J_bipush C 90 dX9_takeLight_88 rfl kb_121 ?_
      refine J_callBlS (Bs := [bX9 cI cJ cZ a0 r0 u_2]) (As := [.long r_8, .int 107, .int 121]) C 93 (c_X9_longer l D cI cJ cZ cS r_8 107 121 _ h) wd431 wd429 wd5 wd430 hdX9_longer ⟨Nat.le_of_ble_eq_true rfl, Nat.le_of_ble_eq_true rfl⟩ ⟨Nat.zero_le _, Nat.zero_le _⟩ rfl (Nat.le_of_ble_eq_true rfl) [] [0] 1 rfl (by decide +kernel) rfl rfl (fun (u : Unit) => ([] : List va_W)) (fun _ => rfl) [0] (by decide +kernel) (fun _ => rfl) rfl (fun (u : Unit) => [bX9 cI cJ cZ a0 r0 u_2]) (fun _ => rfl) dX9_takeLight_90 rfl (fun r_9 u h => ?_)
      refine J_lc_ne C 94 97 101 dX9_takeLight_93 rfl dX9_takeLight_94 rfl rfl (fun c => ?_) (fun c => ?_)
      · have h := h.1 c
        refine J_aload_n C 102 dX9_takeLight_101 rfl rfl ?_
        refine J_get C 105 9 inlX9 0 35 rfl rfl (by decide) wd414 rfl rfl dX9_takeLight_102 rfl ?_
        refine J_bipush C 107 dX9_takeLight_105 rfl kb_102 ?_
        refine J_bipush C 109 dX9_takeLight_107 rfl kb_108 ?_
        refine J_bipush C 111 dX9_takeLight_109 rfl kb_111 ?_
        refine J_callBlS (Bs := [bX9 cI cJ cZ a0 r0 u_2]) (As := [.int 102, .int 108, .int 111]) C 114 (c_X9_code l D cI cJ cZ cS 102 108 111 _ h) wd428 wd426 wd5 wd427 hdX9_code ⟨Nat.le_of_ble_eq_true rfl, Nat.le_of_ble_eq_true rfl⟩ ⟨Nat.zero_le _, Nat.zero_le _⟩ rfl (Nat.le_of_ble_eq_true rfl) [] [0] 1 rfl (by decide +kernel) rfl rfl (fun (u : Unit) => ([] : List va_W)) (fun _ => rfl) [0] (by decide +kernel) (fun _ => rfl) rfl (fun (u : Unit) => [bX9 cI cJ cZ a0 r0 u_2]) (fun _ => rfl) dX9_takeLight_111 rfl (fun r_10 u h => ?_)
        refine J_bipush C 116 dX9_takeLight_114 rfl kb_97 ?_
        refine J_bipush C 118 dX9_takeLight_116 rfl kb_116 ?_
        refine J_callBlS (Bs := [bX9 cI cJ cZ a0 r0 u_2]) (As := [.long r_10, .int 97, .int 116]) C 121 (c_X9_longer l D cI cJ cZ cS r_10 97 116 _ h) wd431 wd429 wd5 wd430 hdX9_longer ⟨Nat.le_of_ble_eq_true rfl, Nat.le_of_ble_eq_true rfl⟩ ⟨Nat.zero_le _, Nat.zero_le _⟩ rfl (Nat.le_of_ble_eq_true rfl) [] [0] 1 rfl (by decide +kernel) rfl rfl (fun (u : Unit) => ([] : List va_W)) (fun _ => rfl) [0] (by decide +kernel) (fun _ => rfl) rfl (fun (u : Unit) => [bX9 cI cJ cZ a0 r0 u_2]) (fun _ => rfl) dX9_takeLight_118 rfl (fun r_11 u h => ?_)
        refine J_bipush C 123 dX9_takeLight_121 rfl kb_105 ?_
        refine J_bipush C 125 dX9_takeLight_123 rfl kb_110 ?_
        refine J_callBlS (Bs := [bX9 cI cJ cZ a0 r0 u_2]) (As := [.long r_11, .int 105, .int 110]) C 128 (c_X9_longer l D cI cJ cZ cS r_11 105 110 _ h) wd431 wd429 wd5 wd430 hdX9_longer ⟨Nat.le_of_ble_eq_true rfl, Nat.le_of_ble_eq_true rfl⟩ ⟨Nat.zero_le _, Nat.zero_le _⟩ rfl (Nat.le_of_ble_eq_true rfl) [] [0] 1 rfl (by decide +kernel) rfl rfl (fun (u : Unit) => ([] : List va_W)) (fun _ => rfl) [0] (by decide +kernel) (fun _ => rfl) rfl (fun (u : Unit) => [bX9 cI cJ cZ a0 r0 u_2]) (fun _ => rfl) dX9_takeLight_125 rfl (fun r_12 u h => ?_)
        refine J_bipush C 130 dX9_takeLight_128 rfl kb_103 ?_
        refine J_iconst C 131 dX9_takeLight_130 rfl ki_0 ?_
        refine J_callBlS (Bs := [bX9 cI cJ cZ a0 r0 u_2]) (As := [.long r_12, .int 103, .int 0]) C 134 (c_X9_longer l D cI cJ cZ cS r_12 103 0 _ h) wd431 wd429 wd5 wd430 hdX9_longer ⟨Nat.le_of_ble_eq_true rfl, Nat.le_of_ble_eq_true rfl⟩ ⟨Nat.zero_le _, Nat.zero_le _⟩ rfl (Nat.le_of_ble_eq_true rfl) [] [0] 1 rfl (by decide +kernel) rfl rfl (fun (u : Unit) => ([] : List va_W)) (fun _ => rfl) [0] (by decide +kernel) (fun _ => rfl) rfl (fun (u : Unit) => [bX9 cI cJ cZ a0 r0 u_2]) (fun _ => rfl) dX9_takeLight_131 rfl (fun r_13 u h => ?_)
        refine J_lc_ne C 135 138 142 dX9_takeLight_134 rfl dX9_takeLight_135 rfl rfl (fun c => ?_) (fun c => ?_)
        · have h := h.1 c
          refine J_aload_n C 143 dX9_takeLight_142 rfl rfl ?_
          refine J_get C 146 9 inlX9 0 35 rfl rfl (by decide) wd414 rfl rfl dX9_takeLight_143 rfl ?_
          refine J_bipush C 148 dX9_takeLight_146 rfl kb_103 ?_
          refine J_bipush C 150 dX9_takeLight_148 rfl kb_97 ?_
          refine J_bipush C 152 dX9_takeLight_150 rfl kb_115 ?_
          refine J_callBlS (Bs := [bX9 cI cJ cZ a0 r0 u_2]) (As := [.int 103, .int 97, .int 115]) C 155 (c_X9_code l D cI cJ cZ cS 103 97 115 _ h) wd428 wd426 wd5 wd427 hdX9_code ⟨Nat.le_of_ble_eq_true rfl, Nat.le_of_ble_eq_true rfl⟩ ⟨Nat.zero_le _, Nat.zero_le _⟩ rfl (Nat.le_of_ble_eq_true rfl) [] [0] 1 rfl (by decide +kernel) rfl rfl (fun (u : Unit) => ([] : List va_W)) (fun _ => rfl) [0] (by decide +kernel) (fun _ => rfl) rfl (fun (u : Unit) => [bX9 cI cJ cZ a0 r0 u_2]) (fun _ => rfl) dX9_takeLight_152 rfl (fun r_14 u h => ?_)
          refine J_lc_ne C 156 159 163 dX9_takeLight_155 rfl dX9_takeLight_156 rfl rfl (fun c => ?_) (fun c => ?_)
          · have h := h.1 c
            refine J_iconst C 164 dX9_takeLight_163 rfl ki_m1 ?_
            refine J_loc [1, 0] rfl ?_
            exact wk_X9_takeLight_c164 C hr hk u_2 x_1 (-1) h
          · have h := h.2 c
            refine J_iconst C 160 dX9_takeLight_159 rfl ki_4 ?_
            refine J_goto C 164 dX9_takeLight_160 rfl ?_
            refine J_loc [1, 0] rfl ?_
            exact wk_X9_takeLight_c164 C hr hk u_2 x_1 4 h
        · have h := h.2 c
          refine J_iconst C 139 dX9_takeLight_138 rfl ki_3 ?_
          refine J_goto C 164 dX9_takeLight_139 rfl ?_
          refine J_loc [1, 0] rfl ?_
          exact wk_X9_takeLight_c164 C hr hk u_2 x_1 3 h
      · have h := h.2 c
        refine J_iconst C 98 dX9_takeLight_97 rfl ki_2 ?_
        refine J_goto C 164 dX9_takeLight_98 rfl ?_
        refine J_loc [1, 0] rfl ?_
        exact wk_X9_takeLight_c164 C hr hk u_2 x_1 2 h
    · have h := h.2 c
      refine J_iconst C 70 dX9_takeLight_69 rfl ki_1 ?_
      refine J_goto C 164 dX9_takeLight_70 rfl ?_
      refine J_loc [1, 0] rfl ?_
      exact wk_X9_takeLight_c164 C hr hk u_2 x_1 1 h
  · have h := h.2 c
    refine J_iconst C 36 dX9_takeLight_35 rfl ki_0 ?_
    refine J_goto C 164 dX9_takeLight_36 rfl ?_
    refine J_loc [1, 0] rfl ?_
    exact wk_X9_takeLight_c164 C hr hk u_2 x_1 0 h
def wp_X9_takeNights_c96  (Q : Int32 → Vl → Prop) (B7 : Vl → Int32 → Prop) (v0 : Vl) (y1 : Int32) (s0 : Int32) (s1 : Int32) : Prop := ∀ v0s_8 : Vl, v0s_8 = setI v0 34 (s1 + s0) → B7 v0s_8 y1
set_option maxHeartbeats 4000000 in
set_option maxRecDepth 100000 in
theorem wk_X9_takeNights_c96 {p : Program} {l : Launch} {e : Env} {s : State} {m : MethodId} {args : Array Value} {below : List Frame} {meth : Method} {c : Code} {D : GG} {A : Nat → Prop} {cI cJ cZ cS : ClassId} {a0 : Nat} {r0 : Nat → Nat}  {B7 : Vl → Int32 → Prop} {Q : Int32 → Vl → Prop} (C : Cx p s m args c D (tyL cI cJ cZ cS) A RX9 cX9_takeNights 3) (hr : meth.sig.returnType = some .int) (hk : meth.locks = false) (hB7 : ∀ (v0 : Vl) (y1 : Int32), B7 v0 y1 → J p l e (rmk 2 48) s m args below meth c D A 3 0 0 (MQ below (va_Qi (fun (r : Int32) (u : Vl) => Q r u) (fun u t => va_P D.1 vwCl ((fun (u : Vl) => List.flatten [bX9 cI cJ cZ a0 r0 u]) u) t.heap ∧ va_D A ((fun (u : Vl) => List.flatten [bX9 cI cJ cZ a0 r0 u]) u)) A) args s 0 0 A) 7 [(0, .ref a0), (1, .int y1)] [] (List.flatten [bX9 cI cJ cZ a0 r0 v0])) : ∀ (v0 : Vl) (y1 : Int32) (s0 : Int32) (s1 : Int32), wp_X9_takeNights_c96  Q B7 v0 y1 s0 s1 → J p l e (rmk 2 48) s m args below meth c D A 3 0 0 (MQ below (va_Qi (fun (r : Int32) (u : Vl) => Q r u) (fun u t => va_P D.1 vwCl ((fun (u : Vl) => List.flatten [bX9 cI cJ cZ a0 r0 u]) u) t.heap ∧ va_D A ((fun (u : Vl) => List.flatten [bX9 cI cJ cZ a0 r0 u]) u)) A) args s 0 0 A) 96 [(0, .ref a0), (1, .int y1)] [.int s0, .int s1, .ref a0] (List.flatten [bX9 cI cJ cZ a0 r0 v0]) := by
  intro v0 y1 s0 s1 h
  refine J_iadd C 97 dX9_takeNights_96 rfl ?_
  obtain ⟨v0s_8, ev0s_8⟩ : ∃ z : Vl, z = setI v0 34 (s1 + s0) := ⟨_, rfl⟩
  have h := h v0s_8 ev0s_8
  refine J_put C 100 9 inlX9 tyX9 tyX9_ok nmX9 0 34 rfl rfl (by decide) wd402 rfl rfl rfl rfl rfl (List.flatten [bX9 cI cJ cZ a0 r0 v0s_8]) (by subst ev0s_8; rfl) dX9_takeNights_97 rfl ?_
  refine J_goto C 7 dX9_takeNights_100 rfl ?_
  refine J_loc [0, 1] rfl ?_
  exact hB7 v0s_8 y1 h
def wp_X9_takeNights_c81  (Q : Int32 → Vl → Prop) (B7 : Vl → Int32 → Prop) (v0 : Vl) (s0 : Int32) : Prop := ((s0 = 0 → wp_X9_takeNights_c96  Q B7 v0 s0 0 (v0.1 34)) ∧ (¬ s0 = 0 → wp_X9_takeNights_c96  Q B7 v0 s0 1 (v0.1 34)))
set_option maxHeartbeats 4000000 in
set_option maxRecDepth 100000 in
theorem wk_X9_takeNights_c81 {p : Program} {l : Launch} {e : Env} {s : State} {m : MethodId} {args : Array Value} {below : List Frame} {meth : Method} {c : Code} {D : GG} {A : Nat → Prop} {cI cJ cZ cS : ClassId} {a0 : Nat} {r0 : Nat → Nat}  {B7 : Vl → Int32 → Prop} {Q : Int32 → Vl → Prop} (C : Cx p s m args c D (tyL cI cJ cZ cS) A RX9 cX9_takeNights 3) (hr : meth.sig.returnType = some .int) (hk : meth.locks = false) (hB7 : ∀ (v0 : Vl) (y1 : Int32), B7 v0 y1 → J p l e (rmk 2 48) s m args below meth c D A 3 0 0 (MQ below (va_Qi (fun (r : Int32) (u : Vl) => Q r u) (fun u t => va_P D.1 vwCl ((fun (u : Vl) => List.flatten [bX9 cI cJ cZ a0 r0 u]) u) t.heap ∧ va_D A ((fun (u : Vl) => List.flatten [bX9 cI cJ cZ a0 r0 u]) u)) A) args s 0 0 A) 7 [(0, .ref a0), (1, .int y1)] [] (List.flatten [bX9 cI cJ cZ a0 r0 v0])) : ∀ (v0 : Vl) (s0 : Int32), wp_X9_takeNights_c81  Q B7 v0 s0 → J p l e (rmk 2 48) s m args below meth c D A 3 0 0 (MQ below (va_Qi (fun (r : Int32) (u : Vl) => Q r u) (fun u t => va_P D.1 vwCl ((fun (u : Vl) => List.flatten [bX9 cI cJ cZ a0 r0 u]) u) t.heap ∧ va_D A ((fun (u : Vl) => List.flatten [bX9 cI cJ cZ a0 r0 u]) u)) A) args s 0 0 A) 81 [(0, .ref a0)] [.int s0] (List.flatten [bX9 cI cJ cZ a0 r0 v0]) := by
  intro v0 s0 h
  refine J_istore_n C 82 [(1, .int s0), (0, .ref a0)] dX9_takeNights_81 rfl (by decide) rfl ?_
  refine J_aload_n C 83 dX9_takeNights_82 rfl rfl ?_
  refine J_dup C 84 dX9_takeNights_83 rfl rfl ?_
  refine J_get C 87 9 inlX9 0 34 rfl rfl (by decide) wd402 rfl rfl dX9_takeNights_84 rfl ?_
  refine J_iload_n C 88 dX9_takeNights_87 rfl rfl ?_
  refine J_if_eq C 91 95 dX9_takeNights_88 rfl rfl (fun c => ?_) (fun c => ?_)
  · have h := h.1 c
    refine J_iconst C 96 dX9_takeNights_95 rfl ki_0 ?_
    refine J_loc [1, 0] rfl ?_
    exact wk_X9_takeNights_c96 C hr hk hB7 v0 s0 0 (v0.1 34) h
  · have h := h.2 c
    refine J_iconst C 92 dX9_takeNights_91 rfl ki_1 ?_
    refine J_goto C 96 dX9_takeNights_92 rfl ?_
    refine J_loc [1, 0] rfl ?_
    exact wk_X9_takeNights_c96 C hr hk hB7 v0 s0 1 (v0.1 34) h
def wp_X9_takeNights_c7  (Q : Int32 → Vl → Prop) : Nat → Vl → Int32 → Prop
  | 0 => fun _ _ => False
  | n + 1 => fun v0 y1 => ((y1 = 0 → Q 0 v0) ∧ (¬ y1 = 0 → wp_X9_takeNumber v0 1 24 (fun r_3 u_2 => ((r_3 ≤ 0 → ((¬ (u_2.1 42) = 12 → vp_in (u_2.1 42) 12 ∧ (∀ v0s_4 : Vl, v0s_4 = setA u_2 43 (Int32.toNatClampNeg (u_2.1 42)) (u_2.1 37) → ∀ v0s_5 : Vl, v0s_5 = setI v0s_4 42 ((v0s_4.1 42) + 1) → wp_X9_here v0s_5 (fun r_7 u_6 => ((¬ r_7 = 44 → wp_X9_takeNights_c81  Q (wp_X9_takeNights_c7  Q n) u_6 0) ∧ (r_7 = 44 → wp_X9_takeNights_c81  Q (wp_X9_takeNights_c7  Q n) u_6 1))))) ∧ ((u_2.1 42) = 12 → wp_X9_fails u_2 3 (u_2.1 38) (fun r_10 u_9 => Q r_10 u_9)))) ∧ (¬ r_3 ≤ 0 → Q r_3 u_2)))))
set_option maxHeartbeats 4000000 in
set_option maxRecDepth 100000 in
theorem wk_X9_takeNights_c7 {p : Program} {l : Launch} {e : Env} {s : State} {m : MethodId} {args : Array Value} {below : List Frame} {meth : Method} {c : Code} {D : GG} {A : Nat → Prop} {cI cJ cZ cS : ClassId} {a0 : Nat} {r0 : Nat → Nat}  {Q : Int32 → Vl → Prop} (C : Cx p s m args c D (tyL cI cJ cZ cS) A RX9 cX9_takeNights 3) (hr : meth.sig.returnType = some .int) (hk : meth.locks = false) : ∀ (n : Nat) (v0 : Vl) (y1 : Int32), wp_X9_takeNights_c7  Q n v0 y1 → J p l e (rmk 2 48) s m args below meth c D A 3 0 0 (MQ below (va_Qi (fun (r : Int32) (u : Vl) => Q r u) (fun u t => va_P D.1 vwCl ((fun (u : Vl) => List.flatten [bX9 cI cJ cZ a0 r0 u]) u) t.heap ∧ va_D A ((fun (u : Vl) => List.flatten [bX9 cI cJ cZ a0 r0 u]) u)) A) args s 0 0 A) 7 [(0, .ref a0), (1, .int y1)] [] (List.flatten [bX9 cI cJ cZ a0 r0 v0]) := by
  intro n
  induction n with
  | zero =>
    intro v0 y1 h
    exact False.elim h
  | succ n ih =>
    intro v0 y1 h
    refine J_iload_n C 8 dX9_takeNights_7 rfl rfl ?_
    refine J_if_eq C 11 103 dX9_takeNights_8 rfl rfl (fun c => ?_) (fun c => ?_)
    · have h := h.1 c
      refine J_iconst C 104 dX9_takeNights_103 rfl ki_0 ?_
      exact J_iret C hr hk v0 rfl dX9_takeNights_104 h
    · have h := h.2 c
      refine J_aload_n C 12 dX9_takeNights_11 rfl rfl ?_
      refine J_iconst C 13 dX9_takeNights_12 rfl ki_1 ?_
      refine J_bipush C 15 dX9_takeNights_13 rfl kb_24 ?_
      refine J_callBiV (Bs := [bX9 cI cJ cZ a0 r0 v0]) (As := [.int 1, .int 24]) C 18 (c_X9_takeNumber l D cI cJ cZ cS a0 r0 v0 1 24 _ h) wd451 wd448 wd5 wd449 wd450 9 0 rfl rfl rfl hdX9_takeNumber ⟨Nat.le_of_ble_eq_true rfl, Nat.le_of_ble_eq_true rfl⟩ ⟨Nat.zero_le _, Nat.zero_le _⟩ rfl (Nat.le_of_ble_eq_true rfl) [0] [] 1 rfl (by decide +kernel) rfl rfl (fun (u : Vl) => [bX9 cI cJ cZ a0 r0 u]) (fun _ => rfl) [0] (by decide +kernel) (fun _ => rfl) rfl (fun (u : Vl) => [bX9 cI cJ cZ a0 r0 u]) (fun _ => rfl) dX9_takeNights_15 rfl (fun r_3 u h => ?_)
      obtain ⟨u_2, hu⟩ : ∃ z, z = u := ⟨_, rfl⟩
      subst hu
      refine J_istore_n C 19 [(2, .int r_3), (0, .ref a0), (1, .int y1)] dX9_takeNights_18 rfl (by decide) rfl ?_
      refine J_iload_n C 20 dX9_takeNights_19 rfl rfl ?_
      refine J_if_le C 23 25 dX9_takeNights_20 rfl rfl (fun c => ?_) (fun c => ?_)
      · have h := h.1 c
        refine J_aload_n C 26 dX9_takeNights_25 rfl rfl ?_
        refine J_get C 29 9 inlX9 0 42 rfl rfl (by decide) wd405 rfl rfl dX9_takeNights_26 rfl ?_
        refine J_bipush C 31 dX9_takeNights_29 rfl kb_12 ?_
        refine J_icmp_ne C 34 44 dX9_takeNights_31 rfl rfl (fun c => ?_) (fun c => ?_)
        · have h := h.1 c
          refine J_aload_n C 45 dX9_takeNights_44 rfl rfl ?_
          refine J_get C 48 9 inlX9 0 43 rfl rfl (by decide) wd172 rfl rfl dX9_takeNights_45 rfl ?_
          refine J_aload_n C 49 dX9_takeNights_48 rfl rfl ?_
          refine J_get C 52 9 inlX9 0 42 rfl rfl (by decide) wd405 rfl rfl dX9_takeNights_49 rfl ?_
          refine J_aload_n C 53 dX9_takeNights_52 rfl rfl ?_
          refine J_get C 56 9 inlX9 0 37 rfl rfl (by decide) wd447 rfl rfl dX9_takeNights_53 rfl ?_
          obtain ⟨hi, h⟩ := h
          obtain ⟨v0s_4, ev0s_4⟩ : ∃ z : Vl, z = setA u_2 43 (Int32.toNatClampNeg (u_2.1 42)) (u_2.1 37) := ⟨_, rfl⟩
          have h := h v0s_4 ev0s_4
          refine J_iast C 57 14 0 rfl rfl hi (List.flatten [bX9 cI cJ cZ a0 r0 v0s_4]) (by subst ev0s_4; rfl) dX9_takeNights_56 rfl ?_
          refine J_aload_n C 58 dX9_takeNights_57 rfl rfl ?_
          refine J_dup C 59 dX9_takeNights_58 rfl rfl ?_
          refine J_get C 62 9 inlX9 0 42 rfl rfl (by decide) wd405 rfl rfl dX9_takeNights_59 rfl ?_
          refine J_iconst C 63 dX9_takeNights_62 rfl ki_1 ?_
          refine J_iadd C 64 dX9_takeNights_63 rfl ?_
          obtain ⟨v0s_5, ev0s_5⟩ : ∃ z : Vl, z = setI v0s_4 42 ((v0s_4.1 42) + 1) := ⟨_, rfl⟩
          have h := h v0s_5 ev0s_5
          refine J_put C 67 9 inlX9 tyX9 tyX9_ok nmX9 0 42 rfl rfl (by decide) wd405 rfl rfl rfl rfl rfl (List.flatten [bX9 cI cJ cZ a0 r0 v0s_5]) (by subst ev0s_5; rfl) dX9_takeNights_64 rfl ?_
          refine J_aload_n C 68 dX9_takeNights_67 rfl rfl ?_
          refine J_callBiV (Bs := [bX9 cI cJ cZ a0 r0 v0s_5]) (As := []) C 71 (c_X9_here l D cI cJ cZ cS a0 r0 v0s_5 _ h) wd409 wd406 wd5 wd407 wd408 9 0 rfl rfl rfl hdX9_here ⟨Nat.le_of_ble_eq_true rfl, Nat.le_of_ble_eq_true rfl⟩ ⟨Nat.zero_le _, Nat.zero_le _⟩ rfl (Nat.le_of_ble_eq_true rfl) [0] [] 1 rfl (by decide +kernel) rfl rfl (fun (u : Vl) => [bX9 cI cJ cZ a0 r0 u]) (fun _ => rfl) [0] (by decide +kernel) (fun _ => rfl) rfl (fun (u : Vl) => [bX9 cI cJ cZ a0 r0 u]) (fun _ => rfl) dX9_takeNights_68 rfl (fun r_7 u h => ?_)
          obtain ⟨u_6, hu⟩ : ∃ z, z = u := ⟨_, rfl⟩
          subst hu
          refine J_bipush C 73 dX9_takeNights_71 rfl kb_44 ?_
          refine J_icmp_ne C 76 80 dX9_takeNights_73 rfl rfl (fun c => ?_) (fun c => ?_)
          · have h := h.1 c
            refine J_iconst C 81 dX9_takeNights_80 rfl ki_0 ?_
            refine J_loc [1] rfl ?_
            exact wk_X9_takeNights_c81 C hr hk ih u_6 0 h
          · have h := h.2 c
            refine J_iconst C 77 dX9_takeNights_76 rfl ki_1 ?_
            refine J_goto C 81 dX9_takeNights_77 rfl ?_
            refine J_loc [1] rfl ?_
            exact wk_X9_takeNights_c81 C hr hk ih u_6 1 h
        · have h := h.2 c
          refine J_aload_n C 35 dX9_takeNights_34 rfl rfl ?_
          refine J_iconst C 36 dX9_takeNights_35 rfl ki_3 ?_
          refine J_aload_n C 37 dX9_takeNights_36 rfl rfl ?_
          refine J_get C 40 9 inlX9 0 38 rfl rfl (by decide) wd454 rfl rfl dX9_takeNights_37 rfl ?_
          refine J_callBiV (Bs := [bX9 cI cJ cZ a0 r0 u_2]) (As := [.int 3, .int (u_2.1 38)]) C 43 (c_X9_fails l D cI cJ cZ cS a0 r0 u_2 3 (u_2.1 38) _ h) wd438 wd435 wd5 wd436 wd437 9 0 rfl rfl rfl hdX9_fails ⟨Nat.le_of_ble_eq_true rfl, Nat.le_of_ble_eq_true rfl⟩ ⟨Nat.zero_le _, Nat.zero_le _⟩ rfl (Nat.le_of_ble_eq_true rfl) [0] [] 1 rfl (by decide +kernel) rfl rfl (fun (u : Vl) => [bX9 cI cJ cZ a0 r0 u]) (fun _ => rfl) [0] (by decide +kernel) (fun _ => rfl) rfl (fun (u : Vl) => [bX9 cI cJ cZ a0 r0 u]) (fun _ => rfl) dX9_takeNights_40 rfl (fun r_10 u h => ?_)
          obtain ⟨u_9, hu⟩ : ∃ z, z = u := ⟨_, rfl⟩
          subst hu
          exact J_iret C hr hk u_9 rfl dX9_takeNights_43 h
      · have h := h.2 c
        refine J_iload_n C 24 dX9_takeNights_23 rfl rfl ?_
        exact J_iret C hr hk u_2 rfl dX9_takeNights_24 h
def wp_X9_takeNights (v0 : Vl)  (Q : Int32 → Vl → Prop) : Prop := ∀ v0s_1 : Vl, v0s_1 = setI v0 42 0 → (∃ k : Nat, wp_X9_takeNights_c7  Q k v0s_1 1)
set_option maxHeartbeats 4000000 in
set_option maxRecDepth 100000 in
theorem c_X9_takeNights (l : Launch) (D : GG) (cI cJ cZ cS : ClassId) (a0 : Nat) (r0 : Nat → Nat) (v0 : Vl)  (Q : Int32 → Vl → Prop) (h : wp_X9_takeNights v0 Q) : Mi l D (tyL cI cJ cZ cS) yX9_takeNights cX9_takeNights 3 .int 2 48 [.ref a0] (List.flatten [bX9 cI cJ cZ a0 r0 v0]) (fun (r : Int32) (u : Vl) => Q r u) (fun (u : Vl) => List.flatten [bX9 cI cJ cZ a0 r0 u]) := by
  refine Mi_of RX9 [(0, .ref a0)] (by decide +kernel) rfl rfl (Nat.le_of_ble_eq_true rfl) ?_
  intro p e s m args below meth c A C hr hk
  refine J_aload_n C 1 dX9_takeNights_0 rfl rfl ?_
  refine J_iconst C 2 dX9_takeNights_1 rfl ki_0 ?_
  obtain ⟨v0s_1, ev0s_1⟩ : ∃ z : Vl, z = setI v0 42 0 := ⟨_, rfl⟩
  have h := h v0s_1 ev0s_1
  refine J_put C 5 9 inlX9 tyX9 tyX9_ok nmX9 0 42 rfl rfl (by decide) wd405 rfl rfl rfl rfl rfl (List.flatten [bX9 cI cJ cZ a0 r0 v0s_1]) (by subst ev0s_1; rfl) dX9_takeNights_2 rfl ?_
  refine J_iconst C 6 dX9_takeNights_5 rfl ki_1 ?_
  refine J_istore_n C 7 [(1, .int 1), (0, .ref a0)] dX9_takeNights_6 rfl (by decide) rfl ?_
  refine J_loc [1, 0] rfl ?_
  obtain ⟨n1, h⟩ := h
  exact wk_X9_takeNights_c7 C hr hk n1 v0s_1 1 h
def wp_X9_into_kt_44 (v0 : Vl) (x2 : Int32) (x3 : Int32) (x4 : Int32) (Q : Int32 → Vl → Prop) : Prop := wp_X9_takeNumber v0 x3 x4 (fun r_2 u_1 => vp_in x2 9 ∧ (∀ v0s_3 : Vl, v0s_3 = setA u_1 44 (Int32.toNatClampNeg x2) (u_1.1 37) → Q r_2 v0s_3))
set_option maxHeartbeats 4000000 in
set_option maxRecDepth 100000 in
theorem c_X9_into_kt_44 (l : Launch) (D : GG) (cI cJ cZ cS : ClassId) (a0 : Nat) (r0 : Nat → Nat) (v0 : Vl) (x2 : Int32) (x3 : Int32) (x4 : Int32) (Q : Int32 → Vl → Prop) (h : wp_X9_into_kt_44 v0 x2 x3 x4 Q) : Mi l D (tyL cI cJ cZ cS) yX9_into cX9_into 6 .int 2 48 [.ref a0, .ref (r0 44), .int x2, .int x3, .int x4] (List.flatten [bX9 cI cJ cZ a0 r0 v0]) (fun (r : Int32) (u : Vl) => Q r u) (fun (u : Vl) => List.flatten [bX9 cI cJ cZ a0 r0 u]) := by
  refine Mi_of RX9 [(0, .ref a0), (1, .ref (r0 44)), (2, .int x2), (3, .int x3), (4, .int x4)] (by decide +kernel) rfl rfl (Nat.le_of_ble_eq_true rfl) ?_
  intro p e s m args below meth c A C hr hk
  refine J_aload_n C 1 dX9_into_0 rfl rfl ?_
  refine J_iload_n C 2 dX9_into_1 rfl rfl ?_
  refine J_iload C 4 dX9_into_2 rfl rfl ?_
  refine J_callBiV (Bs := [bX9 cI cJ cZ a0 r0 v0]) (As := [.int x3, .int x4]) C 7 (c_X9_takeNumber l D cI cJ cZ cS a0 r0 v0 x3 x4 _ h) wd451 wd448 wd5 wd449 wd450 9 0 rfl rfl rfl hdX9_takeNumber ⟨Nat.le_of_ble_eq_true rfl, Nat.le_of_ble_eq_true rfl⟩ ⟨Nat.zero_le _, Nat.zero_le _⟩ rfl (Nat.le_of_ble_eq_true rfl) [0] [] 1 rfl (by decide +kernel) rfl rfl (fun (u : Vl) => [bX9 cI cJ cZ a0 r0 u]) (fun _ => rfl) [0] (by decide +kernel) (fun _ => rfl) rfl (fun (u : Vl) => [bX9 cI cJ cZ a0 r0 u]) (fun _ => rfl) dX9_into_4 rfl (fun r_2 u h => ?_)
  obtain ⟨u_1, hu⟩ : ∃ z, z = u := ⟨_, rfl⟩
  subst hu
  refine J_istore C 9 [(5, .int r_2), (0, .ref a0), (1, .ref (r0 44)), (2, .int x2), (3, .int x3), (4, .int x4)] dX9_into_7 rfl (by decide) rfl ?_
  refine J_aload_n C 10 dX9_into_9 rfl rfl ?_
  refine J_iload_n C 11 dX9_into_10 rfl rfl ?_
  refine J_aload_n C 12 dX9_into_11 rfl rfl ?_
  refine J_get C 15 9 inlX9 0 37 rfl rfl (by decide) wd447 rfl rfl dX9_into_12 rfl ?_
  obtain ⟨hi, h⟩ := h
  obtain ⟨v0s_3, ev0s_3⟩ : ∃ z : Vl, z = setA u_1 44 (Int32.toNatClampNeg x2) (u_1.1 37) := ⟨_, rfl⟩
  have h := h v0s_3 ev0s_3
  refine J_iast C 16 15 0 rfl rfl hi (List.flatten [bX9 cI cJ cZ a0 r0 v0s_3]) (by subst ev0s_3; rfl) dX9_into_15 rfl ?_
  refine J_iload C 18 dX9_into_16 rfl rfl ?_
  exact J_iret C hr hk v0s_3 rfl dX9_into_18 h
def wp_X9_takeOdds_c71  (Q : Int32 → Vl → Prop) (v0 : Vl) (y2 : Int32) : Prop := ((y2 ≤ 0 → wp_X9_fails v0 4 (v0.1 38) (fun r_4 u_3 => Q r_4 u_3)) ∧ (¬ y2 ≤ 0 → Q y2 v0))
set_option maxHeartbeats 4000000 in
set_option maxRecDepth 100000 in
theorem wk_X9_takeOdds_c71 {p : Program} {l : Launch} {e : Env} {s : State} {m : MethodId} {args : Array Value} {below : List Frame} {meth : Method} {c : Code} {D : GG} {A : Nat → Prop} {cI cJ cZ cS : ClassId} {a0 : Nat} {r0 : Nat → Nat}  {Q : Int32 → Vl → Prop} (C : Cx p s m args c D (tyL cI cJ cZ cS) A RX9 cX9_takeOdds 4) (hr : meth.sig.returnType = some .int) (hk : meth.locks = false) : ∀ (v0 : Vl) (y2 : Int32), wp_X9_takeOdds_c71  Q v0 y2 → J p l e (rmk 3 73) s m args below meth c D A 4 0 0 (MQ below (va_Qi (fun (r : Int32) (u : Vl) => Q r u) (fun u t => va_P D.1 vwCl ((fun (u : Vl) => List.flatten [bX9 cI cJ cZ a0 r0 u]) u) t.heap ∧ va_D A ((fun (u : Vl) => List.flatten [bX9 cI cJ cZ a0 r0 u]) u)) A) args s 0 0 A) 71 [(0, .ref a0), (2, .int y2)] [] (List.flatten [bX9 cI cJ cZ a0 r0 v0]) := by
  intro v0 y2 h
  refine J_iload_n C 72 dX9_takeOdds_71 rfl rfl ?_
  refine J_if_le C 75 79 dX9_takeOdds_72 rfl rfl (fun c => ?_) (fun c => ?_)
  · have h := h.1 c
    refine J_aload_n C 80 dX9_takeOdds_79 rfl rfl ?_
    refine J_iconst C 81 dX9_takeOdds_80 rfl ki_4 ?_
    refine J_aload_n C 82 dX9_takeOdds_81 rfl rfl ?_
    refine J_get C 85 9 inlX9 0 38 rfl rfl (by decide) wd454 rfl rfl dX9_takeOdds_82 rfl ?_
    refine J_callBiV (Bs := [bX9 cI cJ cZ a0 r0 v0]) (As := [.int 4, .int (v0.1 38)]) C 88 (c_X9_fails l D cI cJ cZ cS a0 r0 v0 4 (v0.1 38) _ h) wd438 wd435 wd5 wd436 wd437 9 0 rfl rfl rfl hdX9_fails ⟨Nat.le_of_ble_eq_true rfl, Nat.le_of_ble_eq_true rfl⟩ ⟨Nat.zero_le _, Nat.zero_le _⟩ rfl (Nat.le_of_ble_eq_true rfl) [0] [] 1 rfl (by decide +kernel) rfl rfl (fun (u : Vl) => [bX9 cI cJ cZ a0 r0 u]) (fun _ => rfl) [0] (by decide +kernel) (fun _ => rfl) rfl (fun (u : Vl) => [bX9 cI cJ cZ a0 r0 u]) (fun _ => rfl) dX9_takeOdds_85 rfl (fun r_4 u h => ?_)
    obtain ⟨u_3, hu⟩ : ∃ z, z = u := ⟨_, rfl⟩
    subst hu
    exact J_iret C hr hk u_3 rfl dX9_takeOdds_88 h
  · have h := h.2 c
    refine J_iload_n C 76 dX9_takeOdds_75 rfl rfl ?_
    refine J_goto C 88 dX9_takeOdds_76 rfl ?_
    exact J_iret C hr hk v0 rfl dX9_takeOdds_88 h
def wp_X9_takeOdds_c62  (Q : Int32 → Vl → Prop) (B2 : Vl → Int32 → Prop) (v0 : Vl) (y1 : Int32) (y2 : Int32) (s0 : Int32) : Prop := ((0 < y2 → wp_X9_takeOdds_c71  Q v0 y2) ∧ (¬ 0 < y2 → ((s0 = 0 → ∀ x_5 : Int32, x_5 = y1 + 1 → B2 v0 x_5) ∧ (¬ s0 = 0 → wp_X9_takeOdds_c71  Q v0 y2))))
set_option maxHeartbeats 4000000 in
set_option maxRecDepth 100000 in
theorem wk_X9_takeOdds_c62 {p : Program} {l : Launch} {e : Env} {s : State} {m : MethodId} {args : Array Value} {below : List Frame} {meth : Method} {c : Code} {D : GG} {A : Nat → Prop} {cI cJ cZ cS : ClassId} {a0 : Nat} {r0 : Nat → Nat}  {B2 : Vl → Int32 → Prop} {Q : Int32 → Vl → Prop} (C : Cx p s m args c D (tyL cI cJ cZ cS) A RX9 cX9_takeOdds 4) (hr : meth.sig.returnType = some .int) (hk : meth.locks = false) (hB2 : ∀ (v0 : Vl) (y1 : Int32), B2 v0 y1 → J p l e (rmk 3 73) s m args below meth c D A 4 0 0 (MQ below (va_Qi (fun (r : Int32) (u : Vl) => Q r u) (fun u t => va_P D.1 vwCl ((fun (u : Vl) => List.flatten [bX9 cI cJ cZ a0 r0 u]) u) t.heap ∧ va_D A ((fun (u : Vl) => List.flatten [bX9 cI cJ cZ a0 r0 u]) u)) A) args s 0 0 A) 2 [(0, .ref a0), (1, .int y1)] [] (List.flatten [bX9 cI cJ cZ a0 r0 v0])) : ∀ (v0 : Vl) (y1 : Int32) (y2 : Int32) (s0 : Int32), wp_X9_takeOdds_c62  Q B2 v0 y1 y2 s0 → J p l e (rmk 3 73) s m args below meth c D A 4 0 0 (MQ below (va_Qi (fun (r : Int32) (u : Vl) => Q r u) (fun u t => va_P D.1 vwCl ((fun (u : Vl) => List.flatten [bX9 cI cJ cZ a0 r0 u]) u) t.heap ∧ va_D A ((fun (u : Vl) => List.flatten [bX9 cI cJ cZ a0 r0 u]) u)) A) args s 0 0 A) 62 [(0, .ref a0), (1, .int y1), (2, .int y2)] [.int s0] (List.flatten [bX9 cI cJ cZ a0 r0 v0]) := by
  intro v0 y1 y2 s0 h
  refine J_istore_n C 63 [(3, .int s0), (0, .ref a0), (1, .int y1), (2, .int y2)] dX9_takeOdds_62 rfl (by decide) rfl ?_
  refine J_iload_n C 64 dX9_takeOdds_63 rfl rfl ?_
  refine J_if_gt C 67 71 dX9_takeOdds_64 rfl rfl (fun c => ?_) (fun c => ?_)
  · have h := h.1 c
    refine J_loc [1, 3] rfl ?_
    exact wk_X9_takeOdds_c71 C hr hk v0 y2 h
  · have h := h.2 c
    refine J_iload_n C 68 dX9_takeOdds_67 rfl rfl ?_
    refine J_if_eq C 71 89 dX9_takeOdds_68 rfl rfl (fun c => ?_) (fun c => ?_)
    · have h := h.1 c
      obtain ⟨x_5, ex_5⟩ : ∃ z : Int32, z = y1 + 1 := ⟨_, rfl⟩
      have h := h x_5 ex_5
      refine J_iinc C 92 [(1, .int x_5), (3, .int s0), (0, .ref a0), (2, .int y2)] dX9_takeOdds_89 rfl rfl ((kinc_1 _).trans ex_5.symm) (by decide) rfl ?_
      refine J_goto C 2 dX9_takeOdds_92 rfl ?_
      refine J_loc [2, 0] rfl ?_
      exact hB2 v0 x_5 h
    · have h := h.2 c
      refine J_loc [1, 3] rfl ?_
      exact wk_X9_takeOdds_c71 C hr hk v0 y2 h
def wp_X9_takeOdds_c61  (Q : Int32 → Vl → Prop) (B2 : Vl → Int32 → Prop) (v0 : Vl) (y1 : Int32) (y2 : Int32) : Prop := wp_X9_takeOdds_c62  Q B2 v0 y1 y2 0
set_option maxHeartbeats 4000000 in
set_option maxRecDepth 100000 in
theorem wk_X9_takeOdds_c61 {p : Program} {l : Launch} {e : Env} {s : State} {m : MethodId} {args : Array Value} {below : List Frame} {meth : Method} {c : Code} {D : GG} {A : Nat → Prop} {cI cJ cZ cS : ClassId} {a0 : Nat} {r0 : Nat → Nat}  {B2 : Vl → Int32 → Prop} {Q : Int32 → Vl → Prop} (C : Cx p s m args c D (tyL cI cJ cZ cS) A RX9 cX9_takeOdds 4) (hr : meth.sig.returnType = some .int) (hk : meth.locks = false) (hB2 : ∀ (v0 : Vl) (y1 : Int32), B2 v0 y1 → J p l e (rmk 3 73) s m args below meth c D A 4 0 0 (MQ below (va_Qi (fun (r : Int32) (u : Vl) => Q r u) (fun u t => va_P D.1 vwCl ((fun (u : Vl) => List.flatten [bX9 cI cJ cZ a0 r0 u]) u) t.heap ∧ va_D A ((fun (u : Vl) => List.flatten [bX9 cI cJ cZ a0 r0 u]) u)) A) args s 0 0 A) 2 [(0, .ref a0), (1, .int y1)] [] (List.flatten [bX9 cI cJ cZ a0 r0 v0])) : ∀ (v0 : Vl) (y1 : Int32) (y2 : Int32), wp_X9_takeOdds_c61  Q B2 v0 y1 y2 → J p l e (rmk 3 73) s m args below meth c D A 4 0 0 (MQ below (va_Qi (fun (r : Int32) (u : Vl) => Q r u) (fun u t => va_P D.1 vwCl ((fun (u : Vl) => List.flatten [bX9 cI cJ cZ a0 r0 u]) u) t.heap ∧ va_D A ((fun (u : Vl) => List.flatten [bX9 cI cJ cZ a0 r0 u]) u)) A) args s 0 0 A) 61 [(0, .ref a0), (1, .int y1), (2, .int y2)] [] (List.flatten [bX9 cI cJ cZ a0 r0 v0]) := by
  intro v0 y1 y2 h
  refine J_iconst C 62 dX9_takeOdds_61 rfl ki_0 ?_
  refine J_loc [0, 1, 2] rfl ?_
  exact wk_X9_takeOdds_c62 C hr hk hB2 v0 y1 y2 0 h
def wp_X9_takeOdds_c2  (Q : Int32 → Vl → Prop) : Nat → Vl → Int32 → Prop
  | 0 => fun _ _ => False
  | n + 1 => fun v0 y1 => ((9 ≤ y1 → Q 0 v0) ∧ (¬ 9 ≤ y1 → wp_X9_into_kt_44 v0 y1 0 100 (fun r_2 u_1 => ((¬ (y1 - y1 / 3 * 3) = 2 → wp_X9_takeOdds_c61  Q (wp_X9_takeOdds_c2  Q n) u_1 y1 r_2) ∧ ((y1 - y1 / 3 * 3) = 2 → vp_in y1 9 ∧ (vp_in (y1 - 1) 9 ∧ (vp_in (y1 - 2) 9 ∧ ((((((u_1.2.2.1 44 (Int32.toNatClampNeg y1)) + (u_1.2.2.1 44 (Int32.toNatClampNeg (y1 - 1)))) + (u_1.2.2.1 44 (Int32.toNatClampNeg (y1 - 2)))) = 100 → wp_X9_takeOdds_c61  Q (wp_X9_takeOdds_c2  Q n) u_1 y1 r_2) ∧ (¬ (((u_1.2.2.1 44 (Int32.toNatClampNeg y1)) + (u_1.2.2.1 44 (Int32.toNatClampNeg (y1 - 1)))) + (u_1.2.2.1 44 (Int32.toNatClampNeg (y1 - 2)))) = 100 → wp_X9_takeOdds_c62  Q (wp_X9_takeOdds_c2  Q n) u_1 y1 r_2 1))))))))))
set_option maxHeartbeats 4000000 in
set_option maxRecDepth 100000 in
theorem wk_X9_takeOdds_c2 {p : Program} {l : Launch} {e : Env} {s : State} {m : MethodId} {args : Array Value} {below : List Frame} {meth : Method} {c : Code} {D : GG} {A : Nat → Prop} {cI cJ cZ cS : ClassId} {a0 : Nat} {r0 : Nat → Nat}  {Q : Int32 → Vl → Prop} (C : Cx p s m args c D (tyL cI cJ cZ cS) A RX9 cX9_takeOdds 4) (hr : meth.sig.returnType = some .int) (hk : meth.locks = false) : ∀ (n : Nat) (v0 : Vl) (y1 : Int32), wp_X9_takeOdds_c2  Q n v0 y1 → J p l e (rmk 3 73) s m args below meth c D A 4 0 0 (MQ below (va_Qi (fun (r : Int32) (u : Vl) => Q r u) (fun u t => va_P D.1 vwCl ((fun (u : Vl) => List.flatten [bX9 cI cJ cZ a0 r0 u]) u) t.heap ∧ va_D A ((fun (u : Vl) => List.flatten [bX9 cI cJ cZ a0 r0 u]) u)) A) args s 0 0 A) 2 [(0, .ref a0), (1, .int y1)] [] (List.flatten [bX9 cI cJ cZ a0 r0 v0]) := by
  intro n
  induction n with
  | zero =>
    intro v0 y1 h
    exact False.elim h
  | succ n ih =>
    intro v0 y1 h
    refine J_iload_n C 3 dX9_takeOdds_2 rfl rfl ?_
    refine J_bipush C 5 dX9_takeOdds_3 rfl kb_9 ?_
    refine J_icmp_ge C 8 95 dX9_takeOdds_5 rfl rfl (fun c => ?_) (fun c => ?_)
    · have h := h.1 c
      refine J_iconst C 96 dX9_takeOdds_95 rfl ki_0 ?_
      exact J_iret C hr hk v0 rfl dX9_takeOdds_96 h
    · have h := h.2 c
      refine J_aload_n C 9 dX9_takeOdds_8 rfl rfl ?_
      refine J_aload_n C 10 dX9_takeOdds_9 rfl rfl ?_
      refine J_get C 13 9 inlX9 0 44 rfl rfl (by decide) wd173 rfl rfl dX9_takeOdds_10 rfl ?_
      refine J_iload_n C 14 dX9_takeOdds_13 rfl rfl ?_
      refine J_iconst C 15 dX9_takeOdds_14 rfl ki_0 ?_
      refine J_bipush C 17 dX9_takeOdds_15 rfl kb_100 ?_
      refine J_callBiV (Bs := [bX9 cI cJ cZ a0 r0 v0]) (As := [.ref (r0 44), .int y1, .int 0, .int 100]) C 20 (c_X9_into_kt_44 l D cI cJ cZ cS a0 r0 v0 y1 0 100 _ h) wd446 wd443 wd5 wd444 wd445 9 0 rfl rfl rfl hdX9_into ⟨Nat.le_of_ble_eq_true rfl, Nat.le_of_ble_eq_true rfl⟩ ⟨Nat.zero_le _, Nat.zero_le _⟩ rfl (Nat.le_of_ble_eq_true rfl) [0] [] 1 rfl (by decide +kernel) rfl rfl (fun (u : Vl) => [bX9 cI cJ cZ a0 r0 u]) (fun _ => rfl) [0] (by decide +kernel) (fun _ => rfl) rfl (fun (u : Vl) => [bX9 cI cJ cZ a0 r0 u]) (fun _ => rfl) dX9_takeOdds_17 rfl (fun r_2 u h => ?_)
      obtain ⟨u_1, hu⟩ : ∃ z, z = u := ⟨_, rfl⟩
      subst hu
      refine J_istore_n C 21 [(2, .int r_2), (0, .ref a0), (1, .int y1)] dX9_takeOdds_20 rfl (by decide) rfl ?_
      refine J_iload_n C 22 dX9_takeOdds_21 rfl rfl ?_
      refine J_iconst C 23 dX9_takeOdds_22 rfl ki_3 ?_
      refine J_irem C 24 dX9_takeOdds_23 rfl (by decide) ?_
      refine J_iconst C 25 dX9_takeOdds_24 rfl ki_2 ?_
      refine J_icmp_ne C 28 61 dX9_takeOdds_25 rfl rfl (fun c => ?_) (fun c => ?_)
      · have h := h.1 c
        refine J_loc [1, 2, 0] rfl ?_
        exact wk_X9_takeOdds_c61 C hr hk ih u_1 y1 r_2 h
      · have h := h.2 c
        refine J_aload_n C 29 dX9_takeOdds_28 rfl rfl ?_
        refine J_get C 32 9 inlX9 0 44 rfl rfl (by decide) wd173 rfl rfl dX9_takeOdds_29 rfl ?_
        refine J_iload_n C 33 dX9_takeOdds_32 rfl rfl ?_
        obtain ⟨hi, h⟩ := h
        refine J_iald C 34 15 0 rfl rfl hi dX9_takeOdds_33 rfl ?_
        refine J_aload_n C 35 dX9_takeOdds_34 rfl rfl ?_
        refine J_get C 38 9 inlX9 0 44 rfl rfl (by decide) wd173 rfl rfl dX9_takeOdds_35 rfl ?_
        refine J_iload_n C 39 dX9_takeOdds_38 rfl rfl ?_
        refine J_iconst C 40 dX9_takeOdds_39 rfl ki_1 ?_
        refine J_isub C 41 dX9_takeOdds_40 rfl ?_
        obtain ⟨hi, h⟩ := h
        refine J_iald C 42 15 0 rfl rfl hi dX9_takeOdds_41 rfl ?_
        refine J_iadd C 43 dX9_takeOdds_42 rfl ?_
        refine J_aload_n C 44 dX9_takeOdds_43 rfl rfl ?_
        refine J_get C 47 9 inlX9 0 44 rfl rfl (by decide) wd173 rfl rfl dX9_takeOdds_44 rfl ?_
        refine J_iload_n C 48 dX9_takeOdds_47 rfl rfl ?_
        refine J_iconst C 49 dX9_takeOdds_48 rfl ki_2 ?_
        refine J_isub C 50 dX9_takeOdds_49 rfl ?_
        obtain ⟨hi, h⟩ := h
        refine J_iald C 51 15 0 rfl rfl hi dX9_takeOdds_50 rfl ?_
        refine J_iadd C 52 dX9_takeOdds_51 rfl ?_
        refine J_bipush C 54 dX9_takeOdds_52 rfl kb_100 ?_
        refine J_icmp_eq C 57 61 dX9_takeOdds_54 rfl rfl (fun c => ?_) (fun c => ?_)
        · have h := h.1 c
          refine J_loc [1, 2, 0] rfl ?_
          exact wk_X9_takeOdds_c61 C hr hk ih u_1 y1 r_2 h
        · have h := h.2 c
          refine J_iconst C 58 dX9_takeOdds_57 rfl ki_1 ?_
          refine J_goto C 62 dX9_takeOdds_58 rfl ?_
          refine J_loc [1, 2, 0] rfl ?_
          exact wk_X9_takeOdds_c62 C hr hk ih u_1 y1 r_2 1 h
def wp_X9_takeOdds (v0 : Vl)  (Q : Int32 → Vl → Prop) : Prop := (∃ k : Nat, wp_X9_takeOdds_c2  Q k v0 0)
set_option maxHeartbeats 4000000 in
set_option maxRecDepth 100000 in
theorem c_X9_takeOdds (l : Launch) (D : GG) (cI cJ cZ cS : ClassId) (a0 : Nat) (r0 : Nat → Nat) (v0 : Vl)  (Q : Int32 → Vl → Prop) (h : wp_X9_takeOdds v0 Q) : Mi l D (tyL cI cJ cZ cS) yX9_takeOdds cX9_takeOdds 4 .int 3 73 [.ref a0] (List.flatten [bX9 cI cJ cZ a0 r0 v0]) (fun (r : Int32) (u : Vl) => Q r u) (fun (u : Vl) => List.flatten [bX9 cI cJ cZ a0 r0 u]) := by
  refine Mi_of RX9 [(0, .ref a0)] (by decide +kernel) rfl rfl (Nat.le_of_ble_eq_true rfl) ?_
  intro p e s m args below meth c A C hr hk
  refine J_iconst C 1 dX9_takeOdds_0 rfl ki_0 ?_
  refine J_istore_n C 2 [(1, .int 0), (0, .ref a0)] dX9_takeOdds_1 rfl (by decide) rfl ?_
  refine J_loc [1, 0] rfl ?_
  obtain ⟨n1, h⟩ := h
  exact wk_X9_takeOdds_c2 C hr hk n1 v0 0 h
def wp_X9_into_kt_41 (v0 : Vl) (x2 : Int32) (x3 : Int32) (x4 : Int32) (Q : Int32 → Vl → Prop) : Prop := wp_X9_takeNumber v0 x3 x4 (fun r_2 u_1 => vp_in x2 5 ∧ (∀ v0s_3 : Vl, v0s_3 = setA u_1 41 (Int32.toNatClampNeg x2) (u_1.1 37) → Q r_2 v0s_3))
set_option maxHeartbeats 4000000 in
set_option maxRecDepth 100000 in
theorem c_X9_into_kt_41 (l : Launch) (D : GG) (cI cJ cZ cS : ClassId) (a0 : Nat) (r0 : Nat → Nat) (v0 : Vl) (x2 : Int32) (x3 : Int32) (x4 : Int32) (Q : Int32 → Vl → Prop) (h : wp_X9_into_kt_41 v0 x2 x3 x4 Q) : Mi l D (tyL cI cJ cZ cS) yX9_into cX9_into 6 .int 2 48 [.ref a0, .ref (r0 41), .int x2, .int x3, .int x4] (List.flatten [bX9 cI cJ cZ a0 r0 v0]) (fun (r : Int32) (u : Vl) => Q r u) (fun (u : Vl) => List.flatten [bX9 cI cJ cZ a0 r0 u]) := by
  refine Mi_of RX9 [(0, .ref a0), (1, .ref (r0 41)), (2, .int x2), (3, .int x3), (4, .int x4)] (by decide +kernel) rfl rfl (Nat.le_of_ble_eq_true rfl) ?_
  intro p e s m args below meth c A C hr hk
  refine J_aload_n C 1 dX9_into_0 rfl rfl ?_
  refine J_iload_n C 2 dX9_into_1 rfl rfl ?_
  refine J_iload C 4 dX9_into_2 rfl rfl ?_
  refine J_callBiV (Bs := [bX9 cI cJ cZ a0 r0 v0]) (As := [.int x3, .int x4]) C 7 (c_X9_takeNumber l D cI cJ cZ cS a0 r0 v0 x3 x4 _ h) wd451 wd448 wd5 wd449 wd450 9 0 rfl rfl rfl hdX9_takeNumber ⟨Nat.le_of_ble_eq_true rfl, Nat.le_of_ble_eq_true rfl⟩ ⟨Nat.zero_le _, Nat.zero_le _⟩ rfl (Nat.le_of_ble_eq_true rfl) [0] [] 1 rfl (by decide +kernel) rfl rfl (fun (u : Vl) => [bX9 cI cJ cZ a0 r0 u]) (fun _ => rfl) [0] (by decide +kernel) (fun _ => rfl) rfl (fun (u : Vl) => [bX9 cI cJ cZ a0 r0 u]) (fun _ => rfl) dX9_into_4 rfl (fun r_2 u h => ?_)
  obtain ⟨u_1, hu⟩ : ∃ z, z = u := ⟨_, rfl⟩
  subst hu
  refine J_istore C 9 [(5, .int r_2), (0, .ref a0), (1, .ref (r0 41)), (2, .int x2), (3, .int x3), (4, .int x4)] dX9_into_7 rfl (by decide) rfl ?_
  refine J_aload_n C 10 dX9_into_9 rfl rfl ?_
  refine J_iload_n C 11 dX9_into_10 rfl rfl ?_
  refine J_aload_n C 12 dX9_into_11 rfl rfl ?_
  refine J_get C 15 9 inlX9 0 37 rfl rfl (by decide) wd447 rfl rfl dX9_into_12 rfl ?_
  obtain ⟨hi, h⟩ := h
  obtain ⟨v0s_3, ev0s_3⟩ : ∃ z : Vl, z = setA u_1 41 (Int32.toNatClampNeg x2) (u_1.1 37) := ⟨_, rfl⟩
  have h := h v0s_3 ev0s_3
  refine J_iast C 16 13 0 rfl rfl hi (List.flatten [bX9 cI cJ cZ a0 r0 v0s_3]) (by subst ev0s_3; rfl) dX9_into_15 rfl ?_
  refine J_iload C 18 dX9_into_16 rfl rfl ?_
  exact J_iret C hr hk v0s_3 rfl dX9_into_18 h
def wp_X9_takeOnce_c51  (Q : Int32 → Vl → Prop) (v0 : Vl) (y1 : Int32) (s0 : Int32) : Prop := ((s0 ≤ 0 → ((¬ y1 = 1 → wp_X9_into_kt_41 v0 4 1 99 (fun r_4 u_3 => Q r_4 u_3)) ∧ (y1 = 1 → wp_X9_into_kt_41 v0 1 1 999 (fun r_6 u_5 => Q r_6 u_5)))) ∧ (¬ s0 ≤ 0 → Q s0 v0))
set_option maxHeartbeats 4000000 in
set_option maxRecDepth 100000 in
theorem wk_X9_takeOnce_c51 {p : Program} {l : Launch} {e : Env} {s : State} {m : MethodId} {args : Array Value} {below : List Frame} {meth : Method} {c : Code} {D : GG} {A : Nat → Prop} {cI cJ cZ cS : ClassId} {a0 : Nat} {r0 : Nat → Nat}  {Q : Int32 → Vl → Prop} (C : Cx p s m args c D (tyL cI cJ cZ cS) A RX9 cX9_takeOnce 3) (hr : meth.sig.returnType = some .int) (hk : meth.locks = false) : ∀ (v0 : Vl) (y1 : Int32) (s0 : Int32), wp_X9_takeOnce_c51  Q v0 y1 s0 → J p l e (rmk 3 73) s m args below meth c D A 3 0 0 (MQ below (va_Qi (fun (r : Int32) (u : Vl) => Q r u) (fun u t => va_P D.1 vwCl ((fun (u : Vl) => List.flatten [bX9 cI cJ cZ a0 r0 u]) u) t.heap ∧ va_D A ((fun (u : Vl) => List.flatten [bX9 cI cJ cZ a0 r0 u]) u)) A) args s 0 0 A) 51 [(0, .ref a0), (1, .int y1)] [.int s0] (List.flatten [bX9 cI cJ cZ a0 r0 v0]) := by
  intro v0 y1 s0 h
  refine J_istore_n C 52 [(2, .int s0), (0, .ref a0), (1, .int y1)] dX9_takeOnce_51 rfl (by decide) rfl ?_
  refine J_iload_n C 53 dX9_takeOnce_52 rfl rfl ?_
  refine J_if_le C 56 60 dX9_takeOnce_53 rfl rfl (fun c => ?_) (fun c => ?_)
  · have h := h.1 c
    refine J_iload_n C 61 dX9_takeOnce_60 rfl rfl ?_
    refine J_iconst C 62 dX9_takeOnce_61 rfl ki_1 ?_
    refine J_icmp_ne C 65 81 dX9_takeOnce_62 rfl rfl (fun c => ?_) (fun c => ?_)
    · have h := h.1 c
      refine J_aload_n C 82 dX9_takeOnce_81 rfl rfl ?_
      refine J_aload_n C 83 dX9_takeOnce_82 rfl rfl ?_
      refine J_get C 86 9 inlX9 0 41 rfl rfl (by decide) wd171 rfl rfl dX9_takeOnce_83 rfl ?_
      refine J_iconst C 87 dX9_takeOnce_86 rfl ki_4 ?_
      refine J_iconst C 88 dX9_takeOnce_87 rfl ki_1 ?_
      refine J_bipush C 90 dX9_takeOnce_88 rfl kb_99 ?_
      refine J_callBiV (Bs := [bX9 cI cJ cZ a0 r0 v0]) (As := [.ref (r0 41), .int 4, .int 1, .int 99]) C 93 (c_X9_into_kt_41 l D cI cJ cZ cS a0 r0 v0 4 1 99 _ h) wd446 wd443 wd5 wd444 wd445 9 0 rfl rfl rfl hdX9_into ⟨Nat.le_of_ble_eq_true rfl, Nat.le_of_ble_eq_true rfl⟩ ⟨Nat.zero_le _, Nat.zero_le _⟩ rfl (Nat.le_of_ble_eq_true rfl) [0] [] 1 rfl (by decide +kernel) rfl rfl (fun (u : Vl) => [bX9 cI cJ cZ a0 r0 u]) (fun _ => rfl) [0] (by decide +kernel) (fun _ => rfl) rfl (fun (u : Vl) => [bX9 cI cJ cZ a0 r0 u]) (fun _ => rfl) dX9_takeOnce_90 rfl (fun r_4 u h => ?_)
      obtain ⟨u_3, hu⟩ : ∃ z, z = u := ⟨_, rfl⟩
      subst hu
      exact J_iret C hr hk u_3 rfl dX9_takeOnce_93 h
    · have h := h.2 c
      refine J_aload_n C 66 dX9_takeOnce_65 rfl rfl ?_
      refine J_aload_n C 67 dX9_takeOnce_66 rfl rfl ?_
      refine J_get C 70 9 inlX9 0 41 rfl rfl (by decide) wd171 rfl rfl dX9_takeOnce_67 rfl ?_
      refine J_iconst C 71 dX9_takeOnce_70 rfl ki_1 ?_
      refine J_iconst C 72 dX9_takeOnce_71 rfl ki_1 ?_
      refine J_sipush C 75 dX9_takeOnce_72 rfl ks_999 ?_
      refine J_callBiV (Bs := [bX9 cI cJ cZ a0 r0 v0]) (As := [.ref (r0 41), .int 1, .int 1, .int 999]) C 78 (c_X9_into_kt_41 l D cI cJ cZ cS a0 r0 v0 1 1 999 _ h) wd446 wd443 wd5 wd444 wd445 9 0 rfl rfl rfl hdX9_into ⟨Nat.le_of_ble_eq_true rfl, Nat.le_of_ble_eq_true rfl⟩ ⟨Nat.zero_le _, Nat.zero_le _⟩ rfl (Nat.le_of_ble_eq_true rfl) [0] [] 1 rfl (by decide +kernel) rfl rfl (fun (u : Vl) => [bX9 cI cJ cZ a0 r0 u]) (fun _ => rfl) [0] (by decide +kernel) (fun _ => rfl) rfl (fun (u : Vl) => [bX9 cI cJ cZ a0 r0 u]) (fun _ => rfl) dX9_takeOnce_75 rfl (fun r_6 u h => ?_)
      obtain ⟨u_5, hu⟩ : ∃ z, z = u := ⟨_, rfl⟩
      subst hu
      refine J_goto C 93 dX9_takeOnce_78 rfl ?_
      exact J_iret C hr hk u_5 rfl dX9_takeOnce_93 h
  · have h := h.2 c
    refine J_iload_n C 57 dX9_takeOnce_56 rfl rfl ?_
    refine J_goto C 93 dX9_takeOnce_57 rfl ?_
    exact J_iret C hr hk v0 rfl dX9_takeOnce_93 h
def wp_X9_takeOnce (v0 : Vl) (x1 : Int32) (Q : Int32 → Vl → Prop) : Prop := ((¬ x1 = 2 → ((¬ x1 = 1 → wp_X9_into_kt_41 v0 3 0 99 (fun r_2 u_1 => wp_X9_takeOnce_c51  Q u_1 x1 r_2)) ∧ (x1 = 1 → wp_X9_into_kt_41 v0 0 1 99 (fun r_8 u_7 => wp_X9_takeOnce_c51  Q u_7 x1 r_8)))) ∧ (x1 = 2 → wp_X9_into_kt_41 v0 2 0 9999 (fun r_10 u_9 => Q r_10 u_9)))
set_option maxHeartbeats 4000000 in
set_option maxRecDepth 100000 in
theorem c_X9_takeOnce (l : Launch) (D : GG) (cI cJ cZ cS : ClassId) (a0 : Nat) (r0 : Nat → Nat) (v0 : Vl) (x1 : Int32) (Q : Int32 → Vl → Prop) (h : wp_X9_takeOnce v0 x1 Q) : Mi l D (tyL cI cJ cZ cS) yX9_takeOnce cX9_takeOnce 3 .int 3 73 [.ref a0, .int x1] (List.flatten [bX9 cI cJ cZ a0 r0 v0]) (fun (r : Int32) (u : Vl) => Q r u) (fun (u : Vl) => List.flatten [bX9 cI cJ cZ a0 r0 u]) := by
  refine Mi_of RX9 [(0, .ref a0), (1, .int x1)] (by decide +kernel) rfl rfl (Nat.le_of_ble_eq_true rfl) ?_
  intro p e s m args below meth c A C hr hk
  refine J_iload_n C 1 dX9_takeOnce_0 rfl rfl ?_
  refine J_iconst C 2 dX9_takeOnce_1 rfl ki_2 ?_
  refine J_icmp_ne C 5 19 dX9_takeOnce_2 rfl rfl (fun c => ?_) (fun c => ?_)
  · have h := h.1 c
    refine J_iload_n C 20 dX9_takeOnce_19 rfl rfl ?_
    refine J_iconst C 21 dX9_takeOnce_20 rfl ki_1 ?_
    refine J_icmp_ne C 24 39 dX9_takeOnce_21 rfl rfl (fun c => ?_) (fun c => ?_)
    · have h := h.1 c
      refine J_aload_n C 40 dX9_takeOnce_39 rfl rfl ?_
      refine J_aload_n C 41 dX9_takeOnce_40 rfl rfl ?_
      refine J_get C 44 9 inlX9 0 41 rfl rfl (by decide) wd171 rfl rfl dX9_takeOnce_41 rfl ?_
      refine J_iconst C 45 dX9_takeOnce_44 rfl ki_3 ?_
      refine J_iconst C 46 dX9_takeOnce_45 rfl ki_0 ?_
      refine J_bipush C 48 dX9_takeOnce_46 rfl kb_99 ?_
      refine J_callBiV (Bs := [bX9 cI cJ cZ a0 r0 v0]) (As := [.ref (r0 41), .int 3, .int 0, .int 99]) C 51 (c_X9_into_kt_41 l D cI cJ cZ cS a0 r0 v0 3 0 99 _ h) wd446 wd443 wd5 wd444 wd445 9 0 rfl rfl rfl hdX9_into ⟨Nat.le_of_ble_eq_true rfl, Nat.le_of_ble_eq_true rfl⟩ ⟨Nat.zero_le _, Nat.zero_le _⟩ rfl (Nat.le_of_ble_eq_true rfl) [0] [] 1 rfl (by decide +kernel) rfl rfl (fun (u : Vl) => [bX9 cI cJ cZ a0 r0 u]) (fun _ => rfl) [0] (by decide +kernel) (fun _ => rfl) rfl (fun (u : Vl) => [bX9 cI cJ cZ a0 r0 u]) (fun _ => rfl) dX9_takeOnce_48 rfl (fun r_2 u h => ?_)
      obtain ⟨u_1, hu⟩ : ∃ z, z = u := ⟨_, rfl⟩
      subst hu
      refine J_loc [0, 1] rfl ?_
      exact wk_X9_takeOnce_c51 C hr hk u_1 x1 r_2 h
    · have h := h.2 c
      refine J_aload_n C 25 dX9_takeOnce_24 rfl rfl ?_
      refine J_aload_n C 26 dX9_takeOnce_25 rfl rfl ?_
      refine J_get C 29 9 inlX9 0 41 rfl rfl (by decide) wd171 rfl rfl dX9_takeOnce_26 rfl ?_
      refine J_iconst C 30 dX9_takeOnce_29 rfl ki_0 ?_
      refine J_iconst C 31 dX9_takeOnce_30 rfl ki_1 ?_
      refine J_bipush C 33 dX9_takeOnce_31 rfl kb_99 ?_
      refine J_callBiV (Bs := [bX9 cI cJ cZ a0 r0 v0]) (As := [.ref (r0 41), .int 0, .int 1, .int 99]) C 36 (c_X9_into_kt_41 l D cI cJ cZ cS a0 r0 v0 0 1 99 _ h) wd446 wd443 wd5 wd444 wd445 9 0 rfl rfl rfl hdX9_into ⟨Nat.le_of_ble_eq_true rfl, Nat.le_of_ble_eq_true rfl⟩ ⟨Nat.zero_le _, Nat.zero_le _⟩ rfl (Nat.le_of_ble_eq_true rfl) [0] [] 1 rfl (by decide +kernel) rfl rfl (fun (u : Vl) => [bX9 cI cJ cZ a0 r0 u]) (fun _ => rfl) [0] (by decide +kernel) (fun _ => rfl) rfl (fun (u : Vl) => [bX9 cI cJ cZ a0 r0 u]) (fun _ => rfl) dX9_takeOnce_33 rfl (fun r_8 u h => ?_)
      obtain ⟨u_7, hu⟩ : ∃ z, z = u := ⟨_, rfl⟩
      subst hu
      refine J_goto C 51 dX9_takeOnce_36 rfl ?_
      refine J_loc [0, 1] rfl ?_
      exact wk_X9_takeOnce_c51 C hr hk u_7 x1 r_8 h
  · have h := h.2 c
    refine J_aload_n C 6 dX9_takeOnce_5 rfl rfl ?_
    refine J_aload_n C 7 dX9_takeOnce_6 rfl rfl ?_
    refine J_get C 10 9 inlX9 0 41 rfl rfl (by decide) wd171 rfl rfl dX9_takeOnce_7 rfl ?_
    refine J_iconst C 11 dX9_takeOnce_10 rfl ki_2 ?_
    refine J_iconst C 12 dX9_takeOnce_11 rfl ki_0 ?_
    refine J_sipush C 15 dX9_takeOnce_12 rfl ks_9999 ?_
    refine J_callBiV (Bs := [bX9 cI cJ cZ a0 r0 v0]) (As := [.ref (r0 41), .int 2, .int 0, .int 9999]) C 18 (c_X9_into_kt_41 l D cI cJ cZ cS a0 r0 v0 2 0 9999 _ h) wd446 wd443 wd5 wd444 wd445 9 0 rfl rfl rfl hdX9_into ⟨Nat.le_of_ble_eq_true rfl, Nat.le_of_ble_eq_true rfl⟩ ⟨Nat.zero_le _, Nat.zero_le _⟩ rfl (Nat.le_of_ble_eq_true rfl) [0] [] 1 rfl (by decide +kernel) rfl rfl (fun (u : Vl) => [bX9 cI cJ cZ a0 r0 u]) (fun _ => rfl) [0] (by decide +kernel) (fun _ => rfl) rfl (fun (u : Vl) => [bX9 cI cJ cZ a0 r0 u]) (fun _ => rfl) dX9_takeOnce_15 rfl (fun r_10 u h => ?_)
    obtain ⟨u_9, hu⟩ : ∃ z, z = u := ⟨_, rfl⟩
    subst hu
    exact J_iret C hr hk u_9 rfl dX9_takeOnce_18 h
