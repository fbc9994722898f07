def wp_X3_chanceOf (v0 : Vl) (x1 : Int32) (x2 : Int32) (Q : Int32 → Prop) : Prop := wp_X8_at 9 (v0.2.2.1 6) ((x1 * 3) + x2) (fun r_1 => Q r_1)
set_option maxHeartbeats 4000000 in
set_option maxRecDepth 100000 in
theorem c_X3_chanceOf (l : Launch) (D : GG) (cI cJ cZ cS : ClassId) (a0 : Nat) (r0 : Nat → Nat) (v0 : Vl) (x1 : Int32) (x2 : Int32) (Q : Int32 → Prop) (h : wp_X3_chanceOf v0 x1 x2 Q) : Mi l D (tyL cI cJ cZ cS) yX3_chanceOf cX3_chanceOf 3 .int 1 21 [.ref a0, .int x1, .int x2] (List.flatten [bX3 cI cJ cZ a0 r0 v0]) (fun (r : Int32) (u : Unit) => Q r) (fun (u : Unit) => List.flatten [bX3 cI cJ cZ a0 r0 v0]) := by
  refine Mi_of RX3 [(0, .ref a0), (1, .int x1), (2, .int x2)] (by decide +kernel) rfl rfl (Nat.le_of_ble_eq_true rfl) ?_
  intro p e s m args below meth c A C hr hk
  refine J_aload_n C 1 dX3_chanceOf_0 rfl rfl ?_
  refine J_get C 4 3 inlX3 0 6 rfl rfl (by decide) wd69 rfl rfl dX3_chanceOf_1 rfl ?_
  refine J_iload_n C 5 dX3_chanceOf_4 rfl rfl ?_
  refine J_iconst C 6 dX3_chanceOf_5 rfl ki_3 ?_
  refine J_imul C 7 dX3_chanceOf_6 rfl ?_
  refine J_iload_n C 8 dX3_chanceOf_7 rfl rfl ?_
  refine J_iadd C 9 dX3_chanceOf_8 rfl ?_
  refine J_call1piSN (As := [.ref (r0 6), .int ((x1 * 3) + x2)]) C 12 (c_X8_at l D cI cJ cZ cS 9 (r0 6) (v0.2.2.1 6) ((x1 * 3) + x2) _ h) wd147 (mi 55 rfl) wd2 wd146 hdX8_at ⟨Nat.le_of_ble_eq_true rfl, Nat.le_of_ble_eq_true rfl⟩ ⟨Nat.zero_le _, Nat.zero_le _⟩ rfl (Nat.le_of_ble_eq_true rfl) 7 rfl (fun _ => rfl) dX3_chanceOf_9 rfl (fun r_1 u h => ?_)
  exact J_iret C hr hk () rfl dX3_chanceOf_12 h
def wp_X3_milesBy (v0 : Vl) (x1 : Int32) (Q : Int32 → Prop) : Prop := ((¬ x1 = 0 → ((¬ x1 = 1 → Q 0) ∧ (x1 = 1 → Q ((v0.1 8) / 2)))) ∧ (x1 = 0 → Q (v0.1 8)))
set_option maxHeartbeats 4000000 in
set_option maxRecDepth 100000 in
theorem c_X3_milesBy (l : Launch) (D : GG) (cI cJ cZ cS : ClassId) (a0 : Nat) (r0 : Nat → Nat) (v0 : Vl) (x1 : Int32) (Q : Int32 → Prop) (h : wp_X3_milesBy v0 x1 Q) : Mi l D (tyL cI cJ cZ cS) yX3_milesBy cX3_milesBy 2 .int 0 0 [.ref a0, .int x1] (List.flatten [bX3 cI cJ cZ a0 r0 v0]) (fun (r : Int32) (u : Unit) => Q r) (fun (u : Unit) => List.flatten [bX3 cI cJ cZ a0 r0 v0]) := by
  refine Mi_of RX3 [(0, .ref a0), (1, .int x1)] (by decide +kernel) rfl rfl (Nat.le_of_ble_eq_true rfl) ?_
  intro p e s m args below meth c A C hr hk
  refine J_iload_n C 1 dX3_milesBy_0 rfl rfl ?_
  refine J_if_ne C 4 9 dX3_milesBy_1 rfl rfl (fun c => ?_) (fun c => ?_)
  · have h := h.1 c
    refine J_iload_n C 10 dX3_milesBy_9 rfl rfl ?_
    refine J_iconst C 11 dX3_milesBy_10 rfl ki_1 ?_
    refine J_icmp_ne C 14 23 dX3_milesBy_11 rfl rfl (fun c => ?_) (fun c => ?_)
    · have h := h.1 c
      refine J_iconst C 24 dX3_milesBy_23 rfl ki_0 ?_
      exact J_iret C hr hk () rfl dX3_milesBy_24 h
    · have h := h.2 c
      refine J_aload_n C 15 dX3_milesBy_14 rfl rfl ?_
      refine J_get C 18 3 inlX3 0 8 rfl rfl (by decide) wd75 rfl rfl dX3_milesBy_15 rfl ?_
      refine J_iconst C 19 dX3_milesBy_18 rfl ki_2 ?_
      refine J_idiv C 20 dX3_milesBy_19 rfl (by decide) ?_
      refine J_goto C 24 dX3_milesBy_20 rfl ?_
      exact J_iret C hr hk () rfl dX3_milesBy_24 h
  · have h := h.2 c
    refine J_aload_n C 5 dX3_milesBy_4 rfl rfl ?_
    refine J_get C 8 3 inlX3 0 8 rfl rfl (by decide) wd75 rfl rfl dX3_milesBy_5 rfl ?_
    exact J_iret C hr hk () rfl dX3_milesBy_8 h
def wp_X3_milesTo (v0 : Vl) (x1 : Int32) (Q : Int32 → Prop) : Prop := ((¬ x1 = (-1) → wp_X8_at 9 (v0.2.2.1 1) x1 (fun r_1 => Q r_1)) ∧ (x1 = (-1) → Q 0))
set_option maxHeartbeats 4000000 in
set_option maxRecDepth 100000 in
theorem c_X3_milesTo (l : Launch) (D : GG) (cI cJ cZ cS : ClassId) (a0 : Nat) (r0 : Nat → Nat) (v0 : Vl) (x1 : Int32) (Q : Int32 → Prop) (h : wp_X3_milesTo v0 x1 Q) : Mi l D (tyL cI cJ cZ cS) yX3_milesTo cX3_milesTo 2 .int 1 21 [.ref a0, .int x1] (List.flatten [bX3 cI cJ cZ a0 r0 v0]) (fun (r : Int32) (u : Unit) => Q r) (fun (u : Unit) => List.flatten [bX3 cI cJ cZ a0 r0 v0]) := by
  refine Mi_of RX3 [(0, .ref a0), (1, .int x1)] (by decide +kernel) rfl rfl (Nat.le_of_ble_eq_true rfl) ?_
  intro p e s m args below meth c A C hr hk
  refine J_iload_n C 1 dX3_milesTo_0 rfl rfl ?_
  refine J_iconst C 2 dX3_milesTo_1 rfl ki_m1 ?_
  refine J_icmp_ne C 5 9 dX3_milesTo_2 rfl rfl (fun c => ?_) (fun c => ?_)
  · have h := h.1 c
    refine J_aload_n C 10 dX3_milesTo_9 rfl rfl ?_
    refine J_get C 13 3 inlX3 0 1 rfl rfl (by decide) wd64 rfl rfl dX3_milesTo_10 rfl ?_
    refine J_iload_n C 14 dX3_milesTo_13 rfl rfl ?_
    refine J_call1piSN (As := [.ref (r0 1), .int x1]) C 17 (c_X8_at l D cI cJ cZ cS 9 (r0 1) (v0.2.2.1 1) x1 _ h) wd147 (mi 55 rfl) wd2 wd146 hdX8_at ⟨Nat.le_of_ble_eq_true rfl, Nat.le_of_ble_eq_true rfl⟩ ⟨Nat.zero_le _, Nat.zero_le _⟩ rfl (Nat.le_of_ble_eq_true rfl) 2 rfl (fun _ => rfl) dX3_milesTo_14 rfl (fun r_1 u h => ?_)
    exact J_iret C hr hk () rfl dX3_milesTo_17 h
  · have h := h.2 c
    refine J_iconst C 6 dX3_milesTo_5 rfl ki_0 ?_
    refine J_goto C 17 dX3_milesTo_6 rfl ?_
    exact J_iret C hr hk () rfl dX3_milesTo_17 h
def wp_X3_hoursOf (v0 : Vl) (x1 : Int32) (Q : Int32 → Prop) : Prop := ((1 ≤ (v0.1 13) → wp_J9_floorMod_7cf53 (x1 / 10) (v0.1 13) (fun r_1 => wp_X8_at 12 (v0.2.2.1 5) r_1 (fun r_2 => Q r_2))) ∧ (¬ 1 ≤ (v0.1 13) → Q 0))
set_option maxHeartbeats 4000000 in
set_option maxRecDepth 100000 in
theorem c_X3_hoursOf (l : Launch) (D : GG) (cI cJ cZ cS : ClassId) (a0 : Nat) (r0 : Nat → Nat) (v0 : Vl) (x1 : Int32) (Q : Int32 → Prop) (h : wp_X3_hoursOf v0 x1 Q) : Mi l D (tyL cI cJ cZ cS) yX3_hoursOf cX3_hoursOf 2 .int 1 22 [.ref a0, .int x1] (List.flatten [bX3 cI cJ cZ a0 r0 v0]) (fun (r : Int32) (u : Unit) => Q r) (fun (u : Unit) => List.flatten [bX3 cI cJ cZ a0 r0 v0]) := by
  refine Mi_of RX3 [(0, .ref a0), (1, .int x1)] (by decide +kernel) rfl rfl (Nat.le_of_ble_eq_true rfl) ?_
  intro p e s m args below meth c A C hr hk
  refine J_aload_n C 1 dX3_hoursOf_0 rfl rfl ?_
  refine J_get C 4 3 inlX3 0 13 rfl rfl (by decide) wd80 rfl rfl dX3_hoursOf_1 rfl ?_
  refine J_iconst C 5 dX3_hoursOf_4 rfl ki_1 ?_
  refine J_icmp_ge C 8 12 dX3_hoursOf_5 rfl rfl (fun c => ?_) (fun c => ?_)
  · have h := h.1 c
    refine J_aload_n C 13 dX3_hoursOf_12 rfl rfl ?_
    refine J_get C 16 3 inlX3 0 5 rfl rfl (by decide) wd68 rfl rfl dX3_hoursOf_13 rfl ?_
    refine J_iload_n C 17 dX3_hoursOf_16 rfl rfl ?_
    refine J_bipush C 19 dX3_hoursOf_17 rfl kb_10 ?_
    refine J_idiv C 20 dX3_hoursOf_19 rfl (by decide) ?_
    refine J_aload_n C 21 dX3_hoursOf_20 rfl rfl ?_
    refine J_get C 24 3 inlX3 0 13 rfl rfl (by decide) wd80 rfl rfl dX3_hoursOf_21 rfl ?_
    refine J_callBiS (Bs := [bX3 cI cJ cZ a0 r0 v0]) (As := [.int (x1 / 10), .int (v0.1 13)]) C 27 (c_J9_floorMod_7cf53 l D cI cJ cZ cS (x1 / 10) (v0.1 13) _ h) wd651 wd648 wd650 wd649 hdJ9_floorMod_7cf53 ⟨Nat.le_of_ble_eq_true rfl, Nat.le_of_ble_eq_true rfl⟩ ⟨Nat.zero_le _, Nat.zero_le _⟩ rfl (Nat.le_of_ble_eq_true rfl) [] [0] 1 rfl (by decide +kernel) rfl rfl (fun (u : Unit) => ([] : List va_W)) (fun _ => rfl) [0] (by decide +kernel) (fun _ => rfl) rfl (fun (u : Unit) => [bX3 cI cJ cZ a0 r0 v0]) (fun _ => rfl) dX3_hoursOf_24 rfl (fun r_1 u h => ?_)
    refine J_call1piSN (As := [.ref (r0 5), .int r_1]) C 30 (c_X8_at l D cI cJ cZ cS 12 (r0 5) (v0.2.2.1 5) r_1 _ h) wd147 (mi 55 rfl) wd2 wd146 hdX8_at ⟨Nat.le_of_ble_eq_true rfl, Nat.le_of_ble_eq_true rfl⟩ ⟨Nat.zero_le _, Nat.zero_le _⟩ rfl (Nat.le_of_ble_eq_true rfl) 6 rfl (fun _ => rfl) dX3_hoursOf_27 rfl (fun r_2 u h => ?_)
    exact J_iret C hr hk () rfl dX3_hoursOf_30 h
  · have h := h.2 c
    refine J_iconst C 9 dX3_hoursOf_8 rfl ki_0 ?_
    refine J_goto C 30 dX3_hoursOf_9 rfl ?_
    exact J_iret C hr hk () rfl dX3_hoursOf_30 h
def wp_X3_isDarkBySky_c19 (v0 : Vl) (Q : Int32 → Prop) (y2 : Int32) (y3 : Int32) : Prop := ((¬ y3 = 3 → Q 0) ∧ (y3 = 3 → ((¬ y2 = 2 → Q 0) ∧ (y2 = 2 → Q 1))))
set_option maxHeartbeats 4000000 in
set_option maxRecDepth 100000 in
theorem wk_X3_isDarkBySky_c19 {p : Program} {l : Launch} {e : Env} {s : State} {m : MethodId} {args : Array Value} {below : List Frame} {meth : Method} {c : Code} {D : GG} {A : Nat → Prop} {cI cJ cZ cS : ClassId} {a0 : Nat} {r0 : Nat → Nat} {v0 : Vl} {Q : Int32 → Prop} (C : Cx p s m args c D (tyL cI cJ cZ cS) A RX3 cX3_isDarkBySky 4) (hr : meth.sig.returnType = some .boolean) (hk : meth.locks = false) : ∀ (y2 : Int32) (y3 : Int32), wp_X3_isDarkBySky_c19 v0 Q y2 y3 → J p l e (rmk 1 21) s m args below meth c D A 4 0 0 (MQ below (va_Qi (fun (r : Int32) (u : Unit) => Q r) (fun u t => va_P D.1 vwCl ((fun (u : Unit) => List.flatten [bX3 cI cJ cZ a0 r0 v0]) u) t.heap ∧ va_D A ((fun (u : Unit) => List.flatten [bX3 cI cJ cZ a0 r0 v0]) u)) A) args s 0 0 A) 19 [(2, .int y2), (3, .int y3)] [] (List.flatten [bX3 cI cJ cZ a0 r0 v0]) := by
  intro y2 y3 h
  refine J_iload_n C 20 dX3_isDarkBySky_19 rfl rfl ?_
  refine J_iconst C 21 dX3_isDarkBySky_20 rfl ki_3 ?_
  refine J_icmp_ne C 24 33 dX3_isDarkBySky_21 rfl rfl (fun c => ?_) (fun c => ?_)
  · have h := h.1 c
    refine J_iconst C 34 dX3_isDarkBySky_33 rfl ki_0 ?_
    exact J_zret C hr hk rfl () rfl dX3_isDarkBySky_34 h
  · have h := h.2 c
    refine J_iload_n C 25 dX3_isDarkBySky_24 rfl rfl ?_
    refine J_iconst C 26 dX3_isDarkBySky_25 rfl ki_2 ?_
    refine J_icmp_ne C 29 33 dX3_isDarkBySky_26 rfl rfl (fun c => ?_) (fun c => ?_)
    · have h := h.1 c
      refine J_iconst C 34 dX3_isDarkBySky_33 rfl ki_0 ?_
      exact J_zret C hr hk rfl () rfl dX3_isDarkBySky_34 h
    · have h := h.2 c
      refine J_iconst C 30 dX3_isDarkBySky_29 rfl ki_1 ?_
      refine J_goto C 34 dX3_isDarkBySky_30 rfl ?_
      exact J_zret C hr hk rfl () rfl dX3_isDarkBySky_34 h
def wp_X3_isDarkBySky (v0 : Vl) (x1 : Int32) (x2 : Int32) (Q : Int32 → Prop) : Prop := wp_X8_at 9 (v0.2.2.1 0) x1 (fun r_1 => ((¬ r_1 = 4 → wp_X3_isDarkBySky_c19 v0 Q x2 r_1) ∧ (r_1 = 4 → ((x2 = 1 → Q 1) ∧ (¬ x2 = 1 → wp_X3_isDarkBySky_c19 v0 Q x2 r_1)))))
set_option maxHeartbeats 4000000 in
set_option maxRecDepth 100000 in
theorem c_X3_isDarkBySky (l : Launch) (D : GG) (cI cJ cZ cS : ClassId) (a0 : Nat) (r0 : Nat → Nat) (v0 : Vl) (x1 : Int32) (x2 : Int32) (Q : Int32 → Prop) (h : wp_X3_isDarkBySky v0 x1 x2 Q) : Mi l D (tyL cI cJ cZ cS) yX3_isDarkBySky cX3_isDarkBySky 4 .boolean 1 21 [.ref a0, .int x1, .int x2] (List.flatten [bX3 cI cJ cZ a0 r0 v0]) (fun (r : Int32) (u : Unit) => Q r) (fun (u : Unit) => List.flatten [bX3 cI cJ cZ a0 r0 v0]) := by
  refine Mi_of RX3 [(0, .ref a0), (1, .int x1), (2, .int x2)] (by decide +kernel) rfl rfl (Nat.le_of_ble_eq_true rfl) ?_
  intro p e s m args below meth c A C hr hk
  refine J_aload_n C 1 dX3_isDarkBySky_0 rfl rfl ?_
  refine J_get C 4 3 inlX3 0 0 rfl rfl (by decide) wd63 rfl rfl dX3_isDarkBySky_1 rfl ?_
  refine J_iload_n C 5 dX3_isDarkBySky_4 rfl rfl ?_
  refine J_call1piSN (As := [.ref (r0 0), .int x1]) C 8 (c_X8_at l D cI cJ cZ cS 9 (r0 0) (v0.2.2.1 0) x1 _ h) wd147 (mi 55 rfl) wd2 wd146 hdX8_at ⟨Nat.le_of_ble_eq_true rfl, Nat.le_of_ble_eq_true rfl⟩ ⟨Nat.zero_le _, Nat.zero_le _⟩ rfl (Nat.le_of_ble_eq_true rfl) 1 rfl (fun _ => rfl) dX3_isDarkBySky_5 rfl (fun r_1 u h => ?_)
  refine J_istore_n C 9 [(3, .int r_1), (0, .ref a0), (1, .int x1), (2, .int x2)] dX3_isDarkBySky_8 rfl (by decide) rfl ?_
  refine J_iload_n C 10 dX3_isDarkBySky_9 rfl rfl ?_
  refine J_iconst C 11 dX3_isDarkBySky_10 rfl ki_4 ?_
  refine J_icmp_ne C 14 19 dX3_isDarkBySky_11 rfl rfl (fun c => ?_) (fun c => ?_)
  · have h := h.1 c
    refine J_loc [3, 0] rfl ?_
    exact wk_X3_isDarkBySky_c19 C hr hk x2 r_1 h
  · have h := h.2 c
    refine J_iload_n C 15 dX3_isDarkBySky_14 rfl rfl ?_
    refine J_iconst C 16 dX3_isDarkBySky_15 rfl ki_1 ?_
    refine J_icmp_eq C 19 29 dX3_isDarkBySky_16 rfl rfl (fun c => ?_) (fun c => ?_)
    · have h := h.1 c
      refine J_iconst C 30 dX3_isDarkBySky_29 rfl ki_1 ?_
      refine J_goto C 34 dX3_isDarkBySky_30 rfl ?_
      exact J_zret C hr hk rfl () rfl dX3_isDarkBySky_34 h
    · have h := h.2 c
      refine J_loc [3, 0] rfl ?_
      exact wk_X3_isDarkBySky_c19 C hr hk x2 r_1 h
def wp_X3_needOf_c56 (v0 : Vl) (Q : Int32 → Prop) (y3 : Int32) (y4 : Int32) (y6 : Int32) : Prop := ((y4 = 0 → Q y6) ∧ (¬ y4 = 0 → ((¬ y3 = 0 → Q y6) ∧ (y3 = 0 → Q (y6 / 2)))))
set_option maxHeartbeats 4000000 in
set_option maxRecDepth 100000 in
theorem wk_X3_needOf_c56 {p : Program} {l : Launch} {e : Env} {s : State} {m : MethodId} {args : Array Value} {below : List Frame} {meth : Method} {c : Code} {D : GG} {A : Nat → Prop} {cI cJ cZ cS : ClassId} {a0 : Nat} {r0 : Nat → Nat} {v0 : Vl} {Q : Int32 → Prop} (C : Cx p s m args c D (tyL cI cJ cZ cS) A RX3 cX3_needOf 7) (hr : meth.sig.returnType = some .int) (hk : meth.locks = false) : ∀ (y3 : Int32) (y4 : Int32) (y6 : Int32), wp_X3_needOf_c56 v0 Q y3 y4 y6 → J p l e (rmk 1 21) s m args below meth c D A 7 0 0 (MQ below (va_Qi (fun (r : Int32) (u : Unit) => Q r) (fun u t => va_P D.1 vwCl ((fun (u : Unit) => List.flatten [bX3 cI cJ cZ a0 r0 v0]) u) t.heap ∧ va_D A ((fun (u : Unit) => List.flatten [bX3 cI cJ cZ a0 r0 v0]) u)) A) args s 0 0 A) 56 [(3, .int y3), (4, .int y4), (6, .int y6)] [] (List.flatten [bX3 cI cJ cZ a0 r0 v0]) := by
  intro y3 y4 y6 h
  refine J_iload C 58 dX3_needOf_56 rfl rfl ?_
  refine J_if_eq C 61 72 dX3_needOf_58 rfl rfl (fun c => ?_) (fun c => ?_)
  · have h := h.1 c
    refine J_iload C 74 dX3_needOf_72 rfl rfl ?_
    exact J_iret C hr hk () rfl dX3_needOf_74 h
  · have h := h.2 c
    refine J_iload_n C 62 dX3_needOf_61 rfl rfl ?_
    refine J_if_ne C 65 72 dX3_needOf_62 rfl rfl (fun c => ?_) (fun c => ?_)
    · have h := h.1 c
      refine J_iload C 74 dX3_needOf_72 rfl rfl ?_
      exact J_iret C hr hk () rfl dX3_needOf_74 h
    · have h := h.2 c
      refine J_iload C 67 dX3_needOf_65 rfl rfl ?_
      refine J_iconst C 68 dX3_needOf_67 rfl ki_2 ?_
      refine J_idiv C 69 dX3_needOf_68 rfl (by decide) ?_
      refine J_goto C 74 dX3_needOf_69 rfl ?_
      exact J_iret C hr hk () rfl dX3_needOf_74 h
def wp_X3_needOf_c29 (v0 : Vl) (Q : Int32 → Prop) (y1 : Int32) (y2 : Int32) (y3 : Int32) (y4 : Int32) (y5 : Int32) : Prop := wp_X8_at 9 (v0.2.2.1 2) y1 (fun r_2 => ∀ x_3 : Int32, x_3 = ((r_2 * y2) / 10) → ((¬ y5 = 1 → wp_X3_needOf_c56 v0 Q y3 y4 x_3) ∧ (y5 = 1 → ∀ x_4 : Int32, x_4 = (x_3 * 2) → wp_X3_needOf_c56 v0 Q y3 y4 x_4)))
set_option maxHeartbeats 4000000 in
set_option maxRecDepth 100000 in
theorem wk_X3_needOf_c29 {p : Program} {l : Launch} {e : Env} {s : State} {m : MethodId} {args : Array Value} {below : List Frame} {meth : Method} {c : Code} {D : GG} {A : Nat → Prop} {cI cJ cZ cS : ClassId} {a0 : Nat} {r0 : Nat → Nat} {v0 : Vl} {Q : Int32 → Prop} (C : Cx p s m args c D (tyL cI cJ cZ cS) A RX3 cX3_needOf 7) (hr : meth.sig.returnType = some .int) (hk : meth.locks = false) : ∀ (y1 : Int32) (y2 : Int32) (y3 : Int32) (y4 : Int32) (y5 : Int32), wp_X3_needOf_c29 v0 Q y1 y2 y3 y4 y5 → J p l e (rmk 1 21) s m args below meth c D A 7 0 0 (MQ below (va_Qi (fun (r : Int32) (u : Unit) => Q r) (fun u t => va_P D.1 vwCl ((fun (u : Unit) => List.flatten [bX3 cI cJ cZ a0 r0 v0]) u) t.heap ∧ va_D A ((fun (u : Unit) => List.flatten [bX3 cI cJ cZ a0 r0 v0]) u)) A) args s 0 0 A) 29 [(0, .ref a0), (1, .int y1), (2, .int y2), (3, .int y3), (4, .int y4), (5, .int y5)] [] (List.flatten [bX3 cI cJ cZ a0 r0 v0]) := by
  intro y1 y2 y3 y4 y5 h
  refine J_aload_n C 30 dX3_needOf_29 rfl rfl ?_
  refine J_get C 33 3 inlX3 0 2 rfl rfl (by decide) wd65 rfl rfl dX3_needOf_30 rfl ?_
  refine J_iload_n C 34 dX3_needOf_33 rfl rfl ?_
  refine J_call1piSN (As := [.ref (r0 2), .int y1]) C 37 (c_X8_at l D cI cJ cZ cS 9 (r0 2) (v0.2.2.1 2) y1 _ h) wd147 (mi 55 rfl) wd2 wd146 hdX8_at ⟨Nat.le_of_ble_eq_true rfl, Nat.le_of_ble_eq_true rfl⟩ ⟨Nat.zero_le _, Nat.zero_le _⟩ rfl (Nat.le_of_ble_eq_true rfl) 3 rfl (fun _ => rfl) dX3_needOf_34 rfl (fun r_2 u h => ?_)
  refine J_iload_n C 38 dX3_needOf_37 rfl rfl ?_
  refine J_imul C 39 dX3_needOf_38 rfl ?_
  refine J_bipush C 41 dX3_needOf_39 rfl kb_10 ?_
  refine J_idiv C 42 dX3_needOf_41 rfl (by decide) ?_
  obtain ⟨x_3, ex_3⟩ : ∃ z : Int32, z = ((r_2 * y2) / 10) := ⟨_, rfl⟩
  have h := h x_3 ex_3
  refine J_nmi ex_3 ?_
  refine J_istore C 44 [(6, .int x_3), (0, .ref a0), (1, .int y1), (2, .int y2), (3, .int y3), (4, .int y4), (5, .int y5)] dX3_needOf_42 rfl (by decide) rfl ?_
  refine J_iload C 46 dX3_needOf_44 rfl rfl ?_
  refine J_iconst C 47 dX3_needOf_46 rfl ki_1 ?_
  refine J_icmp_ne C 50 56 dX3_needOf_47 rfl rfl (fun c => ?_) (fun c => ?_)
  · have h := h.1 c
    refine J_loc [4, 5, 0] rfl ?_
    exact wk_X3_needOf_c56 C hr hk y3 y4 x_3 h
  · have h := h.2 c
    refine J_iload C 52 dX3_needOf_50 rfl rfl ?_
    refine J_iconst C 53 dX3_needOf_52 rfl ki_2 ?_
    refine J_imul C 54 dX3_needOf_53 rfl ?_
    obtain ⟨x_4, ex_4⟩ : ∃ z : Int32, z = (x_3 * 2) := ⟨_, rfl⟩
    have h := h x_4 ex_4
    refine J_nmi ex_4 ?_
    refine J_istore C 56 [(6, .int x_4), (0, .ref a0), (1, .int y1), (2, .int y2), (3, .int y3), (4, .int y4), (5, .int y5)] dX3_needOf_54 rfl (by decide) rfl ?_
    refine J_loc [4, 5, 0] rfl ?_
    exact wk_X3_needOf_c56 C hr hk y3 y4 x_4 h
def wp_X3_needOf (v0 : Vl) (x1 : Int32) (x2 : Int32) (x3 : Int32) (x4 : Int32) (Q : Int32 → Prop) : Prop := wp_X8_at 9 (v0.2.2.1 0) x1 (fun r_1 => ((r_1 = 4 → Q 0) ∧ (¬ r_1 = 4 → ((¬ r_1 = 3 → wp_X3_needOf_c29 v0 Q x1 x2 x3 x4 r_1) ∧ (r_1 = 3 → ((¬ x3 = 2 → wp_X3_needOf_c29 v0 Q x1 x2 x3 x4 r_1) ∧ (x3 = 2 → Q 0)))))))
set_option maxHeartbeats 4000000 in
set_option maxRecDepth 100000 in
theorem c_X3_needOf (l : Launch) (D : GG) (cI cJ cZ cS : ClassId) (a0 : Nat) (r0 : Nat → Nat) (v0 : Vl) (x1 : Int32) (x2 : Int32) (x3 : Int32) (x4 : Int32) (Q : Int32 → Prop) (h : wp_X3_needOf v0 x1 x2 x3 x4 Q) : Mi l D (tyL cI cJ cZ cS) yX3_needOf cX3_needOf 7 .int 1 21 [.ref a0, .int x1, .int x2, .int x3, .int x4] (List.flatten [bX3 cI cJ cZ a0 r0 v0]) (fun (r : Int32) (u : Unit) => Q r) (fun (u : Unit) => List.flatten [bX3 cI cJ cZ a0 r0 v0]) := by
  refine Mi_of RX3 [(0, .ref a0), (1, .int x1), (2, .int x2), (3, .int x3), (4, .int x4)] (by decide +kernel) rfl rfl (Nat.le_of_ble_eq_true rfl) ?_
  intro p e s m args below meth c A C hr hk
  refine J_aload_n C 1 dX3_needOf_0 rfl rfl ?_
  refine J_get C 4 3 inlX3 0 0 rfl rfl (by decide) wd63 rfl rfl dX3_needOf_1 rfl ?_
  refine J_iload_n C 5 dX3_needOf_4 rfl rfl ?_
  refine J_call1piSN (As := [.ref (r0 0), .int x1]) C 8 (c_X8_at l D cI cJ cZ cS 9 (r0 0) (v0.2.2.1 0) x1 _ h) wd147 (mi 55 rfl) wd2 wd146 hdX8_at ⟨Nat.le_of_ble_eq_true rfl, Nat.le_of_ble_eq_true rfl⟩ ⟨Nat.zero_le _, Nat.zero_le _⟩ rfl (Nat.le_of_ble_eq_true rfl) 1 rfl (fun _ => rfl) dX3_needOf_5 rfl (fun r_1 u h => ?_)
  refine J_istore C 10 [(5, .int r_1), (0, .ref a0), (1, .int x1), (2, .int x2), (3, .int x3), (4, .int x4)] dX3_needOf_8 rfl (by decide) rfl ?_
  refine J_iload C 12 dX3_needOf_10 rfl rfl ?_
  refine J_iconst C 13 dX3_needOf_12 rfl ki_4 ?_
  refine J_icmp_eq C 16 27 dX3_needOf_13 rfl rfl (fun c => ?_) (fun c => ?_)
  · have h := h.1 c
    refine J_iconst C 28 dX3_needOf_27 rfl ki_0 ?_
    exact J_iret C hr hk () rfl dX3_needOf_28 h
  · have h := h.2 c
    refine J_iload C 18 dX3_needOf_16 rfl rfl ?_
    refine J_iconst C 19 dX3_needOf_18 rfl ki_3 ?_
    refine J_icmp_ne C 22 29 dX3_needOf_19 rfl rfl (fun c => ?_) (fun c => ?_)
    · have h := h.1 c
      refine J_loc [1, 2, 3, 4, 5, 0] rfl ?_
      exact wk_X3_needOf_c29 C hr hk x1 x2 x3 x4 r_1 h
    · have h := h.2 c
      refine J_iload_n C 23 dX3_needOf_22 rfl rfl ?_
      refine J_iconst C 24 dX3_needOf_23 rfl ki_2 ?_
      refine J_icmp_ne C 27 29 dX3_needOf_24 rfl rfl (fun c => ?_) (fun c => ?_)
      · have h := h.1 c
        refine J_loc [1, 2, 3, 4, 5, 0] rfl ?_
        exact wk_X3_needOf_c29 C hr hk x1 x2 x3 x4 r_1 h
      · have h := h.2 c
        refine J_iconst C 28 dX3_needOf_27 rfl ki_0 ?_
        exact J_iret C hr hk () rfl dX3_needOf_28 h
def wp_X3_leakOf (v0 : Vl) (x1 : Int32) (x2 : Int32) (Q : Int32 → Prop) : Prop := wp_X8_at 9 (v0.2.2.1 0) x1 (fun r_1 => ((¬ r_1 = 2 → Q 0) ∧ (r_1 = 2 → ((0 < x2 → Q (if 1 < (x2 / 10) then (x2 / 10) else 1)) ∧ (¬ 0 < x2 → Q 0)))))
set_option maxHeartbeats 4000000 in
set_option maxRecDepth 100000 in
theorem c_X3_leakOf (l : Launch) (D : GG) (cI cJ cZ cS : ClassId) (a0 : Nat) (r0 : Nat → Nat) (v0 : Vl) (x1 : Int32) (x2 : Int32) (Q : Int32 → Prop) (h : wp_X3_leakOf v0 x1 x2 Q) : Mi l D (tyL cI cJ cZ cS) yX3_leakOf cX3_leakOf 3 .int 1 21 [.ref a0, .int x1, .int x2] (List.flatten [bX3 cI cJ cZ a0 r0 v0]) (fun (r : Int32) (u : Unit) => Q r) (fun (u : Unit) => List.flatten [bX3 cI cJ cZ a0 r0 v0]) := by
  refine Mi_of RX3 [(0, .ref a0), (1, .int x1), (2, .int x2)] (by decide +kernel) rfl rfl (Nat.le_of_ble_eq_true rfl) ?_
  intro p e s m args below meth c A C hr hk
  refine J_aload_n C 1 dX3_leakOf_0 rfl rfl ?_
  refine J_get C 4 3 inlX3 0 0 rfl rfl (by decide) wd63 rfl rfl dX3_leakOf_1 rfl ?_
  refine J_iload_n C 5 dX3_leakOf_4 rfl rfl ?_
  refine J_call1piSN (As := [.ref (r0 0), .int x1]) C 8 (c_X8_at l D cI cJ cZ cS 9 (r0 0) (v0.2.2.1 0) x1 _ h) wd147 (mi 55 rfl) wd2 wd146 hdX8_at ⟨Nat.le_of_ble_eq_true rfl, Nat.le_of_ble_eq_true rfl⟩ ⟨Nat.zero_le _, Nat.zero_le _⟩ rfl (Nat.le_of_ble_eq_true rfl) 1 rfl (fun _ => rfl) dX3_leakOf_5 rfl (fun r_1 u h => ?_)
  refine J_iconst C 9 dX3_leakOf_8 rfl ki_2 ?_
  refine J_icmp_ne C 12 16 dX3_leakOf_9 rfl rfl (fun c => ?_) (fun c => ?_)
  · have h := h.1 c
    refine J_iconst C 17 dX3_leakOf_16 rfl ki_0 ?_
    exact J_iret C hr hk () rfl dX3_leakOf_17 h
  · have h := h.2 c
    refine J_iload_n C 13 dX3_leakOf_12 rfl rfl ?_
    refine J_if_gt C 16 18 dX3_leakOf_13 rfl rfl (fun c => ?_) (fun c => ?_)
    · have h := h.1 c
      refine J_iconst C 19 dX3_leakOf_18 rfl ki_1 ?_
      refine J_iload_n C 20 dX3_leakOf_19 rfl rfl ?_
      refine J_bipush C 22 dX3_leakOf_20 rfl kb_10 ?_
      refine J_idiv C 23 dX3_leakOf_22 rfl (by decide) ?_
      refine J_mmax C 26 wd664 wd99 wd100 wd101 (Nat.le_of_ble_eq_true rfl) (Nat.le_of_ble_eq_true rfl) ⟨Nat.zero_le _, Nat.zero_le _⟩ dX3_leakOf_23 rfl ?_
      exact J_iret C hr hk () rfl dX3_leakOf_26 h
    · have h := h.2 c
      refine J_iconst C 17 dX3_leakOf_16 rfl ki_0 ?_
      exact J_iret C hr hk () rfl dX3_leakOf_17 h
def wp_X3_setUntold_c81  (Q : Vl → Prop) (B52 : Vl → Int32 → Prop) (v0 : Vl) (y1 : Int32) (s0 : Int32) (s1 : Int32) : Prop := vp_in s1 9 ∧ (∀ v0s_11 : Vl, v0s_11 = setA v0 6 (Int32.toNatClampNeg s1) s0 → ∀ x_12 : Int32, x_12 = y1 + 1 → B52 v0s_11 x_12)
set_option maxHeartbeats 4000000 in
set_option maxRecDepth 100000 in
theorem wk_X3_setUntold_c81 {p : Program} {l : Launch} {e : Env} {s : State} {m : MethodId} {args : Array Value} {below : List Frame} {meth : Method} {c : Code} {D : GG} {A : Nat → Prop} {cI cJ cZ cS : ClassId} {a0 : Nat} {r0 : Nat → Nat}  {B52 : Vl → Int32 → Prop} {Q : Vl → Prop} (C : Cx p s m args c D (tyL cI cJ cZ cS) A RX3 cX3_setUntold 2) (hr : meth.sig.returnType = none) (hk : meth.locks = false) (hB52 : ∀ (v0 : Vl) (y1 : Int32), B52 v0 y1 → J p l e (rmk 1 22) s m args below meth c D A 2 0 0 (MQ below (va_Qv (fun (u : Vl) => Q u) (fun u t => va_P D.1 vwCl ((fun (u : Vl) => List.flatten [bX3 cI cJ cZ a0 r0 u]) u) t.heap ∧ va_D A ((fun (u : Vl) => List.flatten [bX3 cI cJ cZ a0 r0 u]) u)) A) args s 0 0 A) 52 [(0, .ref a0), (1, .int y1)] [] (List.flatten [bX3 cI cJ cZ a0 r0 v0])) : ∀ (v0 : Vl) (y1 : Int32) (s0 : Int32) (s1 : Int32), wp_X3_setUntold_c81  Q B52 v0 y1 s0 s1 → J p l e (rmk 1 22) s m args below meth c D A 2 0 0 (MQ below (va_Qv (fun (u : Vl) => Q u) (fun u t => va_P D.1 vwCl ((fun (u : Vl) => List.flatten [bX3 cI cJ cZ a0 r0 u]) u) t.heap ∧ va_D A ((fun (u : Vl) => List.flatten [bX3 cI cJ cZ a0 r0 u]) u)) A) args s 0 0 A) 81 [(0, .ref a0), (1, .int y1)] [.int s0, .int s1, .ref (r0 6)] (List.flatten [bX3 cI cJ cZ a0 r0 v0]) := by
  intro v0 y1 s0 s1 h
  obtain ⟨hi, h⟩ := h
  obtain ⟨v0s_11, ev0s_11⟩ : ∃ z : Vl, z = setA v0 6 (Int32.toNatClampNeg s1) s0 := ⟨_, rfl⟩
  have h := h v0s_11 ev0s_11
  refine J_iast C 82 7 0 rfl rfl hi (List.flatten [bX3 cI cJ cZ a0 r0 v0s_11]) (by subst ev0s_11; rfl) dX3_setUntold_81 rfl ?_
  obtain ⟨x_12, ex_12⟩ : ∃ z : Int32, z = y1 + 1 := ⟨_, rfl⟩
  have h := h x_12 ex_12
  refine J_iinc C 85 [(1, .int x_12), (0, .ref a0)] dX3_setUntold_82 rfl rfl ((kinc_1 _).trans ex_12.symm) (by decide) rfl ?_
  refine J_goto C 52 dX3_setUntold_85 rfl ?_
  refine J_loc [1, 0] rfl ?_
  exact hB52 v0s_11 x_12 h
def wp_X3_setUntold_c52  (Q : Vl → Prop) : Nat → Vl → Int32 → Prop
  | 0 => fun _ _ => False
  | n + 1 => fun v0 y1 => ((9 ≤ y1 → ∀ v0s_10 : Vl, v0s_10 = setI v0 14 0 → Q v0s_10) ∧ (¬ 9 ≤ y1 → ((¬ (y1 / 3) = (y1 - y1 / 3 * 3) → wp_X3_setUntold_c81  Q (wp_X3_setUntold_c52  Q n) v0 y1 0 y1) ∧ ((y1 / 3) = (y1 - y1 / 3 * 3) → wp_X3_setUntold_c81  Q (wp_X3_setUntold_c52  Q n) v0 y1 100 y1))))
set_option maxHeartbeats 4000000 in
set_option maxRecDepth 100000 in
theorem wk_X3_setUntold_c52 {p : Program} {l : Launch} {e : Env} {s : State} {m : MethodId} {args : Array Value} {below : List Frame} {meth : Method} {c : Code} {D : GG} {A : Nat → Prop} {cI cJ cZ cS : ClassId} {a0 : Nat} {r0 : Nat → Nat}  {Q : Vl → Prop} (C : Cx p s m args c D (tyL cI cJ cZ cS) A RX3 cX3_setUntold 2) (hr : meth.sig.returnType = none) (hk : meth.locks = false) : ∀ (n : Nat) (v0 : Vl) (y1 : Int32), wp_X3_setUntold_c52  Q n v0 y1 → J p l e (rmk 1 22) s m args below meth c D A 2 0 0 (MQ below (va_Qv (fun (u : Vl) => Q u) (fun u t => va_P D.1 vwCl ((fun (u : Vl) => List.flatten [bX3 cI cJ cZ a0 r0 u]) u) t.heap ∧ va_D A ((fun (u : Vl) => List.flatten [bX3 cI cJ cZ a0 r0 u]) u)) A) args s 0 0 A) 52 [(0, .ref a0), (1, .int y1)] [] (List.flatten [bX3 cI cJ cZ a0 r0 v0]) := by
  intro n
  induction n with
  | zero =>
    intro v0 y1 h
    exact False.elim h
  | succ n ih =>
    intro v0 y1 h
    refine J_iload_n C 53 dX3_setUntold_52 rfl rfl ?_
    refine J_aload_n C 54 dX3_setUntold_53 rfl rfl ?_
    refine J_get C 57 3 inlX3 0 6 rfl rfl (by decide) wd69 rfl rfl dX3_setUntold_54 rfl ?_
    refine J_alen C 58 7 0 rfl rfl kn_9 dX3_setUntold_57 rfl ?_
    refine J_icmp_ge C 61 88 dX3_setUntold_58 rfl rfl (fun c => ?_) (fun c => ?_)
    · have h := h.1 c
      refine J_aload_n C 89 dX3_setUntold_88 rfl rfl ?_
      refine J_iconst C 90 dX3_setUntold_89 rfl ki_0 ?_
      obtain ⟨v0s_10, ev0s_10⟩ : ∃ z : Vl, z = setI v0 14 0 := ⟨_, rfl⟩
      have h := h v0s_10 ev0s_10
      refine J_put C 93 3 inlX3 tyX3 tyX3_ok nmX3 0 14 rfl rfl (by decide) wd81 rfl rfl rfl rfl rfl (List.flatten [bX3 cI cJ cZ a0 r0 v0s_10]) (by subst ev0s_10; rfl) dX3_setUntold_90 rfl ?_
      exact J_vret C hr hk v0s_10 rfl dX3_setUntold_93 h
    · have h := h.2 c
      refine J_aload_n C 62 dX3_setUntold_61 rfl rfl ?_
      refine J_get C 65 3 inlX3 0 6 rfl rfl (by decide) wd69 rfl rfl dX3_setUntold_62 rfl ?_
      refine J_iload_n C 66 dX3_setUntold_65 rfl rfl ?_
      refine J_iload_n C 67 dX3_setUntold_66 rfl rfl ?_
      refine J_iconst C 68 dX3_setUntold_67 rfl ki_3 ?_
      refine J_idiv C 69 dX3_setUntold_68 rfl (by decide) ?_
      refine J_iload_n C 70 dX3_setUntold_69 rfl rfl ?_
      refine J_iconst C 71 dX3_setUntold_70 rfl ki_3 ?_
      refine J_irem C 72 dX3_setUntold_71 rfl (by decide) ?_
      refine J_icmp_ne C 75 80 dX3_setUntold_72 rfl rfl (fun c => ?_) (fun c => ?_)
      · have h := h.1 c
        refine J_iconst C 81 dX3_setUntold_80 rfl ki_0 ?_
        refine J_loc [0, 1] rfl ?_
        exact wk_X3_setUntold_c81 C hr hk ih v0 y1 0 y1 h
      · have h := h.2 c
        refine J_bipush C 77 dX3_setUntold_75 rfl kb_100 ?_
        refine J_goto C 81 dX3_setUntold_77 rfl ?_
        refine J_loc [0, 1] rfl ?_
        exact wk_X3_setUntold_c81 C hr hk ih v0 y1 100 y1 h
def wp_X3_setUntold (v0 : Vl)  (Q : Vl → Prop) : Prop := ∀ v0s_1 : Vl, v0s_1 = setI v0 7 0 → ∀ v0s_2 : Vl, v0s_2 = setI v0s_1 8 20 → ∀ v0s_3 : Vl, v0s_3 = setI v0s_2 9 50 → ∀ v0s_4 : Vl, v0s_4 = setI v0s_3 10 500 → ∀ v0s_5 : Vl, v0s_5 = setI v0s_4 11 0 → ∀ v0s_6 : Vl, v0s_6 = setI v0s_5 12 10 → ∀ v0s_7 : Vl, v0s_7 = setI v0s_6 13 1 → wp_X8_put 12 (v0s_7.2.2.1 5) 0 12 (fun u_8 => ∀ v0s_9 : Vl, v0s_9 = setRA v0s_7 5 u_8 → (∃ k : Nat, wp_X3_setUntold_c52  Q k v0s_9 0))
set_option maxHeartbeats 4000000 in
set_option maxRecDepth 100000 in
theorem c_X3_setUntold (l : Launch) (D : GG) (cI cJ cZ cS : ClassId) (a0 : Nat) (r0 : Nat → Nat) (v0 : Vl)  (Q : Vl → Prop) (h : wp_X3_setUntold v0 Q) : Mv l D (tyL cI cJ cZ cS) yX3_setUntold cX3_setUntold 2 1 22 [.ref a0] (List.flatten [bX3 cI cJ cZ a0 r0 v0]) (fun (u : Vl) => Q u) (fun (u : Vl) => List.flatten [bX3 cI cJ cZ a0 r0 u]) := by
  refine Mv_of RX3 [(0, .ref a0)] (by decide +kernel) rfl rfl (Nat.le_of_ble_eq_true rfl) ?_
  intro p e s m args below meth c A C hr hk
  refine J_aload_n C 1 dX3_setUntold_0 rfl rfl ?_
  refine J_iconst C 2 dX3_setUntold_1 rfl ki_0 ?_
  obtain ⟨v0s_1, ev0s_1⟩ : ∃ z : Vl, z = setI v0 7 0 := ⟨_, rfl⟩
  have h := h v0s_1 ev0s_1
  refine J_put C 5 3 inlX3 tyX3 tyX3_ok nmX3 0 7 rfl rfl (by decide) wd74 rfl rfl rfl rfl rfl (List.flatten [bX3 cI cJ cZ a0 r0 v0s_1]) (by subst ev0s_1; rfl) dX3_setUntold_2 rfl ?_
  refine J_aload_n C 6 dX3_setUntold_5 rfl rfl ?_
  refine J_bipush C 8 dX3_setUntold_6 rfl kb_20 ?_
  obtain ⟨v0s_2, ev0s_2⟩ : ∃ z : Vl, z = setI v0s_1 8 20 := ⟨_, rfl⟩
  have h := h v0s_2 ev0s_2
  refine J_put C 11 3 inlX3 tyX3 tyX3_ok nmX3 0 8 rfl rfl (by decide) wd75 rfl rfl rfl rfl rfl (List.flatten [bX3 cI cJ cZ a0 r0 v0s_2]) (by subst ev0s_2; rfl) dX3_setUntold_8 rfl ?_
  refine J_aload_n C 12 dX3_setUntold_11 rfl rfl ?_
  refine J_bipush C 14 dX3_setUntold_12 rfl kb_50 ?_
  obtain ⟨v0s_3, ev0s_3⟩ : ∃ z : Vl, z = setI v0s_2 9 50 := ⟨_, rfl⟩
  have h := h v0s_3 ev0s_3
  refine J_put C 17 3 inlX3 tyX3 tyX3_ok nmX3 0 9 rfl rfl (by decide) wd76 rfl rfl rfl rfl rfl (List.flatten [bX3 cI cJ cZ a0 r0 v0s_3]) (by subst ev0s_3; rfl) dX3_setUntold_14 rfl ?_
  refine J_aload_n C 18 dX3_setUntold_17 rfl rfl ?_
  refine J_sipush C 21 dX3_setUntold_18 rfl ks_500 ?_
  obtain ⟨v0s_4, ev0s_4⟩ : ∃ z : Vl, z = setI v0s_3 10 500 := ⟨_, rfl⟩
  have h := h v0s_4 ev0s_4
  refine J_put C 24 3 inlX3 tyX3 tyX3_ok nmX3 0 10 rfl rfl (by decide) wd77 rfl rfl rfl rfl rfl (List.flatten [bX3 cI cJ cZ a0 r0 v0s_4]) (by subst ev0s_4; rfl) dX3_setUntold_21 rfl ?_
  refine J_aload_n C 25 dX3_setUntold_24 rfl rfl ?_
  refine J_iconst C 26 dX3_setUntold_25 rfl ki_0 ?_
  obtain ⟨v0s_5, ev0s_5⟩ : ∃ z : Vl, z = setI v0s_4 11 0 := ⟨_, rfl⟩
  have h := h v0s_5 ev0s_5
  refine J_put C 29 3 inlX3 tyX3 tyX3_ok nmX3 0 11 rfl rfl (by decide) wd78 rfl rfl rfl rfl rfl (List.flatten [bX3 cI cJ cZ a0 r0 v0s_5]) (by subst ev0s_5; rfl) dX3_setUntold_26 rfl ?_
  refine J_aload_n C 30 dX3_setUntold_29 rfl rfl ?_
  refine J_bipush C 32 dX3_setUntold_30 rfl kb_10 ?_
  obtain ⟨v0s_6, ev0s_6⟩ : ∃ z : Vl, z = setI v0s_5 12 10 := ⟨_, rfl⟩
  have h := h v0s_6 ev0s_6
  refine J_put C 35 3 inlX3 tyX3 tyX3_ok nmX3 0 12 rfl rfl (by decide) wd79 rfl rfl rfl rfl rfl (List.flatten [bX3 cI cJ cZ a0 r0 v0s_6]) (by subst ev0s_6; rfl) dX3_setUntold_32 rfl ?_
  refine J_aload_n C 36 dX3_setUntold_35 rfl rfl ?_
  refine J_iconst C 37 dX3_setUntold_36 rfl ki_1 ?_
  obtain ⟨v0s_7, ev0s_7⟩ : ∃ z : Vl, z = setI v0s_6 13 1 := ⟨_, rfl⟩
  have h := h v0s_7 ev0s_7
  refine J_put C 40 3 inlX3 tyX3 tyX3_ok nmX3 0 13 rfl rfl (by decide) wd80 rfl rfl rfl rfl rfl (List.flatten [bX3 cI cJ cZ a0 r0 v0s_7]) (by subst ev0s_7; rfl) dX3_setUntold_37 rfl ?_
  refine J_aload_n C 41 dX3_setUntold_40 rfl rfl ?_
  refine J_get C 44 3 inlX3 0 5 rfl rfl (by decide) wd68 rfl rfl dX3_setUntold_41 rfl ?_
  refine J_iconst C 45 dX3_setUntold_44 rfl ki_0 ?_
  refine J_bipush C 47 dX3_setUntold_45 rfl kb_12 ?_
  refine J_call1vSN (As := [.ref (r0 5), .int 0, .int 12]) C 50 (c_X8_put l D cI cJ cZ cS 12 (r0 5) (v0s_7.2.2.1 5) 0 12 _ h) wd83 (mi 56 rfl) wd2 wd82 hdX8_put ⟨Nat.le_of_ble_eq_true rfl, Nat.le_of_ble_eq_true rfl⟩ ⟨Nat.zero_le _, Nat.zero_le _⟩ rfl (Nat.le_of_ble_eq_true rfl) 6 rfl (fun u => .inl (cI, 12, .inl u)) (fun _ => rfl) (fun (u : (Nat → Int32)) => List.flatten [bX3 cI cJ cZ a0 r0 (setRA v0s_7 5 u)]) (fun _ => rfl) dX3_setUntold_47 rfl (fun u h => ?_)
  obtain ⟨u_8, hu⟩ : ∃ z, z = u := ⟨_, rfl⟩
  subst hu
  obtain ⟨v0s_9, ev0s_9⟩ : ∃ z : Vl, z = setRA v0s_7 5 u_8 := ⟨_, rfl⟩
  have h := h v0s_9 ev0s_9
  refine J_ws (ws' := List.flatten [bX3 cI cJ cZ a0 r0 v0s_9]) (by subst ev0s_9; rfl) ?_
  refine J_iconst C 51 dX3_setUntold_50 rfl ki_0 ?_
  refine J_istore_n C 52 [(1, .int 0), (0, .ref a0)] dX3_setUntold_51 rfl (by decide) rfl ?_
  refine J_loc [1, 0] rfl ?_
  obtain ⟨n1, h⟩ := h
  exact wk_X3_setUntold_c52 C hr hk n1 v0s_9 0 h
def wp_X3_isFirst (v0 : Vl) (v1 : Vl) (x2 : Int32) (Q : Int32 → Vl → Vl → Prop) : Prop := ((((v0.1 14) &&& x2) = 0 → ∀ v0s_1 : Vl, v0s_1 = setI v0 14 ((v0.1 14) ||| x2) → Q 1 v0s_1 v1) ∧ (¬ ((v0.1 14) &&& x2) = 0 → wp_X7_fail v1 3 (v1.1 3) (fun r_3 u_2 => narrow .boolean (.int r_3) = .int r_3 ∧ Q r_3 v0 u_2)))
set_option maxHeartbeats 4000000 in
set_option maxRecDepth 100000 in
theorem c_X3_isFirst (l : Launch) (D : GG) (cI cJ cZ cS : ClassId) (a0 : Nat) (r0 : Nat → Nat) (v0 : Vl) (a1 : Nat) (r1 : Nat → Nat) (v1 : Vl) (x2 : Int32) (Q : Int32 → Vl → Vl → Prop) (h : wp_X3_isFirst v0 v1 x2 Q) : Mi l D (tyL cI cJ cZ cS) yX3_isFirst cX3_isFirst 3 .boolean 1 22 [.ref a0, .ref a1, .int x2] (List.flatten [bX3 cI cJ cZ a0 r0 v0, bX7 cI cJ cZ a1 r1 v1]) (fun (r : Int32) (u : Vl × Vl) => Q r u.1 u.2) (fun (u : Vl × Vl) => List.flatten [bX3 cI cJ cZ a0 r0 u.1, bX7 cI cJ cZ a1 r1 u.2]) := by
  refine Mi_of RX3 [(0, .ref a0), (1, .ref a1), (2, .int x2)] (by decide +kernel) rfl rfl (Nat.le_of_ble_eq_true rfl) ?_
  intro p e s m args below meth c A C hr hk
  refine J_aload_n C 1 dX3_isFirst_0 rfl rfl ?_
  refine J_get C 4 3 inlX3 0 14 rfl rfl (by decide) wd81 rfl rfl dX3_isFirst_1 rfl ?_
  refine J_iload_n C 5 dX3_isFirst_4 rfl rfl ?_
  refine J_iand C 6 dX3_isFirst_5 rfl ?_
  refine J_if_eq C 9 19 dX3_isFirst_6 rfl rfl (fun c => ?_) (fun c => ?_)
  · have h := h.1 c
    refine J_aload_n C 20 dX3_isFirst_19 rfl rfl ?_
    refine J_dup C 21 dX3_isFirst_20 rfl rfl ?_
    refine J_get C 24 3 inlX3 0 14 rfl rfl (by decide) wd81 rfl rfl dX3_isFirst_21 rfl ?_
    refine J_iload_n C 25 dX3_isFirst_24 rfl rfl ?_
    refine J_ior C 26 dX3_isFirst_25 rfl ?_
    obtain ⟨v0s_1, ev0s_1⟩ : ∃ z : Vl, z = setI v0 14 ((v0.1 14) ||| x2) := ⟨_, rfl⟩
    have h := h v0s_1 ev0s_1
    refine J_put C 29 3 inlX3 tyX3 tyX3_ok nmX3 0 14 rfl rfl (by decide) wd81 rfl rfl rfl rfl rfl (List.flatten [bX3 cI cJ cZ a0 r0 v0s_1, bX7 cI cJ cZ a1 r1 v1]) (by subst ev0s_1; rfl) dX3_isFirst_26 rfl ?_
    refine J_iconst C 30 dX3_isFirst_29 rfl ki_1 ?_
    exact J_zret C hr hk rfl (v0s_1, v1) rfl dX3_isFirst_30 h
  · have h := h.2 c
    refine J_aload_n C 10 dX3_isFirst_9 rfl rfl ?_
    refine J_iconst C 11 dX3_isFirst_10 rfl ki_3 ?_
    refine J_aload_n C 12 dX3_isFirst_11 rfl rfl ?_
    refine J_getN C 15 7 inlX7 8 3 rfl rfl (by decide) (mi 32 rfl) rfl rfl dX3_isFirst_12 rfl ?_
    refine J_callBiV (Bs := [bX3 cI cJ cZ a0 r0 v0, bX7 cI cJ cZ a1 r1 v1]) (As := [.int 3, .int (v1.1 3)]) C 18 (c_X7_fail l D cI cJ cZ cS a1 r1 v1 3 (v1.1 3) _ h) wd267 wd325 wd15 wd265 wd266 7 0 rfl rfl rfl hdX7_fail ⟨Nat.le_of_ble_eq_true rfl, Nat.le_of_ble_eq_true rfl⟩ ⟨Nat.zero_le _, Nat.zero_le _⟩ rfl (Nat.le_of_ble_eq_true rfl) [1] [0] 2 rfl (by decide +kernel) rfl rfl (fun (u : Vl) => [bX7 cI cJ cZ a1 r1 u]) (fun _ => rfl) [1, 0] (by decide +kernel) (fun _ => rfl) rfl (fun (u : Vl) => [bX3 cI cJ cZ a0 r0 v0, bX7 cI cJ cZ a1 r1 u]) (fun _ => rfl) dX3_isFirst_15 rfl (fun r_3 u h => ?_)
    obtain ⟨u_2, hu⟩ : ∃ z, z = u := ⟨_, rfl⟩
    subst hu
    obtain ⟨hz, h⟩ := h
    exact J_zret C hr hk hz (v0, u_2) rfl dX3_isFirst_18 h
def wp_X3_readBoat (v0 : Vl) (v1 : Vl)  (Q : Int32 → Vl → Vl → Prop) : Prop := wp_X7_readNumber v1 1 99 (fun r_2 u_1 => ((¬ r_2 = 0 → ∀ v0s_3 : Vl, v0s_3 = setI v0 8 (u_1.1 4) → wp_X7_readNumber u_1 1 999 (fun r_5 u_4 => ((¬ r_5 = 0 → ∀ v0s_6 : Vl, v0s_6 = setI v0s_3 9 (u_4.1 4) → Q 1 v0s_6 u_4) ∧ (r_5 = 0 → Q 0 v0s_3 u_4)))) ∧ (r_2 = 0 → Q 0 v0 u_1)))
set_option maxHeartbeats 4000000 in
set_option maxRecDepth 100000 in
theorem c_X3_readBoat (l : Launch) (D : GG) (cI cJ cZ cS : ClassId) (a0 : Nat) (r0 : Nat → Nat) (v0 : Vl) (a1 : Nat) (r1 : Nat → Nat) (v1 : Vl)  (Q : Int32 → Vl → Vl → Prop) (h : wp_X3_readBoat v0 v1 Q) : Mi l D (tyL cI cJ cZ cS) yX3_readBoat cX3_readBoat 2 .boolean 3 65 [.ref a0, .ref a1] (List.flatten [bX3 cI cJ cZ a0 r0 v0, bX7 cI cJ cZ a1 r1 v1]) (fun (r : Int32) (u : Vl × Vl) => Q r u.1 u.2) (fun (u : Vl × Vl) => List.flatten [bX3 cI cJ cZ a0 r0 u.1, bX7 cI cJ cZ a1 r1 u.2]) := by
  refine Mi_of RX3 [(0, .ref a0), (1, .ref a1)] (by decide +kernel) rfl rfl (Nat.le_of_ble_eq_true rfl) ?_
  intro p e s m args below meth c A C hr hk
  refine J_aload_n C 1 dX3_readBoat_0 rfl rfl ?_
  refine J_iconst C 2 dX3_readBoat_1 rfl ki_1 ?_
  refine J_bipush C 4 dX3_readBoat_2 rfl kb_99 ?_
  refine J_callBiV (Bs := [bX3 cI cJ cZ a0 r0 v0, bX7 cI cJ cZ a1 r1 v1]) (As := [.int 1, .int 99]) C 7 (c_X7_readNumber l D cI cJ cZ cS a1 r1 v1 1 99 _ h) wd334 wd331 wd15 wd332 wd333 7 0 rfl rfl rfl hdX7_readNumber ⟨Nat.le_of_ble_eq_true rfl, Nat.le_of_ble_eq_true rfl⟩ ⟨Nat.zero_le _, Nat.zero_le _⟩ rfl (Nat.le_of_ble_eq_true rfl) [1] [0] 2 rfl (by decide +kernel) rfl rfl (fun (u : Vl) => [bX7 cI cJ cZ a1 r1 u]) (fun _ => rfl) [1, 0] (by decide +kernel) (fun _ => rfl) rfl (fun (u : Vl) => [bX3 cI cJ cZ a0 r0 v0, bX7 cI cJ cZ a1 r1 u]) (fun _ => rfl) dX3_readBoat_4 rfl (fun r_2 u h => ?_)
  obtain ⟨u_1, hu⟩ : ∃ z, z = u := ⟨_, rfl⟩
  subst hu
  refine J_if_ne C 10 12 dX3_readBoat_7 rfl rfl (fun c => ?_) (fun c => ?_)
  · have h := h.1 c
    refine J_aload_n C 13 dX3_readBoat_12 rfl rfl ?_
    refine J_aload_n C 14 dX3_readBoat_13 rfl rfl ?_
    refine J_getN C 17 7 inlX7 8 4 rfl rfl (by decide) (mi 33 rfl) rfl rfl dX3_readBoat_14 rfl ?_
    obtain ⟨v0s_3, ev0s_3⟩ : ∃ z : Vl, z = setI v0 8 (u_1.1 4) := ⟨_, rfl⟩
    have h := h v0s_3 ev0s_3
    refine J_put C 20 3 inlX3 tyX3 tyX3_ok nmX3 0 8 rfl rfl (by decide) wd75 rfl rfl rfl rfl rfl (List.flatten [bX3 cI cJ cZ a0 r0 v0s_3, bX7 cI cJ cZ a1 r1 u_1]) (by subst ev0s_3; rfl) dX3_readBoat_17 rfl ?_
    refine J_aload_n C 21 dX3_readBoat_20 rfl rfl ?_
    refine J_iconst C 22 dX3_readBoat_21 rfl ki_1 ?_
    refine J_sipush C 25 dX3_readBoat_22 rfl ks_999 ?_
    refine J_callBiV (Bs := [bX3 cI cJ cZ a0 r0 v0s_3, bX7 cI cJ cZ a1 r1 u_1]) (As := [.int 1, .int 999]) C 28 (c_X7_readNumber l D cI cJ cZ cS a1 r1 u_1 1 999 _ h) wd334 wd331 wd15 wd332 wd333 7 0 rfl rfl rfl hdX7_readNumber ⟨Nat.le_of_ble_eq_true rfl, Nat.le_of_ble_eq_true rfl⟩ ⟨Nat.zero_le _, Nat.zero_le _⟩ rfl (Nat.le_of_ble_eq_true rfl) [1] [0] 2 rfl (by decide +kernel) rfl rfl (fun (u : Vl) => [bX7 cI cJ cZ a1 r1 u]) (fun _ => rfl) [1, 0] (by decide +kernel) (fun _ => rfl) rfl (fun (u : Vl) => [bX3 cI cJ cZ a0 r0 v0s_3, bX7 cI cJ cZ a1 r1 u]) (fun _ => rfl) dX3_readBoat_25 rfl (fun r_5 u h => ?_)
    obtain ⟨u_4, hu⟩ : ∃ z, z = u := ⟨_, rfl⟩
    subst hu
    refine J_if_ne C 31 33 dX3_readBoat_28 rfl rfl (fun c => ?_) (fun c => ?_)
    · have h := h.1 c
      refine J_aload_n C 34 dX3_readBoat_33 rfl rfl ?_
      refine J_aload_n C 35 dX3_readBoat_34 rfl rfl ?_
      refine J_getN C 38 7 inlX7 8 4 rfl rfl (by decide) (mi 33 rfl) rfl rfl dX3_readBoat_35 rfl ?_
      obtain ⟨v0s_6, ev0s_6⟩ : ∃ z : Vl, z = setI v0s_3 9 (u_4.1 4) := ⟨_, rfl⟩
      have h := h v0s_6 ev0s_6
      refine J_put C 41 3 inlX3 tyX3 tyX3_ok nmX3 0 9 rfl rfl (by decide) wd76 rfl rfl rfl rfl rfl (List.flatten [bX3 cI cJ cZ a0 r0 v0s_6, bX7 cI cJ cZ a1 r1 u_4]) (by subst ev0s_6; rfl) dX3_readBoat_38 rfl ?_
      refine J_iconst C 42 dX3_readBoat_41 rfl ki_1 ?_
      exact J_zret C hr hk rfl (v0s_6, u_4) rfl dX3_readBoat_42 h
    · have h := h.2 c
      refine J_iconst C 32 dX3_readBoat_31 rfl ki_0 ?_
      exact J_zret C hr hk rfl (v0s_3, u_4) rfl dX3_readBoat_32 h
  · have h := h.2 c
    refine J_iconst C 11 dX3_readBoat_10 rfl ki_0 ?_
    exact J_zret C hr hk rfl (v0, u_1) rfl dX3_readBoat_11 h
def wp_X3_readBarrel (v0 : Vl) (v1 : Vl)  (Q : Int32 → Vl → Vl → Prop) : Prop := wp_X7_readNumber v1 0 9999 (fun r_2 u_1 => ((¬ r_2 = 0 → ∀ v0s_3 : Vl, v0s_3 = setI v0 10 (u_1.1 4) → Q 1 v0s_3 u_1) ∧ (r_2 = 0 → Q 0 v0 u_1)))
set_option maxHeartbeats 4000000 in
set_option maxRecDepth 100000 in
theorem c_X3_readBarrel (l : Launch) (D : GG) (cI cJ cZ cS : ClassId) (a0 : Nat) (r0 : Nat → Nat) (v0 : Vl) (a1 : Nat) (r1 : Nat → Nat) (v1 : Vl)  (Q : Int32 → Vl → Vl → Prop) (h : wp_X3_readBarrel v0 v1 Q) : Mi l D (tyL cI cJ cZ cS) yX3_readBarrel cX3_readBarrel 2 .boolean 3 65 [.ref a0, .ref a1] (List.flatten [bX3 cI cJ cZ a0 r0 v0, bX7 cI cJ cZ a1 r1 v1]) (fun (r : Int32) (u : Vl × Vl) => Q r u.1 u.2) (fun (u : Vl × Vl) => List.flatten [bX3 cI cJ cZ a0 r0 u.1, bX7 cI cJ cZ a1 r1 u.2]) := by
  refine Mi_of RX3 [(0, .ref a0), (1, .ref a1)] (by decide +kernel) rfl rfl (Nat.le_of_ble_eq_true rfl) ?_
  intro p e s m args below meth c A C hr hk
  refine J_aload_n C 1 dX3_readBarrel_0 rfl rfl ?_
  refine J_iconst C 2 dX3_readBarrel_1 rfl ki_0 ?_
  refine J_sipush C 5 dX3_readBarrel_2 rfl ks_9999 ?_
  refine J_callBiV (Bs := [bX3 cI cJ cZ a0 r0 v0, bX7 cI cJ cZ a1 r1 v1]) (As := [.int 0, .int 9999]) C 8 (c_X7_readNumber l D cI cJ cZ cS a1 r1 v1 0 9999 _ h) wd334 wd331 wd15 wd332 wd333 7 0 rfl rfl rfl hdX7_readNumber ⟨Nat.le_of_ble_eq_true rfl, Nat.le_of_ble_eq_true rfl⟩ ⟨Nat.zero_le _, Nat.zero_le _⟩ rfl (Nat.le_of_ble_eq_true rfl) [1] [0] 2 rfl (by decide +kernel) rfl rfl (fun (u : Vl) => [bX7 cI cJ cZ a1 r1 u]) (fun _ => rfl) [1, 0] (by decide +kernel) (fun _ => rfl) rfl (fun (u : Vl) => [bX3 cI cJ cZ a0 r0 v0, bX7 cI cJ cZ a1 r1 u]) (fun _ => rfl) dX3_readBarrel_5 rfl (fun r_2 u h => ?_)
  obtain ⟨u_1, hu⟩ : ∃ z, z = u := ⟨_, rfl⟩
  subst hu
  refine J_if_ne C 11 13 dX3_readBarrel_8 rfl rfl (fun c => ?_) (fun c => ?_)
  · have h := h.1 c
    refine J_aload_n C 14 dX3_readBarrel_13 rfl rfl ?_
    refine J_aload_n C 15 dX3_readBarrel_14 rfl rfl ?_
    refine J_getN C 18 7 inlX7 8 4 rfl rfl (by decide) (mi 33 rfl) rfl rfl dX3_readBarrel_15 rfl ?_
    obtain ⟨v0s_3, ev0s_3⟩ : ∃ z : Vl, z = setI v0 10 (u_1.1 4) := ⟨_, rfl⟩
    have h := h v0s_3 ev0s_3
    refine J_put C 21 3 inlX3 tyX3 tyX3_ok nmX3 0 10 rfl rfl (by decide) wd77 rfl rfl rfl rfl rfl (List.flatten [bX3 cI cJ cZ a0 r0 v0s_3, bX7 cI cJ cZ a1 r1 u_1]) (by subst ev0s_3; rfl) dX3_readBarrel_18 rfl ?_
    refine J_iconst C 22 dX3_readBarrel_21 rfl ki_1 ?_
    exact J_zret C hr hk rfl (v0s_3, u_1) rfl dX3_readBarrel_22 h
  · have h := h.2 c
    refine J_iconst C 12 dX3_readBarrel_11 rfl ki_0 ?_
    exact J_zret C hr hk rfl (v0, u_1) rfl dX3_readBarrel_12 h
def wp_X3_readHens (v0 : Vl) (v1 : Vl)  (Q : Int32 → Vl → Vl → Prop) : Prop := wp_X7_readNumber v1 0 99 (fun r_2 u_1 => ((¬ r_2 = 0 → ∀ v0s_3 : Vl, v0s_3 = setI v0 11 (u_1.1 4) → wp_X7_readNumber u_1 1 99 (fun r_5 u_4 => ((¬ r_5 = 0 → ∀ v0s_6 : Vl, v0s_6 = setI v0s_3 12 (u_4.1 4) → Q 1 v0s_6 u_4) ∧ (r_5 = 0 → Q 0 v0s_3 u_4)))) ∧ (r_2 = 0 → Q 0 v0 u_1)))
set_option maxHeartbeats 4000000 in
set_option maxRecDepth 100000 in
theorem c_X3_readHens (l : Launch) (D : GG) (cI cJ cZ cS : ClassId) (a0 : Nat) (r0 : Nat → Nat) (v0 : Vl) (a1 : Nat) (r1 : Nat → Nat) (v1 : Vl)  (Q : Int32 → Vl → Vl → Prop) (h : wp_X3_readHens v0 v1 Q) : Mi l D (tyL cI cJ cZ cS) yX3_readHens cX3_readHens 2 .boolean 3 65 [.ref a0, .ref a1] (List.flatten [bX3 cI cJ cZ a0 r0 v0, bX7 cI cJ cZ a1 r1 v1]) (fun (r : Int32) (u : Vl × Vl) => Q r u.1 u.2) (fun (u : Vl × Vl) => List.flatten [bX3 cI cJ cZ a0 r0 u.1, bX7 cI cJ cZ a1 r1 u.2]) := by
  refine Mi_of RX3 [(0, .ref a0), (1, .ref a1)] (by decide +kernel) rfl rfl (Nat.le_of_ble_eq_true rfl) ?_
  intro p e s m args below meth c A C hr hk
  refine J_aload_n C 1 dX3_readHens_0 rfl rfl ?_
  refine J_iconst C 2 dX3_readHens_1 rfl ki_0 ?_
  refine J_bipush C 4 dX3_readHens_2 rfl kb_99 ?_
  refine J_callBiV (Bs := [bX3 cI cJ cZ a0 r0 v0, bX7 cI cJ cZ a1 r1 v1]) (As := [.int 0, .int 99]) C 7 (c_X7_readNumber l D cI cJ cZ cS a1 r1 v1 0 99 _ h) wd334 wd331 wd15 wd332 wd333 7 0 rfl rfl rfl hdX7_readNumber ⟨Nat.le_of_ble_eq_true rfl, Nat.le_of_ble_eq_true rfl⟩ ⟨Nat.zero_le _, Nat.zero_le _⟩ rfl (Nat.le_of_ble_eq_true rfl) [1] [0] 2 rfl (by decide +kernel) rfl rfl (fun (u : Vl) => [bX7 cI cJ cZ a1 r1 u]) (fun _ => rfl) [1, 0] (by decide +kernel) (fun _ => rfl) rfl (fun (u : Vl) => [bX3 cI cJ cZ a0 r0 v0, bX7 cI cJ cZ a1 r1 u]) (fun _ => rfl) dX3_readHens_4 rfl (fun r_2 u h => ?_)
  obtain ⟨u_1, hu⟩ : ∃ z, z = u := ⟨_, rfl⟩
  subst hu
  refine J_if_ne C 10 12 dX3_readHens_7 rfl rfl (fun c => ?_) (fun c => ?_)
  · have h := h.1 c
    refine J_aload_n C 13 dX3_readHens_12 rfl rfl ?_
    refine J_aload_n C 14 dX3_readHens_13 rfl rfl ?_
    refine J_getN C 17 7 inlX7 8 4 rfl rfl (by decide) (mi 33 rfl) rfl rfl dX3_readHens_14 rfl ?_
    obtain ⟨v0s_3, ev0s_3⟩ : ∃ z : Vl, z = setI v0 11 (u_1.1 4) := ⟨_, rfl⟩
    have h := h v0s_3 ev0s_3
    refine J_put C 20 3 inlX3 tyX3 tyX3_ok nmX3 0 11 rfl rfl (by decide) wd78 rfl rfl rfl rfl rfl (List.flatten [bX3 cI cJ cZ a0 r0 v0s_3, bX7 cI cJ cZ a1 r1 u_1]) (by subst ev0s_3; rfl) dX3_readHens_17 rfl ?_
    refine J_aload_n C 21 dX3_readHens_20 rfl rfl ?_
    refine J_iconst C 22 dX3_readHens_21 rfl ki_1 ?_
    refine J_bipush C 24 dX3_readHens_22 rfl kb_99 ?_
    refine J_callBiV (Bs := [bX3 cI cJ cZ a0 r0 v0s_3, bX7 cI cJ cZ a1 r1 u_1]) (As := [.int 1, .int 99]) C 27 (c_X7_readNumber l D cI cJ cZ cS a1 r1 u_1 1 99 _ h) wd334 wd331 wd15 wd332 wd333 7 0 rfl rfl rfl hdX7_readNumber ⟨Nat.le_of_ble_eq_true rfl, Nat.le_of_ble_eq_true rfl⟩ ⟨Nat.zero_le _, Nat.zero_le _⟩ rfl (Nat.le_of_ble_eq_true rfl) [1] [0] 2 rfl (by decide +kernel) rfl rfl (fun (u : Vl) => [bX7 cI cJ cZ a1 r1 u]) (fun _ => rfl) [1, 0] (by decide +kernel) (fun _ => rfl) rfl (fun (u : Vl) => [bX3 cI cJ cZ a0 r0 v0s_3, bX7 cI cJ cZ a1 r1 u]) (fun _ => rfl) dX3_readHens_24 rfl (fun r_5 u h => ?_)
    obtain ⟨u_4, hu⟩ : ∃ z, z = u := ⟨_, rfl⟩
    subst hu
    refine J_if_ne C 30 32 dX3_readHens_27 rfl rfl (fun c => ?_) (fun c => ?_)
    · have h := h.1 c
      refine J_aload_n C 33 dX3_readHens_32 rfl rfl ?_
      refine J_aload_n C 34 dX3_readHens_33 rfl rfl ?_
      refine J_getN C 37 7 inlX7 8 4 rfl rfl (by decide) (mi 33 rfl) rfl rfl dX3_readHens_34 rfl ?_
      obtain ⟨v0s_6, ev0s_6⟩ : ∃ z : Vl, z = setI v0s_3 12 (u_4.1 4) := ⟨_, rfl⟩
      have h := h v0s_6 ev0s_6
      refine J_put C 40 3 inlX3 tyX3 tyX3_ok nmX3 0 12 rfl rfl (by decide) wd79 rfl rfl rfl rfl rfl (List.flatten [bX3 cI cJ cZ a0 r0 v0s_6, bX7 cI cJ cZ a1 r1 u_4]) (by subst ev0s_6; rfl) dX3_readHens_37 rfl ?_
      refine J_iconst C 41 dX3_readHens_40 rfl ki_1 ?_
      exact J_zret C hr hk rfl (v0s_6, u_4) rfl dX3_readHens_41 h
    · have h := h.2 c
      refine J_iconst C 31 dX3_readHens_30 rfl ki_0 ?_
      exact J_zret C hr hk rfl (v0s_3, u_4) rfl dX3_readHens_31 h
  · have h := h.2 c
    refine J_iconst C 11 dX3_readHens_10 rfl ki_0 ?_
    exact J_zret C hr hk rfl (v0, u_1) rfl dX3_readHens_11 h
def wp_X3_readNights_c26  (Q : Int32 → Vl → Vl → Prop) (B7 : Vl → Vl → Int32 → Prop) (v0 : Vl) (v1 : Vl) (y2 : Int32) : Prop := wp_X7_readNumber v1 1 24 (fun r_3 u_2 => ((¬ r_3 = 0 → ((¬ y2 = 12 → wp_X8_put 12 (v0.2.2.1 5) y2 (u_2.1 4) (fun u_4 => ∀ v0s_5 : Vl, v0s_5 = setRA v0 5 u_4 → ∀ v0s_6 : Vl, v0s_6 = setI v0s_5 13 (y2 + 1) → wp_X7_isNext u_2 59 (fun r_8 u_7 => ((r_8 = 0 → ∀ x_9 : Int32, x_9 = y2 + 1 → B7 v0s_6 u_7 x_9) ∧ (¬ r_8 = 0 → Q 1 v0s_6 u_7))))) ∧ (y2 = 12 → wp_X7_fail u_2 3 (u_2.1 5) (fun r_11 u_10 => narrow .boolean (.int r_11) = .int r_11 ∧ Q r_11 v0 u_10)))) ∧ (r_3 = 0 → Q 0 v0 u_2)))
set_option maxHeartbeats 4000000 in
set_option maxRecDepth 100000 in
theorem wk_X3_readNights_c26 {p : Program} {l : Launch} {e : Env} {s : State} {m : MethodId} {args : Array Value} {below : List Frame} {meth : Method} {c : Code} {D : GG} {A : Nat → Prop} {cI cJ cZ cS : ClassId} {a0 : Nat} {r0 : Nat → Nat} {a1 : Nat} {r1 : Nat → Nat}  {B7 : Vl → Vl → Int32 → Prop} {Q : Int32 → Vl → Vl → Prop} (C : Cx p s m args c D (tyL cI cJ cZ cS) A RX3 cX3_readNights 3) (hr : meth.sig.returnType = some .boolean) (hk : meth.locks = false) (hB7 : ∀ (v0 : Vl) (v1 : Vl) (y2 : Int32), B7 v0 v1 y2 → J p l e (rmk 4 84) s m args below meth c D A 3 0 0 (MQ below (va_Qi (fun (r : Int32) (u : Vl × Vl) => Q r u.1 u.2) (fun u t => va_P D.1 vwCl ((fun (u : Vl × Vl) => List.flatten [bX3 cI cJ cZ a0 r0 u.1, bX7 cI cJ cZ a1 r1 u.2]) u) t.heap ∧ va_D A ((fun (u : Vl × Vl) => List.flatten [bX3 cI cJ cZ a0 r0 u.1, bX7 cI cJ cZ a1 r1 u.2]) u)) A) args s 0 0 A) 7 [(0, .ref a0), (1, .ref a1), (2, .int y2)] [] (List.flatten [bX3 cI cJ cZ a0 r0 v0, bX7 cI cJ cZ a1 r1 v1])) : ∀ (v0 : Vl) (v1 : Vl) (y2 : Int32), wp_X3_readNights_c26  Q B7 v0 v1 y2 → J p l e (rmk 4 84) s m args below meth c D A 3 0 0 (MQ below (va_Qi (fun (r : Int32) (u : Vl × Vl) => Q r u.1 u.2) (fun u t => va_P D.1 vwCl ((fun (u : Vl × Vl) => List.flatten [bX3 cI cJ cZ a0 r0 u.1, bX7 cI cJ cZ a1 r1 u.2]) u) t.heap ∧ va_D A ((fun (u : Vl × Vl) => List.flatten [bX3 cI cJ cZ a0 r0 u.1, bX7 cI cJ cZ a1 r1 u.2]) u)) A) args s 0 0 A) 26 [(0, .ref a0), (1, .ref a1), (2, .int y2)] [] (List.flatten [bX3 cI cJ cZ a0 r0 v0, bX7 cI cJ cZ a1 r1 v1]) := by
  intro v0 v1 y2 h
  refine J_aload_n C 27 dX3_readNights_26 rfl rfl ?_
  refine J_iconst C 28 dX3_readNights_27 rfl ki_1 ?_
  refine J_bipush C 30 dX3_readNights_28 rfl kb_24 ?_
  refine J_callBiV (Bs := [bX3 cI cJ cZ a0 r0 v0, bX7 cI cJ cZ a1 r1 v1]) (As := [.int 1, .int 24]) C 33 (c_X7_readNumber l D cI cJ cZ cS a1 r1 v1 1 24 _ h) wd334 wd331 wd15 wd332 wd333 7 0 rfl rfl rfl hdX7_readNumber ⟨Nat.le_of_ble_eq_true rfl, Nat.le_of_ble_eq_true rfl⟩ ⟨Nat.zero_le _, Nat.zero_le _⟩ rfl (Nat.le_of_ble_eq_true rfl) [1] [0] 2 rfl (by decide +kernel) rfl rfl (fun (u : Vl) => [bX7 cI cJ cZ a1 r1 u]) (fun _ => rfl) [1, 0] (by decide +kernel) (fun _ => rfl) rfl (fun (u : Vl) => [bX3 cI cJ cZ a0 r0 v0, bX7 cI cJ cZ a1 r1 u]) (fun _ => rfl) dX3_readNights_30 rfl (fun r_3 u h => ?_)
  obtain ⟨u_2, hu⟩ : ∃ z, z = u := ⟨_, rfl⟩
  subst hu
  refine J_if_ne C 36 38 dX3_readNights_33 rfl rfl (fun c => ?_) (fun c => ?_)
  · have h := h.1 c
    refine J_iload_n C 39 dX3_readNights_38 rfl rfl ?_
    refine J_bipush C 41 dX3_readNights_39 rfl kb_12 ?_
    refine J_icmp_ne C 44 54 dX3_readNights_41 rfl rfl (fun c => ?_) (fun c => ?_)
    · have h := h.1 c
      refine J_aload_n C 55 dX3_readNights_54 rfl rfl ?_
      refine J_get C 58 3 inlX3 0 5 rfl rfl (by decide) wd68 rfl rfl dX3_readNights_55 rfl ?_
      refine J_iload_n C 59 dX3_readNights_58 rfl rfl ?_
      refine J_aload_n C 60 dX3_readNights_59 rfl rfl ?_
      refine J_getN C 63 7 inlX7 8 4 rfl rfl (by decide) (mi 33 rfl) rfl rfl dX3_readNights_60 rfl ?_
      refine J_call1vSN (As := [.ref (r0 5), .int y2, .int (u_2.1 4)]) C 66 (c_X8_put l D cI cJ cZ cS 12 (r0 5) (v0.2.2.1 5) y2 (u_2.1 4) _ h) wd83 (mi 56 rfl) wd2 wd82 hdX8_put ⟨Nat.le_of_ble_eq_true rfl, Nat.le_of_ble_eq_true rfl⟩ ⟨Nat.zero_le _, Nat.zero_le _⟩ rfl (Nat.le_of_ble_eq_true rfl) 6 rfl (fun u => .inl (cI, 12, .inl u)) (fun _ => rfl) (fun (u : (Nat → Int32)) => List.flatten [bX3 cI cJ cZ a0 r0 (setRA v0 5 u), bX7 cI cJ cZ a1 r1 u_2]) (fun _ => rfl) dX3_readNights_63 rfl (fun u h => ?_)
      obtain ⟨u_4, hu⟩ : ∃ z, z = u := ⟨_, rfl⟩
      subst hu
      obtain ⟨v0s_5, ev0s_5⟩ : ∃ z : Vl, z = setRA v0 5 u_4 := ⟨_, rfl⟩
      have h := h v0s_5 ev0s_5
      refine J_ws (ws' := List.flatten [bX3 cI cJ cZ a0 r0 v0s_5, bX7 cI cJ cZ a1 r1 u_2]) (by subst ev0s_5; rfl) ?_
      refine J_aload_n C 67 dX3_readNights_66 rfl rfl ?_
      refine J_iload_n C 68 dX3_readNights_67 rfl rfl ?_
      refine J_iconst C 69 dX3_readNights_68 rfl ki_1 ?_
      refine J_iadd C 70 dX3_readNights_69 rfl ?_
      obtain ⟨v0s_6, ev0s_6⟩ : ∃ z : Vl, z = setI v0s_5 13 (y2 + 1) := ⟨_, rfl⟩
      have h := h v0s_6 ev0s_6
      refine J_put C 73 3 inlX3 tyX3 tyX3_ok nmX3 0 13 rfl rfl (by decide) wd80 rfl rfl rfl rfl rfl (List.flatten [bX3 cI cJ cZ a0 r0 v0s_6, bX7 cI cJ cZ a1 r1 u_2]) (by subst ev0s_6; rfl) dX3_readNights_70 rfl ?_
      refine J_aload_n C 74 dX3_readNights_73 rfl rfl ?_
      refine J_bipush C 76 dX3_readNights_74 rfl kb_59 ?_
      refine J_callBiV (Bs := [bX3 cI cJ cZ a0 r0 v0s_6, bX7 cI cJ cZ a1 r1 u_2]) (As := [.int 59]) C 79 (c_X7_isNext l D cI cJ cZ cS a1 r1 u_2 59 _ h) wd367 wd368 wd15 wd365 wd366 7 0 rfl rfl rfl hdX7_isNext ⟨Nat.le_of_ble_eq_true rfl, Nat.le_of_ble_eq_true rfl⟩ ⟨Nat.zero_le _, Nat.zero_le _⟩ rfl (Nat.le_of_ble_eq_true rfl) [1] [0] 2 rfl (by decide +kernel) rfl rfl (fun (u : Vl) => [bX7 cI cJ cZ a1 r1 u]) (fun _ => rfl) [1, 0] (by decide +kernel) (fun _ => rfl) rfl (fun (u : Vl) => [bX3 cI cJ cZ a0 r0 v0s_6, bX7 cI cJ cZ a1 r1 u]) (fun _ => rfl) dX3_readNights_76 rfl (fun r_8 u h => ?_)
      obtain ⟨u_7, hu⟩ : ∃ z, z = u := ⟨_, rfl⟩
      subst hu
      refine J_if_eq C 82 84 dX3_readNights_79 rfl rfl (fun c => ?_) (fun c => ?_)
      · have h := h.1 c
        obtain ⟨x_9, ex_9⟩ : ∃ z : Int32, z = y2 + 1 := ⟨_, rfl⟩
        have h := h x_9 ex_9
        refine J_iinc C 87 [(2, .int x_9), (0, .ref a0), (1, .ref a1)] dX3_readNights_84 rfl rfl ((kinc_1 _).trans ex_9.symm) (by decide) rfl ?_
        refine J_goto C 7 dX3_readNights_87 rfl ?_
        refine J_loc [1, 2, 0] rfl ?_
        exact hB7 v0s_6 u_7 x_9 h
      · have h := h.2 c
        refine J_iconst C 83 dX3_readNights_82 rfl ki_1 ?_
        exact J_zret C hr hk rfl (v0s_6, u_7) rfl dX3_readNights_83 h
    · have h := h.2 c
      refine J_aload_n C 45 dX3_readNights_44 rfl rfl ?_
      refine J_iconst C 46 dX3_readNights_45 rfl ki_3 ?_
      refine J_aload_n C 47 dX3_readNights_46 rfl rfl ?_
      refine J_getN C 50 7 inlX7 8 5 rfl rfl (by decide) (mi 34 rfl) rfl rfl dX3_readNights_47 rfl ?_
      refine J_callBiV (Bs := [bX3 cI cJ cZ a0 r0 v0, bX7 cI cJ cZ a1 r1 u_2]) (As := [.int 3, .int (u_2.1 5)]) C 53 (c_X7_fail l D cI cJ cZ cS a1 r1 u_2 3 (u_2.1 5) _ h) wd267 wd325 wd15 wd265 wd266 7 0 rfl rfl rfl hdX7_fail ⟨Nat.le_of_ble_eq_true rfl, Nat.le_of_ble_eq_true rfl⟩ ⟨Nat.zero_le _, Nat.zero_le _⟩ rfl (Nat.le_of_ble_eq_true rfl) [1] [0] 2 rfl (by decide +kernel) rfl rfl (fun (u : Vl) => [bX7 cI cJ cZ a1 r1 u]) (fun _ => rfl) [1, 0] (by decide +kernel) (fun _ => rfl) rfl (fun (u : Vl) => [bX3 cI cJ cZ a0 r0 v0, bX7 cI cJ cZ a1 r1 u]) (fun _ => rfl) dX3_readNights_50 rfl (fun r_11 u h => ?_)
      obtain ⟨u_10, hu⟩ : ∃ z, z = u := ⟨_, rfl⟩
      subst hu
      obtain ⟨hz, h⟩ := h
      exact J_zret C hr hk hz (v0, u_10) rfl dX3_readNights_53 h
  · have h := h.2 c
    refine J_iconst C 37 dX3_readNights_36 rfl ki_0 ?_
    exact J_zret C hr hk rfl (v0, u_2) rfl dX3_readNights_37 h
def wp_X3_readNights_c7  (Q : Int32 → Vl → Vl → Prop) : Nat → Vl → Vl → Int32 → Prop
  | 0 => fun _ _ _ => False
  | n + 1 => fun v0 v1 y2 => ((12 < y2 → Q 1 v0 v1) ∧ (¬ 12 < y2 → ((y2 ≤ 0 → wp_X3_readNights_c26  Q (wp_X3_readNights_c7  Q n) v0 v1 y2) ∧ (¬ y2 ≤ 0 → wp_X7_readSign v1 44 (fun r_13 u_12 => ((r_13 = 0 → Q 0 v0 u_12) ∧ (¬ r_13 = 0 → wp_X3_readNights_c26  Q (wp_X3_readNights_c7  Q n) v0 u_12 y2)))))))
set_option maxHeartbeats 4000000 in
set_option maxRecDepth 100000 in
theorem wk_X3_readNights_c7 {p : Program} {l : Launch} {e : Env} {s : State} {m : MethodId} {args : Array Value} {below : List Frame} {meth : Method} {c : Code} {D : GG} {A : Nat → Prop} {cI cJ cZ cS : ClassId} {a0 : Nat} {r0 : Nat → Nat} {a1 : Nat} {r1 : Nat → Nat}  {Q : Int32 → Vl → Vl → Prop} (C : Cx p s m args c D (tyL cI cJ cZ cS) A RX3 cX3_readNights 3) (hr : meth.sig.returnType = some .boolean) (hk : meth.locks = false) : ∀ (n : Nat) (v0 : Vl) (v1 : Vl) (y2 : Int32), wp_X3_readNights_c7  Q n v0 v1 y2 → J p l e (rmk 4 84) s m args below meth c D A 3 0 0 (MQ below (va_Qi (fun (r : Int32) (u : Vl × Vl) => Q r u.1 u.2) (fun u t => va_P D.1 vwCl ((fun (u : Vl × Vl) => List.flatten [bX3 cI cJ cZ a0 r0 u.1, bX7 cI cJ cZ a1 r1 u.2]) u) t.heap ∧ va_D A ((fun (u : Vl × Vl) => List.flatten [bX3 cI cJ cZ a0 r0 u.1, bX7 cI cJ cZ a1 r1 u.2]) u)) A) args s 0 0 A) 7 [(0, .ref a0), (1, .ref a1), (2, .int y2)] [] (List.flatten [bX3 cI cJ cZ a0 r0 v0, bX7 cI cJ cZ a1 r1 v1]) := by
  intro n
  induction n with
  | zero =>
    intro v0 v1 y2 h
    exact False.elim h
  | succ n ih =>
    intro v0 v1 y2 h
    refine J_iload_n C 8 dX3_readNights_7 rfl rfl ?_
    refine J_bipush C 10 dX3_readNights_8 rfl kb_12 ?_
    refine J_icmp_gt C 13 90 dX3_readNights_10 rfl rfl (fun c => ?_) (fun c => ?_)
    · have h := h.1 c
      refine J_iconst C 91 dX3_readNights_90 rfl ki_1 ?_
      exact J_zret C hr hk rfl (v0, v1) rfl dX3_readNights_91 h
    · have h := h.2 c
      refine J_iload_n C 14 dX3_readNights_13 rfl rfl ?_
      refine J_if_le C 17 26 dX3_readNights_14 rfl rfl (fun c => ?_) (fun c => ?_)
      · have h := h.1 c
        refine J_loc [0, 1, 2] rfl ?_
        exact wk_X3_readNights_c26 C hr hk ih v0 v1 y2 h
      · have h := h.2 c
        refine J_aload_n C 18 dX3_readNights_17 rfl rfl ?_
        refine J_bipush C 20 dX3_readNights_18 rfl kb_44 ?_
        refine J_callBiV (Bs := [bX3 cI cJ cZ a0 r0 v0, bX7 cI cJ cZ a1 r1 v1]) (As := [.int 44]) C 23 (c_X7_readSign l D cI cJ cZ cS a1 r1 v1 44 _ h) wd363 wd360 wd15 wd361 wd362 7 0 rfl rfl rfl hdX7_readSign ⟨Nat.le_of_ble_eq_true rfl, Nat.le_of_ble_eq_true rfl⟩ ⟨Nat.zero_le _, Nat.zero_le _⟩ rfl (Nat.le_of_ble_eq_true rfl) [1] [0] 2 rfl (by decide +kernel) rfl rfl (fun (u : Vl) => [bX7 cI cJ cZ a1 r1 u]) (fun _ => rfl) [1, 0] (by decide +kernel) (fun _ => rfl) rfl (fun (u : Vl) => [bX3 cI cJ cZ a0 r0 v0, bX7 cI cJ cZ a1 r1 u]) (fun _ => rfl) dX3_readNights_20 rfl (fun r_13 u h => ?_)
        obtain ⟨u_12, hu⟩ : ∃ z, z = u := ⟨_, rfl⟩
        subst hu
        refine J_if_eq C 26 36 dX3_readNights_23 rfl rfl (fun c => ?_) (fun c => ?_)
        · have h := h.1 c
          refine J_iconst C 37 dX3_readNights_36 rfl ki_0 ?_
          exact J_zret C hr hk rfl (v0, u_12) rfl dX3_readNights_37 h
        · have h := h.2 c
          refine J_loc [0, 1, 2] rfl ?_
          exact wk_X3_readNights_c26 C hr hk ih v0 u_12 y2 h
def wp_X3_readNights (v0 : Vl) (v1 : Vl)  (Q : Int32 → Vl → Vl → Prop) : Prop := ∀ v0s_1 : Vl, v0s_1 = setI v0 13 0 → (∃ k : Nat, wp_X3_readNights_c7  Q k v0s_1 v1 0)
set_option maxHeartbeats 4000000 in
set_option maxRecDepth 100000 in
theorem c_X3_readNights (l : Launch) (D : GG) (cI cJ cZ cS : ClassId) (a0 : Nat) (r0 : Nat → Nat) (v0 : Vl) (a1 : Nat) (r1 : Nat → Nat) (v1 : Vl)  (Q : Int32 → Vl → Vl → Prop) (h : wp_X3_readNights v0 v1 Q) : Mi l D (tyL cI cJ cZ cS) yX3_readNights cX3_readNights 3 .boolean 4 84 [.ref a0, .ref a1] (List.flatten [bX3 cI cJ cZ a0 r0 v0, bX7 cI cJ cZ a1 r1 v1]) (fun (r : Int32) (u : Vl × Vl) => Q r u.1 u.2) (fun (u : Vl × Vl) => List.flatten [bX3 cI cJ cZ a0 r0 u.1, bX7 cI cJ cZ a1 r1 u.2]) := by
  refine Mi_of RX3 [(0, .ref a0), (1, .ref a1)] (by decide +kernel) rfl rfl (Nat.le_of_ble_eq_true rfl) ?_
  intro p e s m args below meth c A C hr hk
  refine J_aload_n C 1 dX3_readNights_0 rfl rfl ?_
  refine J_iconst C 2 dX3_readNights_1 rfl ki_0 ?_
  obtain ⟨v0s_1, ev0s_1⟩ : ∃ z : Vl, z = setI v0 13 0 := ⟨_, rfl⟩
  have h := h v0s_1 ev0s_1
  refine J_put C 5 3 inlX3 tyX3 tyX3_ok nmX3 0 13 rfl rfl (by decide) wd80 rfl rfl rfl rfl rfl (List.flatten [bX3 cI cJ cZ a0 r0 v0s_1, bX7 cI cJ cZ a1 r1 v1]) (by subst ev0s_1; rfl) dX3_readNights_2 rfl ?_
  refine J_iconst C 6 dX3_readNights_5 rfl ki_0 ?_
  refine J_istore_n C 7 [(2, .int 0), (0, .ref a0), (1, .ref a1)] dX3_readNights_6 rfl (by decide) rfl ?_
  refine J_loc [1, 2, 0] rfl ?_
  obtain ⟨n1, h⟩ := h
  exact wk_X3_readNights_c7 C hr hk n1 v0s_1 v1 0 h
def wp_X3_readChances_c69  (Q : Int32 → Vl → Vl → Prop) (B4 : Vl → Vl → Int32 → Int32 → Prop) (v0 : Vl) (v1 : Vl) (y2 : Int32) (y3 : Int32) : Prop := ∀ x_6 : Int32, x_6 = y3 + 1 → B4 v0 v1 y2 x_6
set_option maxHeartbeats 4000000 in
set_option maxRecDepth 100000 in
theorem wk_X3_readChances_c69 {p : Program} {l : Launch} {e : Env} {s : State} {m : MethodId} {args : Array Value} {below : List Frame} {meth : Method} {c : Code} {D : GG} {A : Nat → Prop} {cI cJ cZ cS : ClassId} {a0 : Nat} {r0 : Nat → Nat} {a1 : Nat} {r1 : Nat → Nat}  {B4 : Vl → Vl → Int32 → Int32 → Prop} {Q : Int32 → Vl → Vl → Prop} (C : Cx p s m args c D (tyL cI cJ cZ cS) A RX3 cX3_readChances 4) (hr : meth.sig.returnType = some .boolean) (hk : meth.locks = false) (hB4 : ∀ (v0 : Vl) (v1 : Vl) (y2 : Int32) (y3 : Int32), B4 v0 v1 y2 y3 → J p l e (rmk 3 65) s m args below meth c D A 4 0 0 (MQ below (va_Qi (fun (r : Int32) (u : Vl × Vl) => Q r u.1 u.2) (fun u t => va_P D.1 vwCl ((fun (u : Vl × Vl) => List.flatten [bX3 cI cJ cZ a0 r0 u.1, bX7 cI cJ cZ a1 r1 u.2]) u) t.heap ∧ va_D A ((fun (u : Vl × Vl) => List.flatten [bX3 cI cJ cZ a0 r0 u.1, bX7 cI cJ cZ a1 r1 u.2]) u)) A) args s 0 0 A) 4 [(0, .ref a0), (1, .ref a1), (2, .int y2), (3, .int y3)] [] (List.flatten [bX3 cI cJ cZ a0 r0 v0, bX7 cI cJ cZ a1 r1 v1])) : ∀ (v0 : Vl) (v1 : Vl) (y2 : Int32) (y3 : Int32), wp_X3_readChances_c69  Q B4 v0 v1 y2 y3 → J p l e (rmk 3 65) s m args below meth c D A 4 0 0 (MQ below (va_Qi (fun (r : Int32) (u : Vl × Vl) => Q r u.1 u.2) (fun u t => va_P D.1 vwCl ((fun (u : Vl × Vl) => List.flatten [bX3 cI cJ cZ a0 r0 u.1, bX7 cI cJ cZ a1 r1 u.2]) u) t.heap ∧ va_D A ((fun (u : Vl × Vl) => List.flatten [bX3 cI cJ cZ a0 r0 u.1, bX7 cI cJ cZ a1 r1 u.2]) u)) A) args s 0 0 A) 69 [(0, .ref a0), (1, .ref a1), (2, .int y2), (3, .int y3)] [] (List.flatten [bX3 cI cJ cZ a0 r0 v0, bX7 cI cJ cZ a1 r1 v1]) := by
  intro v0 v1 y2 y3 h
  obtain ⟨x_6, ex_6⟩ : ∃ z : Int32, z = y3 + 1 := ⟨_, rfl⟩
  have h := h x_6 ex_6
  refine J_iinc C 72 [(3, .int x_6), (0, .ref a0), (1, .ref a1), (2, .int y2)] dX3_readChances_69 rfl rfl ((kinc_1 _).trans ex_6.symm) (by decide) rfl ?_
  refine J_goto C 4 dX3_readChances_72 rfl ?_
  refine J_loc [1, 2, 3, 0] rfl ?_
  exact hB4 v0 v1 y2 x_6 h
def wp_X3_readChances_c4  (Q : Int32 → Vl → Vl → Prop) : Nat → Vl → Vl → Int32 → Int32 → Prop
  | 0 => fun _ _ _ _ => False
  | n + 1 => fun v0 v1 y2 y3 => ((9 ≤ y3 → Q 1 v0 v1) ∧ (¬ 9 ≤ y3 → wp_X7_readNumber v1 0 100 (fun r_2 u_1 => ((¬ r_2 = 0 → wp_X8_put 9 (v0.2.2.1 6) y3 (u_1.1 4) (fun u_3 => ∀ v0s_4 : Vl, v0s_4 = setRA v0 6 u_3 → ∀ x_5 : Int32, x_5 = (y2 + (u_1.1 4)) → ((¬ (y3 - y3 / 3 * 3) = 2 → wp_X3_readChances_c69  Q (wp_X3_readChances_c4  Q n) v0s_4 u_1 x_5 y3) ∧ ((y3 - y3 / 3 * 3) = 2 → ((x_5 = 100 → wp_X3_readChances_c69  Q (wp_X3_readChances_c4  Q n) v0s_4 u_1 0 y3) ∧ (¬ x_5 = 100 → wp_X7_fail u_1 4 (u_1.1 5) (fun r_8 u_7 => narrow .boolean (.int r_8) = .int r_8 ∧ Q r_8 v0s_4 u_7))))))) ∧ (r_2 = 0 → Q 0 v0 u_1)))))
set_option maxHeartbeats 4000000 in
set_option maxRecDepth 100000 in
theorem wk_X3_readChances_c4 {p : Program} {l : Launch} {e : Env} {s : State} {m : MethodId} {args : Array Value} {below : List Frame} {meth : Method} {c : Code} {D : GG} {A : Nat → Prop} {cI cJ cZ cS : ClassId} {a0 : Nat} {r0 : Nat → Nat} {a1 : Nat} {r1 : Nat → Nat}  {Q : Int32 → Vl → Vl → Prop} (C : Cx p s m args c D (tyL cI cJ cZ cS) A RX3 cX3_readChances 4) (hr : meth.sig.returnType = some .boolean) (hk : meth.locks = false) : ∀ (n : Nat) (v0 : Vl) (v1 : Vl) (y2 : Int32) (y3 : Int32), wp_X3_readChances_c4  Q n v0 v1 y2 y3 → J p l e (rmk 3 65) s m args below meth c D A 4 0 0 (MQ below (va_Qi (fun (r : Int32) (u : Vl × Vl) => Q r u.1 u.2) (fun u t => va_P D.1 vwCl ((fun (u : Vl × Vl) => List.flatten [bX3 cI cJ cZ a0 r0 u.1, bX7 cI cJ cZ a1 r1 u.2]) u) t.heap ∧ va_D A ((fun (u : Vl × Vl) => List.flatten [bX3 cI cJ cZ a0 r0 u.1, bX7 cI cJ cZ a1 r1 u.2]) u)) A) args s 0 0 A) 4 [(0, .ref a0), (1, .ref a1), (2, .int y2), (3, .int y3)] [] (List.flatten [bX3 cI cJ cZ a0 r0 v0, bX7 cI cJ cZ a1 r1 v1]) := by
  intro n
  induction n with
  | zero =>
    intro v0 v1 y2 y3 h
    exact False.elim h
  | succ n ih =>
    intro v0 v1 y2 y3 h
    refine J_iload_n C 5 dX3_readChances_4 rfl rfl ?_
    refine J_aload_n C 6 dX3_readChances_5 rfl rfl ?_
    refine J_get C 9 3 inlX3 0 6 rfl rfl (by decide) wd69 rfl rfl dX3_readChances_6 rfl ?_
    refine J_alen C 10 7 0 rfl rfl kn_9 dX3_readChances_9 rfl ?_
    refine J_icmp_ge C 13 75 dX3_readChances_10 rfl rfl (fun c => ?_) (fun c => ?_)
    · have h := h.1 c
      refine J_iconst C 76 dX3_readChances_75 rfl ki_1 ?_
      exact J_zret C hr hk rfl (v0, v1) rfl dX3_readChances_76 h
    · have h := h.2 c
      refine J_aload_n C 14 dX3_readChances_13 rfl rfl ?_
      refine J_iconst C 15 dX3_readChances_14 rfl ki_0 ?_
      refine J_bipush C 17 dX3_readChances_15 rfl kb_100 ?_
      refine J_callBiV (Bs := [bX3 cI cJ cZ a0 r0 v0, bX7 cI cJ cZ a1 r1 v1]) (As := [.int 0, .int 100]) C 20 (c_X7_readNumber l D cI cJ cZ cS a1 r1 v1 0 100 _ h) wd334 wd331 wd15 wd332 wd333 7 0 rfl rfl rfl hdX7_readNumber ⟨Nat.le_of_ble_eq_true rfl, Nat.le_of_ble_eq_true rfl⟩ ⟨Nat.zero_le _, Nat.zero_le _⟩ rfl (Nat.le_of_ble_eq_true rfl) [1] [0] 2 rfl (by decide +kernel) rfl rfl (fun (u : Vl) => [bX7 cI cJ cZ a1 r1 u]) (fun _ => rfl) [1, 0] (by decide +kernel) (fun _ => rfl) rfl (fun (u : Vl) => [bX3 cI cJ cZ a0 r0 v0, bX7 cI cJ cZ a1 r1 u]) (fun _ => rfl) dX3_readChances_17 rfl (fun r_2 u h => ?_)
      obtain ⟨u_1, hu⟩ : ∃ z, z = u := ⟨_, rfl⟩
      subst hu
      refine J_if_ne C 23 25 dX3_readChances_20 rfl rfl (fun c => ?_) (fun c => ?_)
      · have h := h.1 c
        refine J_aload_n C 26 dX3_readChances_25 rfl rfl ?_
        refine J_get C 29 3 inlX3 0 6 rfl rfl (by decide) wd69 rfl rfl dX3_readChances_26 rfl ?_
        refine J_iload_n C 30 dX3_readChances_29 rfl rfl ?_
        refine J_aload_n C 31 dX3_readChances_30 rfl rfl ?_
        refine J_getN C 34 7 inlX7 8 4 rfl rfl (by decide) (mi 33 rfl) rfl rfl dX3_readChances_31 rfl ?_
        refine J_call1vSN (As := [.ref (r0 6), .int y3, .int (u_1.1 4)]) C 37 (c_X8_put l D cI cJ cZ cS 9 (r0 6) (v0.2.2.1 6) y3 (u_1.1 4) _ h) wd83 (mi 56 rfl) wd2 wd82 hdX8_put ⟨Nat.le_of_ble_eq_true rfl, Nat.le_of_ble_eq_true rfl⟩ ⟨Nat.zero_le _, Nat.zero_le _⟩ rfl (Nat.le_of_ble_eq_true rfl) 7 rfl (fun u => .inl (cI, 9, .inl u)) (fun _ => rfl) (fun (u : (Nat → Int32)) => List.flatten [bX3 cI cJ cZ a0 r0 (setRA v0 6 u), bX7 cI cJ cZ a1 r1 u_1]) (fun _ => rfl) dX3_readChances_34 rfl (fun u h => ?_)
        obtain ⟨u_3, hu⟩ : ∃ z, z = u := ⟨_, rfl⟩
        subst hu
        obtain ⟨v0s_4, ev0s_4⟩ : ∃ z : Vl, z = setRA v0 6 u_3 := ⟨_, rfl⟩
        have h := h v0s_4 ev0s_4
        refine J_ws (ws' := List.flatten [bX3 cI cJ cZ a0 r0 v0s_4, bX7 cI cJ cZ a1 r1 u_1]) (by subst ev0s_4; rfl) ?_
        refine J_iload_n C 38 dX3_readChances_37 rfl rfl ?_
        refine J_aload_n C 39 dX3_readChances_38 rfl rfl ?_
        refine J_getN C 42 7 inlX7 8 4 rfl rfl (by decide) (mi 33 rfl) rfl rfl dX3_readChances_39 rfl ?_
        refine J_iadd C 43 dX3_readChances_42 rfl ?_
        obtain ⟨x_5, ex_5⟩ : ∃ z : Int32, z = (y2 + (u_1.1 4)) := ⟨_, rfl⟩
        have h := h x_5 ex_5
        refine J_nmi ex_5 ?_
        refine J_istore_n C 44 [(2, .int x_5), (0, .ref a0), (1, .ref a1), (3, .int y3)] dX3_readChances_43 rfl (by decide) rfl ?_
        refine J_iload_n C 45 dX3_readChances_44 rfl rfl ?_
        refine J_iconst C 46 dX3_readChances_45 rfl ki_3 ?_
        refine J_irem C 47 dX3_readChances_46 rfl (by decide) ?_
        refine J_iconst C 48 dX3_readChances_47 rfl ki_2 ?_
        refine J_icmp_ne C 51 69 dX3_readChances_48 rfl rfl (fun c => ?_) (fun c => ?_)
        · have h := h.1 c
          refine J_loc [1, 2, 0, 3] rfl ?_
          exact wk_X3_readChances_c69 C hr hk ih v0s_4 u_1 x_5 y3 h
        · have h := h.2 c
          refine J_iload_n C 52 dX3_readChances_51 rfl rfl ?_
          refine J_bipush C 54 dX3_readChances_52 rfl kb_100 ?_
          refine J_icmp_eq C 57 67 dX3_readChances_54 rfl rfl (fun c => ?_) (fun c => ?_)
          · have h := h.1 c
            refine J_iconst C 68 dX3_readChances_67 rfl ki_0 ?_
            refine J_istore_n C 69 [(2, .int 0), (0, .ref a0), (1, .ref a1), (3, .int y3)] dX3_readChances_68 rfl (by decide) rfl ?_
            refine J_loc [1, 2, 0, 3] rfl ?_
            exact wk_X3_readChances_c69 C hr hk ih v0s_4 u_1 0 y3 h
          · have h := h.2 c
            refine J_aload_n C 58 dX3_readChances_57 rfl rfl ?_
            refine J_iconst C 59 dX3_readChances_58 rfl ki_4 ?_
            refine J_aload_n C 60 dX3_readChances_59 rfl rfl ?_
            refine J_getN C 63 7 inlX7 8 5 rfl rfl (by decide) (mi 34 rfl) rfl rfl dX3_readChances_60 rfl ?_
            refine J_callBiV (Bs := [bX3 cI cJ cZ a0 r0 v0s_4, bX7 cI cJ cZ a1 r1 u_1]) (As := [.int 4, .int (u_1.1 5)]) C 66 (c_X7_fail l D cI cJ cZ cS a1 r1 u_1 4 (u_1.1 5) _ h) wd267 wd325 wd15 wd265 wd266 7 0 rfl rfl rfl hdX7_fail ⟨Nat.le_of_ble_eq_true rfl, Nat.le_of_ble_eq_true rfl⟩ ⟨Nat.zero_le _, Nat.zero_le _⟩ rfl (Nat.le_of_ble_eq_true rfl) [1] [0] 2 rfl (by decide +kernel) rfl rfl (fun (u : Vl) => [bX7 cI cJ cZ a1 r1 u]) (fun _ => rfl) [1, 0] (by decide +kernel) (fun _ => rfl) rfl (fun (u : Vl) => [bX3 cI cJ cZ a0 r0 v0s_4, bX7 cI cJ cZ a1 r1 u]) (fun _ => rfl) dX3_readChances_63 rfl (fun r_8 u h => ?_)
            obtain ⟨u_7, hu⟩ : ∃ z, z = u := ⟨_, rfl⟩
            subst hu
            obtain ⟨hz, h⟩ := h
            exact J_zret C hr hk hz (v0s_4, u_7) rfl dX3_readChances_66 h
      · have h := h.2 c
        refine J_iconst C 24 dX3_readChances_23 rfl ki_0 ?_
        exact J_zret C hr hk rfl (v0, u_1) rfl dX3_readChances_24 h
def wp_X3_readChances (v0 : Vl) (v1 : Vl)  (Q : Int32 → Vl → Vl → Prop) : Prop := (∃ k : Nat, wp_X3_readChances_c4  Q k v0 v1 0 0)
set_option maxHeartbeats 4000000 in
set_option maxRecDepth 100000 in
theorem c_X3_readChances (l : Launch) (D : GG) (cI cJ cZ cS : ClassId) (a0 : Nat) (r0 : Nat → Nat) (v0 : Vl) (a1 : Nat) (r1 : Nat → Nat) (v1 : Vl)  (Q : Int32 → Vl → Vl → Prop) (h : wp_X3_readChances v0 v1 Q) : Mi l D (tyL cI cJ cZ cS) yX3_readChances cX3_readChances 4 .boolean 3 65 [.ref a0, .ref a1] (List.flatten [bX3 cI cJ cZ a0 r0 v0, bX7 cI cJ cZ a1 r1 v1]) (fun (r : Int32) (u : Vl × Vl) => Q r u.1 u.2) (fun (u : Vl × Vl) => List.flatten [bX3 cI cJ cZ a0 r0 u.1, bX7 cI cJ cZ a1 r1 u.2]) := by
  refine Mi_of RX3 [(0, .ref a0), (1, .ref a1)] (by decide +kernel) rfl rfl (Nat.le_of_ble_eq_true rfl) ?_
  intro p e s m args below meth c A C hr hk
  refine J_iconst C 1 dX3_readChances_0 rfl ki_0 ?_
  refine J_istore_n C 2 [(2, .int 0), (0, .ref a0), (1, .ref a1)] dX3_readChances_1 rfl (by decide) rfl ?_
  refine J_iconst C 3 dX3_readChances_2 rfl ki_0 ?_
  refine J_istore_n C 4 [(3, .int 0), (2, .int 0), (0, .ref a0), (1, .ref a1)] dX3_readChances_3 rfl (by decide) rfl ?_
  refine J_loc [2, 3, 1, 0] rfl ?_
  obtain ⟨n1, h⟩ := h
  exact wk_X3_readChances_c4 C hr hk n1 v0 v1 0 0 h
def wp_X5_skyOf_c14 (v0 : Vl) (Q : Int32 → Prop) : Nat → Int32 → Int32 → Prop
  | 0 => fun _ _ => False
  | n + 1 => fun y2 y3 => (((v0.1 2) ≤ y3 → Q 0) ∧ (¬ (v0.1 2) ≤ y3 → wp_X8_at 30 (v0.2.2.1 1) y3 (fun r_1 => ∀ x_2 : Int32, x_2 = (y2 - r_1) → ((0 ≤ x_2 → ∀ x_3 : Int32, x_3 = y3 + 1 → wp_X5_skyOf_c14 v0 Q n x_2 x_3) ∧ (¬ 0 ≤ x_2 → wp_X8_at 30 (v0.2.2.1 0) y3 (fun r_4 => Q r_4))))))
set_option maxHeartbeats 4000000 in
set_option maxRecDepth 100000 in
theorem wk_X5_skyOf_c14 {p : Program} {l : Launch} {e : Env} {s : State} {m : MethodId} {args : Array Value} {below : List Frame} {meth : Method} {c : Code} {D : GG} {A : Nat → Prop} {cI cJ cZ cS : ClassId} {a0 : Nat} {r0 : Nat → Nat} {v0 : Vl} {Q : Int32 → Prop} (C : Cx p s m args c D (tyL cI cJ cZ cS) A RX5 cX5_skyOf 4) (hr : meth.sig.returnType = some .int) (hk : meth.locks = false) : ∀ (n : Nat) (y2 : Int32) (y3 : Int32), wp_X5_skyOf_c14 v0 Q n y2 y3 → J p l e (rmk 1 21) s m args below meth c D A 4 0 0 (MQ below (va_Qi (fun (r : Int32) (u : Unit) => Q r) (fun u t => va_P D.1 vwCl ((fun (u : Unit) => List.flatten [bX5 cI cJ cZ a0 r0 v0]) u) t.heap ∧ va_D A ((fun (u : Unit) => List.flatten [bX5 cI cJ cZ a0 r0 v0]) u)) A) args s 0 0 A) 14 [(0, .ref a0), (2, .int y2), (3, .int y3)] [] (List.flatten [bX5 cI cJ cZ a0 r0 v0]) := by
  intro n
  induction n with
  | zero =>
    intro y2 y3 h
    exact False.elim h
  | succ n ih =>
    intro y2 y3 h
    refine J_iload_n C 15 dX5_skyOf_14 rfl rfl ?_
    refine J_aload_n C 16 dX5_skyOf_15 rfl rfl ?_
    refine J_get C 19 5 inlX5 0 2 rfl rfl (by decide) wd483 rfl rfl dX5_skyOf_16 rfl ?_
    refine J_icmp_ge C 22 52 dX5_skyOf_19 rfl rfl (fun c => ?_) (fun c => ?_)
    · have h := h.1 c
      refine J_iconst C 53 dX5_skyOf_52 rfl ki_0 ?_
      exact J_iret C hr hk () rfl dX5_skyOf_53 h
    · have h := h.2 c
      refine J_iload_n C 23 dX5_skyOf_22 rfl rfl ?_
      refine J_aload_n C 24 dX5_skyOf_23 rfl rfl ?_
      refine J_get C 27 5 inlX5 0 1 rfl rfl (by decide) wd89 rfl rfl dX5_skyOf_24 rfl ?_
      refine J_iload_n C 28 dX5_skyOf_27 rfl rfl ?_
      refine J_call1piSN (As := [.ref (r0 1), .int y3]) C 31 (c_X8_at l D cI cJ cZ cS 30 (r0 1) (v0.2.2.1 1) y3 _ h) wd147 (mi 61 rfl) wd2 wd146 hdX8_at ⟨Nat.le_of_ble_eq_true rfl, Nat.le_of_ble_eq_true rfl⟩ ⟨Nat.zero_le _, Nat.zero_le _⟩ rfl (Nat.le_of_ble_eq_true rfl) 2 rfl (fun _ => rfl) dX5_skyOf_28 rfl (fun r_1 u h => ?_)
      refine J_isub C 32 dX5_skyOf_31 rfl ?_
      obtain ⟨x_2, ex_2⟩ : ∃ z : Int32, z = (y2 - r_1) := ⟨_, rfl⟩
      have h := h x_2 ex_2
      refine J_nmi ex_2 ?_
      refine J_istore_n C 33 [(2, .int x_2), (0, .ref a0), (3, .int y3)] dX5_skyOf_32 rfl (by decide) rfl ?_
      refine J_iload_n C 34 dX5_skyOf_33 rfl rfl ?_
      refine J_if_ge C 37 46 dX5_skyOf_34 rfl rfl (fun c => ?_) (fun c => ?_)
      · have h := h.1 c
        obtain ⟨x_3, ex_3⟩ : ∃ z : Int32, z = y3 + 1 := ⟨_, rfl⟩
        have h := h x_3 ex_3
        refine J_iinc C 49 [(3, .int x_3), (2, .int x_2), (0, .ref a0)] dX5_skyOf_46 rfl rfl ((kinc_1 _).trans ex_3.symm) (by decide) rfl ?_
        refine J_goto C 14 dX5_skyOf_49 rfl ?_
        refine J_loc [2, 1, 0] rfl ?_
        exact ih x_2 x_3 h
      · have h := h.2 c
        refine J_aload_n C 38 dX5_skyOf_37 rfl rfl ?_
        refine J_get C 41 5 inlX5 0 0 rfl rfl (by decide) wd88 rfl rfl dX5_skyOf_38 rfl ?_
        refine J_iload_n C 42 dX5_skyOf_41 rfl rfl ?_
        refine J_call1piSN (As := [.ref (r0 0), .int y3]) C 45 (c_X8_at l D cI cJ cZ cS 30 (r0 0) (v0.2.2.1 0) y3 _ h) wd147 (mi 61 rfl) wd2 wd146 hdX8_at ⟨Nat.le_of_ble_eq_true rfl, Nat.le_of_ble_eq_true rfl⟩ ⟨Nat.zero_le _, Nat.zero_le _⟩ rfl (Nat.le_of_ble_eq_true rfl) 1 rfl (fun _ => rfl) dX5_skyOf_42 rfl (fun r_4 u h => ?_)
        exact J_iret C hr hk () rfl dX5_skyOf_45 h
def wp_X5_skyOf (v0 : Vl) (x1 : Int32) (Q : Int32 → Prop) : Prop := ((x1 < (v0.1 3) → (∃ k : Nat, wp_X5_skyOf_c14 v0 Q k x1 0)) ∧ (¬ x1 < (v0.1 3) → Q 0))
set_option maxHeartbeats 4000000 in
set_option maxRecDepth 100000 in
theorem c_X5_skyOf (l : Launch) (D : GG) (cI cJ cZ cS : ClassId) (a0 : Nat) (r0 : Nat → Nat) (v0 : Vl) (x1 : Int32) (Q : Int32 → Prop) (h : wp_X5_skyOf v0 x1 Q) : Mi l D (tyL cI cJ cZ cS) yX5_skyOf cX5_skyOf 4 .int 1 21 [.ref a0, .int x1] (List.flatten [bX5 cI cJ cZ a0 r0 v0]) (fun (r : Int32) (u : Unit) => Q r) (fun (u : Unit) => List.flatten [bX5 cI cJ cZ a0 r0 v0]) := by
  refine Mi_of RX5 [(0, .ref a0), (1, .int x1)] (by decide +kernel) rfl rfl (Nat.le_of_ble_eq_true rfl) ?_
  intro p e s m args below meth c A C hr hk
  refine J_iload_n C 1 dX5_skyOf_0 rfl rfl ?_
  refine J_aload_n C 2 dX5_skyOf_1 rfl rfl ?_
  refine J_get C 5 5 inlX5 0 3 rfl rfl (by decide) wd484 rfl rfl dX5_skyOf_2 rfl ?_
  refine J_icmp_lt C 8 10 dX5_skyOf_5 rfl rfl (fun c => ?_) (fun c => ?_)
  · have h := h.1 c
    refine J_iload_n C 11 dX5_skyOf_10 rfl rfl ?_
    refine J_istore_n C 12 [(2, .int x1), (0, .ref a0), (1, .int x1)] dX5_skyOf_11 rfl (by decide) rfl ?_
    refine J_iconst C 13 dX5_skyOf_12 rfl ki_0 ?_
    refine J_istore_n C 14 [(3, .int 0), (2, .int x1), (0, .ref a0), (1, .int x1)] dX5_skyOf_13 rfl (by decide) rfl ?_
    refine J_loc [2, 1, 0] rfl ?_
    obtain ⟨n1, h⟩ := h
    exact wk_X5_skyOf_c14 C hr hk n1 x1 0 h
  · have h := h.2 c
    refine J_iconst C 9 dX5_skyOf_8 rfl ki_0 ?_
    exact J_iret C hr hk () rfl dX5_skyOf_9 h
