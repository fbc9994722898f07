def wp_J6_bitCount_0f7a4  (x0 : Int32) (Q : Int32 → Prop) : Prop := ∀ x_1 : Int32, x_1 = (x0 - (((Int32.toUInt32 x0 >>> (Int32.toUInt32 1 &&& Int32.toUInt32 31)).toInt32) &&& 1431655765)) → ∀ x_2 : Int32, x_2 = ((x_1 &&& 858993459) + (((Int32.toUInt32 x_1 >>> (Int32.toUInt32 2 &&& Int32.toUInt32 31)).toInt32) &&& 858993459)) → ∀ x_3 : Int32, x_3 = ((x_2 + ((Int32.toUInt32 x_2 >>> (Int32.toUInt32 4 &&& Int32.toUInt32 31)).toInt32)) &&& 252645135) → ∀ x_4 : Int32, x_4 = (x_3 + ((Int32.toUInt32 x_3 >>> (Int32.toUInt32 8 &&& Int32.toUInt32 31)).toInt32)) → ∀ x_5 : Int32, x_5 = (x_4 + ((Int32.toUInt32 x_4 >>> (Int32.toUInt32 16 &&& Int32.toUInt32 31)).toInt32)) → Q (x_5 &&& 63)
set_option maxHeartbeats 4000000 in
set_option maxRecDepth 100000 in
theorem c_J6_bitCount_0f7a4 (l : Launch) (D : GG) (cI cJ cZ cS : ClassId)  (x0 : Int32) (Q : Int32 → Prop) (h : wp_J6_bitCount_0f7a4 x0 Q) : Mi l D (tyL cI cJ cZ cS) yJ6_bitCount_0f7a4 cJ6_bitCount_0f7a4 1 .int 0 0 [.int x0] (List.flatten ([] : List va_W)) (fun (r : Int32) (u : Unit) => Q r) (fun (u : Unit) => List.flatten ([] : List va_W)) := by
  refine Mi_of RJ6 [(0, .int x0)] (by decide +kernel) rfl rfl (Nat.le_of_ble_eq_true rfl) ?_
  intro p e s m args below meth c A C hr hk
  refine J_iload_n C 1 dJ6_bitCount_0f7a4_0 rfl rfl ?_
  refine J_iload_n C 2 dJ6_bitCount_0f7a4_1 rfl rfl ?_
  refine J_iconst C 3 dJ6_bitCount_0f7a4_2 rfl ki_1 ?_
  refine J_iushr C 4 dJ6_bitCount_0f7a4_3 rfl ?_
  refine J_ldcw C 7 wd958 dJ6_bitCount_0f7a4_4 rfl ?_
  refine J_iand C 8 dJ6_bitCount_0f7a4_7 rfl ?_
  refine J_isub C 9 dJ6_bitCount_0f7a4_8 rfl ?_
  obtain ⟨x_1, ex_1⟩ : ∃ z : Int32, z = (x0 - (((Int32.toUInt32 x0 >>> (Int32.toUInt32 1 &&& Int32.toUInt32 31)).toInt32) &&& 1431655765)) := ⟨_, rfl⟩
  have h := h x_1 ex_1
  refine J_nmi ex_1 ?_
  refine J_istore_n C 10 [(0, .int x_1)] dJ6_bitCount_0f7a4_9 rfl (by decide) rfl ?_
  refine J_iload_n C 11 dJ6_bitCount_0f7a4_10 rfl rfl ?_
  refine J_ldcw C 14 wd959 dJ6_bitCount_0f7a4_11 rfl ?_
  refine J_iand C 15 dJ6_bitCount_0f7a4_14 rfl ?_
  refine J_iload_n C 16 dJ6_bitCount_0f7a4_15 rfl rfl ?_
  refine J_iconst C 17 dJ6_bitCount_0f7a4_16 rfl ki_2 ?_
  refine J_iushr C 18 dJ6_bitCount_0f7a4_17 rfl ?_
  refine J_ldcw C 21 wd959 dJ6_bitCount_0f7a4_18 rfl ?_
  refine J_iand C 22 dJ6_bitCount_0f7a4_21 rfl ?_
  refine J_iadd C 23 dJ6_bitCount_0f7a4_22 rfl ?_
  obtain ⟨x_2, ex_2⟩ : ∃ z : Int32, z = ((x_1 &&& 858993459) + (((Int32.toUInt32 x_1 >>> (Int32.toUInt32 2 &&& Int32.toUInt32 31)).toInt32) &&& 858993459)) := ⟨_, rfl⟩
  have h := h x_2 ex_2
  refine J_nmi ex_2 ?_
  refine J_istore_n C 24 [(0, .int x_2)] dJ6_bitCount_0f7a4_23 rfl (by decide) rfl ?_
  refine J_iload_n C 25 dJ6_bitCount_0f7a4_24 rfl rfl ?_
  refine J_iload_n C 26 dJ6_bitCount_0f7a4_25 rfl rfl ?_
  refine J_iconst C 27 dJ6_bitCount_0f7a4_26 rfl ki_4 ?_
  refine J_iushr C 28 dJ6_bitCount_0f7a4_27 rfl ?_
  refine J_iadd C 29 dJ6_bitCount_0f7a4_28 rfl ?_
  refine J_ldcw C 32 wd960 dJ6_bitCount_0f7a4_29 rfl ?_
  refine J_iand C 33 dJ6_bitCount_0f7a4_32 rfl ?_
  obtain ⟨x_3, ex_3⟩ : ∃ z : Int32, z = ((x_2 + ((Int32.toUInt32 x_2 >>> (Int32.toUInt32 4 &&& Int32.toUInt32 31)).toInt32)) &&& 252645135) := ⟨_, rfl⟩
  have h := h x_3 ex_3
  refine J_nmi ex_3 ?_
  refine J_istore_n C 34 [(0, .int x_3)] dJ6_bitCount_0f7a4_33 rfl (by decide) rfl ?_
  refine J_iload_n C 35 dJ6_bitCount_0f7a4_34 rfl rfl ?_
  refine J_iload_n C 36 dJ6_bitCount_0f7a4_35 rfl rfl ?_
  refine J_bipush C 38 dJ6_bitCount_0f7a4_36 rfl kb_8 ?_
  refine J_iushr C 39 dJ6_bitCount_0f7a4_38 rfl ?_
  refine J_iadd C 40 dJ6_bitCount_0f7a4_39 rfl ?_
  obtain ⟨x_4, ex_4⟩ : ∃ z : Int32, z = (x_3 + ((Int32.toUInt32 x_3 >>> (Int32.toUInt32 8 &&& Int32.toUInt32 31)).toInt32)) := ⟨_, rfl⟩
  have h := h x_4 ex_4
  refine J_nmi ex_4 ?_
  refine J_istore_n C 41 [(0, .int x_4)] dJ6_bitCount_0f7a4_40 rfl (by decide) rfl ?_
  refine J_iload_n C 42 dJ6_bitCount_0f7a4_41 rfl rfl ?_
  refine J_iload_n C 43 dJ6_bitCount_0f7a4_42 rfl rfl ?_
  refine J_bipush C 45 dJ6_bitCount_0f7a4_43 rfl kb_16 ?_
  refine J_iushr C 46 dJ6_bitCount_0f7a4_45 rfl ?_
  refine J_iadd C 47 dJ6_bitCount_0f7a4_46 rfl ?_
  obtain ⟨x_5, ex_5⟩ : ∃ z : Int32, z = (x_4 + ((Int32.toUInt32 x_4 >>> (Int32.toUInt32 16 &&& Int32.toUInt32 31)).toInt32)) := ⟨_, rfl⟩
  have h := h x_5 ex_5
  refine J_nmi ex_5 ?_
  refine J_istore_n C 48 [(0, .int x_5)] dJ6_bitCount_0f7a4_47 rfl (by decide) rfl ?_
  refine J_iload_n C 49 dJ6_bitCount_0f7a4_48 rfl rfl ?_
  refine J_bipush C 51 dJ6_bitCount_0f7a4_49 rfl kb_63 ?_
  refine J_iand C 52 dJ6_bitCount_0f7a4_51 rfl ?_
  exact J_iret C hr hk () rfl dJ6_bitCount_0f7a4_52 h
def wp_J9_floorMod_7cf53  (x0 : Int32) (x1 : Int32) (Q : Int32 → Prop) : Prop := ¬ x1 = 0 ∧ (∀ x_1 : Int32, x_1 = (x0 - x0 / x1 * x1) → ((0 ≤ (x0 ^^^ x1) → Q x_1) ∧ (¬ 0 ≤ (x0 ^^^ x1) → ((x_1 = 0 → Q x_1) ∧ (¬ x_1 = 0 → Q (x_1 + x1))))))
set_option maxHeartbeats 4000000 in
set_option maxRecDepth 100000 in
theorem c_J9_floorMod_7cf53 (l : Launch) (D : GG) (cI cJ cZ cS : ClassId)  (x0 : Int32) (x1 : Int32) (Q : Int32 → Prop) (h : wp_J9_floorMod_7cf53 x0 x1 Q) : Mi l D (tyL cI cJ cZ cS) yJ9_floorMod_7cf53 cJ9_floorMod_7cf53 3 .int 0 0 [.int x0, .int x1] (List.flatten ([] : List va_W)) (fun (r : Int32) (u : Unit) => Q r) (fun (u : Unit) => List.flatten ([] : List va_W)) := by
  refine Mi_of RJ9 [(0, .int x0), (1, .int x1)] (by decide +kernel) rfl rfl (Nat.le_of_ble_eq_true rfl) ?_
  intro p e s m args below meth c A C hr hk
  refine J_iload_n C 1 dJ9_floorMod_7cf53_0 rfl rfl ?_
  refine J_iload_n C 2 dJ9_floorMod_7cf53_1 rfl rfl ?_
  obtain ⟨hne, h⟩ := h
  refine J_irem C 3 dJ9_floorMod_7cf53_2 rfl hne ?_
  obtain ⟨x_1, ex_1⟩ : ∃ z : Int32, z = (x0 - x0 / x1 * x1) := ⟨_, rfl⟩
  have h := h x_1 ex_1
  refine J_nmi ex_1 ?_
  refine J_istore_n C 4 [(2, .int x_1), (0, .int x0), (1, .int x1)] dJ9_floorMod_7cf53_3 rfl (by decide) rfl ?_
  refine J_iload_n C 5 dJ9_floorMod_7cf53_4 rfl rfl ?_
  refine J_iload_n C 6 dJ9_floorMod_7cf53_5 rfl rfl ?_
  refine J_ixor C 7 dJ9_floorMod_7cf53_6 rfl ?_
  refine J_if_ge C 10 18 dJ9_floorMod_7cf53_7 rfl rfl (fun c => ?_) (fun c => ?_)
  · have h := h.1 c
    refine J_iload_n C 19 dJ9_floorMod_7cf53_18 rfl rfl ?_
    exact J_iret C hr hk () rfl dJ9_floorMod_7cf53_19 h
  · have h := h.2 c
    refine J_iload_n C 11 dJ9_floorMod_7cf53_10 rfl rfl ?_
    refine J_if_eq C 14 18 dJ9_floorMod_7cf53_11 rfl rfl (fun c => ?_) (fun c => ?_)
    · have h := h.1 c
      refine J_iload_n C 19 dJ9_floorMod_7cf53_18 rfl rfl ?_
      exact J_iret C hr hk () rfl dJ9_floorMod_7cf53_19 h
    · have h := h.2 c
      refine J_iload_n C 15 dJ9_floorMod_7cf53_14 rfl rfl ?_
      refine J_iload_n C 16 dJ9_floorMod_7cf53_15 rfl rfl ?_
      refine J_iadd C 17 dJ9_floorMod_7cf53_16 rfl ?_
      exact J_iret C hr hk () rfl dJ9_floorMod_7cf53_17 h
def wp_X8_at (n1 : Nat) (f1 : Nat → Int32) (x1 : Int32) (Q : Int32 → Prop) : Prop := ((x1 < 0 → Q 0) ∧ (¬ x1 < 0 → (((Int32.ofNat n1) ≤ x1 → Q 0) ∧ (¬ (Int32.ofNat n1) ≤ x1 → vp_in x1 n1 ∧ (Q (f1 (Int32.toNatClampNeg x1)))))))
set_option maxHeartbeats 4000000 in
set_option maxRecDepth 100000 in
theorem c_X8_at (l : Launch) (D : GG) (cI cJ cZ cS : ClassId) (n1 : Nat) (a1 : Nat) (f1 : Nat → Int32) (x1 : Int32) (Q : Int32 → Prop) (h : wp_X8_at n1 f1 x1 Q) : Mi l D (tyL cI cJ cZ cS) yX8_at cX8_at 2 .int 0 0 [.ref a1, .int x1] (List.flatten [bI cI n1 a1 f1]) (fun (r : Int32) (u : Unit) => Q r) (fun (u : Unit) => List.flatten [bI cI n1 a1 f1]) := by
  refine Mi_of RX8 [(0, .ref a1), (1, .int x1)] (by decide +kernel) rfl rfl (Nat.le_of_ble_eq_true rfl) ?_
  intro p e s m args below meth c A C hr hk
  refine J_iload_n C 1 dX8_at_0 rfl rfl ?_
  refine J_if_lt C 4 16 dX8_at_1 rfl rfl (fun c => ?_) (fun c => ?_)
  · have h := h.1 c
    refine J_iconst C 17 dX8_at_16 rfl ki_0 ?_
    exact J_iret C hr hk () rfl dX8_at_17 h
  · have h := h.2 c
    refine J_iload_n C 5 dX8_at_4 rfl rfl ?_
    refine J_aload_n C 6 dX8_at_5 rfl rfl ?_
    refine J_alen C 7 0 0 rfl rfl rfl dX8_at_6 rfl ?_
    refine J_icmp_ge C 10 16 dX8_at_7 rfl rfl (fun c => ?_) (fun c => ?_)
    · have h := h.1 c
      refine J_iconst C 17 dX8_at_16 rfl ki_0 ?_
      exact J_iret C hr hk () rfl dX8_at_17 h
    · have h := h.2 c
      refine J_aload_n C 11 dX8_at_10 rfl rfl ?_
      refine J_iload_n C 12 dX8_at_11 rfl rfl ?_
      obtain ⟨hi, h⟩ := h
      refine J_iald C 13 0 0 rfl rfl hi dX8_at_12 rfl ?_
      refine J_goto C 17 dX8_at_13 rfl ?_
      exact J_iret C hr hk () rfl dX8_at_17 h
def wp_X8_put (n1 : Nat) (f1 : Nat → Int32) (x1 : Int32) (x2 : Int32) (Q : (Nat → Int32) → Prop) : Prop := ((x1 < 0 → Q f1) ∧ (¬ x1 < 0 → (((Int32.ofNat n1) ≤ x1 → Q f1) ∧ (¬ (Int32.ofNat n1) ≤ x1 → vp_in x1 n1 ∧ (∀ f1s_1 : Nat → Int32, f1s_1 = upd f1 (Int32.toNatClampNeg x1) x2 → Q f1s_1)))))
set_option maxHeartbeats 4000000 in
set_option maxRecDepth 100000 in
theorem c_X8_put (l : Launch) (D : GG) (cI cJ cZ cS : ClassId) (n1 : Nat) (a1 : Nat) (f1 : Nat → Int32) (x1 : Int32) (x2 : Int32) (Q : (Nat → Int32) → Prop) (h : wp_X8_put n1 f1 x1 x2 Q) : Mv l D (tyL cI cJ cZ cS) yX8_put cX8_put 3 0 0 [.ref a1, .int x1, .int x2] (List.flatten [bI cI n1 a1 f1]) (fun (u : (Nat → Int32)) => Q u) (fun (u : (Nat → Int32)) => List.flatten [bI cI n1 a1 u]) := by
  refine Mv_of RX8 [(0, .ref a1), (1, .int x1), (2, .int x2)] (by decide +kernel) rfl rfl (Nat.le_of_ble_eq_true rfl) ?_
  intro p e s m args below meth c A C hr hk
  refine J_iload_n C 1 dX8_put_0 rfl rfl ?_
  refine J_if_lt C 4 14 dX8_put_1 rfl rfl (fun c => ?_) (fun c => ?_)
  · have h := h.1 c
    exact J_vret C hr hk f1 rfl dX8_put_14 h
  · have h := h.2 c
    refine J_iload_n C 5 dX8_put_4 rfl rfl ?_
    refine J_aload_n C 6 dX8_put_5 rfl rfl ?_
    refine J_alen C 7 0 0 rfl rfl rfl dX8_put_6 rfl ?_
    refine J_icmp_ge C 10 14 dX8_put_7 rfl rfl (fun c => ?_) (fun c => ?_)
    · have h := h.1 c
      exact J_vret C hr hk f1 rfl dX8_put_14 h
    · have h := h.2 c
      refine J_aload_n C 11 dX8_put_10 rfl rfl ?_
      refine J_iload_n C 12 dX8_put_11 rfl rfl ?_
      refine J_iload_n C 13 dX8_put_12 rfl rfl ?_
      obtain ⟨hi, h⟩ := h
      obtain ⟨f1s_1, ef1s_1⟩ : ∃ z : Nat → Int32, z = upd f1 (Int32.toNatClampNeg x1) x2 := ⟨_, rfl⟩
      have h := h f1s_1 ef1s_1
      refine J_iast C 14 0 0 rfl rfl hi (List.flatten [bI cI n1 a1 f1s_1]) (by subst ef1s_1; rfl) dX8_put_13 rfl ?_
      exact J_vret C hr hk f1s_1 rfl dX8_put_14 h
def wp_X8_copyRow (n1 : Nat) (f1 : Nat → Int32) (n2 : Nat) (f2 : Nat → Int32)  (Q : (Nat → Int32) → Prop) : Prop := (¬ (0 : Int32) < 0 ∧ ¬ (0 : Int32) < 0 ∧ ¬ ((if (Int32.ofNat n2) < (Int32.ofNat n1) then (Int32.ofNat n2) else (Int32.ofNat n1)) : Int32) < 0 ∧ Int32.toNatClampNeg 0 + Int32.toNatClampNeg (if (Int32.ofNat n2) < (Int32.ofNat n1) then (Int32.ofNat n2) else (Int32.ofNat n1)) ≤ n1 ∧ Int32.toNatClampNeg 0 + Int32.toNatClampNeg (if (Int32.ofNat n2) < (Int32.ofNat n1) then (Int32.ofNat n2) else (Int32.ofNat n1)) ≤ n2) ∧ (∀ f2s_1 : Nat → Int32, f2s_1 = va_cpy f1 f2 (Int32.toNatClampNeg 0) (Int32.toNatClampNeg 0) (Int32.toNatClampNeg (if (Int32.ofNat n2) < (Int32.ofNat n1) then (Int32.ofNat n2) else (Int32.ofNat n1))) → Q f2s_1)
set_option maxHeartbeats 4000000 in
set_option maxRecDepth 100000 in
theorem c_X8_copyRow (l : Launch) (D : GG) (cI cJ cZ cS : ClassId) (n1 : Nat) (a1 : Nat) (f1 : Nat → Int32) (n2 : Nat) (a2 : Nat) (f2 : Nat → Int32)  (Q : (Nat → Int32) → Prop) (h : wp_X8_copyRow n1 f1 n2 f2 Q) : Mv l D (tyL cI cJ cZ cS) yX8_copyRow cX8_copyRow 2 1 40 [.ref a1, .ref a2] (List.flatten [bI cI n1 a1 f1, bI cI n2 a2 f2]) (fun (u : (Nat → Int32)) => Q u) (fun (u : (Nat → Int32)) => List.flatten [bI cI n1 a1 f1, bI cI n2 a2 u]) := by
  refine Mv_of RX8 [(0, .ref a1), (1, .ref a2)] (by decide +kernel) rfl rfl (Nat.le_of_ble_eq_true rfl) ?_
  intro p e s m args below meth c A C hr hk
  refine J_aload_n C 1 dX8_copyRow_0 rfl rfl ?_
  refine J_iconst C 2 dX8_copyRow_1 rfl ki_0 ?_
  refine J_aload_n C 3 dX8_copyRow_2 rfl rfl ?_
  refine J_iconst C 4 dX8_copyRow_3 rfl ki_0 ?_
  refine J_aload_n C 5 dX8_copyRow_4 rfl rfl ?_
  refine J_alen C 6 0 0 rfl rfl rfl dX8_copyRow_5 rfl ?_
  refine J_aload_n C 7 dX8_copyRow_6 rfl rfl ?_
  refine J_alen C 8 1 0 rfl rfl rfl dX8_copyRow_7 rfl ?_
  refine J_mmin C 11 wd780 wd626 wd100 wd627 (Nat.le_of_ble_eq_true rfl) (Nat.le_of_ble_eq_true rfl) ⟨Nat.zero_le _, Nat.zero_le _⟩ dX8_copyRow_8 rfl ?_
  obtain ⟨hi, h⟩ := h
  obtain ⟨f2s_1, ef2s_1⟩ : ∃ z : Nat → Int32, z = va_cpy f1 f2 (Int32.toNatClampNeg 0) (Int32.toNatClampNeg 0) (Int32.toNatClampNeg (if (Int32.ofNat n2) < (Int32.ofNat n1) then (Int32.ofNat n2) else (Int32.ofNat n1))) := ⟨_, rfl⟩
  have h := h f2s_1 ef2s_1
  refine J_copyi C 14 wd781 wd782 wd783 wd784 0 1 rfl rfl rfl rfl hi (List.flatten [bI cI n1 a1 f1, bI cI n2 a2 f2s_1]) (by subst ef2s_1; rfl) (Nat.le_of_ble_eq_true rfl) (Nat.le_of_ble_eq_true rfl) dX8_copyRow_11 rfl ?_
  exact J_vret C hr hk f2s_1 rfl dX8_copyRow_14 h
def wp_X0_pagesOf (v0 : Vl) (x1 : Int32) (Q : Int32 → Prop) : Prop := wp_X8_at 9 (v0.2.2.1 1) x1 (fun r_1 => Q r_1)
set_option maxHeartbeats 4000000 in
set_option maxRecDepth 100000 in
theorem c_X0_pagesOf (l : Launch) (D : GG) (cI cJ cZ cS : ClassId) (a0 : Nat) (r0 : Nat → Nat) (v0 : Vl) (x1 : Int32) (Q : Int32 → Prop) (h : wp_X0_pagesOf v0 x1 Q) : Mi l D (tyL cI cJ cZ cS) yX0_pagesOf cX0_pagesOf 2 .int 1 21 [.ref a0, .int x1] (List.flatten [bX0 cI cJ cZ a0 r0 v0]) (fun (r : Int32) (u : Unit) => Q r) (fun (u : Unit) => List.flatten [bX0 cI cJ cZ a0 r0 v0]) := by
  refine Mi_of RX0 [(0, .ref a0), (1, .int x1)] (by decide +kernel) rfl rfl (Nat.le_of_ble_eq_true rfl) ?_
  intro p e s m args below meth c A C hr hk
  refine J_aload_n C 1 dX0_pagesOf_0 rfl rfl ?_
  refine J_get C 4 0 inlX0 0 1 rfl rfl (by decide) wd131 rfl rfl dX0_pagesOf_1 rfl ?_
  refine J_iload_n C 5 dX0_pagesOf_4 rfl rfl ?_
  refine J_call1piSN (As := [.ref (r0 1), .int x1]) C 8 (c_X8_at l D cI cJ cZ cS 9 (r0 1) (v0.2.2.1 1) x1 _ h) wd147 (mi 51 rfl) wd2 wd146 hdX8_at ⟨Nat.le_of_ble_eq_true rfl, Nat.le_of_ble_eq_true rfl⟩ ⟨Nat.zero_le _, Nat.zero_le _⟩ rfl (Nat.le_of_ble_eq_true rfl) 2 rfl (fun _ => rfl) dX0_pagesOf_5 rfl (fun r_1 u h => ?_)
  exact J_iret C hr hk () rfl dX0_pagesOf_8 h
def wp_X0_add (v0 : Vl) (x1 : Int32) (x2 : Int32) (Q : Vl → Prop) : Prop := wp_X0_pagesOf v0 x1 (fun r_1 => wp_X8_put 360 (v0.2.2.1 0) ((x1 * 40) + r_1) x2 (fun u_2 => ∀ v0s_3 : Vl, v0s_3 = setRA v0 0 u_2 → wp_X0_pagesOf v0s_3 x1 (fun r_4 => wp_X8_put 9 (v0s_3.2.2.1 1) x1 (r_4 + 1) (fun u_5 => ∀ v0s_6 : Vl, v0s_6 = setRA v0s_3 1 u_5 → Q v0s_6))))
set_option maxHeartbeats 4000000 in
set_option maxRecDepth 100000 in
theorem c_X0_add (l : Launch) (D : GG) (cI cJ cZ cS : ClassId) (a0 : Nat) (r0 : Nat → Nat) (v0 : Vl) (x1 : Int32) (x2 : Int32) (Q : Vl → Prop) (h : wp_X0_add v0 x1 x2 Q) : Mv l D (tyL cI cJ cZ cS) yX0_add cX0_add 3 2 42 [.ref a0, .int x1, .int x2] (List.flatten [bX0 cI cJ cZ a0 r0 v0]) (fun (u : Vl) => Q u) (fun (u : Vl) => List.flatten [bX0 cI cJ cZ a0 r0 u]) := by
  refine Mv_of RX0 [(0, .ref a0), (1, .int x1), (2, .int x2)] (by decide +kernel) rfl rfl (Nat.le_of_ble_eq_true rfl) ?_
  intro p e s m args below meth c A C hr hk
  refine J_aload_n C 1 dX0_add_0 rfl rfl ?_
  refine J_get C 4 0 inlX0 0 0 rfl rfl (by decide) wd130 rfl rfl dX0_add_1 rfl ?_
  refine J_iload_n C 5 dX0_add_4 rfl rfl ?_
  refine J_bipush C 7 dX0_add_5 rfl kb_40 ?_
  refine J_imul C 8 dX0_add_7 rfl ?_
  refine J_aload_n C 9 dX0_add_8 rfl rfl ?_
  refine J_iload_n C 10 dX0_add_9 rfl rfl ?_
  refine J_callBiV (Bs := [bX0 cI cJ cZ a0 r0 v0]) (As := [.int x1]) C 13 (c_X0_pagesOf l D cI cJ cZ cS a0 r0 v0 x1 _ h) wd985 wd990 wd48 wd983 wd984 0 0 rfl rfl rfl hdX0_pagesOf ⟨Nat.le_of_ble_eq_true rfl, Nat.le_of_ble_eq_true rfl⟩ ⟨Nat.zero_le _, Nat.zero_le _⟩ rfl (Nat.le_of_ble_eq_true rfl) [0] [] 1 rfl (by decide +kernel) rfl rfl (fun (u : Unit) => [bX0 cI cJ cZ a0 r0 v0]) (fun _ => rfl) [0] (by decide +kernel) (fun _ => rfl) rfl (fun (u : Unit) => [bX0 cI cJ cZ a0 r0 v0]) (fun _ => rfl) dX0_add_10 rfl (fun r_1 u h => ?_)
  refine J_iadd C 14 dX0_add_13 rfl ?_
  refine J_iload_n C 15 dX0_add_14 rfl rfl ?_
  refine J_call1vSN (As := [.ref (r0 0), .int ((x1 * 40) + r_1), .int x2]) C 18 (c_X8_put l D cI cJ cZ cS 360 (r0 0) (v0.2.2.1 0) ((x1 * 40) + r_1) x2 _ h) wd83 (mi 50 rfl) wd2 wd82 hdX8_put ⟨Nat.le_of_ble_eq_true rfl, Nat.le_of_ble_eq_true rfl⟩ ⟨Nat.zero_le _, Nat.zero_le _⟩ rfl (Nat.le_of_ble_eq_true rfl) 1 rfl (fun u => .inl (cI, 360, .inl u)) (fun _ => rfl) (fun (u : (Nat → Int32)) => List.flatten [bX0 cI cJ cZ a0 r0 (setRA v0 0 u)]) (fun _ => rfl) dX0_add_15 rfl (fun u h => ?_)
  obtain ⟨u_2, hu⟩ : ∃ z, z = u := ⟨_, rfl⟩
  subst hu
  obtain ⟨v0s_3, ev0s_3⟩ : ∃ z : Vl, z = setRA v0 0 u_2 := ⟨_, rfl⟩
  have h := h v0s_3 ev0s_3
  refine J_ws (ws' := List.flatten [bX0 cI cJ cZ a0 r0 v0s_3]) (by subst ev0s_3; rfl) ?_
  refine J_aload_n C 19 dX0_add_18 rfl rfl ?_
  refine J_get C 22 0 inlX0 0 1 rfl rfl (by decide) wd131 rfl rfl dX0_add_19 rfl ?_
  refine J_iload_n C 23 dX0_add_22 rfl rfl ?_
  refine J_aload_n C 24 dX0_add_23 rfl rfl ?_
  refine J_iload_n C 25 dX0_add_24 rfl rfl ?_
  refine J_callBiV (Bs := [bX0 cI cJ cZ a0 r0 v0s_3]) (As := [.int x1]) C 28 (c_X0_pagesOf l D cI cJ cZ cS a0 r0 v0s_3 x1 _ h) wd985 wd990 wd48 wd983 wd984 0 0 rfl rfl rfl hdX0_pagesOf ⟨Nat.le_of_ble_eq_true rfl, Nat.le_of_ble_eq_true rfl⟩ ⟨Nat.zero_le _, Nat.zero_le _⟩ rfl (Nat.le_of_ble_eq_true rfl) [0] [] 1 rfl (by decide +kernel) rfl rfl (fun (u : Unit) => [bX0 cI cJ cZ a0 r0 v0s_3]) (fun _ => rfl) [0] (by decide +kernel) (fun _ => rfl) rfl (fun (u : Unit) => [bX0 cI cJ cZ a0 r0 v0s_3]) (fun _ => rfl) dX0_add_25 rfl (fun r_4 u h => ?_)
  refine J_iconst C 29 dX0_add_28 rfl ki_1 ?_
  refine J_iadd C 30 dX0_add_29 rfl ?_
  refine J_call1vSN (As := [.ref (r0 1), .int x1, .int (r_4 + 1)]) C 33 (c_X8_put l D cI cJ cZ cS 9 (r0 1) (v0s_3.2.2.1 1) x1 (r_4 + 1) _ h) wd83 (mi 50 rfl) wd2 wd82 hdX8_put ⟨Nat.le_of_ble_eq_true rfl, Nat.le_of_ble_eq_true rfl⟩ ⟨Nat.zero_le _, Nat.zero_le _⟩ rfl (Nat.le_of_ble_eq_true rfl) 2 rfl (fun u => .inl (cI, 9, .inl u)) (fun _ => rfl) (fun (u : (Nat → Int32)) => List.flatten [bX0 cI cJ cZ a0 r0 (setRA v0s_3 1 u)]) (fun _ => rfl) dX0_add_30 rfl (fun u h => ?_)
  obtain ⟨u_5, hu⟩ : ∃ z, z = u := ⟨_, rfl⟩
  subst hu
  obtain ⟨v0s_6, ev0s_6⟩ : ∃ z : Vl, z = setRA v0s_3 1 u_5 := ⟨_, rfl⟩
  have h := h v0s_6 ev0s_6
  refine J_ws (ws' := List.flatten [bX0 cI cJ cZ a0 r0 v0s_6]) (by subst ev0s_6; rfl) ?_
  exact J_vret C hr hk v0s_6 rfl dX0_add_33 h
def wp_X0_empty (v0 : Vl) (x1 : Int32) (Q : Vl → Prop) : Prop := wp_X8_put 9 (v0.2.2.1 1) x1 0 (fun u_1 => ∀ v0s_2 : Vl, v0s_2 = setRA v0 1 u_1 → Q v0s_2)
set_option maxHeartbeats 4000000 in
set_option maxRecDepth 100000 in
theorem c_X0_empty (l : Launch) (D : GG) (cI cJ cZ cS : ClassId) (a0 : Nat) (r0 : Nat → Nat) (v0 : Vl) (x1 : Int32) (Q : Vl → Prop) (h : wp_X0_empty v0 x1 Q) : Mv l D (tyL cI cJ cZ cS) yX0_empty cX0_empty 2 1 22 [.ref a0, .int x1] (List.flatten [bX0 cI cJ cZ a0 r0 v0]) (fun (u : Vl) => Q u) (fun (u : Vl) => List.flatten [bX0 cI cJ cZ a0 r0 u]) := by
  refine Mv_of RX0 [(0, .ref a0), (1, .int x1)] (by decide +kernel) rfl rfl (Nat.le_of_ble_eq_true rfl) ?_
  intro p e s m args below meth c A C hr hk
  refine J_aload_n C 1 dX0_empty_0 rfl rfl ?_
  refine J_get C 4 0 inlX0 0 1 rfl rfl (by decide) wd131 rfl rfl dX0_empty_1 rfl ?_
  refine J_iload_n C 5 dX0_empty_4 rfl rfl ?_
  refine J_iconst C 6 dX0_empty_5 rfl ki_0 ?_
  refine J_call1vSN (As := [.ref (r0 1), .int x1, .int 0]) C 9 (c_X8_put l D cI cJ cZ cS 9 (r0 1) (v0.2.2.1 1) x1 0 _ h) wd83 (mi 50 rfl) wd2 wd82 hdX8_put ⟨Nat.le_of_ble_eq_true rfl, Nat.le_of_ble_eq_true rfl⟩ ⟨Nat.zero_le _, Nat.zero_le _⟩ rfl (Nat.le_of_ble_eq_true rfl) 2 rfl (fun u => .inl (cI, 9, .inl u)) (fun _ => rfl) (fun (u : (Nat → Int32)) => List.flatten [bX0 cI cJ cZ a0 r0 (setRA v0 1 u)]) (fun _ => rfl) dX0_empty_6 rfl (fun u h => ?_)
  obtain ⟨u_1, hu⟩ : ∃ z, z = u := ⟨_, rfl⟩
  subst hu
  obtain ⟨v0s_2, ev0s_2⟩ : ∃ z : Vl, z = setRA v0 1 u_1 := ⟨_, rfl⟩
  have h := h v0s_2 ev0s_2
  refine J_ws (ws' := List.flatten [bX0 cI cJ cZ a0 r0 v0s_2]) (by subst ev0s_2; rfl) ?_
  exact J_vret C hr hk v0s_2 rfl dX0_empty_9 h
def wp_X0_clear_c2  (Q : Vl → Prop) : Nat → Vl → Int32 → Prop
  | 0 => fun _ _ => False
  | n + 1 => fun v0 y1 => ((9 ≤ y1 → Q v0) ∧ (¬ 9 ≤ y1 → wp_X0_empty v0 y1 (fun u_1 => ∀ x_2 : Int32, x_2 = y1 + 1 → wp_X0_clear_c2  Q n u_1 x_2)))
set_option maxHeartbeats 4000000 in
set_option maxRecDepth 100000 in
theorem wk_X0_clear_c2 {p : Program} {l : Launch} {e : Env} {s : State} {m : MethodId} {args : Array Value} {below : List Frame} {meth : Method} {c : Code} {D : GG} {A : Nat → Prop} {cI cJ cZ cS : ClassId} {a0 : Nat} {r0 : Nat → Nat}  {Q : Vl → Prop} (C : Cx p s m args c D (tyL cI cJ cZ cS) A RX0 cX0_clear 2) (hr : meth.sig.returnType = none) (hk : meth.locks = false) : ∀ (n : Nat) (v0 : Vl) (y1 : Int32), wp_X0_clear_c2  Q n v0 y1 → J p l e (rmk 2 43) s m args below meth c D A 2 0 0 (MQ below (va_Qv (fun (u : Vl) => Q u) (fun u t => va_P D.1 vwCl ((fun (u : Vl) => List.flatten [bX0 cI cJ cZ a0 r0 u]) u) t.heap ∧ va_D A ((fun (u : Vl) => List.flatten [bX0 cI cJ cZ a0 r0 u]) u)) A) args s 0 0 A) 2 [(0, .ref a0), (1, .int y1)] [] (List.flatten [bX0 cI cJ cZ a0 r0 v0]) := by
  intro n
  induction n with
  | zero =>
    intro v0 y1 h
    exact False.elim h
  | succ n ih =>
    intro v0 y1 h
    refine J_iload_n C 3 dX0_clear_2 rfl rfl ?_
    refine J_bipush C 5 dX0_clear_3 rfl kb_9 ?_
    refine J_icmp_ge C 8 19 dX0_clear_5 rfl rfl (fun c => ?_) (fun c => ?_)
    · have h := h.1 c
      exact J_vret C hr hk v0 rfl dX0_clear_19 h
    · have h := h.2 c
      refine J_aload_n C 9 dX0_clear_8 rfl rfl ?_
      refine J_iload_n C 10 dX0_clear_9 rfl rfl ?_
      refine J_callBvV (Bs := [bX0 cI cJ cZ a0 r0 v0]) (As := [.int y1]) C 13 (c_X0_empty l D cI cJ cZ cS a0 r0 v0 y1 _ h) wd393 wd390 wd48 wd391 wd392 0 0 rfl rfl rfl hdX0_empty ⟨Nat.le_of_ble_eq_true rfl, Nat.le_of_ble_eq_true rfl⟩ ⟨Nat.zero_le _, Nat.zero_le _⟩ rfl (Nat.le_of_ble_eq_true rfl) [0] [] 1 rfl (by decide +kernel) rfl rfl (fun (u : Vl) => [bX0 cI cJ cZ a0 r0 u]) (fun _ => rfl) [0] (by decide +kernel) (fun _ => rfl) rfl (fun (u : Vl) => [bX0 cI cJ cZ a0 r0 u]) (fun _ => rfl) dX0_clear_10 rfl (fun u h => ?_)
      obtain ⟨u_1, hu⟩ : ∃ z, z = u := ⟨_, rfl⟩
      subst hu
      obtain ⟨x_2, ex_2⟩ : ∃ z : Int32, z = y1 + 1 := ⟨_, rfl⟩
      have h := h x_2 ex_2
      refine J_iinc C 16 [(1, .int x_2), (0, .ref a0)] dX0_clear_13 rfl rfl ((kinc_1 _).trans ex_2.symm) (by decide) rfl ?_
      refine J_goto C 2 dX0_clear_16 rfl ?_
      refine J_loc [1, 0] rfl ?_
      exact ih u_1 x_2 h
def wp_X0_clear (v0 : Vl)  (Q : Vl → Prop) : Prop := (∃ k : Nat, wp_X0_clear_c2  Q k v0 0)
set_option maxHeartbeats 4000000 in
set_option maxRecDepth 100000 in
theorem c_X0_clear (l : Launch) (D : GG) (cI cJ cZ cS : ClassId) (a0 : Nat) (r0 : Nat → Nat) (v0 : Vl)  (Q : Vl → Prop) (h : wp_X0_clear v0 Q) : Mv l D (tyL cI cJ cZ cS) yX0_clear cX0_clear 2 2 43 [.ref a0] (List.flatten [bX0 cI cJ cZ a0 r0 v0]) (fun (u : Vl) => Q u) (fun (u : Vl) => List.flatten [bX0 cI cJ cZ a0 r0 u]) := by
  refine Mv_of RX0 [(0, .ref a0)] (by decide +kernel) rfl rfl (Nat.le_of_ble_eq_true rfl) ?_
  intro p e s m args below meth c A C hr hk
  refine J_iconst C 1 dX0_clear_0 rfl ki_0 ?_
  refine J_istore_n C 2 [(1, .int 0), (0, .ref a0)] dX0_clear_1 rfl (by decide) rfl ?_
  refine J_loc [1, 0] rfl ?_
  obtain ⟨n1, h⟩ := h
  exact wk_X0_clear_c2 C hr hk n1 v0 0 h
def wp_X0_oilOn (v0 : Vl) (x1 : Int32) (x2 : Int32) (Q : Int32 → Prop) : Prop := wp_X8_at 360 (v0.2.2.1 0) ((x1 * 40) + x2) (fun r_1 => Q r_1)
set_option maxHeartbeats 4000000 in
set_option maxRecDepth 100000 in
theorem c_X0_oilOn (l : Launch) (D : GG) (cI cJ cZ cS : ClassId) (a0 : Nat) (r0 : Nat → Nat) (v0 : Vl) (x1 : Int32) (x2 : Int32) (Q : Int32 → Prop) (h : wp_X0_oilOn v0 x1 x2 Q) : Mi l D (tyL cI cJ cZ cS) yX0_oilOn cX0_oilOn 3 .int 1 21 [.ref a0, .int x1, .int x2] (List.flatten [bX0 cI cJ cZ a0 r0 v0]) (fun (r : Int32) (u : Unit) => Q r) (fun (u : Unit) => List.flatten [bX0 cI cJ cZ a0 r0 v0]) := by
  refine Mi_of RX0 [(0, .ref a0), (1, .int x1), (2, .int x2)] (by decide +kernel) rfl rfl (Nat.le_of_ble_eq_true rfl) ?_
  intro p e s m args below meth c A C hr hk
  refine J_aload_n C 1 dX0_oilOn_0 rfl rfl ?_
  refine J_get C 4 0 inlX0 0 0 rfl rfl (by decide) wd130 rfl rfl dX0_oilOn_1 rfl ?_
  refine J_iload_n C 5 dX0_oilOn_4 rfl rfl ?_
  refine J_bipush C 7 dX0_oilOn_5 rfl kb_40 ?_
  refine J_imul C 8 dX0_oilOn_7 rfl ?_
  refine J_iload_n C 9 dX0_oilOn_8 rfl rfl ?_
  refine J_iadd C 10 dX0_oilOn_9 rfl ?_
  refine J_call1piSN (As := [.ref (r0 0), .int ((x1 * 40) + x2)]) C 13 (c_X8_at l D cI cJ cZ cS 360 (r0 0) (v0.2.2.1 0) ((x1 * 40) + x2) _ h) wd147 (mi 51 rfl) wd2 wd146 hdX8_at ⟨Nat.le_of_ble_eq_true rfl, Nat.le_of_ble_eq_true rfl⟩ ⟨Nat.zero_le _, Nat.zero_le _⟩ rfl (Nat.le_of_ble_eq_true rfl) 1 rfl (fun _ => rfl) dX0_oilOn_10 rfl (fun r_1 u h => ?_)
  exact J_iret C hr hk () rfl dX0_oilOn_13 h
def wp_X1_add_c29  (Q : Vl → Prop) (v0 : Vl) (s0 : Int32) (s1 : Int32) : Prop := wp_X8_put 12 (v0.2.2.1 1) s1 s0 (fun u_3 => ∀ v0s_4 : Vl, v0s_4 = setRA v0 1 u_3 → ∀ v0s_5 : Vl, v0s_5 = setI v0s_4 2 ((v0s_4.1 2) + 1) → Q v0s_5)
set_option maxHeartbeats 4000000 in
set_option maxRecDepth 100000 in
theorem wk_X1_add_c29 {p : Program} {l : Launch} {e : Env} {s : State} {m : MethodId} {args : Array Value} {below : List Frame} {meth : Method} {c : Code} {D : GG} {A : Nat → Prop} {cI cJ cZ cS : ClassId} {a0 : Nat} {r0 : Nat → Nat}  {Q : Vl → Prop} (C : Cx p s m args c D (tyL cI cJ cZ cS) A RX1 cX1_add 3) (hr : meth.sig.returnType = none) (hk : meth.locks = false) : ∀ (v0 : Vl) (s0 : Int32) (s1 : Int32), wp_X1_add_c29  Q v0 s0 s1 → J p l e (rmk 1 22) s m args below meth c D A 3 0 0 (MQ below (va_Qv (fun (u : Vl) => Q u) (fun u t => va_P D.1 vwCl ((fun (u : Vl) => List.flatten [bX1 cI cJ cZ a0 r0 u]) u) t.heap ∧ va_D A ((fun (u : Vl) => List.flatten [bX1 cI cJ cZ a0 r0 u]) u)) A) args s 0 0 A) 29 [(0, .ref a0)] [.int s0, .int s1, .ref (r0 1)] (List.flatten [bX1 cI cJ cZ a0 r0 v0]) := by
  intro v0 s0 s1 h
  refine J_call1vSN (As := [.ref (r0 1), .int s1, .int s0]) C 32 (c_X8_put l D cI cJ cZ cS 12 (r0 1) (v0.2.2.1 1) s1 s0 _ h) wd83 (mi 52 rfl) wd2 wd82 hdX8_put ⟨Nat.le_of_ble_eq_true rfl, Nat.le_of_ble_eq_true rfl⟩ ⟨Nat.zero_le _, Nat.zero_le _⟩ rfl (Nat.le_of_ble_eq_true rfl) 2 rfl (fun u => .inl (cI, 12, .inl u)) (fun _ => rfl) (fun (u : (Nat → Int32)) => List.flatten [bX1 cI cJ cZ a0 r0 (setRA v0 1 u)]) (fun _ => rfl) dX1_add_29 rfl (fun u h => ?_)
  obtain ⟨u_3, hu⟩ : ∃ z, z = u := ⟨_, rfl⟩
  subst hu
  obtain ⟨v0s_4, ev0s_4⟩ : ∃ z : Vl, z = setRA v0 1 u_3 := ⟨_, rfl⟩
  have h := h v0s_4 ev0s_4
  refine J_ws (ws' := List.flatten [bX1 cI cJ cZ a0 r0 v0s_4]) (by subst ev0s_4; rfl) ?_
  refine J_aload_n C 33 dX1_add_32 rfl rfl ?_
  refine J_dup C 34 dX1_add_33 rfl rfl ?_
  refine J_get C 37 1 inlX1 0 2 rfl rfl (by decide) wd385 rfl rfl dX1_add_34 rfl ?_
  refine J_iconst C 38 dX1_add_37 rfl ki_1 ?_
  refine J_iadd C 39 dX1_add_38 rfl ?_
  obtain ⟨v0s_5, ev0s_5⟩ : ∃ z : Vl, z = setI v0s_4 2 ((v0s_4.1 2) + 1) := ⟨_, rfl⟩
  have h := h v0s_5 ev0s_5
  refine J_put C 42 1 inlX1 tyX1 tyX1_ok nmX1 0 2 rfl rfl (by decide) wd385 rfl rfl rfl rfl rfl (List.flatten [bX1 cI cJ cZ a0 r0 v0s_5]) (by subst ev0s_5; rfl) dX1_add_39 rfl ?_
  exact J_vret C hr hk v0s_5 rfl dX1_add_42 h
def wp_X1_add (v0 : Vl) (x1 : Int32) (x2 : Int32) (Q : Vl → Prop) : Prop := wp_X8_put 12 (v0.2.2.1 0) (v0.1 2) x1 (fun u_1 => ∀ v0s_2 : Vl, v0s_2 = setRA v0 0 u_1 → ((x2 = 0 → wp_X1_add_c29  Q v0s_2 0 (v0s_2.1 2)) ∧ (¬ x2 = 0 → wp_X1_add_c29  Q v0s_2 1 (v0s_2.1 2))))
set_option maxHeartbeats 4000000 in
set_option maxRecDepth 100000 in
theorem c_X1_add (l : Launch) (D : GG) (cI cJ cZ cS : ClassId) (a0 : Nat) (r0 : Nat → Nat) (v0 : Vl) (x1 : Int32) (x2 : Int32) (Q : Vl → Prop) (h : wp_X1_add v0 x1 x2 Q) : Mv l D (tyL cI cJ cZ cS) yX1_add cX1_add 3 1 22 [.ref a0, .int x1, .int x2] (List.flatten [bX1 cI cJ cZ a0 r0 v0]) (fun (u : Vl) => Q u) (fun (u : Vl) => List.flatten [bX1 cI cJ cZ a0 r0 u]) := by
  refine Mv_of RX1 [(0, .ref a0), (1, .int x1), (2, .int x2)] (by decide +kernel) rfl rfl (Nat.le_of_ble_eq_true rfl) ?_
  intro p e s m args below meth c A C hr hk
  refine J_aload_n C 1 dX1_add_0 rfl rfl ?_
  refine J_get C 4 1 inlX1 0 0 rfl rfl (by decide) wd124 rfl rfl dX1_add_1 rfl ?_
  refine J_aload_n C 5 dX1_add_4 rfl rfl ?_
  refine J_get C 8 1 inlX1 0 2 rfl rfl (by decide) wd385 rfl rfl dX1_add_5 rfl ?_
  refine J_iload_n C 9 dX1_add_8 rfl rfl ?_
  refine J_call1vSN (As := [.ref (r0 0), .int (v0.1 2), .int x1]) C 12 (c_X8_put l D cI cJ cZ cS 12 (r0 0) (v0.2.2.1 0) (v0.1 2) x1 _ h) wd83 (mi 52 rfl) wd2 wd82 hdX8_put ⟨Nat.le_of_ble_eq_true rfl, Nat.le_of_ble_eq_true rfl⟩ ⟨Nat.zero_le _, Nat.zero_le _⟩ rfl (Nat.le_of_ble_eq_true rfl) 1 rfl (fun u => .inl (cI, 12, .inl u)) (fun _ => rfl) (fun (u : (Nat → Int32)) => List.flatten [bX1 cI cJ cZ a0 r0 (setRA v0 0 u)]) (fun _ => rfl) dX1_add_9 rfl (fun u h => ?_)
  obtain ⟨u_1, hu⟩ : ∃ z, z = u := ⟨_, rfl⟩
  subst hu
  obtain ⟨v0s_2, ev0s_2⟩ : ∃ z : Vl, z = setRA v0 0 u_1 := ⟨_, rfl⟩
  have h := h v0s_2 ev0s_2
  refine J_ws (ws' := List.flatten [bX1 cI cJ cZ a0 r0 v0s_2]) (by subst ev0s_2; rfl) ?_
  refine J_aload_n C 13 dX1_add_12 rfl rfl ?_
  refine J_get C 16 1 inlX1 0 1 rfl rfl (by decide) wd125 rfl rfl dX1_add_13 rfl ?_
  refine J_aload_n C 17 dX1_add_16 rfl rfl ?_
  refine J_get C 20 1 inlX1 0 2 rfl rfl (by decide) wd385 rfl rfl dX1_add_17 rfl ?_
  refine J_iload_n C 21 dX1_add_20 rfl rfl ?_
  refine J_if_eq C 24 28 dX1_add_21 rfl rfl (fun c => ?_) (fun c => ?_)
  · have h := h.1 c
    refine J_iconst C 29 dX1_add_28 rfl ki_0 ?_
    refine J_loc [0] rfl ?_
    exact wk_X1_add_c29 C hr hk v0s_2 0 (v0s_2.1 2) h
  · have h := h.2 c
    refine J_iconst C 25 dX1_add_24 rfl ki_1 ?_
    refine J_goto C 29 dX1_add_25 rfl ?_
    refine J_loc [0] rfl ?_
    exact wk_X1_add_c29 C hr hk v0s_2 1 (v0s_2.1 2) h
def wp_X1_clear (v0 : Vl)  (Q : Vl → Prop) : Prop := ∀ v0s_1 : Vl, v0s_1 = setI v0 2 0 → Q v0s_1
set_option maxHeartbeats 4000000 in
set_option maxRecDepth 100000 in
theorem c_X1_clear (l : Launch) (D : GG) (cI cJ cZ cS : ClassId) (a0 : Nat) (r0 : Nat → Nat) (v0 : Vl)  (Q : Vl → Prop) (h : wp_X1_clear v0 Q) : Mv l D (tyL cI cJ cZ cS) yX1_clear cX1_clear 1 0 0 [.ref a0] (List.flatten [bX1 cI cJ cZ a0 r0 v0]) (fun (u : Vl) => Q u) (fun (u : Vl) => List.flatten [bX1 cI cJ cZ a0 r0 u]) := by
  refine Mv_of RX1 [(0, .ref a0)] (by decide +kernel) rfl rfl (Nat.le_of_ble_eq_true rfl) ?_
  intro p e s m args below meth c A C hr hk
  refine J_aload_n C 1 dX1_clear_0 rfl rfl ?_
  refine J_iconst C 2 dX1_clear_1 rfl ki_0 ?_
  obtain ⟨v0s_1, ev0s_1⟩ : ∃ z : Vl, z = setI v0 2 0 := ⟨_, rfl⟩
  have h := h v0s_1 ev0s_1
  refine J_put C 5 1 inlX1 tyX1 tyX1_ok nmX1 0 2 rfl rfl (by decide) wd385 rfl rfl rfl rfl rfl (List.flatten [bX1 cI cJ cZ a0 r0 v0s_1]) (by subst ev0s_1; rfl) dX1_clear_2 rfl ?_
  exact J_vret C hr hk v0s_1 rfl dX1_clear_5 h
def wp_X1_wrongWith_c57 (v0 : Vl) (Q : Int32 → Prop) (B4 : Int32 → Int32 → Int32 → Prop) (y1 : Int32) (y2 : Int32) (y3 : Int32) : Prop := ∀ x_3 : Int32, x_3 = y3 + 1 → B4 y1 y2 x_3
set_option maxHeartbeats 4000000 in
set_option maxRecDepth 100000 in
theorem wk_X1_wrongWith_c57 {p : Program} {l : Launch} {e : Env} {s : State} {m : MethodId} {args : Array Value} {below : List Frame} {meth : Method} {c : Code} {D : GG} {A : Nat → Prop} {cI cJ cZ cS : ClassId} {a0 : Nat} {r0 : Nat → Nat} {v0 : Vl} {B4 : Int32 → Int32 → Int32 → Prop} {Q : Int32 → Prop} (C : Cx p s m args c D (tyL cI cJ cZ cS) A RX1 cX1_wrongWith 5) (hr : meth.sig.returnType = some .int) (hk : meth.locks = false) (hB4 : ∀ (y1 : Int32) (y2 : Int32) (y3 : Int32), B4 y1 y2 y3 → J p l e (rmk 1 21) s m args below meth c D A 5 0 0 (MQ below (va_Qi (fun (r : Int32) (u : Unit) => Q r) (fun u t => va_P D.1 vwCl ((fun (u : Unit) => List.flatten [bX1 cI cJ cZ a0 r0 v0]) u) t.heap ∧ va_D A ((fun (u : Unit) => List.flatten [bX1 cI cJ cZ a0 r0 v0]) u)) A) args s 0 0 A) 4 [(0, .ref a0), (1, .int y1), (2, .int y2), (3, .int y3)] [] (List.flatten [bX1 cI cJ cZ a0 r0 v0])) : ∀ (y1 : Int32) (y2 : Int32) (y3 : Int32), wp_X1_wrongWith_c57 v0 Q B4 y1 y2 y3 → J p l e (rmk 1 21) s m args below meth c D A 5 0 0 (MQ below (va_Qi (fun (r : Int32) (u : Unit) => Q r) (fun u t => va_P D.1 vwCl ((fun (u : Unit) => List.flatten [bX1 cI cJ cZ a0 r0 v0]) u) t.heap ∧ va_D A ((fun (u : Unit) => List.flatten [bX1 cI cJ cZ a0 r0 v0]) u)) A) args s 0 0 A) 57 [(0, .ref a0), (1, .int y1), (2, .int y2), (3, .int y3)] [] (List.flatten [bX1 cI cJ cZ a0 r0 v0]) := by
  intro y1 y2 y3 h
  obtain ⟨x_3, ex_3⟩ : ∃ z : Int32, z = y3 + 1 := ⟨_, rfl⟩
  have h := h x_3 ex_3
  refine J_iinc C 60 [(3, .int x_3), (0, .ref a0), (1, .int y1), (2, .int y2)] dX1_wrongWith_57 rfl rfl ((kinc_1 _).trans ex_3.symm) (by decide) rfl ?_
  refine J_goto C 4 dX1_wrongWith_60 rfl ?_
  refine J_loc [1, 2, 3, 0] rfl ?_
  exact hB4 y1 y2 x_3 h
def wp_X1_wrongWith_c51 (v0 : Vl) (Q : Int32 → Prop) (B4 : Int32 → Int32 → Int32 → Prop) (y1 : Int32) (y2 : Int32) (y3 : Int32) (s0 : Int32) (s1 : Int32) : Prop := ((s1 = s0 → wp_X1_wrongWith_c57 v0 Q B4 y1 y2 y3) ∧ (¬ s1 = s0 → ∀ x_4 : Int32, x_4 = y2 + 1 → wp_X1_wrongWith_c57 v0 Q B4 y1 x_4 y3))
set_option maxHeartbeats 4000000 in
set_option maxRecDepth 100000 in
theorem wk_X1_wrongWith_c51 {p : Program} {l : Launch} {e : Env} {s : State} {m : MethodId} {args : Array Value} {below : List Frame} {meth : Method} {c : Code} {D : GG} {A : Nat → Prop} {cI cJ cZ cS : ClassId} {a0 : Nat} {r0 : Nat → Nat} {v0 : Vl} {B4 : Int32 → Int32 → Int32 → Prop} {Q : Int32 → Prop} (C : Cx p s m args c D (tyL cI cJ cZ cS) A RX1 cX1_wrongWith 5) (hr : meth.sig.returnType = some .int) (hk : meth.locks = false) (hB4 : ∀ (y1 : Int32) (y2 : Int32) (y3 : Int32), B4 y1 y2 y3 → J p l e (rmk 1 21) s m args below meth c D A 5 0 0 (MQ below (va_Qi (fun (r : Int32) (u : Unit) => Q r) (fun u t => va_P D.1 vwCl ((fun (u : Unit) => List.flatten [bX1 cI cJ cZ a0 r0 v0]) u) t.heap ∧ va_D A ((fun (u : Unit) => List.flatten [bX1 cI cJ cZ a0 r0 v0]) u)) A) args s 0 0 A) 4 [(0, .ref a0), (1, .int y1), (2, .int y2), (3, .int y3)] [] (List.flatten [bX1 cI cJ cZ a0 r0 v0])) : ∀ (y1 : Int32) (y2 : Int32) (y3 : Int32) (s0 : Int32) (s1 : Int32), wp_X1_wrongWith_c51 v0 Q B4 y1 y2 y3 s0 s1 → J p l e (rmk 1 21) s m args below meth c D A 5 0 0 (MQ below (va_Qi (fun (r : Int32) (u : Unit) => Q r) (fun u t => va_P D.1 vwCl ((fun (u : Unit) => List.flatten [bX1 cI cJ cZ a0 r0 v0]) u) t.heap ∧ va_D A ((fun (u : Unit) => List.flatten [bX1 cI cJ cZ a0 r0 v0]) u)) A) args s 0 0 A) 51 [(0, .ref a0), (1, .int y1), (2, .int y2), (3, .int y3)] [.int s0, .int s1] (List.flatten [bX1 cI cJ cZ a0 r0 v0]) := by
  intro y1 y2 y3 s0 s1 h
  refine J_icmp_eq C 54 57 dX1_wrongWith_51 rfl rfl (fun c => ?_) (fun c => ?_)
  · have h := h.1 c
    refine J_loc [0, 1, 2, 3] rfl ?_
    exact wk_X1_wrongWith_c57 C hr hk hB4 y1 y2 y3 h
  · have h := h.2 c
    obtain ⟨x_4, ex_4⟩ : ∃ z : Int32, z = y2 + 1 := ⟨_, rfl⟩
    have h := h x_4 ex_4
    refine J_iinc C 57 [(2, .int x_4), (0, .ref a0), (1, .int y1), (3, .int y3)] dX1_wrongWith_54 rfl rfl ((kinc_1 _).trans ex_4.symm) (by decide) rfl ?_
    refine J_loc [1, 2, 0, 3] rfl ?_
    exact wk_X1_wrongWith_c57 C hr hk hB4 y1 x_4 y3 h
def wp_X1_wrongWith_c30 (v0 : Vl) (Q : Int32 → Prop) (B4 : Int32 → Int32 → Int32 → Prop) (y1 : Int32) (y2 : Int32) (y3 : Int32) (s0 : Int32) : Prop := wp_X8_at 12 (v0.2.2.1 1) y3 (fun r_2 => ((¬ r_2 = 1 → wp_X1_wrongWith_c51 v0 Q B4 y1 y2 y3 0 s0) ∧ (r_2 = 1 → wp_X1_wrongWith_c51 v0 Q B4 y1 y2 y3 1 s0)))
set_option maxHeartbeats 4000000 in
set_option maxRecDepth 100000 in
theorem wk_X1_wrongWith_c30 {p : Program} {l : Launch} {e : Env} {s : State} {m : MethodId} {args : Array Value} {below : List Frame} {meth : Method} {c : Code} {D : GG} {A : Nat → Prop} {cI cJ cZ cS : ClassId} {a0 : Nat} {r0 : Nat → Nat} {v0 : Vl} {B4 : Int32 → Int32 → Int32 → Prop} {Q : Int32 → Prop} (C : Cx p s m args c D (tyL cI cJ cZ cS) A RX1 cX1_wrongWith 5) (hr : meth.sig.returnType = some .int) (hk : meth.locks = false) (hB4 : ∀ (y1 : Int32) (y2 : Int32) (y3 : Int32), B4 y1 y2 y3 → J p l e (rmk 1 21) s m args below meth c D A 5 0 0 (MQ below (va_Qi (fun (r : Int32) (u : Unit) => Q r) (fun u t => va_P D.1 vwCl ((fun (u : Unit) => List.flatten [bX1 cI cJ cZ a0 r0 v0]) u) t.heap ∧ va_D A ((fun (u : Unit) => List.flatten [bX1 cI cJ cZ a0 r0 v0]) u)) A) args s 0 0 A) 4 [(0, .ref a0), (1, .int y1), (2, .int y2), (3, .int y3)] [] (List.flatten [bX1 cI cJ cZ a0 r0 v0])) : ∀ (y1 : Int32) (y2 : Int32) (y3 : Int32) (s0 : Int32), wp_X1_wrongWith_c30 v0 Q B4 y1 y2 y3 s0 → J p l e (rmk 1 21) s m args below meth c D A 5 0 0 (MQ below (va_Qi (fun (r : Int32) (u : Unit) => Q r) (fun u t => va_P D.1 vwCl ((fun (u : Unit) => List.flatten [bX1 cI cJ cZ a0 r0 v0]) u) t.heap ∧ va_D A ((fun (u : Unit) => List.flatten [bX1 cI cJ cZ a0 r0 v0]) u)) A) args s 0 0 A) 30 [(0, .ref a0), (1, .int y1), (2, .int y2), (3, .int y3)] [.int s0] (List.flatten [bX1 cI cJ cZ a0 r0 v0]) := by
  intro y1 y2 y3 s0 h
  refine J_istore C 32 [(4, .int s0), (0, .ref a0), (1, .int y1), (2, .int y2), (3, .int y3)] dX1_wrongWith_30 rfl (by decide) rfl ?_
  refine J_iload C 34 dX1_wrongWith_32 rfl rfl ?_
  refine J_aload_n C 35 dX1_wrongWith_34 rfl rfl ?_
  refine J_get C 38 1 inlX1 0 1 rfl rfl (by decide) wd125 rfl rfl dX1_wrongWith_35 rfl ?_
  refine J_iload_n C 39 dX1_wrongWith_38 rfl rfl ?_
  refine J_call1piSN (As := [.ref (r0 1), .int y3]) C 42 (c_X8_at l D cI cJ cZ cS 12 (r0 1) (v0.2.2.1 1) y3 _ h) wd147 (mi 53 rfl) wd2 wd146 hdX8_at ⟨Nat.le_of_ble_eq_true rfl, Nat.le_of_ble_eq_true rfl⟩ ⟨Nat.zero_le _, Nat.zero_le _⟩ rfl (Nat.le_of_ble_eq_true rfl) 2 rfl (fun _ => rfl) dX1_wrongWith_39 rfl (fun r_2 u h => ?_)
  refine J_iconst C 43 dX1_wrongWith_42 rfl ki_1 ?_
  refine J_icmp_ne C 46 50 dX1_wrongWith_43 rfl rfl (fun c => ?_) (fun c => ?_)
  · have h := h.1 c
    refine J_iconst C 51 dX1_wrongWith_50 rfl ki_0 ?_
    refine J_loc [1, 2, 3, 4] rfl ?_
    exact wk_X1_wrongWith_c51 C hr hk hB4 y1 y2 y3 0 s0 h
  · have h := h.2 c
    refine J_iconst C 47 dX1_wrongWith_46 rfl ki_1 ?_
    refine J_goto C 51 dX1_wrongWith_47 rfl ?_
    refine J_loc [1, 2, 3, 4] rfl ?_
    exact wk_X1_wrongWith_c51 C hr hk hB4 y1 y2 y3 1 s0 h
def wp_X1_wrongWith_c4 (v0 : Vl) (Q : Int32 → Prop) : Nat → Int32 → Int32 → Int32 → Prop
  | 0 => fun _ _ _ => False
  | n + 1 => fun y1 y2 y3 => (((v0.1 2) ≤ y3 → Q y2) ∧ (¬ (v0.1 2) ≤ y3 → wp_X8_at 12 (v0.2.2.1 0) y3 (fun r_1 => ((¬ (r_1 &&& y1) = 0 → wp_X1_wrongWith_c30 v0 Q (wp_X1_wrongWith_c4 v0 Q n) y1 y2 y3 0) ∧ ((r_1 &&& y1) = 0 → wp_X1_wrongWith_c30 v0 Q (wp_X1_wrongWith_c4 v0 Q n) y1 y2 y3 1)))))
set_option maxHeartbeats 4000000 in
set_option maxRecDepth 100000 in
theorem wk_X1_wrongWith_c4 {p : Program} {l : Launch} {e : Env} {s : State} {m : MethodId} {args : Array Value} {below : List Frame} {meth : Method} {c : Code} {D : GG} {A : Nat → Prop} {cI cJ cZ cS : ClassId} {a0 : Nat} {r0 : Nat → Nat} {v0 : Vl} {Q : Int32 → Prop} (C : Cx p s m args c D (tyL cI cJ cZ cS) A RX1 cX1_wrongWith 5) (hr : meth.sig.returnType = some .int) (hk : meth.locks = false) : ∀ (n : Nat) (y1 : Int32) (y2 : Int32) (y3 : Int32), wp_X1_wrongWith_c4 v0 Q n y1 y2 y3 → J p l e (rmk 1 21) s m args below meth c D A 5 0 0 (MQ below (va_Qi (fun (r : Int32) (u : Unit) => Q r) (fun u t => va_P D.1 vwCl ((fun (u : Unit) => List.flatten [bX1 cI cJ cZ a0 r0 v0]) u) t.heap ∧ va_D A ((fun (u : Unit) => List.flatten [bX1 cI cJ cZ a0 r0 v0]) u)) A) args s 0 0 A) 4 [(0, .ref a0), (1, .int y1), (2, .int y2), (3, .int y3)] [] (List.flatten [bX1 cI cJ cZ a0 r0 v0]) := by
  intro n
  induction n with
  | zero =>
    intro y1 y2 y3 h
    exact False.elim h
  | succ n ih =>
    intro y1 y2 y3 h
    refine J_iload_n C 5 dX1_wrongWith_4 rfl rfl ?_
    refine J_aload_n C 6 dX1_wrongWith_5 rfl rfl ?_
    refine J_get C 9 1 inlX1 0 2 rfl rfl (by decide) wd385 rfl rfl dX1_wrongWith_6 rfl ?_
    refine J_icmp_ge C 12 63 dX1_wrongWith_9 rfl rfl (fun c => ?_) (fun c => ?_)
    · have h := h.1 c
      refine J_iload_n C 64 dX1_wrongWith_63 rfl rfl ?_
      exact J_iret C hr hk () rfl dX1_wrongWith_64 h
    · have h := h.2 c
      refine J_aload_n C 13 dX1_wrongWith_12 rfl rfl ?_
      refine J_get C 16 1 inlX1 0 0 rfl rfl (by decide) wd124 rfl rfl dX1_wrongWith_13 rfl ?_
      refine J_iload_n C 17 dX1_wrongWith_16 rfl rfl ?_
      refine J_call1piSN (As := [.ref (r0 0), .int y3]) C 20 (c_X8_at l D cI cJ cZ cS 12 (r0 0) (v0.2.2.1 0) y3 _ h) wd147 (mi 53 rfl) wd2 wd146 hdX8_at ⟨Nat.le_of_ble_eq_true rfl, Nat.le_of_ble_eq_true rfl⟩ ⟨Nat.zero_le _, Nat.zero_le _⟩ rfl (Nat.le_of_ble_eq_true rfl) 1 rfl (fun _ => rfl) dX1_wrongWith_17 rfl (fun r_1 u h => ?_)
      refine J_iload_n C 21 dX1_wrongWith_20 rfl rfl ?_
      refine J_iand C 22 dX1_wrongWith_21 rfl ?_
      refine J_if_ne C 25 29 dX1_wrongWith_22 rfl rfl (fun c => ?_) (fun c => ?_)
      · have h := h.1 c
        refine J_iconst C 30 dX1_wrongWith_29 rfl ki_0 ?_
        refine J_loc [0, 1, 2, 3] rfl ?_
        exact wk_X1_wrongWith_c30 C hr hk ih y1 y2 y3 0 h
      · have h := h.2 c
        refine J_iconst C 26 dX1_wrongWith_25 rfl ki_1 ?_
        refine J_goto C 30 dX1_wrongWith_26 rfl ?_
        refine J_loc [0, 1, 2, 3] rfl ?_
        exact wk_X1_wrongWith_c30 C hr hk ih y1 y2 y3 1 h
def wp_X1_wrongWith (v0 : Vl) (x1 : Int32) (Q : Int32 → Prop) : Prop := (∃ k : Nat, wp_X1_wrongWith_c4 v0 Q k x1 0 0)
set_option maxHeartbeats 4000000 in
set_option maxRecDepth 100000 in
theorem c_X1_wrongWith (l : Launch) (D : GG) (cI cJ cZ cS : ClassId) (a0 : Nat) (r0 : Nat → Nat) (v0 : Vl) (x1 : Int32) (Q : Int32 → Prop) (h : wp_X1_wrongWith v0 x1 Q) : Mi l D (tyL cI cJ cZ cS) yX1_wrongWith cX1_wrongWith 5 .int 1 21 [.ref a0, .int x1] (List.flatten [bX1 cI cJ cZ a0 r0 v0]) (fun (r : Int32) (u : Unit) => Q r) (fun (u : Unit) => List.flatten [bX1 cI cJ cZ a0 r0 v0]) := by
  refine Mi_of RX1 [(0, .ref a0), (1, .int x1)] (by decide +kernel) rfl rfl (Nat.le_of_ble_eq_true rfl) ?_
  intro p e s m args below meth c A C hr hk
  refine J_iconst C 1 dX1_wrongWith_0 rfl ki_0 ?_
  refine J_istore_n C 2 [(2, .int 0), (0, .ref a0), (1, .int x1)] dX1_wrongWith_1 rfl (by decide) rfl ?_
  refine J_iconst C 3 dX1_wrongWith_2 rfl ki_0 ?_
  refine J_istore_n C 4 [(3, .int 0), (2, .int 0), (0, .ref a0), (1, .int x1)] dX1_wrongWith_3 rfl (by decide) rfl ?_
  refine J_loc [2, 3, 1, 0] rfl ?_
  obtain ⟨n1, h⟩ := h
  exact wk_X1_wrongWith_c4 C hr hk n1 x1 0 0 h
