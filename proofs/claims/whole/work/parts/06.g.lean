def wp_X8_feed_c37 (v0 : Vl) (Q : Int32 → Vl → Prop) : Nat → Vl → Int64 → Int32 → Prop
  | 0 => fun _ _ _ => False
  | n + 1 => fun v0_0 y2 y4 => ((y4 < 0 → Q (v0_0.1 1) v0_0) ∧ (¬ y4 < 0 → wp_X7_append v0_0 ((Int64.toInt32 ((Int64.toUInt64 y2 >>> ((Int32.toInt64 (8 * y4)).toUInt64 &&& Int64.toUInt64 63)).toInt64)) &&& 255) (fun u_2 => ∀ x_3 : Int32, x_3 = y4 + (-1) → wp_X8_feed_c37 v0 Q n u_2 y2 x_3)))
set_option maxHeartbeats 4000000 in
set_option maxRecDepth 100000 in
theorem wk_X8_feed_c37 {p : Program} {l : Launch} {e : Env} {s : State} {m : MethodId} {args : Array Value} {below : List Frame} {meth : Method} {c : Code} {D : GG} {A : Nat → Prop} {cI cJ cZ cS : ClassId} {a0 : Nat} {r0 : Nat → Nat} {r0_0 : Nat → Nat} {v0 : Vl} {Q : Int32 → Vl → Prop} (C : Cx p s m args c D (tyL cI cJ cZ cS) A RX8 cX8_feed 5) (hr : meth.sig.returnType = some .int) (hk : meth.locks = false) : ∀ (n : Nat) (v0_0 : Vl) (y2 : Int64) (y4 : Int32), wp_X8_feed_c37 v0 Q n v0_0 y2 y4 → J p l e (rmk 2 43) s m args below meth c D A 5 0 0 (MQ below (va_Qi (fun (r : Int32) (u : Vl) => Q r u) (fun u t => va_P D.1 vwCl ((fun (u : Vl) => List.flatten [bX8 cI cJ cZ a0 r0 v0, bX7 cI cJ cZ (r0 0) r0_0 u]) u) t.heap ∧ va_D A ((fun (u : Vl) => List.flatten [bX8 cI cJ cZ a0 r0 v0, bX7 cI cJ cZ (r0 0) r0_0 u]) u)) A) args s 0 0 A) 37 [(0, .ref a0), (2, .long y2), (4, .int y4)] [] (List.flatten [bX8 cI cJ cZ a0 r0 v0, bX7 cI cJ cZ (r0 0) r0_0 v0_0]) := by
  intro n
  induction n with
  | zero =>
    intro v0_0 y2 y4 h
    exact False.elim h
  | succ n ih =>
    intro v0_0 y2 y4 h
    refine J_iload C 39 dX8_feed_37 rfl rfl ?_
    refine J_if_lt C 42 67 dX8_feed_39 rfl rfl (fun c => ?_) (fun c => ?_)
    · have h := h.1 c
      refine J_aload_n C 68 dX8_feed_67 rfl rfl ?_
      refine J_get C 71 8 inlX8 0 0 rfl rfl (by decide) wd16 rfl rfl dX8_feed_68 rfl ?_
      refine J_getN C 74 7 inlX7 1 1 rfl rfl (by decide) (mi 31 rfl) rfl rfl dX8_feed_71 rfl ?_
      exact J_iret C hr hk v0_0 rfl dX8_feed_74 h
    · have h := h.2 c
      refine J_aload_n C 43 dX8_feed_42 rfl rfl ?_
      refine J_get C 46 8 inlX8 0 0 rfl rfl (by decide) wd16 rfl rfl dX8_feed_43 rfl ?_
      refine J_lload_n C 47 dX8_feed_46 rfl rfl ?_
      refine J_bipush C 49 dX8_feed_47 rfl kb_8 ?_
      refine J_iload C 51 dX8_feed_49 rfl rfl ?_
      refine J_imul C 52 dX8_feed_51 rfl ?_
      refine J_lushr C 53 dX8_feed_52 rfl ?_
      refine J_l2i C 54 dX8_feed_53 rfl ?_
      refine J_sipush C 57 dX8_feed_54 rfl ks_255 ?_
      refine J_iand C 58 dX8_feed_57 rfl ?_
      refine J_callBvV (Bs := [bX8 cI cJ cZ a0 r0 v0, bX7 cI cJ cZ (r0 0) r0_0 v0_0]) (As := [.int ((Int64.toInt32 ((Int64.toUInt64 y2 >>> ((Int32.toInt64 (8 * y4)).toUInt64 &&& Int64.toUInt64 63)).toInt64)) &&& 255)]) C 61 (c_X7_append l D cI cJ cZ cS (r0 0) r0_0 v0_0 ((Int64.toInt32 ((Int64.toUInt64 y2 >>> ((Int32.toInt64 (8 * y4)).toUInt64 &&& Int64.toUInt64 63)).toInt64)) &&& 255) _ h) wd212 wd209 wd15 wd210 wd211 7 0 rfl rfl rfl hdX7_append ⟨Nat.le_of_ble_eq_true rfl, Nat.le_of_ble_eq_true rfl⟩ ⟨Nat.zero_le _, Nat.zero_le _⟩ rfl (Nat.le_of_ble_eq_true rfl) [1] [0] 2 rfl (by decide +kernel) rfl rfl (fun (u : Vl) => [bX7 cI cJ cZ (r0 0) r0_0 u]) (fun _ => rfl) [1, 0] (by decide +kernel) (fun _ => rfl) rfl (fun (u : Vl) => [bX8 cI cJ cZ a0 r0 v0, bX7 cI cJ cZ (r0 0) r0_0 u]) (fun _ => rfl) dX8_feed_58 rfl (fun u h => ?_)
      obtain ⟨u_2, hu⟩ : ∃ z, z = u := ⟨_, rfl⟩
      subst hu
      obtain ⟨x_3, ex_3⟩ : ∃ z : Int32, z = y4 + (-1) := ⟨_, rfl⟩
      have h := h x_3 ex_3
      refine J_iinc C 64 [(4, .int x_3), (0, .ref a0), (2, .long y2)] dX8_feed_61 rfl rfl ((kinc_m1 _).trans ex_3.symm) (by decide) rfl ?_
      refine J_goto C 37 dX8_feed_64 rfl ?_
      refine J_loc [1, 2, 0] rfl ?_
      exact ih u_2 y2 x_3 h
def wp_X8_feed (v0 : Vl) (v0_0 : Vl) (x1 : Int32) (x2 : Int64) (Q : Int32 → Vl → Prop) : Prop := ((x1 < 1 → Q (-1000000002) v0_0) ∧ (¬ x1 < 1 → ((x1 ≤ 8 → ((((v0_0.1 1) + x1) ≤ 500 → ∀ x_1 : Int32, x_1 = (x1 - 1) → (∃ k : Nat, wp_X8_feed_c37 v0 Q k v0_0 x2 x_1)) ∧ (¬ ((v0_0.1 1) + x1) ≤ 500 → Q (-1000000004) v0_0))) ∧ (¬ x1 ≤ 8 → Q (-1000000002) v0_0))))
set_option maxHeartbeats 4000000 in
set_option maxRecDepth 100000 in
theorem c_X8_feed (l : Launch) (D : GG) (cI cJ cZ cS : ClassId) (a0 : Nat) (r0 : Nat → Nat) (v0 : Vl) (r0_0 : Nat → Nat) (v0_0 : Vl) (x1 : Int32) (x2 : Int64) (Q : Int32 → Vl → Prop) (h : wp_X8_feed v0 v0_0 x1 x2 Q) : Mi l D (tyL cI cJ cZ cS) yX8_feed cX8_feed 5 .int 2 43 [.ref a0, .int x1, .long x2] (List.flatten [bX8 cI cJ cZ a0 r0 v0, bX7 cI cJ cZ (r0 0) r0_0 v0_0]) (fun (r : Int32) (u : Vl) => Q r u) (fun (u : Vl) => List.flatten [bX8 cI cJ cZ a0 r0 v0, bX7 cI cJ cZ (r0 0) r0_0 u]) := by
  refine Mi_of RX8 [(0, .ref a0), (1, .int x1), (2, .long x2)] (by decide +kernel) rfl rfl (Nat.le_of_ble_eq_true rfl) ?_
  intro p e s m args below meth c A C hr hk
  refine J_iload_n C 1 dX8_feed_0 rfl rfl ?_
  refine J_iconst C 2 dX8_feed_1 rfl ki_1 ?_
  refine J_icmp_lt C 5 11 dX8_feed_2 rfl rfl (fun c => ?_) (fun c => ?_)
  · have h := h.1 c
    refine J_ldc C 13 wd207 dX8_feed_11 rfl ?_
    exact J_iret C hr hk v0_0 rfl dX8_feed_13 h
  · have h := h.2 c
    refine J_iload_n C 6 dX8_feed_5 rfl rfl ?_
    refine J_bipush C 8 dX8_feed_6 rfl kb_8 ?_
    refine J_icmp_le C 11 14 dX8_feed_8 rfl rfl (fun c => ?_) (fun c => ?_)
    · have h := h.1 c
      refine J_aload_n C 15 dX8_feed_14 rfl rfl ?_
      refine J_get C 18 8 inlX8 0 0 rfl rfl (by decide) wd16 rfl rfl dX8_feed_15 rfl ?_
      refine J_getN C 21 7 inlX7 1 1 rfl rfl (by decide) (mi 31 rfl) rfl rfl dX8_feed_18 rfl ?_
      refine J_iload_n C 22 dX8_feed_21 rfl rfl ?_
      refine J_iadd C 23 dX8_feed_22 rfl ?_
      refine J_sipush C 26 dX8_feed_23 rfl ks_500 ?_
      refine J_icmp_le C 29 32 dX8_feed_26 rfl rfl (fun c => ?_) (fun c => ?_)
      · have h := h.1 c
        refine J_iload_n C 33 dX8_feed_32 rfl rfl ?_
        refine J_iconst C 34 dX8_feed_33 rfl ki_1 ?_
        refine J_isub C 35 dX8_feed_34 rfl ?_
        obtain ⟨x_1, ex_1⟩ : ∃ z : Int32, z = (x1 - 1) := ⟨_, rfl⟩
        have h := h x_1 ex_1
        refine J_nmi ex_1 ?_
        refine J_istore C 37 [(4, .int x_1), (0, .ref a0), (1, .int x1), (2, .long x2)] dX8_feed_35 rfl (by decide) rfl ?_
        refine J_loc [1, 3, 0] rfl ?_
        obtain ⟨n1, h⟩ := h
        exact wk_X8_feed_c37 C hr hk n1 v0_0 x2 x_1 h
      · have h := h.2 c
        refine J_ldc C 31 wd208 dX8_feed_29 rfl ?_
        exact J_iret C hr hk v0_0 rfl dX8_feed_31 h
    · have h := h.2 c
      refine J_ldc C 13 wd207 dX8_feed_11 rfl ?_
      exact J_iret C hr hk v0_0 rfl dX8_feed_13 h
def wp_X8_fault (v0 : Vl)  (Q : Int32 → Prop) : Prop := Q (v0.1 13)
set_option maxHeartbeats 4000000 in
set_option maxRecDepth 100000 in
theorem c_X8_fault (l : Launch) (D : GG) (cI cJ cZ cS : ClassId) (a0 : Nat) (r0 : Nat → Nat) (v0 : Vl)  (Q : Int32 → Prop) (h : wp_X8_fault v0 Q) : Mi l D (tyL cI cJ cZ cS) yX8_fault cX8_fault 1 .int 0 0 [.ref a0] (List.flatten [bX8 cI cJ cZ a0 r0 v0]) (fun (r : Int32) (u : Unit) => Q r) (fun (u : Unit) => List.flatten [bX8 cI cJ cZ a0 r0 v0]) := by
  refine Mi_of RX8 [(0, .ref a0)] (by decide +kernel) rfl rfl (Nat.le_of_ble_eq_true rfl) ?_
  intro p e s m args below meth c A C hr hk
  refine J_aload_n C 1 dX8_fault_0 rfl rfl ?_
  refine J_get C 4 8 inlX8 0 13 rfl rfl (by decide) wd52 rfl rfl dX8_fault_1 rfl ?_
  exact J_iret C hr hk () rfl dX8_fault_4 h
def wp_X8_told (v0 : Vl) (v0_0 : Vl) (v0_1 : Vl) (v0_6 : Vl) (v0_9 : Vl) (v0_11 : Vl) (x1 : Int32) (Q : Int64 → Prop) : Prop := ((x1 = 0 → Q (Int32.toInt64 (v0_9.1 7))) ∧ (x1 = 1 → Q (Int32.toInt64 (v0_9.1 8))) ∧ (x1 = 2 → Q (Int32.toInt64 (v0_9.1 9))) ∧ (x1 = 3 → Q (Int32.toInt64 (v0_1.1 5))) ∧ (x1 = 4 → Q (Int32.toInt64 (v0_1.1 6))) ∧ (x1 = 5 → Q (Int32.toInt64 (v0_1.1 12))) ∧ (x1 = 6 → Q (Int32.toInt64 (v0_1.1 10))) ∧ (x1 = 7 → Q (Int32.toInt64 (v0_1.1 11))) ∧ (x1 = 8 → Q (Int32.toInt64 (v0_0.1 1))) ∧ (x1 = 9 → Q (Int32.toInt64 (v0_6.1 2))) ∧ (x1 = 10 → Q (Int32.toInt64 (v0_11.1 3))) ∧ (x1 = 11 → Q (Int32.toInt64 (v0_1.1 14))) ∧ (x1 = 12 → Q (Int32.toInt64 (v0_1.1 7))) ∧ (x1 = 13 → Q (Int32.toInt64 (v0_1.1 8))) ∧ (x1 = 14 → Q (Int32.toInt64 (v0_1.1 9))) ∧ (x1 = 15 → Q (Int32.toInt64 (v0_1.1 15))) ∧ ((x1 < 0 ∨ 15 < x1) → Q (-1000000002)))
set_option maxHeartbeats 4000000 in
set_option maxRecDepth 100000 in
theorem c_X8_told (l : Launch) (D : GG) (cI cJ cZ cS : ClassId) (a0 : Nat) (r0 : Nat → Nat) (v0 : Vl) (r0_0 : Nat → Nat) (v0_0 : Vl) (r0_1 : Nat → Nat) (v0_1 : Vl) (r0_6 : Nat → Nat) (v0_6 : Vl) (r0_9 : Nat → Nat) (v0_9 : Vl) (r0_11 : Nat → Nat) (v0_11 : Vl) (x1 : Int32) (Q : Int64 → Prop) (h : wp_X8_told v0 v0_0 v0_1 v0_6 v0_9 v0_11 x1 Q) : Ml l D (tyL cI cJ cZ cS) yX8_told cX8_told 2 0 0 [.ref a0, .int x1] (List.flatten [bX8 cI cJ cZ a0 r0 v0, bX7 cI cJ cZ (r0 0) r0_0 v0_0, bX6 cI cJ cZ 360 (r0 1) r0_1 v0_1, bX1 cI cJ cZ (r0 6) r0_6 v0_6, bX3 cI cJ cZ (r0 9) r0_9 v0_9, bX5 cI cJ cZ (r0 11) r0_11 v0_11]) (fun (r : Int64) (u : Unit) => Q r) (fun (u : Unit) => List.flatten [bX8 cI cJ cZ a0 r0 v0, bX7 cI cJ cZ (r0 0) r0_0 v0_0, bX6 cI cJ cZ 360 (r0 1) r0_1 v0_1, bX1 cI cJ cZ (r0 6) r0_6 v0_6, bX3 cI cJ cZ (r0 9) r0_9 v0_9, bX5 cI cJ cZ (r0 11) r0_11 v0_11]) := by
  refine Ml_of RX8 [(0, .ref a0), (1, .int x1)] (by decide +kernel) rfl rfl (Nat.le_of_ble_eq_true rfl) ?_
  intro p e s m args below meth c A C hr hk
  refine J_iload_n C 1 dX8_told_0 rfl rfl ?_
  rcases sw_15 x1 with c | c | c | c | c | c | c | c | c | c | c | c | c | c | c | c | c
  · have h := (h.2.2.2.2.2.2.2.2.2.2.2.2.2.2.2.2) c
    refine J_tabOut C 224 dX8_told_1 (sw_out_15 c) rfl ?_
    refine J_ldc2 C 227 wd528 dX8_told_224 rfl ?_
    exact J_lret C hr hk () rfl dX8_told_227 h
  · have h := (h.1) c
    refine J_nmi c.symm ?_
    refine J_tabIn C 80 dX8_told_1 (by decide) (by decide) rfl rfl ?_
    refine J_aload_n C 81 dX8_told_80 rfl rfl ?_
    refine J_get C 84 8 inlX8 0 9 rfl rfl (by decide) wd20 rfl rfl dX8_told_81 rfl ?_
    refine J_getN C 87 3 inlX3 12 7 rfl rfl (by decide) (mi 0 rfl) rfl rfl dX8_told_84 rfl ?_
    refine J_i2l C 88 dX8_told_87 rfl ?_
    exact J_lret C hr hk () rfl dX8_told_88 h
  · have h := (h.2.1) c
    refine J_nmi c.symm ?_
    refine J_tabIn C 89 dX8_told_1 (by decide) (by decide) rfl rfl ?_
    refine J_aload_n C 90 dX8_told_89 rfl rfl ?_
    refine J_get C 93 8 inlX8 0 9 rfl rfl (by decide) wd20 rfl rfl dX8_told_90 rfl ?_
    refine J_getN C 96 3 inlX3 12 8 rfl rfl (by decide) (mi 2 rfl) rfl rfl dX8_told_93 rfl ?_
    refine J_i2l C 97 dX8_told_96 rfl ?_
    exact J_lret C hr hk () rfl dX8_told_97 h
  · have h := (h.2.2.1) c
    refine J_nmi c.symm ?_
    refine J_tabIn C 98 dX8_told_1 (by decide) (by decide) rfl rfl ?_
    refine J_aload_n C 99 dX8_told_98 rfl rfl ?_
    refine J_get C 102 8 inlX8 0 9 rfl rfl (by decide) wd20 rfl rfl dX8_told_99 rfl ?_
    refine J_getN C 105 3 inlX3 12 9 rfl rfl (by decide) (mi 3 rfl) rfl rfl dX8_told_102 rfl ?_
    refine J_i2l C 106 dX8_told_105 rfl ?_
    exact J_lret C hr hk () rfl dX8_told_106 h
  · have h := (h.2.2.2.1) c
    refine J_nmi c.symm ?_
    refine J_tabIn C 107 dX8_told_1 (by decide) (by decide) rfl rfl ?_
    refine J_aload_n C 108 dX8_told_107 rfl rfl ?_
    refine J_get C 111 8 inlX8 0 1 rfl rfl (by decide) wd30 rfl rfl dX8_told_108 rfl ?_
    refine J_getN C 114 6 inlX6 3 5 rfl rfl (by decide) (mi 4 rfl) rfl rfl dX8_told_111 rfl ?_
    refine J_i2l C 115 dX8_told_114 rfl ?_
    exact J_lret C hr hk () rfl dX8_told_115 h
  · have h := (h.2.2.2.2.1) c
    refine J_nmi c.symm ?_
    refine J_tabIn C 116 dX8_told_1 (by decide) (by decide) rfl rfl ?_
    refine J_aload_n C 117 dX8_told_116 rfl rfl ?_
    refine J_get C 120 8 inlX8 0 1 rfl rfl (by decide) wd30 rfl rfl dX8_told_117 rfl ?_
    refine J_getN C 123 6 inlX6 3 6 rfl rfl (by decide) (mi 5 rfl) rfl rfl dX8_told_120 rfl ?_
    refine J_i2l C 124 dX8_told_123 rfl ?_
    exact J_lret C hr hk () rfl dX8_told_124 h
  · have h := (h.2.2.2.2.2.1) c
    refine J_nmi c.symm ?_
    refine J_tabIn C 125 dX8_told_1 (by decide) (by decide) rfl rfl ?_
    refine J_aload_n C 126 dX8_told_125 rfl rfl ?_
    refine J_get C 129 8 inlX8 0 1 rfl rfl (by decide) wd30 rfl rfl dX8_told_126 rfl ?_
    refine J_getN C 132 6 inlX6 3 12 rfl rfl (by decide) (mi 6 rfl) rfl rfl dX8_told_129 rfl ?_
    refine J_i2l C 133 dX8_told_132 rfl ?_
    exact J_lret C hr hk () rfl dX8_told_133 h
  · have h := (h.2.2.2.2.2.2.1) c
    refine J_nmi c.symm ?_
    refine J_tabIn C 134 dX8_told_1 (by decide) (by decide) rfl rfl ?_
    refine J_aload_n C 135 dX8_told_134 rfl rfl ?_
    refine J_get C 138 8 inlX8 0 1 rfl rfl (by decide) wd30 rfl rfl dX8_told_135 rfl ?_
    refine J_getN C 141 6 inlX6 3 10 rfl rfl (by decide) (mi 7 rfl) rfl rfl dX8_told_138 rfl ?_
    refine J_i2l C 142 dX8_told_141 rfl ?_
    exact J_lret C hr hk () rfl dX8_told_142 h
  · have h := (h.2.2.2.2.2.2.2.1) c
    refine J_nmi c.symm ?_
    refine J_tabIn C 143 dX8_told_1 (by decide) (by decide) rfl rfl ?_
    refine J_aload_n C 144 dX8_told_143 rfl rfl ?_
    refine J_get C 147 8 inlX8 0 1 rfl rfl (by decide) wd30 rfl rfl dX8_told_144 rfl ?_
    refine J_getN C 150 6 inlX6 3 11 rfl rfl (by decide) (mi 8 rfl) rfl rfl dX8_told_147 rfl ?_
    refine J_i2l C 151 dX8_told_150 rfl ?_
    exact J_lret C hr hk () rfl dX8_told_151 h
  · have h := (h.2.2.2.2.2.2.2.2.1) c
    refine J_nmi c.symm ?_
    refine J_tabIn C 152 dX8_told_1 (by decide) (by decide) rfl rfl ?_
    refine J_aload_n C 153 dX8_told_152 rfl rfl ?_
    refine J_get C 156 8 inlX8 0 0 rfl rfl (by decide) wd16 rfl rfl dX8_told_153 rfl ?_
    refine J_getN C 159 7 inlX7 1 1 rfl rfl (by decide) (mi 31 rfl) rfl rfl dX8_told_156 rfl ?_
    refine J_i2l C 160 dX8_told_159 rfl ?_
    exact J_lret C hr hk () rfl dX8_told_160 h
  · have h := (h.2.2.2.2.2.2.2.2.2.1) c
    refine J_nmi c.symm ?_
    refine J_tabIn C 161 dX8_told_1 (by decide) (by decide) rfl rfl ?_
    refine J_aload_n C 162 dX8_told_161 rfl rfl ?_
    refine J_get C 165 8 inlX8 0 6 rfl rfl (by decide) wd45 rfl rfl dX8_told_162 rfl ?_
    refine J_getN C 168 1 inlX1 9 2 rfl rfl (by decide) (mi 9 rfl) rfl rfl dX8_told_165 rfl ?_
    refine J_i2l C 169 dX8_told_168 rfl ?_
    exact J_lret C hr hk () rfl dX8_told_169 h
  · have h := (h.2.2.2.2.2.2.2.2.2.2.1) c
    refine J_nmi c.symm ?_
    refine J_tabIn C 170 dX8_told_1 (by decide) (by decide) rfl rfl ?_
    refine J_aload_n C 171 dX8_told_170 rfl rfl ?_
    refine J_get C 174 8 inlX8 0 11 rfl rfl (by decide) wd25 rfl rfl dX8_told_171 rfl ?_
    refine J_getN C 177 5 inlX5 20 3 rfl rfl (by decide) (mi 1 rfl) rfl rfl dX8_told_174 rfl ?_
    refine J_i2l C 178 dX8_told_177 rfl ?_
    exact J_lret C hr hk () rfl dX8_told_178 h
  · have h := (h.2.2.2.2.2.2.2.2.2.2.2.1) c
    refine J_nmi c.symm ?_
    refine J_tabIn C 179 dX8_told_1 (by decide) (by decide) rfl rfl ?_
    refine J_aload_n C 180 dX8_told_179 rfl rfl ?_
    refine J_get C 183 8 inlX8 0 1 rfl rfl (by decide) wd30 rfl rfl dX8_told_180 rfl ?_
    refine J_getN C 186 6 inlX6 3 14 rfl rfl (by decide) (mi 10 rfl) rfl rfl dX8_told_183 rfl ?_
    refine J_i2l C 187 dX8_told_186 rfl ?_
    exact J_lret C hr hk () rfl dX8_told_187 h
  · have h := (h.2.2.2.2.2.2.2.2.2.2.2.2.1) c
    refine J_nmi c.symm ?_
    refine J_tabIn C 188 dX8_told_1 (by decide) (by decide) rfl rfl ?_
    refine J_aload_n C 189 dX8_told_188 rfl rfl ?_
    refine J_get C 192 8 inlX8 0 1 rfl rfl (by decide) wd30 rfl rfl dX8_told_189 rfl ?_
    refine J_getN C 195 6 inlX6 3 7 rfl rfl (by decide) (mi 11 rfl) rfl rfl dX8_told_192 rfl ?_
    refine J_i2l C 196 dX8_told_195 rfl ?_
    exact J_lret C hr hk () rfl dX8_told_196 h
  · have h := (h.2.2.2.2.2.2.2.2.2.2.2.2.2.1) c
    refine J_nmi c.symm ?_
    refine J_tabIn C 197 dX8_told_1 (by decide) (by decide) rfl rfl ?_
    refine J_aload_n C 198 dX8_told_197 rfl rfl ?_
    refine J_get C 201 8 inlX8 0 1 rfl rfl (by decide) wd30 rfl rfl dX8_told_198 rfl ?_
    refine J_getN C 204 6 inlX6 3 8 rfl rfl (by decide) (mi 12 rfl) rfl rfl dX8_told_201 rfl ?_
    refine J_i2l C 205 dX8_told_204 rfl ?_
    exact J_lret C hr hk () rfl dX8_told_205 h
  · have h := (h.2.2.2.2.2.2.2.2.2.2.2.2.2.2.1) c
    refine J_nmi c.symm ?_
    refine J_tabIn C 206 dX8_told_1 (by decide) (by decide) rfl rfl ?_
    refine J_aload_n C 207 dX8_told_206 rfl rfl ?_
    refine J_get C 210 8 inlX8 0 1 rfl rfl (by decide) wd30 rfl rfl dX8_told_207 rfl ?_
    refine J_getN C 213 6 inlX6 3 9 rfl rfl (by decide) (mi 13 rfl) rfl rfl dX8_told_210 rfl ?_
    refine J_i2l C 214 dX8_told_213 rfl ?_
    exact J_lret C hr hk () rfl dX8_told_214 h
  · have h := (h.2.2.2.2.2.2.2.2.2.2.2.2.2.2.2.1) c
    refine J_nmi c.symm ?_
    refine J_tabIn C 215 dX8_told_1 (by decide) (by decide) rfl rfl ?_
    refine J_aload_n C 216 dX8_told_215 rfl rfl ?_
    refine J_get C 219 8 inlX8 0 1 rfl rfl (by decide) wd30 rfl rfl dX8_told_216 rfl ?_
    refine J_getN C 222 6 inlX6 3 15 rfl rfl (by decide) (mi 14 rfl) rfl rfl dX8_told_219 rfl ?_
    refine J_i2l C 223 dX8_told_222 rfl ?_
    exact J_lret C hr hk () rfl dX8_told_223 h
def wp_X8_isNoLight (v0 : Vl) (v0_9 : Vl) (x1 : Int32) (Q : Int32 → Prop) : Prop := ((x1 < 0 → Q 1) ∧ (¬ x1 < 0 → ((x1 < (v0_9.1 7) → Q 0) ∧ (¬ x1 < (v0_9.1 7) → Q 1))))
set_option maxHeartbeats 4000000 in
set_option maxRecDepth 100000 in
theorem c_X8_isNoLight (l : Launch) (D : GG) (cI cJ cZ cS : ClassId) (a0 : Nat) (r0 : Nat → Nat) (v0 : Vl) (r0_9 : Nat → Nat) (v0_9 : Vl) (x1 : Int32) (Q : Int32 → Prop) (h : wp_X8_isNoLight v0 v0_9 x1 Q) : Mi l D (tyL cI cJ cZ cS) yX8_isNoLight cX8_isNoLight 2 .boolean 0 0 [.ref a0, .int x1] (List.flatten [bX8 cI cJ cZ a0 r0 v0, bX3 cI cJ cZ (r0 9) r0_9 v0_9]) (fun (r : Int32) (u : Unit) => Q r) (fun (u : Unit) => List.flatten [bX8 cI cJ cZ a0 r0 v0, bX3 cI cJ cZ (r0 9) r0_9 v0_9]) := by
  refine Mi_of RX8 [(0, .ref a0), (1, .int x1)] (by decide +kernel) rfl rfl (Nat.le_of_ble_eq_true rfl) ?_
  intro p e s m args below meth c A C hr hk
  refine J_iload_n C 1 dX8_isNoLight_0 rfl rfl ?_
  refine J_if_lt C 4 15 dX8_isNoLight_1 rfl rfl (fun c => ?_) (fun c => ?_)
  · have h := h.1 c
    refine J_iconst C 16 dX8_isNoLight_15 rfl ki_1 ?_
    refine J_goto C 20 dX8_isNoLight_16 rfl ?_
    exact J_zret C hr hk rfl () rfl dX8_isNoLight_20 h
  · have h := h.2 c
    refine J_iload_n C 5 dX8_isNoLight_4 rfl rfl ?_
    refine J_aload_n C 6 dX8_isNoLight_5 rfl rfl ?_
    refine J_get C 9 8 inlX8 0 9 rfl rfl (by decide) wd20 rfl rfl dX8_isNoLight_6 rfl ?_
    refine J_getN C 12 3 inlX3 1 7 rfl rfl (by decide) (mi 0 rfl) rfl rfl dX8_isNoLight_9 rfl ?_
    refine J_icmp_lt C 15 19 dX8_isNoLight_12 rfl rfl (fun c => ?_) (fun c => ?_)
    · have h := h.1 c
      refine J_iconst C 20 dX8_isNoLight_19 rfl ki_0 ?_
      exact J_zret C hr hk rfl () rfl dX8_isNoLight_20 h
    · have h := h.2 c
      refine J_iconst C 16 dX8_isNoLight_15 rfl ki_1 ?_
      refine J_goto C 20 dX8_isNoLight_16 rfl ?_
      exact J_zret C hr hk rfl () rfl dX8_isNoLight_20 h
def wp_X8_light (v0 : Vl) (v0_1 : Vl) (v0_9 : Vl) (x1 : Int32) (x2 : Int32) (Q : Int32 → Prop) : Prop := wp_X8_isNoLight v0 v0_9 x1 (fun r_1 => ((r_1 = 0 → ((x2 = 0 → wp_X8_at 9 (v0_9.2.2.1 0) x1 (fun r_2 => Q r_2)) ∧ (x2 = 1 → wp_X8_at 9 (v0_9.2.2.1 1) x1 (fun r_3 => Q r_3)) ∧ (x2 = 2 → wp_X8_at 9 (v0_9.2.2.1 2) x1 (fun r_4 => Q r_4)) ∧ (x2 = 3 → wp_X8_at 9 (v0_9.2.2.1 3) x1 (fun r_5 => Q r_5)) ∧ (x2 = 4 → wp_X8_at 9 (v0_9.2.2.1 4) x1 (fun r_6 => Q r_6)) ∧ (x2 = 5 → wp_X8_at 9 (v0_1.2.2.1 0) x1 (fun r_7 => Q r_7)) ∧ (x2 = 6 → wp_X8_at 9 (v0_1.2.2.1 1) x1 (fun r_8 => Q r_8)) ∧ (x2 = 7 → wp_X8_at 9 (v0_1.2.2.1 2) x1 (fun r_9 => Q r_9)) ∧ (x2 = 8 → wp_X8_at 9 (v0_1.2.2.1 3) x1 (fun r_10 => Q r_10)) ∧ ((x2 < 0 ∨ 8 < x2) → Q (-1000000002)))) ∧ (¬ r_1 = 0 → Q (-1000000001))))
set_option maxHeartbeats 4000000 in
set_option maxRecDepth 100000 in
theorem c_X8_light (l : Launch) (D : GG) (cI cJ cZ cS : ClassId) (a0 : Nat) (r0 : Nat → Nat) (v0 : Vl) (r0_1 : Nat → Nat) (v0_1 : Vl) (r0_9 : Nat → Nat) (v0_9 : Vl) (x1 : Int32) (x2 : Int32) (Q : Int32 → Prop) (h : wp_X8_light v0 v0_1 v0_9 x1 x2 Q) : Mi l D (tyL cI cJ cZ cS) yX8_light cX8_light 3 .int 1 21 [.ref a0, .int x1, .int x2] (List.flatten [bX8 cI cJ cZ a0 r0 v0, bX6 cI cJ cZ 360 (r0 1) r0_1 v0_1, bX3 cI cJ cZ (r0 9) r0_9 v0_9]) (fun (r : Int32) (u : Unit) => Q r) (fun (u : Unit) => List.flatten [bX8 cI cJ cZ a0 r0 v0, bX6 cI cJ cZ 360 (r0 1) r0_1 v0_1, bX3 cI cJ cZ (r0 9) r0_9 v0_9]) := by
  refine Mi_of RX8 [(0, .ref a0), (1, .int x1), (2, .int x2)] (by decide +kernel) rfl rfl (Nat.le_of_ble_eq_true rfl) ?_
  intro p e s m args below meth c A C hr hk
  refine J_aload_n C 1 dX8_light_0 rfl rfl ?_
  refine J_iload_n C 2 dX8_light_1 rfl rfl ?_
  refine J_callBiV (Bs := [bX8 cI cJ cZ a0 r0 v0, bX6 cI cJ cZ 360 (r0 1) r0_1 v0_1, bX3 cI cJ cZ (r0 9) r0_9 v0_9]) (As := [.int x1]) C 5 (c_X8_isNoLight l D cI cJ cZ cS a0 r0 v0 r0_9 v0_9 x1 _ h) wd542 wd539 wd2 wd540 wd541 8 0 rfl rfl rfl hdX8_isNoLight ⟨Nat.le_of_ble_eq_true rfl, Nat.le_of_ble_eq_true rfl⟩ ⟨Nat.zero_le _, Nat.zero_le _⟩ rfl (Nat.le_of_ble_eq_true rfl) [0, 2] [1] 3 rfl (by decide +kernel) rfl rfl (fun (u : Unit) => [bX8 cI cJ cZ a0 r0 v0, bX3 cI cJ cZ (r0 9) r0_9 v0_9]) (fun _ => rfl) [0, 2, 1] (by decide +kernel) (fun _ => rfl) rfl (fun (u : Unit) => [bX8 cI cJ cZ a0 r0 v0, bX6 cI cJ cZ 360 (r0 1) r0_1 v0_1, bX3 cI cJ cZ (r0 9) r0_9 v0_9]) (fun _ => rfl) dX8_light_2 rfl (fun r_1 u h => ?_)
  refine J_if_eq C 8 11 dX8_light_5 rfl rfl (fun c => ?_) (fun c => ?_)
  · have h := h.1 c
    refine J_iload_n C 12 dX8_light_11 rfl rfl ?_
    rcases sw_8 x2 with c | c | c | c | c | c | c | c | c | c
    · have h := (h.2.2.2.2.2.2.2.2.2) c
      refine J_tabOut C 172 dX8_light_12 (sw_out_8 c) rfl ?_
      refine J_ldc C 174 wd207 dX8_light_172 rfl ?_
      exact J_iret C hr hk () rfl dX8_light_174 h
    · have h := (h.1) c
      refine J_nmi c.symm ?_
      refine J_tabIn C 64 dX8_light_12 (by decide) (by decide) rfl rfl ?_
      refine J_aload_n C 65 dX8_light_64 rfl rfl ?_
      refine J_get C 68 8 inlX8 0 9 rfl rfl (by decide) wd20 rfl rfl dX8_light_65 rfl ?_
      refine J_getN C 71 3 inlX3 7 0 rfl rfl (by decide) (mi 15 rfl) rfl rfl dX8_light_68 rfl ?_
      refine J_iload_n C 72 dX8_light_71 rfl rfl ?_
      refine J_call1piS (As := [.ref (r0_9 0), .int x1]) C 75 (c_X8_at l D cI cJ cZ cS 9 (r0_9 0) (v0_9.2.2.1 0) x1 _ h) wd147 wd543 wd2 wd146 hdX8_at ⟨Nat.le_of_ble_eq_true rfl, Nat.le_of_ble_eq_true rfl⟩ ⟨Nat.zero_le _, Nat.zero_le _⟩ rfl (Nat.le_of_ble_eq_true rfl) 8 rfl (fun _ => rfl) dX8_light_72 rfl (fun r_2 u h => ?_)
      exact J_iret C hr hk () rfl dX8_light_75 h
    · have h := (h.2.1) c
      refine J_nmi c.symm ?_
      refine J_tabIn C 76 dX8_light_12 (by decide) (by decide) rfl rfl ?_
      refine J_aload_n C 77 dX8_light_76 rfl rfl ?_
      refine J_get C 80 8 inlX8 0 9 rfl rfl (by decide) wd20 rfl rfl dX8_light_77 rfl ?_
      refine J_getN C 83 3 inlX3 7 1 rfl rfl (by decide) (mi 16 rfl) rfl rfl dX8_light_80 rfl ?_
      refine J_iload_n C 84 dX8_light_83 rfl rfl ?_
      refine J_call1piS (As := [.ref (r0_9 1), .int x1]) C 87 (c_X8_at l D cI cJ cZ cS 9 (r0_9 1) (v0_9.2.2.1 1) x1 _ h) wd147 wd543 wd2 wd146 hdX8_at ⟨Nat.le_of_ble_eq_true rfl, Nat.le_of_ble_eq_true rfl⟩ ⟨Nat.zero_le _, Nat.zero_le _⟩ rfl (Nat.le_of_ble_eq_true rfl) 9 rfl (fun _ => rfl) dX8_light_84 rfl (fun r_3 u h => ?_)
      exact J_iret C hr hk () rfl dX8_light_87 h
    · have h := (h.2.2.1) c
      refine J_nmi c.symm ?_
      refine J_tabIn C 88 dX8_light_12 (by decide) (by decide) rfl rfl ?_
      refine J_aload_n C 89 dX8_light_88 rfl rfl ?_
      refine J_get C 92 8 inlX8 0 9 rfl rfl (by decide) wd20 rfl rfl dX8_light_89 rfl ?_
      refine J_getN C 95 3 inlX3 7 2 rfl rfl (by decide) (mi 17 rfl) rfl rfl dX8_light_92 rfl ?_
      refine J_iload_n C 96 dX8_light_95 rfl rfl ?_
      refine J_call1piS (As := [.ref (r0_9 2), .int x1]) C 99 (c_X8_at l D cI cJ cZ cS 9 (r0_9 2) (v0_9.2.2.1 2) x1 _ h) wd147 wd543 wd2 wd146 hdX8_at ⟨Nat.le_of_ble_eq_true rfl, Nat.le_of_ble_eq_true rfl⟩ ⟨Nat.zero_le _, Nat.zero_le _⟩ rfl (Nat.le_of_ble_eq_true rfl) 10 rfl (fun _ => rfl) dX8_light_96 rfl (fun r_4 u h => ?_)
      exact J_iret C hr hk () rfl dX8_light_99 h
    · have h := (h.2.2.2.1) c
      refine J_nmi c.symm ?_
      refine J_tabIn C 100 dX8_light_12 (by decide) (by decide) rfl rfl ?_
      refine J_aload_n C 101 dX8_light_100 rfl rfl ?_
      refine J_get C 104 8 inlX8 0 9 rfl rfl (by decide) wd20 rfl rfl dX8_light_101 rfl ?_
      refine J_getN C 107 3 inlX3 7 3 rfl rfl (by decide) (mi 18 rfl) rfl rfl dX8_light_104 rfl ?_
      refine J_iload_n C 108 dX8_light_107 rfl rfl ?_
      refine J_call1piS (As := [.ref (r0_9 3), .int x1]) C 111 (c_X8_at l D cI cJ cZ cS 9 (r0_9 3) (v0_9.2.2.1 3) x1 _ h) wd147 wd543 wd2 wd146 hdX8_at ⟨Nat.le_of_ble_eq_true rfl, Nat.le_of_ble_eq_true rfl⟩ ⟨Nat.zero_le _, Nat.zero_le _⟩ rfl (Nat.le_of_ble_eq_true rfl) 11 rfl (fun _ => rfl) dX8_light_108 rfl (fun r_5 u h => ?_)
      exact J_iret C hr hk () rfl dX8_light_111 h
    · have h := (h.2.2.2.2.1) c
      refine J_nmi c.symm ?_
      refine J_tabIn C 112 dX8_light_12 (by decide) (by decide) rfl rfl ?_
      refine J_aload_n C 113 dX8_light_112 rfl rfl ?_
      refine J_get C 116 8 inlX8 0 9 rfl rfl (by decide) wd20 rfl rfl dX8_light_113 rfl ?_
      refine J_getN C 119 3 inlX3 7 4 rfl rfl (by decide) (mi 19 rfl) rfl rfl dX8_light_116 rfl ?_
      refine J_iload_n C 120 dX8_light_119 rfl rfl ?_
      refine J_call1piS (As := [.ref (r0_9 4), .int x1]) C 123 (c_X8_at l D cI cJ cZ cS 9 (r0_9 4) (v0_9.2.2.1 4) x1 _ h) wd147 wd543 wd2 wd146 hdX8_at ⟨Nat.le_of_ble_eq_true rfl, Nat.le_of_ble_eq_true rfl⟩ ⟨Nat.zero_le _, Nat.zero_le _⟩ rfl (Nat.le_of_ble_eq_true rfl) 12 rfl (fun _ => rfl) dX8_light_120 rfl (fun r_6 u h => ?_)
      exact J_iret C hr hk () rfl dX8_light_123 h
    · have h := (h.2.2.2.2.2.1) c
      refine J_nmi c.symm ?_
      refine J_tabIn C 124 dX8_light_12 (by decide) (by decide) rfl rfl ?_
      refine J_aload_n C 125 dX8_light_124 rfl rfl ?_
      refine J_get C 128 8 inlX8 0 1 rfl rfl (by decide) wd30 rfl rfl dX8_light_125 rfl ?_
      refine J_getN C 131 6 inlX6 1 0 rfl rfl (by decide) (mi 20 rfl) rfl rfl dX8_light_128 rfl ?_
      refine J_iload_n C 132 dX8_light_131 rfl rfl ?_
      refine J_call1piS (As := [.ref (r0_1 0), .int x1]) C 135 (c_X8_at l D cI cJ cZ cS 9 (r0_1 0) (v0_1.2.2.1 0) x1 _ h) wd147 wd543 wd2 wd146 hdX8_at ⟨Nat.le_of_ble_eq_true rfl, Nat.le_of_ble_eq_true rfl⟩ ⟨Nat.zero_le _, Nat.zero_le _⟩ rfl (Nat.le_of_ble_eq_true rfl) 2 rfl (fun _ => rfl) dX8_light_132 rfl (fun r_7 u h => ?_)
      exact J_iret C hr hk () rfl dX8_light_135 h
    · have h := (h.2.2.2.2.2.2.1) c
      refine J_nmi c.symm ?_
      refine J_tabIn C 136 dX8_light_12 (by decide) (by decide) rfl rfl ?_
      refine J_aload_n C 137 dX8_light_136 rfl rfl ?_
      refine J_get C 140 8 inlX8 0 1 rfl rfl (by decide) wd30 rfl rfl dX8_light_137 rfl ?_
      refine J_getN C 143 6 inlX6 1 1 rfl rfl (by decide) (mi 21 rfl) rfl rfl dX8_light_140 rfl ?_
      refine J_iload_n C 144 dX8_light_143 rfl rfl ?_
      refine J_call1piS (As := [.ref (r0_1 1), .int x1]) C 147 (c_X8_at l D cI cJ cZ cS 9 (r0_1 1) (v0_1.2.2.1 1) x1 _ h) wd147 wd543 wd2 wd146 hdX8_at ⟨Nat.le_of_ble_eq_true rfl, Nat.le_of_ble_eq_true rfl⟩ ⟨Nat.zero_le _, Nat.zero_le _⟩ rfl (Nat.le_of_ble_eq_true rfl) 3 rfl (fun _ => rfl) dX8_light_144 rfl (fun r_8 u h => ?_)
      exact J_iret C hr hk () rfl dX8_light_147 h
    · have h := (h.2.2.2.2.2.2.2.1) c
      refine J_nmi c.symm ?_
      refine J_tabIn C 148 dX8_light_12 (by decide) (by decide) rfl rfl ?_
      refine J_aload_n C 149 dX8_light_148 rfl rfl ?_
      refine J_get C 152 8 inlX8 0 1 rfl rfl (by decide) wd30 rfl rfl dX8_light_149 rfl ?_
      refine J_getN C 155 6 inlX6 1 2 rfl rfl (by decide) (mi 22 rfl) rfl rfl dX8_light_152 rfl ?_
      refine J_iload_n C 156 dX8_light_155 rfl rfl ?_
      refine J_call1piS (As := [.ref (r0_1 2), .int x1]) C 159 (c_X8_at l D cI cJ cZ cS 9 (r0_1 2) (v0_1.2.2.1 2) x1 _ h) wd147 wd543 wd2 wd146 hdX8_at ⟨Nat.le_of_ble_eq_true rfl, Nat.le_of_ble_eq_true rfl⟩ ⟨Nat.zero_le _, Nat.zero_le _⟩ rfl (Nat.le_of_ble_eq_true rfl) 4 rfl (fun _ => rfl) dX8_light_156 rfl (fun r_9 u h => ?_)
      exact J_iret C hr hk () rfl dX8_light_159 h
    · have h := (h.2.2.2.2.2.2.2.2.1) c
      refine J_nmi c.symm ?_
      refine J_tabIn C 160 dX8_light_12 (by decide) (by decide) rfl rfl ?_
      refine J_aload_n C 161 dX8_light_160 rfl rfl ?_
      refine J_get C 164 8 inlX8 0 1 rfl rfl (by decide) wd30 rfl rfl dX8_light_161 rfl ?_
      refine J_getN C 167 6 inlX6 1 3 rfl rfl (by decide) (mi 23 rfl) rfl rfl dX8_light_164 rfl ?_
      refine J_iload_n C 168 dX8_light_167 rfl rfl ?_
      refine J_call1piS (As := [.ref (r0_1 3), .int x1]) C 171 (c_X8_at l D cI cJ cZ cS 9 (r0_1 3) (v0_1.2.2.1 3) x1 _ h) wd147 wd543 wd2 wd146 hdX8_at ⟨Nat.le_of_ble_eq_true rfl, Nat.le_of_ble_eq_true rfl⟩ ⟨Nat.zero_le _, Nat.zero_le _⟩ rfl (Nat.le_of_ble_eq_true rfl) 5 rfl (fun _ => rfl) dX8_light_168 rfl (fun r_10 u h => ?_)
      exact J_iret C hr hk () rfl dX8_light_171 h
  · have h := h.2 c
    refine J_ldc C 10 wd538 dX8_light_8 rfl ?_
    exact J_iret C hr hk () rfl dX8_light_10 h
def wp_X8_sky (v0 : Vl) (v0_11 : Vl) (x1 : Int32) (Q : Int32 → Prop) : Prop := ((x1 < 0 → Q (-1000000002)) ∧ (¬ x1 < 0 → ((x1 ≤ 9999 → wp_X5_skyOf v0_11 x1 (fun r_1 => Q r_1)) ∧ (¬ x1 ≤ 9999 → Q (-1000000002)))))
set_option maxHeartbeats 4000000 in
set_option maxRecDepth 100000 in
theorem c_X8_sky (l : Launch) (D : GG) (cI cJ cZ cS : ClassId) (a0 : Nat) (r0 : Nat → Nat) (v0 : Vl) (r0_11 : Nat → Nat) (v0_11 : Vl) (x1 : Int32) (Q : Int32 → Prop) (h : wp_X8_sky v0 v0_11 x1 Q) : Mi l D (tyL cI cJ cZ cS) yX8_sky cX8_sky 2 .int 2 44 [.ref a0, .int x1] (List.flatten [bX8 cI cJ cZ a0 r0 v0, bX5 cI cJ cZ (r0 11) r0_11 v0_11]) (fun (r : Int32) (u : Unit) => Q r) (fun (u : Unit) => List.flatten [bX8 cI cJ cZ a0 r0 v0, bX5 cI cJ cZ (r0 11) r0_11 v0_11]) := by
  refine Mi_of RX8 [(0, .ref a0), (1, .int x1)] (by decide +kernel) rfl rfl (Nat.le_of_ble_eq_true rfl) ?_
  intro p e s m args below meth c A C hr hk
  refine J_iload_n C 1 dX8_sky_0 rfl rfl ?_
  refine J_if_lt C 4 11 dX8_sky_1 rfl rfl (fun c => ?_) (fun c => ?_)
  · have h := h.1 c
    refine J_ldc C 13 wd207 dX8_sky_11 rfl ?_
    exact J_iret C hr hk () rfl dX8_sky_13 h
  · have h := h.2 c
    refine J_iload_n C 5 dX8_sky_4 rfl rfl ?_
    refine J_sipush C 8 dX8_sky_5 rfl ks_9999 ?_
    refine J_icmp_le C 11 14 dX8_sky_8 rfl rfl (fun c => ?_) (fun c => ?_)
    · have h := h.1 c
      refine J_aload_n C 15 dX8_sky_14 rfl rfl ?_
      refine J_get C 18 8 inlX8 0 11 rfl rfl (by decide) wd25 rfl rfl dX8_sky_15 rfl ?_
      refine J_iload_n C 19 dX8_sky_18 rfl rfl ?_
      refine J_callBiV (Bs := [bX8 cI cJ cZ a0 r0 v0, bX5 cI cJ cZ (r0 11) r0_11 v0_11]) (As := [.int x1]) C 22 (c_X5_skyOf l D cI cJ cZ cS (r0 11) r0_11 v0_11 x1 _ h) wd560 wd557 wd24 wd558 wd559 5 0 rfl rfl rfl hdX5_skyOf ⟨Nat.le_of_ble_eq_true rfl, Nat.le_of_ble_eq_true rfl⟩ ⟨Nat.zero_le _, Nat.zero_le _⟩ rfl (Nat.le_of_ble_eq_true rfl) [1] [0] 2 rfl (by decide +kernel) rfl rfl (fun (u : Unit) => [bX5 cI cJ cZ (r0 11) r0_11 v0_11]) (fun _ => rfl) [1, 0] (by decide +kernel) (fun _ => rfl) rfl (fun (u : Unit) => [bX8 cI cJ cZ a0 r0 v0, bX5 cI cJ cZ (r0 11) r0_11 v0_11]) (fun _ => rfl) dX8_sky_19 rfl (fun r_1 u h => ?_)
      exact J_iret C hr hk () rfl dX8_sky_22 h
    · have h := h.2 c
      refine J_ldc C 13 wd207 dX8_sky_11 rfl ?_
      exact J_iret C hr hk () rfl dX8_sky_13 h
def wp_X8_isNoSky  (x0 : Int32) (Q : Int32 → Prop) : Prop := ((x0 < 0 → Q 1) ∧ (¬ x0 < 0 → ((x0 < 3 → Q 0) ∧ (¬ x0 < 3 → Q 1))))
set_option maxHeartbeats 4000000 in
set_option maxRecDepth 100000 in
theorem c_X8_isNoSky (l : Launch) (D : GG) (cI cJ cZ cS : ClassId)  (x0 : Int32) (Q : Int32 → Prop) (h : wp_X8_isNoSky x0 Q) : Mi l D (tyL cI cJ cZ cS) yX8_isNoSky cX8_isNoSky 1 .boolean 0 0 [.int x0] (List.flatten ([] : List va_W)) (fun (r : Int32) (u : Unit) => Q r) (fun (u : Unit) => List.flatten ([] : List va_W)) := by
  refine Mi_of RX8 [(0, .int x0)] (by decide +kernel) rfl rfl (Nat.le_of_ble_eq_true rfl) ?_
  intro p e s m args below meth c A C hr hk
  refine J_iload_n C 1 dX8_isNoSky_0 rfl rfl ?_
  refine J_if_lt C 4 9 dX8_isNoSky_1 rfl rfl (fun c => ?_) (fun c => ?_)
  · have h := h.1 c
    refine J_iconst C 10 dX8_isNoSky_9 rfl ki_1 ?_
    refine J_goto C 14 dX8_isNoSky_10 rfl ?_
    exact J_zret C hr hk rfl () rfl dX8_isNoSky_14 h
  · have h := h.2 c
    refine J_iload_n C 5 dX8_isNoSky_4 rfl rfl ?_
    refine J_iconst C 6 dX8_isNoSky_5 rfl ki_3 ?_
    refine J_icmp_lt C 9 13 dX8_isNoSky_6 rfl rfl (fun c => ?_) (fun c => ?_)
    · have h := h.1 c
      refine J_iconst C 14 dX8_isNoSky_13 rfl ki_0 ?_
      exact J_zret C hr hk rfl () rfl dX8_isNoSky_14 h
    · have h := h.2 c
      refine J_iconst C 10 dX8_isNoSky_9 rfl ki_1 ?_
      refine J_goto C 14 dX8_isNoSky_10 rfl ?_
      exact J_zret C hr hk rfl () rfl dX8_isNoSky_14 h
def wp_X8_odds (v0 : Vl) (v0_9 : Vl) (x1 : Int32) (x2 : Int32) (Q : Int32 → Prop) : Prop := wp_X8_isNoSky x1 (fun r_1 => ((¬ r_1 = 0 → Q (-1000000001)) ∧ (r_1 = 0 → wp_X8_isNoSky x2 (fun r_2 => ((r_2 = 0 → wp_X3_chanceOf v0_9 x1 x2 (fun r_3 => Q r_3)) ∧ (¬ r_2 = 0 → Q (-1000000001)))))))
set_option maxHeartbeats 4000000 in
set_option maxRecDepth 100000 in
theorem c_X8_odds (l : Launch) (D : GG) (cI cJ cZ cS : ClassId) (a0 : Nat) (r0 : Nat → Nat) (v0 : Vl) (r0_9 : Nat → Nat) (v0_9 : Vl) (x1 : Int32) (x2 : Int32) (Q : Int32 → Prop) (h : wp_X8_odds v0 v0_9 x1 x2 Q) : Mi l D (tyL cI cJ cZ cS) yX8_odds cX8_odds 3 .int 2 43 [.ref a0, .int x1, .int x2] (List.flatten [bX8 cI cJ cZ a0 r0 v0, bX3 cI cJ cZ (r0 9) r0_9 v0_9]) (fun (r : Int32) (u : Unit) => Q r) (fun (u : Unit) => List.flatten [bX8 cI cJ cZ a0 r0 v0, bX3 cI cJ cZ (r0 9) r0_9 v0_9]) := by
  refine Mi_of RX8 [(0, .ref a0), (1, .int x1), (2, .int x2)] (by decide +kernel) rfl rfl (Nat.le_of_ble_eq_true rfl) ?_
  intro p e s m args below meth c A C hr hk
  refine J_iload_n C 1 dX8_odds_0 rfl rfl ?_
  refine J_callBiS (Bs := [bX8 cI cJ cZ a0 r0 v0, bX3 cI cJ cZ (r0 9) r0_9 v0_9]) (As := [.int x1]) C 4 (c_X8_isNoSky l D cI cJ cZ cS x1 _ h) wd576 wd574 wd2 wd575 hdX8_isNoSky ⟨Nat.le_of_ble_eq_true rfl, Nat.le_of_ble_eq_true rfl⟩ ⟨Nat.zero_le _, Nat.zero_le _⟩ rfl (Nat.le_of_ble_eq_true rfl) [] [0, 1] 2 rfl (by decide +kernel) rfl rfl (fun (u : Unit) => ([] : List va_W)) (fun _ => rfl) [0, 1] (by decide +kernel) (fun _ => rfl) rfl (fun (u : Unit) => [bX8 cI cJ cZ a0 r0 v0, bX3 cI cJ cZ (r0 9) r0_9 v0_9]) (fun _ => rfl) dX8_odds_1 rfl (fun r_1 u h => ?_)
  refine J_if_ne C 7 14 dX8_odds_4 rfl rfl (fun c => ?_) (fun c => ?_)
  · have h := h.1 c
    refine J_ldc C 16 wd538 dX8_odds_14 rfl ?_
    exact J_iret C hr hk () rfl dX8_odds_16 h
  · have h := h.2 c
    refine J_iload_n C 8 dX8_odds_7 rfl rfl ?_
    refine J_callBiS (Bs := [bX8 cI cJ cZ a0 r0 v0, bX3 cI cJ cZ (r0 9) r0_9 v0_9]) (As := [.int x2]) C 11 (c_X8_isNoSky l D cI cJ cZ cS x2 _ h) wd576 wd574 wd2 wd575 hdX8_isNoSky ⟨Nat.le_of_ble_eq_true rfl, Nat.le_of_ble_eq_true rfl⟩ ⟨Nat.zero_le _, Nat.zero_le _⟩ rfl (Nat.le_of_ble_eq_true rfl) [] [0, 1] 2 rfl (by decide +kernel) rfl rfl (fun (u : Unit) => ([] : List va_W)) (fun _ => rfl) [0, 1] (by decide +kernel) (fun _ => rfl) rfl (fun (u : Unit) => [bX8 cI cJ cZ a0 r0 v0, bX3 cI cJ cZ (r0 9) r0_9 v0_9]) (fun _ => rfl) dX8_odds_8 rfl (fun r_2 u h => ?_)
    refine J_if_eq C 14 17 dX8_odds_11 rfl rfl (fun c => ?_) (fun c => ?_)
    · have h := h.1 c
      refine J_aload_n C 18 dX8_odds_17 rfl rfl ?_
      refine J_get C 21 8 inlX8 0 9 rfl rfl (by decide) wd20 rfl rfl dX8_odds_18 rfl ?_
      refine J_iload_n C 22 dX8_odds_21 rfl rfl ?_
      refine J_iload_n C 23 dX8_odds_22 rfl rfl ?_
      refine J_callBiV (Bs := [bX8 cI cJ cZ a0 r0 v0, bX3 cI cJ cZ (r0 9) r0_9 v0_9]) (As := [.int x1, .int x2]) C 26 (c_X3_chanceOf l D cI cJ cZ cS (r0 9) r0_9 v0_9 x1 x2 _ h) wd580 wd577 wd19 wd578 wd579 3 0 rfl rfl rfl hdX3_chanceOf ⟨Nat.le_of_ble_eq_true rfl, Nat.le_of_ble_eq_true rfl⟩ ⟨Nat.zero_le _, Nat.zero_le _⟩ rfl (Nat.le_of_ble_eq_true rfl) [1] [0] 2 rfl (by decide +kernel) rfl rfl (fun (u : Unit) => [bX3 cI cJ cZ (r0 9) r0_9 v0_9]) (fun _ => rfl) [1, 0] (by decide +kernel) (fun _ => rfl) rfl (fun (u : Unit) => [bX8 cI cJ cZ a0 r0 v0, bX3 cI cJ cZ (r0 9) r0_9 v0_9]) (fun _ => rfl) dX8_odds_23 rfl (fun r_3 u h => ?_)
      exact J_iret C hr hk () rfl dX8_odds_26 h
    · have h := h.2 c
      refine J_ldc C 16 wd538 dX8_odds_14 rfl ?_
      exact J_iret C hr hk () rfl dX8_odds_16 h
def wp_X8_goal_c16 (v0 : Vl) (v0_9 : Vl) (Q : Int32 → Vl → Prop) (v0_1 : Vl) (y1 : Int32) : Prop := ∀ x_1 : Int32, x_1 = (v0_1.1 9) → ∀ v01s_2 : Vl, v01s_2 = setI v0_1 9 y1 → Q x_1 v01s_2
set_option maxHeartbeats 4000000 in
set_option maxRecDepth 100000 in
theorem wk_X8_goal_c16 {p : Program} {l : Launch} {e : Env} {s : State} {m : MethodId} {args : Array Value} {below : List Frame} {meth : Method} {c : Code} {D : GG} {A : Nat → Prop} {cI cJ cZ cS : ClassId} {a0 : Nat} {r0 : Nat → Nat} {r0_1 : Nat → Nat} {r0_9 : Nat → Nat} {v0 : Vl} {v0_9 : Vl} {Q : Int32 → Vl → Prop} (C : Cx p s m args c D (tyL cI cJ cZ cS) A RX8 cX8_goal 3) (hr : meth.sig.returnType = some .int) (hk : meth.locks = false) : ∀ (v0_1 : Vl) (y1 : Int32), wp_X8_goal_c16 v0 v0_9 Q v0_1 y1 → J p l e (rmk 1 21) s m args below meth c D A 3 0 0 (MQ below (va_Qi (fun (r : Int32) (u : Vl) => Q r u) (fun u t => va_P D.1 vwCl ((fun (u : Vl) => List.flatten [bX8 cI cJ cZ a0 r0 v0, bX6 cI cJ cZ 360 (r0 1) r0_1 u, bX3 cI cJ cZ (r0 9) r0_9 v0_9]) u) t.heap ∧ va_D A ((fun (u : Vl) => List.flatten [bX8 cI cJ cZ a0 r0 v0, bX6 cI cJ cZ 360 (r0 1) r0_1 u, bX3 cI cJ cZ (r0 9) r0_9 v0_9]) u)) A) args s 0 0 A) 16 [(0, .ref a0), (1, .int y1)] [] (List.flatten [bX8 cI cJ cZ a0 r0 v0, bX6 cI cJ cZ 360 (r0 1) r0_1 v0_1, bX3 cI cJ cZ (r0 9) r0_9 v0_9]) := by
  intro v0_1 y1 h
  refine J_aload_n C 17 dX8_goal_16 rfl rfl ?_
  refine J_get C 20 8 inlX8 0 1 rfl rfl (by decide) wd30 rfl rfl dX8_goal_17 rfl ?_
  refine J_getN C 23 6 inlX6 1 9 rfl rfl (by decide) (mi 13 rfl) rfl rfl dX8_goal_20 rfl ?_
  obtain ⟨x_1, ex_1⟩ : ∃ z : Int32, z = (v0_1.1 9) := ⟨_, rfl⟩
  have h := h x_1 ex_1
  refine J_nmi ex_1 ?_
  refine J_istore_n C 24 [(2, .int x_1), (0, .ref a0), (1, .int y1)] dX8_goal_23 rfl (by decide) rfl ?_
  refine J_aload_n C 25 dX8_goal_24 rfl rfl ?_
  refine J_get C 28 8 inlX8 0 1 rfl rfl (by decide) wd30 rfl rfl dX8_goal_25 rfl ?_
  refine J_iload_n C 29 dX8_goal_28 rfl rfl ?_
  obtain ⟨v01s_2, ev01s_2⟩ : ∃ z : Vl, z = setI v0_1 9 y1 := ⟨_, rfl⟩
  have h := h v01s_2 ev01s_2
  refine J_putN C 32 6 inlX6 tyX6 tyX6_ok nmX6 1 9 rfl rfl (by decide) (mi 13 rfl) rfl rfl rfl rfl rfl (List.flatten [bX8 cI cJ cZ a0 r0 v0, bX6 cI cJ cZ 360 (r0 1) r0_1 v01s_2, bX3 cI cJ cZ (r0 9) r0_9 v0_9]) (by subst ev01s_2; rfl) dX8_goal_29 rfl ?_
  refine J_iload_n C 33 dX8_goal_32 rfl rfl ?_
  exact J_iret C hr hk v01s_2 rfl dX8_goal_33 h
def wp_X8_goal (v0 : Vl) (v0_1 : Vl) (v0_9 : Vl) (x1 : Int32) (Q : Int32 → Vl → Prop) : Prop := ((x1 = (-1) → wp_X8_goal_c16 v0 v0_9 Q v0_1 x1) ∧ (¬ x1 = (-1) → wp_X8_isNoLight v0 v0_9 x1 (fun r_3 => ((r_3 = 0 → wp_X8_goal_c16 v0 v0_9 Q v0_1 x1) ∧ (¬ r_3 = 0 → Q (-1000000001) v0_1)))))
set_option maxHeartbeats 4000000 in
set_option maxRecDepth 100000 in
theorem c_X8_goal (l : Launch) (D : GG) (cI cJ cZ cS : ClassId) (a0 : Nat) (r0 : Nat → Nat) (v0 : Vl) (r0_1 : Nat → Nat) (v0_1 : Vl) (r0_9 : Nat → Nat) (v0_9 : Vl) (x1 : Int32) (Q : Int32 → Vl → Prop) (h : wp_X8_goal v0 v0_1 v0_9 x1 Q) : Mi l D (tyL cI cJ cZ cS) yX8_goal cX8_goal 3 .int 1 21 [.ref a0, .int x1] (List.flatten [bX8 cI cJ cZ a0 r0 v0, bX6 cI cJ cZ 360 (r0 1) r0_1 v0_1, bX3 cI cJ cZ (r0 9) r0_9 v0_9]) (fun (r : Int32) (u : Vl) => Q r u) (fun (u : Vl) => List.flatten [bX8 cI cJ cZ a0 r0 v0, bX6 cI cJ cZ 360 (r0 1) r0_1 u, bX3 cI cJ cZ (r0 9) r0_9 v0_9]) := by
  refine Mi_of RX8 [(0, .ref a0), (1, .int x1)] (by decide +kernel) rfl rfl (Nat.le_of_ble_eq_true rfl) ?_
  intro p e s m args below meth c A C hr hk
  refine J_iload_n C 1 dX8_goal_0 rfl rfl ?_
  refine J_iconst C 2 dX8_goal_1 rfl ki_m1 ?_
  refine J_icmp_eq C 5 16 dX8_goal_2 rfl rfl (fun c => ?_) (fun c => ?_)
  · have h := h.1 c
    refine J_loc [0, 1] rfl ?_
    exact wk_X8_goal_c16 C hr hk v0_1 x1 h
  · have h := h.2 c
    refine J_aload_n C 6 dX8_goal_5 rfl rfl ?_
    refine J_iload_n C 7 dX8_goal_6 rfl rfl ?_
    refine J_callBiV (Bs := [bX8 cI cJ cZ a0 r0 v0, bX6 cI cJ cZ 360 (r0 1) r0_1 v0_1, bX3 cI cJ cZ (r0 9) r0_9 v0_9]) (As := [.int x1]) C 10 (c_X8_isNoLight l D cI cJ cZ cS a0 r0 v0 r0_9 v0_9 x1 _ h) wd542 wd539 wd2 wd540 wd541 8 0 rfl rfl rfl hdX8_isNoLight ⟨Nat.le_of_ble_eq_true rfl, Nat.le_of_ble_eq_true rfl⟩ ⟨Nat.zero_le _, Nat.zero_le _⟩ rfl (Nat.le_of_ble_eq_true rfl) [0, 2] [1] 3 rfl (by decide +kernel) rfl rfl (fun (u : Unit) => [bX8 cI cJ cZ a0 r0 v0, bX3 cI cJ cZ (r0 9) r0_9 v0_9]) (fun _ => rfl) [0, 2, 1] (by decide +kernel) (fun _ => rfl) rfl (fun (u : Unit) => [bX8 cI cJ cZ a0 r0 v0, bX6 cI cJ cZ 360 (r0 1) r0_1 v0_1, bX3 cI cJ cZ (r0 9) r0_9 v0_9]) (fun _ => rfl) dX8_goal_7 rfl (fun r_3 u h => ?_)
    refine J_if_eq C 13 16 dX8_goal_10 rfl rfl (fun c => ?_) (fun c => ?_)
    · have h := h.1 c
      refine J_loc [0, 1] rfl ?_
      exact wk_X8_goal_c16 C hr hk v0_1 x1 h
    · have h := h.2 c
      refine J_ldc C 15 wd538 dX8_goal_13 rfl ?_
      exact J_iret C hr hk v0_1 rfl dX8_goal_15 h
def wp_X8_wick_c40 (v0 : Vl) (v0_9 : Vl) (Q : Int32 → Vl → Prop) (v0_1 : Vl) (y3 : Int32) (s0 : Int32) (s1 : Int32) : Prop := wp_X8_put 9 (v0_1.2.2.1 1) s1 s0 (fun u_3 => ∀ v01s_4 : Vl, v01s_4 = setRA v0_1 1 u_3 → Q y3 v01s_4)
set_option maxHeartbeats 4000000 in
set_option maxRecDepth 100000 in
theorem wk_X8_wick_c40 {p : Program} {l : Launch} {e : Env} {s : State} {m : MethodId} {args : Array Value} {below : List Frame} {meth : Method} {c : Code} {D : GG} {A : Nat → Prop} {cI cJ cZ cS : ClassId} {a0 : Nat} {r0 : Nat → Nat} {r0_1 : Nat → Nat} {r0_9 : Nat → Nat} {v0 : Vl} {v0_9 : Vl} {Q : Int32 → Vl → Prop} (C : Cx p s m args c D (tyL cI cJ cZ cS) A RX8 cX8_wick 4) (hr : meth.sig.returnType = some .int) (hk : meth.locks = false) : ∀ (v0_1 : Vl) (y3 : Int32) (s0 : Int32) (s1 : Int32), wp_X8_wick_c40 v0 v0_9 Q v0_1 y3 s0 s1 → J p l e (rmk 1 22) s m args below meth c D A 4 0 0 (MQ below (va_Qi (fun (r : Int32) (u : Vl) => Q r u) (fun u t => va_P D.1 vwCl ((fun (u : Vl) => List.flatten [bX8 cI cJ cZ a0 r0 v0, bX6 cI cJ cZ 360 (r0 1) r0_1 u, bX3 cI cJ cZ (r0 9) r0_9 v0_9]) u) t.heap ∧ va_D A ((fun (u : Vl) => List.flatten [bX8 cI cJ cZ a0 r0 v0, bX6 cI cJ cZ 360 (r0 1) r0_1 u, bX3 cI cJ cZ (r0 9) r0_9 v0_9]) u)) A) args s 0 0 A) 40 [(3, .int y3)] [.int s0, .int s1, .ref (r0_1 1)] (List.flatten [bX8 cI cJ cZ a0 r0 v0, bX6 cI cJ cZ 360 (r0 1) r0_1 v0_1, bX3 cI cJ cZ (r0 9) r0_9 v0_9]) := by
  intro v0_1 y3 s0 s1 h
  refine J_call1vS (As := [.ref (r0_1 1), .int s1, .int s0]) C 43 (c_X8_put l D cI cJ cZ cS 9 (r0_1 1) (v0_1.2.2.1 1) s1 s0 _ h) wd83 wd601 wd2 wd82 hdX8_put ⟨Nat.le_of_ble_eq_true rfl, Nat.le_of_ble_eq_true rfl⟩ ⟨Nat.zero_le _, Nat.zero_le _⟩ rfl (Nat.le_of_ble_eq_true rfl) 3 rfl (fun u => .inl (cI, 9, .inl u)) (fun _ => rfl) (fun (u : (Nat → Int32)) => List.flatten [bX8 cI cJ cZ a0 r0 v0, bX6 cI cJ cZ 360 (r0 1) r0_1 (setRA v0_1 1 u), bX3 cI cJ cZ (r0 9) r0_9 v0_9]) (fun _ => rfl) dX8_wick_40 rfl (fun u h => ?_)
  obtain ⟨u_3, hu⟩ : ∃ z, z = u := ⟨_, rfl⟩
  subst hu
  obtain ⟨v01s_4, ev01s_4⟩ : ∃ z : Vl, z = setRA v0_1 1 u_3 := ⟨_, rfl⟩
  have h := h v01s_4 ev01s_4
  refine J_ws (ws' := List.flatten [bX8 cI cJ cZ a0 r0 v0, bX6 cI cJ cZ 360 (r0 1) r0_1 v01s_4, bX3 cI cJ cZ (r0 9) r0_9 v0_9]) (by subst ev01s_4; rfl) ?_
  refine J_iload_n C 44 dX8_wick_43 rfl rfl ?_
  exact J_iret C hr hk v01s_4 rfl dX8_wick_44 h
def wp_X8_wick (v0 : Vl) (v0_1 : Vl) (v0_9 : Vl) (x1 : Int32) (x2 : Int32) (Q : Int32 → Vl → Prop) : Prop := wp_X8_isNoLight v0 v0_9 x1 (fun r_1 => ((r_1 = 0 → wp_X8_at 9 (v0_1.2.2.1 1) x1 (fun r_2 => ((x2 = 0 → wp_X8_wick_c40 v0 v0_9 Q v0_1 r_2 0 x1) ∧ (¬ x2 = 0 → wp_X8_wick_c40 v0 v0_9 Q v0_1 r_2 1 x1)))) ∧ (¬ r_1 = 0 → Q (-1000000001) v0_1)))
set_option maxHeartbeats 4000000 in
set_option maxRecDepth 100000 in
theorem c_X8_wick (l : Launch) (D : GG) (cI cJ cZ cS : ClassId) (a0 : Nat) (r0 : Nat → Nat) (v0 : Vl) (r0_1 : Nat → Nat) (v0_1 : Vl) (r0_9 : Nat → Nat) (v0_9 : Vl) (x1 : Int32) (x2 : Int32) (Q : Int32 → Vl → Prop) (h : wp_X8_wick v0 v0_1 v0_9 x1 x2 Q) : Mi l D (tyL cI cJ cZ cS) yX8_wick cX8_wick 4 .int 1 22 [.ref a0, .int x1, .int x2] (List.flatten [bX8 cI cJ cZ a0 r0 v0, bX6 cI cJ cZ 360 (r0 1) r0_1 v0_1, bX3 cI cJ cZ (r0 9) r0_9 v0_9]) (fun (r : Int32) (u : Vl) => Q r u) (fun (u : Vl) => List.flatten [bX8 cI cJ cZ a0 r0 v0, bX6 cI cJ cZ 360 (r0 1) r0_1 u, bX3 cI cJ cZ (r0 9) r0_9 v0_9]) := by
  refine Mi_of RX8 [(0, .ref a0), (1, .int x1), (2, .int x2)] (by decide +kernel) rfl rfl (Nat.le_of_ble_eq_true rfl) ?_
  intro p e s m args below meth c A C hr hk
  refine J_aload_n C 1 dX8_wick_0 rfl rfl ?_
  refine J_iload_n C 2 dX8_wick_1 rfl rfl ?_
  refine J_callBiV (Bs := [bX8 cI cJ cZ a0 r0 v0, bX6 cI cJ cZ 360 (r0 1) r0_1 v0_1, bX3 cI cJ cZ (r0 9) r0_9 v0_9]) (As := [.int x1]) C 5 (c_X8_isNoLight l D cI cJ cZ cS a0 r0 v0 r0_9 v0_9 x1 _ h) wd542 wd539 wd2 wd540 wd541 8 0 rfl rfl rfl hdX8_isNoLight ⟨Nat.le_of_ble_eq_true rfl, Nat.le_of_ble_eq_true rfl⟩ ⟨Nat.zero_le _, Nat.zero_le _⟩ rfl (Nat.le_of_ble_eq_true rfl) [0, 2] [1] 3 rfl (by decide +kernel) rfl rfl (fun (u : Unit) => [bX8 cI cJ cZ a0 r0 v0, bX3 cI cJ cZ (r0 9) r0_9 v0_9]) (fun _ => rfl) [0, 2, 1] (by decide +kernel) (fun _ => rfl) rfl (fun (u : Unit) => [bX8 cI cJ cZ a0 r0 v0, bX6 cI cJ cZ 360 (r0 1) r0_1 v0_1, bX3 cI cJ cZ (r0 9) r0_9 v0_9]) (fun _ => rfl) dX8_wick_2 rfl (fun r_1 u h => ?_)
  refine J_if_eq C 8 11 dX8_wick_5 rfl rfl (fun c => ?_) (fun c => ?_)
  · have h := h.1 c
    refine J_aload_n C 12 dX8_wick_11 rfl rfl ?_
    refine J_get C 15 8 inlX8 0 1 rfl rfl (by decide) wd30 rfl rfl dX8_wick_12 rfl ?_
    refine J_getN C 18 6 inlX6 1 1 rfl rfl (by decide) (mi 21 rfl) rfl rfl dX8_wick_15 rfl ?_
    refine J_iload_n C 19 dX8_wick_18 rfl rfl ?_
    refine J_call1piS (As := [.ref (r0_1 1), .int x1]) C 22 (c_X8_at l D cI cJ cZ cS 9 (r0_1 1) (v0_1.2.2.1 1) x1 _ h) wd147 wd543 wd2 wd146 hdX8_at ⟨Nat.le_of_ble_eq_true rfl, Nat.le_of_ble_eq_true rfl⟩ ⟨Nat.zero_le _, Nat.zero_le _⟩ rfl (Nat.le_of_ble_eq_true rfl) 3 rfl (fun _ => rfl) dX8_wick_19 rfl (fun r_2 u h => ?_)
    refine J_istore_n C 23 [(3, .int r_2), (0, .ref a0), (1, .int x1), (2, .int x2)] dX8_wick_22 rfl (by decide) rfl ?_
    refine J_aload_n C 24 dX8_wick_23 rfl rfl ?_
    refine J_get C 27 8 inlX8 0 1 rfl rfl (by decide) wd30 rfl rfl dX8_wick_24 rfl ?_
    refine J_getN C 30 6 inlX6 1 1 rfl rfl (by decide) (mi 21 rfl) rfl rfl dX8_wick_27 rfl ?_
    refine J_iload_n C 31 dX8_wick_30 rfl rfl ?_
    refine J_iload_n C 32 dX8_wick_31 rfl rfl ?_
    refine J_if_eq C 35 39 dX8_wick_32 rfl rfl (fun c => ?_) (fun c => ?_)
    · have h := h.1 c
      refine J_iconst C 40 dX8_wick_39 rfl ki_0 ?_
      refine J_loc [0] rfl ?_
      exact wk_X8_wick_c40 C hr hk v0_1 r_2 0 x1 h
    · have h := h.2 c
      refine J_iconst C 36 dX8_wick_35 rfl ki_1 ?_
      refine J_goto C 40 dX8_wick_36 rfl ?_
      refine J_loc [0] rfl ?_
      exact wk_X8_wick_c40 C hr hk v0_1 r_2 1 x1 h
  · have h := h.2 c
    refine J_ldc C 10 wd538 dX8_wick_8 rfl ?_
    exact J_iret C hr hk v0_1 rfl dX8_wick_10 h
def wp_X8_go_c19 (v0 : Vl) (v0_9 : Vl) (v0_11 : Vl) (Q : Int32 → Vl → Prop) : Nat → Vl → Int32 → Int32 → Int32 → Prop
  | 0 => fun _ _ _ _ => False
  | n + 1 => fun v0_1 y1 y2 y3 => ((y1 ≤ y3 → Q y2 v0_1) ∧ (¬ y1 ≤ y3 → wp_X5_skyOf v0_11 (v0_1.1 12) (fun r_1 => wp_X6_live 360 v0_1 v0_9 r_1 (fun r_3 u_2 => ∀ x_4 : Int32, x_4 = y3 + 1 → wp_X8_go_c19 v0 v0_9 v0_11 Q n u_2 y1 r_3 x_4))))
set_option maxHeartbeats 4000000 in
set_option maxRecDepth 100000 in
theorem wk_X8_go_c19 {p : Program} {l : Launch} {e : Env} {s : State} {m : MethodId} {args : Array Value} {below : List Frame} {meth : Method} {c : Code} {D : GG} {A : Nat → Prop} {cI cJ cZ cS : ClassId} {a0 : Nat} {r0 : Nat → Nat} {r0_1 : Nat → Nat} {r0_9 : Nat → Nat} {r0_11 : Nat → Nat} {v0 : Vl} {v0_9 : Vl} {v0_11 : Vl} {Q : Int32 → Vl → Prop} (C : Cx p s m args c D (tyL cI cJ cZ cS) A RX8 cX8_go 4) (hr : meth.sig.returnType = some .int) (hk : meth.locks = false) : ∀ (n : Nat) (v0_1 : Vl) (y1 : Int32) (y2 : Int32) (y3 : Int32), wp_X8_go_c19 v0 v0_9 v0_11 Q n v0_1 y1 y2 y3 → J p l e (rmk 4 95) s m args below meth c D A 4 0 0 (MQ below (va_Qi (fun (r : Int32) (u : Vl) => Q r u) (fun u t => va_P D.1 vwCl ((fun (u : Vl) => List.flatten [bX8 cI cJ cZ a0 r0 v0, bX6 cI cJ cZ 360 (r0 1) r0_1 u, bX3 cI cJ cZ (r0 9) r0_9 v0_9, bX5 cI cJ cZ (r0 11) r0_11 v0_11]) u) t.heap ∧ va_D A ((fun (u : Vl) => List.flatten [bX8 cI cJ cZ a0 r0 v0, bX6 cI cJ cZ 360 (r0 1) r0_1 u, bX3 cI cJ cZ (r0 9) r0_9 v0_9, bX5 cI cJ cZ (r0 11) r0_11 v0_11]) u)) A) args s 0 0 A) 19 [(0, .ref a0), (1, .int y1), (2, .int y2), (3, .int y3)] [] (List.flatten [bX8 cI cJ cZ a0 r0 v0, bX6 cI cJ cZ 360 (r0 1) r0_1 v0_1, bX3 cI cJ cZ (r0 9) r0_9 v0_9, bX5 cI cJ cZ (r0 11) r0_11 v0_11]) := by
  intro n
  induction n with
  | zero =>
    intro v0_1 y1 y2 y3 h
    exact False.elim h
  | succ n ih =>
    intro v0_1 y1 y2 y3 h
    refine J_iload_n C 20 dX8_go_19 rfl rfl ?_
    refine J_iload_n C 21 dX8_go_20 rfl rfl ?_
    refine J_icmp_ge C 24 56 dX8_go_21 rfl rfl (fun c => ?_) (fun c => ?_)
    · have h := h.1 c
      refine J_iload_n C 57 dX8_go_56 rfl rfl ?_
      exact J_iret C hr hk v0_1 rfl dX8_go_57 h
    · have h := h.2 c
      refine J_aload_n C 25 dX8_go_24 rfl rfl ?_
      refine J_get C 28 8 inlX8 0 1 rfl rfl (by decide) wd30 rfl rfl dX8_go_25 rfl ?_
      refine J_aload_n C 29 dX8_go_28 rfl rfl ?_
      refine J_get C 32 8 inlX8 0 9 rfl rfl (by decide) wd20 rfl rfl dX8_go_29 rfl ?_
      refine J_aload_n C 33 dX8_go_32 rfl rfl ?_
      refine J_get C 36 8 inlX8 0 11 rfl rfl (by decide) wd25 rfl rfl dX8_go_33 rfl ?_
      refine J_aload_n C 37 dX8_go_36 rfl rfl ?_
      refine J_get C 40 8 inlX8 0 1 rfl rfl (by decide) wd30 rfl rfl dX8_go_37 rfl ?_
      refine J_getN C 43 6 inlX6 1 12 rfl rfl (by decide) (mi 6 rfl) rfl rfl dX8_go_40 rfl ?_
      refine J_callBiV (Bs := [bX8 cI cJ cZ a0 r0 v0, bX6 cI cJ cZ 360 (r0 1) r0_1 v0_1, bX3 cI cJ cZ (r0 9) r0_9 v0_9, bX5 cI cJ cZ (r0 11) r0_11 v0_11]) (As := [.int (v0_1.1 12)]) C 46 (c_X5_skyOf l D cI cJ cZ cS (r0 11) r0_11 v0_11 (v0_1.1 12) _ h) wd560 wd557 wd24 wd558 wd559 5 0 rfl rfl rfl hdX5_skyOf ⟨Nat.le_of_ble_eq_true rfl, Nat.le_of_ble_eq_true rfl⟩ ⟨Nat.zero_le _, Nat.zero_le _⟩ rfl (Nat.le_of_ble_eq_true rfl) [3] [0, 1, 2] 4 rfl (by decide +kernel) rfl rfl (fun (u : Unit) => [bX5 cI cJ cZ (r0 11) r0_11 v0_11]) (fun _ => rfl) [1, 2, 3, 0] (by decide +kernel) (fun _ => rfl) rfl (fun (u : Unit) => [bX8 cI cJ cZ a0 r0 v0, bX6 cI cJ cZ 360 (r0 1) r0_1 v0_1, bX3 cI cJ cZ (r0 9) r0_9 v0_9, bX5 cI cJ cZ (r0 11) r0_11 v0_11]) (fun _ => rfl) dX8_go_43 rfl (fun r_1 u h => ?_)
      refine J_callBiV (Bs := [bX8 cI cJ cZ a0 r0 v0, bX6 cI cJ cZ 360 (r0 1) r0_1 v0_1, bX3 cI cJ cZ (r0 9) r0_9 v0_9, bX5 cI cJ cZ (r0 11) r0_11 v0_11]) (As := [.ref (r0 9), .int r_1]) C 49 (c_X6_live l D cI cJ cZ cS 360 (r0 1) r0_1 v0_1 (r0 9) r0_9 v0_9 r_1 _ h) wd613 wd610 wd29 wd611 wd612 6 0 rfl rfl rfl hdX6_live ⟨Nat.le_of_ble_eq_true rfl, Nat.le_of_ble_eq_true rfl⟩ ⟨Nat.zero_le _, Nat.zero_le _⟩ rfl (Nat.le_of_ble_eq_true rfl) [1, 2] [0, 3] 4 rfl (by decide +kernel) rfl rfl (fun (u : Vl) => [bX6 cI cJ cZ 360 (r0 1) r0_1 u, bX3 cI cJ cZ (r0 9) r0_9 v0_9]) (fun _ => rfl) [2, 0, 1, 3] (by decide +kernel) (fun _ => rfl) rfl (fun (u : Vl) => [bX8 cI cJ cZ a0 r0 v0, bX6 cI cJ cZ 360 (r0 1) r0_1 u, bX3 cI cJ cZ (r0 9) r0_9 v0_9, bX5 cI cJ cZ (r0 11) r0_11 v0_11]) (fun _ => rfl) dX8_go_46 rfl (fun r_3 u h => ?_)
      obtain ⟨u_2, hu⟩ : ∃ z, z = u := ⟨_, rfl⟩
      subst hu
      refine J_istore_n C 50 [(2, .int r_3), (0, .ref a0), (1, .int y1), (3, .int y3)] dX8_go_49 rfl (by decide) rfl ?_
      obtain ⟨x_4, ex_4⟩ : ∃ z : Int32, z = y3 + 1 := ⟨_, rfl⟩
      have h := h x_4 ex_4
      refine J_iinc C 53 [(3, .int x_4), (2, .int r_3), (0, .ref a0), (1, .int y1)] dX8_go_50 rfl rfl ((kinc_1 _).trans ex_4.symm) (by decide) rfl ?_
      refine J_goto C 19 dX8_go_53 rfl ?_
      refine J_loc [2, 3, 1, 0] rfl ?_
      exact ih u_2 y1 r_3 x_4 h
def wp_X8_go (v0 : Vl) (v0_1 : Vl) (v0_9 : Vl) (v0_11 : Vl) (x1 : Int32) (Q : Int32 → Vl → Prop) : Prop := ((x1 < 1 → Q (-1000000002) v0_1) ∧ (¬ x1 < 1 → ((x1 ≤ 200 → (∃ k : Nat, wp_X8_go_c19 v0 v0_9 v0_11 Q k v0_1 x1 0 0)) ∧ (¬ x1 ≤ 200 → Q (-1000000002) v0_1))))
set_option maxHeartbeats 4000000 in
set_option maxRecDepth 100000 in
theorem c_X8_go (l : Launch) (D : GG) (cI cJ cZ cS : ClassId) (a0 : Nat) (r0 : Nat → Nat) (v0 : Vl) (r0_1 : Nat → Nat) (v0_1 : Vl) (r0_9 : Nat → Nat) (v0_9 : Vl) (r0_11 : Nat → Nat) (v0_11 : Vl) (x1 : Int32) (Q : Int32 → Vl → Prop) (h : wp_X8_go v0 v0_1 v0_9 v0_11 x1 Q) : Mi l D (tyL cI cJ cZ cS) yX8_go cX8_go 4 .int 4 95 [.ref a0, .int x1] (List.flatten [bX8 cI cJ cZ a0 r0 v0, bX6 cI cJ cZ 360 (r0 1) r0_1 v0_1, bX3 cI cJ cZ (r0 9) r0_9 v0_9, bX5 cI cJ cZ (r0 11) r0_11 v0_11]) (fun (r : Int32) (u : Vl) => Q r u) (fun (u : Vl) => List.flatten [bX8 cI cJ cZ a0 r0 v0, bX6 cI cJ cZ 360 (r0 1) r0_1 u, bX3 cI cJ cZ (r0 9) r0_9 v0_9, bX5 cI cJ cZ (r0 11) r0_11 v0_11]) := by
  refine Mi_of RX8 [(0, .ref a0), (1, .int x1)] (by decide +kernel) rfl rfl (Nat.le_of_ble_eq_true rfl) ?_
  intro p e s m args below meth c A C hr hk
  refine J_iload_n C 1 dX8_go_0 rfl rfl ?_
  refine J_iconst C 2 dX8_go_1 rfl ki_1 ?_
  refine J_icmp_lt C 5 12 dX8_go_2 rfl rfl (fun c => ?_) (fun c => ?_)
  · have h := h.1 c
    refine J_ldc C 14 wd207 dX8_go_12 rfl ?_
    exact J_iret C hr hk v0_1 rfl dX8_go_14 h
  · have h := h.2 c
    refine J_iload_n C 6 dX8_go_5 rfl rfl ?_
    refine J_sipush C 9 dX8_go_6 rfl ks_200 ?_
    refine J_icmp_le C 12 15 dX8_go_9 rfl rfl (fun c => ?_) (fun c => ?_)
    · have h := h.1 c
      refine J_iconst C 16 dX8_go_15 rfl ki_0 ?_
      refine J_istore_n C 17 [(2, .int 0), (0, .ref a0), (1, .int x1)] dX8_go_16 rfl (by decide) rfl ?_
      refine J_iconst C 18 dX8_go_17 rfl ki_0 ?_
      refine J_istore_n C 19 [(3, .int 0), (2, .int 0), (0, .ref a0), (1, .int x1)] dX8_go_18 rfl (by decide) rfl ?_
      refine J_loc [2, 3, 1, 0] rfl ?_
      obtain ⟨n1, h⟩ := h
      exact wk_X8_go_c19 C hr hk n1 v0_1 x1 0 0 h
    · have h := h.2 c
      refine J_ldc C 14 wd207 dX8_go_12 rfl ?_
      exact J_iret C hr hk v0_1 rfl dX8_go_14 h
def wp_X8_drift_c19 (v0 : Vl) (v0_9 : Vl) (Q : Int32 → Vl → Prop) : Nat → Vl → Int32 → Int32 → Int32 → Prop
  | 0 => fun _ _ _ _ => False
  | n + 1 => fun v0_1 y1 y2 y3 => ((y1 ≤ y3 → Q y2 v0_1) ∧ (¬ y1 ≤ y3 → wp_X6_drawSky 360 v0_1 v0_9 (fun r_2 u_1 => wp_X6_live 360 u_1 v0_9 r_2 (fun r_4 u_3 => ∀ x_5 : Int32, x_5 = y3 + 1 → wp_X8_drift_c19 v0 v0_9 Q n u_3 y1 r_4 x_5))))
set_option maxHeartbeats 4000000 in
set_option maxRecDepth 100000 in
theorem wk_X8_drift_c19 {p : Program} {l : Launch} {e : Env} {s : State} {m : MethodId} {args : Array Value} {below : List Frame} {meth : Method} {c : Code} {D : GG} {A : Nat → Prop} {cI cJ cZ cS : ClassId} {a0 : Nat} {r0 : Nat → Nat} {r0_1 : Nat → Nat} {r0_9 : Nat → Nat} {v0 : Vl} {v0_9 : Vl} {Q : Int32 → Vl → Prop} (C : Cx p s m args c D (tyL cI cJ cZ cS) A RX8 cX8_drift 4) (hr : meth.sig.returnType = some .int) (hk : meth.locks = false) : ∀ (n : Nat) (v0_1 : Vl) (y1 : Int32) (y2 : Int32) (y3 : Int32), wp_X8_drift_c19 v0 v0_9 Q n v0_1 y1 y2 y3 → J p l e (rmk 4 95) s m args below meth c D A 4 0 0 (MQ below (va_Qi (fun (r : Int32) (u : Vl) => Q r u) (fun u t => va_P D.1 vwCl ((fun (u : Vl) => List.flatten [bX8 cI cJ cZ a0 r0 v0, bX6 cI cJ cZ 360 (r0 1) r0_1 u, bX3 cI cJ cZ (r0 9) r0_9 v0_9]) u) t.heap ∧ va_D A ((fun (u : Vl) => List.flatten [bX8 cI cJ cZ a0 r0 v0, bX6 cI cJ cZ 360 (r0 1) r0_1 u, bX3 cI cJ cZ (r0 9) r0_9 v0_9]) u)) A) args s 0 0 A) 19 [(0, .ref a0), (1, .int y1), (2, .int y2), (3, .int y3)] [] (List.flatten [bX8 cI cJ cZ a0 r0 v0, bX6 cI cJ cZ 360 (r0 1) r0_1 v0_1, bX3 cI cJ cZ (r0 9) r0_9 v0_9]) := by
  intro n
  induction n with
  | zero =>
    intro v0_1 y1 y2 y3 h
    exact False.elim h
  | succ n ih =>
    intro v0_1 y1 y2 y3 h
    refine J_iload_n C 20 dX8_drift_19 rfl rfl ?_
    refine J_iload_n C 21 dX8_drift_20 rfl rfl ?_
    refine J_icmp_ge C 24 53 dX8_drift_21 rfl rfl (fun c => ?_) (fun c => ?_)
    · have h := h.1 c
      refine J_iload_n C 54 dX8_drift_53 rfl rfl ?_
      exact J_iret C hr hk v0_1 rfl dX8_drift_54 h
    · have h := h.2 c
      refine J_aload_n C 25 dX8_drift_24 rfl rfl ?_
      refine J_get C 28 8 inlX8 0 1 rfl rfl (by decide) wd30 rfl rfl dX8_drift_25 rfl ?_
      refine J_aload_n C 29 dX8_drift_28 rfl rfl ?_
      refine J_get C 32 8 inlX8 0 9 rfl rfl (by decide) wd20 rfl rfl dX8_drift_29 rfl ?_
      refine J_aload_n C 33 dX8_drift_32 rfl rfl ?_
      refine J_get C 36 8 inlX8 0 1 rfl rfl (by decide) wd30 rfl rfl dX8_drift_33 rfl ?_
      refine J_aload_n C 37 dX8_drift_36 rfl rfl ?_
      refine J_get C 40 8 inlX8 0 9 rfl rfl (by decide) wd20 rfl rfl dX8_drift_37 rfl ?_
      refine J_callBiV (Bs := [bX8 cI cJ cZ a0 r0 v0, bX6 cI cJ cZ 360 (r0 1) r0_1 v0_1, bX3 cI cJ cZ (r0 9) r0_9 v0_9]) (As := [.ref (r0 9)]) C 43 (c_X6_drawSky l D cI cJ cZ cS 360 (r0 1) r0_1 v0_1 (r0 9) r0_9 v0_9 _ h) wd721 wd718 wd29 wd719 wd720 6 0 rfl rfl rfl hdX6_drawSky ⟨Nat.le_of_ble_eq_true rfl, Nat.le_of_ble_eq_true rfl⟩ ⟨Nat.zero_le _, Nat.zero_le _⟩ rfl (Nat.le_of_ble_eq_true rfl) [1, 2] [0] 3 rfl (by decide +kernel) rfl rfl (fun (u : Vl) => [bX6 cI cJ cZ 360 (r0 1) r0_1 u, bX3 cI cJ cZ (r0 9) r0_9 v0_9]) (fun _ => rfl) [2, 0, 1] (by decide +kernel) (fun _ => rfl) rfl (fun (u : Vl) => [bX8 cI cJ cZ a0 r0 v0, bX6 cI cJ cZ 360 (r0 1) r0_1 u, bX3 cI cJ cZ (r0 9) r0_9 v0_9]) (fun _ => rfl) dX8_drift_40 rfl (fun r_2 u h => ?_)
      obtain ⟨u_1, hu⟩ : ∃ z, z = u := ⟨_, rfl⟩
      subst hu
      refine J_callBiV (Bs := [bX8 cI cJ cZ a0 r0 v0, bX6 cI cJ cZ 360 (r0 1) r0_1 u_1, bX3 cI cJ cZ (r0 9) r0_9 v0_9]) (As := [.ref (r0 9), .int r_2]) C 46 (c_X6_live l D cI cJ cZ cS 360 (r0 1) r0_1 u_1 (r0 9) r0_9 v0_9 r_2 _ h) wd613 wd610 wd29 wd611 wd612 6 0 rfl rfl rfl hdX6_live ⟨Nat.le_of_ble_eq_true rfl, Nat.le_of_ble_eq_true rfl⟩ ⟨Nat.zero_le _, Nat.zero_le _⟩ rfl (Nat.le_of_ble_eq_true rfl) [1, 2] [0] 3 rfl (by decide +kernel) rfl rfl (fun (u : Vl) => [bX6 cI cJ cZ 360 (r0 1) r0_1 u, bX3 cI cJ cZ (r0 9) r0_9 v0_9]) (fun _ => rfl) [2, 0, 1] (by decide +kernel) (fun _ => rfl) rfl (fun (u : Vl) => [bX8 cI cJ cZ a0 r0 v0, bX6 cI cJ cZ 360 (r0 1) r0_1 u, bX3 cI cJ cZ (r0 9) r0_9 v0_9]) (fun _ => rfl) dX8_drift_43 rfl (fun r_4 u h => ?_)
      obtain ⟨u_3, hu⟩ : ∃ z, z = u := ⟨_, rfl⟩
      subst hu
      refine J_istore_n C 47 [(2, .int r_4), (0, .ref a0), (1, .int y1), (3, .int y3)] dX8_drift_46 rfl (by decide) rfl ?_
      obtain ⟨x_5, ex_5⟩ : ∃ z : Int32, z = y3 + 1 := ⟨_, rfl⟩
      have h := h x_5 ex_5
      refine J_iinc C 50 [(3, .int x_5), (2, .int r_4), (0, .ref a0), (1, .int y1)] dX8_drift_47 rfl rfl ((kinc_1 _).trans ex_5.symm) (by decide) rfl ?_
      refine J_goto C 19 dX8_drift_50 rfl ?_
      refine J_loc [2, 3, 1, 0] rfl ?_
      exact ih u_3 y1 r_4 x_5 h
def wp_X8_drift (v0 : Vl) (v0_1 : Vl) (v0_9 : Vl) (x1 : Int32) (Q : Int32 → Vl → Prop) : Prop := ((x1 < 1 → Q (-1000000002) v0_1) ∧ (¬ x1 < 1 → ((x1 ≤ 200 → (∃ k : Nat, wp_X8_drift_c19 v0 v0_9 Q k v0_1 x1 0 0)) ∧ (¬ x1 ≤ 200 → Q (-1000000002) v0_1))))
set_option maxHeartbeats 4000000 in
set_option maxRecDepth 100000 in
theorem c_X8_drift (l : Launch) (D : GG) (cI cJ cZ cS : ClassId) (a0 : Nat) (r0 : Nat → Nat) (v0 : Vl) (r0_1 : Nat → Nat) (v0_1 : Vl) (r0_9 : Nat → Nat) (v0_9 : Vl) (x1 : Int32) (Q : Int32 → Vl → Prop) (h : wp_X8_drift v0 v0_1 v0_9 x1 Q) : Mi l D (tyL cI cJ cZ cS) yX8_drift cX8_drift 4 .int 4 95 [.ref a0, .int x1] (List.flatten [bX8 cI cJ cZ a0 r0 v0, bX6 cI cJ cZ 360 (r0 1) r0_1 v0_1, bX3 cI cJ cZ (r0 9) r0_9 v0_9]) (fun (r : Int32) (u : Vl) => Q r u) (fun (u : Vl) => List.flatten [bX8 cI cJ cZ a0 r0 v0, bX6 cI cJ cZ 360 (r0 1) r0_1 u, bX3 cI cJ cZ (r0 9) r0_9 v0_9]) := by
  refine Mi_of RX8 [(0, .ref a0), (1, .int x1)] (by decide +kernel) rfl rfl (Nat.le_of_ble_eq_true rfl) ?_
  intro p e s m args below meth c A C hr hk
  refine J_iload_n C 1 dX8_drift_0 rfl rfl ?_
  refine J_iconst C 2 dX8_drift_1 rfl ki_1 ?_
  refine J_icmp_lt C 5 12 dX8_drift_2 rfl rfl (fun c => ?_) (fun c => ?_)
  · have h := h.1 c
    refine J_ldc C 14 wd207 dX8_drift_12 rfl ?_
    exact J_iret C hr hk v0_1 rfl dX8_drift_14 h
  · have h := h.2 c
    refine J_iload_n C 6 dX8_drift_5 rfl rfl ?_
    refine J_sipush C 9 dX8_drift_6 rfl ks_200 ?_
    refine J_icmp_le C 12 15 dX8_drift_9 rfl rfl (fun c => ?_) (fun c => ?_)
    · have h := h.1 c
      refine J_iconst C 16 dX8_drift_15 rfl ki_0 ?_
      refine J_istore_n C 17 [(2, .int 0), (0, .ref a0), (1, .int x1)] dX8_drift_16 rfl (by decide) rfl ?_
      refine J_iconst C 18 dX8_drift_17 rfl ki_0 ?_
      refine J_istore_n C 19 [(3, .int 0), (2, .int 0), (0, .ref a0), (1, .int x1)] dX8_drift_18 rfl (by decide) rfl ?_
      refine J_loc [2, 3, 1, 0] rfl ?_
      obtain ⟨n1, h⟩ := h
      exact wk_X8_drift_c19 C hr hk n1 v0_1 x1 0 0 h
    · have h := h.2 c
      refine J_ldc C 14 wd207 dX8_drift_12 rfl ?_
      exact J_iret C hr hk v0_1 rfl dX8_drift_14 h
def wp_X8_pour (v0 : Vl) (v0_1 : Vl) (v0_9 : Vl) (x1 : Int32) (Q : Int32 → Vl → Prop) : Prop := ((x1 < 0 → Q (-1000000002) v0_1) ∧ (¬ x1 < 0 → ((x1 ≤ 999 → (((v0_1.1 7) = 0 → wp_X6_takeOil 360 v0_1 v0_9 x1 (fun r_2 u_1 => Q r_2 u_1)) ∧ (¬ (v0_1.1 7) = 0 → Q (-1000000003) v0_1))) ∧ (¬ x1 ≤ 999 → Q (-1000000002) v0_1))))
set_option maxHeartbeats 4000000 in
set_option maxRecDepth 100000 in
theorem c_X8_pour (l : Launch) (D : GG) (cI cJ cZ cS : ClassId) (a0 : Nat) (r0 : Nat → Nat) (v0 : Vl) (r0_1 : Nat → Nat) (v0_1 : Vl) (r0_9 : Nat → Nat) (v0_9 : Vl) (x1 : Int32) (Q : Int32 → Vl → Prop) (h : wp_X8_pour v0 v0_1 v0_9 x1 Q) : Mi l D (tyL cI cJ cZ cS) yX8_pour cX8_pour 2 .int 2 44 [.ref a0, .int x1] (List.flatten [bX8 cI cJ cZ a0 r0 v0, bX6 cI cJ cZ 360 (r0 1) r0_1 v0_1, bX3 cI cJ cZ (r0 9) r0_9 v0_9]) (fun (r : Int32) (u : Vl) => Q r u) (fun (u : Vl) => List.flatten [bX8 cI cJ cZ a0 r0 v0, bX6 cI cJ cZ 360 (r0 1) r0_1 u, bX3 cI cJ cZ (r0 9) r0_9 v0_9]) := by
  refine Mi_of RX8 [(0, .ref a0), (1, .int x1)] (by decide +kernel) rfl rfl (Nat.le_of_ble_eq_true rfl) ?_
  intro p e s m args below meth c A C hr hk
  refine J_iload_n C 1 dX8_pour_0 rfl rfl ?_
  refine J_if_lt C 4 11 dX8_pour_1 rfl rfl (fun c => ?_) (fun c => ?_)
  · have h := h.1 c
    refine J_ldc C 13 wd207 dX8_pour_11 rfl ?_
    exact J_iret C hr hk v0_1 rfl dX8_pour_13 h
  · have h := h.2 c
    refine J_iload_n C 5 dX8_pour_4 rfl rfl ?_
    refine J_sipush C 8 dX8_pour_5 rfl ks_999 ?_
    refine J_icmp_le C 11 14 dX8_pour_8 rfl rfl (fun c => ?_) (fun c => ?_)
    · have h := h.1 c
      refine J_aload_n C 15 dX8_pour_14 rfl rfl ?_
      refine J_get C 18 8 inlX8 0 1 rfl rfl (by decide) wd30 rfl rfl dX8_pour_15 rfl ?_
      refine J_getN C 21 6 inlX6 1 7 rfl rfl (by decide) (mi 11 rfl) rfl rfl dX8_pour_18 rfl ?_
      refine J_if_eq C 24 27 dX8_pour_21 rfl rfl (fun c => ?_) (fun c => ?_)
      · have h := h.1 c
        refine J_aload_n C 28 dX8_pour_27 rfl rfl ?_
        refine J_get C 31 8 inlX8 0 1 rfl rfl (by decide) wd30 rfl rfl dX8_pour_28 rfl ?_
        refine J_aload_n C 32 dX8_pour_31 rfl rfl ?_
        refine J_get C 35 8 inlX8 0 9 rfl rfl (by decide) wd20 rfl rfl dX8_pour_32 rfl ?_
        refine J_iload_n C 36 dX8_pour_35 rfl rfl ?_
        refine J_callBiV (Bs := [bX8 cI cJ cZ a0 r0 v0, bX6 cI cJ cZ 360 (r0 1) r0_1 v0_1, bX3 cI cJ cZ (r0 9) r0_9 v0_9]) (As := [.ref (r0 9), .int x1]) C 39 (c_X6_takeOil l D cI cJ cZ cS 360 (r0 1) r0_1 v0_1 (r0 9) r0_9 v0_9 x1 _ h) wd639 wd749 wd29 wd637 wd638 6 0 rfl rfl rfl hdX6_takeOil ⟨Nat.le_of_ble_eq_true rfl, Nat.le_of_ble_eq_true rfl⟩ ⟨Nat.zero_le _, Nat.zero_le _⟩ rfl (Nat.le_of_ble_eq_true rfl) [1, 2] [0] 3 rfl (by decide +kernel) rfl rfl (fun (u : Vl) => [bX6 cI cJ cZ 360 (r0 1) r0_1 u, bX3 cI cJ cZ (r0 9) r0_9 v0_9]) (fun _ => rfl) [2, 0, 1] (by decide +kernel) (fun _ => rfl) rfl (fun (u : Vl) => [bX8 cI cJ cZ a0 r0 v0, bX6 cI cJ cZ 360 (r0 1) r0_1 u, bX3 cI cJ cZ (r0 9) r0_9 v0_9]) (fun _ => rfl) dX8_pour_36 rfl (fun r_2 u h => ?_)
        obtain ⟨u_1, hu⟩ : ∃ z, z = u := ⟨_, rfl⟩
        subst hu
        exact J_iret C hr hk u_1 rfl dX8_pour_39 h
      · have h := h.2 c
        refine J_ldc C 26 wd478 dX8_pour_24 rfl ?_
        exact J_iret C hr hk v0_1 rfl dX8_pour_26 h
    · have h := h.2 c
      refine J_ldc C 13 wd207 dX8_pour_11 rfl ?_
      exact J_iret C hr hk v0_1 rfl dX8_pour_13 h
def wp_X8_begin (v0 : Vl) (v0_1 : Vl) (v0_9 : Vl)  (Q : Int32 → Vl → Prop) : Prop := ∀ x_1 : Int32, x_1 = (v0_1.1 12) → wp_X6_startOver 360 v0_1 v0_9 (fun u_2 => Q x_1 u_2)
set_option maxHeartbeats 4000000 in
set_option maxRecDepth 100000 in
theorem c_X8_begin (l : Launch) (D : GG) (cI cJ cZ cS : ClassId) (a0 : Nat) (r0 : Nat → Nat) (v0 : Vl) (r0_1 : Nat → Nat) (v0_1 : Vl) (r0_9 : Nat → Nat) (v0_9 : Vl)  (Q : Int32 → Vl → Prop) (h : wp_X8_begin v0 v0_1 v0_9 Q) : Mi l D (tyL cI cJ cZ cS) yX8_begin cX8_begin 2 .int 2 44 [.ref a0] (List.flatten [bX8 cI cJ cZ a0 r0 v0, bX6 cI cJ cZ 360 (r0 1) r0_1 v0_1, bX3 cI cJ cZ (r0 9) r0_9 v0_9]) (fun (r : Int32) (u : Vl) => Q r u) (fun (u : Vl) => List.flatten [bX8 cI cJ cZ a0 r0 v0, bX6 cI cJ cZ 360 (r0 1) r0_1 u, bX3 cI cJ cZ (r0 9) r0_9 v0_9]) := by
  refine Mi_of RX8 [(0, .ref a0)] (by decide +kernel) rfl rfl (Nat.le_of_ble_eq_true rfl) ?_
  intro p e s m args below meth c A C hr hk
  refine J_aload_n C 1 dX8_begin_0 rfl rfl ?_
  refine J_get C 4 8 inlX8 0 1 rfl rfl (by decide) wd30 rfl rfl dX8_begin_1 rfl ?_
  refine J_getN C 7 6 inlX6 1 12 rfl rfl (by decide) (mi 6 rfl) rfl rfl dX8_begin_4 rfl ?_
  obtain ⟨x_1, ex_1⟩ : ∃ z : Int32, z = (v0_1.1 12) := ⟨_, rfl⟩
  have h := h x_1 ex_1
  refine J_nmi ex_1 ?_
  refine J_istore_n C 8 [(1, .int x_1), (0, .ref a0)] dX8_begin_7 rfl (by decide) rfl ?_
  refine J_aload_n C 9 dX8_begin_8 rfl rfl ?_
  refine J_get C 12 8 inlX8 0 1 rfl rfl (by decide) wd30 rfl rfl dX8_begin_9 rfl ?_
  refine J_aload_n C 13 dX8_begin_12 rfl rfl ?_
  refine J_get C 16 8 inlX8 0 9 rfl rfl (by decide) wd20 rfl rfl dX8_begin_13 rfl ?_
  refine J_callBvV (Bs := [bX8 cI cJ cZ a0 r0 v0, bX6 cI cJ cZ 360 (r0 1) r0_1 v0_1, bX3 cI cJ cZ (r0 9) r0_9 v0_9]) (As := [.ref (r0 9)]) C 19 (c_X6_startOver l D cI cJ cZ cS 360 (r0 1) r0_1 v0_1 (r0 9) r0_9 v0_9 _ h) wd135 wd132 wd29 wd133 wd134 6 0 rfl rfl rfl hdX6_startOver ⟨Nat.le_of_ble_eq_true rfl, Nat.le_of_ble_eq_true rfl⟩ ⟨Nat.zero_le _, Nat.zero_le _⟩ rfl (Nat.le_of_ble_eq_true rfl) [1, 2] [0] 3 rfl (by decide +kernel) rfl rfl (fun (u : Vl) => [bX6 cI cJ cZ 360 (r0 1) r0_1 u, bX3 cI cJ cZ (r0 9) r0_9 v0_9]) (fun _ => rfl) [2, 0, 1] (by decide +kernel) (fun _ => rfl) rfl (fun (u : Vl) => [bX8 cI cJ cZ a0 r0 v0, bX6 cI cJ cZ 360 (r0 1) r0_1 u, bX3 cI cJ cZ (r0 9) r0_9 v0_9]) (fun _ => rfl) dX8_begin_16 rfl (fun u h => ?_)
  obtain ⟨u_2, hu⟩ : ∃ z, z = u := ⟨_, rfl⟩
  subst hu
  refine J_iload_n C 20 dX8_begin_19 rfl rfl ?_
  exact J_iret C hr hk u_2 rfl dX8_begin_20 h
