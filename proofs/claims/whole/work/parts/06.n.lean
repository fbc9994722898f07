def wp_X9_fault (v0 : Vl)  (Q : Int32 → Prop) : Prop := Q (v0.1 33)
set_option maxHeartbeats 4000000 in
set_option maxRecDepth 100000 in
theorem c_X9_fault (l : Launch) (D : GG) (cI cJ cZ cS : ClassId) (a0 : Nat) (r0 : Nat → Nat) (v0 : Vl)  (Q : Int32 → Prop) (h : wp_X9_fault v0 Q) : Mi l D (tyL cI cJ cZ cS) yX9_fault cX9_fault 1 .int 0 0 [.ref a0] (List.flatten [bX9 cI cJ cZ a0 r0 v0]) (fun (r : Int32) (u : Unit) => Q r) (fun (u : Unit) => List.flatten [bX9 cI cJ cZ a0 r0 v0]) := by
  refine Mi_of RX9 [(0, .ref a0)] (by decide +kernel) rfl rfl (Nat.le_of_ble_eq_true rfl) ?_
  intro p e s m args below meth c A C hr hk
  refine J_aload_n C 1 dX9_fault_0 rfl rfl ?_
  refine J_get C 4 9 inlX9 0 33 rfl rfl (by decide) wd169 rfl rfl dX9_fault_1 rfl ?_
  exact J_iret C hr hk () rfl dX9_fault_4 h
def wp_X9_told (v0 : Vl) (x1 : Int32) (Q : Int64 → Prop) : Prop := ((x1 = 0 → Q (Int32.toInt64 (v0.1 0))) ∧ (x1 = 1 → Q (Int32.toInt64 (v0.1 2))) ∧ (x1 = 2 → Q (Int32.toInt64 (v0.1 3))) ∧ (x1 = 3 → Q (v0.2.1 17)) ∧ (x1 = 4 → Q (Int32.toInt64 (v0.1 18))) ∧ (x1 = 5 → Q (Int32.toInt64 (v0.1 24))) ∧ (x1 = 6 → Q (v0.2.1 25)) ∧ (x1 = 7 → Q (v0.2.1 26)) ∧ (x1 = 8 → Q (Int32.toInt64 (v0.1 32))) ∧ (x1 = 9 → Q (Int32.toInt64 (v0.1 56))) ∧ (x1 = 10 → wp_X9_skyAll v0 (fun r_1 => Q (Int32.toInt64 r_1))) ∧ (x1 = 11 → Q (v0.2.1 19)) ∧ (x1 = 12 → Q (Int32.toInt64 (v0.1 21))) ∧ (x1 = 13 → Q (Int32.toInt64 (v0.1 22))) ∧ (x1 = 14 → Q (Int32.toInt64 (v0.1 23))) ∧ (x1 = 15 → Q (v0.2.1 20)) ∧ ((x1 < 0 ∨ 15 < x1) → Q (-1000000002)))
set_option maxHeartbeats 4000000 in
set_option maxRecDepth 100000 in
theorem c_X9_told (l : Launch) (D : GG) (cI cJ cZ cS : ClassId) (a0 : Nat) (r0 : Nat → Nat) (v0 : Vl) (x1 : Int32) (Q : Int64 → Prop) (h : wp_X9_told v0 x1 Q) : Ml l D (tyL cI cJ cZ cS) yX9_told cX9_told 2 1 22 [.ref a0, .int x1] (List.flatten [bX9 cI cJ cZ a0 r0 v0]) (fun (r : Int64) (u : Unit) => Q r) (fun (u : Unit) => List.flatten [bX9 cI cJ cZ a0 r0 v0]) := by
  refine Ml_of RX9 [(0, .ref a0), (1, .int x1)] (by decide +kernel) rfl rfl (Nat.le_of_ble_eq_true rfl) ?_
  intro p e s m args below meth c A C hr hk
  refine J_iload_n C 1 dX9_told_0 rfl rfl ?_
  rcases sw_15 x1 with c | c | c | c | c | c | c | c | c | c | c | c | c | c | c | c | c
  · have h := (h.2.2.2.2.2.2.2.2.2.2.2.2.2.2.2.2) c
    refine J_tabOut C 171 dX9_told_1 (sw_out_15 c) rfl ?_
    refine J_ldc2 C 174 wd533 dX9_told_171 rfl ?_
    exact J_lret C hr hk () rfl dX9_told_174 h
  · have h := (h.1) c
    refine J_nmi c.symm ?_
    refine J_tabIn C 80 dX9_told_1 (by decide) (by decide) rfl rfl ?_
    refine J_aload_n C 81 dX9_told_80 rfl rfl ?_
    refine J_get C 84 9 inlX9 0 0 rfl rfl (by decide) wd191 rfl rfl dX9_told_81 rfl ?_
    refine J_i2l C 85 dX9_told_84 rfl ?_
    exact J_lret C hr hk () rfl dX9_told_85 h
  · have h := (h.2.1) c
    refine J_nmi c.symm ?_
    refine J_tabIn C 86 dX9_told_1 (by decide) (by decide) rfl rfl ?_
    refine J_aload_n C 87 dX9_told_86 rfl rfl ?_
    refine J_get C 90 9 inlX9 0 2 rfl rfl (by decide) wd153 rfl rfl dX9_told_87 rfl ?_
    refine J_i2l C 91 dX9_told_90 rfl ?_
    exact J_lret C hr hk () rfl dX9_told_91 h
  · have h := (h.2.2.1) c
    refine J_nmi c.symm ?_
    refine J_tabIn C 92 dX9_told_1 (by decide) (by decide) rfl rfl ?_
    refine J_aload_n C 93 dX9_told_92 rfl rfl ?_
    refine J_get C 96 9 inlX9 0 3 rfl rfl (by decide) wd154 rfl rfl dX9_told_93 rfl ?_
    refine J_i2l C 97 dX9_told_96 rfl ?_
    exact J_lret C hr hk () rfl dX9_told_97 h
  · have h := (h.2.2.2.1) c
    refine J_nmi c.symm ?_
    refine J_tabIn C 98 dX9_told_1 (by decide) (by decide) rfl rfl ?_
    refine J_aload_n C 99 dX9_told_98 rfl rfl ?_
    refine J_get C 102 9 inlX9 0 17 rfl rfl (by decide) wd192 rfl rfl dX9_told_99 rfl ?_
    exact J_lret C hr hk () rfl dX9_told_102 h
  · have h := (h.2.2.2.2.1) c
    refine J_nmi c.symm ?_
    refine J_tabIn C 103 dX9_told_1 (by decide) (by decide) rfl rfl ?_
    refine J_aload_n C 104 dX9_told_103 rfl rfl ?_
    refine J_get C 107 9 inlX9 0 18 rfl rfl (by decide) wd193 rfl rfl dX9_told_104 rfl ?_
    refine J_i2l C 108 dX9_told_107 rfl ?_
    exact J_lret C hr hk () rfl dX9_told_108 h
  · have h := (h.2.2.2.2.2.1) c
    refine J_nmi c.symm ?_
    refine J_tabIn C 109 dX9_told_1 (by decide) (by decide) rfl rfl ?_
    refine J_aload_n C 110 dX9_told_109 rfl rfl ?_
    refine J_get C 113 9 inlX9 0 24 rfl rfl (by decide) wd198 rfl rfl dX9_told_110 rfl ?_
    refine J_i2l C 114 dX9_told_113 rfl ?_
    exact J_lret C hr hk () rfl dX9_told_114 h
  · have h := (h.2.2.2.2.2.2.1) c
    refine J_nmi c.symm ?_
    refine J_tabIn C 115 dX9_told_1 (by decide) (by decide) rfl rfl ?_
    refine J_aload_n C 116 dX9_told_115 rfl rfl ?_
    refine J_get C 119 9 inlX9 0 25 rfl rfl (by decide) wd199 rfl rfl dX9_told_116 rfl ?_
    exact J_lret C hr hk () rfl dX9_told_119 h
  · have h := (h.2.2.2.2.2.2.2.1) c
    refine J_nmi c.symm ?_
    refine J_tabIn C 120 dX9_told_1 (by decide) (by decide) rfl rfl ?_
    refine J_aload_n C 121 dX9_told_120 rfl rfl ?_
    refine J_get C 124 9 inlX9 0 26 rfl rfl (by decide) wd200 rfl rfl dX9_told_121 rfl ?_
    exact J_lret C hr hk () rfl dX9_told_124 h
  · have h := (h.2.2.2.2.2.2.2.2.1) c
    refine J_nmi c.symm ?_
    refine J_tabIn C 125 dX9_told_1 (by decide) (by decide) rfl rfl ?_
    refine J_aload_n C 126 dX9_told_125 rfl rfl ?_
    refine J_get C 129 9 inlX9 0 32 rfl rfl (by decide) wd220 rfl rfl dX9_told_126 rfl ?_
    refine J_i2l C 130 dX9_told_129 rfl ?_
    exact J_lret C hr hk () rfl dX9_told_130 h
  · have h := (h.2.2.2.2.2.2.2.2.2.1) c
    refine J_nmi c.symm ?_
    refine J_tabIn C 131 dX9_told_1 (by decide) (by decide) rfl rfl ?_
    refine J_aload_n C 132 dX9_told_131 rfl rfl ?_
    refine J_get C 135 9 inlX9 0 56 rfl rfl (by decide) wd473 rfl rfl dX9_told_132 rfl ?_
    refine J_i2l C 136 dX9_told_135 rfl ?_
    exact J_lret C hr hk () rfl dX9_told_136 h
  · have h := (h.2.2.2.2.2.2.2.2.2.2.1) c
    refine J_nmi c.symm ?_
    refine J_tabIn C 137 dX9_told_1 (by decide) (by decide) rfl rfl ?_
    refine J_aload_n C 138 dX9_told_137 rfl rfl ?_
    refine J_callBiV (Bs := [bX9 cI cJ cZ a0 r0 v0]) (As := []) C 141 (c_X9_skyAll l D cI cJ cZ cS a0 r0 v0 _ h) wd515 wd512 wd5 wd513 wd514 9 0 rfl rfl rfl hdX9_skyAll ⟨Nat.le_of_ble_eq_true rfl, Nat.le_of_ble_eq_true rfl⟩ ⟨Nat.zero_le _, Nat.zero_le _⟩ rfl (Nat.le_of_ble_eq_true rfl) [0] [] 1 rfl (by decide +kernel) rfl rfl (fun (u : Unit) => [bX9 cI cJ cZ a0 r0 v0]) (fun _ => rfl) [0] (by decide +kernel) (fun _ => rfl) rfl (fun (u : Unit) => [bX9 cI cJ cZ a0 r0 v0]) (fun _ => rfl) dX9_told_138 rfl (fun r_1 u h => ?_)
    refine J_i2l C 142 dX9_told_141 rfl ?_
    exact J_lret C hr hk () rfl dX9_told_142 h
  · have h := (h.2.2.2.2.2.2.2.2.2.2.2.1) c
    refine J_nmi c.symm ?_
    refine J_tabIn C 143 dX9_told_1 (by decide) (by decide) rfl rfl ?_
    refine J_aload_n C 144 dX9_told_143 rfl rfl ?_
    refine J_get C 147 9 inlX9 0 19 rfl rfl (by decide) wd194 rfl rfl dX9_told_144 rfl ?_
    exact J_lret C hr hk () rfl dX9_told_147 h
  · have h := (h.2.2.2.2.2.2.2.2.2.2.2.2.1) c
    refine J_nmi c.symm ?_
    refine J_tabIn C 148 dX9_told_1 (by decide) (by decide) rfl rfl ?_
    refine J_aload_n C 149 dX9_told_148 rfl rfl ?_
    refine J_get C 152 9 inlX9 0 21 rfl rfl (by decide) wd196 rfl rfl dX9_told_149 rfl ?_
    refine J_i2l C 153 dX9_told_152 rfl ?_
    exact J_lret C hr hk () rfl dX9_told_153 h
  · have h := (h.2.2.2.2.2.2.2.2.2.2.2.2.2.1) c
    refine J_nmi c.symm ?_
    refine J_tabIn C 154 dX9_told_1 (by decide) (by decide) rfl rfl ?_
    refine J_aload_n C 155 dX9_told_154 rfl rfl ?_
    refine J_get C 158 9 inlX9 0 22 rfl rfl (by decide) wd197 rfl rfl dX9_told_155 rfl ?_
    refine J_i2l C 159 dX9_told_158 rfl ?_
    exact J_lret C hr hk () rfl dX9_told_159 h
  · have h := (h.2.2.2.2.2.2.2.2.2.2.2.2.2.2.1) c
    refine J_nmi c.symm ?_
    refine J_tabIn C 160 dX9_told_1 (by decide) (by decide) rfl rfl ?_
    refine J_aload_n C 161 dX9_told_160 rfl rfl ?_
    refine J_get C 164 9 inlX9 0 23 rfl rfl (by decide) wd166 rfl rfl dX9_told_161 rfl ?_
    refine J_i2l C 165 dX9_told_164 rfl ?_
    exact J_lret C hr hk () rfl dX9_told_165 h
  · have h := (h.2.2.2.2.2.2.2.2.2.2.2.2.2.2.2.1) c
    refine J_nmi c.symm ?_
    refine J_tabIn C 166 dX9_told_1 (by decide) (by decide) rfl rfl ?_
    refine J_aload_n C 167 dX9_told_166 rfl rfl ?_
    refine J_get C 170 9 inlX9 0 20 rfl rfl (by decide) wd195 rfl rfl dX9_told_167 rfl ?_
    exact J_lret C hr hk () rfl dX9_told_170 h
def wp_X9_light (v0 : Vl) (x1 : Int32) (x2 : Int32) (Q : Int32 → Prop) : Prop := wp_X9_isLight v0 x1 (fun r_1 => ((¬ r_1 = 0 → ((x2 = 0 → vp_in ((5 * x1) + x2) 45 ∧ (Q (v0.2.2.1 1 (Int32.toNatClampNeg ((5 * x1) + x2))))) ∧ (x2 = 1 → vp_in ((5 * x1) + x2) 45 ∧ (Q (v0.2.2.1 1 (Int32.toNatClampNeg ((5 * x1) + x2))))) ∧ (x2 = 2 → vp_in ((5 * x1) + x2) 45 ∧ (Q (v0.2.2.1 1 (Int32.toNatClampNeg ((5 * x1) + x2))))) ∧ (x2 = 3 → vp_in ((5 * x1) + x2) 45 ∧ (Q (v0.2.2.1 1 (Int32.toNatClampNeg ((5 * x1) + x2))))) ∧ (x2 = 4 → vp_in ((5 * x1) + x2) 45 ∧ (Q (v0.2.2.1 1 (Int32.toNatClampNeg ((5 * x1) + x2))))) ∧ (x2 = 5 → vp_in x1 9 ∧ (Q (v0.2.2.1 13 (Int32.toNatClampNeg x1)))) ∧ (x2 = 6 → vp_in x1 9 ∧ ((((v0.2.2.1 14 (Int32.toNatClampNeg x1)) = 0 → Q 0) ∧ (¬ (v0.2.2.1 14 (Int32.toNatClampNeg x1)) = 0 → Q 1)))) ∧ (x2 = 7 → vp_in x1 9 ∧ (Q (v0.2.2.1 15 (Int32.toNatClampNeg x1)))) ∧ (x2 = 8 → vp_in x1 9 ∧ (Q (v0.2.2.1 16 (Int32.toNatClampNeg x1)))) ∧ ((x2 < 0 ∨ 8 < x2) → Q (-1000000002)))) ∧ (r_1 = 0 → Q (-1000000001))))
set_option maxHeartbeats 4000000 in
set_option maxRecDepth 100000 in
theorem c_X9_light (l : Launch) (D : GG) (cI cJ cZ cS : ClassId) (a0 : Nat) (r0 : Nat → Nat) (v0 : Vl) (x1 : Int32) (x2 : Int32) (Q : Int32 → Prop) (h : wp_X9_light v0 x1 x2 Q) : Mi l D (tyL cI cJ cZ cS) yX9_light cX9_light 3 .int 2 46 [.ref a0, .int x1, .int x2] (List.flatten [bX9 cI cJ cZ a0 r0 v0]) (fun (r : Int32) (u : Unit) => Q r) (fun (u : Unit) => List.flatten [bX9 cI cJ cZ a0 r0 v0]) := by
  refine Mi_of RX9 [(0, .ref a0), (1, .int x1), (2, .int x2)] (by decide +kernel) rfl rfl (Nat.le_of_ble_eq_true rfl) ?_
  intro p e s m args below meth c A C hr hk
  refine J_aload_n C 1 dX9_light_0 rfl rfl ?_
  refine J_iload_n C 2 dX9_light_1 rfl rfl ?_
  refine J_callBiV (Bs := [bX9 cI cJ cZ a0 r0 v0]) (As := [.int x1]) C 5 (c_X9_isLight l D cI cJ cZ cS a0 r0 v0 x1 _ h) wd552 wd549 wd5 wd550 wd551 9 0 rfl rfl rfl hdX9_isLight ⟨Nat.le_of_ble_eq_true rfl, Nat.le_of_ble_eq_true rfl⟩ ⟨Nat.zero_le _, Nat.zero_le _⟩ rfl (Nat.le_of_ble_eq_true rfl) [0] [] 1 rfl (by decide +kernel) rfl rfl (fun (u : Unit) => [bX9 cI cJ cZ a0 r0 v0]) (fun _ => rfl) [0] (by decide +kernel) (fun _ => rfl) rfl (fun (u : Unit) => [bX9 cI cJ cZ a0 r0 v0]) (fun _ => rfl) dX9_light_2 rfl (fun r_1 u h => ?_)
  refine J_if_ne C 8 12 dX9_light_5 rfl rfl (fun c => ?_) (fun c => ?_)
  · have h := h.1 c
    refine J_iload_n C 13 dX9_light_12 rfl rfl ?_
    rcases sw_8 x2 with c | c | c | c | c | c | c | c | c | c
    · have h := (h.2.2.2.2.2.2.2.2.2) c
      refine J_tabOut C 111 dX9_light_13 (sw_out_8 c) rfl ?_
      refine J_ldc C 113 wd219 dX9_light_111 rfl ?_
      exact J_iret C hr hk () rfl dX9_light_113 h
    · have h := (h.1) c
      refine J_nmi c.symm ?_
      refine J_tabIn C 64 dX9_light_13 (by decide) (by decide) rfl rfl ?_
      refine J_aload_n C 65 dX9_light_64 rfl rfl ?_
      refine J_get C 68 9 inlX9 0 1 rfl rfl (by decide) wd152 rfl rfl dX9_light_65 rfl ?_
      refine J_iconst C 69 dX9_light_68 rfl ki_5 ?_
      refine J_iload_n C 70 dX9_light_69 rfl rfl ?_
      refine J_imul C 71 dX9_light_70 rfl ?_
      refine J_iload_n C 72 dX9_light_71 rfl rfl ?_
      refine J_iadd C 73 dX9_light_72 rfl ?_
      obtain ⟨hi, h⟩ := h
      refine J_iald C 74 1 0 rfl rfl hi dX9_light_73 rfl ?_
      exact J_iret C hr hk () rfl dX9_light_74 h
    · have h := (h.2.1) c
      refine J_nmi c.symm ?_
      refine J_tabIn C 64 dX9_light_13 (by decide) (by decide) rfl rfl ?_
      refine J_aload_n C 65 dX9_light_64 rfl rfl ?_
      refine J_get C 68 9 inlX9 0 1 rfl rfl (by decide) wd152 rfl rfl dX9_light_65 rfl ?_
      refine J_iconst C 69 dX9_light_68 rfl ki_5 ?_
      refine J_iload_n C 70 dX9_light_69 rfl rfl ?_
      refine J_imul C 71 dX9_light_70 rfl ?_
      refine J_iload_n C 72 dX9_light_71 rfl rfl ?_
      refine J_iadd C 73 dX9_light_72 rfl ?_
      obtain ⟨hi, h⟩ := h
      refine J_iald C 74 1 0 rfl rfl hi dX9_light_73 rfl ?_
      exact J_iret C hr hk () rfl dX9_light_74 h
    · have h := (h.2.2.1) c
      refine J_nmi c.symm ?_
      refine J_tabIn C 64 dX9_light_13 (by decide) (by decide) rfl rfl ?_
      refine J_aload_n C 65 dX9_light_64 rfl rfl ?_
      refine J_get C 68 9 inlX9 0 1 rfl rfl (by decide) wd152 rfl rfl dX9_light_65 rfl ?_
      refine J_iconst C 69 dX9_light_68 rfl ki_5 ?_
      refine J_iload_n C 70 dX9_light_69 rfl rfl ?_
      refine J_imul C 71 dX9_light_70 rfl ?_
      refine J_iload_n C 72 dX9_light_71 rfl rfl ?_
      refine J_iadd C 73 dX9_light_72 rfl ?_
      obtain ⟨hi, h⟩ := h
      refine J_iald C 74 1 0 rfl rfl hi dX9_light_73 rfl ?_
      exact J_iret C hr hk () rfl dX9_light_74 h
    · have h := (h.2.2.2.1) c
      refine J_nmi c.symm ?_
      refine J_tabIn C 64 dX9_light_13 (by decide) (by decide) rfl rfl ?_
      refine J_aload_n C 65 dX9_light_64 rfl rfl ?_
      refine J_get C 68 9 inlX9 0 1 rfl rfl (by decide) wd152 rfl rfl dX9_light_65 rfl ?_
      refine J_iconst C 69 dX9_light_68 rfl ki_5 ?_
      refine J_iload_n C 70 dX9_light_69 rfl rfl ?_
      refine J_imul C 71 dX9_light_70 rfl ?_
      refine J_iload_n C 72 dX9_light_71 rfl rfl ?_
      refine J_iadd C 73 dX9_light_72 rfl ?_
      obtain ⟨hi, h⟩ := h
      refine J_iald C 74 1 0 rfl rfl hi dX9_light_73 rfl ?_
      exact J_iret C hr hk () rfl dX9_light_74 h
    · have h := (h.2.2.2.2.1) c
      refine J_nmi c.symm ?_
      refine J_tabIn C 64 dX9_light_13 (by decide) (by decide) rfl rfl ?_
      refine J_aload_n C 65 dX9_light_64 rfl rfl ?_
      refine J_get C 68 9 inlX9 0 1 rfl rfl (by decide) wd152 rfl rfl dX9_light_65 rfl ?_
      refine J_iconst C 69 dX9_light_68 rfl ki_5 ?_
      refine J_iload_n C 70 dX9_light_69 rfl rfl ?_
      refine J_imul C 71 dX9_light_70 rfl ?_
      refine J_iload_n C 72 dX9_light_71 rfl rfl ?_
      refine J_iadd C 73 dX9_light_72 rfl ?_
      obtain ⟨hi, h⟩ := h
      refine J_iald C 74 1 0 rfl rfl hi dX9_light_73 rfl ?_
      exact J_iret C hr hk () rfl dX9_light_74 h
    · have h := (h.2.2.2.2.2.1) c
      refine J_nmi c.symm ?_
      refine J_tabIn C 75 dX9_light_13 (by decide) (by decide) rfl rfl ?_
      refine J_aload_n C 76 dX9_light_75 rfl rfl ?_
      refine J_get C 79 9 inlX9 0 13 rfl rfl (by decide) wd162 rfl rfl dX9_light_76 rfl ?_
      refine J_iload_n C 80 dX9_light_79 rfl rfl ?_
      obtain ⟨hi, h⟩ := h
      refine J_iald C 81 6 0 rfl rfl hi dX9_light_80 rfl ?_
      exact J_iret C hr hk () rfl dX9_light_81 h
    · have h := (h.2.2.2.2.2.2.1) c
      refine J_nmi c.symm ?_
      refine J_tabIn C 82 dX9_light_13 (by decide) (by decide) rfl rfl ?_
      refine J_aload_n C 83 dX9_light_82 rfl rfl ?_
      refine J_get C 86 9 inlX9 0 14 rfl rfl (by decide) wd163 rfl rfl dX9_light_83 rfl ?_
      refine J_iload_n C 87 dX9_light_86 rfl rfl ?_
      obtain ⟨hi, h⟩ := h
      refine J_zald C 88 7 2 rfl rfl hi dX9_light_87 rfl ?_
      refine J_if_eq C 91 95 dX9_light_88 rfl rfl (fun c => ?_) (fun c => ?_)
      · have h := h.1 c
        refine J_iconst C 96 dX9_light_95 rfl ki_0 ?_
        exact J_iret C hr hk () rfl dX9_light_96 h
      · have h := h.2 c
        refine J_iconst C 92 dX9_light_91 rfl ki_1 ?_
        refine J_goto C 96 dX9_light_92 rfl ?_
        exact J_iret C hr hk () rfl dX9_light_96 h
    · have h := (h.2.2.2.2.2.2.2.1) c
      refine J_nmi c.symm ?_
      refine J_tabIn C 97 dX9_light_13 (by decide) (by decide) rfl rfl ?_
      refine J_aload_n C 98 dX9_light_97 rfl rfl ?_
      refine J_get C 101 9 inlX9 0 15 rfl rfl (by decide) wd164 rfl rfl dX9_light_98 rfl ?_
      refine J_iload_n C 102 dX9_light_101 rfl rfl ?_
      obtain ⟨hi, h⟩ := h
      refine J_iald C 103 8 0 rfl rfl hi dX9_light_102 rfl ?_
      exact J_iret C hr hk () rfl dX9_light_103 h
    · have h := (h.2.2.2.2.2.2.2.2.1) c
      refine J_nmi c.symm ?_
      refine J_tabIn C 104 dX9_light_13 (by decide) (by decide) rfl rfl ?_
      refine J_aload_n C 105 dX9_light_104 rfl rfl ?_
      refine J_get C 108 9 inlX9 0 16 rfl rfl (by decide) wd165 rfl rfl dX9_light_105 rfl ?_
      refine J_iload_n C 109 dX9_light_108 rfl rfl ?_
      obtain ⟨hi, h⟩ := h
      refine J_iald C 110 9 0 rfl rfl hi dX9_light_109 rfl ?_
      exact J_iret C hr hk () rfl dX9_light_110 h
  · have h := h.2 c
    refine J_ldcw C 11 wd548 dX9_light_8 rfl ?_
    exact J_iret C hr hk () rfl dX9_light_11 h
def wp_X9_skyOf_c4 (v0 : Vl) (Q : Int32 → Prop) : Nat → Int32 → Int32 → Prop
  | 0 => fun _ _ => False
  | n + 1 => fun y2 y3 => (((v0.1 10) ≤ y3 → Q 0) ∧ (¬ (v0.1 10) ≤ y3 → vp_in y3 30 ∧ ((((v0.2.2.1 12 (Int32.toNatClampNeg y3)) ≤ y2 → vp_in y3 30 ∧ (∀ x_1 : Int32, x_1 = (y2 - (v0.2.2.1 12 (Int32.toNatClampNeg y3))) → ∀ x_2 : Int32, x_2 = y3 + 1 → wp_X9_skyOf_c4 v0 Q n x_1 x_2)) ∧ (¬ (v0.2.2.1 12 (Int32.toNatClampNeg y3)) ≤ y2 → vp_in y3 30 ∧ (Q (v0.2.2.1 11 (Int32.toNatClampNeg y3))))))))
set_option maxHeartbeats 4000000 in
set_option maxRecDepth 100000 in
theorem wk_X9_skyOf_c4 {p : Program} {l : Launch} {e : Env} {s : State} {m : MethodId} {args : Array Value} {below : List Frame} {meth : Method} {c : Code} {D : GG} {A : Nat → Prop} {cI cJ cZ cS : ClassId} {a0 : Nat} {r0 : Nat → Nat} {v0 : Vl} {Q : Int32 → Prop} (C : Cx p s m args c D (tyL cI cJ cZ cS) A RX9 cX9_skyOf 4) (hr : meth.sig.returnType = some .int) (hk : meth.locks = false) : ∀ (n : Nat) (y2 : Int32) (y3 : Int32), wp_X9_skyOf_c4 v0 Q n y2 y3 → J p l e (rmk 0 0) s m args below meth c D A 4 0 0 (MQ below (va_Qi (fun (r : Int32) (u : Unit) => Q r) (fun u t => va_P D.1 vwCl ((fun (u : Unit) => List.flatten [bX9 cI cJ cZ a0 r0 v0]) u) t.heap ∧ va_D A ((fun (u : Unit) => List.flatten [bX9 cI cJ cZ a0 r0 v0]) u)) A) args s 0 0 A) 4 [(0, .ref a0), (2, .int y2), (3, .int y3)] [] (List.flatten [bX9 cI cJ cZ a0 r0 v0]) := by
  intro n
  induction n with
  | zero =>
    intro y2 y3 h
    exact False.elim h
  | succ n ih =>
    intro y2 y3 h
    refine J_iload_n C 5 dX9_skyOf_4 rfl rfl ?_
    refine J_aload_n C 6 dX9_skyOf_5 rfl rfl ?_
    refine J_get C 9 9 inlX9 0 10 rfl rfl (by decide) wd507 rfl rfl dX9_skyOf_6 rfl ?_
    refine J_icmp_ge C 12 44 dX9_skyOf_9 rfl rfl (fun c => ?_) (fun c => ?_)
    · have h := h.1 c
      refine J_iconst C 45 dX9_skyOf_44 rfl ki_0 ?_
      exact J_iret C hr hk () rfl dX9_skyOf_45 h
    · have h := h.2 c
      refine J_iload_n C 13 dX9_skyOf_12 rfl rfl ?_
      refine J_aload_n C 14 dX9_skyOf_13 rfl rfl ?_
      refine J_get C 17 9 inlX9 0 12 rfl rfl (by decide) wd161 rfl rfl dX9_skyOf_14 rfl ?_
      refine J_iload_n C 18 dX9_skyOf_17 rfl rfl ?_
      obtain ⟨hi, h⟩ := h
      refine J_iald C 19 5 0 rfl rfl hi dX9_skyOf_18 rfl ?_
      refine J_icmp_ge C 22 29 dX9_skyOf_19 rfl rfl (fun c => ?_) (fun c => ?_)
      · have h := h.1 c
        refine J_iload_n C 30 dX9_skyOf_29 rfl rfl ?_
        refine J_aload_n C 31 dX9_skyOf_30 rfl rfl ?_
        refine J_get C 34 9 inlX9 0 12 rfl rfl (by decide) wd161 rfl rfl dX9_skyOf_31 rfl ?_
        refine J_iload_n C 35 dX9_skyOf_34 rfl rfl ?_
        obtain ⟨hi, h⟩ := h
        refine J_iald C 36 5 0 rfl rfl hi dX9_skyOf_35 rfl ?_
        refine J_isub C 37 dX9_skyOf_36 rfl ?_
        obtain ⟨x_1, ex_1⟩ : ∃ z : Int32, z = (y2 - (v0.2.2.1 12 (Int32.toNatClampNeg y3))) := ⟨_, rfl⟩
        have h := h x_1 ex_1
        refine J_nmi ex_1 ?_
        refine J_istore_n C 38 [(2, .int x_1), (0, .ref a0), (3, .int y3)] dX9_skyOf_37 rfl (by decide) rfl ?_
        obtain ⟨x_2, ex_2⟩ : ∃ z : Int32, z = y3 + 1 := ⟨_, rfl⟩
        have h := h x_2 ex_2
        refine J_iinc C 41 [(3, .int x_2), (2, .int x_1), (0, .ref a0)] dX9_skyOf_38 rfl rfl ((kinc_1 _).trans ex_2.symm) (by decide) rfl ?_
        refine J_goto C 4 dX9_skyOf_41 rfl ?_
        refine J_loc [2, 1, 0] rfl ?_
        exact ih x_1 x_2 h
      · have h := h.2 c
        refine J_aload_n C 23 dX9_skyOf_22 rfl rfl ?_
        refine J_get C 26 9 inlX9 0 11 rfl rfl (by decide) wd160 rfl rfl dX9_skyOf_23 rfl ?_
        refine J_iload_n C 27 dX9_skyOf_26 rfl rfl ?_
        obtain ⟨hi, h⟩ := h
        refine J_iald C 28 4 0 rfl rfl hi dX9_skyOf_27 rfl ?_
        exact J_iret C hr hk () rfl dX9_skyOf_28 h
def wp_X9_skyOf (v0 : Vl) (x1 : Int32) (Q : Int32 → Prop) : Prop := (∃ k : Nat, wp_X9_skyOf_c4 v0 Q k x1 0)
set_option maxHeartbeats 4000000 in
set_option maxRecDepth 100000 in
theorem c_X9_skyOf (l : Launch) (D : GG) (cI cJ cZ cS : ClassId) (a0 : Nat) (r0 : Nat → Nat) (v0 : Vl) (x1 : Int32) (Q : Int32 → Prop) (h : wp_X9_skyOf v0 x1 Q) : Mi l D (tyL cI cJ cZ cS) yX9_skyOf cX9_skyOf 4 .int 0 0 [.ref a0, .int x1] (List.flatten [bX9 cI cJ cZ a0 r0 v0]) (fun (r : Int32) (u : Unit) => Q r) (fun (u : Unit) => List.flatten [bX9 cI cJ cZ a0 r0 v0]) := by
  refine Mi_of RX9 [(0, .ref a0), (1, .int x1)] (by decide +kernel) rfl rfl (Nat.le_of_ble_eq_true rfl) ?_
  intro p e s m args below meth c A C hr hk
  refine J_iload_n C 1 dX9_skyOf_0 rfl rfl ?_
  refine J_istore_n C 2 [(2, .int x1), (0, .ref a0), (1, .int x1)] dX9_skyOf_1 rfl (by decide) rfl ?_
  refine J_iconst C 3 dX9_skyOf_2 rfl ki_0 ?_
  refine J_istore_n C 4 [(3, .int 0), (2, .int x1), (0, .ref a0), (1, .int x1)] dX9_skyOf_3 rfl (by decide) rfl ?_
  refine J_loc [2, 1, 0] rfl ?_
  obtain ⟨n1, h⟩ := h
  exact wk_X9_skyOf_c4 C hr hk n1 x1 0 h
def wp_X9_sky (v0 : Vl) (x1 : Int32) (Q : Int32 → Prop) : Prop := wp_X9_in (Int32.toInt64 x1) 0 9999 (fun r_1 => ((r_1 = 0 → Q (-1000000002)) ∧ (¬ r_1 = 0 → wp_X9_skyOf v0 x1 (fun r_2 => Q r_2))))
set_option maxHeartbeats 4000000 in
set_option maxRecDepth 100000 in
theorem c_X9_sky (l : Launch) (D : GG) (cI cJ cZ cS : ClassId) (a0 : Nat) (r0 : Nat → Nat) (v0 : Vl) (x1 : Int32) (Q : Int32 → Prop) (h : wp_X9_sky v0 x1 Q) : Mi l D (tyL cI cJ cZ cS) yX9_sky cX9_sky 2 .int 1 25 [.ref a0, .int x1] (List.flatten [bX9 cI cJ cZ a0 r0 v0]) (fun (r : Int32) (u : Unit) => Q r) (fun (u : Unit) => List.flatten [bX9 cI cJ cZ a0 r0 v0]) := by
  refine Mi_of RX9 [(0, .ref a0), (1, .int x1)] (by decide +kernel) rfl rfl (Nat.le_of_ble_eq_true rfl) ?_
  intro p e s m args below meth c A C hr hk
  refine J_iload_n C 1 dX9_sky_0 rfl rfl ?_
  refine J_i2l C 2 dX9_sky_1 rfl ?_
  refine J_lconst C 3 dX9_sky_2 rfl kl_0 ?_
  refine J_ldc2 C 6 wd565 dX9_sky_3 rfl ?_
  refine J_callBiS (Bs := [bX9 cI cJ cZ a0 r0 v0]) (As := [.long (Int32.toInt64 x1), .long 0, .long 9999]) C 9 (c_X9_in l D cI cJ cZ cS (Int32.toInt64 x1) 0 9999 _ h) wd225 wd223 wd5 wd224 hdX9_in ⟨Nat.le_of_ble_eq_true rfl, Nat.le_of_ble_eq_true rfl⟩ ⟨Nat.zero_le _, Nat.zero_le _⟩ rfl (Nat.le_of_ble_eq_true rfl) [] [0] 1 rfl (by decide +kernel) rfl rfl (fun (u : Unit) => ([] : List va_W)) (fun _ => rfl) [0] (by decide +kernel) (fun _ => rfl) rfl (fun (u : Unit) => [bX9 cI cJ cZ a0 r0 v0]) (fun _ => rfl) dX9_sky_6 rfl (fun r_1 u h => ?_)
  refine J_if_eq C 12 20 dX9_sky_9 rfl rfl (fun c => ?_) (fun c => ?_)
  · have h := h.1 c
    refine J_ldc C 22 wd219 dX9_sky_20 rfl ?_
    exact J_iret C hr hk () rfl dX9_sky_22 h
  · have h := h.2 c
    refine J_aload_n C 13 dX9_sky_12 rfl rfl ?_
    refine J_iload_n C 14 dX9_sky_13 rfl rfl ?_
    refine J_callBiV (Bs := [bX9 cI cJ cZ a0 r0 v0]) (As := [.int x1]) C 17 (c_X9_skyOf l D cI cJ cZ cS a0 r0 v0 x1 _ h) wd569 wd566 wd5 wd567 wd568 9 0 rfl rfl rfl hdX9_skyOf ⟨Nat.le_of_ble_eq_true rfl, Nat.le_of_ble_eq_true rfl⟩ ⟨Nat.zero_le _, Nat.zero_le _⟩ rfl (Nat.le_of_ble_eq_true rfl) [0] [] 1 rfl (by decide +kernel) rfl rfl (fun (u : Unit) => [bX9 cI cJ cZ a0 r0 v0]) (fun _ => rfl) [0] (by decide +kernel) (fun _ => rfl) rfl (fun (u : Unit) => [bX9 cI cJ cZ a0 r0 v0]) (fun _ => rfl) dX9_sky_14 rfl (fun r_2 u h => ?_)
    refine J_goto C 22 dX9_sky_17 rfl ?_
    exact J_iret C hr hk () rfl dX9_sky_22 h
def wp_X9_odds (v0 : Vl) (x1 : Int32) (x2 : Int32) (Q : Int32 → Prop) : Prop := wp_X9_isSky x1 (fun r_1 => ((r_1 = 0 → Q (-1000000001)) ∧ (¬ r_1 = 0 → wp_X9_isSky x2 (fun r_2 => ((r_2 = 0 → Q (-1000000001)) ∧ (¬ r_2 = 0 → vp_in ((3 * x1) + x2) 9 ∧ (Q (v0.2.2.1 9 (Int32.toNatClampNeg ((3 * x1) + x2))))))))))
set_option maxHeartbeats 4000000 in
set_option maxRecDepth 100000 in
theorem c_X9_odds (l : Launch) (D : GG) (cI cJ cZ cS : ClassId) (a0 : Nat) (r0 : Nat → Nat) (v0 : Vl) (x1 : Int32) (x2 : Int32) (Q : Int32 → Prop) (h : wp_X9_odds v0 x1 x2 Q) : Mi l D (tyL cI cJ cZ cS) yX9_odds cX9_odds 3 .int 2 45 [.ref a0, .int x1, .int x2] (List.flatten [bX9 cI cJ cZ a0 r0 v0]) (fun (r : Int32) (u : Unit) => Q r) (fun (u : Unit) => List.flatten [bX9 cI cJ cZ a0 r0 v0]) := by
  refine Mi_of RX9 [(0, .ref a0), (1, .int x1), (2, .int x2)] (by decide +kernel) rfl rfl (Nat.le_of_ble_eq_true rfl) ?_
  intro p e s m args below meth c A C hr hk
  refine J_iload_n C 1 dX9_odds_0 rfl rfl ?_
  refine J_callBiS (Bs := [bX9 cI cJ cZ a0 r0 v0]) (As := [.int x1]) C 4 (c_X9_isSky l D cI cJ cZ cS x1 _ h) wd587 wd585 wd5 wd586 hdX9_isSky ⟨Nat.le_of_ble_eq_true rfl, Nat.le_of_ble_eq_true rfl⟩ ⟨Nat.zero_le _, Nat.zero_le _⟩ rfl (Nat.le_of_ble_eq_true rfl) [] [0] 1 rfl (by decide +kernel) rfl rfl (fun (u : Unit) => ([] : List va_W)) (fun _ => rfl) [0] (by decide +kernel) (fun _ => rfl) rfl (fun (u : Unit) => [bX9 cI cJ cZ a0 r0 v0]) (fun _ => rfl) dX9_odds_1 rfl (fun r_1 u h => ?_)
  refine J_if_eq C 7 27 dX9_odds_4 rfl rfl (fun c => ?_) (fun c => ?_)
  · have h := h.1 c
    refine J_ldcw C 30 wd548 dX9_odds_27 rfl ?_
    exact J_iret C hr hk () rfl dX9_odds_30 h
  · have h := h.2 c
    refine J_iload_n C 8 dX9_odds_7 rfl rfl ?_
    refine J_callBiS (Bs := [bX9 cI cJ cZ a0 r0 v0]) (As := [.int x2]) C 11 (c_X9_isSky l D cI cJ cZ cS x2 _ h) wd587 wd585 wd5 wd586 hdX9_isSky ⟨Nat.le_of_ble_eq_true rfl, Nat.le_of_ble_eq_true rfl⟩ ⟨Nat.zero_le _, Nat.zero_le _⟩ rfl (Nat.le_of_ble_eq_true rfl) [] [0] 1 rfl (by decide +kernel) rfl rfl (fun (u : Unit) => ([] : List va_W)) (fun _ => rfl) [0] (by decide +kernel) (fun _ => rfl) rfl (fun (u : Unit) => [bX9 cI cJ cZ a0 r0 v0]) (fun _ => rfl) dX9_odds_8 rfl (fun r_2 u h => ?_)
    refine J_if_eq C 14 27 dX9_odds_11 rfl rfl (fun c => ?_) (fun c => ?_)
    · have h := h.1 c
      refine J_ldcw C 30 wd548 dX9_odds_27 rfl ?_
      exact J_iret C hr hk () rfl dX9_odds_30 h
    · have h := h.2 c
      refine J_aload_n C 15 dX9_odds_14 rfl rfl ?_
      refine J_get C 18 9 inlX9 0 9 rfl rfl (by decide) wd159 rfl rfl dX9_odds_15 rfl ?_
      refine J_iconst C 19 dX9_odds_18 rfl ki_3 ?_
      refine J_iload_n C 20 dX9_odds_19 rfl rfl ?_
      refine J_imul C 21 dX9_odds_20 rfl ?_
      refine J_iload_n C 22 dX9_odds_21 rfl rfl ?_
      refine J_iadd C 23 dX9_odds_22 rfl ?_
      obtain ⟨hi, h⟩ := h
      refine J_iald C 24 3 0 rfl rfl hi dX9_odds_23 rfl ?_
      refine J_goto C 30 dX9_odds_24 rfl ?_
      exact J_iret C hr hk () rfl dX9_odds_30 h
def wp_X9_goal_c17  (Q : Int32 → Vl → Prop) (v0 : Vl) (y1 : Int32) : Prop := ∀ x_1 : Int32, x_1 = (v0.1 23) → ∀ v0s_2 : Vl, v0s_2 = setI v0 23 y1 → Q x_1 v0s_2
set_option maxHeartbeats 4000000 in
set_option maxRecDepth 100000 in
theorem wk_X9_goal_c17 {p : Program} {l : Launch} {e : Env} {s : State} {m : MethodId} {args : Array Value} {below : List Frame} {meth : Method} {c : Code} {D : GG} {A : Nat → Prop} {cI cJ cZ cS : ClassId} {a0 : Nat} {r0 : Nat → Nat}  {Q : Int32 → Vl → Prop} (C : Cx p s m args c D (tyL cI cJ cZ cS) A RX9 cX9_goal 3) (hr : meth.sig.returnType = some .int) (hk : meth.locks = false) : ∀ (v0 : Vl) (y1 : Int32), wp_X9_goal_c17  Q v0 y1 → J p l e (rmk 2 46) s m args below meth c D A 3 0 0 (MQ below (va_Qi (fun (r : Int32) (u : Vl) => Q r u) (fun u t => va_P D.1 vwCl ((fun (u : Vl) => List.flatten [bX9 cI cJ cZ a0 r0 u]) u) t.heap ∧ va_D A ((fun (u : Vl) => List.flatten [bX9 cI cJ cZ a0 r0 u]) u)) A) args s 0 0 A) 17 [(0, .ref a0), (1, .int y1)] [] (List.flatten [bX9 cI cJ cZ a0 r0 v0]) := by
  intro v0 y1 h
  refine J_aload_n C 18 dX9_goal_17 rfl rfl ?_
  refine J_get C 21 9 inlX9 0 23 rfl rfl (by decide) wd166 rfl rfl dX9_goal_18 rfl ?_
  obtain ⟨x_1, ex_1⟩ : ∃ z : Int32, z = (v0.1 23) := ⟨_, rfl⟩
  have h := h x_1 ex_1
  refine J_nmi ex_1 ?_
  refine J_istore_n C 22 [(2, .int x_1), (0, .ref a0), (1, .int y1)] dX9_goal_21 rfl (by decide) rfl ?_
  refine J_aload_n C 23 dX9_goal_22 rfl rfl ?_
  refine J_iload_n C 24 dX9_goal_23 rfl rfl ?_
  obtain ⟨v0s_2, ev0s_2⟩ : ∃ z : Vl, z = setI v0 23 y1 := ⟨_, rfl⟩
  have h := h v0s_2 ev0s_2
  refine J_put C 27 9 inlX9 tyX9 tyX9_ok nmX9 0 23 rfl rfl (by decide) wd166 rfl rfl rfl rfl rfl (List.flatten [bX9 cI cJ cZ a0 r0 v0s_2]) (by subst ev0s_2; rfl) dX9_goal_24 rfl ?_
  refine J_iload_n C 28 dX9_goal_27 rfl rfl ?_
  exact J_iret C hr hk v0s_2 rfl dX9_goal_28 h
def wp_X9_goal (v0 : Vl) (x1 : Int32) (Q : Int32 → Vl → Prop) : Prop := ((x1 = (-1) → wp_X9_goal_c17  Q v0 x1) ∧ (¬ x1 = (-1) → wp_X9_isLight v0 x1 (fun r_3 => ((¬ r_3 = 0 → wp_X9_goal_c17  Q v0 x1) ∧ (r_3 = 0 → Q (-1000000001) v0)))))
set_option maxHeartbeats 4000000 in
set_option maxRecDepth 100000 in
theorem c_X9_goal (l : Launch) (D : GG) (cI cJ cZ cS : ClassId) (a0 : Nat) (r0 : Nat → Nat) (v0 : Vl) (x1 : Int32) (Q : Int32 → Vl → Prop) (h : wp_X9_goal v0 x1 Q) : Mi l D (tyL cI cJ cZ cS) yX9_goal cX9_goal 3 .int 2 46 [.ref a0, .int x1] (List.flatten [bX9 cI cJ cZ a0 r0 v0]) (fun (r : Int32) (u : Vl) => Q r u) (fun (u : Vl) => List.flatten [bX9 cI cJ cZ a0 r0 u]) := by
  refine Mi_of RX9 [(0, .ref a0), (1, .int x1)] (by decide +kernel) rfl rfl (Nat.le_of_ble_eq_true rfl) ?_
  intro p e s m args below meth c A C hr hk
  refine J_iload_n C 1 dX9_goal_0 rfl rfl ?_
  refine J_iconst C 2 dX9_goal_1 rfl ki_m1 ?_
  refine J_icmp_eq C 5 17 dX9_goal_2 rfl rfl (fun c => ?_) (fun c => ?_)
  · have h := h.1 c
    refine J_loc [0, 1] rfl ?_
    exact wk_X9_goal_c17 C hr hk v0 x1 h
  · have h := h.2 c
    refine J_aload_n C 6 dX9_goal_5 rfl rfl ?_
    refine J_iload_n C 7 dX9_goal_6 rfl rfl ?_
    refine J_callBiV (Bs := [bX9 cI cJ cZ a0 r0 v0]) (As := [.int x1]) C 10 (c_X9_isLight l D cI cJ cZ cS a0 r0 v0 x1 _ h) wd552 wd549 wd5 wd550 wd551 9 0 rfl rfl rfl hdX9_isLight ⟨Nat.le_of_ble_eq_true rfl, Nat.le_of_ble_eq_true rfl⟩ ⟨Nat.zero_le _, Nat.zero_le _⟩ rfl (Nat.le_of_ble_eq_true rfl) [0] [] 1 rfl (by decide +kernel) rfl rfl (fun (u : Unit) => [bX9 cI cJ cZ a0 r0 v0]) (fun _ => rfl) [0] (by decide +kernel) (fun _ => rfl) rfl (fun (u : Unit) => [bX9 cI cJ cZ a0 r0 v0]) (fun _ => rfl) dX9_goal_7 rfl (fun r_3 u h => ?_)
    refine J_if_ne C 13 17 dX9_goal_10 rfl rfl (fun c => ?_) (fun c => ?_)
    · have h := h.1 c
      refine J_loc [0, 1] rfl ?_
      exact wk_X9_goal_c17 C hr hk v0 x1 h
    · have h := h.2 c
      refine J_ldcw C 16 wd548 dX9_goal_13 rfl ?_
      exact J_iret C hr hk v0 rfl dX9_goal_16 h
def wp_X9_wick_c26  (Q : Int32 → Vl → Prop) (v0 : Vl) (y1 : Int32) (y2 : Int32) (s0 : Int32) : Prop := vp_in y1 9 ∧ (∀ v0s_2 : Vl, v0s_2 = setA v0 14 (Int32.toNatClampNeg y1) (vp_nar .boolean y2) → Q s0 v0s_2)
set_option maxHeartbeats 4000000 in
set_option maxRecDepth 100000 in
theorem wk_X9_wick_c26 {p : Program} {l : Launch} {e : Env} {s : State} {m : MethodId} {args : Array Value} {below : List Frame} {meth : Method} {c : Code} {D : GG} {A : Nat → Prop} {cI cJ cZ cS : ClassId} {a0 : Nat} {r0 : Nat → Nat}  {Q : Int32 → Vl → Prop} (C : Cx p s m args c D (tyL cI cJ cZ cS) A RX9 cX9_wick 4) (hr : meth.sig.returnType = some .int) (hk : meth.locks = false) : ∀ (v0 : Vl) (y1 : Int32) (y2 : Int32) (s0 : Int32), wp_X9_wick_c26  Q v0 y1 y2 s0 → J p l e (rmk 2 46) s m args below meth c D A 4 0 0 (MQ below (va_Qi (fun (r : Int32) (u : Vl) => Q r u) (fun u t => va_P D.1 vwCl ((fun (u : Vl) => List.flatten [bX9 cI cJ cZ a0 r0 u]) u) t.heap ∧ va_D A ((fun (u : Vl) => List.flatten [bX9 cI cJ cZ a0 r0 u]) u)) A) args s 0 0 A) 26 [(0, .ref a0), (1, .int y1), (2, .int y2)] [.int s0] (List.flatten [bX9 cI cJ cZ a0 r0 v0]) := by
  intro v0 y1 y2 s0 h
  refine J_istore_n C 27 [(3, .int s0), (0, .ref a0), (1, .int y1), (2, .int y2)] dX9_wick_26 rfl (by decide) rfl ?_
  refine J_aload_n C 28 dX9_wick_27 rfl rfl ?_
  refine J_get C 31 9 inlX9 0 14 rfl rfl (by decide) wd163 rfl rfl dX9_wick_28 rfl ?_
  refine J_iload_n C 32 dX9_wick_31 rfl rfl ?_
  refine J_iload_n C 33 dX9_wick_32 rfl rfl ?_
  obtain ⟨hi, h⟩ := h
  obtain ⟨v0s_2, ev0s_2⟩ : ∃ z : Vl, z = setA v0 14 (Int32.toNatClampNeg y1) (vp_nar .boolean y2) := ⟨_, rfl⟩
  have h := h v0s_2 ev0s_2
  refine J_zast C 34 7 2 rfl rfl hi (List.flatten [bX9 cI cJ cZ a0 r0 v0s_2]) (by subst ev0s_2; rfl) dX9_wick_33 rfl ?_
  refine J_iload_n C 35 dX9_wick_34 rfl rfl ?_
  exact J_iret C hr hk v0s_2 rfl dX9_wick_35 h
def wp_X9_wick (v0 : Vl) (x1 : Int32) (x2 : Int32) (Q : Int32 → Vl → Prop) : Prop := wp_X9_isLight v0 x1 (fun r_1 => ((¬ r_1 = 0 → vp_in x1 9 ∧ ((((v0.2.2.1 14 (Int32.toNatClampNeg x1)) = 0 → wp_X9_wick_c26  Q v0 x1 x2 0) ∧ (¬ (v0.2.2.1 14 (Int32.toNatClampNeg x1)) = 0 → wp_X9_wick_c26  Q v0 x1 x2 1)))) ∧ (r_1 = 0 → Q (-1000000001) v0)))
set_option maxHeartbeats 4000000 in
set_option maxRecDepth 100000 in
theorem c_X9_wick (l : Launch) (D : GG) (cI cJ cZ cS : ClassId) (a0 : Nat) (r0 : Nat → Nat) (v0 : Vl) (x1 : Int32) (x2 : Int32) (Q : Int32 → Vl → Prop) (h : wp_X9_wick v0 x1 x2 Q) : Mi l D (tyL cI cJ cZ cS) yX9_wick cX9_wick 4 .int 2 46 [.ref a0, .int x1, .int x2] (List.flatten [bX9 cI cJ cZ a0 r0 v0]) (fun (r : Int32) (u : Vl) => Q r u) (fun (u : Vl) => List.flatten [bX9 cI cJ cZ a0 r0 u]) := by
  refine Mi_of RX9 [(0, .ref a0), (1, .int x1), (2, .int x2)] (by decide +kernel) rfl rfl (Nat.le_of_ble_eq_true rfl) ?_
  intro p e s m args below meth c A C hr hk
  refine J_aload_n C 1 dX9_wick_0 rfl rfl ?_
  refine J_iload_n C 2 dX9_wick_1 rfl rfl ?_
  refine J_callBiV (Bs := [bX9 cI cJ cZ a0 r0 v0]) (As := [.int x1]) C 5 (c_X9_isLight l D cI cJ cZ cS a0 r0 v0 x1 _ h) wd552 wd549 wd5 wd550 wd551 9 0 rfl rfl rfl hdX9_isLight ⟨Nat.le_of_ble_eq_true rfl, Nat.le_of_ble_eq_true rfl⟩ ⟨Nat.zero_le _, Nat.zero_le _⟩ rfl (Nat.le_of_ble_eq_true rfl) [0] [] 1 rfl (by decide +kernel) rfl rfl (fun (u : Unit) => [bX9 cI cJ cZ a0 r0 v0]) (fun _ => rfl) [0] (by decide +kernel) (fun _ => rfl) rfl (fun (u : Unit) => [bX9 cI cJ cZ a0 r0 v0]) (fun _ => rfl) dX9_wick_2 rfl (fun r_1 u h => ?_)
  refine J_if_ne C 8 12 dX9_wick_5 rfl rfl (fun c => ?_) (fun c => ?_)
  · have h := h.1 c
    refine J_aload_n C 13 dX9_wick_12 rfl rfl ?_
    refine J_get C 16 9 inlX9 0 14 rfl rfl (by decide) wd163 rfl rfl dX9_wick_13 rfl ?_
    refine J_iload_n C 17 dX9_wick_16 rfl rfl ?_
    obtain ⟨hi, h⟩ := h
    refine J_zald C 18 7 2 rfl rfl hi dX9_wick_17 rfl ?_
    refine J_if_eq C 21 25 dX9_wick_18 rfl rfl (fun c => ?_) (fun c => ?_)
    · have h := h.1 c
      refine J_iconst C 26 dX9_wick_25 rfl ki_0 ?_
      refine J_loc [0, 1, 2] rfl ?_
      exact wk_X9_wick_c26 C hr hk v0 x1 x2 0 h
    · have h := h.2 c
      refine J_iconst C 22 dX9_wick_21 rfl ki_1 ?_
      refine J_goto C 26 dX9_wick_22 rfl ?_
      refine J_loc [0, 1, 2] rfl ?_
      exact wk_X9_wick_c26 C hr hk v0 x1 x2 1 h
  · have h := h.2 c
    refine J_ldcw C 11 wd548 dX9_wick_8 rfl ?_
    exact J_iret C hr hk v0 rfl dX9_wick_11 h
def wp_X9_needs_c79 (v0 : Vl) (Q : Int32 → Prop) (y3 : Int32) (y4 : Int32) (s0 : Int32) : Prop := ((y4 = 4 → Q 0) ∧ (¬ y4 = 4 → ((¬ y4 = 3 → Q s0) ∧ (y4 = 3 → ((¬ y3 = 2 → Q s0) ∧ (y3 = 2 → Q 0))))))
set_option maxHeartbeats 4000000 in
set_option maxRecDepth 100000 in
theorem wk_X9_needs_c79 {p : Program} {l : Launch} {e : Env} {s : State} {m : MethodId} {args : Array Value} {below : List Frame} {meth : Method} {c : Code} {D : GG} {A : Nat → Prop} {cI cJ cZ cS : ClassId} {a0 : Nat} {r0 : Nat → Nat} {v0 : Vl} {Q : Int32 → Prop} (C : Cx p s m args c D (tyL cI cJ cZ cS) A RX9 cX9_needs 6) (hr : meth.sig.returnType = some .int) (hk : meth.locks = false) : ∀ (y3 : Int32) (y4 : Int32) (s0 : Int32), wp_X9_needs_c79 v0 Q y3 y4 s0 → J p l e (rmk 0 0) s m args below meth c D A 6 0 0 (MQ below (va_Qi (fun (r : Int32) (u : Unit) => Q r) (fun u t => va_P D.1 vwCl ((fun (u : Unit) => List.flatten [bX9 cI cJ cZ a0 r0 v0]) u) t.heap ∧ va_D A ((fun (u : Unit) => List.flatten [bX9 cI cJ cZ a0 r0 v0]) u)) A) args s 0 0 A) 79 [(3, .int y3), (4, .int y4)] [.int s0] (List.flatten [bX9 cI cJ cZ a0 r0 v0]) := by
  intro y3 y4 s0 h
  refine J_istore C 81 [(5, .int s0), (3, .int y3), (4, .int y4)] dX9_needs_79 rfl (by decide) rfl ?_
  refine J_iload C 83 dX9_needs_81 rfl rfl ?_
  refine J_iconst C 84 dX9_needs_83 rfl ki_4 ?_
  refine J_icmp_eq C 87 98 dX9_needs_84 rfl rfl (fun c => ?_) (fun c => ?_)
  · have h := h.1 c
    refine J_iconst C 99 dX9_needs_98 rfl ki_0 ?_
    refine J_goto C 104 dX9_needs_99 rfl ?_
    exact J_iret C hr hk () rfl dX9_needs_104 h
  · have h := h.2 c
    refine J_iload C 89 dX9_needs_87 rfl rfl ?_
    refine J_iconst C 90 dX9_needs_89 rfl ki_3 ?_
    refine J_icmp_ne C 93 102 dX9_needs_90 rfl rfl (fun c => ?_) (fun c => ?_)
    · have h := h.1 c
      refine J_iload C 104 dX9_needs_102 rfl rfl ?_
      exact J_iret C hr hk () rfl dX9_needs_104 h
    · have h := h.2 c
      refine J_iload_n C 94 dX9_needs_93 rfl rfl ?_
      refine J_iconst C 95 dX9_needs_94 rfl ki_2 ?_
      refine J_icmp_ne C 98 102 dX9_needs_95 rfl rfl (fun c => ?_) (fun c => ?_)
      · have h := h.1 c
        refine J_iload C 104 dX9_needs_102 rfl rfl ?_
        exact J_iret C hr hk () rfl dX9_needs_104 h
      · have h := h.2 c
        refine J_iconst C 99 dX9_needs_98 rfl ki_0 ?_
        refine J_goto C 104 dX9_needs_99 rfl ?_
        exact J_iret C hr hk () rfl dX9_needs_104 h
def wp_X9_needs_c77 (v0 : Vl) (Q : Int32 → Prop) (y3 : Int32) (y4 : Int32) (y5 : Int32) : Prop := wp_X9_needs_c79 v0 Q y3 y4 y5
set_option maxHeartbeats 4000000 in
set_option maxRecDepth 100000 in
theorem wk_X9_needs_c77 {p : Program} {l : Launch} {e : Env} {s : State} {m : MethodId} {args : Array Value} {below : List Frame} {meth : Method} {c : Code} {D : GG} {A : Nat → Prop} {cI cJ cZ cS : ClassId} {a0 : Nat} {r0 : Nat → Nat} {v0 : Vl} {Q : Int32 → Prop} (C : Cx p s m args c D (tyL cI cJ cZ cS) A RX9 cX9_needs 6) (hr : meth.sig.returnType = some .int) (hk : meth.locks = false) : ∀ (y3 : Int32) (y4 : Int32) (y5 : Int32), wp_X9_needs_c77 v0 Q y3 y4 y5 → J p l e (rmk 0 0) s m args below meth c D A 6 0 0 (MQ below (va_Qi (fun (r : Int32) (u : Unit) => Q r) (fun u t => va_P D.1 vwCl ((fun (u : Unit) => List.flatten [bX9 cI cJ cZ a0 r0 v0]) u) t.heap ∧ va_D A ((fun (u : Unit) => List.flatten [bX9 cI cJ cZ a0 r0 v0]) u)) A) args s 0 0 A) 77 [(3, .int y3), (4, .int y4), (5, .int y5)] [] (List.flatten [bX9 cI cJ cZ a0 r0 v0]) := by
  intro y3 y4 y5 h
  refine J_iload C 79 dX9_needs_77 rfl rfl ?_
  refine J_loc [0, 1] rfl ?_
  exact wk_X9_needs_c79 C hr hk y3 y4 y5 h
def wp_X9_needs_c55 (v0 : Vl) (Q : Int32 → Prop) (y1 : Int32) (y3 : Int32) (y4 : Int32) (s0 : Int32) : Prop := vp_in y1 9 ∧ ((((v0.2.2.1 14 (Int32.toNatClampNeg y1)) = 0 → wp_X9_needs_c77 v0 Q y3 y4 s0) ∧ (¬ (v0.2.2.1 14 (Int32.toNatClampNeg y1)) = 0 → ((¬ y3 = 0 → wp_X9_needs_c77 v0 Q y3 y4 s0) ∧ (y3 = 0 → wp_X9_needs_c79 v0 Q y3 y4 (s0 / 2))))))
set_option maxHeartbeats 4000000 in
set_option maxRecDepth 100000 in
theorem wk_X9_needs_c55 {p : Program} {l : Launch} {e : Env} {s : State} {m : MethodId} {args : Array Value} {below : List Frame} {meth : Method} {c : Code} {D : GG} {A : Nat → Prop} {cI cJ cZ cS : ClassId} {a0 : Nat} {r0 : Nat → Nat} {v0 : Vl} {Q : Int32 → Prop} (C : Cx p s m args c D (tyL cI cJ cZ cS) A RX9 cX9_needs 6) (hr : meth.sig.returnType = some .int) (hk : meth.locks = false) : ∀ (y1 : Int32) (y3 : Int32) (y4 : Int32) (s0 : Int32), wp_X9_needs_c55 v0 Q y1 y3 y4 s0 → J p l e (rmk 0 0) s m args below meth c D A 6 0 0 (MQ below (va_Qi (fun (r : Int32) (u : Unit) => Q r) (fun u t => va_P D.1 vwCl ((fun (u : Unit) => List.flatten [bX9 cI cJ cZ a0 r0 v0]) u) t.heap ∧ va_D A ((fun (u : Unit) => List.flatten [bX9 cI cJ cZ a0 r0 v0]) u)) A) args s 0 0 A) 55 [(0, .ref a0), (1, .int y1), (3, .int y3), (4, .int y4)] [.int s0] (List.flatten [bX9 cI cJ cZ a0 r0 v0]) := by
  intro y1 y3 y4 s0 h
  refine J_istore C 57 [(5, .int s0), (0, .ref a0), (1, .int y1), (3, .int y3), (4, .int y4)] dX9_needs_55 rfl (by decide) rfl ?_
  refine J_aload_n C 58 dX9_needs_57 rfl rfl ?_
  refine J_get C 61 9 inlX9 0 14 rfl rfl (by decide) wd163 rfl rfl dX9_needs_58 rfl ?_
  refine J_iload_n C 62 dX9_needs_61 rfl rfl ?_
  obtain ⟨hi, h⟩ := h
  refine J_zald C 63 7 2 rfl rfl hi dX9_needs_62 rfl ?_
  refine J_if_eq C 66 77 dX9_needs_63 rfl rfl (fun c => ?_) (fun c => ?_)
  · have h := h.1 c
    refine J_loc [3, 4, 0] rfl ?_
    exact wk_X9_needs_c77 C hr hk y3 y4 s0 h
  · have h := h.2 c
    refine J_iload_n C 67 dX9_needs_66 rfl rfl ?_
    refine J_if_ne C 70 77 dX9_needs_67 rfl rfl (fun c => ?_) (fun c => ?_)
    · have h := h.1 c
      refine J_loc [3, 4, 0] rfl ?_
      exact wk_X9_needs_c77 C hr hk y3 y4 s0 h
    · have h := h.2 c
      refine J_iload C 72 dX9_needs_70 rfl rfl ?_
      refine J_iconst C 73 dX9_needs_72 rfl ki_2 ?_
      refine J_idiv C 74 dX9_needs_73 rfl (by decide) ?_
      refine J_goto C 79 dX9_needs_74 rfl ?_
      refine J_loc [3, 4] rfl ?_
      exact wk_X9_needs_c79 C hr hk y3 y4 (s0 / 2) h
def wp_X9_needs (v0 : Vl) (x1 : Int32) (x2 : Int32) (x3 : Int32) (Q : Int32 → Prop) : Prop := vp_in (5 * x1) 45 ∧ (∀ x_1 : Int32, x_1 = (v0.2.2.1 1 (Int32.toNatClampNeg (5 * x1))) → vp_in ((5 * x1) + 2) 45 ∧ (¬ (v0.1 7) = 0 ∧ (vp_in ((x2 / 10) - (x2 / 10) / (v0.1 7) * (v0.1 7)) 12 ∧ (∀ x_2 : Int32, x_2 = (((v0.2.2.1 1 (Int32.toNatClampNeg ((5 * x1) + 2))) * (v0.2.2.1 8 (Int32.toNatClampNeg ((x2 / 10) - (x2 / 10) / (v0.1 7) * (v0.1 7))))) / 10) → ((¬ x_1 = 1 → wp_X9_needs_c55 v0 Q x1 x3 x_1 x_2) ∧ (x_1 = 1 → wp_X9_needs_c55 v0 Q x1 x3 x_1 (2 * x_2)))))))
set_option maxHeartbeats 4000000 in
set_option maxRecDepth 100000 in
theorem c_X9_needs (l : Launch) (D : GG) (cI cJ cZ cS : ClassId) (a0 : Nat) (r0 : Nat → Nat) (v0 : Vl) (x1 : Int32) (x2 : Int32) (x3 : Int32) (Q : Int32 → Prop) (h : wp_X9_needs v0 x1 x2 x3 Q) : Mi l D (tyL cI cJ cZ cS) yX9_needs cX9_needs 6 .int 0 0 [.ref a0, .int x1, .int x2, .int x3] (List.flatten [bX9 cI cJ cZ a0 r0 v0]) (fun (r : Int32) (u : Unit) => Q r) (fun (u : Unit) => List.flatten [bX9 cI cJ cZ a0 r0 v0]) := by
  refine Mi_of RX9 [(0, .ref a0), (1, .int x1), (2, .int x2), (3, .int x3)] (by decide +kernel) rfl rfl (Nat.le_of_ble_eq_true rfl) ?_
  intro p e s m args below meth c A C hr hk
  refine J_aload_n C 1 dX9_needs_0 rfl rfl ?_
  refine J_get C 4 9 inlX9 0 1 rfl rfl (by decide) wd152 rfl rfl dX9_needs_1 rfl ?_
  refine J_iconst C 5 dX9_needs_4 rfl ki_5 ?_
  refine J_iload_n C 6 dX9_needs_5 rfl rfl ?_
  refine J_imul C 7 dX9_needs_6 rfl ?_
  obtain ⟨hi, h⟩ := h
  refine J_iald C 8 1 0 rfl rfl hi dX9_needs_7 rfl ?_
  obtain ⟨x_1, ex_1⟩ : ∃ z : Int32, z = (v0.2.2.1 1 (Int32.toNatClampNeg (5 * x1))) := ⟨_, rfl⟩
  have h := h x_1 ex_1
  refine J_nmi ex_1 ?_
  refine J_istore C 10 [(4, .int x_1), (0, .ref a0), (1, .int x1), (2, .int x2), (3, .int x3)] dX9_needs_8 rfl (by decide) rfl ?_
  refine J_aload_n C 11 dX9_needs_10 rfl rfl ?_
  refine J_get C 14 9 inlX9 0 1 rfl rfl (by decide) wd152 rfl rfl dX9_needs_11 rfl ?_
  refine J_iconst C 15 dX9_needs_14 rfl ki_5 ?_
  refine J_iload_n C 16 dX9_needs_15 rfl rfl ?_
  refine J_imul C 17 dX9_needs_16 rfl ?_
  refine J_iconst C 18 dX9_needs_17 rfl ki_2 ?_
  refine J_iadd C 19 dX9_needs_18 rfl ?_
  obtain ⟨hi, h⟩ := h
  refine J_iald C 20 1 0 rfl rfl hi dX9_needs_19 rfl ?_
  refine J_aload_n C 21 dX9_needs_20 rfl rfl ?_
  refine J_get C 24 9 inlX9 0 8 rfl rfl (by decide) wd158 rfl rfl dX9_needs_21 rfl ?_
  refine J_iload_n C 25 dX9_needs_24 rfl rfl ?_
  refine J_bipush C 27 dX9_needs_25 rfl kb_10 ?_
  refine J_idiv C 28 dX9_needs_27 rfl (by decide) ?_
  refine J_aload_n C 29 dX9_needs_28 rfl rfl ?_
  refine J_get C 32 9 inlX9 0 7 rfl rfl (by decide) wd157 rfl rfl dX9_needs_29 rfl ?_
  obtain ⟨hne, h⟩ := h
  refine J_irem C 33 dX9_needs_32 rfl hne ?_
  obtain ⟨hi, h⟩ := h
  refine J_iald C 34 2 0 rfl rfl hi dX9_needs_33 rfl ?_
  refine J_imul C 35 dX9_needs_34 rfl ?_
  refine J_bipush C 37 dX9_needs_35 rfl kb_10 ?_
  refine J_idiv C 38 dX9_needs_37 rfl (by decide) ?_
  obtain ⟨x_2, ex_2⟩ : ∃ z : Int32, z = (((v0.2.2.1 1 (Int32.toNatClampNeg ((5 * x1) + 2))) * (v0.2.2.1 8 (Int32.toNatClampNeg ((x2 / 10) - (x2 / 10) / (v0.1 7) * (v0.1 7))))) / 10) := ⟨_, rfl⟩
  have h := h x_2 ex_2
  refine J_nmi ex_2 ?_
  refine J_istore C 40 [(5, .int x_2), (4, .int x_1), (0, .ref a0), (1, .int x1), (2, .int x2), (3, .int x3)] dX9_needs_38 rfl (by decide) rfl ?_
  refine J_iload C 42 dX9_needs_40 rfl rfl ?_
  refine J_iconst C 43 dX9_needs_42 rfl ki_1 ?_
  refine J_icmp_ne C 46 53 dX9_needs_43 rfl rfl (fun c => ?_) (fun c => ?_)
  · have h := h.1 c
    refine J_iload C 55 dX9_needs_53 rfl rfl ?_
    refine J_loc [2, 3, 5, 1] rfl ?_
    exact wk_X9_needs_c55 C hr hk x1 x3 x_1 x_2 h
  · have h := h.2 c
    refine J_iconst C 47 dX9_needs_46 rfl ki_2 ?_
    refine J_iload C 49 dX9_needs_47 rfl rfl ?_
    refine J_imul C 50 dX9_needs_49 rfl ?_
    refine J_goto C 55 dX9_needs_50 rfl ?_
    refine J_loc [2, 3, 5, 1] rfl ?_
    exact wk_X9_needs_c55 C hr hk x1 x3 x_1 (2 * x_2) h
def wp_X9_isOut_c17 (v0 : Vl) (Q : Int32 → Prop) (y1 : Int32) (y2 : Int32) : Prop := vp_in (5 * y1) 45 ∧ (((¬ (v0.2.2.1 1 (Int32.toNatClampNeg (5 * y1))) = 3 → Q 0) ∧ ((v0.2.2.1 1 (Int32.toNatClampNeg (5 * y1))) = 3 → ((¬ y2 = 2 → Q 0) ∧ (y2 = 2 → Q 1)))))
set_option maxHeartbeats 4000000 in
set_option maxRecDepth 100000 in
theorem wk_X9_isOut_c17 {p : Program} {l : Launch} {e : Env} {s : State} {m : MethodId} {args : Array Value} {below : List Frame} {meth : Method} {c : Code} {D : GG} {A : Nat → Prop} {cI cJ cZ cS : ClassId} {a0 : Nat} {r0 : Nat → Nat} {v0 : Vl} {Q : Int32 → Prop} (C : Cx p s m args c D (tyL cI cJ cZ cS) A RX9 cX9_isOut 3) (hr : meth.sig.returnType = some .boolean) (hk : meth.locks = false) : ∀ (y1 : Int32) (y2 : Int32), wp_X9_isOut_c17 v0 Q y1 y2 → J p l e (rmk 0 0) s m args below meth c D A 3 0 0 (MQ below (va_Qi (fun (r : Int32) (u : Unit) => Q r) (fun u t => va_P D.1 vwCl ((fun (u : Unit) => List.flatten [bX9 cI cJ cZ a0 r0 v0]) u) t.heap ∧ va_D A ((fun (u : Unit) => List.flatten [bX9 cI cJ cZ a0 r0 v0]) u)) A) args s 0 0 A) 17 [(0, .ref a0), (1, .int y1), (2, .int y2)] [] (List.flatten [bX9 cI cJ cZ a0 r0 v0]) := by
  intro y1 y2 h
  refine J_aload_n C 18 dX9_isOut_17 rfl rfl ?_
  refine J_get C 21 9 inlX9 0 1 rfl rfl (by decide) wd152 rfl rfl dX9_isOut_18 rfl ?_
  refine J_iconst C 22 dX9_isOut_21 rfl ki_5 ?_
  refine J_iload_n C 23 dX9_isOut_22 rfl rfl ?_
  refine J_imul C 24 dX9_isOut_23 rfl ?_
  obtain ⟨hi, h⟩ := h
  refine J_iald C 25 1 0 rfl rfl hi dX9_isOut_24 rfl ?_
  refine J_iconst C 26 dX9_isOut_25 rfl ki_3 ?_
  refine J_icmp_ne C 29 38 dX9_isOut_26 rfl rfl (fun c => ?_) (fun c => ?_)
  · have h := h.1 c
    refine J_iconst C 39 dX9_isOut_38 rfl ki_0 ?_
    exact J_zret C hr hk rfl () rfl dX9_isOut_39 h
  · have h := h.2 c
    refine J_iload_n C 30 dX9_isOut_29 rfl rfl ?_
    refine J_iconst C 31 dX9_isOut_30 rfl ki_2 ?_
    refine J_icmp_ne C 34 38 dX9_isOut_31 rfl rfl (fun c => ?_) (fun c => ?_)
    · have h := h.1 c
      refine J_iconst C 39 dX9_isOut_38 rfl ki_0 ?_
      exact J_zret C hr hk rfl () rfl dX9_isOut_39 h
    · have h := h.2 c
      refine J_iconst C 35 dX9_isOut_34 rfl ki_1 ?_
      refine J_goto C 39 dX9_isOut_35 rfl ?_
      exact J_zret C hr hk rfl () rfl dX9_isOut_39 h
def wp_X9_isOut (v0 : Vl) (x1 : Int32) (x2 : Int32) (Q : Int32 → Prop) : Prop := vp_in (5 * x1) 45 ∧ (((¬ (v0.2.2.1 1 (Int32.toNatClampNeg (5 * x1))) = 4 → wp_X9_isOut_c17 v0 Q x1 x2) ∧ ((v0.2.2.1 1 (Int32.toNatClampNeg (5 * x1))) = 4 → ((x2 = 1 → Q 1) ∧ (¬ x2 = 1 → wp_X9_isOut_c17 v0 Q x1 x2)))))
set_option maxHeartbeats 4000000 in
set_option maxRecDepth 100000 in
theorem c_X9_isOut (l : Launch) (D : GG) (cI cJ cZ cS : ClassId) (a0 : Nat) (r0 : Nat → Nat) (v0 : Vl) (x1 : Int32) (x2 : Int32) (Q : Int32 → Prop) (h : wp_X9_isOut v0 x1 x2 Q) : Mi l D (tyL cI cJ cZ cS) yX9_isOut cX9_isOut 3 .boolean 0 0 [.ref a0, .int x1, .int x2] (List.flatten [bX9 cI cJ cZ a0 r0 v0]) (fun (r : Int32) (u : Unit) => Q r) (fun (u : Unit) => List.flatten [bX9 cI cJ cZ a0 r0 v0]) := by
  refine Mi_of RX9 [(0, .ref a0), (1, .int x1), (2, .int x2)] (by decide +kernel) rfl rfl (Nat.le_of_ble_eq_true rfl) ?_
  intro p e s m args below meth c A C hr hk
  refine J_aload_n C 1 dX9_isOut_0 rfl rfl ?_
  refine J_get C 4 9 inlX9 0 1 rfl rfl (by decide) wd152 rfl rfl dX9_isOut_1 rfl ?_
  refine J_iconst C 5 dX9_isOut_4 rfl ki_5 ?_
  refine J_iload_n C 6 dX9_isOut_5 rfl rfl ?_
  refine J_imul C 7 dX9_isOut_6 rfl ?_
  obtain ⟨hi, h⟩ := h
  refine J_iald C 8 1 0 rfl rfl hi dX9_isOut_7 rfl ?_
  refine J_iconst C 9 dX9_isOut_8 rfl ki_4 ?_
  refine J_icmp_ne C 12 17 dX9_isOut_9 rfl rfl (fun c => ?_) (fun c => ?_)
  · have h := h.1 c
    refine J_loc [0, 1, 2] rfl ?_
    exact wk_X9_isOut_c17 C hr hk x1 x2 h
  · have h := h.2 c
    refine J_iload_n C 13 dX9_isOut_12 rfl rfl ?_
    refine J_iconst C 14 dX9_isOut_13 rfl ki_1 ?_
    refine J_icmp_eq C 17 34 dX9_isOut_14 rfl rfl (fun c => ?_) (fun c => ?_)
    · have h := h.1 c
      refine J_iconst C 35 dX9_isOut_34 rfl ki_1 ?_
      refine J_goto C 39 dX9_isOut_35 rfl ?_
      exact J_zret C hr hk rfl () rfl dX9_isOut_39 h
    · have h := h.2 c
      refine J_loc [0, 1, 2] rfl ?_
      exact wk_X9_isOut_c17 C hr hk x1 x2 h
def wp_X9_leak  (x0 : Int32) (Q : Int32 → Prop) : Prop := ((¬ x0 = 0 → ((10 ≤ x0 → Q (x0 / 10)) ∧ (¬ 10 ≤ x0 → Q 1))) ∧ (x0 = 0 → Q 0))
set_option maxHeartbeats 4000000 in
set_option maxRecDepth 100000 in
theorem c_X9_leak (l : Launch) (D : GG) (cI cJ cZ cS : ClassId)  (x0 : Int32) (Q : Int32 → Prop) (h : wp_X9_leak x0 Q) : Mi l D (tyL cI cJ cZ cS) yX9_leak cX9_leak 1 .int 0 0 [.int x0] (List.flatten ([] : List va_W)) (fun (r : Int32) (u : Unit) => Q r) (fun (u : Unit) => List.flatten ([] : List va_W)) := by
  refine Mi_of RX9 [(0, .int x0)] (by decide +kernel) rfl rfl (Nat.le_of_ble_eq_true rfl) ?_
  intro p e s m args below meth c A C hr hk
  refine J_iload_n C 1 dX9_leak_0 rfl rfl ?_
  refine J_if_ne C 4 8 dX9_leak_1 rfl rfl (fun c => ?_) (fun c => ?_)
  · have h := h.1 c
    refine J_iload_n C 9 dX9_leak_8 rfl rfl ?_
    refine J_bipush C 11 dX9_leak_9 rfl kb_10 ?_
    refine J_icmp_ge C 14 18 dX9_leak_11 rfl rfl (fun c => ?_) (fun c => ?_)
    · have h := h.1 c
      refine J_iload_n C 19 dX9_leak_18 rfl rfl ?_
      refine J_bipush C 21 dX9_leak_19 rfl kb_10 ?_
      refine J_idiv C 22 dX9_leak_21 rfl (by decide) ?_
      exact J_iret C hr hk () rfl dX9_leak_22 h
    · have h := h.2 c
      refine J_iconst C 15 dX9_leak_14 rfl ki_1 ?_
      refine J_goto C 22 dX9_leak_15 rfl ?_
      exact J_iret C hr hk () rfl dX9_leak_22 h
  · have h := h.2 c
    refine J_iconst C 5 dX9_leak_4 rfl ki_0 ?_
    refine J_goto C 22 dX9_leak_5 rfl ?_
    exact J_iret C hr hk () rfl dX9_leak_22 h
def wp_X9_burn_c246  (Q : Vl → Prop) (v0 : Vl) (y1 : Int32) (s0 : Int32) (s1 : Int32) : Prop := ∀ v0s_9 : Vl, v0s_9 = setI v0 28 (s1 ||| s0) → ((40 ≤ (v0s_9.1 24) → Q v0s_9) ∧ (¬ 40 ≤ (v0s_9.1 24) → vp_in y1 9 ∧ (vp_in ((40 * y1) + (v0s_9.1 24)) 360 ∧ (∀ v0s_10 : Vl, v0s_10 = setA v0s_9 29 (Int32.toNatClampNeg ((40 * y1) + (v0s_9.1 24))) (v0s_9.2.2.1 13 (Int32.toNatClampNeg y1)) → Q v0s_10))))
set_option maxHeartbeats 4000000 in
set_option maxRecDepth 100000 in
theorem wk_X9_burn_c246 {p : Program} {l : Launch} {e : Env} {s : State} {m : MethodId} {args : Array Value} {below : List Frame} {meth : Method} {c : Code} {D : GG} {A : Nat → Prop} {cI cJ cZ cS : ClassId} {a0 : Nat} {r0 : Nat → Nat}  {Q : Vl → Prop} (C : Cx p s m args c D (tyL cI cJ cZ cS) A RX9 cX9_burn 7) (hr : meth.sig.returnType = none) (hk : meth.locks = false) : ∀ (v0 : Vl) (y1 : Int32) (s0 : Int32) (s1 : Int32), wp_X9_burn_c246  Q v0 y1 s0 s1 → J p l e (rmk 1 25) s m args below meth c D A 7 0 0 (MQ below (va_Qv (fun (u : Vl) => Q u) (fun u t => va_P D.1 vwCl ((fun (u : Vl) => List.flatten [bX9 cI cJ cZ a0 r0 u]) u) t.heap ∧ va_D A ((fun (u : Vl) => List.flatten [bX9 cI cJ cZ a0 r0 u]) u)) A) args s 0 0 A) 246 [(0, .ref a0), (1, .int y1)] [.int s0, .int s1, .ref a0] (List.flatten [bX9 cI cJ cZ a0 r0 v0]) := by
  intro v0 y1 s0 s1 h
  refine J_ior C 247 dX9_burn_246 rfl ?_
  obtain ⟨v0s_9, ev0s_9⟩ : ∃ z : Vl, z = setI v0 28 (s1 ||| s0) := ⟨_, rfl⟩
  have h := h v0s_9 ev0s_9
  refine J_put C 250 9 inlX9 tyX9 tyX9_ok nmX9 0 28 rfl rfl (by decide) wd202 rfl rfl rfl rfl rfl (List.flatten [bX9 cI cJ cZ a0 r0 v0s_9]) (by subst ev0s_9; rfl) dX9_burn_247 rfl ?_
  refine J_aload_n C 251 dX9_burn_250 rfl rfl ?_
  refine J_get C 254 9 inlX9 0 24 rfl rfl (by decide) wd198 rfl rfl dX9_burn_251 rfl ?_
  refine J_bipush C 256 dX9_burn_254 rfl kb_40 ?_
  refine J_icmp_ge C 259 279 dX9_burn_256 rfl rfl (fun c => ?_) (fun c => ?_)
  · have h := h.1 c
    exact J_vret C hr hk v0s_9 rfl dX9_burn_279 h
  · have h := h.2 c
    refine J_aload_n C 260 dX9_burn_259 rfl rfl ?_
    refine J_get C 263 9 inlX9 0 29 rfl rfl (by decide) wd167 rfl rfl dX9_burn_260 rfl ?_
    refine J_bipush C 265 dX9_burn_263 rfl kb_40 ?_
    refine J_iload_n C 266 dX9_burn_265 rfl rfl ?_
    refine J_imul C 267 dX9_burn_266 rfl ?_
    refine J_aload_n C 268 dX9_burn_267 rfl rfl ?_
    refine J_get C 271 9 inlX9 0 24 rfl rfl (by decide) wd198 rfl rfl dX9_burn_268 rfl ?_
    refine J_iadd C 272 dX9_burn_271 rfl ?_
    refine J_aload_n C 273 dX9_burn_272 rfl rfl ?_
    refine J_get C 276 9 inlX9 0 13 rfl rfl (by decide) wd162 rfl rfl dX9_burn_273 rfl ?_
    refine J_iload_n C 277 dX9_burn_276 rfl rfl ?_
    obtain ⟨hi, h⟩ := h
    refine J_iald C 278 6 0 rfl rfl hi dX9_burn_277 rfl ?_
    obtain ⟨hi, h⟩ := h
    obtain ⟨v0s_10, ev0s_10⟩ : ∃ z : Vl, z = setA v0s_9 29 (Int32.toNatClampNeg ((40 * y1) + (v0s_9.1 24))) (v0s_9.2.2.1 13 (Int32.toNatClampNeg y1)) := ⟨_, rfl⟩
    have h := h v0s_10 ev0s_10
    refine J_iast C 279 10 0 rfl rfl hi (List.flatten [bX9 cI cJ cZ a0 r0 v0s_10]) (by subst ev0s_10; rfl) dX9_burn_278 rfl ?_
    exact J_vret C hr hk v0s_10 rfl dX9_burn_279 h
def wp_X9_burn_c225  (Q : Vl → Prop) (v0 : Vl) (y1 : Int32) (y4 : Int32) (s0 : Int64) (s1 : Int64) : Prop := ∀ v0s_8 : Vl, v0s_8 = setJ v0 25 (s1 + s0) → ((y4 = 0 → wp_X9_burn_c246  Q v0s_8 y1 0 (v0s_8.1 28)) ∧ (¬ y4 = 0 → wp_X9_burn_c246  Q v0s_8 y1 (1 <<< (y1 &&& 31)) (v0s_8.1 28)))
set_option maxHeartbeats 4000000 in
set_option maxRecDepth 100000 in
theorem wk_X9_burn_c225 {p : Program} {l : Launch} {e : Env} {s : State} {m : MethodId} {args : Array Value} {below : List Frame} {meth : Method} {c : Code} {D : GG} {A : Nat → Prop} {cI cJ cZ cS : ClassId} {a0 : Nat} {r0 : Nat → Nat}  {Q : Vl → Prop} (C : Cx p s m args c D (tyL cI cJ cZ cS) A RX9 cX9_burn 7) (hr : meth.sig.returnType = none) (hk : meth.locks = false) : ∀ (v0 : Vl) (y1 : Int32) (y4 : Int32) (s0 : Int64) (s1 : Int64), wp_X9_burn_c225  Q v0 y1 y4 s0 s1 → J p l e (rmk 1 25) s m args below meth c D A 7 0 0 (MQ below (va_Qv (fun (u : Vl) => Q u) (fun u t => va_P D.1 vwCl ((fun (u : Vl) => List.flatten [bX9 cI cJ cZ a0 r0 u]) u) t.heap ∧ va_D A ((fun (u : Vl) => List.flatten [bX9 cI cJ cZ a0 r0 u]) u)) A) args s 0 0 A) 225 [(0, .ref a0), (1, .int y1), (4, .int y4)] [.long s0, .long s1, .ref a0] (List.flatten [bX9 cI cJ cZ a0 r0 v0]) := by
  intro v0 y1 y4 s0 s1 h
  refine J_ladd C 226 dX9_burn_225 rfl ?_
  obtain ⟨v0s_8, ev0s_8⟩ : ∃ z : Vl, z = setJ v0 25 (s1 + s0) := ⟨_, rfl⟩
  have h := h v0s_8 ev0s_8
  refine J_put C 229 9 inlX9 tyX9 tyX9_ok nmX9 0 25 rfl rfl (by decide) wd199 rfl rfl rfl rfl rfl (List.flatten [bX9 cI cJ cZ a0 r0 v0s_8]) (by subst ev0s_8; rfl) dX9_burn_226 rfl ?_
  refine J_aload_n C 230 dX9_burn_229 rfl rfl ?_
  refine J_dup C 231 dX9_burn_230 rfl rfl ?_
  refine J_get C 234 9 inlX9 0 28 rfl rfl (by decide) wd202 rfl rfl dX9_burn_231 rfl ?_
  refine J_iload C 236 dX9_burn_234 rfl rfl ?_
  refine J_if_eq C 239 245 dX9_burn_236 rfl rfl (fun c => ?_) (fun c => ?_)
  · have h := h.1 c
    refine J_iconst C 246 dX9_burn_245 rfl ki_0 ?_
    refine J_loc [0, 1] rfl ?_
    exact wk_X9_burn_c246 C hr hk v0s_8 y1 0 (v0s_8.1 28) h
  · have h := h.2 c
    refine J_iconst C 240 dX9_burn_239 rfl ki_1 ?_
    refine J_iload_n C 241 dX9_burn_240 rfl rfl ?_
    refine J_ishl C 242 dX9_burn_241 rfl ?_
    refine J_goto C 246 dX9_burn_242 rfl ?_
    refine J_loc [0, 1] rfl ?_
    exact wk_X9_burn_c246 C hr hk v0s_8 y1 (1 <<< (y1 &&& 31)) (v0s_8.1 28) h
def wp_X9_burn_c219  (Q : Vl → Prop) (v0 : Vl) (y1 : Int32) (y4 : Int32) (s0 : Int32) (s1 : Int32) (s2 : Int64) : Prop := wp_X9_burn_c225  Q v0 y1 y4 (Int32.toInt64 (s1 * s0)) s2
set_option maxHeartbeats 4000000 in
set_option maxRecDepth 100000 in
theorem wk_X9_burn_c219 {p : Program} {l : Launch} {e : Env} {s : State} {m : MethodId} {args : Array Value} {below : List Frame} {meth : Method} {c : Code} {D : GG} {A : Nat → Prop} {cI cJ cZ cS : ClassId} {a0 : Nat} {r0 : Nat → Nat}  {Q : Vl → Prop} (C : Cx p s m args c D (tyL cI cJ cZ cS) A RX9 cX9_burn 7) (hr : meth.sig.returnType = none) (hk : meth.locks = false) : ∀ (v0 : Vl) (y1 : Int32) (y4 : Int32) (s0 : Int32) (s1 : Int32) (s2 : Int64), wp_X9_burn_c219  Q v0 y1 y4 s0 s1 s2 → J p l e (rmk 1 25) s m args below meth c D A 7 0 0 (MQ below (va_Qv (fun (u : Vl) => Q u) (fun u t => va_P D.1 vwCl ((fun (u : Vl) => List.flatten [bX9 cI cJ cZ a0 r0 u]) u) t.heap ∧ va_D A ((fun (u : Vl) => List.flatten [bX9 cI cJ cZ a0 r0 u]) u)) A) args s 0 0 A) 219 [(0, .ref a0), (1, .int y1), (4, .int y4)] [.int s0, .int s1, .long s2, .ref a0] (List.flatten [bX9 cI cJ cZ a0 r0 v0]) := by
  intro v0 y1 y4 s0 s1 s2 h
  refine J_imul C 220 dX9_burn_219 rfl ?_
  refine J_i2l C 221 dX9_burn_220 rfl ?_
  refine J_goto C 225 dX9_burn_221 rfl ?_
  refine J_loc [0, 1, 2] rfl ?_
  exact wk_X9_burn_c225 C hr hk v0 y1 y4 (Int32.toInt64 (s1 * s0)) s2 h
def wp_X9_burn_c185  (Q : Vl → Prop) (v0 : Vl) (y1 : Int32) (y2 : Int32) (y4 : Int32) (s0 : Int64) (s1 : Int64) : Prop := ∀ v0s_7 : Vl, v0s_7 = setJ v0 26 (s1 + s0) → ((y4 = 0 → wp_X9_burn_c225  Q v0s_7 y1 y4 0 (v0s_7.2.1 25)) ∧ (¬ y4 = 0 → vp_in ((5 * y1) + 4) 45 ∧ (((¬ y2 = 1 → wp_X9_burn_c219  Q v0s_7 y1 y4 1 (v0s_7.2.2.1 1 (Int32.toNatClampNeg ((5 * y1) + 4))) (v0s_7.2.1 25)) ∧ (y2 = 1 → wp_X9_burn_c219  Q v0s_7 y1 y4 2 (v0s_7.2.2.1 1 (Int32.toNatClampNeg ((5 * y1) + 4))) (v0s_7.2.1 25))))))
set_option maxHeartbeats 4000000 in
set_option maxRecDepth 100000 in
theorem wk_X9_burn_c185 {p : Program} {l : Launch} {e : Env} {s : State} {m : MethodId} {args : Array Value} {below : List Frame} {meth : Method} {c : Code} {D : GG} {A : Nat → Prop} {cI cJ cZ cS : ClassId} {a0 : Nat} {r0 : Nat → Nat}  {Q : Vl → Prop} (C : Cx p s m args c D (tyL cI cJ cZ cS) A RX9 cX9_burn 7) (hr : meth.sig.returnType = none) (hk : meth.locks = false) : ∀ (v0 : Vl) (y1 : Int32) (y2 : Int32) (y4 : Int32) (s0 : Int64) (s1 : Int64), wp_X9_burn_c185  Q v0 y1 y2 y4 s0 s1 → J p l e (rmk 1 25) s m args below meth c D A 7 0 0 (MQ below (va_Qv (fun (u : Vl) => Q u) (fun u t => va_P D.1 vwCl ((fun (u : Vl) => List.flatten [bX9 cI cJ cZ a0 r0 u]) u) t.heap ∧ va_D A ((fun (u : Vl) => List.flatten [bX9 cI cJ cZ a0 r0 u]) u)) A) args s 0 0 A) 185 [(0, .ref a0), (1, .int y1), (2, .int y2), (4, .int y4)] [.long s0, .long s1, .ref a0] (List.flatten [bX9 cI cJ cZ a0 r0 v0]) := by
  intro v0 y1 y2 y4 s0 s1 h
  refine J_ladd C 186 dX9_burn_185 rfl ?_
  obtain ⟨v0s_7, ev0s_7⟩ : ∃ z : Vl, z = setJ v0 26 (s1 + s0) := ⟨_, rfl⟩
  have h := h v0s_7 ev0s_7
  refine J_put C 189 9 inlX9 tyX9 tyX9_ok nmX9 0 26 rfl rfl (by decide) wd200 rfl rfl rfl rfl rfl (List.flatten [bX9 cI cJ cZ a0 r0 v0s_7]) (by subst ev0s_7; rfl) dX9_burn_186 rfl ?_
  refine J_aload_n C 190 dX9_burn_189 rfl rfl ?_
  refine J_dup C 191 dX9_burn_190 rfl rfl ?_
  refine J_get C 194 9 inlX9 0 25 rfl rfl (by decide) wd199 rfl rfl dX9_burn_191 rfl ?_
  refine J_iload C 196 dX9_burn_194 rfl rfl ?_
  refine J_if_eq C 199 224 dX9_burn_196 rfl rfl (fun c => ?_) (fun c => ?_)
  · have h := h.1 c
    refine J_lconst C 225 dX9_burn_224 rfl kl_0 ?_
    refine J_loc [0, 1, 3] rfl ?_
    exact wk_X9_burn_c225 C hr hk v0s_7 y1 y4 0 (v0s_7.2.1 25) h
  · have h := h.2 c
    refine J_aload_n C 200 dX9_burn_199 rfl rfl ?_
    refine J_get C 203 9 inlX9 0 1 rfl rfl (by decide) wd152 rfl rfl dX9_burn_200 rfl ?_
    refine J_iconst C 204 dX9_burn_203 rfl ki_5 ?_
    refine J_iload_n C 205 dX9_burn_204 rfl rfl ?_
    refine J_imul C 206 dX9_burn_205 rfl ?_
    refine J_iconst C 207 dX9_burn_206 rfl ki_4 ?_
    refine J_iadd C 208 dX9_burn_207 rfl ?_
    obtain ⟨hi, h⟩ := h
    refine J_iald C 209 1 0 rfl rfl hi dX9_burn_208 rfl ?_
    refine J_iload_n C 210 dX9_burn_209 rfl rfl ?_
    refine J_iconst C 211 dX9_burn_210 rfl ki_1 ?_
    refine J_icmp_ne C 214 218 dX9_burn_211 rfl rfl (fun c => ?_) (fun c => ?_)
    · have h := h.1 c
      refine J_iconst C 219 dX9_burn_218 rfl ki_1 ?_
      refine J_loc [0, 1, 3] rfl ?_
      exact wk_X9_burn_c219 C hr hk v0s_7 y1 y4 1 (v0s_7.2.2.1 1 (Int32.toNatClampNeg ((5 * y1) + 4))) (v0s_7.2.1 25) h
    · have h := h.2 c
      refine J_iconst C 215 dX9_burn_214 rfl ki_2 ?_
      refine J_goto C 219 dX9_burn_215 rfl ?_
      refine J_loc [0, 1, 3] rfl ?_
      exact wk_X9_burn_c219 C hr hk v0s_7 y1 y4 2 (v0s_7.2.2.1 1 (Int32.toNatClampNeg ((5 * y1) + 4))) (v0s_7.2.1 25) h
def wp_X9_burn_c163  (Q : Vl → Prop) (v0 : Vl) (y1 : Int32) (y2 : Int32) (y4 : Int32) (s0 : Int32) (s1 : Int32) (s2 : Int32) : Prop := vp_in s2 9 ∧ (∀ v0s_6 : Vl, v0s_6 = setA v0 16 (Int32.toNatClampNeg s2) (s1 + s0) → vp_in y1 9 ∧ ((((v0s_6.2.2.1 15 (Int32.toNatClampNeg y1)) ≤ 1 → wp_X9_burn_c185  Q v0s_6 y1 y2 y4 0 (v0s_6.2.1 26)) ∧ (¬ (v0s_6.2.2.1 15 (Int32.toNatClampNeg y1)) ≤ 1 → wp_X9_burn_c185  Q v0s_6 y1 y2 y4 1 (v0s_6.2.1 26)))))
set_option maxHeartbeats 4000000 in
set_option maxRecDepth 100000 in
theorem wk_X9_burn_c163 {p : Program} {l : Launch} {e : Env} {s : State} {m : MethodId} {args : Array Value} {below : List Frame} {meth : Method} {c : Code} {D : GG} {A : Nat → Prop} {cI cJ cZ cS : ClassId} {a0 : Nat} {r0 : Nat → Nat}  {Q : Vl → Prop} (C : Cx p s m args c D (tyL cI cJ cZ cS) A RX9 cX9_burn 7) (hr : meth.sig.returnType = none) (hk : meth.locks = false) : ∀ (v0 : Vl) (y1 : Int32) (y2 : Int32) (y4 : Int32) (s0 : Int32) (s1 : Int32) (s2 : Int32), wp_X9_burn_c163  Q v0 y1 y2 y4 s0 s1 s2 → J p l e (rmk 1 25) s m args below meth c D A 7 0 0 (MQ below (va_Qv (fun (u : Vl) => Q u) (fun u t => va_P D.1 vwCl ((fun (u : Vl) => List.flatten [bX9 cI cJ cZ a0 r0 u]) u) t.heap ∧ va_D A ((fun (u : Vl) => List.flatten [bX9 cI cJ cZ a0 r0 u]) u)) A) args s 0 0 A) 163 [(0, .ref a0), (1, .int y1), (2, .int y2), (4, .int y4)] [.int s0, .int s1, .int s2, .ref (r0 16)] (List.flatten [bX9 cI cJ cZ a0 r0 v0]) := by
  intro v0 y1 y2 y4 s0 s1 s2 h
  refine J_iadd C 164 dX9_burn_163 rfl ?_
  obtain ⟨hi, h⟩ := h
  obtain ⟨v0s_6, ev0s_6⟩ : ∃ z : Vl, z = setA v0 16 (Int32.toNatClampNeg s2) (s1 + s0) := ⟨_, rfl⟩
  have h := h v0s_6 ev0s_6
  refine J_iast C 165 9 0 rfl rfl hi (List.flatten [bX9 cI cJ cZ a0 r0 v0s_6]) (by subst ev0s_6; rfl) dX9_burn_164 rfl ?_
  refine J_aload_n C 166 dX9_burn_165 rfl rfl ?_
  refine J_dup C 167 dX9_burn_166 rfl rfl ?_
  refine J_get C 170 9 inlX9 0 26 rfl rfl (by decide) wd200 rfl rfl dX9_burn_167 rfl ?_
  refine J_aload_n C 171 dX9_burn_170 rfl rfl ?_
  refine J_get C 174 9 inlX9 0 15 rfl rfl (by decide) wd164 rfl rfl dX9_burn_171 rfl ?_
  refine J_iload_n C 175 dX9_burn_174 rfl rfl ?_
  obtain ⟨hi, h⟩ := h
  refine J_iald C 176 8 0 rfl rfl hi dX9_burn_175 rfl ?_
  refine J_iconst C 177 dX9_burn_176 rfl ki_1 ?_
  refine J_icmp_le C 180 184 dX9_burn_177 rfl rfl (fun c => ?_) (fun c => ?_)
  · have h := h.1 c
    refine J_lconst C 185 dX9_burn_184 rfl kl_0 ?_
    refine J_loc [0, 1, 2, 3] rfl ?_
    exact wk_X9_burn_c185 C hr hk v0s_6 y1 y2 y4 0 (v0s_6.2.1 26) h
  · have h := h.2 c
    refine J_lconst C 181 dX9_burn_180 rfl kl_1 ?_
    refine J_goto C 185 dX9_burn_181 rfl ?_
    refine J_loc [0, 1, 2, 3] rfl ?_
    exact wk_X9_burn_c185 C hr hk v0s_6 y1 y2 y4 1 (v0s_6.2.1 26) h
def wp_X9_burn_c145  (Q : Vl → Prop) (v0 : Vl) (y1 : Int32) (y2 : Int32) (y4 : Int32) (s0 : Int32) (s1 : Int32) : Prop := vp_in s1 9 ∧ (∀ v0s_5 : Vl, v0s_5 = setA v0 15 (Int32.toNatClampNeg s1) s0 → vp_in y1 9 ∧ (((y4 = 0 → wp_X9_burn_c163  Q v0s_5 y1 y2 y4 0 (v0s_5.2.2.1 16 (Int32.toNatClampNeg y1)) y1) ∧ (¬ y4 = 0 → wp_X9_burn_c163  Q v0s_5 y1 y2 y4 1 (v0s_5.2.2.1 16 (Int32.toNatClampNeg y1)) y1))))
set_option maxHeartbeats 4000000 in
set_option maxRecDepth 100000 in
theorem wk_X9_burn_c145 {p : Program} {l : Launch} {e : Env} {s : State} {m : MethodId} {args : Array Value} {below : List Frame} {meth : Method} {c : Code} {D : GG} {A : Nat → Prop} {cI cJ cZ cS : ClassId} {a0 : Nat} {r0 : Nat → Nat}  {Q : Vl → Prop} (C : Cx p s m args c D (tyL cI cJ cZ cS) A RX9 cX9_burn 7) (hr : meth.sig.returnType = none) (hk : meth.locks = false) : ∀ (v0 : Vl) (y1 : Int32) (y2 : Int32) (y4 : Int32) (s0 : Int32) (s1 : Int32), wp_X9_burn_c145  Q v0 y1 y2 y4 s0 s1 → J p l e (rmk 1 25) s m args below meth c D A 7 0 0 (MQ below (va_Qv (fun (u : Vl) => Q u) (fun u t => va_P D.1 vwCl ((fun (u : Vl) => List.flatten [bX9 cI cJ cZ a0 r0 u]) u) t.heap ∧ va_D A ((fun (u : Vl) => List.flatten [bX9 cI cJ cZ a0 r0 u]) u)) A) args s 0 0 A) 145 [(0, .ref a0), (1, .int y1), (2, .int y2), (4, .int y4)] [.int s0, .int s1, .ref (r0 15)] (List.flatten [bX9 cI cJ cZ a0 r0 v0]) := by
  intro v0 y1 y2 y4 s0 s1 h
  obtain ⟨hi, h⟩ := h
  obtain ⟨v0s_5, ev0s_5⟩ : ∃ z : Vl, z = setA v0 15 (Int32.toNatClampNeg s1) s0 := ⟨_, rfl⟩
  have h := h v0s_5 ev0s_5
  refine J_iast C 146 8 0 rfl rfl hi (List.flatten [bX9 cI cJ cZ a0 r0 v0s_5]) (by subst ev0s_5; rfl) dX9_burn_145 rfl ?_
  refine J_aload_n C 147 dX9_burn_146 rfl rfl ?_
  refine J_get C 150 9 inlX9 0 16 rfl rfl (by decide) wd165 rfl rfl dX9_burn_147 rfl ?_
  refine J_iload_n C 151 dX9_burn_150 rfl rfl ?_
  refine J_dup2 C 152 dX9_burn_151 rfl rfl rfl ?_
  obtain ⟨hi, h⟩ := h
  refine J_iald C 153 9 0 rfl rfl hi dX9_burn_152 rfl ?_
  refine J_iload C 155 dX9_burn_153 rfl rfl ?_
  refine J_if_eq C 158 162 dX9_burn_155 rfl rfl (fun c => ?_) (fun c => ?_)
  · have h := h.1 c
    refine J_iconst C 163 dX9_burn_162 rfl ki_0 ?_
    refine J_loc [0, 1, 2, 3] rfl ?_
    exact wk_X9_burn_c163 C hr hk v0s_5 y1 y2 y4 0 (v0s_5.2.2.1 16 (Int32.toNatClampNeg y1)) y1 h
  · have h := h.2 c
    refine J_iconst C 159 dX9_burn_158 rfl ki_1 ?_
    refine J_goto C 163 dX9_burn_159 rfl ?_
    refine J_loc [0, 1, 2, 3] rfl ?_
    exact wk_X9_burn_c163 C hr hk v0s_5 y1 y2 y4 1 (v0s_5.2.2.1 16 (Int32.toNatClampNeg y1)) y1 h
def wp_X9_burn_c95  (Q : Vl → Prop) (v0 : Vl) (y1 : Int32) (y2 : Int32) (y4 : Int32) (y5 : Int32) (s0 : Int32) : Prop := vp_in y1 9 ∧ (vp_in y1 9 ∧ (∀ v0s_3 : Vl, v0s_3 = setA v0 13 (Int32.toNatClampNeg y1) ((v0.2.2.1 13 (Int32.toNatClampNeg y1)) - s0) → ∀ v0s_4 : Vl, v0s_4 = setJ v0s_3 19 ((v0s_3.2.1 19) + (Int32.toInt64 (y5 + s0))) → ((y4 = 0 → wp_X9_burn_c145  Q v0s_4 y1 y2 y4 0 y1) ∧ (¬ y4 = 0 → vp_in y1 9 ∧ (wp_X9_burn_c145  Q v0s_4 y1 y2 y4 ((v0s_4.2.2.1 15 (Int32.toNatClampNeg y1)) + 1) y1)))))
set_option maxHeartbeats 4000000 in
set_option maxRecDepth 100000 in
theorem wk_X9_burn_c95 {p : Program} {l : Launch} {e : Env} {s : State} {m : MethodId} {args : Array Value} {below : List Frame} {meth : Method} {c : Code} {D : GG} {A : Nat → Prop} {cI cJ cZ cS : ClassId} {a0 : Nat} {r0 : Nat → Nat}  {Q : Vl → Prop} (C : Cx p s m args c D (tyL cI cJ cZ cS) A RX9 cX9_burn 7) (hr : meth.sig.returnType = none) (hk : meth.locks = false) : ∀ (v0 : Vl) (y1 : Int32) (y2 : Int32) (y4 : Int32) (y5 : Int32) (s0 : Int32), wp_X9_burn_c95  Q v0 y1 y2 y4 y5 s0 → J p l e (rmk 1 25) s m args below meth c D A 7 0 0 (MQ below (va_Qv (fun (u : Vl) => Q u) (fun u t => va_P D.1 vwCl ((fun (u : Vl) => List.flatten [bX9 cI cJ cZ a0 r0 u]) u) t.heap ∧ va_D A ((fun (u : Vl) => List.flatten [bX9 cI cJ cZ a0 r0 u]) u)) A) args s 0 0 A) 95 [(0, .ref a0), (1, .int y1), (2, .int y2), (4, .int y4), (5, .int y5)] [.int s0] (List.flatten [bX9 cI cJ cZ a0 r0 v0]) := by
  intro v0 y1 y2 y4 y5 s0 h
  refine J_istore C 97 [(6, .int s0), (0, .ref a0), (1, .int y1), (2, .int y2), (4, .int y4), (5, .int y5)] dX9_burn_95 rfl (by decide) rfl ?_
  refine J_aload_n C 98 dX9_burn_97 rfl rfl ?_
  refine J_get C 101 9 inlX9 0 13 rfl rfl (by decide) wd162 rfl rfl dX9_burn_98 rfl ?_
  refine J_iload_n C 102 dX9_burn_101 rfl rfl ?_
  refine J_dup2 C 103 dX9_burn_102 rfl rfl rfl ?_
  obtain ⟨hi, h⟩ := h
  refine J_iald C 104 6 0 rfl rfl hi dX9_burn_103 rfl ?_
  refine J_iload C 106 dX9_burn_104 rfl rfl ?_
  refine J_isub C 107 dX9_burn_106 rfl ?_
  obtain ⟨hi, h⟩ := h
  obtain ⟨v0s_3, ev0s_3⟩ : ∃ z : Vl, z = setA v0 13 (Int32.toNatClampNeg y1) ((v0.2.2.1 13 (Int32.toNatClampNeg y1)) - s0) := ⟨_, rfl⟩
  have h := h v0s_3 ev0s_3
  refine J_iast C 108 6 0 rfl rfl hi (List.flatten [bX9 cI cJ cZ a0 r0 v0s_3]) (by subst ev0s_3; rfl) dX9_burn_107 rfl ?_
  refine J_aload_n C 109 dX9_burn_108 rfl rfl ?_
  refine J_dup C 110 dX9_burn_109 rfl rfl ?_
  refine J_get C 113 9 inlX9 0 19 rfl rfl (by decide) wd194 rfl rfl dX9_burn_110 rfl ?_
  refine J_iload C 115 dX9_burn_113 rfl rfl ?_
  refine J_iload C 117 dX9_burn_115 rfl rfl ?_
  refine J_iadd C 118 dX9_burn_117 rfl ?_
  refine J_i2l C 119 dX9_burn_118 rfl ?_
  refine J_ladd C 120 dX9_burn_119 rfl ?_
  obtain ⟨v0s_4, ev0s_4⟩ : ∃ z : Vl, z = setJ v0s_3 19 ((v0s_3.2.1 19) + (Int32.toInt64 (y5 + s0))) := ⟨_, rfl⟩
  have h := h v0s_4 ev0s_4
  refine J_put C 123 9 inlX9 tyX9 tyX9_ok nmX9 0 19 rfl rfl (by decide) wd194 rfl rfl rfl rfl rfl (List.flatten [bX9 cI cJ cZ a0 r0 v0s_4]) (by subst ev0s_4; rfl) dX9_burn_120 rfl ?_
  refine J_aload_n C 124 dX9_burn_123 rfl rfl ?_
  refine J_get C 127 9 inlX9 0 15 rfl rfl (by decide) wd164 rfl rfl dX9_burn_124 rfl ?_
  refine J_iload_n C 128 dX9_burn_127 rfl rfl ?_
  refine J_iload C 130 dX9_burn_128 rfl rfl ?_
  refine J_if_eq C 133 144 dX9_burn_130 rfl rfl (fun c => ?_) (fun c => ?_)
  · have h := h.1 c
    refine J_iconst C 145 dX9_burn_144 rfl ki_0 ?_
    refine J_loc [1, 2, 3, 4] rfl ?_
    exact wk_X9_burn_c145 C hr hk v0s_4 y1 y2 y4 0 y1 h
  · have h := h.2 c
    refine J_aload_n C 134 dX9_burn_133 rfl rfl ?_
    refine J_get C 137 9 inlX9 0 15 rfl rfl (by decide) wd164 rfl rfl dX9_burn_134 rfl ?_
    refine J_iload_n C 138 dX9_burn_137 rfl rfl ?_
    obtain ⟨hi, h⟩ := h
    refine J_iald C 139 8 0 rfl rfl hi dX9_burn_138 rfl ?_
    refine J_iconst C 140 dX9_burn_139 rfl ki_1 ?_
    refine J_iadd C 141 dX9_burn_140 rfl ?_
    refine J_goto C 145 dX9_burn_141 rfl ?_
    refine J_loc [1, 2, 3, 4] rfl ?_
    exact wk_X9_burn_c145 C hr hk v0s_4 y1 y2 y4 ((v0s_4.2.2.1 15 (Int32.toNatClampNeg y1)) + 1) y1 h
def wp_X9_burn_c57  (Q : Vl → Prop) (v0 : Vl) (y1 : Int32) (y2 : Int32) (y4 : Int32) (s0 : Int32) : Prop := vp_in y1 9 ∧ (vp_in y1 9 ∧ (∀ v0s_2 : Vl, v0s_2 = setA v0 13 (Int32.toNatClampNeg y1) ((v0.2.2.1 13 (Int32.toNatClampNeg y1)) - s0) → vp_in (5 * y1) 45 ∧ (((¬ (v0s_2.2.2.1 1 (Int32.toNatClampNeg (5 * y1))) = 2 → wp_X9_burn_c95  Q v0s_2 y1 y2 y4 s0 0) ∧ ((v0s_2.2.2.1 1 (Int32.toNatClampNeg (5 * y1))) = 2 → vp_in y1 9 ∧ (wp_X9_leak (v0s_2.2.2.1 13 (Int32.toNatClampNeg y1)) (fun r_11 => wp_X9_burn_c95  Q v0s_2 y1 y2 y4 s0 r_11)))))))
set_option maxHeartbeats 4000000 in
set_option maxRecDepth 100000 in
theorem wk_X9_burn_c57 {p : Program} {l : Launch} {e : Env} {s : State} {m : MethodId} {args : Array Value} {below : List Frame} {meth : Method} {c : Code} {D : GG} {A : Nat → Prop} {cI cJ cZ cS : ClassId} {a0 : Nat} {r0 : Nat → Nat}  {Q : Vl → Prop} (C : Cx p s m args c D (tyL cI cJ cZ cS) A RX9 cX9_burn 7) (hr : meth.sig.returnType = none) (hk : meth.locks = false) : ∀ (v0 : Vl) (y1 : Int32) (y2 : Int32) (y4 : Int32) (s0 : Int32), wp_X9_burn_c57  Q v0 y1 y2 y4 s0 → J p l e (rmk 1 25) s m args below meth c D A 7 0 0 (MQ below (va_Qv (fun (u : Vl) => Q u) (fun u t => va_P D.1 vwCl ((fun (u : Vl) => List.flatten [bX9 cI cJ cZ a0 r0 u]) u) t.heap ∧ va_D A ((fun (u : Vl) => List.flatten [bX9 cI cJ cZ a0 r0 u]) u)) A) args s 0 0 A) 57 [(0, .ref a0), (1, .int y1), (2, .int y2), (4, .int y4)] [.int s0] (List.flatten [bX9 cI cJ cZ a0 r0 v0]) := by
  intro v0 y1 y2 y4 s0 h
  refine J_istore C 59 [(5, .int s0), (0, .ref a0), (1, .int y1), (2, .int y2), (4, .int y4)] dX9_burn_57 rfl (by decide) rfl ?_
  refine J_aload_n C 60 dX9_burn_59 rfl rfl ?_
  refine J_get C 63 9 inlX9 0 13 rfl rfl (by decide) wd162 rfl rfl dX9_burn_60 rfl ?_
  refine J_iload_n C 64 dX9_burn_63 rfl rfl ?_
  refine J_dup2 C 65 dX9_burn_64 rfl rfl rfl ?_
  obtain ⟨hi, h⟩ := h
  refine J_iald C 66 6 0 rfl rfl hi dX9_burn_65 rfl ?_
  refine J_iload C 68 dX9_burn_66 rfl rfl ?_
  refine J_isub C 69 dX9_burn_68 rfl ?_
  obtain ⟨hi, h⟩ := h
  obtain ⟨v0s_2, ev0s_2⟩ : ∃ z : Vl, z = setA v0 13 (Int32.toNatClampNeg y1) ((v0.2.2.1 13 (Int32.toNatClampNeg y1)) - s0) := ⟨_, rfl⟩
  have h := h v0s_2 ev0s_2
  refine J_iast C 70 6 0 rfl rfl hi (List.flatten [bX9 cI cJ cZ a0 r0 v0s_2]) (by subst ev0s_2; rfl) dX9_burn_69 rfl ?_
  refine J_aload_n C 71 dX9_burn_70 rfl rfl ?_
  refine J_get C 74 9 inlX9 0 1 rfl rfl (by decide) wd152 rfl rfl dX9_burn_71 rfl ?_
  refine J_iconst C 75 dX9_burn_74 rfl ki_5 ?_
  refine J_iload_n C 76 dX9_burn_75 rfl rfl ?_
  refine J_imul C 77 dX9_burn_76 rfl ?_
  obtain ⟨hi, h⟩ := h
  refine J_iald C 78 1 0 rfl rfl hi dX9_burn_77 rfl ?_
  refine J_iconst C 79 dX9_burn_78 rfl ki_2 ?_
  refine J_icmp_ne C 82 94 dX9_burn_79 rfl rfl (fun c => ?_) (fun c => ?_)
  · have h := h.1 c
    refine J_iconst C 95 dX9_burn_94 rfl ki_0 ?_
    refine J_loc [1, 2, 3, 4, 0] rfl ?_
    exact wk_X9_burn_c95 C hr hk v0s_2 y1 y2 y4 s0 0 h
  · have h := h.2 c
    refine J_aload_n C 83 dX9_burn_82 rfl rfl ?_
    refine J_get C 86 9 inlX9 0 13 rfl rfl (by decide) wd162 rfl rfl dX9_burn_83 rfl ?_
    refine J_iload_n C 87 dX9_burn_86 rfl rfl ?_
    obtain ⟨hi, h⟩ := h
    refine J_iald C 88 6 0 rfl rfl hi dX9_burn_87 rfl ?_
    refine J_callBiS (Bs := [bX9 cI cJ cZ a0 r0 v0s_2]) (As := [.int (v0s_2.2.2.1 13 (Int32.toNatClampNeg y1))]) C 91 (c_X9_leak l D cI cJ cZ cS (v0s_2.2.2.1 13 (Int32.toNatClampNeg y1)) _ h) wd713 wd711 wd5 wd712 hdX9_leak ⟨Nat.le_of_ble_eq_true rfl, Nat.le_of_ble_eq_true rfl⟩ ⟨Nat.zero_le _, Nat.zero_le _⟩ rfl (Nat.le_of_ble_eq_true rfl) [] [0] 1 rfl (by decide +kernel) rfl rfl (fun (u : Unit) => ([] : List va_W)) (fun _ => rfl) [0] (by decide +kernel) (fun _ => rfl) rfl (fun (u : Unit) => [bX9 cI cJ cZ a0 r0 v0s_2]) (fun _ => rfl) dX9_burn_88 rfl (fun r_11 u h => ?_)
    refine J_goto C 95 dX9_burn_91 rfl ?_
    refine J_loc [1, 2, 3, 4, 0] rfl ?_
    exact wk_X9_burn_c95 C hr hk v0s_2 y1 y2 y4 s0 r_11 h
def wp_X9_burn_c35  (Q : Vl → Prop) (v0 : Vl) (y1 : Int32) (y2 : Int32) (y3 : Int32) (s0 : Int32) : Prop := vp_in y1 9 ∧ (((y3 ≤ (v0.2.2.1 13 (Int32.toNatClampNeg y1)) → wp_X9_burn_c57  Q v0 y1 y2 s0 y3) ∧ (¬ y3 ≤ (v0.2.2.1 13 (Int32.toNatClampNeg y1)) → vp_in y1 9 ∧ (wp_X9_burn_c57  Q v0 y1 y2 s0 (v0.2.2.1 13 (Int32.toNatClampNeg y1))))))
set_option maxHeartbeats 4000000 in
set_option maxRecDepth 100000 in
theorem wk_X9_burn_c35 {p : Program} {l : Launch} {e : Env} {s : State} {m : MethodId} {args : Array Value} {below : List Frame} {meth : Method} {c : Code} {D : GG} {A : Nat → Prop} {cI cJ cZ cS : ClassId} {a0 : Nat} {r0 : Nat → Nat}  {Q : Vl → Prop} (C : Cx p s m args c D (tyL cI cJ cZ cS) A RX9 cX9_burn 7) (hr : meth.sig.returnType = none) (hk : meth.locks = false) : ∀ (v0 : Vl) (y1 : Int32) (y2 : Int32) (y3 : Int32) (s0 : Int32), wp_X9_burn_c35  Q v0 y1 y2 y3 s0 → J p l e (rmk 1 25) s m args below meth c D A 7 0 0 (MQ below (va_Qv (fun (u : Vl) => Q u) (fun u t => va_P D.1 vwCl ((fun (u : Vl) => List.flatten [bX9 cI cJ cZ a0 r0 u]) u) t.heap ∧ va_D A ((fun (u : Vl) => List.flatten [bX9 cI cJ cZ a0 r0 u]) u)) A) args s 0 0 A) 35 [(0, .ref a0), (1, .int y1), (2, .int y2), (3, .int y3)] [.int s0] (List.flatten [bX9 cI cJ cZ a0 r0 v0]) := by
  intro v0 y1 y2 y3 s0 h
  refine J_istore C 37 [(4, .int s0), (0, .ref a0), (1, .int y1), (2, .int y2), (3, .int y3)] dX9_burn_35 rfl (by decide) rfl ?_
  refine J_aload_n C 38 dX9_burn_37 rfl rfl ?_
  refine J_get C 41 9 inlX9 0 13 rfl rfl (by decide) wd162 rfl rfl dX9_burn_38 rfl ?_
  refine J_iload_n C 42 dX9_burn_41 rfl rfl ?_
  obtain ⟨hi, h⟩ := h
  refine J_iald C 43 6 0 rfl rfl hi dX9_burn_42 rfl ?_
  refine J_iload_n C 44 dX9_burn_43 rfl rfl ?_
  refine J_icmp_ge C 47 56 dX9_burn_44 rfl rfl (fun c => ?_) (fun c => ?_)
  · have h := h.1 c
    refine J_iload_n C 57 dX9_burn_56 rfl rfl ?_
    refine J_loc [1, 2, 3, 0] rfl ?_
    exact wk_X9_burn_c57 C hr hk v0 y1 y2 s0 y3 h
  · have h := h.2 c
    refine J_aload_n C 48 dX9_burn_47 rfl rfl ?_
    refine J_get C 51 9 inlX9 0 13 rfl rfl (by decide) wd162 rfl rfl dX9_burn_48 rfl ?_
    refine J_iload_n C 52 dX9_burn_51 rfl rfl ?_
    obtain ⟨hi, h⟩ := h
    refine J_iald C 53 6 0 rfl rfl hi dX9_burn_52 rfl ?_
    refine J_goto C 57 dX9_burn_53 rfl ?_
    refine J_loc [1, 2, 3, 0] rfl ?_
    exact wk_X9_burn_c57 C hr hk v0 y1 y2 s0 (v0.2.2.1 13 (Int32.toNatClampNeg y1)) h
def wp_X9_burn_c30  (Q : Vl → Prop) (v0 : Vl) (y1 : Int32) (y2 : Int32) (y3 : Int32) : Prop := wp_X9_burn_c35  Q v0 y1 y2 y3 1
set_option maxHeartbeats 4000000 in
set_option maxRecDepth 100000 in
theorem wk_X9_burn_c30 {p : Program} {l : Launch} {e : Env} {s : State} {m : MethodId} {args : Array Value} {below : List Frame} {meth : Method} {c : Code} {D : GG} {A : Nat → Prop} {cI cJ cZ cS : ClassId} {a0 : Nat} {r0 : Nat → Nat}  {Q : Vl → Prop} (C : Cx p s m args c D (tyL cI cJ cZ cS) A RX9 cX9_burn 7) (hr : meth.sig.returnType = none) (hk : meth.locks = false) : ∀ (v0 : Vl) (y1 : Int32) (y2 : Int32) (y3 : Int32), wp_X9_burn_c30  Q v0 y1 y2 y3 → J p l e (rmk 1 25) s m args below meth c D A 7 0 0 (MQ below (va_Qv (fun (u : Vl) => Q u) (fun u t => va_P D.1 vwCl ((fun (u : Vl) => List.flatten [bX9 cI cJ cZ a0 r0 u]) u) t.heap ∧ va_D A ((fun (u : Vl) => List.flatten [bX9 cI cJ cZ a0 r0 u]) u)) A) args s 0 0 A) 30 [(0, .ref a0), (1, .int y1), (2, .int y2), (3, .int y3)] [] (List.flatten [bX9 cI cJ cZ a0 r0 v0]) := by
  intro v0 y1 y2 y3 h
  refine J_iconst C 31 dX9_burn_30 rfl ki_1 ?_
  refine J_goto C 35 dX9_burn_31 rfl ?_
  refine J_loc [0, 1, 2, 3] rfl ?_
  exact wk_X9_burn_c35 C hr hk v0 y1 y2 y3 1 h
def wp_X9_burn (v0 : Vl) (x1 : Int32) (x2 : Int32) (Q : Vl → Prop) : Prop := wp_X9_needs v0 x1 (v0.1 24) x2 (fun r_1 => vp_in x1 9 ∧ ((((v0.2.2.1 13 (Int32.toNatClampNeg x1)) < r_1 → wp_X9_burn_c30  Q v0 x1 x2 r_1) ∧ (¬ (v0.2.2.1 13 (Int32.toNatClampNeg x1)) < r_1 → wp_X9_isOut v0 x1 x2 (fun r_12 => ((r_12 = 0 → wp_X9_burn_c35  Q v0 x1 x2 r_1 0) ∧ (¬ r_12 = 0 → wp_X9_burn_c30  Q v0 x1 x2 r_1)))))))
set_option maxHeartbeats 4000000 in
set_option maxRecDepth 100000 in
theorem c_X9_burn (l : Launch) (D : GG) (cI cJ cZ cS : ClassId) (a0 : Nat) (r0 : Nat → Nat) (v0 : Vl) (x1 : Int32) (x2 : Int32) (Q : Vl → Prop) (h : wp_X9_burn v0 x1 x2 Q) : Mv l D (tyL cI cJ cZ cS) yX9_burn cX9_burn 7 1 25 [.ref a0, .int x1, .int x2] (List.flatten [bX9 cI cJ cZ a0 r0 v0]) (fun (u : Vl) => Q u) (fun (u : Vl) => List.flatten [bX9 cI cJ cZ a0 r0 u]) := by
  refine Mv_of RX9 [(0, .ref a0), (1, .int x1), (2, .int x2)] (by decide +kernel) rfl rfl (Nat.le_of_ble_eq_true rfl) ?_
  intro p e s m args below meth c A C hr hk
  refine J_aload_n C 1 dX9_burn_0 rfl rfl ?_
  refine J_iload_n C 2 dX9_burn_1 rfl rfl ?_
  refine J_aload_n C 3 dX9_burn_2 rfl rfl ?_
  refine J_get C 6 9 inlX9 0 24 rfl rfl (by decide) wd198 rfl rfl dX9_burn_3 rfl ?_
  refine J_iload_n C 7 dX9_burn_6 rfl rfl ?_
  refine J_callBiV (Bs := [bX9 cI cJ cZ a0 r0 v0]) (As := [.int x1, .int (v0.1 24), .int x2]) C 10 (c_X9_needs l D cI cJ cZ cS a0 r0 v0 x1 (v0.1 24) x2 _ h) wd706 wd703 wd5 wd704 wd705 9 0 rfl rfl rfl hdX9_needs ⟨Nat.le_of_ble_eq_true rfl, Nat.le_of_ble_eq_true rfl⟩ ⟨Nat.zero_le _, Nat.zero_le _⟩ rfl (Nat.le_of_ble_eq_true rfl) [0] [] 1 rfl (by decide +kernel) rfl rfl (fun (u : Unit) => [bX9 cI cJ cZ a0 r0 v0]) (fun _ => rfl) [0] (by decide +kernel) (fun _ => rfl) rfl (fun (u : Unit) => [bX9 cI cJ cZ a0 r0 v0]) (fun _ => rfl) dX9_burn_7 rfl (fun r_1 u h => ?_)
  refine J_istore_n C 11 [(3, .int r_1), (0, .ref a0), (1, .int x1), (2, .int x2)] dX9_burn_10 rfl (by decide) rfl ?_
  refine J_aload_n C 12 dX9_burn_11 rfl rfl ?_
  refine J_get C 15 9 inlX9 0 13 rfl rfl (by decide) wd162 rfl rfl dX9_burn_12 rfl ?_
  refine J_iload_n C 16 dX9_burn_15 rfl rfl ?_
  obtain ⟨hi, h⟩ := h
  refine J_iald C 17 6 0 rfl rfl hi dX9_burn_16 rfl ?_
  refine J_iload_n C 18 dX9_burn_17 rfl rfl ?_
  refine J_icmp_lt C 21 30 dX9_burn_18 rfl rfl (fun c => ?_) (fun c => ?_)
  · have h := h.1 c
    refine J_loc [1, 2, 3, 0] rfl ?_
    exact wk_X9_burn_c30 C hr hk v0 x1 x2 r_1 h
  · have h := h.2 c
    refine J_aload_n C 22 dX9_burn_21 rfl rfl ?_
    refine J_iload_n C 23 dX9_burn_22 rfl rfl ?_
    refine J_iload_n C 24 dX9_burn_23 rfl rfl ?_
    refine J_callBiV (Bs := [bX9 cI cJ cZ a0 r0 v0]) (As := [.int x1, .int x2]) C 27 (c_X9_isOut l D cI cJ cZ cS a0 r0 v0 x1 x2 _ h) wd710 wd707 wd5 wd708 wd709 9 0 rfl rfl rfl hdX9_isOut ⟨Nat.le_of_ble_eq_true rfl, Nat.le_of_ble_eq_true rfl⟩ ⟨Nat.zero_le _, Nat.zero_le _⟩ rfl (Nat.le_of_ble_eq_true rfl) [0] [] 1 rfl (by decide +kernel) rfl rfl (fun (u : Unit) => [bX9 cI cJ cZ a0 r0 v0]) (fun _ => rfl) [0] (by decide +kernel) (fun _ => rfl) rfl (fun (u : Unit) => [bX9 cI cJ cZ a0 r0 v0]) (fun _ => rfl) dX9_burn_24 rfl (fun r_12 u h => ?_)
    refine J_if_eq C 30 34 dX9_burn_27 rfl rfl (fun c => ?_) (fun c => ?_)
    · have h := h.1 c
      refine J_iconst C 35 dX9_burn_34 rfl ki_0 ?_
      refine J_loc [1, 2, 3, 0] rfl ?_
      exact wk_X9_burn_c35 C hr hk v0 x1 x2 r_1 0 h
    · have h := h.2 c
      refine J_loc [1, 2, 3, 0] rfl ?_
      exact wk_X9_burn_c30 C hr hk v0 x1 x2 r_1 h
def wp_X9_pace (v0 : Vl) (x1 : Int32) (Q : Int32 → Prop) : Prop := ((¬ x1 = 0 → ((¬ x1 = 1 → Q 0) ∧ (x1 = 1 → Q ((v0.1 2) / 2)))) ∧ (x1 = 0 → Q (v0.1 2)))
set_option maxHeartbeats 4000000 in
set_option maxRecDepth 100000 in
theorem c_X9_pace (l : Launch) (D : GG) (cI cJ cZ cS : ClassId) (a0 : Nat) (r0 : Nat → Nat) (v0 : Vl) (x1 : Int32) (Q : Int32 → Prop) (h : wp_X9_pace v0 x1 Q) : Mi l D (tyL cI cJ cZ cS) yX9_pace cX9_pace 2 .int 0 0 [.ref a0, .int x1] (List.flatten [bX9 cI cJ cZ a0 r0 v0]) (fun (r : Int32) (u : Unit) => Q r) (fun (u : Unit) => List.flatten [bX9 cI cJ cZ a0 r0 v0]) := by
  refine Mi_of RX9 [(0, .ref a0), (1, .int x1)] (by decide +kernel) rfl rfl (Nat.le_of_ble_eq_true rfl) ?_
  intro p e s m args below meth c A C hr hk
  refine J_iload_n C 1 dX9_pace_0 rfl rfl ?_
  refine J_if_ne C 4 11 dX9_pace_1 rfl rfl (fun c => ?_) (fun c => ?_)
  · have h := h.1 c
    refine J_iload_n C 12 dX9_pace_11 rfl rfl ?_
    refine J_iconst C 13 dX9_pace_12 rfl ki_1 ?_
    refine J_icmp_ne C 16 25 dX9_pace_13 rfl rfl (fun c => ?_) (fun c => ?_)
    · have h := h.1 c
      refine J_iconst C 26 dX9_pace_25 rfl ki_0 ?_
      exact J_iret C hr hk () rfl dX9_pace_26 h
    · have h := h.2 c
      refine J_aload_n C 17 dX9_pace_16 rfl rfl ?_
      refine J_get C 20 9 inlX9 0 2 rfl rfl (by decide) wd153 rfl rfl dX9_pace_17 rfl ?_
      refine J_iconst C 21 dX9_pace_20 rfl ki_2 ?_
      refine J_idiv C 22 dX9_pace_21 rfl (by decide) ?_
      refine J_goto C 26 dX9_pace_22 rfl ?_
      exact J_iret C hr hk () rfl dX9_pace_26 h
  · have h := h.2 c
    refine J_aload_n C 5 dX9_pace_4 rfl rfl ?_
    refine J_get C 8 9 inlX9 0 2 rfl rfl (by decide) wd153 rfl rfl dX9_pace_5 rfl ?_
    refine J_goto C 26 dX9_pace_8 rfl ?_
    exact J_iret C hr hk () rfl dX9_pace_26 h
def wp_X9_lesser  (x0 : Int64) (x2 : Int64) (Q : Int64 → Prop) : Prop := ((x2 ≤ x0 → Q x2) ∧ (¬ x2 ≤ x0 → Q x0))
set_option maxHeartbeats 4000000 in
set_option maxRecDepth 100000 in
theorem c_X9_lesser (l : Launch) (D : GG) (cI cJ cZ cS : ClassId)  (x0 : Int64) (x2 : Int64) (Q : Int64 → Prop) (h : wp_X9_lesser x0 x2 Q) : Ml l D (tyL cI cJ cZ cS) yX9_lesser cX9_lesser 4 0 0 [.long x0, .long x2] (List.flatten ([] : List va_W)) (fun (r : Int64) (u : Unit) => Q r) (fun (u : Unit) => List.flatten ([] : List va_W)) := by
  refine Ml_of RX9 [(0, .long x0), (2, .long x2)] (by decide +kernel) rfl rfl (Nat.le_of_ble_eq_true rfl) ?_
  intro p e s m args below meth c A C hr hk
  refine J_lload_n C 1 dX9_lesser_0 rfl rfl ?_
  refine J_lload_n C 2 dX9_lesser_1 rfl rfl ?_
  refine J_lc_ge C 3 6 10 dX9_lesser_2 rfl dX9_lesser_3 rfl rfl (fun c => ?_) (fun c => ?_)
  · have h := h.1 c
    refine J_lload_n C 11 dX9_lesser_10 rfl rfl ?_
    exact J_lret C hr hk () rfl dX9_lesser_11 h
  · have h := h.2 c
    refine J_lload_n C 7 dX9_lesser_6 rfl rfl ?_
    refine J_goto C 11 dX9_lesser_7 rfl ?_
    exact J_lret C hr hk () rfl dX9_lesser_11 h
def wp_X9_sail_c202  (Q : Vl → Prop) (v0 : Vl) (s0 : Int32) : Prop := ∀ v0s_5 : Vl, v0s_5 = setI v0 22 ((v0.1 22) - s0) → vp_in (v0s_5.1 23) 9 ∧ (vp_in (v0s_5.1 23) 9 ∧ (∀ v0s_6 : Vl, v0s_6 = setA v0s_5 13 (Int32.toNatClampNeg (v0s_5.1 23)) ((v0s_5.2.2.1 13 (Int32.toNatClampNeg (v0s_5.1 23))) + s0) → Q v0s_6))
set_option maxHeartbeats 4000000 in
set_option maxRecDepth 100000 in
theorem wk_X9_sail_c202 {p : Program} {l : Launch} {e : Env} {s : State} {m : MethodId} {args : Array Value} {below : List Frame} {meth : Method} {c : Code} {D : GG} {A : Nat → Prop} {cI cJ cZ cS : ClassId} {a0 : Nat} {r0 : Nat → Nat}  {Q : Vl → Prop} (C : Cx p s m args c D (tyL cI cJ cZ cS) A RX9 cX9_sail 6) (hr : meth.sig.returnType = none) (hk : meth.locks = false) : ∀ (v0 : Vl) (s0 : Int32), wp_X9_sail_c202  Q v0 s0 → J p l e (rmk 1 23) s m args below meth c D A 6 0 0 (MQ below (va_Qv (fun (u : Vl) => Q u) (fun u t => va_P D.1 vwCl ((fun (u : Vl) => List.flatten [bX9 cI cJ cZ a0 r0 u]) u) t.heap ∧ va_D A ((fun (u : Vl) => List.flatten [bX9 cI cJ cZ a0 r0 u]) u)) A) args s 0 0 A) 202 [(0, .ref a0)] [.int s0] (List.flatten [bX9 cI cJ cZ a0 r0 v0]) := by
  intro v0 s0 h
  refine J_istore C 204 [(5, .int s0), (0, .ref a0)] dX9_sail_202 rfl (by decide) rfl ?_
  refine J_aload_n C 205 dX9_sail_204 rfl rfl ?_
  refine J_dup C 206 dX9_sail_205 rfl rfl ?_
  refine J_get C 209 9 inlX9 0 22 rfl rfl (by decide) wd197 rfl rfl dX9_sail_206 rfl ?_
  refine J_iload C 211 dX9_sail_209 rfl rfl ?_
  refine J_isub C 212 dX9_sail_211 rfl ?_
  obtain ⟨v0s_5, ev0s_5⟩ : ∃ z : Vl, z = setI v0 22 ((v0.1 22) - s0) := ⟨_, rfl⟩
  have h := h v0s_5 ev0s_5
  refine J_put C 215 9 inlX9 tyX9 tyX9_ok nmX9 0 22 rfl rfl (by decide) wd197 rfl rfl rfl rfl rfl (List.flatten [bX9 cI cJ cZ a0 r0 v0s_5]) (by subst ev0s_5; rfl) dX9_sail_212 rfl ?_
  refine J_aload_n C 216 dX9_sail_215 rfl rfl ?_
  refine J_get C 219 9 inlX9 0 13 rfl rfl (by decide) wd162 rfl rfl dX9_sail_216 rfl ?_
  refine J_aload_n C 220 dX9_sail_219 rfl rfl ?_
  refine J_get C 223 9 inlX9 0 23 rfl rfl (by decide) wd166 rfl rfl dX9_sail_220 rfl ?_
  refine J_dup2 C 224 dX9_sail_223 rfl rfl rfl ?_
  obtain ⟨hi, h⟩ := h
  refine J_iald C 225 6 0 rfl rfl hi dX9_sail_224 rfl ?_
  refine J_iload C 227 dX9_sail_225 rfl rfl ?_
  refine J_iadd C 228 dX9_sail_227 rfl ?_
  obtain ⟨hi, h⟩ := h
  obtain ⟨v0s_6, ev0s_6⟩ : ∃ z : Vl, z = setA v0s_5 13 (Int32.toNatClampNeg (v0s_5.1 23)) ((v0s_5.2.2.1 13 (Int32.toNatClampNeg (v0s_5.1 23))) + s0) := ⟨_, rfl⟩
  have h := h v0s_6 ev0s_6
  refine J_iast C 229 6 0 rfl rfl hi (List.flatten [bX9 cI cJ cZ a0 r0 v0s_6]) (by subst ev0s_6; rfl) dX9_sail_228 rfl ?_
  exact J_vret C hr hk v0s_6 rfl dX9_sail_229 h
def wp_X9_sail_c90  (Q : Vl → Prop) (v0 : Vl) (y2 : Int32) (s0 : Int32) (s1 : Int32) : Prop := ∀ v0s_2 : Vl, v0s_2 = setI v0 21 (s1 + s0) → (((v0s_2.1 21) = y2 → ((0 ≤ (v0s_2.1 23) → vp_in ((5 * (v0s_2.1 23)) + 3) 45 ∧ (vp_in (v0s_2.1 23) 9 ∧ (wp_X9_lesser (Int32.toInt64 (v0s_2.1 22)) (Int32.toInt64 ((v0s_2.2.2.1 1 (Int32.toNatClampNeg ((5 * (v0s_2.1 23)) + 3))) - (v0s_2.2.2.1 13 (Int32.toNatClampNeg (v0s_2.1 23))))) (fun r_3 => ∀ x_4 : Int32, x_4 = (Int64.toInt32 r_3) → ((0 ≤ x_4 → wp_X9_sail_c202  Q v0s_2 x_4) ∧ (¬ 0 ≤ x_4 → wp_X9_sail_c202  Q v0s_2 0)))))) ∧ (¬ 0 ≤ (v0s_2.1 23) → wp_X9_lesser (v0s_2.2.1 17) (Int32.toInt64 ((v0s_2.1 3) - (v0s_2.1 22))) (fun r_7 => ∀ x_8 : Int32, x_8 = (Int64.toInt32 r_7) → ∀ v0s_9 : Vl, v0s_9 = setJ v0s_2 17 ((v0s_2.2.1 17) - (Int32.toInt64 x_8)) → ∀ v0s_10 : Vl, v0s_10 = setI v0s_9 22 ((v0s_9.1 22) + x_8) → Q v0s_10)))) ∧ (¬ (v0s_2.1 21) = y2 → Q v0s_2))
set_option maxHeartbeats 4000000 in
set_option maxRecDepth 100000 in
theorem wk_X9_sail_c90 {p : Program} {l : Launch} {e : Env} {s : State} {m : MethodId} {args : Array Value} {below : List Frame} {meth : Method} {c : Code} {D : GG} {A : Nat → Prop} {cI cJ cZ cS : ClassId} {a0 : Nat} {r0 : Nat → Nat}  {Q : Vl → Prop} (C : Cx p s m args c D (tyL cI cJ cZ cS) A RX9 cX9_sail 6) (hr : meth.sig.returnType = none) (hk : meth.locks = false) : ∀ (v0 : Vl) (y2 : Int32) (s0 : Int32) (s1 : Int32), wp_X9_sail_c90  Q v0 y2 s0 s1 → J p l e (rmk 1 23) s m args below meth c D A 6 0 0 (MQ below (va_Qv (fun (u : Vl) => Q u) (fun u t => va_P D.1 vwCl ((fun (u : Vl) => List.flatten [bX9 cI cJ cZ a0 r0 u]) u) t.heap ∧ va_D A ((fun (u : Vl) => List.flatten [bX9 cI cJ cZ a0 r0 u]) u)) A) args s 0 0 A) 90 [(0, .ref a0), (2, .int y2)] [.int s0, .int s1, .ref a0] (List.flatten [bX9 cI cJ cZ a0 r0 v0]) := by
  intro v0 y2 s0 s1 h
  refine J_iadd C 91 dX9_sail_90 rfl ?_
  obtain ⟨v0s_2, ev0s_2⟩ : ∃ z : Vl, z = setI v0 21 (s1 + s0) := ⟨_, rfl⟩
  have h := h v0s_2 ev0s_2
  refine J_put C 94 9 inlX9 tyX9 tyX9_ok nmX9 0 21 rfl rfl (by decide) wd196 rfl rfl rfl rfl rfl (List.flatten [bX9 cI cJ cZ a0 r0 v0s_2]) (by subst ev0s_2; rfl) dX9_sail_91 rfl ?_
  refine J_aload_n C 95 dX9_sail_94 rfl rfl ?_
  refine J_get C 98 9 inlX9 0 21 rfl rfl (by decide) wd196 rfl rfl dX9_sail_95 rfl ?_
  refine J_iload_n C 99 dX9_sail_98 rfl rfl ?_
  refine J_icmp_eq C 102 103 dX9_sail_99 rfl rfl (fun c => ?_) (fun c => ?_)
  · have h := h.1 c
    refine J_aload_n C 104 dX9_sail_103 rfl rfl ?_
    refine J_get C 107 9 inlX9 0 23 rfl rfl (by decide) wd166 rfl rfl dX9_sail_104 rfl ?_
    refine J_if_ge C 110 156 dX9_sail_107 rfl rfl (fun c => ?_) (fun c => ?_)
    · have h := h.1 c
      refine J_aload_n C 157 dX9_sail_156 rfl rfl ?_
      refine J_get C 160 9 inlX9 0 22 rfl rfl (by decide) wd197 rfl rfl dX9_sail_157 rfl ?_
      refine J_i2l C 161 dX9_sail_160 rfl ?_
      refine J_aload_n C 162 dX9_sail_161 rfl rfl ?_
      refine J_get C 165 9 inlX9 0 1 rfl rfl (by decide) wd152 rfl rfl dX9_sail_162 rfl ?_
      refine J_iconst C 166 dX9_sail_165 rfl ki_5 ?_
      refine J_aload_n C 167 dX9_sail_166 rfl rfl ?_
      refine J_get C 170 9 inlX9 0 23 rfl rfl (by decide) wd166 rfl rfl dX9_sail_167 rfl ?_
      refine J_imul C 171 dX9_sail_170 rfl ?_
      refine J_iconst C 172 dX9_sail_171 rfl ki_3 ?_
      refine J_iadd C 173 dX9_sail_172 rfl ?_
      obtain ⟨hi, h⟩ := h
      refine J_iald C 174 1 0 rfl rfl hi dX9_sail_173 rfl ?_
      refine J_aload_n C 175 dX9_sail_174 rfl rfl ?_
      refine J_get C 178 9 inlX9 0 13 rfl rfl (by decide) wd162 rfl rfl dX9_sail_175 rfl ?_
      refine J_aload_n C 179 dX9_sail_178 rfl rfl ?_
      refine J_get C 182 9 inlX9 0 23 rfl rfl (by decide) wd166 rfl rfl dX9_sail_179 rfl ?_
      obtain ⟨hi, h⟩ := h
      refine J_iald C 183 6 0 rfl rfl hi dX9_sail_182 rfl ?_
      refine J_isub C 184 dX9_sail_183 rfl ?_
      refine J_i2l C 185 dX9_sail_184 rfl ?_
      refine J_callBlS (Bs := [bX9 cI cJ cZ a0 r0 v0s_2]) (As := [.long (Int32.toInt64 (v0s_2.1 22)), .long (Int32.toInt64 ((v0s_2.2.2.1 1 (Int32.toNatClampNeg ((5 * (v0s_2.1 23)) + 3))) - (v0s_2.2.2.1 13 (Int32.toNatClampNeg (v0s_2.1 23)))))]) C 188 (c_X9_lesser l D cI cJ cZ cS (Int32.toInt64 (v0s_2.1 22)) (Int32.toInt64 ((v0s_2.2.2.1 1 (Int32.toNatClampNeg ((5 * (v0s_2.1 23)) + 3))) - (v0s_2.2.2.1 13 (Int32.toNatClampNeg (v0s_2.1 23))))) _ h) wd698 wd696 wd5 wd697 hdX9_lesser ⟨Nat.le_of_ble_eq_true rfl, Nat.le_of_ble_eq_true rfl⟩ ⟨Nat.zero_le _, Nat.zero_le _⟩ rfl (Nat.le_of_ble_eq_true rfl) [] [0] 1 rfl (by decide +kernel) rfl rfl (fun (u : Unit) => ([] : List va_W)) (fun _ => rfl) [0] (by decide +kernel) (fun _ => rfl) rfl (fun (u : Unit) => [bX9 cI cJ cZ a0 r0 v0s_2]) (fun _ => rfl) dX9_sail_185 rfl (fun r_3 u h => ?_)
      refine J_l2i C 189 dX9_sail_188 rfl ?_
      obtain ⟨x_4, ex_4⟩ : ∃ z : Int32, z = (Int64.toInt32 r_3) := ⟨_, rfl⟩
      have h := h x_4 ex_4
      refine J_nmi ex_4 ?_
      refine J_istore C 191 [(5, .int x_4), (0, .ref a0), (2, .int y2)] dX9_sail_189 rfl (by decide) rfl ?_
      refine J_iload C 193 dX9_sail_191 rfl rfl ?_
      refine J_if_ge C 196 200 dX9_sail_193 rfl rfl (fun c => ?_) (fun c => ?_)
      · have h := h.1 c
        refine J_iload C 202 dX9_sail_200 rfl rfl ?_
        refine J_loc [1] rfl ?_
        exact wk_X9_sail_c202 C hr hk v0s_2 x_4 h
      · have h := h.2 c
        refine J_iconst C 197 dX9_sail_196 rfl ki_0 ?_
        refine J_goto C 202 dX9_sail_197 rfl ?_
        refine J_loc [1] rfl ?_
        exact wk_X9_sail_c202 C hr hk v0s_2 0 h
    · have h := h.2 c
      refine J_aload_n C 111 dX9_sail_110 rfl rfl ?_
      refine J_get C 114 9 inlX9 0 17 rfl rfl (by decide) wd192 rfl rfl dX9_sail_111 rfl ?_
      refine J_aload_n C 115 dX9_sail_114 rfl rfl ?_
      refine J_get C 118 9 inlX9 0 3 rfl rfl (by decide) wd154 rfl rfl dX9_sail_115 rfl ?_
      refine J_aload_n C 119 dX9_sail_118 rfl rfl ?_
      refine J_get C 122 9 inlX9 0 22 rfl rfl (by decide) wd197 rfl rfl dX9_sail_119 rfl ?_
      refine J_isub C 123 dX9_sail_122 rfl ?_
      refine J_i2l C 124 dX9_sail_123 rfl ?_
      refine J_callBlS (Bs := [bX9 cI cJ cZ a0 r0 v0s_2]) (As := [.long (v0s_2.2.1 17), .long (Int32.toInt64 ((v0s_2.1 3) - (v0s_2.1 22)))]) C 127 (c_X9_lesser l D cI cJ cZ cS (v0s_2.2.1 17) (Int32.toInt64 ((v0s_2.1 3) - (v0s_2.1 22))) _ h) wd698 wd696 wd5 wd697 hdX9_lesser ⟨Nat.le_of_ble_eq_true rfl, Nat.le_of_ble_eq_true rfl⟩ ⟨Nat.zero_le _, Nat.zero_le _⟩ rfl (Nat.le_of_ble_eq_true rfl) [] [0] 1 rfl (by decide +kernel) rfl rfl (fun (u : Unit) => ([] : List va_W)) (fun _ => rfl) [0] (by decide +kernel) (fun _ => rfl) rfl (fun (u : Unit) => [bX9 cI cJ cZ a0 r0 v0s_2]) (fun _ => rfl) dX9_sail_124 rfl (fun r_7 u h => ?_)
      refine J_l2i C 128 dX9_sail_127 rfl ?_
      obtain ⟨x_8, ex_8⟩ : ∃ z : Int32, z = (Int64.toInt32 r_7) := ⟨_, rfl⟩
      have h := h x_8 ex_8
      refine J_nmi ex_8 ?_
      refine J_istore C 130 [(5, .int x_8), (0, .ref a0), (2, .int y2)] dX9_sail_128 rfl (by decide) rfl ?_
      refine J_aload_n C 131 dX9_sail_130 rfl rfl ?_
      refine J_dup C 132 dX9_sail_131 rfl rfl ?_
      refine J_get C 135 9 inlX9 0 17 rfl rfl (by decide) wd192 rfl rfl dX9_sail_132 rfl ?_
      refine J_iload C 137 dX9_sail_135 rfl rfl ?_
      refine J_i2l C 138 dX9_sail_137 rfl ?_
      refine J_lsub C 139 dX9_sail_138 rfl ?_
      obtain ⟨v0s_9, ev0s_9⟩ : ∃ z : Vl, z = setJ v0s_2 17 ((v0s_2.2.1 17) - (Int32.toInt64 x_8)) := ⟨_, rfl⟩
      have h := h v0s_9 ev0s_9
      refine J_put C 142 9 inlX9 tyX9 tyX9_ok nmX9 0 17 rfl rfl (by decide) wd192 rfl rfl rfl rfl rfl (List.flatten [bX9 cI cJ cZ a0 r0 v0s_9]) (by subst ev0s_9; rfl) dX9_sail_139 rfl ?_
      refine J_aload_n C 143 dX9_sail_142 rfl rfl ?_
      refine J_dup C 144 dX9_sail_143 rfl rfl ?_
      refine J_get C 147 9 inlX9 0 22 rfl rfl (by decide) wd197 rfl rfl dX9_sail_144 rfl ?_
      refine J_iload C 149 dX9_sail_147 rfl rfl ?_
      refine J_iadd C 150 dX9_sail_149 rfl ?_
      obtain ⟨v0s_10, ev0s_10⟩ : ∃ z : Vl, z = setI v0s_9 22 ((v0s_9.1 22) + x_8) := ⟨_, rfl⟩
      have h := h v0s_10 ev0s_10
      refine J_put C 153 9 inlX9 tyX9 tyX9_ok nmX9 0 22 rfl rfl (by decide) wd197 rfl rfl rfl rfl rfl (List.flatten [bX9 cI cJ cZ a0 r0 v0s_10]) (by subst ev0s_10; rfl) dX9_sail_150 rfl ?_
      refine J_goto C 229 dX9_sail_153 rfl ?_
      exact J_vret C hr hk v0s_10 rfl dX9_sail_229 h
  · have h := h.2 c
    exact J_vret C hr hk v0s_2 rfl dX9_sail_102 h
def wp_X9_sail_c67  (Q : Vl → Prop) (v0 : Vl) (y2 : Int32) (s0 : Int32) : Prop := ((y2 ≤ (v0.1 21) → wp_X9_sail_c90  Q v0 y2 (-s0) (v0.1 21)) ∧ (¬ y2 ≤ (v0.1 21) → wp_X9_sail_c90  Q v0 y2 s0 (v0.1 21)))
set_option maxHeartbeats 4000000 in
set_option maxRecDepth 100000 in
theorem wk_X9_sail_c67 {p : Program} {l : Launch} {e : Env} {s : State} {m : MethodId} {args : Array Value} {below : List Frame} {meth : Method} {c : Code} {D : GG} {A : Nat → Prop} {cI cJ cZ cS : ClassId} {a0 : Nat} {r0 : Nat → Nat}  {Q : Vl → Prop} (C : Cx p s m args c D (tyL cI cJ cZ cS) A RX9 cX9_sail 6) (hr : meth.sig.returnType = none) (hk : meth.locks = false) : ∀ (v0 : Vl) (y2 : Int32) (s0 : Int32), wp_X9_sail_c67  Q v0 y2 s0 → J p l e (rmk 1 23) s m args below meth c D A 6 0 0 (MQ below (va_Qv (fun (u : Vl) => Q u) (fun u t => va_P D.1 vwCl ((fun (u : Vl) => List.flatten [bX9 cI cJ cZ a0 r0 u]) u) t.heap ∧ va_D A ((fun (u : Vl) => List.flatten [bX9 cI cJ cZ a0 r0 u]) u)) A) args s 0 0 A) 67 [(0, .ref a0), (2, .int y2)] [.int s0] (List.flatten [bX9 cI cJ cZ a0 r0 v0]) := by
  intro v0 y2 s0 h
  refine J_istore C 69 [(4, .int s0), (0, .ref a0), (2, .int y2)] dX9_sail_67 rfl (by decide) rfl ?_
  refine J_aload_n C 70 dX9_sail_69 rfl rfl ?_
  refine J_dup C 71 dX9_sail_70 rfl rfl ?_
  refine J_get C 74 9 inlX9 0 21 rfl rfl (by decide) wd196 rfl rfl dX9_sail_71 rfl ?_
  refine J_iload_n C 75 dX9_sail_74 rfl rfl ?_
  refine J_aload_n C 76 dX9_sail_75 rfl rfl ?_
  refine J_get C 79 9 inlX9 0 21 rfl rfl (by decide) wd196 rfl rfl dX9_sail_76 rfl ?_
  refine J_icmp_le C 82 87 dX9_sail_79 rfl rfl (fun c => ?_) (fun c => ?_)
  · have h := h.1 c
    refine J_iload C 89 dX9_sail_87 rfl rfl ?_
    refine J_ineg C 90 dX9_sail_89 rfl ?_
    refine J_loc [1, 2] rfl ?_
    exact wk_X9_sail_c90 C hr hk v0 y2 (-s0) (v0.1 21) h
  · have h := h.2 c
    refine J_iload C 84 dX9_sail_82 rfl rfl ?_
    refine J_goto C 90 dX9_sail_84 rfl ?_
    refine J_loc [1, 2] rfl ?_
    exact wk_X9_sail_c90 C hr hk v0 y2 s0 (v0.1 21) h
def wp_X9_sail_c48  (Q : Vl → Prop) (v0 : Vl) (y1 : Int32) (y2 : Int32) (s0 : Int32) : Prop := wp_X9_pace v0 y1 (fun r_1 => ((s0 ≤ r_1 → wp_X9_sail_c67  Q v0 y2 s0) ∧ (¬ s0 ≤ r_1 → wp_X9_pace v0 y1 (fun r_11 => wp_X9_sail_c67  Q v0 y2 r_11))))
set_option maxHeartbeats 4000000 in
set_option maxRecDepth 100000 in
theorem wk_X9_sail_c48 {p : Program} {l : Launch} {e : Env} {s : State} {m : MethodId} {args : Array Value} {below : List Frame} {meth : Method} {c : Code} {D : GG} {A : Nat → Prop} {cI cJ cZ cS : ClassId} {a0 : Nat} {r0 : Nat → Nat}  {Q : Vl → Prop} (C : Cx p s m args c D (tyL cI cJ cZ cS) A RX9 cX9_sail 6) (hr : meth.sig.returnType = none) (hk : meth.locks = false) : ∀ (v0 : Vl) (y1 : Int32) (y2 : Int32) (s0 : Int32), wp_X9_sail_c48  Q v0 y1 y2 s0 → J p l e (rmk 1 23) s m args below meth c D A 6 0 0 (MQ below (va_Qv (fun (u : Vl) => Q u) (fun u t => va_P D.1 vwCl ((fun (u : Vl) => List.flatten [bX9 cI cJ cZ a0 r0 u]) u) t.heap ∧ va_D A ((fun (u : Vl) => List.flatten [bX9 cI cJ cZ a0 r0 u]) u)) A) args s 0 0 A) 48 [(0, .ref a0), (1, .int y1), (2, .int y2)] [.int s0] (List.flatten [bX9 cI cJ cZ a0 r0 v0]) := by
  intro v0 y1 y2 s0 h
  refine J_istore_n C 49 [(3, .int s0), (0, .ref a0), (1, .int y1), (2, .int y2)] dX9_sail_48 rfl (by decide) rfl ?_
  refine J_aload_n C 50 dX9_sail_49 rfl rfl ?_
  refine J_iload_n C 51 dX9_sail_50 rfl rfl ?_
  refine J_callBiV (Bs := [bX9 cI cJ cZ a0 r0 v0]) (As := [.int y1]) C 54 (c_X9_pace l D cI cJ cZ cS a0 r0 v0 y1 _ h) wd695 wd692 wd5 wd693 wd694 9 0 rfl rfl rfl hdX9_pace ⟨Nat.le_of_ble_eq_true rfl, Nat.le_of_ble_eq_true rfl⟩ ⟨Nat.zero_le _, Nat.zero_le _⟩ rfl (Nat.le_of_ble_eq_true rfl) [0] [] 1 rfl (by decide +kernel) rfl rfl (fun (u : Unit) => [bX9 cI cJ cZ a0 r0 v0]) (fun _ => rfl) [0] (by decide +kernel) (fun _ => rfl) rfl (fun (u : Unit) => [bX9 cI cJ cZ a0 r0 v0]) (fun _ => rfl) dX9_sail_51 rfl (fun r_1 u h => ?_)
  refine J_iload_n C 55 dX9_sail_54 rfl rfl ?_
  refine J_icmp_ge C 58 66 dX9_sail_55 rfl rfl (fun c => ?_) (fun c => ?_)
  · have h := h.1 c
    refine J_iload_n C 67 dX9_sail_66 rfl rfl ?_
    refine J_loc [1, 3] rfl ?_
    exact wk_X9_sail_c67 C hr hk v0 y2 s0 h
  · have h := h.2 c
    refine J_aload_n C 59 dX9_sail_58 rfl rfl ?_
    refine J_iload_n C 60 dX9_sail_59 rfl rfl ?_
    refine J_callBiV (Bs := [bX9 cI cJ cZ a0 r0 v0]) (As := [.int y1]) C 63 (c_X9_pace l D cI cJ cZ cS a0 r0 v0 y1 _ h) wd695 wd692 wd5 wd693 wd694 9 0 rfl rfl rfl hdX9_pace ⟨Nat.le_of_ble_eq_true rfl, Nat.le_of_ble_eq_true rfl⟩ ⟨Nat.zero_le _, Nat.zero_le _⟩ rfl (Nat.le_of_ble_eq_true rfl) [0] [] 1 rfl (by decide +kernel) rfl rfl (fun (u : Unit) => [bX9 cI cJ cZ a0 r0 v0]) (fun _ => rfl) [0] (by decide +kernel) (fun _ => rfl) rfl (fun (u : Unit) => [bX9 cI cJ cZ a0 r0 v0]) (fun _ => rfl) dX9_sail_60 rfl (fun r_11 u h => ?_)
    refine J_goto C 67 dX9_sail_63 rfl ?_
    refine J_loc [1, 3] rfl ?_
    exact wk_X9_sail_c67 C hr hk v0 y2 r_11 h
def wp_X9_sail_c24  (Q : Vl → Prop) (v0 : Vl) (y1 : Int32) (s0 : Int32) : Prop := ((s0 ≤ (v0.1 21) → wp_X9_sail_c48  Q v0 y1 s0 ((v0.1 21) - s0)) ∧ (¬ s0 ≤ (v0.1 21) → wp_X9_sail_c48  Q v0 y1 s0 (s0 - (v0.1 21))))
set_option maxHeartbeats 4000000 in
set_option maxRecDepth 100000 in
theorem wk_X9_sail_c24 {p : Program} {l : Launch} {e : Env} {s : State} {m : MethodId} {args : Array Value} {below : List Frame} {meth : Method} {c : Code} {D : GG} {A : Nat → Prop} {cI cJ cZ cS : ClassId} {a0 : Nat} {r0 : Nat → Nat}  {Q : Vl → Prop} (C : Cx p s m args c D (tyL cI cJ cZ cS) A RX9 cX9_sail 6) (hr : meth.sig.returnType = none) (hk : meth.locks = false) : ∀ (v0 : Vl) (y1 : Int32) (s0 : Int32), wp_X9_sail_c24  Q v0 y1 s0 → J p l e (rmk 1 23) s m args below meth c D A 6 0 0 (MQ below (va_Qv (fun (u : Vl) => Q u) (fun u t => va_P D.1 vwCl ((fun (u : Vl) => List.flatten [bX9 cI cJ cZ a0 r0 u]) u) t.heap ∧ va_D A ((fun (u : Vl) => List.flatten [bX9 cI cJ cZ a0 r0 u]) u)) A) args s 0 0 A) 24 [(0, .ref a0), (1, .int y1)] [.int s0] (List.flatten [bX9 cI cJ cZ a0 r0 v0]) := by
  intro v0 y1 s0 h
  refine J_istore_n C 25 [(2, .int s0), (0, .ref a0), (1, .int y1)] dX9_sail_24 rfl (by decide) rfl ?_
  refine J_iload_n C 26 dX9_sail_25 rfl rfl ?_
  refine J_aload_n C 27 dX9_sail_26 rfl rfl ?_
  refine J_get C 30 9 inlX9 0 21 rfl rfl (by decide) wd196 rfl rfl dX9_sail_27 rfl ?_
  refine J_icmp_le C 33 42 dX9_sail_30 rfl rfl (fun c => ?_) (fun c => ?_)
  · have h := h.1 c
    refine J_aload_n C 43 dX9_sail_42 rfl rfl ?_
    refine J_get C 46 9 inlX9 0 21 rfl rfl (by decide) wd196 rfl rfl dX9_sail_43 rfl ?_
    refine J_iload_n C 47 dX9_sail_46 rfl rfl ?_
    refine J_isub C 48 dX9_sail_47 rfl ?_
    refine J_loc [1, 2, 0] rfl ?_
    exact wk_X9_sail_c48 C hr hk v0 y1 s0 ((v0.1 21) - s0) h
  · have h := h.2 c
    refine J_iload_n C 34 dX9_sail_33 rfl rfl ?_
    refine J_aload_n C 35 dX9_sail_34 rfl rfl ?_
    refine J_get C 38 9 inlX9 0 21 rfl rfl (by decide) wd196 rfl rfl dX9_sail_35 rfl ?_
    refine J_isub C 39 dX9_sail_38 rfl ?_
    refine J_goto C 48 dX9_sail_39 rfl ?_
    refine J_loc [1, 2, 0] rfl ?_
    exact wk_X9_sail_c48 C hr hk v0 y1 s0 (s0 - (v0.1 21)) h
def wp_X9_sail (v0 : Vl) (x1 : Int32) (Q : Vl → Prop) : Prop := ((0 ≤ (v0.1 23) → vp_in ((5 * (v0.1 23)) + 1) 45 ∧ (wp_X9_sail_c24  Q v0 x1 (v0.2.2.1 1 (Int32.toNatClampNeg ((5 * (v0.1 23)) + 1))))) ∧ (¬ 0 ≤ (v0.1 23) → wp_X9_sail_c24  Q v0 x1 0))
set_option maxHeartbeats 4000000 in
set_option maxRecDepth 100000 in
theorem c_X9_sail (l : Launch) (D : GG) (cI cJ cZ cS : ClassId) (a0 : Nat) (r0 : Nat → Nat) (v0 : Vl) (x1 : Int32) (Q : Vl → Prop) (h : wp_X9_sail v0 x1 Q) : Mv l D (tyL cI cJ cZ cS) yX9_sail cX9_sail 6 1 23 [.ref a0, .int x1] (List.flatten [bX9 cI cJ cZ a0 r0 v0]) (fun (u : Vl) => Q u) (fun (u : Vl) => List.flatten [bX9 cI cJ cZ a0 r0 u]) := by
  refine Mv_of RX9 [(0, .ref a0), (1, .int x1)] (by decide +kernel) rfl rfl (Nat.le_of_ble_eq_true rfl) ?_
  intro p e s m args below meth c A C hr hk
  refine J_aload_n C 1 dX9_sail_0 rfl rfl ?_
  refine J_get C 4 9 inlX9 0 23 rfl rfl (by decide) wd166 rfl rfl dX9_sail_1 rfl ?_
  refine J_if_ge C 7 11 dX9_sail_4 rfl rfl (fun c => ?_) (fun c => ?_)
  · have h := h.1 c
    refine J_aload_n C 12 dX9_sail_11 rfl rfl ?_
    refine J_get C 15 9 inlX9 0 1 rfl rfl (by decide) wd152 rfl rfl dX9_sail_12 rfl ?_
    refine J_iconst C 16 dX9_sail_15 rfl ki_5 ?_
    refine J_aload_n C 17 dX9_sail_16 rfl rfl ?_
    refine J_get C 20 9 inlX9 0 23 rfl rfl (by decide) wd166 rfl rfl dX9_sail_17 rfl ?_
    refine J_imul C 21 dX9_sail_20 rfl ?_
    refine J_iconst C 22 dX9_sail_21 rfl ki_1 ?_
    refine J_iadd C 23 dX9_sail_22 rfl ?_
    obtain ⟨hi, h⟩ := h
    refine J_iald C 24 1 0 rfl rfl hi dX9_sail_23 rfl ?_
    refine J_loc [0, 1] rfl ?_
    exact wk_X9_sail_c24 C hr hk v0 x1 (v0.2.2.1 1 (Int32.toNatClampNeg ((5 * (v0.1 23)) + 1))) h
  · have h := h.2 c
    refine J_iconst C 8 dX9_sail_7 rfl ki_0 ?_
    refine J_goto C 24 dX9_sail_8 rfl ?_
    refine J_loc [0, 1] rfl ?_
    exact wk_X9_sail_c24 C hr hk v0 x1 0 h
def wp_X9_dayOf_c76  (Q : Vl → Prop) : Nat → Vl → Int32 → Int32 → Prop
  | 0 => fun _ _ _ => False
  | n + 1 => fun v0 y1 y2 => (((v0.1 0) ≤ y2 → ∀ v0s_7 : Vl, v0s_7 = setI v0 27 y1 → ∀ v0s_8 : Vl, v0s_8 = setI v0s_7 24 ((v0s_7.1 24) + 1) → Q v0s_8) ∧ (¬ (v0.1 0) ≤ y2 → wp_X9_burn v0 y2 y1 (fun u_9 => ∀ x_10 : Int32, x_10 = y2 + 1 → wp_X9_dayOf_c76  Q n u_9 y1 x_10)))
set_option maxHeartbeats 4000000 in
set_option maxRecDepth 100000 in
theorem wk_X9_dayOf_c76 {p : Program} {l : Launch} {e : Env} {s : State} {m : MethodId} {args : Array Value} {below : List Frame} {meth : Method} {c : Code} {D : GG} {A : Nat → Prop} {cI cJ cZ cS : ClassId} {a0 : Nat} {r0 : Nat → Nat}  {Q : Vl → Prop} (C : Cx p s m args c D (tyL cI cJ cZ cS) A RX9 cX9_dayOf 3) (hr : meth.sig.returnType = none) (hk : meth.locks = false) : ∀ (n : Nat) (v0 : Vl) (y1 : Int32) (y2 : Int32), wp_X9_dayOf_c76  Q n v0 y1 y2 → J p l e (rmk 2 51) s m args below meth c D A 3 0 0 (MQ below (va_Qv (fun (u : Vl) => Q u) (fun u t => va_P D.1 vwCl ((fun (u : Vl) => List.flatten [bX9 cI cJ cZ a0 r0 u]) u) t.heap ∧ va_D A ((fun (u : Vl) => List.flatten [bX9 cI cJ cZ a0 r0 u]) u)) A) args s 0 0 A) 76 [(0, .ref a0), (1, .int y1), (2, .int y2)] [] (List.flatten [bX9 cI cJ cZ a0 r0 v0]) := by
  intro n
  induction n with
  | zero =>
    intro v0 y1 y2 h
    exact False.elim h
  | succ n ih =>
    intro v0 y1 y2 h
    refine J_iload_n C 77 dX9_dayOf_76 rfl rfl ?_
    refine J_aload_n C 78 dX9_dayOf_77 rfl rfl ?_
    refine J_get C 81 9 inlX9 0 0 rfl rfl (by decide) wd191 rfl rfl dX9_dayOf_78 rfl ?_
    refine J_icmp_ge C 84 96 dX9_dayOf_81 rfl rfl (fun c => ?_) (fun c => ?_)
    · have h := h.1 c
      refine J_aload_n C 97 dX9_dayOf_96 rfl rfl ?_
      refine J_iload_n C 98 dX9_dayOf_97 rfl rfl ?_
      obtain ⟨v0s_7, ev0s_7⟩ : ∃ z : Vl, z = setI v0 27 y1 := ⟨_, rfl⟩
      have h := h v0s_7 ev0s_7
      refine J_put C 101 9 inlX9 tyX9 tyX9_ok nmX9 0 27 rfl rfl (by decide) wd201 rfl rfl rfl rfl rfl (List.flatten [bX9 cI cJ cZ a0 r0 v0s_7]) (by subst ev0s_7; rfl) dX9_dayOf_98 rfl ?_
      refine J_aload_n C 102 dX9_dayOf_101 rfl rfl ?_
      refine J_dup C 103 dX9_dayOf_102 rfl rfl ?_
      refine J_get C 106 9 inlX9 0 24 rfl rfl (by decide) wd198 rfl rfl dX9_dayOf_103 rfl ?_
      refine J_iconst C 107 dX9_dayOf_106 rfl ki_1 ?_
      refine J_iadd C 108 dX9_dayOf_107 rfl ?_
      obtain ⟨v0s_8, ev0s_8⟩ : ∃ z : Vl, z = setI v0s_7 24 ((v0s_7.1 24) + 1) := ⟨_, rfl⟩
      have h := h v0s_8 ev0s_8
      refine J_put C 111 9 inlX9 tyX9 tyX9_ok nmX9 0 24 rfl rfl (by decide) wd198 rfl rfl rfl rfl rfl (List.flatten [bX9 cI cJ cZ a0 r0 v0s_8]) (by subst ev0s_8; rfl) dX9_dayOf_108 rfl ?_
      exact J_vret C hr hk v0s_8 rfl dX9_dayOf_111 h
    · have h := h.2 c
      refine J_aload_n C 85 dX9_dayOf_84 rfl rfl ?_
      refine J_iload_n C 86 dX9_dayOf_85 rfl rfl ?_
      refine J_iload_n C 87 dX9_dayOf_86 rfl rfl ?_
      refine J_callBvV (Bs := [bX9 cI cJ cZ a0 r0 v0]) (As := [.int y2, .int y1]) C 90 (c_X9_burn l D cI cJ cZ cS a0 r0 v0 y2 y1 _ h) wd702 wd699 wd5 wd700 wd701 9 0 rfl rfl rfl hdX9_burn ⟨Nat.le_of_ble_eq_true rfl, Nat.le_of_ble_eq_true rfl⟩ ⟨Nat.zero_le _, Nat.zero_le _⟩ rfl (Nat.le_of_ble_eq_true rfl) [0] [] 1 rfl (by decide +kernel) rfl rfl (fun (u : Vl) => [bX9 cI cJ cZ a0 r0 u]) (fun _ => rfl) [0] (by decide +kernel) (fun _ => rfl) rfl (fun (u : Vl) => [bX9 cI cJ cZ a0 r0 u]) (fun _ => rfl) dX9_dayOf_87 rfl (fun u h => ?_)
      obtain ⟨u_9, hu⟩ : ∃ z, z = u := ⟨_, rfl⟩
      subst hu
      obtain ⟨x_10, ex_10⟩ : ∃ z : Int32, z = y2 + 1 := ⟨_, rfl⟩
      have h := h x_10 ex_10
      refine J_iinc C 93 [(2, .int x_10), (0, .ref a0), (1, .int y1)] dX9_dayOf_90 rfl rfl ((kinc_1 _).trans ex_10.symm) (by decide) rfl ?_
      refine J_goto C 76 dX9_dayOf_93 rfl ?_
      refine J_loc [1, 2, 0] rfl ?_
      exact ih u_9 y1 x_10 h
def wp_X9_dayOf (v0 : Vl) (x1 : Int32) (Q : Vl → Prop) : Prop := ∀ v0s_1 : Vl, v0s_1 = setI v0 18 ((v0.1 18) + (v0.1 5)) → ¬ (v0s_1.1 6) = 0 ∧ (∀ v0s_2 : Vl, v0s_2 = setJ v0s_1 17 ((v0s_1.2.1 17) + (Int32.toInt64 ((v0s_1.1 18) / (v0s_1.1 6)))) → ¬ (v0s_2.1 6) = 0 ∧ (∀ v0s_3 : Vl, v0s_3 = setJ v0s_2 20 ((v0s_2.2.1 20) + (Int32.toInt64 ((v0s_2.1 18) / (v0s_2.1 6)))) → ¬ (v0s_3.1 6) = 0 ∧ (∀ v0s_4 : Vl, v0s_4 = setI v0s_3 18 ((v0s_3.1 18) - (v0s_3.1 18) / (v0s_3.1 6) * (v0s_3.1 6)) → wp_X9_sail v0s_4 x1 (fun u_5 => ∀ v0s_6 : Vl, v0s_6 = setI u_5 28 0 → (∃ k : Nat, wp_X9_dayOf_c76  Q k v0s_6 x1 0)))))
set_option maxHeartbeats 4000000 in
set_option maxRecDepth 100000 in
theorem c_X9_dayOf (l : Launch) (D : GG) (cI cJ cZ cS : ClassId) (a0 : Nat) (r0 : Nat → Nat) (v0 : Vl) (x1 : Int32) (Q : Vl → Prop) (h : wp_X9_dayOf v0 x1 Q) : Mv l D (tyL cI cJ cZ cS) yX9_dayOf cX9_dayOf 3 2 51 [.ref a0, .int x1] (List.flatten [bX9 cI cJ cZ a0 r0 v0]) (fun (u : Vl) => Q u) (fun (u : Vl) => List.flatten [bX9 cI cJ cZ a0 r0 u]) := by
  refine Mv_of RX9 [(0, .ref a0), (1, .int x1)] (by decide +kernel) rfl rfl (Nat.le_of_ble_eq_true rfl) ?_
  intro p e s m args below meth c A C hr hk
  refine J_aload_n C 1 dX9_dayOf_0 rfl rfl ?_
  refine J_dup C 2 dX9_dayOf_1 rfl rfl ?_
  refine J_get C 5 9 inlX9 0 18 rfl rfl (by decide) wd193 rfl rfl dX9_dayOf_2 rfl ?_
  refine J_aload_n C 6 dX9_dayOf_5 rfl rfl ?_
  refine J_get C 9 9 inlX9 0 5 rfl rfl (by decide) wd472 rfl rfl dX9_dayOf_6 rfl ?_
  refine J_iadd C 10 dX9_dayOf_9 rfl ?_
  obtain ⟨v0s_1, ev0s_1⟩ : ∃ z : Vl, z = setI v0 18 ((v0.1 18) + (v0.1 5)) := ⟨_, rfl⟩
  have h := h v0s_1 ev0s_1
  refine J_put C 13 9 inlX9 tyX9 tyX9_ok nmX9 0 18 rfl rfl (by decide) wd193 rfl rfl rfl rfl rfl (List.flatten [bX9 cI cJ cZ a0 r0 v0s_1]) (by subst ev0s_1; rfl) dX9_dayOf_10 rfl ?_
  refine J_aload_n C 14 dX9_dayOf_13 rfl rfl ?_
  refine J_dup C 15 dX9_dayOf_14 rfl rfl ?_
  refine J_get C 18 9 inlX9 0 17 rfl rfl (by decide) wd192 rfl rfl dX9_dayOf_15 rfl ?_
  refine J_aload_n C 19 dX9_dayOf_18 rfl rfl ?_
  refine J_get C 22 9 inlX9 0 18 rfl rfl (by decide) wd193 rfl rfl dX9_dayOf_19 rfl ?_
  refine J_aload_n C 23 dX9_dayOf_22 rfl rfl ?_
  refine J_get C 26 9 inlX9 0 6 rfl rfl (by decide) wd156 rfl rfl dX9_dayOf_23 rfl ?_
  obtain ⟨hne, h⟩ := h
  refine J_idiv C 27 dX9_dayOf_26 rfl hne ?_
  refine J_i2l C 28 dX9_dayOf_27 rfl ?_
  refine J_ladd C 29 dX9_dayOf_28 rfl ?_
  obtain ⟨v0s_2, ev0s_2⟩ : ∃ z : Vl, z = setJ v0s_1 17 ((v0s_1.2.1 17) + (Int32.toInt64 ((v0s_1.1 18) / (v0s_1.1 6)))) := ⟨_, rfl⟩
  have h := h v0s_2 ev0s_2
  refine J_put C 32 9 inlX9 tyX9 tyX9_ok nmX9 0 17 rfl rfl (by decide) wd192 rfl rfl rfl rfl rfl (List.flatten [bX9 cI cJ cZ a0 r0 v0s_2]) (by subst ev0s_2; rfl) dX9_dayOf_29 rfl ?_
  refine J_aload_n C 33 dX9_dayOf_32 rfl rfl ?_
  refine J_dup C 34 dX9_dayOf_33 rfl rfl ?_
  refine J_get C 37 9 inlX9 0 20 rfl rfl (by decide) wd195 rfl rfl dX9_dayOf_34 rfl ?_
  refine J_aload_n C 38 dX9_dayOf_37 rfl rfl ?_
  refine J_get C 41 9 inlX9 0 18 rfl rfl (by decide) wd193 rfl rfl dX9_dayOf_38 rfl ?_
  refine J_aload_n C 42 dX9_dayOf_41 rfl rfl ?_
  refine J_get C 45 9 inlX9 0 6 rfl rfl (by decide) wd156 rfl rfl dX9_dayOf_42 rfl ?_
  obtain ⟨hne, h⟩ := h
  refine J_idiv C 46 dX9_dayOf_45 rfl hne ?_
  refine J_i2l C 47 dX9_dayOf_46 rfl ?_
  refine J_ladd C 48 dX9_dayOf_47 rfl ?_
  obtain ⟨v0s_3, ev0s_3⟩ : ∃ z : Vl, z = setJ v0s_2 20 ((v0s_2.2.1 20) + (Int32.toInt64 ((v0s_2.1 18) / (v0s_2.1 6)))) := ⟨_, rfl⟩
  have h := h v0s_3 ev0s_3
  refine J_put C 51 9 inlX9 tyX9 tyX9_ok nmX9 0 20 rfl rfl (by decide) wd195 rfl rfl rfl rfl rfl (List.flatten [bX9 cI cJ cZ a0 r0 v0s_3]) (by subst ev0s_3; rfl) dX9_dayOf_48 rfl ?_
  refine J_aload_n C 52 dX9_dayOf_51 rfl rfl ?_
  refine J_dup C 53 dX9_dayOf_52 rfl rfl ?_
  refine J_get C 56 9 inlX9 0 18 rfl rfl (by decide) wd193 rfl rfl dX9_dayOf_53 rfl ?_
  refine J_aload_n C 57 dX9_dayOf_56 rfl rfl ?_
  refine J_get C 60 9 inlX9 0 6 rfl rfl (by decide) wd156 rfl rfl dX9_dayOf_57 rfl ?_
  obtain ⟨hne, h⟩ := h
  refine J_irem C 61 dX9_dayOf_60 rfl hne ?_
  obtain ⟨v0s_4, ev0s_4⟩ : ∃ z : Vl, z = setI v0s_3 18 ((v0s_3.1 18) - (v0s_3.1 18) / (v0s_3.1 6) * (v0s_3.1 6)) := ⟨_, rfl⟩
  have h := h v0s_4 ev0s_4
  refine J_put C 64 9 inlX9 tyX9 tyX9_ok nmX9 0 18 rfl rfl (by decide) wd193 rfl rfl rfl rfl rfl (List.flatten [bX9 cI cJ cZ a0 r0 v0s_4]) (by subst ev0s_4; rfl) dX9_dayOf_61 rfl ?_
  refine J_aload_n C 65 dX9_dayOf_64 rfl rfl ?_
  refine J_iload_n C 66 dX9_dayOf_65 rfl rfl ?_
  refine J_callBvV (Bs := [bX9 cI cJ cZ a0 r0 v0s_4]) (As := [.int x1]) C 69 (c_X9_sail l D cI cJ cZ cS a0 r0 v0s_4 x1 _ h) wd691 wd688 wd5 wd689 wd690 9 0 rfl rfl rfl hdX9_sail ⟨Nat.le_of_ble_eq_true rfl, Nat.le_of_ble_eq_true rfl⟩ ⟨Nat.zero_le _, Nat.zero_le _⟩ rfl (Nat.le_of_ble_eq_true rfl) [0] [] 1 rfl (by decide +kernel) rfl rfl (fun (u : Vl) => [bX9 cI cJ cZ a0 r0 u]) (fun _ => rfl) [0] (by decide +kernel) (fun _ => rfl) rfl (fun (u : Vl) => [bX9 cI cJ cZ a0 r0 u]) (fun _ => rfl) dX9_dayOf_66 rfl (fun u h => ?_)
  obtain ⟨u_5, hu⟩ : ∃ z, z = u := ⟨_, rfl⟩
  subst hu
  refine J_aload_n C 70 dX9_dayOf_69 rfl rfl ?_
  refine J_iconst C 71 dX9_dayOf_70 rfl ki_0 ?_
  obtain ⟨v0s_6, ev0s_6⟩ : ∃ z : Vl, z = setI u_5 28 0 := ⟨_, rfl⟩
  have h := h v0s_6 ev0s_6
  refine J_put C 74 9 inlX9 tyX9 tyX9_ok nmX9 0 28 rfl rfl (by decide) wd202 rfl rfl rfl rfl rfl (List.flatten [bX9 cI cJ cZ a0 r0 v0s_6]) (by subst ev0s_6; rfl) dX9_dayOf_71 rfl ?_
  refine J_iconst C 75 dX9_dayOf_74 rfl ki_0 ?_
  refine J_istore_n C 76 [(2, .int 0), (0, .ref a0), (1, .int x1)] dX9_dayOf_75 rfl (by decide) rfl ?_
  refine J_loc [1, 2, 0] rfl ?_
  obtain ⟨n1, h⟩ := h
  exact wk_X9_dayOf_c76 C hr hk n1 v0s_6 x1 0 h
def wp_X9_isDays  (x0 : Int32) (Q : Int32 → Prop) : Prop := wp_X9_in (Int32.toInt64 x0) 1 200 (fun r_1 => narrow .boolean (.int r_1) = .int r_1 ∧ Q r_1)
set_option maxHeartbeats 4000000 in
set_option maxRecDepth 100000 in
theorem c_X9_isDays (l : Launch) (D : GG) (cI cJ cZ cS : ClassId)  (x0 : Int32) (Q : Int32 → Prop) (h : wp_X9_isDays x0 Q) : Mi l D (tyL cI cJ cZ cS) yX9_isDays cX9_isDays 1 .boolean 1 25 [.int x0] (List.flatten ([] : List va_W)) (fun (r : Int32) (u : Unit) => Q r) (fun (u : Unit) => List.flatten ([] : List va_W)) := by
  refine Mi_of RX9 [(0, .int x0)] (by decide +kernel) rfl rfl (Nat.le_of_ble_eq_true rfl) ?_
  intro p e s m args below meth c A C hr hk
  refine J_iload_n C 1 dX9_isDays_0 rfl rfl ?_
  refine J_i2l C 2 dX9_isDays_1 rfl ?_
  refine J_lconst C 3 dX9_isDays_2 rfl kl_1 ?_
  refine J_ldc2 C 6 wd683 dX9_isDays_3 rfl ?_
  refine J_callBiS (Bs := ([] : List va_W)) (As := [.long (Int32.toInt64 x0), .long 1, .long 200]) C 9 (c_X9_in l D cI cJ cZ cS (Int32.toInt64 x0) 1 200 _ h) wd225 wd223 wd5 wd224 hdX9_in ⟨Nat.le_of_ble_eq_true rfl, Nat.le_of_ble_eq_true rfl⟩ ⟨Nat.zero_le _, Nat.zero_le _⟩ rfl (Nat.le_of_ble_eq_true rfl) [] [] 0 rfl (by decide +kernel) rfl rfl (fun (u : Unit) => ([] : List va_W)) (fun _ => rfl) [] (by decide +kernel) (fun _ => rfl) rfl (fun (u : Unit) => ([] : List va_W)) (fun _ => rfl) dX9_isDays_6 rfl (fun r_1 u h => ?_)
  obtain ⟨hz, h⟩ := h
  exact J_zret C hr hk hz () rfl dX9_isDays_9 h
def wp_X9_go_c12  (Q : Int32 → Vl → Prop) : Nat → Vl → Int32 → Int32 → Prop
  | 0 => fun _ _ _ => False
  | n + 1 => fun v0 y1 y2 => ((y1 ≤ y2 → Q (v0.1 28) v0) ∧ (¬ y1 ≤ y2 → wp_X9_skyOf v0 (v0.1 24) (fun r_2 => wp_X9_dayOf v0 r_2 (fun u_3 => ∀ x_4 : Int32, x_4 = y2 + 1 → wp_X9_go_c12  Q n u_3 y1 x_4))))
set_option maxHeartbeats 4000000 in
set_option maxRecDepth 100000 in
theorem wk_X9_go_c12 {p : Program} {l : Launch} {e : Env} {s : State} {m : MethodId} {args : Array Value} {below : List Frame} {meth : Method} {c : Code} {D : GG} {A : Nat → Prop} {cI cJ cZ cS : ClassId} {a0 : Nat} {r0 : Nat → Nat}  {Q : Int32 → Vl → Prop} (C : Cx p s m args c D (tyL cI cJ cZ cS) A RX9 cX9_go 3) (hr : meth.sig.returnType = some .int) (hk : meth.locks = false) : ∀ (n : Nat) (v0 : Vl) (y1 : Int32) (y2 : Int32), wp_X9_go_c12  Q n v0 y1 y2 → J p l e (rmk 3 73) s m args below meth c D A 3 0 0 (MQ below (va_Qi (fun (r : Int32) (u : Vl) => Q r u) (fun u t => va_P D.1 vwCl ((fun (u : Vl) => List.flatten [bX9 cI cJ cZ a0 r0 u]) u) t.heap ∧ va_D A ((fun (u : Vl) => List.flatten [bX9 cI cJ cZ a0 r0 u]) u)) A) args s 0 0 A) 12 [(0, .ref a0), (1, .int y1), (2, .int y2)] [] (List.flatten [bX9 cI cJ cZ a0 r0 v0]) := by
  intro n
  induction n with
  | zero =>
    intro v0 y1 y2 h
    exact False.elim h
  | succ n ih =>
    intro v0 y1 y2 h
    refine J_iload_n C 13 dX9_go_12 rfl rfl ?_
    refine J_iload_n C 14 dX9_go_13 rfl rfl ?_
    refine J_icmp_ge C 17 35 dX9_go_14 rfl rfl (fun c => ?_) (fun c => ?_)
    · have h := h.1 c
      refine J_aload_n C 36 dX9_go_35 rfl rfl ?_
      refine J_get C 39 9 inlX9 0 28 rfl rfl (by decide) wd202 rfl rfl dX9_go_36 rfl ?_
      exact J_iret C hr hk v0 rfl dX9_go_39 h
    · have h := h.2 c
      refine J_aload_n C 18 dX9_go_17 rfl rfl ?_
      refine J_aload_n C 19 dX9_go_18 rfl rfl ?_
      refine J_aload_n C 20 dX9_go_19 rfl rfl ?_
      refine J_get C 23 9 inlX9 0 24 rfl rfl (by decide) wd198 rfl rfl dX9_go_20 rfl ?_
      refine J_callBiV (Bs := [bX9 cI cJ cZ a0 r0 v0]) (As := [.int (v0.1 24)]) C 26 (c_X9_skyOf l D cI cJ cZ cS a0 r0 v0 (v0.1 24) _ h) wd569 wd566 wd5 wd567 wd568 9 0 rfl rfl rfl hdX9_skyOf ⟨Nat.le_of_ble_eq_true rfl, Nat.le_of_ble_eq_true rfl⟩ ⟨Nat.zero_le _, Nat.zero_le _⟩ rfl (Nat.le_of_ble_eq_true rfl) [0] [] 1 rfl (by decide +kernel) rfl rfl (fun (u : Unit) => [bX9 cI cJ cZ a0 r0 v0]) (fun _ => rfl) [0] (by decide +kernel) (fun _ => rfl) rfl (fun (u : Unit) => [bX9 cI cJ cZ a0 r0 v0]) (fun _ => rfl) dX9_go_23 rfl (fun r_2 u h => ?_)
      refine J_callBvV (Bs := [bX9 cI cJ cZ a0 r0 v0]) (As := [.int r_2]) C 29 (c_X9_dayOf l D cI cJ cZ cS a0 r0 v0 r_2 _ h) wd687 wd684 wd5 wd685 wd686 9 0 rfl rfl rfl hdX9_dayOf ⟨Nat.le_of_ble_eq_true rfl, Nat.le_of_ble_eq_true rfl⟩ ⟨Nat.zero_le _, Nat.zero_le _⟩ rfl (Nat.le_of_ble_eq_true rfl) [0] [] 1 rfl (by decide +kernel) rfl rfl (fun (u : Vl) => [bX9 cI cJ cZ a0 r0 u]) (fun _ => rfl) [0] (by decide +kernel) (fun _ => rfl) rfl (fun (u : Vl) => [bX9 cI cJ cZ a0 r0 u]) (fun _ => rfl) dX9_go_26 rfl (fun u h => ?_)
      obtain ⟨u_3, hu⟩ : ∃ z, z = u := ⟨_, rfl⟩
      subst hu
      obtain ⟨x_4, ex_4⟩ : ∃ z : Int32, z = y2 + 1 := ⟨_, rfl⟩
      have h := h x_4 ex_4
      refine J_iinc C 32 [(2, .int x_4), (0, .ref a0), (1, .int y1)] dX9_go_29 rfl rfl ((kinc_1 _).trans ex_4.symm) (by decide) rfl ?_
      refine J_goto C 12 dX9_go_32 rfl ?_
      refine J_loc [1, 2, 0] rfl ?_
      exact ih u_3 y1 x_4 h
def wp_X9_go (v0 : Vl) (x1 : Int32) (Q : Int32 → Vl → Prop) : Prop := wp_X9_isDays x1 (fun r_1 => ((¬ r_1 = 0 → (∃ k : Nat, wp_X9_go_c12  Q k v0 x1 0)) ∧ (r_1 = 0 → Q (-1000000002) v0)))
set_option maxHeartbeats 4000000 in
set_option maxRecDepth 100000 in
theorem c_X9_go (l : Launch) (D : GG) (cI cJ cZ cS : ClassId) (a0 : Nat) (r0 : Nat → Nat) (v0 : Vl) (x1 : Int32) (Q : Int32 → Vl → Prop) (h : wp_X9_go v0 x1 Q) : Mi l D (tyL cI cJ cZ cS) yX9_go cX9_go 3 .int 3 73 [.ref a0, .int x1] (List.flatten [bX9 cI cJ cZ a0 r0 v0]) (fun (r : Int32) (u : Vl) => Q r u) (fun (u : Vl) => List.flatten [bX9 cI cJ cZ a0 r0 u]) := by
  refine Mi_of RX9 [(0, .ref a0), (1, .int x1)] (by decide +kernel) rfl rfl (Nat.le_of_ble_eq_true rfl) ?_
  intro p e s m args below meth c A C hr hk
  refine J_iload_n C 1 dX9_go_0 rfl rfl ?_
  refine J_callBiS (Bs := [bX9 cI cJ cZ a0 r0 v0]) (As := [.int x1]) C 4 (c_X9_isDays l D cI cJ cZ cS x1 _ h) wd682 wd680 wd5 wd681 hdX9_isDays ⟨Nat.le_of_ble_eq_true rfl, Nat.le_of_ble_eq_true rfl⟩ ⟨Nat.zero_le _, Nat.zero_le _⟩ rfl (Nat.le_of_ble_eq_true rfl) [] [0] 1 rfl (by decide +kernel) rfl rfl (fun (u : Unit) => ([] : List va_W)) (fun _ => rfl) [0] (by decide +kernel) (fun _ => rfl) rfl (fun (u : Unit) => [bX9 cI cJ cZ a0 r0 v0]) (fun _ => rfl) dX9_go_1 rfl (fun r_1 u h => ?_)
  refine J_if_ne C 7 10 dX9_go_4 rfl rfl (fun c => ?_) (fun c => ?_)
  · have h := h.1 c
    refine J_iconst C 11 dX9_go_10 rfl ki_0 ?_
    refine J_istore_n C 12 [(2, .int 0), (0, .ref a0), (1, .int x1)] dX9_go_11 rfl (by decide) rfl ?_
    refine J_loc [1, 2, 0] rfl ?_
    obtain ⟨n1, h⟩ := h
    exact wk_X9_go_c12 C hr hk n1 v0 x1 0 h
  · have h := h.2 c
    refine J_ldc C 9 wd219 dX9_go_7 rfl ?_
    exact J_iret C hr hk v0 rfl dX9_go_9 h
def wp_X9_draw (v0 : Vl) (x1 : Int32) (Q : Int32 → Vl → Prop) : Prop := ∀ v0s_1 : Vl, v0s_1 = setI v0 30 (Int64.toInt32 ((((Int32.toInt64 (v0.1 30)) * 1103515245) + 12345) - (((Int32.toInt64 (v0.1 30)) * 1103515245) + 12345) / 2147483648 * 2147483648)) → ¬ x1 = 0 ∧ (Q (((v0s_1.1 30) / 65536) - ((v0s_1.1 30) / 65536) / x1 * x1) v0s_1)
set_option maxHeartbeats 4000000 in
set_option maxRecDepth 100000 in
theorem c_X9_draw (l : Launch) (D : GG) (cI cJ cZ cS : ClassId) (a0 : Nat) (r0 : Nat → Nat) (v0 : Vl) (x1 : Int32) (Q : Int32 → Vl → Prop) (h : wp_X9_draw v0 x1 Q) : Mi l D (tyL cI cJ cZ cS) yX9_draw cX9_draw 2 .int 0 0 [.ref a0, .int x1] (List.flatten [bX9 cI cJ cZ a0 r0 v0]) (fun (r : Int32) (u : Vl) => Q r u) (fun (u : Vl) => List.flatten [bX9 cI cJ cZ a0 r0 u]) := by
  refine Mi_of RX9 [(0, .ref a0), (1, .int x1)] (by decide +kernel) rfl rfl (Nat.le_of_ble_eq_true rfl) ?_
  intro p e s m args below meth c A C hr hk
  refine J_aload_n C 1 dX9_draw_0 rfl rfl ?_
  refine J_aload_n C 2 dX9_draw_1 rfl rfl ?_
  refine J_get C 5 9 inlX9 0 30 rfl rfl (by decide) wd740 rfl rfl dX9_draw_2 rfl ?_
  refine J_i2l C 6 dX9_draw_5 rfl ?_
  refine J_ldc2 C 9 wd741 dX9_draw_6 rfl ?_
  refine J_lmul C 10 dX9_draw_9 rfl ?_
  refine J_ldc2 C 13 wd742 dX9_draw_10 rfl ?_
  refine J_ladd C 14 dX9_draw_13 rfl ?_
  refine J_ldc2 C 17 wd743 dX9_draw_14 rfl ?_
  refine J_lrem C 18 dX9_draw_17 rfl (by decide) ?_
  refine J_l2i C 19 dX9_draw_18 rfl ?_
  obtain ⟨v0s_1, ev0s_1⟩ : ∃ z : Vl, z = setI v0 30 (Int64.toInt32 ((((Int32.toInt64 (v0.1 30)) * 1103515245) + 12345) - (((Int32.toInt64 (v0.1 30)) * 1103515245) + 12345) / 2147483648 * 2147483648)) := ⟨_, rfl⟩
  have h := h v0s_1 ev0s_1
  refine J_put C 22 9 inlX9 tyX9 tyX9_ok nmX9 0 30 rfl rfl (by decide) wd740 rfl rfl rfl rfl rfl (List.flatten [bX9 cI cJ cZ a0 r0 v0s_1]) (by subst ev0s_1; rfl) dX9_draw_19 rfl ?_
  refine J_aload_n C 23 dX9_draw_22 rfl rfl ?_
  refine J_get C 26 9 inlX9 0 30 rfl rfl (by decide) wd740 rfl rfl dX9_draw_23 rfl ?_
  refine J_ldcw C 29 wd744 dX9_draw_26 rfl ?_
  refine J_idiv C 30 dX9_draw_29 rfl (by decide) ?_
  refine J_iload_n C 31 dX9_draw_30 rfl rfl ?_
  obtain ⟨hne, h⟩ := h
  refine J_irem C 32 dX9_draw_31 rfl hne ?_
  exact J_iret C hr hk v0s_1 rfl dX9_draw_32 h
def wp_X9_drift_c74  (Q : Int32 → Vl → Prop) (B12 : Vl → Int32 → Int32 → Prop) (v0 : Vl) (y1 : Int32) (y2 : Int32) (s0 : Int32) : Prop := wp_X9_dayOf v0 s0 (fun u_5 => ∀ x_6 : Int32, x_6 = y2 + 1 → B12 u_5 y1 x_6)
set_option maxHeartbeats 4000000 in
set_option maxRecDepth 100000 in
theorem wk_X9_drift_c74 {p : Program} {l : Launch} {e : Env} {s : State} {m : MethodId} {args : Array Value} {below : List Frame} {meth : Method} {c : Code} {D : GG} {A : Nat → Prop} {cI cJ cZ cS : ClassId} {a0 : Nat} {r0 : Nat → Nat}  {B12 : Vl → Int32 → Int32 → Prop} {Q : Int32 → Vl → Prop} (C : Cx p s m args c D (tyL cI cJ cZ cS) A RX9 cX9_drift 5) (hr : meth.sig.returnType = some .int) (hk : meth.locks = false) (hB12 : ∀ (v0 : Vl) (y1 : Int32) (y2 : Int32), B12 v0 y1 y2 → J p l e (rmk 3 73) s m args below meth c D A 5 0 0 (MQ below (va_Qi (fun (r : Int32) (u : Vl) => Q r u) (fun u t => va_P D.1 vwCl ((fun (u : Vl) => List.flatten [bX9 cI cJ cZ a0 r0 u]) u) t.heap ∧ va_D A ((fun (u : Vl) => List.flatten [bX9 cI cJ cZ a0 r0 u]) u)) A) args s 0 0 A) 12 [(0, .ref a0), (1, .int y1), (2, .int y2)] [] (List.flatten [bX9 cI cJ cZ a0 r0 v0])) : ∀ (v0 : Vl) (y1 : Int32) (y2 : Int32) (s0 : Int32), wp_X9_drift_c74  Q B12 v0 y1 y2 s0 → J p l e (rmk 3 73) s m args below meth c D A 5 0 0 (MQ below (va_Qi (fun (r : Int32) (u : Vl) => Q r u) (fun u t => va_P D.1 vwCl ((fun (u : Vl) => List.flatten [bX9 cI cJ cZ a0 r0 u]) u) t.heap ∧ va_D A ((fun (u : Vl) => List.flatten [bX9 cI cJ cZ a0 r0 u]) u)) A) args s 0 0 A) 74 [(0, .ref a0), (1, .int y1), (2, .int y2)] [.int s0, .ref a0] (List.flatten [bX9 cI cJ cZ a0 r0 v0]) := by
  intro v0 y1 y2 s0 h
  refine J_callBvV (Bs := [bX9 cI cJ cZ a0 r0 v0]) (As := [.int s0]) C 77 (c_X9_dayOf l D cI cJ cZ cS a0 r0 v0 s0 _ h) wd687 wd684 wd5 wd685 wd686 9 0 rfl rfl rfl hdX9_dayOf ⟨Nat.le_of_ble_eq_true rfl, Nat.le_of_ble_eq_true rfl⟩ ⟨Nat.zero_le _, Nat.zero_le _⟩ rfl (Nat.le_of_ble_eq_true rfl) [0] [] 1 rfl (by decide +kernel) rfl rfl (fun (u : Vl) => [bX9 cI cJ cZ a0 r0 u]) (fun _ => rfl) [0] (by decide +kernel) (fun _ => rfl) rfl (fun (u : Vl) => [bX9 cI cJ cZ a0 r0 u]) (fun _ => rfl) dX9_drift_74 rfl (fun u h => ?_)
  obtain ⟨u_5, hu⟩ : ∃ z, z = u := ⟨_, rfl⟩
  subst hu
  obtain ⟨x_6, ex_6⟩ : ∃ z : Int32, z = y2 + 1 := ⟨_, rfl⟩
  have h := h x_6 ex_6
  refine J_iinc C 80 [(2, .int x_6), (0, .ref a0), (1, .int y1)] dX9_drift_77 rfl rfl ((kinc_1 _).trans ex_6.symm) (by decide) rfl ?_
  refine J_goto C 12 dX9_drift_80 rfl ?_
  refine J_loc [1, 2, 0] rfl ?_
  exact hB12 u_5 y1 x_6 h
def wp_X9_drift_c12  (Q : Int32 → Vl → Prop) : Nat → Vl → Int32 → Int32 → Prop
  | 0 => fun _ _ _ => False
  | n + 1 => fun v0 y1 y2 => ((y1 ≤ y2 → Q (v0.1 28) v0) ∧ (¬ y1 ≤ y2 → wp_X9_draw v0 100 (fun r_3 u_2 => ∀ x_4 : Int32, x_4 = (3 * (u_2.1 27)) → vp_in x_4 9 ∧ ((((u_2.2.2.1 9 (Int32.toNatClampNeg x_4)) ≤ r_3 → vp_in x_4 9 ∧ (vp_in (x_4 + 1) 9 ∧ (((((u_2.2.2.1 9 (Int32.toNatClampNeg x_4)) + (u_2.2.2.1 9 (Int32.toNatClampNeg (x_4 + 1)))) ≤ r_3 → wp_X9_drift_c74  Q (wp_X9_drift_c12  Q n) u_2 y1 y2 2) ∧ (¬ ((u_2.2.2.1 9 (Int32.toNatClampNeg x_4)) + (u_2.2.2.1 9 (Int32.toNatClampNeg (x_4 + 1)))) ≤ r_3 → wp_X9_drift_c74  Q (wp_X9_drift_c12  Q n) u_2 y1 y2 1))))) ∧ (¬ (u_2.2.2.1 9 (Int32.toNatClampNeg x_4)) ≤ r_3 → wp_X9_drift_c74  Q (wp_X9_drift_c12  Q n) u_2 y1 y2 0))))))
set_option maxHeartbeats 4000000 in
set_option maxRecDepth 100000 in
theorem wk_X9_drift_c12 {p : Program} {l : Launch} {e : Env} {s : State} {m : MethodId} {args : Array Value} {below : List Frame} {meth : Method} {c : Code} {D : GG} {A : Nat → Prop} {cI cJ cZ cS : ClassId} {a0 : Nat} {r0 : Nat → Nat}  {Q : Int32 → Vl → Prop} (C : Cx p s m args c D (tyL cI cJ cZ cS) A RX9 cX9_drift 5) (hr : meth.sig.returnType = some .int) (hk : meth.locks = false) : ∀ (n : Nat) (v0 : Vl) (y1 : Int32) (y2 : Int32), wp_X9_drift_c12  Q n v0 y1 y2 → J p l e (rmk 3 73) s m args below meth c D A 5 0 0 (MQ below (va_Qi (fun (r : Int32) (u : Vl) => Q r u) (fun u t => va_P D.1 vwCl ((fun (u : Vl) => List.flatten [bX9 cI cJ cZ a0 r0 u]) u) t.heap ∧ va_D A ((fun (u : Vl) => List.flatten [bX9 cI cJ cZ a0 r0 u]) u)) A) args s 0 0 A) 12 [(0, .ref a0), (1, .int y1), (2, .int y2)] [] (List.flatten [bX9 cI cJ cZ a0 r0 v0]) := by
  intro n
  induction n with
  | zero =>
    intro v0 y1 y2 h
    exact False.elim h
  | succ n ih =>
    intro v0 y1 y2 h
    refine J_iload_n C 13 dX9_drift_12 rfl rfl ?_
    refine J_iload_n C 14 dX9_drift_13 rfl rfl ?_
    refine J_icmp_ge C 17 83 dX9_drift_14 rfl rfl (fun c => ?_) (fun c => ?_)
    · have h := h.1 c
      refine J_aload_n C 84 dX9_drift_83 rfl rfl ?_
      refine J_get C 87 9 inlX9 0 28 rfl rfl (by decide) wd202 rfl rfl dX9_drift_84 rfl ?_
      exact J_iret C hr hk v0 rfl dX9_drift_87 h
    · have h := h.2 c
      refine J_aload_n C 18 dX9_drift_17 rfl rfl ?_
      refine J_bipush C 20 dX9_drift_18 rfl kb_100 ?_
      refine J_callBiV (Bs := [bX9 cI cJ cZ a0 r0 v0]) (As := [.int 100]) C 23 (c_X9_draw l D cI cJ cZ cS a0 r0 v0 100 _ h) wd739 wd736 wd5 wd737 wd738 9 0 rfl rfl rfl hdX9_draw ⟨Nat.le_of_ble_eq_true rfl, Nat.le_of_ble_eq_true rfl⟩ ⟨Nat.zero_le _, Nat.zero_le _⟩ rfl (Nat.le_of_ble_eq_true rfl) [0] [] 1 rfl (by decide +kernel) rfl rfl (fun (u : Vl) => [bX9 cI cJ cZ a0 r0 u]) (fun _ => rfl) [0] (by decide +kernel) (fun _ => rfl) rfl (fun (u : Vl) => [bX9 cI cJ cZ a0 r0 u]) (fun _ => rfl) dX9_drift_20 rfl (fun r_3 u h => ?_)
      obtain ⟨u_2, hu⟩ : ∃ z, z = u := ⟨_, rfl⟩
      subst hu
      refine J_istore_n C 24 [(3, .int r_3), (0, .ref a0), (1, .int y1), (2, .int y2)] dX9_drift_23 rfl (by decide) rfl ?_
      refine J_iconst C 25 dX9_drift_24 rfl ki_3 ?_
      refine J_aload_n C 26 dX9_drift_25 rfl rfl ?_
      refine J_get C 29 9 inlX9 0 27 rfl rfl (by decide) wd201 rfl rfl dX9_drift_26 rfl ?_
      refine J_imul C 30 dX9_drift_29 rfl ?_
      obtain ⟨x_4, ex_4⟩ : ∃ z : Int32, z = (3 * (u_2.1 27)) := ⟨_, rfl⟩
      have h := h x_4 ex_4
      refine J_nmi ex_4 ?_
      refine J_istore C 32 [(4, .int x_4), (3, .int r_3), (0, .ref a0), (1, .int y1), (2, .int y2)] dX9_drift_30 rfl (by decide) rfl ?_
      refine J_aload_n C 33 dX9_drift_32 rfl rfl ?_
      refine J_iload_n C 34 dX9_drift_33 rfl rfl ?_
      refine J_aload_n C 35 dX9_drift_34 rfl rfl ?_
      refine J_get C 38 9 inlX9 0 9 rfl rfl (by decide) wd159 rfl rfl dX9_drift_35 rfl ?_
      refine J_iload C 40 dX9_drift_38 rfl rfl ?_
      obtain ⟨hi, h⟩ := h
      refine J_iald C 41 3 0 rfl rfl hi dX9_drift_40 rfl ?_
      refine J_icmp_ge C 44 48 dX9_drift_41 rfl rfl (fun c => ?_) (fun c => ?_)
      · have h := h.1 c
        refine J_iload_n C 49 dX9_drift_48 rfl rfl ?_
        refine J_aload_n C 50 dX9_drift_49 rfl rfl ?_
        refine J_get C 53 9 inlX9 0 9 rfl rfl (by decide) wd159 rfl rfl dX9_drift_50 rfl ?_
        refine J_iload C 55 dX9_drift_53 rfl rfl ?_
        obtain ⟨hi, h⟩ := h
        refine J_iald C 56 3 0 rfl rfl hi dX9_drift_55 rfl ?_
        refine J_aload_n C 57 dX9_drift_56 rfl rfl ?_
        refine J_get C 60 9 inlX9 0 9 rfl rfl (by decide) wd159 rfl rfl dX9_drift_57 rfl ?_
        refine J_iload C 62 dX9_drift_60 rfl rfl ?_
        refine J_iconst C 63 dX9_drift_62 rfl ki_1 ?_
        refine J_iadd C 64 dX9_drift_63 rfl ?_
        obtain ⟨hi, h⟩ := h
        refine J_iald C 65 3 0 rfl rfl hi dX9_drift_64 rfl ?_
        refine J_iadd C 66 dX9_drift_65 rfl ?_
        refine J_icmp_ge C 69 73 dX9_drift_66 rfl rfl (fun c => ?_) (fun c => ?_)
        · have h := h.1 c
          refine J_iconst C 74 dX9_drift_73 rfl ki_2 ?_
          refine J_loc [2, 3, 4] rfl ?_
          exact wk_X9_drift_c74 C hr hk ih u_2 y1 y2 2 h
        · have h := h.2 c
          refine J_iconst C 70 dX9_drift_69 rfl ki_1 ?_
          refine J_goto C 74 dX9_drift_70 rfl ?_
          refine J_loc [2, 3, 4] rfl ?_
          exact wk_X9_drift_c74 C hr hk ih u_2 y1 y2 1 h
      · have h := h.2 c
        refine J_iconst C 45 dX9_drift_44 rfl ki_0 ?_
        refine J_goto C 74 dX9_drift_45 rfl ?_
        refine J_loc [2, 3, 4] rfl ?_
        exact wk_X9_drift_c74 C hr hk ih u_2 y1 y2 0 h
def wp_X9_drift (v0 : Vl) (x1 : Int32) (Q : Int32 → Vl → Prop) : Prop := wp_X9_isDays x1 (fun r_1 => ((¬ r_1 = 0 → (∃ k : Nat, wp_X9_drift_c12  Q k v0 x1 0)) ∧ (r_1 = 0 → Q (-1000000002) v0)))
set_option maxHeartbeats 4000000 in
set_option maxRecDepth 100000 in
theorem c_X9_drift (l : Launch) (D : GG) (cI cJ cZ cS : ClassId) (a0 : Nat) (r0 : Nat → Nat) (v0 : Vl) (x1 : Int32) (Q : Int32 → Vl → Prop) (h : wp_X9_drift v0 x1 Q) : Mi l D (tyL cI cJ cZ cS) yX9_drift cX9_drift 5 .int 3 73 [.ref a0, .int x1] (List.flatten [bX9 cI cJ cZ a0 r0 v0]) (fun (r : Int32) (u : Vl) => Q r u) (fun (u : Vl) => List.flatten [bX9 cI cJ cZ a0 r0 u]) := by
  refine Mi_of RX9 [(0, .ref a0), (1, .int x1)] (by decide +kernel) rfl rfl (Nat.le_of_ble_eq_true rfl) ?_
  intro p e s m args below meth c A C hr hk
  refine J_iload_n C 1 dX9_drift_0 rfl rfl ?_
  refine J_callBiS (Bs := [bX9 cI cJ cZ a0 r0 v0]) (As := [.int x1]) C 4 (c_X9_isDays l D cI cJ cZ cS x1 _ h) wd682 wd680 wd5 wd681 hdX9_isDays ⟨Nat.le_of_ble_eq_true rfl, Nat.le_of_ble_eq_true rfl⟩ ⟨Nat.zero_le _, Nat.zero_le _⟩ rfl (Nat.le_of_ble_eq_true rfl) [] [0] 1 rfl (by decide +kernel) rfl rfl (fun (u : Unit) => ([] : List va_W)) (fun _ => rfl) [0] (by decide +kernel) (fun _ => rfl) rfl (fun (u : Unit) => [bX9 cI cJ cZ a0 r0 v0]) (fun _ => rfl) dX9_drift_1 rfl (fun r_1 u h => ?_)
  refine J_if_ne C 7 10 dX9_drift_4 rfl rfl (fun c => ?_) (fun c => ?_)
  · have h := h.1 c
    refine J_iconst C 11 dX9_drift_10 rfl ki_0 ?_
    refine J_istore_n C 12 [(2, .int 0), (0, .ref a0), (1, .int x1)] dX9_drift_11 rfl (by decide) rfl ?_
    refine J_loc [1, 2, 0] rfl ?_
    obtain ⟨n1, h⟩ := h
    exact wk_X9_drift_c12 C hr hk n1 v0 x1 0 h
  · have h := h.2 c
    refine J_ldc C 9 wd219 dX9_drift_7 rfl ?_
    exact J_iret C hr hk v0 rfl dX9_drift_9 h
