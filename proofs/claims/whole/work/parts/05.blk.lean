abbrev Vl : Type := (Nat → Int32) × (Nat → Int64) × (Nat → Nat → Int32) × (Nat → Nat → Int64)
def setI (v : Vl) (k : Nat) (x : Int32) : Vl := (upd v.1 k x, v.2.1, v.2.2.1, v.2.2.2)
def setJ (v : Vl) (k : Nat) (x : Int64) : Vl := (v.1, vp_updL v.2.1 k x, v.2.2.1, v.2.2.2)
def setRA (v : Vl) (k : Nat) (f : Nat → Int32) : Vl := (v.1, v.2.1, va_up v.2.2.1 k f, v.2.2.2)
def setRB (v : Vl) (k : Nat) (f : Nat → Int64) : Vl := (v.1, v.2.1, v.2.2.1, va_up v.2.2.2 k f)
def setA (v : Vl) (k i : Nat) (x : Int32) : Vl := setRA v k (upd (v.2.2.1 k) i x)
def setB (v : Vl) (k i : Nat) (x : Int64) : Vl := setRB v k (vp_updL (v.2.2.2 k) i x)

abbrev bI (cI : ClassId) (n a : Nat) (f : Nat → Int32) : va_W := [(a, .inl (cI, n, .inl f))]
abbrev bL (cJ : ClassId) (n a : Nat) (f : Nat → Int64) : va_W := [(a, .inl (cJ, n, .inr (.inl f)))]
abbrev bS (cS : ClassId) (n a : Nat) (q : Nat → Nat) : va_W := [(a, .inl (cS, n, .inr (.inr (.inr (.inr (fun i => some (q i)))))))]
abbrev bX0 (cI cJ cZ : ClassId) (a : Nat) (r : Nat → Nat) (v : Vl) : va_W := [(a, .inr (0, [.ref (r 0), .ref (r 1)])), (r 0, .inl (cI, 360, .inl (v.2.2.1 0))), (r 1, .inl (cI, 9, .inl (v.2.2.1 1)))]
abbrev bX1 (cI cJ cZ : ClassId) (a : Nat) (r : Nat → Nat) (v : Vl) : va_W := [(a, .inr (1, [.ref (r 0), .ref (r 1), .int (v.1 2)])), (r 0, .inl (cI, 12, .inl (v.2.2.1 0))), (r 1, .inl (cI, 12, .inl (v.2.2.1 1)))]
abbrev bX2 (cI cJ cZ : ClassId) (a : Nat) (r : Nat → Nat) (v : Vl) : va_W := [(a, .inr (2, [.ref (r 0), .ref (r 1), .int (v.1 2)]))]
abbrev bX3 (cI cJ cZ : ClassId) (a : Nat) (r : Nat → Nat) (v : Vl) : va_W := [(a, .inr (3, [.ref (r 0), .ref (r 1), .ref (r 2), .ref (r 3), .ref (r 4), .ref (r 5), .ref (r 6), .int (v.1 7), .int (v.1 8), .int (v.1 9), .int (v.1 10), .int (v.1 11), .int (v.1 12), .int (v.1 13), .int (v.1 14)])), (r 0, .inl (cI, 9, .inl (v.2.2.1 0))), (r 1, .inl (cI, 9, .inl (v.2.2.1 1))), (r 2, .inl (cI, 9, .inl (v.2.2.1 2))), (r 3, .inl (cI, 9, .inl (v.2.2.1 3))), (r 4, .inl (cI, 9, .inl (v.2.2.1 4))), (r 5, .inl (cI, 12, .inl (v.2.2.1 5))), (r 6, .inl (cI, 9, .inl (v.2.2.1 6)))]
abbrev bX4 (cI cJ cZ : ClassId) (a : Nat) (r : Nat → Nat) (v : Vl) : va_W := [(a, .inr (4, [.ref (r 0), .ref (r 1), .ref (r 2), .int (v.1 3), .int (v.1 4)])), (r 1, .inl (cI, 4, .inl (v.2.2.1 1))), (r 2, .inl (cI, 4, .inl (v.2.2.1 2)))]
abbrev bX5 (cI cJ cZ : ClassId) (a : Nat) (r : Nat → Nat) (v : Vl) : va_W := [(a, .inr (5, [.ref (r 0), .ref (r 1), .int (v.1 2), .int (v.1 3)])), (r 0, .inl (cI, 30, .inl (v.2.2.1 0))), (r 1, .inl (cI, 30, .inl (v.2.2.1 1)))]
abbrev bX6 (cI cJ cZ : ClassId) (nl : Nat) (a : Nat) (r : Nat → Nat) (v : Vl) : va_W := [(a, .inr (6, [.ref (r 0), .ref (r 1), .ref (r 2), .ref (r 3), .ref (r 4), .int (v.1 5), .int (v.1 6), .int (v.1 7), .int (v.1 8), .int (v.1 9), .int (v.1 10), .int (v.1 11), .int (v.1 12), .int (v.1 13), .int (v.1 14), .int (v.1 15), .long (v.2.1 16)])), (r 0, .inl (cI, 9, .inl (v.2.2.1 0))), (r 1, .inl (cI, 9, .inl (v.2.2.1 1))), (r 2, .inl (cI, 9, .inl (v.2.2.1 2))), (r 3, .inl (cI, 9, .inl (v.2.2.1 3))), (r 4, .inl (cI, nl, .inl (v.2.2.1 4)))]
abbrev bX7 (cI cJ cZ : ClassId) (a : Nat) (r : Nat → Nat) (v : Vl) : va_W := [(a, .inr (7, [.ref (r 0), .int (v.1 1), .int (v.1 2), .int (v.1 3), .int (v.1 4), .int (v.1 5), .int (v.1 6), .int (v.1 7)])), (r 0, .inl (cI, 500, .inl (v.2.2.1 0)))]
abbrev bX8 (cI cJ cZ : ClassId) (a : Nat) (r : Nat → Nat) (v : Vl) : va_W := [(a, .inr (8, [.ref (r 0), .ref (r 1), .ref (r 2), .ref (r 3), .ref (r 4), .ref (r 5), .ref (r 6), .ref (r 7), .ref (r 8), .ref (r 9), .ref (r 10), .ref (r 11), .ref (r 12), .int (v.1 13)]))]
abbrev bX9 (cI cJ cZ : ClassId) (a : Nat) (r : Nat → Nat) (v : Vl) : va_W := [(a, .inr (9, [.int (v.1 0), .ref (r 1), .int (v.1 2), .int (v.1 3), .int (v.1 4), .int (v.1 5), .int (v.1 6), .int (v.1 7), .ref (r 8), .ref (r 9), .int (v.1 10), .ref (r 11), .ref (r 12), .ref (r 13), .ref (r 14), .ref (r 15), .ref (r 16), .long (v.2.1 17), .int (v.1 18), .long (v.2.1 19), .long (v.2.1 20), .int (v.1 21), .int (v.1 22), .int (v.1 23), .int (v.1 24), .long (v.2.1 25), .long (v.2.1 26), .int (v.1 27), .int (v.1 28), .ref (r 29), .int (v.1 30), .ref (r 31), .int (v.1 32), .int (v.1 33), .int (v.1 34), .long (v.2.1 35), .int (v.1 36), .int (v.1 37), .int (v.1 38), .int (v.1 39), .ref (r 40), .ref (r 41), .int (v.1 42), .ref (r 43), .ref (r 44), .int (v.1 45), .int (v.1 46), .ref (r 47), .ref (r 48), .ref (r 49), .ref (r 50), .ref (r 51), .ref (r 52), .ref (r 53), .ref (r 54), .ref (r 55), .int (v.1 56), .ref (r 57), .ref (r 58), .ref (r 59), .ref (r 60)])), (r 1, .inl (cI, 45, .inl (v.2.2.1 1))), (r 8, .inl (cI, 12, .inl (v.2.2.1 8))), (r 9, .inl (cI, 9, .inl (v.2.2.1 9))), (r 11, .inl (cI, 30, .inl (v.2.2.1 11))), (r 12, .inl (cI, 30, .inl (v.2.2.1 12))), (r 13, .inl (cI, 9, .inl (v.2.2.1 13))), (r 14, .inl (cZ, 9, .inl (v.2.2.1 14))), (r 15, .inl (cI, 9, .inl (v.2.2.1 15))), (r 16, .inl (cI, 9, .inl (v.2.2.1 16))), (r 29, .inl (cI, 360, .inl (v.2.2.1 29))), (r 31, .inl (cI, 500, .inl (v.2.2.1 31))), (r 40, .inl (cI, 45, .inl (v.2.2.1 40))), (r 41, .inl (cI, 5, .inl (v.2.2.1 41))), (r 43, .inl (cI, 12, .inl (v.2.2.1 43))), (r 44, .inl (cI, 9, .inl (v.2.2.1 44))), (r 47, .inl (cI, 30, .inl (v.2.2.1 47))), (r 48, .inl (cI, 30, .inl (v.2.2.1 48))), (r 49, .inl (cJ, 1230, .inr (.inl (v.2.2.2 49)))), (r 50, .inl (cZ, 2, .inl (v.2.2.1 50))), (r 51, .inl (cI, 9, .inl (v.2.2.1 51))), (r 52, .inl (cJ, 300, .inr (.inl (v.2.2.2 52)))), (r 53, .inl (cJ, 300, .inr (.inl (v.2.2.2 53)))), (r 54, .inl (cJ, 3, .inr (.inl (v.2.2.2 54)))), (r 55, .inl (cJ, 3, .inr (.inl (v.2.2.2 55)))), (r 57, .inl (cI, 12, .inl (v.2.2.1 57))), (r 58, .inl (cZ, 12, .inl (v.2.2.1 58))), (r 59, .inl (cI, 9, .inl (v.2.2.1 59))), (r 60, .inl (cI, 360, .inl (v.2.2.1 60)))]
theorem ki_m1 : Int32.ofInt (-1) = (-1) := by decide
theorem ki_0 : Int32.ofInt (0) = 0 := by decide
theorem ki_1 : Int32.ofInt (1) = 1 := by decide
theorem ki_2 : Int32.ofInt (2) = 2 := by decide
theorem ki_3 : Int32.ofInt (3) = 3 := by decide
theorem ki_4 : Int32.ofInt (4) = 4 := by decide
theorem ki_5 : Int32.ofInt (5) = 5 := by decide
theorem kb_m10 : (Int8.ofInt (-10)).toInt32 = (-10) := by decide
theorem kb_8 : (Int8.ofInt (8)).toInt32 = 8 := by decide
theorem kb_9 : (Int8.ofInt (9)).toInt32 = 9 := by decide
theorem kb_10 : (Int8.ofInt (10)).toInt32 = 10 := by decide
theorem kb_12 : (Int8.ofInt (12)).toInt32 = 12 := by decide
theorem kb_16 : (Int8.ofInt (16)).toInt32 = 16 := by decide
theorem kb_18 : (Int8.ofInt (18)).toInt32 = 18 := by decide
theorem kb_20 : (Int8.ofInt (20)).toInt32 = 20 := by decide
theorem kb_24 : (Int8.ofInt (24)).toInt32 = 24 := by decide
theorem kb_27 : (Int8.ofInt (27)).toInt32 = 27 := by decide
theorem kb_30 : (Int8.ofInt (30)).toInt32 = 30 := by decide
theorem kb_32 : (Int8.ofInt (32)).toInt32 = 32 := by decide
theorem kb_36 : (Int8.ofInt (36)).toInt32 = 36 := by decide
theorem kb_37 : (Int8.ofInt (37)).toInt32 = 37 := by decide
theorem kb_38 : (Int8.ofInt (38)).toInt32 = 38 := by decide
theorem kb_39 : (Int8.ofInt (39)).toInt32 = 39 := by decide
theorem kb_40 : (Int8.ofInt (40)).toInt32 = 40 := by decide
theorem kb_41 : (Int8.ofInt (41)).toInt32 = 41 := by decide
theorem kb_42 : (Int8.ofInt (42)).toInt32 = 42 := by decide
theorem kb_43 : (Int8.ofInt (43)).toInt32 = 43 := by decide
theorem kb_44 : (Int8.ofInt (44)).toInt32 = 44 := by decide
theorem kb_45 : (Int8.ofInt (45)).toInt32 = 45 := by decide
theorem kb_46 : (Int8.ofInt (46)).toInt32 = 46 := by decide
theorem kb_47 : (Int8.ofInt (47)).toInt32 = 47 := by decide
theorem kb_48 : (Int8.ofInt (48)).toInt32 = 48 := by decide
theorem kb_50 : (Int8.ofInt (50)).toInt32 = 50 := by decide
theorem kb_57 : (Int8.ofInt (57)).toInt32 = 57 := by decide
theorem kb_59 : (Int8.ofInt (59)).toInt32 = 59 := by decide
theorem kb_60 : (Int8.ofInt (60)).toInt32 = 60 := by decide
theorem kb_63 : (Int8.ofInt (63)).toInt32 = 63 := by decide
theorem kb_97 : (Int8.ofInt (97)).toInt32 = 97 := by decide
theorem kb_98 : (Int8.ofInt (98)).toInt32 = 98 := by decide
theorem kb_99 : (Int8.ofInt (99)).toInt32 = 99 := by decide
theorem kb_100 : (Int8.ofInt (100)).toInt32 = 100 := by decide
theorem kb_101 : (Int8.ofInt (101)).toInt32 = 101 := by decide
theorem kb_102 : (Int8.ofInt (102)).toInt32 = 102 := by decide
theorem kb_103 : (Int8.ofInt (103)).toInt32 = 103 := by decide
theorem kb_104 : (Int8.ofInt (104)).toInt32 = 104 := by decide
theorem kb_105 : (Int8.ofInt (105)).toInt32 = 105 := by decide
theorem kb_107 : (Int8.ofInt (107)).toInt32 = 107 := by decide
theorem kb_108 : (Int8.ofInt (108)).toInt32 = 108 := by decide
theorem kb_110 : (Int8.ofInt (110)).toInt32 = 110 := by decide
theorem kb_111 : (Int8.ofInt (111)).toInt32 = 111 := by decide
theorem kb_112 : (Int8.ofInt (112)).toInt32 = 112 := by decide
theorem kb_114 : (Int8.ofInt (114)).toInt32 = 114 := by decide
theorem kb_115 : (Int8.ofInt (115)).toInt32 = 115 := by decide
theorem kb_116 : (Int8.ofInt (116)).toInt32 = 116 := by decide
theorem kb_117 : (Int8.ofInt (117)).toInt32 = 117 := by decide
theorem kb_121 : (Int8.ofInt (121)).toInt32 = 121 := by decide
theorem kb_122 : (Int8.ofInt (122)).toInt32 = 122 := by decide
theorem ks_200 : (Int16.ofInt (200)).toInt32 = 200 := by decide
theorem ks_255 : (Int16.ofInt (255)).toInt32 = 255 := by decide
theorem ks_300 : (Int16.ofInt (300)).toInt32 = 300 := by decide
theorem ks_360 : (Int16.ofInt (360)).toInt32 = 360 := by decide
theorem ks_400 : (Int16.ofInt (400)).toInt32 = 400 := by decide
theorem ks_410 : (Int16.ofInt (410)).toInt32 = 410 := by decide
theorem ks_500 : (Int16.ofInt (500)).toInt32 = 500 := by decide
theorem ks_999 : (Int16.ofInt (999)).toInt32 = 999 := by decide
theorem ks_9999 : (Int16.ofInt (9999)).toInt32 = 9999 := by decide
theorem kn_2 : Int32.ofNat 2 = 2 := by decide
theorem kn_5 : Int32.ofNat 5 = 5 := by decide
theorem kn_9 : Int32.ofNat 9 = 9 := by decide
theorem kn_300 : Int32.ofNat 300 = 300 := by decide
theorem kn_500 : Int32.ofNat 500 = 500 := by decide
theorem kl_0 : Int64.ofNat ((0 : Fin 2) : Nat) = 0 := by decide
theorem kl_1 : Int64.ofNat ((1 : Fin 2) : Nat) = 1 := by decide
theorem kinc_m1 (x : Int32) : x + Int32.ofInt (-1) = x + (-1) := by rw [show Int32.ofInt (-1) = (-1) by decide]
theorem kinc_1 (x : Int32) : x + Int32.ofInt (1) = x + 1 := by rw [show Int32.ofInt (1) = 1 by decide]
theorem hdJ6_bitCount_0f7a4 : yJ6_bitCount_0f7a4.cls ≠ "java/lang/invoke/MethodHandle" ∧ yJ6_bitCount_0f7a4.cls ≠ "java/lang/invoke/VarHandle" ∧ (parseMethodDescriptor yJ6_bitCount_0f7a4.desc).map (fun d => d.parameters.length) = some 1 := by decide +kernel
theorem hdJ9_floorMod_7cf53 : yJ9_floorMod_7cf53.cls ≠ "java/lang/invoke/MethodHandle" ∧ yJ9_floorMod_7cf53.cls ≠ "java/lang/invoke/VarHandle" ∧ (parseMethodDescriptor yJ9_floorMod_7cf53.desc).map (fun d => d.parameters.length) = some 2 := by decide +kernel
theorem hdX0_add : yX0_add.cls ≠ "java/lang/invoke/MethodHandle" ∧ yX0_add.cls ≠ "java/lang/invoke/VarHandle" ∧ (parseMethodDescriptor yX0_add.desc).map (fun d => d.parameters.length) = some 2 := by decide +kernel
theorem hdX0_clear : yX0_clear.cls ≠ "java/lang/invoke/MethodHandle" ∧ yX0_clear.cls ≠ "java/lang/invoke/VarHandle" ∧ (parseMethodDescriptor yX0_clear.desc).map (fun d => d.parameters.length) = some 0 := by decide +kernel
theorem hdX0_empty : yX0_empty.cls ≠ "java/lang/invoke/MethodHandle" ∧ yX0_empty.cls ≠ "java/lang/invoke/VarHandle" ∧ (parseMethodDescriptor yX0_empty.desc).map (fun d => d.parameters.length) = some 1 := by decide +kernel
theorem hdX0_oilOn : yX0_oilOn.cls ≠ "java/lang/invoke/MethodHandle" ∧ yX0_oilOn.cls ≠ "java/lang/invoke/VarHandle" ∧ (parseMethodDescriptor yX0_oilOn.desc).map (fun d => d.parameters.length) = some 2 := by decide +kernel
theorem hdX0_pagesOf : yX0_pagesOf.cls ≠ "java/lang/invoke/MethodHandle" ∧ yX0_pagesOf.cls ≠ "java/lang/invoke/VarHandle" ∧ (parseMethodDescriptor yX0_pagesOf.desc).map (fun d => d.parameters.length) = some 1 := by decide +kernel
theorem hdX1_add : yX1_add.cls ≠ "java/lang/invoke/MethodHandle" ∧ yX1_add.cls ≠ "java/lang/invoke/VarHandle" ∧ (parseMethodDescriptor yX1_add.desc).map (fun d => d.parameters.length) = some 2 := by decide +kernel
theorem hdX1_clear : yX1_clear.cls ≠ "java/lang/invoke/MethodHandle" ∧ yX1_clear.cls ≠ "java/lang/invoke/VarHandle" ∧ (parseMethodDescriptor yX1_clear.desc).map (fun d => d.parameters.length) = some 0 := by decide +kernel
theorem hdX1_wrongWith : yX1_wrongWith.cls ≠ "java/lang/invoke/MethodHandle" ∧ yX1_wrongWith.cls ≠ "java/lang/invoke/VarHandle" ∧ (parseMethodDescriptor yX1_wrongWith.desc).map (fun d => d.parameters.length) = some 1 := by decide +kernel
theorem hdX2_add : yX2_add.cls ≠ "java/lang/invoke/MethodHandle" ∧ yX2_add.cls ≠ "java/lang/invoke/VarHandle" ∧ (parseMethodDescriptor yX2_add.desc).map (fun d => d.parameters.length) = some 4 := by decide +kernel
theorem hdX2_partsOf : yX2_partsOf.cls ≠ "java/lang/invoke/MethodHandle" ∧ yX2_partsOf.cls ≠ "java/lang/invoke/VarHandle" ∧ (parseMethodDescriptor yX2_partsOf.desc).map (fun d => d.parameters.length) = some 1 := by decide +kernel
theorem hdX2_passDay : yX2_passDay.cls ≠ "java/lang/invoke/MethodHandle" ∧ yX2_passDay.cls ≠ "java/lang/invoke/VarHandle" ∧ (parseMethodDescriptor yX2_passDay.desc).map (fun d => d.parameters.length) = some 3 := by decide +kernel
theorem hdX2_start : yX2_start.cls ≠ "java/lang/invoke/MethodHandle" ∧ yX2_start.cls ≠ "java/lang/invoke/VarHandle" ∧ (parseMethodDescriptor yX2_start.desc).map (fun d => d.parameters.length) = some 2 := by decide +kernel
theorem hdX3_chanceOf : yX3_chanceOf.cls ≠ "java/lang/invoke/MethodHandle" ∧ yX3_chanceOf.cls ≠ "java/lang/invoke/VarHandle" ∧ (parseMethodDescriptor yX3_chanceOf.desc).map (fun d => d.parameters.length) = some 2 := by decide +kernel
theorem hdX3_hoursOf : yX3_hoursOf.cls ≠ "java/lang/invoke/MethodHandle" ∧ yX3_hoursOf.cls ≠ "java/lang/invoke/VarHandle" ∧ (parseMethodDescriptor yX3_hoursOf.desc).map (fun d => d.parameters.length) = some 1 := by decide +kernel
theorem hdX3_isDarkBySky : yX3_isDarkBySky.cls ≠ "java/lang/invoke/MethodHandle" ∧ yX3_isDarkBySky.cls ≠ "java/lang/invoke/VarHandle" ∧ (parseMethodDescriptor yX3_isDarkBySky.desc).map (fun d => d.parameters.length) = some 2 := by decide +kernel
theorem hdX3_isFirst : yX3_isFirst.cls ≠ "java/lang/invoke/MethodHandle" ∧ yX3_isFirst.cls ≠ "java/lang/invoke/VarHandle" ∧ (parseMethodDescriptor yX3_isFirst.desc).map (fun d => d.parameters.length) = some 2 := by decide +kernel
theorem hdX3_kindNamed : yX3_kindNamed.cls ≠ "java/lang/invoke/MethodHandle" ∧ yX3_kindNamed.cls ≠ "java/lang/invoke/VarHandle" ∧ (parseMethodDescriptor yX3_kindNamed.desc).map (fun d => d.parameters.length) = some 1 := by decide +kernel
theorem hdX3_leakOf : yX3_leakOf.cls ≠ "java/lang/invoke/MethodHandle" ∧ yX3_leakOf.cls ≠ "java/lang/invoke/VarHandle" ∧ (parseMethodDescriptor yX3_leakOf.desc).map (fun d => d.parameters.length) = some 2 := by decide +kernel
theorem hdX3_milesBy : yX3_milesBy.cls ≠ "java/lang/invoke/MethodHandle" ∧ yX3_milesBy.cls ≠ "java/lang/invoke/VarHandle" ∧ (parseMethodDescriptor yX3_milesBy.desc).map (fun d => d.parameters.length) = some 1 := by decide +kernel
theorem hdX3_milesTo : yX3_milesTo.cls ≠ "java/lang/invoke/MethodHandle" ∧ yX3_milesTo.cls ≠ "java/lang/invoke/VarHandle" ∧ (parseMethodDescriptor yX3_milesTo.desc).map (fun d => d.parameters.length) = some 1 := by decide +kernel
theorem hdX3_needOf : yX3_needOf.cls ≠ "java/lang/invoke/MethodHandle" ∧ yX3_needOf.cls ≠ "java/lang/invoke/VarHandle" ∧ (parseMethodDescriptor yX3_needOf.desc).map (fun d => d.parameters.length) = some 4 := by decide +kernel
theorem hdX3_readBarrel : yX3_readBarrel.cls ≠ "java/lang/invoke/MethodHandle" ∧ yX3_readBarrel.cls ≠ "java/lang/invoke/VarHandle" ∧ (parseMethodDescriptor yX3_readBarrel.desc).map (fun d => d.parameters.length) = some 1 := by decide +kernel
theorem hdX3_readBoat : yX3_readBoat.cls ≠ "java/lang/invoke/MethodHandle" ∧ yX3_readBoat.cls ≠ "java/lang/invoke/VarHandle" ∧ (parseMethodDescriptor yX3_readBoat.desc).map (fun d => d.parameters.length) = some 1 := by decide +kernel
theorem hdX3_readChances : yX3_readChances.cls ≠ "java/lang/invoke/MethodHandle" ∧ yX3_readChances.cls ≠ "java/lang/invoke/VarHandle" ∧ (parseMethodDescriptor yX3_readChances.desc).map (fun d => d.parameters.length) = some 1 := by decide +kernel
theorem hdX3_readClause : yX3_readClause.cls ≠ "java/lang/invoke/MethodHandle" ∧ yX3_readClause.cls ≠ "java/lang/invoke/VarHandle" ∧ (parseMethodDescriptor yX3_readClause.desc).map (fun d => d.parameters.length) = some 1 := by decide +kernel
theorem hdX3_readFrom : yX3_readFrom.cls ≠ "java/lang/invoke/MethodHandle" ∧ yX3_readFrom.cls ≠ "java/lang/invoke/VarHandle" ∧ (parseMethodDescriptor yX3_readFrom.desc).map (fun d => d.parameters.length) = some 1 := by decide +kernel
theorem hdX3_readHens : yX3_readHens.cls ≠ "java/lang/invoke/MethodHandle" ∧ yX3_readHens.cls ≠ "java/lang/invoke/VarHandle" ∧ (parseMethodDescriptor yX3_readHens.desc).map (fun d => d.parameters.length) = some 1 := by decide +kernel
theorem hdX3_readLight : yX3_readLight.cls ≠ "java/lang/invoke/MethodHandle" ∧ yX3_readLight.cls ≠ "java/lang/invoke/VarHandle" ∧ (parseMethodDescriptor yX3_readLight.desc).map (fun d => d.parameters.length) = some 1 := by decide +kernel
theorem hdX3_readNights : yX3_readNights.cls ≠ "java/lang/invoke/MethodHandle" ∧ yX3_readNights.cls ≠ "java/lang/invoke/VarHandle" ∧ (parseMethodDescriptor yX3_readNights.desc).map (fun d => d.parameters.length) = some 1 := by decide +kernel
theorem hdX3_setUntold : yX3_setUntold.cls ≠ "java/lang/invoke/MethodHandle" ∧ yX3_setUntold.cls ≠ "java/lang/invoke/VarHandle" ∧ (parseMethodDescriptor yX3_setUntold.desc).map (fun d => d.parameters.length) = some 0 := by decide +kernel
theorem hdX4_isBetter : yX4_isBetter.cls ≠ "java/lang/invoke/MethodHandle" ∧ yX4_isBetter.cls ≠ "java/lang/invoke/VarHandle" ∧ (parseMethodDescriptor yX4_isBetter.desc).map (fun d => d.parameters.length) = some 1 := by decide +kernel
theorem hdX4_seek : yX4_seek.cls ≠ "java/lang/invoke/MethodHandle" ∧ yX4_seek.cls ≠ "java/lang/invoke/VarHandle" ∧ (parseMethodDescriptor yX4_seek.desc).map (fun d => d.parameters.length) = some 4 := by decide +kernel
theorem hdX4_takeRow : yX4_takeRow.cls ≠ "java/lang/invoke/MethodHandle" ∧ yX4_takeRow.cls ≠ "java/lang/invoke/VarHandle" ∧ (parseMethodDescriptor yX4_takeRow.desc).map (fun d => d.parameters.length) = some 1 := by decide +kernel
theorem hdX4_tryDay : yX4_tryDay.cls ≠ "java/lang/invoke/MethodHandle" ∧ yX4_tryDay.cls ≠ "java/lang/invoke/VarHandle" ∧ (parseMethodDescriptor yX4_tryDay.desc).map (fun d => d.parameters.length) = some 4 := by decide +kernel
theorem hdX5_readClause : yX5_readClause.cls ≠ "java/lang/invoke/MethodHandle" ∧ yX5_readClause.cls ≠ "java/lang/invoke/VarHandle" ∧ (parseMethodDescriptor yX5_readClause.desc).map (fun d => d.parameters.length) = some 1 := by decide +kernel
theorem hdX5_readFrom : yX5_readFrom.cls ≠ "java/lang/invoke/MethodHandle" ∧ yX5_readFrom.cls ≠ "java/lang/invoke/VarHandle" ∧ (parseMethodDescriptor yX5_readFrom.desc).map (fun d => d.parameters.length) = some 1 := by decide +kernel
theorem hdX5_skyNamed : yX5_skyNamed.cls ≠ "java/lang/invoke/MethodHandle" ∧ yX5_skyNamed.cls ≠ "java/lang/invoke/VarHandle" ∧ (parseMethodDescriptor yX5_skyNamed.desc).map (fun d => d.parameters.length) = some 1 := by decide +kernel
theorem hdX5_skyOf : yX5_skyOf.cls ≠ "java/lang/invoke/MethodHandle" ∧ yX5_skyOf.cls ≠ "java/lang/invoke/VarHandle" ∧ (parseMethodDescriptor yX5_skyOf.desc).map (fun d => d.parameters.length) = some 1 := by decide +kernel
theorem hdX6_copyFrom : yX6_copyFrom.cls ≠ "java/lang/invoke/MethodHandle" ∧ yX6_copyFrom.cls ≠ "java/lang/invoke/VarHandle" ∧ (parseMethodDescriptor yX6_copyFrom.desc).map (fun d => d.parameters.length) = some 1 := by decide +kernel
theorem hdX6_countDark : yX6_countDark.cls ≠ "java/lang/invoke/MethodHandle" ∧ yX6_countDark.cls ≠ "java/lang/invoke/VarHandle" ∧ (parseMethodDescriptor yX6_countDark.desc).map (fun d => d.parameters.length) = some 3 := by decide +kernel
theorem hdX6_draw : yX6_draw.cls ≠ "java/lang/invoke/MethodHandle" ∧ yX6_draw.cls ≠ "java/lang/invoke/VarHandle" ∧ (parseMethodDescriptor yX6_draw.desc).map (fun d => d.parameters.length) = some 1 := by decide +kernel
theorem hdX6_drawSky : yX6_drawSky.cls ≠ "java/lang/invoke/MethodHandle" ∧ yX6_drawSky.cls ≠ "java/lang/invoke/VarHandle" ∧ (parseMethodDescriptor yX6_drawSky.desc).map (fun d => d.parameters.length) = some 1 := by decide +kernel
theorem hdX6_fillLight : yX6_fillLight.cls ≠ "java/lang/invoke/MethodHandle" ∧ yX6_fillLight.cls ≠ "java/lang/invoke/VarHandle" ∧ (parseMethodDescriptor yX6_fillLight.desc).map (fun d => d.parameters.length) = some 2 := by decide +kernel
theorem hdX6_isFillingBy : yX6_isFillingBy.cls ≠ "java/lang/invoke/MethodHandle" ∧ yX6_isFillingBy.cls ≠ "java/lang/invoke/VarHandle" ∧ (parseMethodDescriptor yX6_isFillingBy.desc).map (fun d => d.parameters.length) = some 3 := by decide +kernel
theorem hdX6_isTooLittle : yX6_isTooLittle.cls ≠ "java/lang/invoke/MethodHandle" ∧ yX6_isTooLittle.cls ≠ "java/lang/invoke/VarHandle" ∧ (parseMethodDescriptor yX6_isTooLittle.desc).map (fun d => d.parameters.length) = some 3 := by decide +kernel
theorem hdX6_layEggs : yX6_layEggs.cls ≠ "java/lang/invoke/MethodHandle" ∧ yX6_layEggs.cls ≠ "java/lang/invoke/VarHandle" ∧ (parseMethodDescriptor yX6_layEggs.desc).map (fun d => d.parameters.length) = some 1 := by decide +kernel
theorem hdX6_live : yX6_live.cls ≠ "java/lang/invoke/MethodHandle" ∧ yX6_live.cls ≠ "java/lang/invoke/VarHandle" ∧ (parseMethodDescriptor yX6_live.desc).map (fun d => d.parameters.length) = some 2 := by decide +kernel
theorem hdX6_oilOn : yX6_oilOn.cls ≠ "java/lang/invoke/MethodHandle" ∧ yX6_oilOn.cls ≠ "java/lang/invoke/VarHandle" ∧ (parseMethodDescriptor yX6_oilOn.desc).map (fun d => d.parameters.length) = some 2 := by decide +kernel
theorem hdX6_pageOf : yX6_pageOf.cls ≠ "java/lang/invoke/MethodHandle" ∧ yX6_pageOf.cls ≠ "java/lang/invoke/VarHandle" ∧ (parseMethodDescriptor yX6_pageOf.desc).map (fun d => d.parameters.length) = some 2 := by decide +kernel
theorem hdX6_sail : yX6_sail.cls ≠ "java/lang/invoke/MethodHandle" ∧ yX6_sail.cls ≠ "java/lang/invoke/VarHandle" ∧ (parseMethodDescriptor yX6_sail.desc).map (fun d => d.parameters.length) = some 2 := by decide +kernel
theorem hdX6_startOver : yX6_startOver.cls ≠ "java/lang/invoke/MethodHandle" ∧ yX6_startOver.cls ≠ "java/lang/invoke/VarHandle" ∧ (parseMethodDescriptor yX6_startOver.desc).map (fun d => d.parameters.length) = some 1 := by decide +kernel
theorem hdX6_takeOil : yX6_takeOil.cls ≠ "java/lang/invoke/MethodHandle" ∧ yX6_takeOil.cls ≠ "java/lang/invoke/VarHandle" ∧ (parseMethodDescriptor yX6_takeOil.desc).map (fun d => d.parameters.length) = some 2 := by decide +kernel
theorem hdX7_append : yX7_append.cls ≠ "java/lang/invoke/MethodHandle" ∧ yX7_append.cls ≠ "java/lang/invoke/VarHandle" ∧ (parseMethodDescriptor yX7_append.desc).map (fun d => d.parameters.length) = some 1 := by decide +kernel
theorem hdX7_byteAt : yX7_byteAt.cls ≠ "java/lang/invoke/MethodHandle" ∧ yX7_byteAt.cls ≠ "java/lang/invoke/VarHandle" ∧ (parseMethodDescriptor yX7_byteAt.desc).map (fun d => d.parameters.length) = some 1 := by decide +kernel
theorem hdX7_clear : yX7_clear.cls ≠ "java/lang/invoke/MethodHandle" ∧ yX7_clear.cls ≠ "java/lang/invoke/VarHandle" ∧ (parseMethodDescriptor yX7_clear.desc).map (fun d => d.parameters.length) = some 0 := by decide +kernel
theorem hdX7_fail : yX7_fail.cls ≠ "java/lang/invoke/MethodHandle" ∧ yX7_fail.cls ≠ "java/lang/invoke/VarHandle" ∧ (parseMethodDescriptor yX7_fail.desc).map (fun d => d.parameters.length) = some 2 := by decide +kernel
theorem hdX7_isAtEnd : yX7_isAtEnd.cls ≠ "java/lang/invoke/MethodHandle" ∧ yX7_isAtEnd.cls ≠ "java/lang/invoke/VarHandle" ∧ (parseMethodDescriptor yX7_isAtEnd.desc).map (fun d => d.parameters.length) = some 0 := by decide +kernel
theorem hdX7_isFigure : yX7_isFigure.cls ≠ "java/lang/invoke/MethodHandle" ∧ yX7_isFigure.cls ≠ "java/lang/invoke/VarHandle" ∧ (parseMethodDescriptor yX7_isFigure.desc).map (fun d => d.parameters.length) = some 1 := by decide +kernel
theorem hdX7_isLetter : yX7_isLetter.cls ≠ "java/lang/invoke/MethodHandle" ∧ yX7_isLetter.cls ≠ "java/lang/invoke/VarHandle" ∧ (parseMethodDescriptor yX7_isLetter.desc).map (fun d => d.parameters.length) = some 1 := by decide +kernel
theorem hdX7_isNext : yX7_isNext.cls ≠ "java/lang/invoke/MethodHandle" ∧ yX7_isNext.cls ≠ "java/lang/invoke/VarHandle" ∧ (parseMethodDescriptor yX7_isNext.desc).map (fun d => d.parameters.length) = some 1 := by decide +kernel
theorem hdX7_isWord : yX7_isWord.cls ≠ "java/lang/invoke/MethodHandle" ∧ yX7_isWord.cls ≠ "java/lang/invoke/VarHandle" ∧ (parseMethodDescriptor yX7_isWord.desc).map (fun d => d.parameters.length) = some 1 := by decide +kernel
theorem hdX7_readNumber : yX7_readNumber.cls ≠ "java/lang/invoke/MethodHandle" ∧ yX7_readNumber.cls ≠ "java/lang/invoke/VarHandle" ∧ (parseMethodDescriptor yX7_readNumber.desc).map (fun d => d.parameters.length) = some 2 := by decide +kernel
theorem hdX7_readSign : yX7_readSign.cls ≠ "java/lang/invoke/MethodHandle" ∧ yX7_readSign.cls ≠ "java/lang/invoke/VarHandle" ∧ (parseMethodDescriptor yX7_readSign.desc).map (fun d => d.parameters.length) = some 1 := by decide +kernel
theorem hdX7_readWord : yX7_readWord.cls ≠ "java/lang/invoke/MethodHandle" ∧ yX7_readWord.cls ≠ "java/lang/invoke/VarHandle" ∧ (parseMethodDescriptor yX7_readWord.desc).map (fun d => d.parameters.length) = some 0 := by decide +kernel
theorem hdX7_skipBlanks : yX7_skipBlanks.cls ≠ "java/lang/invoke/MethodHandle" ∧ yX7_skipBlanks.cls ≠ "java/lang/invoke/VarHandle" ∧ (parseMethodDescriptor yX7_skipBlanks.desc).map (fun d => d.parameters.length) = some 0 := by decide +kernel
theorem hdX7_startReading : yX7_startReading.cls ≠ "java/lang/invoke/MethodHandle" ∧ yX7_startReading.cls ≠ "java/lang/invoke/VarHandle" ∧ (parseMethodDescriptor yX7_startReading.desc).map (fun d => d.parameters.length) = some 0 := by decide +kernel
theorem hdX8_at : yX8_at.cls ≠ "java/lang/invoke/MethodHandle" ∧ yX8_at.cls ≠ "java/lang/invoke/VarHandle" ∧ (parseMethodDescriptor yX8_at.desc).map (fun d => d.parameters.length) = some 2 := by decide +kernel
theorem hdX8_copyRow : yX8_copyRow.cls ≠ "java/lang/invoke/MethodHandle" ∧ yX8_copyRow.cls ≠ "java/lang/invoke/VarHandle" ∧ (parseMethodDescriptor yX8_copyRow.desc).map (fun d => d.parameters.length) = some 2 := by decide +kernel
theorem hdX8_forgetImages : yX8_forgetImages.cls ≠ "java/lang/invoke/MethodHandle" ∧ yX8_forgetImages.cls ≠ "java/lang/invoke/VarHandle" ∧ (parseMethodDescriptor yX8_forgetImages.desc).map (fun d => d.parameters.length) = some 0 := by decide +kernel
theorem hdX8_isNoImage : yX8_isNoImage.cls ≠ "java/lang/invoke/MethodHandle" ∧ yX8_isNoImage.cls ≠ "java/lang/invoke/VarHandle" ∧ (parseMethodDescriptor yX8_isNoImage.desc).map (fun d => d.parameters.length) = some 1 := by decide +kernel
theorem hdX8_isNoLight : yX8_isNoLight.cls ≠ "java/lang/invoke/MethodHandle" ∧ yX8_isNoLight.cls ≠ "java/lang/invoke/VarHandle" ∧ (parseMethodDescriptor yX8_isNoLight.desc).map (fun d => d.parameters.length) = some 1 := by decide +kernel
theorem hdX8_isNoSky : yX8_isNoSky.cls ≠ "java/lang/invoke/MethodHandle" ∧ yX8_isNoSky.cls ≠ "java/lang/invoke/VarHandle" ∧ (parseMethodDescriptor yX8_isNoSky.desc).map (fun d => d.parameters.length) = some 1 := by decide +kernel
theorem hdX8_kindWord : yX8_kindWord.cls ≠ "java/lang/invoke/MethodHandle" ∧ yX8_kindWord.cls ≠ "java/lang/invoke/VarHandle" ∧ (parseMethodDescriptor yX8_kindWord.desc).map (fun d => d.parameters.length) = some 1 := by decide +kernel
theorem hdX8_needOfNights : yX8_needOfNights.cls ≠ "java/lang/invoke/MethodHandle" ∧ yX8_needOfNights.cls ≠ "java/lang/invoke/VarHandle" ∧ (parseMethodDescriptor yX8_needOfNights.desc).map (fun d => d.parameters.length) = some 2 := by decide +kernel
theorem hdX8_nightsNotDark : yX8_nightsNotDark.cls ≠ "java/lang/invoke/MethodHandle" ∧ yX8_nightsNotDark.cls ≠ "java/lang/invoke/VarHandle" ∧ (parseMethodDescriptor yX8_nightsNotDark.desc).map (fun d => d.parameters.length) = some 2 := by decide +kernel
theorem hdX8_oddsTooLate : yX8_oddsTooLate.cls ≠ "java/lang/invoke/MethodHandle" ∧ yX8_oddsTooLate.cls ≠ "java/lang/invoke/VarHandle" ∧ (parseMethodDescriptor yX8_oddsTooLate.desc).map (fun d => d.parameters.length) = some 2 := by decide +kernel
theorem hdX8_put : yX8_put.cls ≠ "java/lang/invoke/MethodHandle" ∧ yX8_put.cls ≠ "java/lang/invoke/VarHandle" ∧ (parseMethodDescriptor yX8_put.desc).map (fun d => d.parameters.length) = some 3 := by decide +kernel
theorem hdX8_refuseText : yX8_refuseText.cls ≠ "java/lang/invoke/MethodHandle" ∧ yX8_refuseText.cls ≠ "java/lang/invoke/VarHandle" ∧ (parseMethodDescriptor yX8_refuseText.desc).map (fun d => d.parameters.length) = some 0 := by decide +kernel
theorem hdX8_skyWord : yX8_skyWord.cls ≠ "java/lang/invoke/MethodHandle" ∧ yX8_skyWord.cls ≠ "java/lang/invoke/VarHandle" ∧ (parseMethodDescriptor yX8_skyWord.desc).map (fun d => d.parameters.length) = some 1 := by decide +kernel
theorem hdX8_sumOver : yX8_sumOver.cls ≠ "java/lang/invoke/MethodHandle" ∧ yX8_sumOver.cls ≠ "java/lang/invoke/VarHandle" ∧ (parseMethodDescriptor yX8_sumOver.desc).map (fun d => d.parameters.length) = some 2 := by decide +kernel
theorem hdX9_add : yX9_add.cls ≠ "java/lang/invoke/MethodHandle" ∧ yX9_add.cls ≠ "java/lang/invoke/VarHandle" ∧ (parseMethodDescriptor yX9_add.desc).map (fun d => d.parameters.length) = some 3 := by decide +kernel
theorem hdX9_anew : yX9_anew.cls ≠ "java/lang/invoke/MethodHandle" ∧ yX9_anew.cls ≠ "java/lang/invoke/VarHandle" ∧ (parseMethodDescriptor yX9_anew.desc).map (fun d => d.parameters.length) = some 0 := by decide +kernel
theorem hdX9_bits : yX9_bits.cls ≠ "java/lang/invoke/MethodHandle" ∧ yX9_bits.cls ≠ "java/lang/invoke/VarHandle" ∧ (parseMethodDescriptor yX9_bits.desc).map (fun d => d.parameters.length) = some 1 := by decide +kernel
theorem hdX9_burn : yX9_burn.cls ≠ "java/lang/invoke/MethodHandle" ∧ yX9_burn.cls ≠ "java/lang/invoke/VarHandle" ∧ (parseMethodDescriptor yX9_burn.desc).map (fun d => d.parameters.length) = some 2 := by decide +kernel
theorem hdX9_code : yX9_code.cls ≠ "java/lang/invoke/MethodHandle" ∧ yX9_code.cls ≠ "java/lang/invoke/VarHandle" ∧ (parseMethodDescriptor yX9_code.desc).map (fun d => d.parameters.length) = some 3 := by decide +kernel
theorem hdX9_dayOf : yX9_dayOf.cls ≠ "java/lang/invoke/MethodHandle" ∧ yX9_dayOf.cls ≠ "java/lang/invoke/VarHandle" ∧ (parseMethodDescriptor yX9_dayOf.desc).map (fun d => d.parameters.length) = some 1 := by decide +kernel
theorem hdX9_draw : yX9_draw.cls ≠ "java/lang/invoke/MethodHandle" ∧ yX9_draw.cls ≠ "java/lang/invoke/VarHandle" ∧ (parseMethodDescriptor yX9_draw.desc).map (fun d => d.parameters.length) = some 1 := by decide +kernel
theorem hdX9_fails : yX9_fails.cls ≠ "java/lang/invoke/MethodHandle" ∧ yX9_fails.cls ≠ "java/lang/invoke/VarHandle" ∧ (parseMethodDescriptor yX9_fails.desc).map (fun d => d.parameters.length) = some 2 := by decide +kernel
theorem hdX9_goalOf : yX9_goalOf.cls ≠ "java/lang/invoke/MethodHandle" ∧ yX9_goalOf.cls ≠ "java/lang/invoke/VarHandle" ∧ (parseMethodDescriptor yX9_goalOf.desc).map (fun d => d.parameters.length) = some 3 := by decide +kernel
theorem hdX9_has : yX9_has.cls ≠ "java/lang/invoke/MethodHandle" ∧ yX9_has.cls ≠ "java/lang/invoke/VarHandle" ∧ (parseMethodDescriptor yX9_has.desc).map (fun d => d.parameters.length) = some 2 := by decide +kernel
theorem hdX9_here : yX9_here.cls ≠ "java/lang/invoke/MethodHandle" ∧ yX9_here.cls ≠ "java/lang/invoke/VarHandle" ∧ (parseMethodDescriptor yX9_here.desc).map (fun d => d.parameters.length) = some 0 := by decide +kernel
theorem hdX9_in : yX9_in.cls ≠ "java/lang/invoke/MethodHandle" ∧ yX9_in.cls ≠ "java/lang/invoke/VarHandle" ∧ (parseMethodDescriptor yX9_in.desc).map (fun d => d.parameters.length) = some 3 := by decide +kernel
theorem hdX9_into : yX9_into.cls ≠ "java/lang/invoke/MethodHandle" ∧ yX9_into.cls ≠ "java/lang/invoke/VarHandle" ∧ (parseMethodDescriptor yX9_into.desc).map (fun d => d.parameters.length) = some 4 := by decide +kernel
theorem hdX9_isDays : yX9_isDays.cls ≠ "java/lang/invoke/MethodHandle" ∧ yX9_isDays.cls ≠ "java/lang/invoke/VarHandle" ∧ (parseMethodDescriptor yX9_isDays.desc).map (fun d => d.parameters.length) = some 1 := by decide +kernel
theorem hdX9_isLight : yX9_isLight.cls ≠ "java/lang/invoke/MethodHandle" ∧ yX9_isLight.cls ≠ "java/lang/invoke/VarHandle" ∧ (parseMethodDescriptor yX9_isLight.desc).map (fun d => d.parameters.length) = some 1 := by decide +kernel
theorem hdX9_isOut : yX9_isOut.cls ≠ "java/lang/invoke/MethodHandle" ∧ yX9_isOut.cls ≠ "java/lang/invoke/VarHandle" ∧ (parseMethodDescriptor yX9_isOut.desc).map (fun d => d.parameters.length) = some 2 := by decide +kernel
theorem hdX9_isSky : yX9_isSky.cls ≠ "java/lang/invoke/MethodHandle" ∧ yX9_isSky.cls ≠ "java/lang/invoke/VarHandle" ∧ (parseMethodDescriptor yX9_isSky.desc).map (fun d => d.parameters.length) = some 1 := by decide +kernel
theorem hdX9_lastsWith : yX9_lastsWith.cls ≠ "java/lang/invoke/MethodHandle" ∧ yX9_lastsWith.cls ≠ "java/lang/invoke/VarHandle" ∧ (parseMethodDescriptor yX9_lastsWith.desc).map (fun d => d.parameters.length) = some 2 := by decide +kernel
theorem hdX9_lateWith : yX9_lateWith.cls ≠ "java/lang/invoke/MethodHandle" ∧ yX9_lateWith.cls ≠ "java/lang/invoke/VarHandle" ∧ (parseMethodDescriptor yX9_lateWith.desc).map (fun d => d.parameters.length) = some 2 := by decide +kernel
theorem hdX9_leak : yX9_leak.cls ≠ "java/lang/invoke/MethodHandle" ∧ yX9_leak.cls ≠ "java/lang/invoke/VarHandle" ∧ (parseMethodDescriptor yX9_leak.desc).map (fun d => d.parameters.length) = some 1 := by decide +kernel
theorem hdX9_lesser : yX9_lesser.cls ≠ "java/lang/invoke/MethodHandle" ∧ yX9_lesser.cls ≠ "java/lang/invoke/VarHandle" ∧ (parseMethodDescriptor yX9_lesser.desc).map (fun d => d.parameters.length) = some 2 := by decide +kernel
theorem hdX9_load : yX9_load.cls ≠ "java/lang/invoke/MethodHandle" ∧ yX9_load.cls ≠ "java/lang/invoke/VarHandle" ∧ (parseMethodDescriptor yX9_load.desc).map (fun d => d.parameters.length) = some 1 := by decide +kernel
theorem hdX9_longer : yX9_longer.cls ≠ "java/lang/invoke/MethodHandle" ∧ yX9_longer.cls ≠ "java/lang/invoke/VarHandle" ∧ (parseMethodDescriptor yX9_longer.desc).map (fun d => d.parameters.length) = some 3 := by decide +kernel
theorem hdX9_needs : yX9_needs.cls ≠ "java/lang/invoke/MethodHandle" ∧ yX9_needs.cls ≠ "java/lang/invoke/VarHandle" ∧ (parseMethodDescriptor yX9_needs.desc).map (fun d => d.parameters.length) = some 3 := by decide +kernel
theorem hdX9_needsOn : yX9_needsOn.cls ≠ "java/lang/invoke/MethodHandle" ∧ yX9_needsOn.cls ≠ "java/lang/invoke/VarHandle" ∧ (parseMethodDescriptor yX9_needsOn.desc).map (fun d => d.parameters.length) = some 2 := by decide +kernel
theorem hdX9_pace : yX9_pace.cls ≠ "java/lang/invoke/MethodHandle" ∧ yX9_pace.cls ≠ "java/lang/invoke/VarHandle" ∧ (parseMethodDescriptor yX9_pace.desc).map (fun d => d.parameters.length) = some 1 := by decide +kernel
theorem hdX9_power : yX9_power.cls ≠ "java/lang/invoke/MethodHandle" ∧ yX9_power.cls ≠ "java/lang/invoke/VarHandle" ∧ (parseMethodDescriptor yX9_power.desc).map (fun d => d.parameters.length) = some 1 := by decide +kernel
theorem hdX9_readWord : yX9_readWord.cls ≠ "java/lang/invoke/MethodHandle" ∧ yX9_readWord.cls ≠ "java/lang/invoke/VarHandle" ∧ (parseMethodDescriptor yX9_readWord.desc).map (fun d => d.parameters.length) = some 0 := by decide +kernel
theorem hdX9_sail : yX9_sail.cls ≠ "java/lang/invoke/MethodHandle" ∧ yX9_sail.cls ≠ "java/lang/invoke/VarHandle" ∧ (parseMethodDescriptor yX9_sail.desc).map (fun d => d.parameters.length) = some 1 := by decide +kernel
theorem hdX9_save : yX9_save.cls ≠ "java/lang/invoke/MethodHandle" ∧ yX9_save.cls ≠ "java/lang/invoke/VarHandle" ∧ (parseMethodDescriptor yX9_save.desc).map (fun d => d.parameters.length) = some 1 := by decide +kernel
theorem hdX9_skyAll : yX9_skyAll.cls ≠ "java/lang/invoke/MethodHandle" ∧ yX9_skyAll.cls ≠ "java/lang/invoke/VarHandle" ∧ (parseMethodDescriptor yX9_skyAll.desc).map (fun d => d.parameters.length) = some 0 := by decide +kernel
theorem hdX9_skyOf : yX9_skyOf.cls ≠ "java/lang/invoke/MethodHandle" ∧ yX9_skyOf.cls ≠ "java/lang/invoke/VarHandle" ∧ (parseMethodDescriptor yX9_skyOf.desc).map (fun d => d.parameters.length) = some 1 := by decide +kernel
theorem hdX9_takeClause : yX9_takeClause.cls ≠ "java/lang/invoke/MethodHandle" ∧ yX9_takeClause.cls ≠ "java/lang/invoke/VarHandle" ∧ (parseMethodDescriptor yX9_takeClause.desc).map (fun d => d.parameters.length) = some 0 := by decide +kernel
theorem hdX9_takeLight : yX9_takeLight.cls ≠ "java/lang/invoke/MethodHandle" ∧ yX9_takeLight.cls ≠ "java/lang/invoke/VarHandle" ∧ (parseMethodDescriptor yX9_takeLight.desc).map (fun d => d.parameters.length) = some 0 := by decide +kernel
theorem hdX9_takeNights : yX9_takeNights.cls ≠ "java/lang/invoke/MethodHandle" ∧ yX9_takeNights.cls ≠ "java/lang/invoke/VarHandle" ∧ (parseMethodDescriptor yX9_takeNights.desc).map (fun d => d.parameters.length) = some 0 := by decide +kernel
theorem hdX9_takeNumber : yX9_takeNumber.cls ≠ "java/lang/invoke/MethodHandle" ∧ yX9_takeNumber.cls ≠ "java/lang/invoke/VarHandle" ∧ (parseMethodDescriptor yX9_takeNumber.desc).map (fun d => d.parameters.length) = some 2 := by decide +kernel
theorem hdX9_takeOdds : yX9_takeOdds.cls ≠ "java/lang/invoke/MethodHandle" ∧ yX9_takeOdds.cls ≠ "java/lang/invoke/VarHandle" ∧ (parseMethodDescriptor yX9_takeOdds.desc).map (fun d => d.parameters.length) = some 0 := by decide +kernel
theorem hdX9_takeOnce : yX9_takeOnce.cls ≠ "java/lang/invoke/MethodHandle" ∧ yX9_takeOnce.cls ≠ "java/lang/invoke/VarHandle" ∧ (parseMethodDescriptor yX9_takeOnce.desc).map (fun d => d.parameters.length) = some 1 := by decide +kernel
theorem hdX9_takeReef : yX9_takeReef.cls ≠ "java/lang/invoke/MethodHandle" ∧ yX9_takeReef.cls ≠ "java/lang/invoke/VarHandle" ∧ (parseMethodDescriptor yX9_takeReef.desc).map (fun d => d.parameters.length) = some 0 := by decide +kernel
theorem hdX9_takeSky : yX9_takeSky.cls ≠ "java/lang/invoke/MethodHandle" ∧ yX9_takeSky.cls ≠ "java/lang/invoke/VarHandle" ∧ (parseMethodDescriptor yX9_takeSky.desc).map (fun d => d.parameters.length) = some 0 := by decide +kernel
theorem hdX9_wrongOf : yX9_wrongOf.cls ≠ "java/lang/invoke/MethodHandle" ∧ yX9_wrongOf.cls ≠ "java/lang/invoke/VarHandle" ∧ (parseMethodDescriptor yX9_wrongOf.desc).map (fun d => d.parameters.length) = some 1 := by decide +kernel
