def wp_X6_copyFrom (nl0 : Nat) (v0 : Vl) (nl1 : Nat) (v1 : Vl)  (Q : Vl → Prop) : Prop := wp_X8_copyRow 9 (v1.2.2.1 0) 9 (v0.2.2.1 0) (fun u_1 => ∀ v0s_2 : Vl, v0s_2 = setRA v0 0 u_1 → wp_X8_copyRow 9 (v1.2.2.1 1) 9 (v0s_2.2.2.1 1) (fun u_3 => ∀ v0s_4 : Vl, v0s_4 = setRA v0s_2 1 u_3 → wp_X8_copyRow 9 (v1.2.2.1 2) 9 (v0s_4.2.2.1 2) (fun u_5 => ∀ v0s_6 : Vl, v0s_6 = setRA v0s_4 2 u_5 → wp_X8_copyRow 9 (v1.2.2.1 3) 9 (v0s_6.2.2.1 3) (fun u_7 => ∀ v0s_8 : Vl, v0s_8 = setRA v0s_6 3 u_7 → wp_X8_copyRow nl1 (v1.2.2.1 4) nl0 (v0s_8.2.2.1 4) (fun u_9 => ∀ v0s_10 : Vl, v0s_10 = setRA v0s_8 4 u_9 → ∀ v0s_11 : Vl, v0s_11 = setI v0s_10 5 (v1.1 5) → ∀ v0s_12 : Vl, v0s_12 = setI v0s_11 6 (v1.1 6) → ∀ v0s_13 : Vl, v0s_13 = setI v0s_12 7 (v1.1 7) → ∀ v0s_14 : Vl, v0s_14 = setI v0s_13 8 (v1.1 8) → ∀ v0s_15 : Vl, v0s_15 = setI v0s_14 9 (v1.1 9) → ∀ v0s_16 : Vl, v0s_16 = setI v0s_15 10 (v1.1 10) → ∀ v0s_17 : Vl, v0s_17 = setI v0s_16 11 (v1.1 11) → ∀ v0s_18 : Vl, v0s_18 = setI v0s_17 12 (v1.1 12) → ∀ v0s_19 : Vl, v0s_19 = setI v0s_18 13 (v1.1 13) → ∀ v0s_20 : Vl, v0s_20 = setI v0s_19 14 (v1.1 14) → ∀ v0s_21 : Vl, v0s_21 = setI v0s_20 15 (v1.1 15) → ∀ v0s_22 : Vl, v0s_22 = setJ v0s_21 16 (v1.2.1 16) → Q v0s_22)))))
set_option maxHeartbeats 4000000 in
set_option maxRecDepth 100000 in
theorem c_X6_copyFrom (l : Launch) (D : GG) (cI cJ cZ cS : ClassId) (nl0 : Nat) (a0 : Nat) (r0 : Nat → Nat) (v0 : Vl) (nl1 : Nat) (a1 : Nat) (r1 : Nat → Nat) (v1 : Vl)  (Q : Vl → Prop) (h : wp_X6_copyFrom nl0 v0 nl1 v1 Q) : Mv l D (tyL cI cJ cZ cS) yX6_copyFrom cX6_copyFrom 2 2 61 [.ref a0, .ref a1] (List.flatten [bX6 cI cJ cZ nl0 a0 r0 v0, bX6 cI cJ cZ nl1 a1 r1 v1]) (fun (u : Vl) => Q u) (fun (u : Vl) => List.flatten [bX6 cI cJ cZ nl0 a0 r0 u, bX6 cI cJ cZ nl1 a1 r1 v1]) := by
  refine Mv_of RX6 [(0, .ref a0), (1, .ref a1)] (by decide +kernel) rfl rfl (Nat.le_of_ble_eq_true rfl) ?_
  intro p e s m args below meth c A C hr hk
  refine J_aload_n C 1 dX6_copyFrom_0 rfl rfl ?_
  refine J_get C 4 6 inlX6 6 0 rfl rfl (by decide) wd94 rfl rfl dX6_copyFrom_1 rfl ?_
  refine J_aload_n C 5 dX6_copyFrom_4 rfl rfl ?_
  refine J_get C 8 6 inlX6 0 0 rfl rfl (by decide) wd94 rfl rfl dX6_copyFrom_5 rfl ?_
  refine J_call2vSN (As := [.ref (r1 0), .ref (r0 0)]) C 11 (c_X8_copyRow l D cI cJ cZ cS 9 (r1 0) (v1.2.2.1 0) 9 (r0 0) (v0.2.2.1 0) _ h) wd779 (mi 64 rfl) wd2 wd778 hdX8_copyRow ⟨Nat.le_of_ble_eq_true rfl, Nat.le_of_ble_eq_true rfl⟩ ⟨Nat.zero_le _, Nat.zero_le _⟩ rfl (Nat.le_of_ble_eq_true rfl) 7 1 rfl rfl (by decide) (fun u => .inl (cI, 9, .inl u)) (fun _ => rfl) (fun (u : (Nat → Int32)) => List.flatten [bX6 cI cJ cZ nl0 a0 r0 (setRA v0 0 u), bX6 cI cJ cZ nl1 a1 r1 v1]) (fun _ => rfl) dX6_copyFrom_8 rfl (fun u h => ?_)
  obtain ⟨u_1, hu⟩ : ∃ z, z = u := ⟨_, rfl⟩
  subst hu
  obtain ⟨v0s_2, ev0s_2⟩ : ∃ z : Vl, z = setRA v0 0 u_1 := ⟨_, rfl⟩
  have h := h v0s_2 ev0s_2
  refine J_ws (ws' := List.flatten [bX6 cI cJ cZ nl0 a0 r0 v0s_2, bX6 cI cJ cZ nl1 a1 r1 v1]) (by subst ev0s_2; rfl) ?_
  refine J_aload_n C 12 dX6_copyFrom_11 rfl rfl ?_
  refine J_get C 15 6 inlX6 6 1 rfl rfl (by decide) wd95 rfl rfl dX6_copyFrom_12 rfl ?_
  refine J_aload_n C 16 dX6_copyFrom_15 rfl rfl ?_
  refine J_get C 19 6 inlX6 0 1 rfl rfl (by decide) wd95 rfl rfl dX6_copyFrom_16 rfl ?_
  refine J_call2vSN (As := [.ref (r1 1), .ref (r0 1)]) C 22 (c_X8_copyRow l D cI cJ cZ cS 9 (r1 1) (v1.2.2.1 1) 9 (r0 1) (v0s_2.2.2.1 1) _ h) wd779 (mi 64 rfl) wd2 wd778 hdX8_copyRow ⟨Nat.le_of_ble_eq_true rfl, Nat.le_of_ble_eq_true rfl⟩ ⟨Nat.zero_le _, Nat.zero_le _⟩ rfl (Nat.le_of_ble_eq_true rfl) 8 2 rfl rfl (by decide) (fun u => .inl (cI, 9, .inl u)) (fun _ => rfl) (fun (u : (Nat → Int32)) => List.flatten [bX6 cI cJ cZ nl0 a0 r0 (setRA v0s_2 1 u), bX6 cI cJ cZ nl1 a1 r1 v1]) (fun _ => rfl) dX6_copyFrom_19 rfl (fun u h => ?_)
  obtain ⟨u_3, hu⟩ : ∃ z, z = u := ⟨_, rfl⟩
  subst hu
  obtain ⟨v0s_4, ev0s_4⟩ : ∃ z : Vl, z = setRA v0s_2 1 u_3 := ⟨_, rfl⟩
  have h := h v0s_4 ev0s_4
  refine J_ws (ws' := List.flatten [bX6 cI cJ cZ nl0 a0 r0 v0s_4, bX6 cI cJ cZ nl1 a1 r1 v1]) (by subst ev0s_4; rfl) ?_
  refine J_aload_n C 23 dX6_copyFrom_22 rfl rfl ?_
  refine J_get C 26 6 inlX6 6 2 rfl rfl (by decide) wd96 rfl rfl dX6_copyFrom_23 rfl ?_
  refine J_aload_n C 27 dX6_copyFrom_26 rfl rfl ?_
  refine J_get C 30 6 inlX6 0 2 rfl rfl (by decide) wd96 rfl rfl dX6_copyFrom_27 rfl ?_
  refine J_call2vSN (As := [.ref (r1 2), .ref (r0 2)]) C 33 (c_X8_copyRow l D cI cJ cZ cS 9 (r1 2) (v1.2.2.1 2) 9 (r0 2) (v0s_4.2.2.1 2) _ h) wd779 (mi 64 rfl) wd2 wd778 hdX8_copyRow ⟨Nat.le_of_ble_eq_true rfl, Nat.le_of_ble_eq_true rfl⟩ ⟨Nat.zero_le _, Nat.zero_le _⟩ rfl (Nat.le_of_ble_eq_true rfl) 9 3 rfl rfl (by decide) (fun u => .inl (cI, 9, .inl u)) (fun _ => rfl) (fun (u : (Nat → Int32)) => List.flatten [bX6 cI cJ cZ nl0 a0 r0 (setRA v0s_4 2 u), bX6 cI cJ cZ nl1 a1 r1 v1]) (fun _ => rfl) dX6_copyFrom_30 rfl (fun u h => ?_)
  obtain ⟨u_5, hu⟩ : ∃ z, z = u := ⟨_, rfl⟩
  subst hu
  obtain ⟨v0s_6, ev0s_6⟩ : ∃ z : Vl, z = setRA v0s_4 2 u_5 := ⟨_, rfl⟩
  have h := h v0s_6 ev0s_6
  refine J_ws (ws' := List.flatten [bX6 cI cJ cZ nl0 a0 r0 v0s_6, bX6 cI cJ cZ nl1 a1 r1 v1]) (by subst ev0s_6; rfl) ?_
  refine J_aload_n C 34 dX6_copyFrom_33 rfl rfl ?_
  refine J_get C 37 6 inlX6 6 3 rfl rfl (by decide) wd97 rfl rfl dX6_copyFrom_34 rfl ?_
  refine J_aload_n C 38 dX6_copyFrom_37 rfl rfl ?_
  refine J_get C 41 6 inlX6 0 3 rfl rfl (by decide) wd97 rfl rfl dX6_copyFrom_38 rfl ?_
  refine J_call2vSN (As := [.ref (r1 3), .ref (r0 3)]) C 44 (c_X8_copyRow l D cI cJ cZ cS 9 (r1 3) (v1.2.2.1 3) 9 (r0 3) (v0s_6.2.2.1 3) _ h) wd779 (mi 64 rfl) wd2 wd778 hdX8_copyRow ⟨Nat.le_of_ble_eq_true rfl, Nat.le_of_ble_eq_true rfl⟩ ⟨Nat.zero_le _, Nat.zero_le _⟩ rfl (Nat.le_of_ble_eq_true rfl) 10 4 rfl rfl (by decide) (fun u => .inl (cI, 9, .inl u)) (fun _ => rfl) (fun (u : (Nat → Int32)) => List.flatten [bX6 cI cJ cZ nl0 a0 r0 (setRA v0s_6 3 u), bX6 cI cJ cZ nl1 a1 r1 v1]) (fun _ => rfl) dX6_copyFrom_41 rfl (fun u h => ?_)
  obtain ⟨u_7, hu⟩ : ∃ z, z = u := ⟨_, rfl⟩
  subst hu
  obtain ⟨v0s_8, ev0s_8⟩ : ∃ z : Vl, z = setRA v0s_6 3 u_7 := ⟨_, rfl⟩
  have h := h v0s_8 ev0s_8
  refine J_ws (ws' := List.flatten [bX6 cI cJ cZ nl0 a0 r0 v0s_8, bX6 cI cJ cZ nl1 a1 r1 v1]) (by subst ev0s_8; rfl) ?_
  refine J_aload_n C 45 dX6_copyFrom_44 rfl rfl ?_
  refine J_get C 48 6 inlX6 6 4 rfl rfl (by decide) wd102 rfl rfl dX6_copyFrom_45 rfl ?_
  refine J_aload_n C 49 dX6_copyFrom_48 rfl rfl ?_
  refine J_get C 52 6 inlX6 0 4 rfl rfl (by decide) wd102 rfl rfl dX6_copyFrom_49 rfl ?_
  refine J_call2vSN (As := [.ref (r1 4), .ref (r0 4)]) C 55 (c_X8_copyRow l D cI cJ cZ cS nl1 (r1 4) (v1.2.2.1 4) nl0 (r0 4) (v0s_8.2.2.1 4) _ h) wd779 (mi 64 rfl) wd2 wd778 hdX8_copyRow ⟨Nat.le_of_ble_eq_true rfl, Nat.le_of_ble_eq_true rfl⟩ ⟨Nat.zero_le _, Nat.zero_le _⟩ rfl (Nat.le_of_ble_eq_true rfl) 11 5 rfl rfl (by decide) (fun u => .inl (cI, nl0, .inl u)) (fun _ => rfl) (fun (u : (Nat → Int32)) => List.flatten [bX6 cI cJ cZ nl0 a0 r0 (setRA v0s_8 4 u), bX6 cI cJ cZ nl1 a1 r1 v1]) (fun _ => rfl) dX6_copyFrom_52 rfl (fun u h => ?_)
  obtain ⟨u_9, hu⟩ : ∃ z, z = u := ⟨_, rfl⟩
  subst hu
  obtain ⟨v0s_10, ev0s_10⟩ : ∃ z : Vl, z = setRA v0s_8 4 u_9 := ⟨_, rfl⟩
  have h := h v0s_10 ev0s_10
  refine J_ws (ws' := List.flatten [bX6 cI cJ cZ nl0 a0 r0 v0s_10, bX6 cI cJ cZ nl1 a1 r1 v1]) (by subst ev0s_10; rfl) ?_
  refine J_aload_n C 56 dX6_copyFrom_55 rfl rfl ?_
  refine J_aload_n C 57 dX6_copyFrom_56 rfl rfl ?_
  refine J_get C 60 6 inlX6 6 5 rfl rfl (by decide) wd136 rfl rfl dX6_copyFrom_57 rfl ?_
  obtain ⟨v0s_11, ev0s_11⟩ : ∃ z : Vl, z = setI v0s_10 5 (v1.1 5) := ⟨_, rfl⟩
  have h := h v0s_11 ev0s_11
  refine J_put C 63 6 inlX6 tyX6 tyX6_ok nmX6 0 5 rfl rfl (by decide) wd136 rfl rfl rfl rfl rfl (List.flatten [bX6 cI cJ cZ nl0 a0 r0 v0s_11, bX6 cI cJ cZ nl1 a1 r1 v1]) (by subst ev0s_11; rfl) dX6_copyFrom_60 rfl ?_
  refine J_aload_n C 64 dX6_copyFrom_63 rfl rfl ?_
  refine J_aload_n C 65 dX6_copyFrom_64 rfl rfl ?_
  refine J_get C 68 6 inlX6 6 6 rfl rfl (by decide) wd137 rfl rfl dX6_copyFrom_65 rfl ?_
  obtain ⟨v0s_12, ev0s_12⟩ : ∃ z : Vl, z = setI v0s_11 6 (v1.1 6) := ⟨_, rfl⟩
  have h := h v0s_12 ev0s_12
  refine J_put C 71 6 inlX6 tyX6 tyX6_ok nmX6 0 6 rfl rfl (by decide) wd137 rfl rfl rfl rfl rfl (List.flatten [bX6 cI cJ cZ nl0 a0 r0 v0s_12, bX6 cI cJ cZ nl1 a1 r1 v1]) (by subst ev0s_12; rfl) dX6_copyFrom_68 rfl ?_
  refine J_aload_n C 72 dX6_copyFrom_71 rfl rfl ?_
  refine J_aload_n C 73 dX6_copyFrom_72 rfl rfl ?_
  refine J_get C 76 6 inlX6 6 7 rfl rfl (by decide) wd138 rfl rfl dX6_copyFrom_73 rfl ?_
  obtain ⟨v0s_13, ev0s_13⟩ : ∃ z : Vl, z = setI v0s_12 7 (v1.1 7) := ⟨_, rfl⟩
  have h := h v0s_13 ev0s_13
  refine J_put C 79 6 inlX6 tyX6 tyX6_ok nmX6 0 7 rfl rfl (by decide) wd138 rfl rfl rfl rfl rfl (List.flatten [bX6 cI cJ cZ nl0 a0 r0 v0s_13, bX6 cI cJ cZ nl1 a1 r1 v1]) (by subst ev0s_13; rfl) dX6_copyFrom_76 rfl ?_
  refine J_aload_n C 80 dX6_copyFrom_79 rfl rfl ?_
  refine J_aload_n C 81 dX6_copyFrom_80 rfl rfl ?_
  refine J_get C 84 6 inlX6 6 8 rfl rfl (by decide) wd139 rfl rfl dX6_copyFrom_81 rfl ?_
  obtain ⟨v0s_14, ev0s_14⟩ : ∃ z : Vl, z = setI v0s_13 8 (v1.1 8) := ⟨_, rfl⟩
  have h := h v0s_14 ev0s_14
  refine J_put C 87 6 inlX6 tyX6 tyX6_ok nmX6 0 8 rfl rfl (by decide) wd139 rfl rfl rfl rfl rfl (List.flatten [bX6 cI cJ cZ nl0 a0 r0 v0s_14, bX6 cI cJ cZ nl1 a1 r1 v1]) (by subst ev0s_14; rfl) dX6_copyFrom_84 rfl ?_
  refine J_aload_n C 88 dX6_copyFrom_87 rfl rfl ?_
  refine J_aload_n C 89 dX6_copyFrom_88 rfl rfl ?_
  refine J_get C 92 6 inlX6 6 9 rfl rfl (by decide) wd103 rfl rfl dX6_copyFrom_89 rfl ?_
  obtain ⟨v0s_15, ev0s_15⟩ : ∃ z : Vl, z = setI v0s_14 9 (v1.1 9) := ⟨_, rfl⟩
  have h := h v0s_15 ev0s_15
  refine J_put C 95 6 inlX6 tyX6 tyX6_ok nmX6 0 9 rfl rfl (by decide) wd103 rfl rfl rfl rfl rfl (List.flatten [bX6 cI cJ cZ nl0 a0 r0 v0s_15, bX6 cI cJ cZ nl1 a1 r1 v1]) (by subst ev0s_15; rfl) dX6_copyFrom_92 rfl ?_
  refine J_aload_n C 96 dX6_copyFrom_95 rfl rfl ?_
  refine J_aload_n C 97 dX6_copyFrom_96 rfl rfl ?_
  refine J_get C 100 6 inlX6 6 10 rfl rfl (by decide) wd140 rfl rfl dX6_copyFrom_97 rfl ?_
  obtain ⟨v0s_16, ev0s_16⟩ : ∃ z : Vl, z = setI v0s_15 10 (v1.1 10) := ⟨_, rfl⟩
  have h := h v0s_16 ev0s_16
  refine J_put C 103 6 inlX6 tyX6 tyX6_ok nmX6 0 10 rfl rfl (by decide) wd140 rfl rfl rfl rfl rfl (List.flatten [bX6 cI cJ cZ nl0 a0 r0 v0s_16, bX6 cI cJ cZ nl1 a1 r1 v1]) (by subst ev0s_16; rfl) dX6_copyFrom_100 rfl ?_
  refine J_aload_n C 104 dX6_copyFrom_103 rfl rfl ?_
  refine J_aload_n C 105 dX6_copyFrom_104 rfl rfl ?_
  refine J_get C 108 6 inlX6 6 11 rfl rfl (by decide) wd141 rfl rfl dX6_copyFrom_105 rfl ?_
  obtain ⟨v0s_17, ev0s_17⟩ : ∃ z : Vl, z = setI v0s_16 11 (v1.1 11) := ⟨_, rfl⟩
  have h := h v0s_17 ev0s_17
  refine J_put C 111 6 inlX6 tyX6 tyX6_ok nmX6 0 11 rfl rfl (by decide) wd141 rfl rfl rfl rfl rfl (List.flatten [bX6 cI cJ cZ nl0 a0 r0 v0s_17, bX6 cI cJ cZ nl1 a1 r1 v1]) (by subst ev0s_17; rfl) dX6_copyFrom_108 rfl ?_
  refine J_aload_n C 112 dX6_copyFrom_111 rfl rfl ?_
  refine J_aload_n C 113 dX6_copyFrom_112 rfl rfl ?_
  refine J_get C 116 6 inlX6 6 12 rfl rfl (by decide) wd142 rfl rfl dX6_copyFrom_113 rfl ?_
  obtain ⟨v0s_18, ev0s_18⟩ : ∃ z : Vl, z = setI v0s_17 12 (v1.1 12) := ⟨_, rfl⟩
  have h := h v0s_18 ev0s_18
  refine J_put C 119 6 inlX6 tyX6 tyX6_ok nmX6 0 12 rfl rfl (by decide) wd142 rfl rfl rfl rfl rfl (List.flatten [bX6 cI cJ cZ nl0 a0 r0 v0s_18, bX6 cI cJ cZ nl1 a1 r1 v1]) (by subst ev0s_18; rfl) dX6_copyFrom_116 rfl ?_
  refine J_aload_n C 120 dX6_copyFrom_119 rfl rfl ?_
  refine J_aload_n C 121 dX6_copyFrom_120 rfl rfl ?_
  refine J_get C 124 6 inlX6 6 13 rfl rfl (by decide) wd143 rfl rfl dX6_copyFrom_121 rfl ?_
  obtain ⟨v0s_19, ev0s_19⟩ : ∃ z : Vl, z = setI v0s_18 13 (v1.1 13) := ⟨_, rfl⟩
  have h := h v0s_19 ev0s_19
  refine J_put C 127 6 inlX6 tyX6 tyX6_ok nmX6 0 13 rfl rfl (by decide) wd143 rfl rfl rfl rfl rfl (List.flatten [bX6 cI cJ cZ nl0 a0 r0 v0s_19, bX6 cI cJ cZ nl1 a1 r1 v1]) (by subst ev0s_19; rfl) dX6_copyFrom_124 rfl ?_
  refine J_aload_n C 128 dX6_copyFrom_127 rfl rfl ?_
  refine J_aload_n C 129 dX6_copyFrom_128 rfl rfl ?_
  refine J_get C 132 6 inlX6 6 14 rfl rfl (by decide) wd144 rfl rfl dX6_copyFrom_129 rfl ?_
  obtain ⟨v0s_20, ev0s_20⟩ : ∃ z : Vl, z = setI v0s_19 14 (v1.1 14) := ⟨_, rfl⟩
  have h := h v0s_20 ev0s_20
  refine J_put C 135 6 inlX6 tyX6 tyX6_ok nmX6 0 14 rfl rfl (by decide) wd144 rfl rfl rfl rfl rfl (List.flatten [bX6 cI cJ cZ nl0 a0 r0 v0s_20, bX6 cI cJ cZ nl1 a1 r1 v1]) (by subst ev0s_20; rfl) dX6_copyFrom_132 rfl ?_
  refine J_aload_n C 136 dX6_copyFrom_135 rfl rfl ?_
  refine J_aload_n C 137 dX6_copyFrom_136 rfl rfl ?_
  refine J_get C 140 6 inlX6 6 15 rfl rfl (by decide) wd145 rfl rfl dX6_copyFrom_137 rfl ?_
  obtain ⟨v0s_21, ev0s_21⟩ : ∃ z : Vl, z = setI v0s_20 15 (v1.1 15) := ⟨_, rfl⟩
  have h := h v0s_21 ev0s_21
  refine J_put C 143 6 inlX6 tyX6 tyX6_ok nmX6 0 15 rfl rfl (by decide) wd145 rfl rfl rfl rfl rfl (List.flatten [bX6 cI cJ cZ nl0 a0 r0 v0s_21, bX6 cI cJ cZ nl1 a1 r1 v1]) (by subst ev0s_21; rfl) dX6_copyFrom_140 rfl ?_
  refine J_aload_n C 144 dX6_copyFrom_143 rfl rfl ?_
  refine J_aload_n C 145 dX6_copyFrom_144 rfl rfl ?_
  refine J_get C 148 6 inlX6 6 16 rfl rfl (by decide) wd726 rfl rfl dX6_copyFrom_145 rfl ?_
  obtain ⟨v0s_22, ev0s_22⟩ : ∃ z : Vl, z = setJ v0s_21 16 (v1.2.1 16) := ⟨_, rfl⟩
  have h := h v0s_22 ev0s_22
  refine J_put C 151 6 inlX6 tyX6 tyX6_ok nmX6 0 16 rfl rfl (by decide) wd726 rfl rfl rfl rfl rfl (List.flatten [bX6 cI cJ cZ nl0 a0 r0 v0s_22, bX6 cI cJ cZ nl1 a1 r1 v1]) (by subst ev0s_22; rfl) dX6_copyFrom_148 rfl ?_
  exact J_vret C hr hk v0s_22 rfl dX6_copyFrom_151 h
def wp_X6_countDark_c56 (nl0 : Nat) (v1 : Vl) (Q : Vl → Prop) (v0 : Vl) (y2 : Int32) (y3 : Int32) : Prop := wp_X8_at 9 (v1.2.2.1 4) y2 (fun r_8 => ((¬ y3 = 1 → ∀ v0s_9 : Vl, v0s_9 = setI v0 10 ((v0.1 10) + (r_8 * 1)) → Q v0s_9) ∧ (y3 = 1 → ∀ v0s_10 : Vl, v0s_10 = setI v0 10 ((v0.1 10) + (r_8 * 2)) → Q v0s_10)))
set_option maxHeartbeats 4000000 in
set_option maxRecDepth 100000 in
theorem wk_X6_countDark_c56 {p : Program} {l : Launch} {e : Env} {s : State} {m : MethodId} {args : Array Value} {below : List Frame} {meth : Method} {c : Code} {D : GG} {A : Nat → Prop} {cI cJ cZ cS : ClassId} {nl0 : Nat} {a0 : Nat} {r0 : Nat → Nat} {a1 : Nat} {r1 : Nat → Nat} {v1 : Vl} {Q : Vl → Prop} (C : Cx p s m args c D (tyL cI cJ cZ cS) A RX6 cX6_countDark 5) (hr : meth.sig.returnType = none) (hk : meth.locks = false) : ∀ (v0 : Vl) (y2 : Int32) (y3 : Int32), wp_X6_countDark_c56 nl0 v1 Q v0 y2 y3 → J p l e (rmk 1 22) s m args below meth c D A 5 0 0 (MQ below (va_Qv (fun (u : Vl) => Q u) (fun u t => va_P D.1 vwCl ((fun (u : Vl) => List.flatten [bX6 cI cJ cZ nl0 a0 r0 u, bX3 cI cJ cZ a1 r1 v1]) u) t.heap ∧ va_D A ((fun (u : Vl) => List.flatten [bX6 cI cJ cZ nl0 a0 r0 u, bX3 cI cJ cZ a1 r1 v1]) u)) A) args s 0 0 A) 56 [(0, .ref a0), (1, .ref a1), (2, .int y2), (3, .int y3)] [] (List.flatten [bX6 cI cJ cZ nl0 a0 r0 v0, bX3 cI cJ cZ a1 r1 v1]) := by
  intro v0 y2 y3 h
  refine J_aload_n C 57 dX6_countDark_56 rfl rfl ?_
  refine J_dup C 58 dX6_countDark_57 rfl rfl ?_
  refine J_get C 61 6 inlX6 0 10 rfl rfl (by decide) wd140 rfl rfl dX6_countDark_58 rfl ?_
  refine J_aload_n C 62 dX6_countDark_61 rfl rfl ?_
  refine J_getN C 65 3 inlX3 6 4 rfl rfl (by decide) (mi 47 rfl) rfl rfl dX6_countDark_62 rfl ?_
  refine J_iload_n C 66 dX6_countDark_65 rfl rfl ?_
  refine J_call1piSN (As := [.ref (r1 4), .int y2]) C 69 (c_X8_at l D cI cJ cZ cS 9 (r1 4) (v1.2.2.1 4) y2 _ h) wd147 (mi 62 rfl) wd2 wd146 hdX8_at ⟨Nat.le_of_ble_eq_true rfl, Nat.le_of_ble_eq_true rfl⟩ ⟨Nat.zero_le _, Nat.zero_le _⟩ rfl (Nat.le_of_ble_eq_true rfl) 11 rfl (fun _ => rfl) dX6_countDark_66 rfl (fun r_8 u h => ?_)
  refine J_iload_n C 70 dX6_countDark_69 rfl rfl ?_
  refine J_iconst C 71 dX6_countDark_70 rfl ki_1 ?_
  refine J_icmp_ne C 74 78 dX6_countDark_71 rfl rfl (fun c => ?_) (fun c => ?_)
  · have h := h.1 c
    refine J_iconst C 79 dX6_countDark_78 rfl ki_1 ?_
    refine J_imul C 80 dX6_countDark_79 rfl ?_
    refine J_iadd C 81 dX6_countDark_80 rfl ?_
    obtain ⟨v0s_9, ev0s_9⟩ : ∃ z : Vl, z = setI v0 10 ((v0.1 10) + (r_8 * 1)) := ⟨_, rfl⟩
    have h := h v0s_9 ev0s_9
    refine J_put C 84 6 inlX6 tyX6 tyX6_ok nmX6 0 10 rfl rfl (by decide) wd140 rfl rfl rfl rfl rfl (List.flatten [bX6 cI cJ cZ nl0 a0 r0 v0s_9, bX3 cI cJ cZ a1 r1 v1]) (by subst ev0s_9; rfl) dX6_countDark_81 rfl ?_
    exact J_vret C hr hk v0s_9 rfl dX6_countDark_84 h
  · have h := h.2 c
    refine J_iconst C 75 dX6_countDark_74 rfl ki_2 ?_
    refine J_goto C 79 dX6_countDark_75 rfl ?_
    refine J_imul C 80 dX6_countDark_79 rfl ?_
    refine J_iadd C 81 dX6_countDark_80 rfl ?_
    obtain ⟨v0s_10, ev0s_10⟩ : ∃ z : Vl, z = setI v0 10 ((v0.1 10) + (r_8 * 2)) := ⟨_, rfl⟩
    have h := h v0s_10 ev0s_10
    refine J_put C 84 6 inlX6 tyX6 tyX6_ok nmX6 0 10 rfl rfl (by decide) wd140 rfl rfl rfl rfl rfl (List.flatten [bX6 cI cJ cZ nl0 a0 r0 v0s_10, bX3 cI cJ cZ a1 r1 v1]) (by subst ev0s_10; rfl) dX6_countDark_81 rfl ?_
    exact J_vret C hr hk v0s_10 rfl dX6_countDark_84 h
def wp_X6_countDark (nl0 : Nat) (v0 : Vl) (v1 : Vl) (x2 : Int32) (x3 : Int32) (Q : Vl → Prop) : Prop := wp_X8_at 9 (v0.2.2.1 2) x2 (fun r_1 => ∀ x_2 : Int32, x_2 = (r_1 + 1) → wp_X8_put 9 (v0.2.2.1 2) x2 x_2 (fun u_3 => ∀ v0s_4 : Vl, v0s_4 = setRA v0 2 u_3 → wp_X8_at 9 (v0s_4.2.2.1 3) x2 (fun r_5 => wp_X8_put 9 (v0s_4.2.2.1 3) x2 (r_5 + 1) (fun u_6 => ∀ v0s_7 : Vl, v0s_7 = setRA v0s_4 3 u_6 → ((x_2 < 2 → wp_X6_countDark_c56 nl0 v1 Q v0s_7 x2 x3) ∧ (¬ x_2 < 2 → ∀ v0s_11 : Vl, v0s_11 = setI v0s_7 11 ((v0s_7.1 11) + 1) → wp_X6_countDark_c56 nl0 v1 Q v0s_11 x2 x3))))))
set_option maxHeartbeats 4000000 in
set_option maxRecDepth 100000 in
theorem c_X6_countDark (l : Launch) (D : GG) (cI cJ cZ cS : ClassId) (nl0 : Nat) (a0 : Nat) (r0 : Nat → Nat) (v0 : Vl) (a1 : Nat) (r1 : Nat → Nat) (v1 : Vl) (x2 : Int32) (x3 : Int32) (Q : Vl → Prop) (h : wp_X6_countDark nl0 v0 v1 x2 x3 Q) : Mv l D (tyL cI cJ cZ cS) yX6_countDark cX6_countDark 5 1 22 [.ref a0, .ref a1, .int x2, .int x3] (List.flatten [bX6 cI cJ cZ nl0 a0 r0 v0, bX3 cI cJ cZ a1 r1 v1]) (fun (u : Vl) => Q u) (fun (u : Vl) => List.flatten [bX6 cI cJ cZ nl0 a0 r0 u, bX3 cI cJ cZ a1 r1 v1]) := by
  refine Mv_of RX6 [(0, .ref a0), (1, .ref a1), (2, .int x2), (3, .int x3)] (by decide +kernel) rfl rfl (Nat.le_of_ble_eq_true rfl) ?_
  intro p e s m args below meth c A C hr hk
  refine J_aload_n C 1 dX6_countDark_0 rfl rfl ?_
  refine J_get C 4 6 inlX6 0 2 rfl rfl (by decide) wd96 rfl rfl dX6_countDark_1 rfl ?_
  refine J_iload_n C 5 dX6_countDark_4 rfl rfl ?_
  refine J_call1piSN (As := [.ref (r0 2), .int x2]) C 8 (c_X8_at l D cI cJ cZ cS 9 (r0 2) (v0.2.2.1 2) x2 _ h) wd147 (mi 62 rfl) wd2 wd146 hdX8_at ⟨Nat.le_of_ble_eq_true rfl, Nat.le_of_ble_eq_true rfl⟩ ⟨Nat.zero_le _, Nat.zero_le _⟩ rfl (Nat.le_of_ble_eq_true rfl) 3 rfl (fun _ => rfl) dX6_countDark_5 rfl (fun r_1 u h => ?_)
  refine J_iconst C 9 dX6_countDark_8 rfl ki_1 ?_
  refine J_iadd C 10 dX6_countDark_9 rfl ?_
  obtain ⟨x_2, ex_2⟩ : ∃ z : Int32, z = (r_1 + 1) := ⟨_, rfl⟩
  have h := h x_2 ex_2
  refine J_nmi ex_2 ?_
  refine J_istore C 12 [(4, .int x_2), (0, .ref a0), (1, .ref a1), (2, .int x2), (3, .int x3)] dX6_countDark_10 rfl (by decide) rfl ?_
  refine J_aload_n C 13 dX6_countDark_12 rfl rfl ?_
  refine J_get C 16 6 inlX6 0 2 rfl rfl (by decide) wd96 rfl rfl dX6_countDark_13 rfl ?_
  refine J_iload_n C 17 dX6_countDark_16 rfl rfl ?_
  refine J_iload C 19 dX6_countDark_17 rfl rfl ?_
  refine J_call1vSN (As := [.ref (r0 2), .int x2, .int x_2]) C 22 (c_X8_put l D cI cJ cZ cS 9 (r0 2) (v0.2.2.1 2) x2 x_2 _ h) wd83 (mi 63 rfl) wd2 wd82 hdX8_put ⟨Nat.le_of_ble_eq_true rfl, Nat.le_of_ble_eq_true rfl⟩ ⟨Nat.zero_le _, Nat.zero_le _⟩ rfl (Nat.le_of_ble_eq_true rfl) 3 rfl (fun u => .inl (cI, 9, .inl u)) (fun _ => rfl) (fun (u : (Nat → Int32)) => List.flatten [bX6 cI cJ cZ nl0 a0 r0 (setRA v0 2 u), bX3 cI cJ cZ a1 r1 v1]) (fun _ => rfl) dX6_countDark_19 rfl (fun u h => ?_)
  obtain ⟨u_3, hu⟩ : ∃ z, z = u := ⟨_, rfl⟩
  subst hu
  obtain ⟨v0s_4, ev0s_4⟩ : ∃ z : Vl, z = setRA v0 2 u_3 := ⟨_, rfl⟩
  have h := h v0s_4 ev0s_4
  refine J_ws (ws' := List.flatten [bX6 cI cJ cZ nl0 a0 r0 v0s_4, bX3 cI cJ cZ a1 r1 v1]) (by subst ev0s_4; rfl) ?_
  refine J_aload_n C 23 dX6_countDark_22 rfl rfl ?_
  refine J_get C 26 6 inlX6 0 3 rfl rfl (by decide) wd97 rfl rfl dX6_countDark_23 rfl ?_
  refine J_iload_n C 27 dX6_countDark_26 rfl rfl ?_
  refine J_aload_n C 28 dX6_countDark_27 rfl rfl ?_
  refine J_get C 31 6 inlX6 0 3 rfl rfl (by decide) wd97 rfl rfl dX6_countDark_28 rfl ?_
  refine J_iload_n C 32 dX6_countDark_31 rfl rfl ?_
  refine J_call1piSN (As := [.ref (r0 3), .int x2]) C 35 (c_X8_at l D cI cJ cZ cS 9 (r0 3) (v0s_4.2.2.1 3) x2 _ h) wd147 (mi 62 rfl) wd2 wd146 hdX8_at ⟨Nat.le_of_ble_eq_true rfl, Nat.le_of_ble_eq_true rfl⟩ ⟨Nat.zero_le _, Nat.zero_le _⟩ rfl (Nat.le_of_ble_eq_true rfl) 4 rfl (fun _ => rfl) dX6_countDark_32 rfl (fun r_5 u h => ?_)
  refine J_iconst C 36 dX6_countDark_35 rfl ki_1 ?_
  refine J_iadd C 37 dX6_countDark_36 rfl ?_
  refine J_call1vSN (As := [.ref (r0 3), .int x2, .int (r_5 + 1)]) C 40 (c_X8_put l D cI cJ cZ cS 9 (r0 3) (v0s_4.2.2.1 3) x2 (r_5 + 1) _ h) wd83 (mi 63 rfl) wd2 wd82 hdX8_put ⟨Nat.le_of_ble_eq_true rfl, Nat.le_of_ble_eq_true rfl⟩ ⟨Nat.zero_le _, Nat.zero_le _⟩ rfl (Nat.le_of_ble_eq_true rfl) 4 rfl (fun u => .inl (cI, 9, .inl u)) (fun _ => rfl) (fun (u : (Nat → Int32)) => List.flatten [bX6 cI cJ cZ nl0 a0 r0 (setRA v0s_4 3 u), bX3 cI cJ cZ a1 r1 v1]) (fun _ => rfl) dX6_countDark_37 rfl (fun u h => ?_)
  obtain ⟨u_6, hu⟩ : ∃ z, z = u := ⟨_, rfl⟩
  subst hu
  obtain ⟨v0s_7, ev0s_7⟩ : ∃ z : Vl, z = setRA v0s_4 3 u_6 := ⟨_, rfl⟩
  have h := h v0s_7 ev0s_7
  refine J_ws (ws' := List.flatten [bX6 cI cJ cZ nl0 a0 r0 v0s_7, bX3 cI cJ cZ a1 r1 v1]) (by subst ev0s_7; rfl) ?_
  refine J_iload C 42 dX6_countDark_40 rfl rfl ?_
  refine J_iconst C 43 dX6_countDark_42 rfl ki_2 ?_
  refine J_icmp_lt C 46 56 dX6_countDark_43 rfl rfl (fun c => ?_) (fun c => ?_)
  · have h := h.1 c
    refine J_loc [1, 2, 3, 4] rfl ?_
    exact wk_X6_countDark_c56 C hr hk v0s_7 x2 x3 h
  · have h := h.2 c
    refine J_aload_n C 47 dX6_countDark_46 rfl rfl ?_
    refine J_dup C 48 dX6_countDark_47 rfl rfl ?_
    refine J_get C 51 6 inlX6 0 11 rfl rfl (by decide) wd141 rfl rfl dX6_countDark_48 rfl ?_
    refine J_iconst C 52 dX6_countDark_51 rfl ki_1 ?_
    refine J_iadd C 53 dX6_countDark_52 rfl ?_
    obtain ⟨v0s_11, ev0s_11⟩ : ∃ z : Vl, z = setI v0s_7 11 ((v0s_7.1 11) + 1) := ⟨_, rfl⟩
    have h := h v0s_11 ev0s_11
    refine J_put C 56 6 inlX6 tyX6 tyX6_ok nmX6 0 11 rfl rfl (by decide) wd141 rfl rfl rfl rfl rfl (List.flatten [bX6 cI cJ cZ nl0 a0 r0 v0s_11, bX3 cI cJ cZ a1 r1 v1]) (by subst ev0s_11; rfl) dX6_countDark_53 rfl ?_
    refine J_loc [1, 2, 3, 4] rfl ?_
    exact wk_X6_countDark_c56 C hr hk v0s_11 x2 x3 h
def wp_X6_draw (nl0 : Nat) (v0 : Vl) (x1 : Int32) (Q : Int32 → Vl → Prop) : Prop := ∀ v0s_1 : Vl, v0s_1 = setJ v0 16 ((((v0.2.1 16) * 1103515245) + 12345) &&& 2147483647) → ((1 ≤ x1 → ¬ (Int32.toInt64 x1) = 0 ∧ (Q (Int64.toInt32 (((v0s_1.2.1 16) / 65536) - ((v0s_1.2.1 16) / 65536) / (Int32.toInt64 x1) * (Int32.toInt64 x1))) v0s_1)) ∧ (¬ 1 ≤ x1 → Q 0 v0s_1))
set_option maxHeartbeats 4000000 in
set_option maxRecDepth 100000 in
theorem c_X6_draw (l : Launch) (D : GG) (cI cJ cZ cS : ClassId) (nl0 : Nat) (a0 : Nat) (r0 : Nat → Nat) (v0 : Vl) (x1 : Int32) (Q : Int32 → Vl → Prop) (h : wp_X6_draw nl0 v0 x1 Q) : Mi l D (tyL cI cJ cZ cS) yX6_draw cX6_draw 2 .int 0 0 [.ref a0, .int x1] (List.flatten [bX6 cI cJ cZ nl0 a0 r0 v0]) (fun (r : Int32) (u : Vl) => Q r u) (fun (u : Vl) => List.flatten [bX6 cI cJ cZ nl0 a0 r0 u]) := by
  refine Mi_of RX6 [(0, .ref a0), (1, .int x1)] (by decide +kernel) rfl rfl (Nat.le_of_ble_eq_true rfl) ?_
  intro p e s m args below meth c A C hr hk
  refine J_aload_n C 1 dX6_draw_0 rfl rfl ?_
  refine J_aload_n C 2 dX6_draw_1 rfl rfl ?_
  refine J_get C 5 6 inlX6 0 16 rfl rfl (by decide) wd726 rfl rfl dX6_draw_2 rfl ?_
  refine J_ldc2 C 8 wd727 dX6_draw_5 rfl ?_
  refine J_lmul C 9 dX6_draw_8 rfl ?_
  refine J_ldc2 C 12 wd728 dX6_draw_9 rfl ?_
  refine J_ladd C 13 dX6_draw_12 rfl ?_
  refine J_ldc2 C 16 wd729 dX6_draw_13 rfl ?_
  refine J_land C 17 dX6_draw_16 rfl ?_
  obtain ⟨v0s_1, ev0s_1⟩ : ∃ z : Vl, z = setJ v0 16 ((((v0.2.1 16) * 1103515245) + 12345) &&& 2147483647) := ⟨_, rfl⟩
  have h := h v0s_1 ev0s_1
  refine J_put C 20 6 inlX6 tyX6 tyX6_ok nmX6 0 16 rfl rfl (by decide) wd726 rfl rfl rfl rfl rfl (List.flatten [bX6 cI cJ cZ nl0 a0 r0 v0s_1]) (by subst ev0s_1; rfl) dX6_draw_17 rfl ?_
  refine J_iload_n C 21 dX6_draw_20 rfl rfl ?_
  refine J_iconst C 22 dX6_draw_21 rfl ki_1 ?_
  refine J_icmp_ge C 25 29 dX6_draw_22 rfl rfl (fun c => ?_) (fun c => ?_)
  · have h := h.1 c
    refine J_aload_n C 30 dX6_draw_29 rfl rfl ?_
    refine J_get C 33 6 inlX6 0 16 rfl rfl (by decide) wd726 rfl rfl dX6_draw_30 rfl ?_
    refine J_ldc2 C 36 wd730 dX6_draw_33 rfl ?_
    refine J_ldiv C 37 dX6_draw_36 rfl (by decide) ?_
    refine J_iload_n C 38 dX6_draw_37 rfl rfl ?_
    refine J_i2l C 39 dX6_draw_38 rfl ?_
    obtain ⟨hne, h⟩ := h
    refine J_lrem C 40 dX6_draw_39 rfl hne ?_
    refine J_l2i C 41 dX6_draw_40 rfl ?_
    exact J_iret C hr hk v0s_1 rfl dX6_draw_41 h
  · have h := h.2 c
    refine J_iconst C 26 dX6_draw_25 rfl ki_0 ?_
    refine J_goto C 41 dX6_draw_26 rfl ?_
    exact J_iret C hr hk v0s_1 rfl dX6_draw_41 h
def wp_X6_drawSky (nl0 : Nat) (v0 : Vl) (v1 : Vl)  (Q : Int32 → Vl → Prop) : Prop := wp_X6_draw nl0 v0 100 (fun r_2 u_1 => wp_X3_chanceOf v1 (u_1.1 13) 0 (fun r_3 => ((r_3 ≤ r_2 → wp_X3_chanceOf v1 (u_1.1 13) 1 (fun r_4 => (((r_3 + r_4) ≤ r_2 → Q 2 u_1) ∧ (¬ (r_3 + r_4) ≤ r_2 → Q 1 u_1)))) ∧ (¬ r_3 ≤ r_2 → Q 0 u_1))))
set_option maxHeartbeats 4000000 in
set_option maxRecDepth 100000 in
theorem c_X6_drawSky (l : Launch) (D : GG) (cI cJ cZ cS : ClassId) (nl0 : Nat) (a0 : Nat) (r0 : Nat → Nat) (v0 : Vl) (a1 : Nat) (r1 : Nat → Nat) (v1 : Vl)  (Q : Int32 → Vl → Prop) (h : wp_X6_drawSky nl0 v0 v1 Q) : Mi l D (tyL cI cJ cZ cS) yX6_drawSky cX6_drawSky 4 .int 2 43 [.ref a0, .ref a1] (List.flatten [bX6 cI cJ cZ nl0 a0 r0 v0, bX3 cI cJ cZ a1 r1 v1]) (fun (r : Int32) (u : Vl) => Q r u) (fun (u : Vl) => List.flatten [bX6 cI cJ cZ nl0 a0 r0 u, bX3 cI cJ cZ a1 r1 v1]) := by
  refine Mi_of RX6 [(0, .ref a0), (1, .ref a1)] (by decide +kernel) rfl rfl (Nat.le_of_ble_eq_true rfl) ?_
  intro p e s m args below meth c A C hr hk
  refine J_aload_n C 1 dX6_drawSky_0 rfl rfl ?_
  refine J_bipush C 3 dX6_drawSky_1 rfl kb_100 ?_
  refine J_callBiV (Bs := [bX6 cI cJ cZ nl0 a0 r0 v0, bX3 cI cJ cZ a1 r1 v1]) (As := [.int 100]) C 6 (c_X6_draw l D cI cJ cZ cS nl0 a0 r0 v0 100 _ h) wd725 wd722 wd29 wd723 wd724 6 0 rfl rfl rfl hdX6_draw ⟨Nat.le_of_ble_eq_true rfl, Nat.le_of_ble_eq_true rfl⟩ ⟨Nat.zero_le _, Nat.zero_le _⟩ rfl (Nat.le_of_ble_eq_true rfl) [0] [1] 2 rfl (by decide +kernel) rfl rfl (fun (u : Vl) => [bX6 cI cJ cZ nl0 a0 r0 u]) (fun _ => rfl) [0, 1] (by decide +kernel) (fun _ => rfl) rfl (fun (u : Vl) => [bX6 cI cJ cZ nl0 a0 r0 u, bX3 cI cJ cZ a1 r1 v1]) (fun _ => rfl) dX6_drawSky_3 rfl (fun r_2 u h => ?_)
  obtain ⟨u_1, hu⟩ : ∃ z, z = u := ⟨_, rfl⟩
  subst hu
  refine J_istore_n C 7 [(2, .int r_2), (0, .ref a0), (1, .ref a1)] dX6_drawSky_6 rfl (by decide) rfl ?_
  refine J_aload_n C 8 dX6_drawSky_7 rfl rfl ?_
  refine J_aload_n C 9 dX6_drawSky_8 rfl rfl ?_
  refine J_get C 12 6 inlX6 0 13 rfl rfl (by decide) wd143 rfl rfl dX6_drawSky_9 rfl ?_
  refine J_iconst C 13 dX6_drawSky_12 rfl ki_0 ?_
  refine J_callBiV (Bs := [bX6 cI cJ cZ nl0 a0 r0 u_1, bX3 cI cJ cZ a1 r1 v1]) (As := [.int (u_1.1 13), .int 0]) C 16 (c_X3_chanceOf l D cI cJ cZ cS a1 r1 v1 (u_1.1 13) 0 _ h) wd580 wd731 wd19 wd578 wd579 3 0 rfl rfl rfl hdX3_chanceOf ⟨Nat.le_of_ble_eq_true rfl, Nat.le_of_ble_eq_true rfl⟩ ⟨Nat.zero_le _, Nat.zero_le _⟩ rfl (Nat.le_of_ble_eq_true rfl) [1] [0] 2 rfl (by decide +kernel) rfl rfl (fun (u : Unit) => [bX3 cI cJ cZ a1 r1 v1]) (fun _ => rfl) [1, 0] (by decide +kernel) (fun _ => rfl) rfl (fun (u : Unit) => [bX6 cI cJ cZ nl0 a0 r0 u_1, bX3 cI cJ cZ a1 r1 v1]) (fun _ => rfl) dX6_drawSky_13 rfl (fun r_3 u h => ?_)
  refine J_istore_n C 17 [(3, .int r_3), (2, .int r_2), (0, .ref a0), (1, .ref a1)] dX6_drawSky_16 rfl (by decide) rfl ?_
  refine J_iload_n C 18 dX6_drawSky_17 rfl rfl ?_
  refine J_iload_n C 19 dX6_drawSky_18 rfl rfl ?_
  refine J_icmp_ge C 22 24 dX6_drawSky_19 rfl rfl (fun c => ?_) (fun c => ?_)
  · have h := h.1 c
    refine J_iload_n C 25 dX6_drawSky_24 rfl rfl ?_
    refine J_iload_n C 26 dX6_drawSky_25 rfl rfl ?_
    refine J_aload_n C 27 dX6_drawSky_26 rfl rfl ?_
    refine J_aload_n C 28 dX6_drawSky_27 rfl rfl ?_
    refine J_get C 31 6 inlX6 0 13 rfl rfl (by decide) wd143 rfl rfl dX6_drawSky_28 rfl ?_
    refine J_iconst C 32 dX6_drawSky_31 rfl ki_1 ?_
    refine J_callBiV (Bs := [bX6 cI cJ cZ nl0 a0 r0 u_1, bX3 cI cJ cZ a1 r1 v1]) (As := [.int (u_1.1 13), .int 1]) C 35 (c_X3_chanceOf l D cI cJ cZ cS a1 r1 v1 (u_1.1 13) 1 _ h) wd580 wd731 wd19 wd578 wd579 3 0 rfl rfl rfl hdX3_chanceOf ⟨Nat.le_of_ble_eq_true rfl, Nat.le_of_ble_eq_true rfl⟩ ⟨Nat.zero_le _, Nat.zero_le _⟩ rfl (Nat.le_of_ble_eq_true rfl) [1] [0] 2 rfl (by decide +kernel) rfl rfl (fun (u : Unit) => [bX3 cI cJ cZ a1 r1 v1]) (fun _ => rfl) [1, 0] (by decide +kernel) (fun _ => rfl) rfl (fun (u : Unit) => [bX6 cI cJ cZ nl0 a0 r0 u_1, bX3 cI cJ cZ a1 r1 v1]) (fun _ => rfl) dX6_drawSky_32 rfl (fun r_4 u h => ?_)
    refine J_iadd C 36 dX6_drawSky_35 rfl ?_
    refine J_icmp_ge C 39 43 dX6_drawSky_36 rfl rfl (fun c => ?_) (fun c => ?_)
    · have h := h.1 c
      refine J_iconst C 44 dX6_drawSky_43 rfl ki_2 ?_
      exact J_iret C hr hk u_1 rfl dX6_drawSky_44 h
    · have h := h.2 c
      refine J_iconst C 40 dX6_drawSky_39 rfl ki_1 ?_
      refine J_goto C 44 dX6_drawSky_40 rfl ?_
      exact J_iret C hr hk u_1 rfl dX6_drawSky_44 h
  · have h := h.2 c
    refine J_iconst C 23 dX6_drawSky_22 rfl ki_0 ?_
    exact J_iret C hr hk u_1 rfl dX6_drawSky_23 h
def wp_X6_fillLight (nl0 : Nat) (v0 : Vl) (v1 : Vl) (x2 : Int32) (Q : Vl → Prop) : Prop := wp_X8_at 9 (v1.2.2.1 3) x2 (fun r_1 => wp_X8_at 9 (v0.2.2.1 0) x2 (fun r_2 => ∀ x_3 : Int32, x_3 = (if (r_1 - r_2) < (v0.1 8) then (r_1 - r_2) else (v0.1 8)) → ∀ v0s_4 : Vl, v0s_4 = setI v0 8 ((v0.1 8) - x_3) → wp_X8_at 9 (v0s_4.2.2.1 0) x2 (fun r_5 => wp_X8_put 9 (v0s_4.2.2.1 0) x2 (r_5 + x_3) (fun u_6 => ∀ v0s_7 : Vl, v0s_7 = setRA v0s_4 0 u_6 → Q v0s_7))))
set_option maxHeartbeats 4000000 in
set_option maxRecDepth 100000 in
theorem c_X6_fillLight (l : Launch) (D : GG) (cI cJ cZ cS : ClassId) (nl0 : Nat) (a0 : Nat) (r0 : Nat → Nat) (v0 : Vl) (a1 : Nat) (r1 : Nat → Nat) (v1 : Vl) (x2 : Int32) (Q : Vl → Prop) (h : wp_X6_fillLight nl0 v0 v1 x2 Q) : Mv l D (tyL cI cJ cZ cS) yX6_fillLight cX6_fillLight 4 1 22 [.ref a0, .ref a1, .int x2] (List.flatten [bX6 cI cJ cZ nl0 a0 r0 v0, bX3 cI cJ cZ a1 r1 v1]) (fun (u : Vl) => Q u) (fun (u : Vl) => List.flatten [bX6 cI cJ cZ nl0 a0 r0 u, bX3 cI cJ cZ a1 r1 v1]) := by
  refine Mv_of RX6 [(0, .ref a0), (1, .ref a1), (2, .int x2)] (by decide +kernel) rfl rfl (Nat.le_of_ble_eq_true rfl) ?_
  intro p e s m args below meth c A C hr hk
  refine J_aload_n C 1 dX6_fillLight_0 rfl rfl ?_
  refine J_get C 4 6 inlX6 0 8 rfl rfl (by decide) wd139 rfl rfl dX6_fillLight_1 rfl ?_
  refine J_aload_n C 5 dX6_fillLight_4 rfl rfl ?_
  refine J_getN C 8 3 inlX3 6 3 rfl rfl (by decide) (mi 48 rfl) rfl rfl dX6_fillLight_5 rfl ?_
  refine J_iload_n C 9 dX6_fillLight_8 rfl rfl ?_
  refine J_call1piSN (As := [.ref (r1 3), .int x2]) C 12 (c_X8_at l D cI cJ cZ cS 9 (r1 3) (v1.2.2.1 3) x2 _ h) wd147 (mi 62 rfl) wd2 wd146 hdX8_at ⟨Nat.le_of_ble_eq_true rfl, Nat.le_of_ble_eq_true rfl⟩ ⟨Nat.zero_le _, Nat.zero_le _⟩ rfl (Nat.le_of_ble_eq_true rfl) 10 rfl (fun _ => rfl) dX6_fillLight_9 rfl (fun r_1 u h => ?_)
  refine J_aload_n C 13 dX6_fillLight_12 rfl rfl ?_
  refine J_get C 16 6 inlX6 0 0 rfl rfl (by decide) wd94 rfl rfl dX6_fillLight_13 rfl ?_
  refine J_iload_n C 17 dX6_fillLight_16 rfl rfl ?_
  refine J_call1piSN (As := [.ref (r0 0), .int x2]) C 20 (c_X8_at l D cI cJ cZ cS 9 (r0 0) (v0.2.2.1 0) x2 _ h) wd147 (mi 62 rfl) wd2 wd146 hdX8_at ⟨Nat.le_of_ble_eq_true rfl, Nat.le_of_ble_eq_true rfl⟩ ⟨Nat.zero_le _, Nat.zero_le _⟩ rfl (Nat.le_of_ble_eq_true rfl) 1 rfl (fun _ => rfl) dX6_fillLight_17 rfl (fun r_2 u h => ?_)
  refine J_isub C 21 dX6_fillLight_20 rfl ?_
  refine J_mmin C 24 wd625 wd626 wd100 wd627 (Nat.le_of_ble_eq_true rfl) (Nat.le_of_ble_eq_true rfl) ⟨Nat.zero_le _, Nat.zero_le _⟩ dX6_fillLight_21 rfl ?_
  obtain ⟨x_3, ex_3⟩ : ∃ z : Int32, z = (if (r_1 - r_2) < (v0.1 8) then (r_1 - r_2) else (v0.1 8)) := ⟨_, rfl⟩
  have h := h x_3 ex_3
  refine J_nmi ex_3 ?_
  refine J_istore_n C 25 [(3, .int x_3), (0, .ref a0), (1, .ref a1), (2, .int x2)] dX6_fillLight_24 rfl (by decide) rfl ?_
  refine J_aload_n C 26 dX6_fillLight_25 rfl rfl ?_
  refine J_dup C 27 dX6_fillLight_26 rfl rfl ?_
  refine J_get C 30 6 inlX6 0 8 rfl rfl (by decide) wd139 rfl rfl dX6_fillLight_27 rfl ?_
  refine J_iload_n C 31 dX6_fillLight_30 rfl rfl ?_
  refine J_isub C 32 dX6_fillLight_31 rfl ?_
  obtain ⟨v0s_4, ev0s_4⟩ : ∃ z : Vl, z = setI v0 8 ((v0.1 8) - x_3) := ⟨_, rfl⟩
  have h := h v0s_4 ev0s_4
  refine J_put C 35 6 inlX6 tyX6 tyX6_ok nmX6 0 8 rfl rfl (by decide) wd139 rfl rfl rfl rfl rfl (List.flatten [bX6 cI cJ cZ nl0 a0 r0 v0s_4, bX3 cI cJ cZ a1 r1 v1]) (by subst ev0s_4; rfl) dX6_fillLight_32 rfl ?_
  refine J_aload_n C 36 dX6_fillLight_35 rfl rfl ?_
  refine J_get C 39 6 inlX6 0 0 rfl rfl (by decide) wd94 rfl rfl dX6_fillLight_36 rfl ?_
  refine J_iload_n C 40 dX6_fillLight_39 rfl rfl ?_
  refine J_aload_n C 41 dX6_fillLight_40 rfl rfl ?_
  refine J_get C 44 6 inlX6 0 0 rfl rfl (by decide) wd94 rfl rfl dX6_fillLight_41 rfl ?_
  refine J_iload_n C 45 dX6_fillLight_44 rfl rfl ?_
  refine J_call1piSN (As := [.ref (r0 0), .int x2]) C 48 (c_X8_at l D cI cJ cZ cS 9 (r0 0) (v0s_4.2.2.1 0) x2 _ h) wd147 (mi 62 rfl) wd2 wd146 hdX8_at ⟨Nat.le_of_ble_eq_true rfl, Nat.le_of_ble_eq_true rfl⟩ ⟨Nat.zero_le _, Nat.zero_le _⟩ rfl (Nat.le_of_ble_eq_true rfl) 1 rfl (fun _ => rfl) dX6_fillLight_45 rfl (fun r_5 u h => ?_)
  refine J_iload_n C 49 dX6_fillLight_48 rfl rfl ?_
  refine J_iadd C 50 dX6_fillLight_49 rfl ?_
  refine J_call1vSN (As := [.ref (r0 0), .int x2, .int (r_5 + x_3)]) C 53 (c_X8_put l D cI cJ cZ cS 9 (r0 0) (v0s_4.2.2.1 0) x2 (r_5 + x_3) _ h) wd83 (mi 63 rfl) wd2 wd82 hdX8_put ⟨Nat.le_of_ble_eq_true rfl, Nat.le_of_ble_eq_true rfl⟩ ⟨Nat.zero_le _, Nat.zero_le _⟩ rfl (Nat.le_of_ble_eq_true rfl) 1 rfl (fun u => .inl (cI, 9, .inl u)) (fun _ => rfl) (fun (u : (Nat → Int32)) => List.flatten [bX6 cI cJ cZ nl0 a0 r0 (setRA v0s_4 0 u), bX3 cI cJ cZ a1 r1 v1]) (fun _ => rfl) dX6_fillLight_50 rfl (fun u h => ?_)
  obtain ⟨u_6, hu⟩ : ∃ z, z = u := ⟨_, rfl⟩
  subst hu
  obtain ⟨v0s_7, ev0s_7⟩ : ∃ z : Vl, z = setRA v0s_4 0 u_6 := ⟨_, rfl⟩
  have h := h v0s_7 ev0s_7
  refine J_ws (ws' := List.flatten [bX6 cI cJ cZ nl0 a0 r0 v0s_7, bX3 cI cJ cZ a1 r1 v1]) (by subst ev0s_7; rfl) ?_
  exact J_vret C hr hk v0s_7 rfl dX6_fillLight_53 h
def wp_X6_isFillingBy (nl0 : Nat) (v0 : Vl) (v1 : Vl) (x2 : Int32) (x3 : Int32) (Q : Int32 → Prop) : Prop := (((v0.1 8) ≤ 0 → Q 0) ∧ (¬ (v0.1 8) ≤ 0 → wp_X8_at 9 (v0.2.2.1 0) x3 (fun r_1 => wp_X8_at 9 (v1.2.2.1 3) x3 (fun r_2 => ((r_2 ≤ r_1 → Q 0) ∧ (¬ r_2 ≤ r_1 → wp_X8_at 9 (v1.2.2.1 1) x3 (fun r_3 => wp_X3_milesBy v1 x2 (fun r_4 => ((r_4 < (if 0 ≤ (r_3 - (v0.1 7)) then (r_3 - (v0.1 7)) else 0 - (r_3 - (v0.1 7))) → Q 0) ∧ (¬ r_4 < (if 0 ≤ (r_3 - (v0.1 7)) then (r_3 - (v0.1 7)) else 0 - (r_3 - (v0.1 7))) → Q 1))))))))))
set_option maxHeartbeats 4000000 in
set_option maxRecDepth 100000 in
theorem c_X6_isFillingBy (l : Launch) (D : GG) (cI cJ cZ cS : ClassId) (nl0 : Nat) (a0 : Nat) (r0 : Nat → Nat) (v0 : Vl) (a1 : Nat) (r1 : Nat → Nat) (v1 : Vl) (x2 : Int32) (x3 : Int32) (Q : Int32 → Prop) (h : wp_X6_isFillingBy nl0 v0 v1 x2 x3 Q) : Mi l D (tyL cI cJ cZ cS) yX6_isFillingBy cX6_isFillingBy 4 .boolean 1 21 [.ref a0, .ref a1, .int x2, .int x3] (List.flatten [bX6 cI cJ cZ nl0 a0 r0 v0, bX3 cI cJ cZ a1 r1 v1]) (fun (r : Int32) (u : Unit) => Q r) (fun (u : Unit) => List.flatten [bX6 cI cJ cZ nl0 a0 r0 v0, bX3 cI cJ cZ a1 r1 v1]) := by
  refine Mi_of RX6 [(0, .ref a0), (1, .ref a1), (2, .int x2), (3, .int x3)] (by decide +kernel) rfl rfl (Nat.le_of_ble_eq_true rfl) ?_
  intro p e s m args below meth c A C hr hk
  refine J_aload_n C 1 dX6_isFillingBy_0 rfl rfl ?_
  refine J_get C 4 6 inlX6 0 8 rfl rfl (by decide) wd139 rfl rfl dX6_isFillingBy_1 rfl ?_
  refine J_if_le C 7 54 dX6_isFillingBy_4 rfl rfl (fun c => ?_) (fun c => ?_)
  · have h := h.1 c
    refine J_iconst C 55 dX6_isFillingBy_54 rfl ki_0 ?_
    exact J_zret C hr hk rfl () rfl dX6_isFillingBy_55 h
  · have h := h.2 c
    refine J_aload_n C 8 dX6_isFillingBy_7 rfl rfl ?_
    refine J_get C 11 6 inlX6 0 0 rfl rfl (by decide) wd94 rfl rfl dX6_isFillingBy_8 rfl ?_
    refine J_iload_n C 12 dX6_isFillingBy_11 rfl rfl ?_
    refine J_call1piSN (As := [.ref (r0 0), .int x3]) C 15 (c_X8_at l D cI cJ cZ cS 9 (r0 0) (v0.2.2.1 0) x3 _ h) wd147 (mi 62 rfl) wd2 wd146 hdX8_at ⟨Nat.le_of_ble_eq_true rfl, Nat.le_of_ble_eq_true rfl⟩ ⟨Nat.zero_le _, Nat.zero_le _⟩ rfl (Nat.le_of_ble_eq_true rfl) 1 rfl (fun _ => rfl) dX6_isFillingBy_12 rfl (fun r_1 u h => ?_)
    refine J_aload_n C 16 dX6_isFillingBy_15 rfl rfl ?_
    refine J_getN C 19 3 inlX3 6 3 rfl rfl (by decide) (mi 48 rfl) rfl rfl dX6_isFillingBy_16 rfl ?_
    refine J_iload_n C 20 dX6_isFillingBy_19 rfl rfl ?_
    refine J_call1piSN (As := [.ref (r1 3), .int x3]) C 23 (c_X8_at l D cI cJ cZ cS 9 (r1 3) (v1.2.2.1 3) x3 _ h) wd147 (mi 62 rfl) wd2 wd146 hdX8_at ⟨Nat.le_of_ble_eq_true rfl, Nat.le_of_ble_eq_true rfl⟩ ⟨Nat.zero_le _, Nat.zero_le _⟩ rfl (Nat.le_of_ble_eq_true rfl) 10 rfl (fun _ => rfl) dX6_isFillingBy_20 rfl (fun r_2 u h => ?_)
    refine J_icmp_ge C 26 54 dX6_isFillingBy_23 rfl rfl (fun c => ?_) (fun c => ?_)
    · have h := h.1 c
      refine J_iconst C 55 dX6_isFillingBy_54 rfl ki_0 ?_
      exact J_zret C hr hk rfl () rfl dX6_isFillingBy_55 h
    · have h := h.2 c
      refine J_aload_n C 27 dX6_isFillingBy_26 rfl rfl ?_
      refine J_getN C 30 3 inlX3 6 1 rfl rfl (by decide) (mi 46 rfl) rfl rfl dX6_isFillingBy_27 rfl ?_
      refine J_iload_n C 31 dX6_isFillingBy_30 rfl rfl ?_
      refine J_call1piSN (As := [.ref (r1 1), .int x3]) C 34 (c_X8_at l D cI cJ cZ cS 9 (r1 1) (v1.2.2.1 1) x3 _ h) wd147 (mi 62 rfl) wd2 wd146 hdX8_at ⟨Nat.le_of_ble_eq_true rfl, Nat.le_of_ble_eq_true rfl⟩ ⟨Nat.zero_le _, Nat.zero_le _⟩ rfl (Nat.le_of_ble_eq_true rfl) 8 rfl (fun _ => rfl) dX6_isFillingBy_31 rfl (fun r_3 u h => ?_)
      refine J_aload_n C 35 dX6_isFillingBy_34 rfl rfl ?_
      refine J_get C 38 6 inlX6 0 7 rfl rfl (by decide) wd138 rfl rfl dX6_isFillingBy_35 rfl ?_
      refine J_isub C 39 dX6_isFillingBy_38 rfl ?_
      refine J_mabs C 42 wd622 wd623 wd100 wd624 (Nat.le_of_ble_eq_true rfl) (Nat.le_of_ble_eq_true rfl) ⟨Nat.zero_le _, Nat.zero_le _⟩ dX6_isFillingBy_39 rfl ?_
      refine J_aload_n C 43 dX6_isFillingBy_42 rfl rfl ?_
      refine J_iload_n C 44 dX6_isFillingBy_43 rfl rfl ?_
      refine J_callBiV (Bs := [bX6 cI cJ cZ nl0 a0 r0 v0, bX3 cI cJ cZ a1 r1 v1]) (As := [.int x2]) C 47 (c_X3_milesBy l D cI cJ cZ cS a1 r1 v1 x2 _ h) wd635 wd632 wd19 wd633 wd634 3 0 rfl rfl rfl hdX3_milesBy ⟨Nat.le_of_ble_eq_true rfl, Nat.le_of_ble_eq_true rfl⟩ ⟨Nat.zero_le _, Nat.zero_le _⟩ rfl (Nat.le_of_ble_eq_true rfl) [1] [0] 2 rfl (by decide +kernel) rfl rfl (fun (u : Unit) => [bX3 cI cJ cZ a1 r1 v1]) (fun _ => rfl) [1, 0] (by decide +kernel) (fun _ => rfl) rfl (fun (u : Unit) => [bX6 cI cJ cZ nl0 a0 r0 v0, bX3 cI cJ cZ a1 r1 v1]) (fun _ => rfl) dX6_isFillingBy_44 rfl (fun r_4 u h => ?_)
      refine J_icmp_gt C 50 54 dX6_isFillingBy_47 rfl rfl (fun c => ?_) (fun c => ?_)
      · have h := h.1 c
        refine J_iconst C 55 dX6_isFillingBy_54 rfl ki_0 ?_
        exact J_zret C hr hk rfl () rfl dX6_isFillingBy_55 h
      · have h := h.2 c
        refine J_iconst C 51 dX6_isFillingBy_50 rfl ki_1 ?_
        refine J_goto C 55 dX6_isFillingBy_51 rfl ?_
        exact J_zret C hr hk rfl () rfl dX6_isFillingBy_55 h
def wp_X6_isTooLittle (nl0 : Nat) (v0 : Vl) (v1 : Vl) (x2 : Int32) (x3 : Int32) (Q : Int32 → Vl → Prop) : Prop := wp_X8_at 9 (v0.2.2.1 0) x2 (fun r_1 => ∀ x_2 : Int32, x_2 = (r_1 - (if x3 < r_1 then x3 else r_1)) → wp_X3_leakOf v1 x2 x_2 (fun r_3 => ∀ x_4 : Int32, x_4 = (x_2 - r_3) → ∀ v0s_5 : Vl, v0s_5 = setI v0 14 ((v0.1 14) + (r_1 - x_4)) → wp_X8_put 9 (v0s_5.2.2.1 0) x2 x_4 (fun u_6 => ∀ v0s_7 : Vl, v0s_7 = setRA v0s_5 0 u_6 → ((x3 ≤ r_1 → Q 0 v0s_7) ∧ (¬ x3 ≤ r_1 → Q 1 v0s_7)))))
set_option maxHeartbeats 4000000 in
set_option maxRecDepth 100000 in
theorem c_X6_isTooLittle (l : Launch) (D : GG) (cI cJ cZ cS : ClassId) (nl0 : Nat) (a0 : Nat) (r0 : Nat → Nat) (v0 : Vl) (a1 : Nat) (r1 : Nat → Nat) (v1 : Vl) (x2 : Int32) (x3 : Int32) (Q : Int32 → Vl → Prop) (h : wp_X6_isTooLittle nl0 v0 v1 x2 x3 Q) : Mi l D (tyL cI cJ cZ cS) yX6_isTooLittle cX6_isTooLittle 6 .boolean 2 43 [.ref a0, .ref a1, .int x2, .int x3] (List.flatten [bX6 cI cJ cZ nl0 a0 r0 v0, bX3 cI cJ cZ a1 r1 v1]) (fun (r : Int32) (u : Vl) => Q r u) (fun (u : Vl) => List.flatten [bX6 cI cJ cZ nl0 a0 r0 u, bX3 cI cJ cZ a1 r1 v1]) := by
  refine Mi_of RX6 [(0, .ref a0), (1, .ref a1), (2, .int x2), (3, .int x3)] (by decide +kernel) rfl rfl (Nat.le_of_ble_eq_true rfl) ?_
  intro p e s m args below meth c A C hr hk
  refine J_aload_n C 1 dX6_isTooLittle_0 rfl rfl ?_
  refine J_get C 4 6 inlX6 0 0 rfl rfl (by decide) wd94 rfl rfl dX6_isTooLittle_1 rfl ?_
  refine J_iload_n C 5 dX6_isTooLittle_4 rfl rfl ?_
  refine J_call1piSN (As := [.ref (r0 0), .int x2]) C 8 (c_X8_at l D cI cJ cZ cS 9 (r0 0) (v0.2.2.1 0) x2 _ h) wd147 (mi 62 rfl) wd2 wd146 hdX8_at ⟨Nat.le_of_ble_eq_true rfl, Nat.le_of_ble_eq_true rfl⟩ ⟨Nat.zero_le _, Nat.zero_le _⟩ rfl (Nat.le_of_ble_eq_true rfl) 1 rfl (fun _ => rfl) dX6_isTooLittle_5 rfl (fun r_1 u h => ?_)
  refine J_istore C 10 [(4, .int r_1), (0, .ref a0), (1, .ref a1), (2, .int x2), (3, .int x3)] dX6_isTooLittle_8 rfl (by decide) rfl ?_
  refine J_iload C 12 dX6_isTooLittle_10 rfl rfl ?_
  refine J_iload C 14 dX6_isTooLittle_12 rfl rfl ?_
  refine J_iload_n C 15 dX6_isTooLittle_14 rfl rfl ?_
  refine J_mmin C 18 wd625 wd626 wd100 wd627 (Nat.le_of_ble_eq_true rfl) (Nat.le_of_ble_eq_true rfl) ⟨Nat.zero_le _, Nat.zero_le _⟩ dX6_isTooLittle_15 rfl ?_
  refine J_isub C 19 dX6_isTooLittle_18 rfl ?_
  obtain ⟨x_2, ex_2⟩ : ∃ z : Int32, z = (r_1 - (if x3 < r_1 then x3 else r_1)) := ⟨_, rfl⟩
  have h := h x_2 ex_2
  refine J_nmi ex_2 ?_
  refine J_istore C 21 [(5, .int x_2), (4, .int r_1), (0, .ref a0), (1, .ref a1), (2, .int x2), (3, .int x3)] dX6_isTooLittle_19 rfl (by decide) rfl ?_
  refine J_iload C 23 dX6_isTooLittle_21 rfl rfl ?_
  refine J_aload_n C 24 dX6_isTooLittle_23 rfl rfl ?_
  refine J_iload_n C 25 dX6_isTooLittle_24 rfl rfl ?_
  refine J_iload C 27 dX6_isTooLittle_25 rfl rfl ?_
  refine J_callBiV (Bs := [bX6 cI cJ cZ nl0 a0 r0 v0, bX3 cI cJ cZ a1 r1 v1]) (As := [.int x2, .int x_2]) C 30 (c_X3_leakOf l D cI cJ cZ cS a1 r1 v1 x2 x_2 _ h) wd663 wd660 wd19 wd661 wd662 3 0 rfl rfl rfl hdX3_leakOf ⟨Nat.le_of_ble_eq_true rfl, Nat.le_of_ble_eq_true rfl⟩ ⟨Nat.zero_le _, Nat.zero_le _⟩ rfl (Nat.le_of_ble_eq_true rfl) [1] [0] 2 rfl (by decide +kernel) rfl rfl (fun (u : Unit) => [bX3 cI cJ cZ a1 r1 v1]) (fun _ => rfl) [1, 0] (by decide +kernel) (fun _ => rfl) rfl (fun (u : Unit) => [bX6 cI cJ cZ nl0 a0 r0 v0, bX3 cI cJ cZ a1 r1 v1]) (fun _ => rfl) dX6_isTooLittle_27 rfl (fun r_3 u h => ?_)
  refine J_isub C 31 dX6_isTooLittle_30 rfl ?_
  obtain ⟨x_4, ex_4⟩ : ∃ z : Int32, z = (x_2 - r_3) := ⟨_, rfl⟩
  have h := h x_4 ex_4
  refine J_nmi ex_4 ?_
  refine J_istore C 33 [(5, .int x_4), (4, .int r_1), (0, .ref a0), (1, .ref a1), (2, .int x2), (3, .int x3)] dX6_isTooLittle_31 rfl (by decide) rfl ?_
  refine J_aload_n C 34 dX6_isTooLittle_33 rfl rfl ?_
  refine J_dup C 35 dX6_isTooLittle_34 rfl rfl ?_
  refine J_get C 38 6 inlX6 0 14 rfl rfl (by decide) wd144 rfl rfl dX6_isTooLittle_35 rfl ?_
  refine J_iload C 40 dX6_isTooLittle_38 rfl rfl ?_
  refine J_iload C 42 dX6_isTooLittle_40 rfl rfl ?_
  refine J_isub C 43 dX6_isTooLittle_42 rfl ?_
  refine J_iadd C 44 dX6_isTooLittle_43 rfl ?_
  obtain ⟨v0s_5, ev0s_5⟩ : ∃ z : Vl, z = setI v0 14 ((v0.1 14) + (r_1 - x_4)) := ⟨_, rfl⟩
  have h := h v0s_5 ev0s_5
  refine J_put C 47 6 inlX6 tyX6 tyX6_ok nmX6 0 14 rfl rfl (by decide) wd144 rfl rfl rfl rfl rfl (List.flatten [bX6 cI cJ cZ nl0 a0 r0 v0s_5, bX3 cI cJ cZ a1 r1 v1]) (by subst ev0s_5; rfl) dX6_isTooLittle_44 rfl ?_
  refine J_aload_n C 48 dX6_isTooLittle_47 rfl rfl ?_
  refine J_get C 51 6 inlX6 0 0 rfl rfl (by decide) wd94 rfl rfl dX6_isTooLittle_48 rfl ?_
  refine J_iload_n C 52 dX6_isTooLittle_51 rfl rfl ?_
  refine J_iload C 54 dX6_isTooLittle_52 rfl rfl ?_
  refine J_call1vSN (As := [.ref (r0 0), .int x2, .int x_4]) C 57 (c_X8_put l D cI cJ cZ cS 9 (r0 0) (v0s_5.2.2.1 0) x2 x_4 _ h) wd83 (mi 63 rfl) wd2 wd82 hdX8_put ⟨Nat.le_of_ble_eq_true rfl, Nat.le_of_ble_eq_true rfl⟩ ⟨Nat.zero_le _, Nat.zero_le _⟩ rfl (Nat.le_of_ble_eq_true rfl) 1 rfl (fun u => .inl (cI, 9, .inl u)) (fun _ => rfl) (fun (u : (Nat → Int32)) => List.flatten [bX6 cI cJ cZ nl0 a0 r0 (setRA v0s_5 0 u), bX3 cI cJ cZ a1 r1 v1]) (fun _ => rfl) dX6_isTooLittle_54 rfl (fun u h => ?_)
  obtain ⟨u_6, hu⟩ : ∃ z, z = u := ⟨_, rfl⟩
  subst hu
  obtain ⟨v0s_7, ev0s_7⟩ : ∃ z : Vl, z = setRA v0s_5 0 u_6 := ⟨_, rfl⟩
  have h := h v0s_7 ev0s_7
  refine J_ws (ws' := List.flatten [bX6 cI cJ cZ nl0 a0 r0 v0s_7, bX3 cI cJ cZ a1 r1 v1]) (by subst ev0s_7; rfl) ?_
  refine J_iload C 59 dX6_isTooLittle_57 rfl rfl ?_
  refine J_iload_n C 60 dX6_isTooLittle_59 rfl rfl ?_
  refine J_icmp_ge C 63 67 dX6_isTooLittle_60 rfl rfl (fun c => ?_) (fun c => ?_)
  · have h := h.1 c
    refine J_iconst C 68 dX6_isTooLittle_67 rfl ki_0 ?_
    exact J_zret C hr hk rfl v0s_7 rfl dX6_isTooLittle_68 h
  · have h := h.2 c
    refine J_iconst C 64 dX6_isTooLittle_63 rfl ki_1 ?_
    refine J_goto C 68 dX6_isTooLittle_64 rfl ?_
    exact J_zret C hr hk rfl v0s_7 rfl dX6_isTooLittle_68 h
def wp_X6_layEggs (nl0 : Nat) (v0 : Vl) (v1 : Vl)  (Q : Vl → Prop) : Prop := ∀ v0s_1 : Vl, v0s_1 = setI v0 6 ((v0.1 6) + (v1.1 11)) → (((v1.1 12) ≤ 0 → Q v0s_1) ∧ (¬ (v1.1 12) ≤ 0 → ¬ (v1.1 12) = 0 ∧ (∀ x_2 : Int32, x_2 = ((v0s_1.1 6) / (v1.1 12)) → ¬ (v1.1 12) = 0 ∧ (∀ v0s_3 : Vl, v0s_3 = setI v0s_1 6 ((v0s_1.1 6) - (v0s_1.1 6) / (v1.1 12) * (v1.1 12)) → ∀ v0s_4 : Vl, v0s_4 = setI v0s_3 5 ((v0s_3.1 5) + x_2) → ∀ v0s_5 : Vl, v0s_5 = setI v0s_4 15 ((v0s_4.1 15) + x_2) → Q v0s_5))))
set_option maxHeartbeats 4000000 in
set_option maxRecDepth 100000 in
theorem c_X6_layEggs (l : Launch) (D : GG) (cI cJ cZ cS : ClassId) (nl0 : Nat) (a0 : Nat) (r0 : Nat → Nat) (v0 : Vl) (a1 : Nat) (r1 : Nat → Nat) (v1 : Vl)  (Q : Vl → Prop) (h : wp_X6_layEggs nl0 v0 v1 Q) : Mv l D (tyL cI cJ cZ cS) yX6_layEggs cX6_layEggs 3 0 0 [.ref a0, .ref a1] (List.flatten [bX6 cI cJ cZ nl0 a0 r0 v0, bX3 cI cJ cZ a1 r1 v1]) (fun (u : Vl) => Q u) (fun (u : Vl) => List.flatten [bX6 cI cJ cZ nl0 a0 r0 u, bX3 cI cJ cZ a1 r1 v1]) := by
  refine Mv_of RX6 [(0, .ref a0), (1, .ref a1)] (by decide +kernel) rfl rfl (Nat.le_of_ble_eq_true rfl) ?_
  intro p e s m args below meth c A C hr hk
  refine J_aload_n C 1 dX6_layEggs_0 rfl rfl ?_
  refine J_dup C 2 dX6_layEggs_1 rfl rfl ?_
  refine J_get C 5 6 inlX6 0 6 rfl rfl (by decide) wd137 rfl rfl dX6_layEggs_2 rfl ?_
  refine J_aload_n C 6 dX6_layEggs_5 rfl rfl ?_
  refine J_getN C 9 3 inlX3 6 11 rfl rfl (by decide) (mi 43 rfl) rfl rfl dX6_layEggs_6 rfl ?_
  refine J_iadd C 10 dX6_layEggs_9 rfl ?_
  obtain ⟨v0s_1, ev0s_1⟩ : ∃ z : Vl, z = setI v0 6 ((v0.1 6) + (v1.1 11)) := ⟨_, rfl⟩
  have h := h v0s_1 ev0s_1
  refine J_put C 13 6 inlX6 tyX6 tyX6_ok nmX6 0 6 rfl rfl (by decide) wd137 rfl rfl rfl rfl rfl (List.flatten [bX6 cI cJ cZ nl0 a0 r0 v0s_1, bX3 cI cJ cZ a1 r1 v1]) (by subst ev0s_1; rfl) dX6_layEggs_10 rfl ?_
  refine J_aload_n C 14 dX6_layEggs_13 rfl rfl ?_
  refine J_getN C 17 3 inlX3 6 12 rfl rfl (by decide) (mi 44 rfl) rfl rfl dX6_layEggs_14 rfl ?_
  refine J_if_le C 20 63 dX6_layEggs_17 rfl rfl (fun c => ?_) (fun c => ?_)
  · have h := h.1 c
    exact J_vret C hr hk v0s_1 rfl dX6_layEggs_63 h
  · have h := h.2 c
    refine J_aload_n C 21 dX6_layEggs_20 rfl rfl ?_
    refine J_get C 24 6 inlX6 0 6 rfl rfl (by decide) wd137 rfl rfl dX6_layEggs_21 rfl ?_
    refine J_aload_n C 25 dX6_layEggs_24 rfl rfl ?_
    refine J_getN C 28 3 inlX3 6 12 rfl rfl (by decide) (mi 44 rfl) rfl rfl dX6_layEggs_25 rfl ?_
    obtain ⟨hne, h⟩ := h
    refine J_idiv C 29 dX6_layEggs_28 rfl hne ?_
    obtain ⟨x_2, ex_2⟩ : ∃ z : Int32, z = ((v0s_1.1 6) / (v1.1 12)) := ⟨_, rfl⟩
    have h := h x_2 ex_2
    refine J_nmi ex_2 ?_
    refine J_istore_n C 30 [(2, .int x_2), (0, .ref a0), (1, .ref a1)] dX6_layEggs_29 rfl (by decide) rfl ?_
    refine J_aload_n C 31 dX6_layEggs_30 rfl rfl ?_
    refine J_dup C 32 dX6_layEggs_31 rfl rfl ?_
    refine J_get C 35 6 inlX6 0 6 rfl rfl (by decide) wd137 rfl rfl dX6_layEggs_32 rfl ?_
    refine J_aload_n C 36 dX6_layEggs_35 rfl rfl ?_
    refine J_getN C 39 3 inlX3 6 12 rfl rfl (by decide) (mi 44 rfl) rfl rfl dX6_layEggs_36 rfl ?_
    obtain ⟨hne, h⟩ := h
    refine J_irem C 40 dX6_layEggs_39 rfl hne ?_
    obtain ⟨v0s_3, ev0s_3⟩ : ∃ z : Vl, z = setI v0s_1 6 ((v0s_1.1 6) - (v0s_1.1 6) / (v1.1 12) * (v1.1 12)) := ⟨_, rfl⟩
    have h := h v0s_3 ev0s_3
    refine J_put C 43 6 inlX6 tyX6 tyX6_ok nmX6 0 6 rfl rfl (by decide) wd137 rfl rfl rfl rfl rfl (List.flatten [bX6 cI cJ cZ nl0 a0 r0 v0s_3, bX3 cI cJ cZ a1 r1 v1]) (by subst ev0s_3; rfl) dX6_layEggs_40 rfl ?_
    refine J_aload_n C 44 dX6_layEggs_43 rfl rfl ?_
    refine J_dup C 45 dX6_layEggs_44 rfl rfl ?_
    refine J_get C 48 6 inlX6 0 5 rfl rfl (by decide) wd136 rfl rfl dX6_layEggs_45 rfl ?_
    refine J_iload_n C 49 dX6_layEggs_48 rfl rfl ?_
    refine J_iadd C 50 dX6_layEggs_49 rfl ?_
    obtain ⟨v0s_4, ev0s_4⟩ : ∃ z : Vl, z = setI v0s_3 5 ((v0s_3.1 5) + x_2) := ⟨_, rfl⟩
    have h := h v0s_4 ev0s_4
    refine J_put C 53 6 inlX6 tyX6 tyX6_ok nmX6 0 5 rfl rfl (by decide) wd136 rfl rfl rfl rfl rfl (List.flatten [bX6 cI cJ cZ nl0 a0 r0 v0s_4, bX3 cI cJ cZ a1 r1 v1]) (by subst ev0s_4; rfl) dX6_layEggs_50 rfl ?_
    refine J_aload_n C 54 dX6_layEggs_53 rfl rfl ?_
    refine J_dup C 55 dX6_layEggs_54 rfl rfl ?_
    refine J_get C 58 6 inlX6 0 15 rfl rfl (by decide) wd145 rfl rfl dX6_layEggs_55 rfl ?_
    refine J_iload_n C 59 dX6_layEggs_58 rfl rfl ?_
    refine J_iadd C 60 dX6_layEggs_59 rfl ?_
    obtain ⟨v0s_5, ev0s_5⟩ : ∃ z : Vl, z = setI v0s_4 15 ((v0s_4.1 15) + x_2) := ⟨_, rfl⟩
    have h := h v0s_5 ev0s_5
    refine J_put C 63 6 inlX6 tyX6 tyX6_ok nmX6 0 15 rfl rfl (by decide) wd145 rfl rfl rfl rfl rfl (List.flatten [bX6 cI cJ cZ nl0 a0 r0 v0s_5, bX3 cI cJ cZ a1 r1 v1]) (by subst ev0s_5; rfl) dX6_layEggs_60 rfl ?_
    exact J_vret C hr hk v0s_5 rfl dX6_layEggs_63 h
def wp_X6_takeOil (nl0 : Nat) (v0 : Vl) (v1 : Vl) (x2 : Int32) (Q : Int32 → Vl → Prop) : Prop := ∀ x_1 : Int32, x_1 = (if (if ((v1.1 9) - (v0.1 8)) < (v0.1 5) then ((v1.1 9) - (v0.1 8)) else (v0.1 5)) < x2 then (if ((v1.1 9) - (v0.1 8)) < (v0.1 5) then ((v1.1 9) - (v0.1 8)) else (v0.1 5)) else x2) → ∀ v0s_2 : Vl, v0s_2 = setI v0 5 ((v0.1 5) - x_1) → ∀ v0s_3 : Vl, v0s_3 = setI v0s_2 8 ((v0s_2.1 8) + x_1) → Q x_1 v0s_3
set_option maxHeartbeats 4000000 in
set_option maxRecDepth 100000 in
theorem c_X6_takeOil (l : Launch) (D : GG) (cI cJ cZ cS : ClassId) (nl0 : Nat) (a0 : Nat) (r0 : Nat → Nat) (v0 : Vl) (a1 : Nat) (r1 : Nat → Nat) (v1 : Vl) (x2 : Int32) (Q : Int32 → Vl → Prop) (h : wp_X6_takeOil nl0 v0 v1 x2 Q) : Mi l D (tyL cI cJ cZ cS) yX6_takeOil cX6_takeOil 4 .int 1 21 [.ref a0, .ref a1, .int x2] (List.flatten [bX6 cI cJ cZ nl0 a0 r0 v0, bX3 cI cJ cZ a1 r1 v1]) (fun (r : Int32) (u : Vl) => Q r u) (fun (u : Vl) => List.flatten [bX6 cI cJ cZ nl0 a0 r0 u, bX3 cI cJ cZ a1 r1 v1]) := by
  refine Mi_of RX6 [(0, .ref a0), (1, .ref a1), (2, .int x2)] (by decide +kernel) rfl rfl (Nat.le_of_ble_eq_true rfl) ?_
  intro p e s m args below meth c A C hr hk
  refine J_iload_n C 1 dX6_takeOil_0 rfl rfl ?_
  refine J_aload_n C 2 dX6_takeOil_1 rfl rfl ?_
  refine J_get C 5 6 inlX6 0 5 rfl rfl (by decide) wd136 rfl rfl dX6_takeOil_2 rfl ?_
  refine J_aload_n C 6 dX6_takeOil_5 rfl rfl ?_
  refine J_getN C 9 3 inlX3 6 9 rfl rfl (by decide) (mi 45 rfl) rfl rfl dX6_takeOil_6 rfl ?_
  refine J_aload_n C 10 dX6_takeOil_9 rfl rfl ?_
  refine J_get C 13 6 inlX6 0 8 rfl rfl (by decide) wd139 rfl rfl dX6_takeOil_10 rfl ?_
  refine J_isub C 14 dX6_takeOil_13 rfl ?_
  refine J_mmin C 17 wd625 wd626 wd100 wd627 (Nat.le_of_ble_eq_true rfl) (Nat.le_of_ble_eq_true rfl) ⟨Nat.zero_le _, Nat.zero_le _⟩ dX6_takeOil_14 rfl ?_
  refine J_mmin C 20 wd625 wd626 wd100 wd627 (Nat.le_of_ble_eq_true rfl) (Nat.le_of_ble_eq_true rfl) ⟨Nat.zero_le _, Nat.zero_le _⟩ dX6_takeOil_17 rfl ?_
  obtain ⟨x_1, ex_1⟩ : ∃ z : Int32, z = (if (if ((v1.1 9) - (v0.1 8)) < (v0.1 5) then ((v1.1 9) - (v0.1 8)) else (v0.1 5)) < x2 then (if ((v1.1 9) - (v0.1 8)) < (v0.1 5) then ((v1.1 9) - (v0.1 8)) else (v0.1 5)) else x2) := ⟨_, rfl⟩
  have h := h x_1 ex_1
  refine J_nmi ex_1 ?_
  refine J_istore_n C 21 [(3, .int x_1), (0, .ref a0), (1, .ref a1), (2, .int x2)] dX6_takeOil_20 rfl (by decide) rfl ?_
  refine J_aload_n C 22 dX6_takeOil_21 rfl rfl ?_
  refine J_dup C 23 dX6_takeOil_22 rfl rfl ?_
  refine J_get C 26 6 inlX6 0 5 rfl rfl (by decide) wd136 rfl rfl dX6_takeOil_23 rfl ?_
  refine J_iload_n C 27 dX6_takeOil_26 rfl rfl ?_
  refine J_isub C 28 dX6_takeOil_27 rfl ?_
  obtain ⟨v0s_2, ev0s_2⟩ : ∃ z : Vl, z = setI v0 5 ((v0.1 5) - x_1) := ⟨_, rfl⟩
  have h := h v0s_2 ev0s_2
  refine J_put C 31 6 inlX6 tyX6 tyX6_ok nmX6 0 5 rfl rfl (by decide) wd136 rfl rfl rfl rfl rfl (List.flatten [bX6 cI cJ cZ nl0 a0 r0 v0s_2, bX3 cI cJ cZ a1 r1 v1]) (by subst ev0s_2; rfl) dX6_takeOil_28 rfl ?_
  refine J_aload_n C 32 dX6_takeOil_31 rfl rfl ?_
  refine J_dup C 33 dX6_takeOil_32 rfl rfl ?_
  refine J_get C 36 6 inlX6 0 8 rfl rfl (by decide) wd139 rfl rfl dX6_takeOil_33 rfl ?_
  refine J_iload_n C 37 dX6_takeOil_36 rfl rfl ?_
  refine J_iadd C 38 dX6_takeOil_37 rfl ?_
  obtain ⟨v0s_3, ev0s_3⟩ : ∃ z : Vl, z = setI v0s_2 8 ((v0s_2.1 8) + x_1) := ⟨_, rfl⟩
  have h := h v0s_3 ev0s_3
  refine J_put C 41 6 inlX6 tyX6 tyX6_ok nmX6 0 8 rfl rfl (by decide) wd139 rfl rfl rfl rfl rfl (List.flatten [bX6 cI cJ cZ nl0 a0 r0 v0s_3, bX3 cI cJ cZ a1 r1 v1]) (by subst ev0s_3; rfl) dX6_takeOil_38 rfl ?_
  refine J_iload_n C 42 dX6_takeOil_41 rfl rfl ?_
  exact J_iret C hr hk v0s_3 rfl dX6_takeOil_42 h
def wp_X6_sail_c45 (nl0 : Nat) (v1 : Vl) (Q : Vl → Prop) (v0 : Vl) (s0 : Int32) (s1 : Int32) : Prop := ∀ v0s_5 : Vl, v0s_5 = setI v0 7 (s1 + s0) → wp_X3_milesTo v1 (v0s_5.1 9) (fun r_6 => (((v0s_5.1 7) = r_6 → ((¬ (v0s_5.1 9) = (-1) → wp_X6_fillLight nl0 v0s_5 v1 (v0s_5.1 9) (fun u_7 => Q u_7)) ∧ ((v0s_5.1 9) = (-1) → wp_X6_takeOil nl0 v0s_5 v1 (v1.1 9) (fun r_9 u_8 => Q u_8)))) ∧ (¬ (v0s_5.1 7) = r_6 → Q v0s_5)))
set_option maxHeartbeats 4000000 in
set_option maxRecDepth 100000 in
theorem wk_X6_sail_c45 {p : Program} {l : Launch} {e : Env} {s : State} {m : MethodId} {args : Array Value} {below : List Frame} {meth : Method} {c : Code} {D : GG} {A : Nat → Prop} {cI cJ cZ cS : ClassId} {nl0 : Nat} {a0 : Nat} {r0 : Nat → Nat} {a1 : Nat} {r1 : Nat → Nat} {v1 : Vl} {Q : Vl → Prop} (C : Cx p s m args c D (tyL cI cJ cZ cS) A RX6 cX6_sail 5) (hr : meth.sig.returnType = none) (hk : meth.locks = false) : ∀ (v0 : Vl) (s0 : Int32) (s1 : Int32), wp_X6_sail_c45 nl0 v1 Q v0 s0 s1 → J p l e (rmk 2 45) s m args below meth c D A 5 0 0 (MQ below (va_Qv (fun (u : Vl) => Q u) (fun u t => va_P D.1 vwCl ((fun (u : Vl) => List.flatten [bX6 cI cJ cZ nl0 a0 r0 u, bX3 cI cJ cZ a1 r1 v1]) u) t.heap ∧ va_D A ((fun (u : Vl) => List.flatten [bX6 cI cJ cZ nl0 a0 r0 u, bX3 cI cJ cZ a1 r1 v1]) u)) A) args s 0 0 A) 45 [(0, .ref a0), (1, .ref a1)] [.int s0, .int s1, .ref a0] (List.flatten [bX6 cI cJ cZ nl0 a0 r0 v0, bX3 cI cJ cZ a1 r1 v1]) := by
  intro v0 s0 s1 h
  refine J_iadd C 46 dX6_sail_45 rfl ?_
  obtain ⟨v0s_5, ev0s_5⟩ : ∃ z : Vl, z = setI v0 7 (s1 + s0) := ⟨_, rfl⟩
  have h := h v0s_5 ev0s_5
  refine J_put C 49 6 inlX6 tyX6 tyX6_ok nmX6 0 7 rfl rfl (by decide) wd138 rfl rfl rfl rfl rfl (List.flatten [bX6 cI cJ cZ nl0 a0 r0 v0s_5, bX3 cI cJ cZ a1 r1 v1]) (by subst ev0s_5; rfl) dX6_sail_46 rfl ?_
  refine J_aload_n C 50 dX6_sail_49 rfl rfl ?_
  refine J_get C 53 6 inlX6 0 7 rfl rfl (by decide) wd138 rfl rfl dX6_sail_50 rfl ?_
  refine J_aload_n C 54 dX6_sail_53 rfl rfl ?_
  refine J_aload_n C 55 dX6_sail_54 rfl rfl ?_
  refine J_get C 58 6 inlX6 0 9 rfl rfl (by decide) wd103 rfl rfl dX6_sail_55 rfl ?_
  refine J_callBiV (Bs := [bX6 cI cJ cZ nl0 a0 r0 v0s_5, bX3 cI cJ cZ a1 r1 v1]) (As := [.int (v0s_5.1 9)]) C 61 (c_X3_milesTo l D cI cJ cZ cS a1 r1 v1 (v0s_5.1 9) _ h) wd631 wd628 wd19 wd629 wd630 3 0 rfl rfl rfl hdX3_milesTo ⟨Nat.le_of_ble_eq_true rfl, Nat.le_of_ble_eq_true rfl⟩ ⟨Nat.zero_le _, Nat.zero_le _⟩ rfl (Nat.le_of_ble_eq_true rfl) [1] [0] 2 rfl (by decide +kernel) rfl rfl (fun (u : Unit) => [bX3 cI cJ cZ a1 r1 v1]) (fun _ => rfl) [1, 0] (by decide +kernel) (fun _ => rfl) rfl (fun (u : Unit) => [bX6 cI cJ cZ nl0 a0 r0 v0s_5, bX3 cI cJ cZ a1 r1 v1]) (fun _ => rfl) dX6_sail_58 rfl (fun r_6 u h => ?_)
  refine J_icmp_eq C 64 65 dX6_sail_61 rfl rfl (fun c => ?_) (fun c => ?_)
  · have h := h.1 c
    refine J_aload_n C 66 dX6_sail_65 rfl rfl ?_
    refine J_get C 69 6 inlX6 0 9 rfl rfl (by decide) wd103 rfl rfl dX6_sail_66 rfl ?_
    refine J_iconst C 70 dX6_sail_69 rfl ki_m1 ?_
    refine J_icmp_ne C 73 86 dX6_sail_70 rfl rfl (fun c => ?_) (fun c => ?_)
    · have h := h.1 c
      refine J_aload_n C 87 dX6_sail_86 rfl rfl ?_
      refine J_aload_n C 88 dX6_sail_87 rfl rfl ?_
      refine J_aload_n C 89 dX6_sail_88 rfl rfl ?_
      refine J_get C 92 6 inlX6 0 9 rfl rfl (by decide) wd103 rfl rfl dX6_sail_89 rfl ?_
      refine J_callBvV (Bs := [bX6 cI cJ cZ nl0 a0 r0 v0s_5, bX3 cI cJ cZ a1 r1 v1]) (As := [.ref a1, .int (v0s_5.1 9)]) C 95 (c_X6_fillLight l D cI cJ cZ cS nl0 a0 r0 v0s_5 a1 r1 v1 (v0s_5.1 9) _ h) wd643 wd640 wd29 wd641 wd642 6 0 rfl rfl rfl hdX6_fillLight ⟨Nat.le_of_ble_eq_true rfl, Nat.le_of_ble_eq_true rfl⟩ ⟨Nat.zero_le _, Nat.zero_le _⟩ rfl (Nat.le_of_ble_eq_true rfl) [0, 1] [] 2 rfl (by decide +kernel) rfl rfl (fun (u : Vl) => [bX6 cI cJ cZ nl0 a0 r0 u, bX3 cI cJ cZ a1 r1 v1]) (fun _ => rfl) [0, 1] (by decide +kernel) (fun _ => rfl) rfl (fun (u : Vl) => [bX6 cI cJ cZ nl0 a0 r0 u, bX3 cI cJ cZ a1 r1 v1]) (fun _ => rfl) dX6_sail_92 rfl (fun u h => ?_)
      obtain ⟨u_7, hu⟩ : ∃ z, z = u := ⟨_, rfl⟩
      subst hu
      exact J_vret C hr hk u_7 rfl dX6_sail_95 h
    · have h := h.2 c
      refine J_aload_n C 74 dX6_sail_73 rfl rfl ?_
      refine J_aload_n C 75 dX6_sail_74 rfl rfl ?_
      refine J_aload_n C 76 dX6_sail_75 rfl rfl ?_
      refine J_getN C 79 3 inlX3 6 9 rfl rfl (by decide) (mi 45 rfl) rfl rfl dX6_sail_76 rfl ?_
      refine J_callBiV (Bs := [bX6 cI cJ cZ nl0 a0 r0 v0s_5, bX3 cI cJ cZ a1 r1 v1]) (As := [.ref a1, .int (v1.1 9)]) C 82 (c_X6_takeOil l D cI cJ cZ cS nl0 a0 r0 v0s_5 a1 r1 v1 (v1.1 9) _ h) wd639 wd636 wd29 wd637 wd638 6 0 rfl rfl rfl hdX6_takeOil ⟨Nat.le_of_ble_eq_true rfl, Nat.le_of_ble_eq_true rfl⟩ ⟨Nat.zero_le _, Nat.zero_le _⟩ rfl (Nat.le_of_ble_eq_true rfl) [0, 1] [] 2 rfl (by decide +kernel) rfl rfl (fun (u : Vl) => [bX6 cI cJ cZ nl0 a0 r0 u, bX3 cI cJ cZ a1 r1 v1]) (fun _ => rfl) [0, 1] (by decide +kernel) (fun _ => rfl) rfl (fun (u : Vl) => [bX6 cI cJ cZ nl0 a0 r0 u, bX3 cI cJ cZ a1 r1 v1]) (fun _ => rfl) dX6_sail_79 rfl (fun r_9 u h => ?_)
      obtain ⟨u_8, hu⟩ : ∃ z, z = u := ⟨_, rfl⟩
      subst hu
      refine J_pop C 83 dX6_sail_82 rfl rfl ?_
      refine J_goto C 95 dX6_sail_83 rfl ?_
      exact J_vret C hr hk u_8 rfl dX6_sail_95 h
  · have h := h.2 c
    exact J_vret C hr hk v0s_5 rfl dX6_sail_64 h
def wp_X6_sail (nl0 : Nat) (v0 : Vl) (v1 : Vl) (x2 : Int32) (Q : Vl → Prop) : Prop := wp_X3_milesTo v1 (v0.1 9) (fun r_1 => ∀ x_2 : Int32, x_2 = (r_1 - (v0.1 7)) → wp_X3_milesBy v1 x2 (fun r_3 => ∀ x_4 : Int32, x_4 = (if r_3 < (if 0 ≤ x_2 then x_2 else 0 - x_2) then r_3 else (if 0 ≤ x_2 then x_2 else 0 - x_2)) → ((0 ≤ x_2 → wp_X6_sail_c45 nl0 v1 Q v0 x_4 (v0.1 7)) ∧ (¬ 0 ≤ x_2 → wp_X6_sail_c45 nl0 v1 Q v0 (-x_4) (v0.1 7)))))
set_option maxHeartbeats 4000000 in
set_option maxRecDepth 100000 in
theorem c_X6_sail (l : Launch) (D : GG) (cI cJ cZ cS : ClassId) (nl0 : Nat) (a0 : Nat) (r0 : Nat → Nat) (v0 : Vl) (a1 : Nat) (r1 : Nat → Nat) (v1 : Vl) (x2 : Int32) (Q : Vl → Prop) (h : wp_X6_sail nl0 v0 v1 x2 Q) : Mv l D (tyL cI cJ cZ cS) yX6_sail cX6_sail 5 2 45 [.ref a0, .ref a1, .int x2] (List.flatten [bX6 cI cJ cZ nl0 a0 r0 v0, bX3 cI cJ cZ a1 r1 v1]) (fun (u : Vl) => Q u) (fun (u : Vl) => List.flatten [bX6 cI cJ cZ nl0 a0 r0 u, bX3 cI cJ cZ a1 r1 v1]) := by
  refine Mv_of RX6 [(0, .ref a0), (1, .ref a1), (2, .int x2)] (by decide +kernel) rfl rfl (Nat.le_of_ble_eq_true rfl) ?_
  intro p e s m args below meth c A C hr hk
  refine J_aload_n C 1 dX6_sail_0 rfl rfl ?_
  refine J_aload_n C 2 dX6_sail_1 rfl rfl ?_
  refine J_get C 5 6 inlX6 0 9 rfl rfl (by decide) wd103 rfl rfl dX6_sail_2 rfl ?_
  refine J_callBiV (Bs := [bX6 cI cJ cZ nl0 a0 r0 v0, bX3 cI cJ cZ a1 r1 v1]) (As := [.int (v0.1 9)]) C 8 (c_X3_milesTo l D cI cJ cZ cS a1 r1 v1 (v0.1 9) _ h) wd631 wd628 wd19 wd629 wd630 3 0 rfl rfl rfl hdX3_milesTo ⟨Nat.le_of_ble_eq_true rfl, Nat.le_of_ble_eq_true rfl⟩ ⟨Nat.zero_le _, Nat.zero_le _⟩ rfl (Nat.le_of_ble_eq_true rfl) [1] [0] 2 rfl (by decide +kernel) rfl rfl (fun (u : Unit) => [bX3 cI cJ cZ a1 r1 v1]) (fun _ => rfl) [1, 0] (by decide +kernel) (fun _ => rfl) rfl (fun (u : Unit) => [bX6 cI cJ cZ nl0 a0 r0 v0, bX3 cI cJ cZ a1 r1 v1]) (fun _ => rfl) dX6_sail_5 rfl (fun r_1 u h => ?_)
  refine J_aload_n C 9 dX6_sail_8 rfl rfl ?_
  refine J_get C 12 6 inlX6 0 7 rfl rfl (by decide) wd138 rfl rfl dX6_sail_9 rfl ?_
  refine J_isub C 13 dX6_sail_12 rfl ?_
  obtain ⟨x_2, ex_2⟩ : ∃ z : Int32, z = (r_1 - (v0.1 7)) := ⟨_, rfl⟩
  have h := h x_2 ex_2
  refine J_nmi ex_2 ?_
  refine J_istore_n C 14 [(3, .int x_2), (0, .ref a0), (1, .ref a1), (2, .int x2)] dX6_sail_13 rfl (by decide) rfl ?_
  refine J_iload_n C 15 dX6_sail_14 rfl rfl ?_
  refine J_mabs C 18 wd622 wd623 wd100 wd624 (Nat.le_of_ble_eq_true rfl) (Nat.le_of_ble_eq_true rfl) ⟨Nat.zero_le _, Nat.zero_le _⟩ dX6_sail_15 rfl ?_
  refine J_aload_n C 19 dX6_sail_18 rfl rfl ?_
  refine J_iload_n C 20 dX6_sail_19 rfl rfl ?_
  refine J_callBiV (Bs := [bX6 cI cJ cZ nl0 a0 r0 v0, bX3 cI cJ cZ a1 r1 v1]) (As := [.int x2]) C 23 (c_X3_milesBy l D cI cJ cZ cS a1 r1 v1 x2 _ h) wd635 wd632 wd19 wd633 wd634 3 0 rfl rfl rfl hdX3_milesBy ⟨Nat.le_of_ble_eq_true rfl, Nat.le_of_ble_eq_true rfl⟩ ⟨Nat.zero_le _, Nat.zero_le _⟩ rfl (Nat.le_of_ble_eq_true rfl) [1] [0] 2 rfl (by decide +kernel) rfl rfl (fun (u : Unit) => [bX3 cI cJ cZ a1 r1 v1]) (fun _ => rfl) [1, 0] (by decide +kernel) (fun _ => rfl) rfl (fun (u : Unit) => [bX6 cI cJ cZ nl0 a0 r0 v0, bX3 cI cJ cZ a1 r1 v1]) (fun _ => rfl) dX6_sail_20 rfl (fun r_3 u h => ?_)
  refine J_mmin C 26 wd625 wd626 wd100 wd627 (Nat.le_of_ble_eq_true rfl) (Nat.le_of_ble_eq_true rfl) ⟨Nat.zero_le _, Nat.zero_le _⟩ dX6_sail_23 rfl ?_
  obtain ⟨x_4, ex_4⟩ : ∃ z : Int32, z = (if r_3 < (if 0 ≤ x_2 then x_2 else 0 - x_2) then r_3 else (if 0 ≤ x_2 then x_2 else 0 - x_2)) := ⟨_, rfl⟩
  have h := h x_4 ex_4
  refine J_nmi ex_4 ?_
  refine J_istore C 28 [(4, .int x_4), (3, .int x_2), (0, .ref a0), (1, .ref a1), (2, .int x2)] dX6_sail_26 rfl (by decide) rfl ?_
  refine J_aload_n C 29 dX6_sail_28 rfl rfl ?_
  refine J_dup C 30 dX6_sail_29 rfl rfl ?_
  refine J_get C 33 6 inlX6 0 7 rfl rfl (by decide) wd138 rfl rfl dX6_sail_30 rfl ?_
  refine J_iload_n C 34 dX6_sail_33 rfl rfl ?_
  refine J_if_ge C 37 43 dX6_sail_34 rfl rfl (fun c => ?_) (fun c => ?_)
  · have h := h.1 c
    refine J_iload C 45 dX6_sail_43 rfl rfl ?_
    refine J_loc [2, 3] rfl ?_
    exact wk_X6_sail_c45 C hr hk v0 x_4 (v0.1 7) h
  · have h := h.2 c
    refine J_iload C 39 dX6_sail_37 rfl rfl ?_
    refine J_ineg C 40 dX6_sail_39 rfl ?_
    refine J_goto C 45 dX6_sail_40 rfl ?_
    refine J_loc [2, 3] rfl ?_
    exact wk_X6_sail_c45 C hr hk v0 (-x_4) (v0.1 7) h
def wp_X6_pageOf  (x0 : Int32) (x1 : Int32) (Q : Int32 → Prop) : Prop := ((x1 < 0 → Q (-1)) ∧ (¬ x1 < 0 → ((40 ≤ x1 → Q (-1)) ∧ (¬ 40 ≤ x1 → Q ((x1 * 9) + x0)))))
set_option maxHeartbeats 4000000 in
set_option maxRecDepth 100000 in
theorem c_X6_pageOf (l : Launch) (D : GG) (cI cJ cZ cS : ClassId)  (x0 : Int32) (x1 : Int32) (Q : Int32 → Prop) (h : wp_X6_pageOf x0 x1 Q) : Mi l D (tyL cI cJ cZ cS) yX6_pageOf cX6_pageOf 2 .int 0 0 [.int x0, .int x1] (List.flatten ([] : List va_W)) (fun (r : Int32) (u : Unit) => Q r) (fun (u : Unit) => List.flatten ([] : List va_W)) := by
  refine Mi_of RX6 [(0, .int x0), (1, .int x1)] (by decide +kernel) rfl rfl (Nat.le_of_ble_eq_true rfl) ?_
  intro p e s m args below meth c A C hr hk
  refine J_iload_n C 1 dX6_pageOf_0 rfl rfl ?_
  refine J_if_lt C 4 19 dX6_pageOf_1 rfl rfl (fun c => ?_) (fun c => ?_)
  · have h := h.1 c
    refine J_iconst C 20 dX6_pageOf_19 rfl ki_m1 ?_
    exact J_iret C hr hk () rfl dX6_pageOf_20 h
  · have h := h.2 c
    refine J_iload_n C 5 dX6_pageOf_4 rfl rfl ?_
    refine J_bipush C 7 dX6_pageOf_5 rfl kb_40 ?_
    refine J_icmp_ge C 10 19 dX6_pageOf_7 rfl rfl (fun c => ?_) (fun c => ?_)
    · have h := h.1 c
      refine J_iconst C 20 dX6_pageOf_19 rfl ki_m1 ?_
      exact J_iret C hr hk () rfl dX6_pageOf_20 h
    · have h := h.2 c
      refine J_iload_n C 11 dX6_pageOf_10 rfl rfl ?_
      refine J_bipush C 13 dX6_pageOf_11 rfl kb_9 ?_
      refine J_imul C 14 dX6_pageOf_13 rfl ?_
      refine J_iload_n C 15 dX6_pageOf_14 rfl rfl ?_
      refine J_iadd C 16 dX6_pageOf_15 rfl ?_
      refine J_goto C 20 dX6_pageOf_16 rfl ?_
      exact J_iret C hr hk () rfl dX6_pageOf_20 h
def wp_X6_live_c115 (nl0 : Nat) (v1 : Vl) (Q : Int32 → Vl → Prop) (B26 : Vl → Int32 → Int32 → Int32 → Int32 → Prop) (v0 : Vl) (y2 : Int32) (y3 : Int32) (y4 : Int32) (y5 : Int32) : Prop := wp_X6_pageOf y5 (v0.1 12) (fun r_12 => wp_X8_at 9 (v0.2.2.1 0) y5 (fun r_13 => wp_X8_put nl0 (v0.2.2.1 4) r_12 r_13 (fun u_14 => ∀ v0s_15 : Vl, v0s_15 = setRA v0 4 u_14 → ∀ x_16 : Int32, x_16 = y5 + 1 → B26 v0s_15 y2 y3 y4 x_16)))
set_option maxHeartbeats 4000000 in
set_option maxRecDepth 100000 in
theorem wk_X6_live_c115 {p : Program} {l : Launch} {e : Env} {s : State} {m : MethodId} {args : Array Value} {below : List Frame} {meth : Method} {c : Code} {D : GG} {A : Nat → Prop} {cI cJ cZ cS : ClassId} {nl0 : Nat} {a0 : Nat} {r0 : Nat → Nat} {a1 : Nat} {r1 : Nat → Nat} {v1 : Vl} {B26 : Vl → Int32 → Int32 → Int32 → Int32 → Prop} {Q : Int32 → Vl → Prop} (C : Cx p s m args c D (tyL cI cJ cZ cS) A RX6 cX6_live 7) (hr : meth.sig.returnType = some .int) (hk : meth.locks = false) (hB26 : ∀ (v0 : Vl) (y2 : Int32) (y3 : Int32) (y4 : Int32) (y5 : Int32), B26 v0 y2 y3 y4 y5 → J p l e (rmk 3 69) s m args below meth c D A 7 0 0 (MQ below (va_Qi (fun (r : Int32) (u : Vl) => Q r u) (fun u t => va_P D.1 vwCl ((fun (u : Vl) => List.flatten [bX6 cI cJ cZ nl0 a0 r0 u, bX3 cI cJ cZ a1 r1 v1]) u) t.heap ∧ va_D A ((fun (u : Vl) => List.flatten [bX6 cI cJ cZ nl0 a0 r0 u, bX3 cI cJ cZ a1 r1 v1]) u)) A) args s 0 0 A) 26 [(0, .ref a0), (1, .ref a1), (2, .int y2), (3, .int y3), (4, .int y4), (5, .int y5)] [] (List.flatten [bX6 cI cJ cZ nl0 a0 r0 v0, bX3 cI cJ cZ a1 r1 v1])) : ∀ (v0 : Vl) (y2 : Int32) (y3 : Int32) (y4 : Int32) (y5 : Int32), wp_X6_live_c115 nl0 v1 Q B26 v0 y2 y3 y4 y5 → J p l e (rmk 3 69) s m args below meth c D A 7 0 0 (MQ below (va_Qi (fun (r : Int32) (u : Vl) => Q r u) (fun u t => va_P D.1 vwCl ((fun (u : Vl) => List.flatten [bX6 cI cJ cZ nl0 a0 r0 u, bX3 cI cJ cZ a1 r1 v1]) u) t.heap ∧ va_D A ((fun (u : Vl) => List.flatten [bX6 cI cJ cZ nl0 a0 r0 u, bX3 cI cJ cZ a1 r1 v1]) u)) A) args s 0 0 A) 115 [(0, .ref a0), (1, .ref a1), (2, .int y2), (3, .int y3), (4, .int y4), (5, .int y5)] [] (List.flatten [bX6 cI cJ cZ nl0 a0 r0 v0, bX3 cI cJ cZ a1 r1 v1]) := by
  intro v0 y2 y3 y4 y5 h
  refine J_aload_n C 116 dX6_live_115 rfl rfl ?_
  refine J_get C 119 6 inlX6 0 4 rfl rfl (by decide) wd102 rfl rfl dX6_live_116 rfl ?_
  refine J_iload C 121 dX6_live_119 rfl rfl ?_
  refine J_aload_n C 122 dX6_live_121 rfl rfl ?_
  refine J_get C 125 6 inlX6 0 12 rfl rfl (by decide) wd142 rfl rfl dX6_live_122 rfl ?_
  refine J_callBiS (Bs := [bX6 cI cJ cZ nl0 a0 r0 v0, bX3 cI cJ cZ a1 r1 v1]) (As := [.int y5, .int (v0.1 12)]) C 128 (c_X6_pageOf l D cI cJ cZ cS y5 (v0.1 12) _ h) wd675 wd673 wd29 wd674 hdX6_pageOf ⟨Nat.le_of_ble_eq_true rfl, Nat.le_of_ble_eq_true rfl⟩ ⟨Nat.zero_le _, Nat.zero_le _⟩ rfl (Nat.le_of_ble_eq_true rfl) [] [0, 1] 2 rfl (by decide +kernel) rfl rfl (fun (u : Unit) => ([] : List va_W)) (fun _ => rfl) [0, 1] (by decide +kernel) (fun _ => rfl) rfl (fun (u : Unit) => [bX6 cI cJ cZ nl0 a0 r0 v0, bX3 cI cJ cZ a1 r1 v1]) (fun _ => rfl) dX6_live_125 rfl (fun r_12 u h => ?_)
  refine J_aload_n C 129 dX6_live_128 rfl rfl ?_
  refine J_get C 132 6 inlX6 0 0 rfl rfl (by decide) wd94 rfl rfl dX6_live_129 rfl ?_
  refine J_iload C 134 dX6_live_132 rfl rfl ?_
  refine J_call1piSN (As := [.ref (r0 0), .int y5]) C 137 (c_X8_at l D cI cJ cZ cS 9 (r0 0) (v0.2.2.1 0) y5 _ h) wd147 (mi 62 rfl) wd2 wd146 hdX8_at ⟨Nat.le_of_ble_eq_true rfl, Nat.le_of_ble_eq_true rfl⟩ ⟨Nat.zero_le _, Nat.zero_le _⟩ rfl (Nat.le_of_ble_eq_true rfl) 1 rfl (fun _ => rfl) dX6_live_134 rfl (fun r_13 u h => ?_)
  refine J_call1vSN (As := [.ref (r0 4), .int r_12, .int r_13]) C 140 (c_X8_put l D cI cJ cZ cS nl0 (r0 4) (v0.2.2.1 4) r_12 r_13 _ h) wd83 (mi 63 rfl) wd2 wd82 hdX8_put ⟨Nat.le_of_ble_eq_true rfl, Nat.le_of_ble_eq_true rfl⟩ ⟨Nat.zero_le _, Nat.zero_le _⟩ rfl (Nat.le_of_ble_eq_true rfl) 5 rfl (fun u => .inl (cI, nl0, .inl u)) (fun _ => rfl) (fun (u : (Nat → Int32)) => List.flatten [bX6 cI cJ cZ nl0 a0 r0 (setRA v0 4 u), bX3 cI cJ cZ a1 r1 v1]) (fun _ => rfl) dX6_live_137 rfl (fun u h => ?_)
  obtain ⟨u_14, hu⟩ : ∃ z, z = u := ⟨_, rfl⟩
  subst hu
  obtain ⟨v0s_15, ev0s_15⟩ : ∃ z : Vl, z = setRA v0 4 u_14 := ⟨_, rfl⟩
  have h := h v0s_15 ev0s_15
  refine J_ws (ws' := List.flatten [bX6 cI cJ cZ nl0 a0 r0 v0s_15, bX3 cI cJ cZ a1 r1 v1]) (by subst ev0s_15; rfl) ?_
  obtain ⟨x_16, ex_16⟩ : ∃ z : Int32, z = y5 + 1 := ⟨_, rfl⟩
  have h := h x_16 ex_16
  refine J_iinc C 143 [(5, .int x_16), (0, .ref a0), (1, .ref a1), (2, .int y2), (3, .int y3), (4, .int y4)] dX6_live_140 rfl rfl ((kinc_1 _).trans ex_16.symm) (by decide) rfl ?_
  refine J_goto C 26 dX6_live_143 rfl ?_
  refine J_loc [1, 2, 3, 4, 5, 0] rfl ?_
  exact hB26 v0s_15 y2 y3 y4 x_16 h
def wp_X6_live_c85 (nl0 : Nat) (v1 : Vl) (Q : Int32 → Vl → Prop) (B26 : Vl → Int32 → Int32 → Int32 → Int32 → Prop) (v0 : Vl) (y2 : Int32) (y3 : Int32) (y4 : Int32) (y5 : Int32) : Prop := ∀ x_10 : Int32, x_10 = (y4 ||| (1 <<< (y5 &&& 31))) → wp_X6_countDark nl0 v0 v1 y5 y2 (fun u_11 => wp_X6_live_c115 nl0 v1 Q B26 u_11 y2 y3 x_10 y5)
set_option maxHeartbeats 4000000 in
set_option maxRecDepth 100000 in
theorem wk_X6_live_c85 {p : Program} {l : Launch} {e : Env} {s : State} {m : MethodId} {args : Array Value} {below : List Frame} {meth : Method} {c : Code} {D : GG} {A : Nat → Prop} {cI cJ cZ cS : ClassId} {nl0 : Nat} {a0 : Nat} {r0 : Nat → Nat} {a1 : Nat} {r1 : Nat → Nat} {v1 : Vl} {B26 : Vl → Int32 → Int32 → Int32 → Int32 → Prop} {Q : Int32 → Vl → Prop} (C : Cx p s m args c D (tyL cI cJ cZ cS) A RX6 cX6_live 7) (hr : meth.sig.returnType = some .int) (hk : meth.locks = false) (hB26 : ∀ (v0 : Vl) (y2 : Int32) (y3 : Int32) (y4 : Int32) (y5 : Int32), B26 v0 y2 y3 y4 y5 → J p l e (rmk 3 69) s m args below meth c D A 7 0 0 (MQ below (va_Qi (fun (r : Int32) (u : Vl) => Q r u) (fun u t => va_P D.1 vwCl ((fun (u : Vl) => List.flatten [bX6 cI cJ cZ nl0 a0 r0 u, bX3 cI cJ cZ a1 r1 v1]) u) t.heap ∧ va_D A ((fun (u : Vl) => List.flatten [bX6 cI cJ cZ nl0 a0 r0 u, bX3 cI cJ cZ a1 r1 v1]) u)) A) args s 0 0 A) 26 [(0, .ref a0), (1, .ref a1), (2, .int y2), (3, .int y3), (4, .int y4), (5, .int y5)] [] (List.flatten [bX6 cI cJ cZ nl0 a0 r0 v0, bX3 cI cJ cZ a1 r1 v1])) : ∀ (v0 : Vl) (y2 : Int32) (y3 : Int32) (y4 : Int32) (y5 : Int32), wp_X6_live_c85 nl0 v1 Q B26 v0 y2 y3 y4 y5 → J p l e (rmk 3 69) s m args below meth c D A 7 0 0 (MQ below (va_Qi (fun (r : Int32) (u : Vl) => Q r u) (fun u t => va_P D.1 vwCl ((fun (u : Vl) => List.flatten [bX6 cI cJ cZ nl0 a0 r0 u, bX3 cI cJ cZ a1 r1 v1]) u) t.heap ∧ va_D A ((fun (u : Vl) => List.flatten [bX6 cI cJ cZ nl0 a0 r0 u, bX3 cI cJ cZ a1 r1 v1]) u)) A) args s 0 0 A) 85 [(0, .ref a0), (1, .ref a1), (2, .int y2), (3, .int y3), (4, .int y4), (5, .int y5)] [] (List.flatten [bX6 cI cJ cZ nl0 a0 r0 v0, bX3 cI cJ cZ a1 r1 v1]) := by
  intro v0 y2 y3 y4 y5 h
  refine J_iload C 87 dX6_live_85 rfl rfl ?_
  refine J_iconst C 88 dX6_live_87 rfl ki_1 ?_
  refine J_iload C 90 dX6_live_88 rfl rfl ?_
  refine J_ishl C 91 dX6_live_90 rfl ?_
  refine J_ior C 92 dX6_live_91 rfl ?_
  obtain ⟨x_10, ex_10⟩ : ∃ z : Int32, z = (y4 ||| (1 <<< (y5 &&& 31))) := ⟨_, rfl⟩
  have h := h x_10 ex_10
  refine J_nmi ex_10 ?_
  refine J_istore C 94 [(4, .int x_10), (0, .ref a0), (1, .ref a1), (2, .int y2), (3, .int y3), (5, .int y5)] dX6_live_92 rfl (by decide) rfl ?_
  refine J_aload_n C 95 dX6_live_94 rfl rfl ?_
  refine J_aload_n C 96 dX6_live_95 rfl rfl ?_
  refine J_iload C 98 dX6_live_96 rfl rfl ?_
  refine J_iload_n C 99 dX6_live_98 rfl rfl ?_
  refine J_callBvV (Bs := [bX6 cI cJ cZ nl0 a0 r0 v0, bX3 cI cJ cZ a1 r1 v1]) (As := [.ref a1, .int y5, .int y2]) C 102 (c_X6_countDark l D cI cJ cZ cS nl0 a0 r0 v0 a1 r1 v1 y5 y2 _ h) wd672 wd669 wd29 wd670 wd671 6 0 rfl rfl rfl hdX6_countDark ⟨Nat.le_of_ble_eq_true rfl, Nat.le_of_ble_eq_true rfl⟩ ⟨Nat.zero_le _, Nat.zero_le _⟩ rfl (Nat.le_of_ble_eq_true rfl) [0, 1] [] 2 rfl (by decide +kernel) rfl rfl (fun (u : Vl) => [bX6 cI cJ cZ nl0 a0 r0 u, bX3 cI cJ cZ a1 r1 v1]) (fun _ => rfl) [0, 1] (by decide +kernel) (fun _ => rfl) rfl (fun (u : Vl) => [bX6 cI cJ cZ nl0 a0 r0 u, bX3 cI cJ cZ a1 r1 v1]) (fun _ => rfl) dX6_live_99 rfl (fun u h => ?_)
  obtain ⟨u_11, hu⟩ : ∃ z, z = u := ⟨_, rfl⟩
  subst hu
  refine J_goto C 115 dX6_live_102 rfl ?_
  refine J_loc [1, 2, 3, 4, 0, 5] rfl ?_
  exact wk_X6_live_c115 C hr hk hB26 u_11 y2 y3 x_10 y5 h
def wp_X6_live_c58 (nl0 : Nat) (v1 : Vl) (Q : Int32 → Vl → Prop) (B26 : Vl → Int32 → Int32 → Int32 → Int32 → Prop) (v0 : Vl) (y2 : Int32) (y3 : Int32) (y4 : Int32) (y5 : Int32) (s0 : Int32) (s1 : Int32) (s2 : Int32) (s3 : Int32) : Prop := wp_X3_needOf v1 s3 s2 s1 s0 (fun r_7 => wp_X6_isTooLittle nl0 v0 v1 y5 r_7 (fun r_9 u_8 => ((¬ r_9 = 0 → wp_X6_live_c85 nl0 v1 Q B26 u_8 y2 y3 y4 y5) ∧ (r_9 = 0 → wp_X3_isDarkBySky v1 y5 y2 (fun r_17 => ((r_17 = 0 → wp_X8_put 9 (u_8.2.2.1 2) y5 0 (fun u_18 => ∀ v0s_19 : Vl, v0s_19 = setRA u_8 2 u_18 → wp_X6_live_c115 nl0 v1 Q B26 v0s_19 y2 y3 y4 y5)) ∧ (¬ r_17 = 0 → wp_X6_live_c85 nl0 v1 Q B26 u_8 y2 y3 y4 y5)))))))
set_option maxHeartbeats 4000000 in
set_option maxRecDepth 100000 in
theorem wk_X6_live_c58 {p : Program} {l : Launch} {e : Env} {s : State} {m : MethodId} {args : Array Value} {below : List Frame} {meth : Method} {c : Code} {D : GG} {A : Nat → Prop} {cI cJ cZ cS : ClassId} {nl0 : Nat} {a0 : Nat} {r0 : Nat → Nat} {a1 : Nat} {r1 : Nat → Nat} {v1 : Vl} {B26 : Vl → Int32 → Int32 → Int32 → Int32 → Prop} {Q : Int32 → Vl → Prop} (C : Cx p s m args c D (tyL cI cJ cZ cS) A RX6 cX6_live 7) (hr : meth.sig.returnType = some .int) (hk : meth.locks = false) (hB26 : ∀ (v0 : Vl) (y2 : Int32) (y3 : Int32) (y4 : Int32) (y5 : Int32), B26 v0 y2 y3 y4 y5 → J p l e (rmk 3 69) s m args below meth c D A 7 0 0 (MQ below (va_Qi (fun (r : Int32) (u : Vl) => Q r u) (fun u t => va_P D.1 vwCl ((fun (u : Vl) => List.flatten [bX6 cI cJ cZ nl0 a0 r0 u, bX3 cI cJ cZ a1 r1 v1]) u) t.heap ∧ va_D A ((fun (u : Vl) => List.flatten [bX6 cI cJ cZ nl0 a0 r0 u, bX3 cI cJ cZ a1 r1 v1]) u)) A) args s 0 0 A) 26 [(0, .ref a0), (1, .ref a1), (2, .int y2), (3, .int y3), (4, .int y4), (5, .int y5)] [] (List.flatten [bX6 cI cJ cZ nl0 a0 r0 v0, bX3 cI cJ cZ a1 r1 v1])) : ∀ (v0 : Vl) (y2 : Int32) (y3 : Int32) (y4 : Int32) (y5 : Int32) (s0 : Int32) (s1 : Int32) (s2 : Int32) (s3 : Int32), wp_X6_live_c58 nl0 v1 Q B26 v0 y2 y3 y4 y5 s0 s1 s2 s3 → J p l e (rmk 3 69) s m args below meth c D A 7 0 0 (MQ below (va_Qi (fun (r : Int32) (u : Vl) => Q r u) (fun u t => va_P D.1 vwCl ((fun (u : Vl) => List.flatten [bX6 cI cJ cZ nl0 a0 r0 u, bX3 cI cJ cZ a1 r1 v1]) u) t.heap ∧ va_D A ((fun (u : Vl) => List.flatten [bX6 cI cJ cZ nl0 a0 r0 u, bX3 cI cJ cZ a1 r1 v1]) u)) A) args s 0 0 A) 58 [(0, .ref a0), (1, .ref a1), (2, .int y2), (3, .int y3), (4, .int y4), (5, .int y5)] [.int s0, .int s1, .int s2, .int s3, .ref a1] (List.flatten [bX6 cI cJ cZ nl0 a0 r0 v0, bX3 cI cJ cZ a1 r1 v1]) := by
  intro v0 y2 y3 y4 y5 s0 s1 s2 s3 h
  refine J_callBiV (Bs := [bX6 cI cJ cZ nl0 a0 r0 v0, bX3 cI cJ cZ a1 r1 v1]) (As := [.int s3, .int s2, .int s1, .int s0]) C 61 (c_X3_needOf l D cI cJ cZ cS a1 r1 v1 s3 s2 s1 s0 _ h) wd655 wd652 wd19 wd653 wd654 3 0 rfl rfl rfl hdX3_needOf ⟨Nat.le_of_ble_eq_true rfl, Nat.le_of_ble_eq_true rfl⟩ ⟨Nat.zero_le _, Nat.zero_le _⟩ rfl (Nat.le_of_ble_eq_true rfl) [1] [0] 2 rfl (by decide +kernel) rfl rfl (fun (u : Unit) => [bX3 cI cJ cZ a1 r1 v1]) (fun _ => rfl) [1, 0] (by decide +kernel) (fun _ => rfl) rfl (fun (u : Unit) => [bX6 cI cJ cZ nl0 a0 r0 v0, bX3 cI cJ cZ a1 r1 v1]) (fun _ => rfl) dX6_live_58 rfl (fun r_7 u h => ?_)
  refine J_istore C 63 [(6, .int r_7), (0, .ref a0), (1, .ref a1), (2, .int y2), (3, .int y3), (4, .int y4), (5, .int y5)] dX6_live_61 rfl (by decide) rfl ?_
  refine J_aload_n C 64 dX6_live_63 rfl rfl ?_
  refine J_aload_n C 65 dX6_live_64 rfl rfl ?_
  refine J_iload C 67 dX6_live_65 rfl rfl ?_
  refine J_iload C 69 dX6_live_67 rfl rfl ?_
  refine J_callBiV (Bs := [bX6 cI cJ cZ nl0 a0 r0 v0, bX3 cI cJ cZ a1 r1 v1]) (As := [.ref a1, .int y5, .int r_7]) C 72 (c_X6_isTooLittle l D cI cJ cZ cS nl0 a0 r0 v0 a1 r1 v1 y5 r_7 _ h) wd659 wd656 wd29 wd657 wd658 6 0 rfl rfl rfl hdX6_isTooLittle ⟨Nat.le_of_ble_eq_true rfl, Nat.le_of_ble_eq_true rfl⟩ ⟨Nat.zero_le _, Nat.zero_le _⟩ rfl (Nat.le_of_ble_eq_true rfl) [0, 1] [] 2 rfl (by decide +kernel) rfl rfl (fun (u : Vl) => [bX6 cI cJ cZ nl0 a0 r0 u, bX3 cI cJ cZ a1 r1 v1]) (fun _ => rfl) [0, 1] (by decide +kernel) (fun _ => rfl) rfl (fun (u : Vl) => [bX6 cI cJ cZ nl0 a0 r0 u, bX3 cI cJ cZ a1 r1 v1]) (fun _ => rfl) dX6_live_69 rfl (fun r_9 u h => ?_)
  obtain ⟨u_8, hu⟩ : ∃ z, z = u := ⟨_, rfl⟩
  subst hu
  refine J_if_ne C 75 85 dX6_live_72 rfl rfl (fun c => ?_) (fun c => ?_)
  · have h := h.1 c
    refine J_loc [1, 2, 3, 4, 5, 6] rfl ?_
    exact wk_X6_live_c85 C hr hk hB26 u_8 y2 y3 y4 y5 h
  · have h := h.2 c
    refine J_aload_n C 76 dX6_live_75 rfl rfl ?_
    refine J_iload C 78 dX6_live_76 rfl rfl ?_
    refine J_iload_n C 79 dX6_live_78 rfl rfl ?_
    refine J_callBiV (Bs := [bX6 cI cJ cZ nl0 a0 r0 u_8, bX3 cI cJ cZ a1 r1 v1]) (As := [.int y5, .int y2]) C 82 (c_X3_isDarkBySky l D cI cJ cZ cS a1 r1 v1 y5 y2 _ h) wd668 wd665 wd19 wd666 wd667 3 0 rfl rfl rfl hdX3_isDarkBySky ⟨Nat.le_of_ble_eq_true rfl, Nat.le_of_ble_eq_true rfl⟩ ⟨Nat.zero_le _, Nat.zero_le _⟩ rfl (Nat.le_of_ble_eq_true rfl) [1] [0] 2 rfl (by decide +kernel) rfl rfl (fun (u : Unit) => [bX3 cI cJ cZ a1 r1 v1]) (fun _ => rfl) [1, 0] (by decide +kernel) (fun _ => rfl) rfl (fun (u : Unit) => [bX6 cI cJ cZ nl0 a0 r0 u_8, bX3 cI cJ cZ a1 r1 v1]) (fun _ => rfl) dX6_live_79 rfl (fun r_17 u h => ?_)
    refine J_if_eq C 85 105 dX6_live_82 rfl rfl (fun c => ?_) (fun c => ?_)
    · have h := h.1 c
      refine J_aload_n C 106 dX6_live_105 rfl rfl ?_
      refine J_get C 109 6 inlX6 0 2 rfl rfl (by decide) wd96 rfl rfl dX6_live_106 rfl ?_
      refine J_iload C 111 dX6_live_109 rfl rfl ?_
      refine J_iconst C 112 dX6_live_111 rfl ki_0 ?_
      refine J_call1vSN (As := [.ref (r0 2), .int y5, .int 0]) C 115 (c_X8_put l D cI cJ cZ cS 9 (r0 2) (u_8.2.2.1 2) y5 0 _ h) wd83 (mi 63 rfl) wd2 wd82 hdX8_put ⟨Nat.le_of_ble_eq_true rfl, Nat.le_of_ble_eq_true rfl⟩ ⟨Nat.zero_le _, Nat.zero_le _⟩ rfl (Nat.le_of_ble_eq_true rfl) 3 rfl (fun u => .inl (cI, 9, .inl u)) (fun _ => rfl) (fun (u : (Nat → Int32)) => List.flatten [bX6 cI cJ cZ nl0 a0 r0 (setRA u_8 2 u), bX3 cI cJ cZ a1 r1 v1]) (fun _ => rfl) dX6_live_112 rfl (fun u h => ?_)
      obtain ⟨u_18, hu⟩ : ∃ z, z = u := ⟨_, rfl⟩
      subst hu
      obtain ⟨v0s_19, ev0s_19⟩ : ∃ z : Vl, z = setRA u_8 2 u_18 := ⟨_, rfl⟩
      have h := h v0s_19 ev0s_19
      refine J_ws (ws' := List.flatten [bX6 cI cJ cZ nl0 a0 r0 v0s_19, bX3 cI cJ cZ a1 r1 v1]) (by subst ev0s_19; rfl) ?_
      refine J_loc [1, 2, 3, 4, 5, 6] rfl ?_
      exact wk_X6_live_c115 C hr hk hB26 v0s_19 y2 y3 y4 y5 h
    · have h := h.2 c
      refine J_loc [1, 2, 3, 4, 5, 6] rfl ?_
      exact wk_X6_live_c85 C hr hk hB26 u_8 y2 y3 y4 y5 h
def wp_X6_live_c26 (nl0 : Nat) (v1 : Vl) (Q : Int32 → Vl → Prop) : Nat → Vl → Int32 → Int32 → Int32 → Int32 → Prop
  | 0 => fun _ _ _ _ _ => False
  | n + 1 => fun v0 y2 y3 y4 y5 => (((v1.1 7) ≤ y5 → ∀ v0s_4 : Vl, v0s_4 = setI v0 13 y2 → ∀ v0s_5 : Vl, v0s_5 = setI v0s_4 12 ((v0s_4.1 12) + 1) → Q y4 v0s_5) ∧ (¬ (v1.1 7) ≤ y5 → wp_X8_at 9 (v0.2.2.1 1) y5 (fun r_6 => ((¬ r_6 = 1 → wp_X6_live_c58 nl0 v1 Q (wp_X6_live_c26 nl0 v1 Q n) v0 y2 y3 y4 y5 0 y2 y3 y5) ∧ (r_6 = 1 → wp_X6_live_c58 nl0 v1 Q (wp_X6_live_c26 nl0 v1 Q n) v0 y2 y3 y4 y5 1 y2 y3 y5)))))
set_option maxHeartbeats 4000000 in
set_option maxRecDepth 100000 in
theorem wk_X6_live_c26 {p : Program} {l : Launch} {e : Env} {s : State} {m : MethodId} {args : Array Value} {below : List Frame} {meth : Method} {c : Code} {D : GG} {A : Nat → Prop} {cI cJ cZ cS : ClassId} {nl0 : Nat} {a0 : Nat} {r0 : Nat → Nat} {a1 : Nat} {r1 : Nat → Nat} {v1 : Vl} {Q : Int32 → Vl → Prop} (C : Cx p s m args c D (tyL cI cJ cZ cS) A RX6 cX6_live 7) (hr : meth.sig.returnType = some .int) (hk : meth.locks = false) : ∀ (n : Nat) (v0 : Vl) (y2 : Int32) (y3 : Int32) (y4 : Int32) (y5 : Int32), wp_X6_live_c26 nl0 v1 Q n v0 y2 y3 y4 y5 → J p l e (rmk 3 69) s m args below meth c D A 7 0 0 (MQ below (va_Qi (fun (r : Int32) (u : Vl) => Q r u) (fun u t => va_P D.1 vwCl ((fun (u : Vl) => List.flatten [bX6 cI cJ cZ nl0 a0 r0 u, bX3 cI cJ cZ a1 r1 v1]) u) t.heap ∧ va_D A ((fun (u : Vl) => List.flatten [bX6 cI cJ cZ nl0 a0 r0 u, bX3 cI cJ cZ a1 r1 v1]) u)) A) args s 0 0 A) 26 [(0, .ref a0), (1, .ref a1), (2, .int y2), (3, .int y3), (4, .int y4), (5, .int y5)] [] (List.flatten [bX6 cI cJ cZ nl0 a0 r0 v0, bX3 cI cJ cZ a1 r1 v1]) := by
  intro n
  induction n with
  | zero =>
    intro v0 y2 y3 y4 y5 h
    exact False.elim h
  | succ n ih =>
    intro v0 y2 y3 y4 y5 h
    refine J_iload C 28 dX6_live_26 rfl rfl ?_
    refine J_aload_n C 29 dX6_live_28 rfl rfl ?_
    refine J_getN C 32 3 inlX3 6 7 rfl rfl (by decide) (mi 42 rfl) rfl rfl dX6_live_29 rfl ?_
    refine J_icmp_ge C 35 146 dX6_live_32 rfl rfl (fun c => ?_) (fun c => ?_)
    · have h := h.1 c
      refine J_aload_n C 147 dX6_live_146 rfl rfl ?_
      refine J_iload_n C 148 dX6_live_147 rfl rfl ?_
      obtain ⟨v0s_4, ev0s_4⟩ : ∃ z : Vl, z = setI v0 13 y2 := ⟨_, rfl⟩
      have h := h v0s_4 ev0s_4
      refine J_put C 151 6 inlX6 tyX6 tyX6_ok nmX6 0 13 rfl rfl (by decide) wd143 rfl rfl rfl rfl rfl (List.flatten [bX6 cI cJ cZ nl0 a0 r0 v0s_4, bX3 cI cJ cZ a1 r1 v1]) (by subst ev0s_4; rfl) dX6_live_148 rfl ?_
      refine J_aload_n C 152 dX6_live_151 rfl rfl ?_
      refine J_dup C 153 dX6_live_152 rfl rfl ?_
      refine J_get C 156 6 inlX6 0 12 rfl rfl (by decide) wd142 rfl rfl dX6_live_153 rfl ?_
      refine J_iconst C 157 dX6_live_156 rfl ki_1 ?_
      refine J_iadd C 158 dX6_live_157 rfl ?_
      obtain ⟨v0s_5, ev0s_5⟩ : ∃ z : Vl, z = setI v0s_4 12 ((v0s_4.1 12) + 1) := ⟨_, rfl⟩
      have h := h v0s_5 ev0s_5
      refine J_put C 161 6 inlX6 tyX6 tyX6_ok nmX6 0 12 rfl rfl (by decide) wd142 rfl rfl rfl rfl rfl (List.flatten [bX6 cI cJ cZ nl0 a0 r0 v0s_5, bX3 cI cJ cZ a1 r1 v1]) (by subst ev0s_5; rfl) dX6_live_158 rfl ?_
      refine J_iload C 163 dX6_live_161 rfl rfl ?_
      exact J_iret C hr hk v0s_5 rfl dX6_live_163 h
    · have h := h.2 c
      refine J_aload_n C 36 dX6_live_35 rfl rfl ?_
      refine J_iload C 38 dX6_live_36 rfl rfl ?_
      refine J_iload_n C 39 dX6_live_38 rfl rfl ?_
      refine J_iload_n C 40 dX6_live_39 rfl rfl ?_
      refine J_aload_n C 41 dX6_live_40 rfl rfl ?_
      refine J_get C 44 6 inlX6 0 1 rfl rfl (by decide) wd95 rfl rfl dX6_live_41 rfl ?_
      refine J_iload C 46 dX6_live_44 rfl rfl ?_
      refine J_call1piSN (As := [.ref (r0 1), .int y5]) C 49 (c_X8_at l D cI cJ cZ cS 9 (r0 1) (v0.2.2.1 1) y5 _ h) wd147 (mi 62 rfl) wd2 wd146 hdX8_at ⟨Nat.le_of_ble_eq_true rfl, Nat.le_of_ble_eq_true rfl⟩ ⟨Nat.zero_le _, Nat.zero_le _⟩ rfl (Nat.le_of_ble_eq_true rfl) 2 rfl (fun _ => rfl) dX6_live_46 rfl (fun r_6 u h => ?_)
      refine J_iconst C 50 dX6_live_49 rfl ki_1 ?_
      refine J_icmp_ne C 53 57 dX6_live_50 rfl rfl (fun c => ?_) (fun c => ?_)
      · have h := h.1 c
        refine J_iconst C 58 dX6_live_57 rfl ki_0 ?_
        refine J_loc [0, 1, 2, 3, 4, 5] rfl ?_
        exact wk_X6_live_c58 C hr hk ih v0 y2 y3 y4 y5 0 y2 y3 y5 h
      · have h := h.2 c
        refine J_iconst C 54 dX6_live_53 rfl ki_1 ?_
        refine J_goto C 58 dX6_live_54 rfl ?_
        refine J_loc [0, 1, 2, 3, 4, 5] rfl ?_
        exact wk_X6_live_c58 C hr hk ih v0 y2 y3 y4 y5 1 y2 y3 y5 h
def wp_X6_live (nl0 : Nat) (v0 : Vl) (v1 : Vl) (x2 : Int32) (Q : Int32 → Vl → Prop) : Prop := wp_X6_layEggs nl0 v0 v1 (fun u_1 => wp_X6_sail nl0 u_1 v1 x2 (fun u_2 => wp_X3_hoursOf v1 (u_2.1 12) (fun r_3 => (∃ k : Nat, wp_X6_live_c26 nl0 v1 Q k u_2 x2 r_3 0 0))))
set_option maxHeartbeats 4000000 in
set_option maxRecDepth 100000 in
theorem c_X6_live (l : Launch) (D : GG) (cI cJ cZ cS : ClassId) (nl0 : Nat) (a0 : Nat) (r0 : Nat → Nat) (v0 : Vl) (a1 : Nat) (r1 : Nat → Nat) (v1 : Vl) (x2 : Int32) (Q : Int32 → Vl → Prop) (h : wp_X6_live nl0 v0 v1 x2 Q) : Mi l D (tyL cI cJ cZ cS) yX6_live cX6_live 7 .int 3 69 [.ref a0, .ref a1, .int x2] (List.flatten [bX6 cI cJ cZ nl0 a0 r0 v0, bX3 cI cJ cZ a1 r1 v1]) (fun (r : Int32) (u : Vl) => Q r u) (fun (u : Vl) => List.flatten [bX6 cI cJ cZ nl0 a0 r0 u, bX3 cI cJ cZ a1 r1 v1]) := by
  refine Mi_of RX6 [(0, .ref a0), (1, .ref a1), (2, .int x2)] (by decide +kernel) rfl rfl (Nat.le_of_ble_eq_true rfl) ?_
  intro p e s m args below meth c A C hr hk
  refine J_aload_n C 1 dX6_live_0 rfl rfl ?_
  refine J_aload_n C 2 dX6_live_1 rfl rfl ?_
  refine J_callBvV (Bs := [bX6 cI cJ cZ nl0 a0 r0 v0, bX3 cI cJ cZ a1 r1 v1]) (As := [.ref a1]) C 5 (c_X6_layEggs l D cI cJ cZ cS nl0 a0 r0 v0 a1 r1 v1 _ h) wd617 wd614 wd29 wd615 wd616 6 0 rfl rfl rfl hdX6_layEggs ⟨Nat.le_of_ble_eq_true rfl, Nat.le_of_ble_eq_true rfl⟩ ⟨Nat.zero_le _, Nat.zero_le _⟩ rfl (Nat.le_of_ble_eq_true rfl) [0, 1] [] 2 rfl (by decide +kernel) rfl rfl (fun (u : Vl) => [bX6 cI cJ cZ nl0 a0 r0 u, bX3 cI cJ cZ a1 r1 v1]) (fun _ => rfl) [0, 1] (by decide +kernel) (fun _ => rfl) rfl (fun (u : Vl) => [bX6 cI cJ cZ nl0 a0 r0 u, bX3 cI cJ cZ a1 r1 v1]) (fun _ => rfl) dX6_live_2 rfl (fun u h => ?_)
  obtain ⟨u_1, hu⟩ : ∃ z, z = u := ⟨_, rfl⟩
  subst hu
  refine J_aload_n C 6 dX6_live_5 rfl rfl ?_
  refine J_aload_n C 7 dX6_live_6 rfl rfl ?_
  refine J_iload_n C 8 dX6_live_7 rfl rfl ?_
  refine J_callBvV (Bs := [bX6 cI cJ cZ nl0 a0 r0 u_1, bX3 cI cJ cZ a1 r1 v1]) (As := [.ref a1, .int x2]) C 11 (c_X6_sail l D cI cJ cZ cS nl0 a0 r0 u_1 a1 r1 v1 x2 _ h) wd621 wd618 wd29 wd619 wd620 6 0 rfl rfl rfl hdX6_sail ⟨Nat.le_of_ble_eq_true rfl, Nat.le_of_ble_eq_true rfl⟩ ⟨Nat.zero_le _, Nat.zero_le _⟩ rfl (Nat.le_of_ble_eq_true rfl) [0, 1] [] 2 rfl (by decide +kernel) rfl rfl (fun (u : Vl) => [bX6 cI cJ cZ nl0 a0 r0 u, bX3 cI cJ cZ a1 r1 v1]) (fun _ => rfl) [0, 1] (by decide +kernel) (fun _ => rfl) rfl (fun (u : Vl) => [bX6 cI cJ cZ nl0 a0 r0 u, bX3 cI cJ cZ a1 r1 v1]) (fun _ => rfl) dX6_live_8 rfl (fun u h => ?_)
  obtain ⟨u_2, hu⟩ : ∃ z, z = u := ⟨_, rfl⟩
  subst hu
  refine J_aload_n C 12 dX6_live_11 rfl rfl ?_
  refine J_aload_n C 13 dX6_live_12 rfl rfl ?_
  refine J_get C 16 6 inlX6 0 12 rfl rfl (by decide) wd142 rfl rfl dX6_live_13 rfl ?_
  refine J_callBiV (Bs := [bX6 cI cJ cZ nl0 a0 r0 u_2, bX3 cI cJ cZ a1 r1 v1]) (As := [.int (u_2.1 12)]) C 19 (c_X3_hoursOf l D cI cJ cZ cS a1 r1 v1 (u_2.1 12) _ h) wd647 wd644 wd19 wd645 wd646 3 0 rfl rfl rfl hdX3_hoursOf ⟨Nat.le_of_ble_eq_true rfl, Nat.le_of_ble_eq_true rfl⟩ ⟨Nat.zero_le _, Nat.zero_le _⟩ rfl (Nat.le_of_ble_eq_true rfl) [1] [0] 2 rfl (by decide +kernel) rfl rfl (fun (u : Unit) => [bX3 cI cJ cZ a1 r1 v1]) (fun _ => rfl) [1, 0] (by decide +kernel) (fun _ => rfl) rfl (fun (u : Unit) => [bX6 cI cJ cZ nl0 a0 r0 u_2, bX3 cI cJ cZ a1 r1 v1]) (fun _ => rfl) dX6_live_16 rfl (fun r_3 u h => ?_)
  refine J_istore_n C 20 [(3, .int r_3), (0, .ref a0), (1, .ref a1), (2, .int x2)] dX6_live_19 rfl (by decide) rfl ?_
  refine J_iconst C 21 dX6_live_20 rfl ki_0 ?_
  refine J_istore C 23 [(4, .int 0), (3, .int r_3), (0, .ref a0), (1, .ref a1), (2, .int x2)] dX6_live_21 rfl (by decide) rfl ?_
  refine J_iconst C 24 dX6_live_23 rfl ki_0 ?_
  refine J_istore C 26 [(5, .int 0), (4, .int 0), (3, .int r_3), (0, .ref a0), (1, .ref a1), (2, .int x2)] dX6_live_24 rfl (by decide) rfl ?_
  refine J_loc [3, 4, 5, 2, 1, 0] rfl ?_
  obtain ⟨n1, h⟩ := h
  exact wk_X6_live_c26 C hr hk n1 u_2 x2 r_3 0 0 h
def wp_X6_oilOn (nl0 : Nat) (v0 : Vl) (x1 : Int32) (x2 : Int32) (Q : Int32 → Prop) : Prop := wp_X6_pageOf x1 x2 (fun r_1 => wp_X8_at nl0 (v0.2.2.1 4) r_1 (fun r_2 => Q r_2))
set_option maxHeartbeats 4000000 in
set_option maxRecDepth 100000 in
theorem c_X6_oilOn (l : Launch) (D : GG) (cI cJ cZ cS : ClassId) (nl0 : Nat) (a0 : Nat) (r0 : Nat → Nat) (v0 : Vl) (x1 : Int32) (x2 : Int32) (Q : Int32 → Prop) (h : wp_X6_oilOn nl0 v0 x1 x2 Q) : Mi l D (tyL cI cJ cZ cS) yX6_oilOn cX6_oilOn 3 .int 1 21 [.ref a0, .int x1, .int x2] (List.flatten [bX6 cI cJ cZ nl0 a0 r0 v0]) (fun (r : Int32) (u : Unit) => Q r) (fun (u : Unit) => List.flatten [bX6 cI cJ cZ nl0 a0 r0 v0]) := by
  refine Mi_of RX6 [(0, .ref a0), (1, .int x1), (2, .int x2)] (by decide +kernel) rfl rfl (Nat.le_of_ble_eq_true rfl) ?_
  intro p e s m args below meth c A C hr hk
  refine J_aload_n C 1 dX6_oilOn_0 rfl rfl ?_
  refine J_get C 4 6 inlX6 0 4 rfl rfl (by decide) wd102 rfl rfl dX6_oilOn_1 rfl ?_
  refine J_iload_n C 5 dX6_oilOn_4 rfl rfl ?_
  refine J_iload_n C 6 dX6_oilOn_5 rfl rfl ?_
  refine J_callBiS (Bs := [bX6 cI cJ cZ nl0 a0 r0 v0]) (As := [.int x1, .int x2]) C 9 (c_X6_pageOf l D cI cJ cZ cS x1 x2 _ h) wd675 wd673 wd29 wd674 hdX6_pageOf ⟨Nat.le_of_ble_eq_true rfl, Nat.le_of_ble_eq_true rfl⟩ ⟨Nat.zero_le _, Nat.zero_le _⟩ rfl (Nat.le_of_ble_eq_true rfl) [] [0] 1 rfl (by decide +kernel) rfl rfl (fun (u : Unit) => ([] : List va_W)) (fun _ => rfl) [0] (by decide +kernel) (fun _ => rfl) rfl (fun (u : Unit) => [bX6 cI cJ cZ nl0 a0 r0 v0]) (fun _ => rfl) dX6_oilOn_6 rfl (fun r_1 u h => ?_)
  refine J_call1piSN (As := [.ref (r0 4), .int r_1]) C 12 (c_X8_at l D cI cJ cZ cS nl0 (r0 4) (v0.2.2.1 4) r_1 _ h) wd147 (mi 62 rfl) wd2 wd146 hdX8_at ⟨Nat.le_of_ble_eq_true rfl, Nat.le_of_ble_eq_true rfl⟩ ⟨Nat.zero_le _, Nat.zero_le _⟩ rfl (Nat.le_of_ble_eq_true rfl) 5 rfl (fun _ => rfl) dX6_oilOn_9 rfl (fun r_2 u h => ?_)
  exact J_iret C hr hk () rfl dX6_oilOn_12 h
def wp_X6_startOver_c2 (nl0 : Nat) (v1 : Vl) (Q : Vl → Prop) : Nat → Vl → Int32 → Prop
  | 0 => fun _ _ => False
  | n + 1 => fun v0 y2 => ((9 ≤ y2 → ∀ v0s_1 : Vl, v0s_1 = setI v0 5 (v1.1 10) → ∀ v0s_2 : Vl, v0s_2 = setI v0s_1 6 0 → ∀ v0s_3 : Vl, v0s_3 = setI v0s_2 7 0 → ∀ v0s_4 : Vl, v0s_4 = setI v0s_3 8 0 → ∀ v0s_5 : Vl, v0s_5 = setI v0s_4 9 (-1) → ∀ v0s_6 : Vl, v0s_6 = setI v0s_5 10 0 → ∀ v0s_7 : Vl, v0s_7 = setI v0s_6 11 0 → ∀ v0s_8 : Vl, v0s_8 = setI v0s_7 12 0 → ∀ v0s_9 : Vl, v0s_9 = setI v0s_8 13 0 → ∀ v0s_10 : Vl, v0s_10 = setI v0s_9 14 0 → ∀ v0s_11 : Vl, v0s_11 = setI v0s_10 15 0 → Q v0s_11) ∧ (¬ 9 ≤ y2 → wp_X8_at 9 (v1.2.2.1 3) y2 (fun r_12 => wp_X8_put 9 (v0.2.2.1 0) y2 r_12 (fun u_13 => ∀ v0s_14 : Vl, v0s_14 = setRA v0 0 u_13 → wp_X8_put 9 (v0s_14.2.2.1 1) y2 0 (fun u_15 => ∀ v0s_16 : Vl, v0s_16 = setRA v0s_14 1 u_15 → wp_X8_put 9 (v0s_16.2.2.1 2) y2 0 (fun u_17 => ∀ v0s_18 : Vl, v0s_18 = setRA v0s_16 2 u_17 → wp_X8_put 9 (v0s_18.2.2.1 3) y2 0 (fun u_19 => ∀ v0s_20 : Vl, v0s_20 = setRA v0s_18 3 u_19 → ∀ x_21 : Int32, x_21 = y2 + 1 → wp_X6_startOver_c2 nl0 v1 Q n v0s_20 x_21)))))))
set_option maxHeartbeats 4000000 in
set_option maxRecDepth 100000 in
theorem wk_X6_startOver_c2 {p : Program} {l : Launch} {e : Env} {s : State} {m : MethodId} {args : Array Value} {below : List Frame} {meth : Method} {c : Code} {D : GG} {A : Nat → Prop} {cI cJ cZ cS : ClassId} {nl0 : Nat} {a0 : Nat} {r0 : Nat → Nat} {a1 : Nat} {r1 : Nat → Nat} {v1 : Vl} {Q : Vl → Prop} (C : Cx p s m args c D (tyL cI cJ cZ cS) A RX6 cX6_startOver 3) (hr : meth.sig.returnType = none) (hk : meth.locks = false) : ∀ (n : Nat) (v0 : Vl) (y2 : Int32), wp_X6_startOver_c2 nl0 v1 Q n v0 y2 → J p l e (rmk 1 22) s m args below meth c D A 3 0 0 (MQ below (va_Qv (fun (u : Vl) => Q u) (fun u t => va_P D.1 vwCl ((fun (u : Vl) => List.flatten [bX6 cI cJ cZ nl0 a0 r0 u, bX3 cI cJ cZ a1 r1 v1]) u) t.heap ∧ va_D A ((fun (u : Vl) => List.flatten [bX6 cI cJ cZ nl0 a0 r0 u, bX3 cI cJ cZ a1 r1 v1]) u)) A) args s 0 0 A) 2 [(0, .ref a0), (1, .ref a1), (2, .int y2)] [] (List.flatten [bX6 cI cJ cZ nl0 a0 r0 v0, bX3 cI cJ cZ a1 r1 v1]) := by
  intro n
  induction n with
  | zero =>
    intro v0 y2 h
    exact False.elim h
  | succ n ih =>
    intro v0 y2 h
    refine J_iload_n C 3 dX6_startOver_2 rfl rfl ?_
    refine J_bipush C 5 dX6_startOver_3 rfl kb_9 ?_
    refine J_icmp_ge C 8 57 dX6_startOver_5 rfl rfl (fun c => ?_) (fun c => ?_)
    · have h := h.1 c
      refine J_aload_n C 58 dX6_startOver_57 rfl rfl ?_
      refine J_aload_n C 59 dX6_startOver_58 rfl rfl ?_
      refine J_getN C 62 3 inlX3 6 10 rfl rfl (by decide) (mi 49 rfl) rfl rfl dX6_startOver_59 rfl ?_
      obtain ⟨v0s_1, ev0s_1⟩ : ∃ z : Vl, z = setI v0 5 (v1.1 10) := ⟨_, rfl⟩
      have h := h v0s_1 ev0s_1
      refine J_put C 65 6 inlX6 tyX6 tyX6_ok nmX6 0 5 rfl rfl (by decide) wd136 rfl rfl rfl rfl rfl (List.flatten [bX6 cI cJ cZ nl0 a0 r0 v0s_1, bX3 cI cJ cZ a1 r1 v1]) (by subst ev0s_1; rfl) dX6_startOver_62 rfl ?_
      refine J_aload_n C 66 dX6_startOver_65 rfl rfl ?_
      refine J_iconst C 67 dX6_startOver_66 rfl ki_0 ?_
      obtain ⟨v0s_2, ev0s_2⟩ : ∃ z : Vl, z = setI v0s_1 6 0 := ⟨_, rfl⟩
      have h := h v0s_2 ev0s_2
      refine J_put C 70 6 inlX6 tyX6 tyX6_ok nmX6 0 6 rfl rfl (by decide) wd137 rfl rfl rfl rfl rfl (List.flatten [bX6 cI cJ cZ nl0 a0 r0 v0s_2, bX3 cI cJ cZ a1 r1 v1]) (by subst ev0s_2; rfl) dX6_startOver_67 rfl ?_
      refine J_aload_n C 71 dX6_startOver_70 rfl rfl ?_
      refine J_iconst C 72 dX6_startOver_71 rfl ki_0 ?_
      obtain ⟨v0s_3, ev0s_3⟩ : ∃ z : Vl, z = setI v0s_2 7 0 := ⟨_, rfl⟩
      have h := h v0s_3 ev0s_3
      refine J_put C 75 6 inlX6 tyX6 tyX6_ok nmX6 0 7 rfl rfl (by decide) wd138 rfl rfl rfl rfl rfl (List.flatten [bX6 cI cJ cZ nl0 a0 r0 v0s_3, bX3 cI cJ cZ a1 r1 v1]) (by subst ev0s_3; rfl) dX6_startOver_72 rfl ?_
      refine J_aload_n C 76 dX6_startOver_75 rfl rfl ?_
      refine J_iconst C 77 dX6_startOver_76 rfl ki_0 ?_
      obtain ⟨v0s_4, ev0s_4⟩ : ∃ z : Vl, z = setI v0s_3 8 0 := ⟨_, rfl⟩
      have h := h v0s_4 ev0s_4
      refine J_put C 80 6 inlX6 tyX6 tyX6_ok nmX6 0 8 rfl rfl (by decide) wd139 rfl rfl rfl rfl rfl (List.flatten [bX6 cI cJ cZ nl0 a0 r0 v0s_4, bX3 cI cJ cZ a1 r1 v1]) (by subst ev0s_4; rfl) dX6_startOver_77 rfl ?_
      refine J_aload_n C 81 dX6_startOver_80 rfl rfl ?_
      refine J_iconst C 82 dX6_startOver_81 rfl ki_m1 ?_
      obtain ⟨v0s_5, ev0s_5⟩ : ∃ z : Vl, z = setI v0s_4 9 (-1) := ⟨_, rfl⟩
      have h := h v0s_5 ev0s_5
      refine J_put C 85 6 inlX6 tyX6 tyX6_ok nmX6 0 9 rfl rfl (by decide) wd103 rfl rfl rfl rfl rfl (List.flatten [bX6 cI cJ cZ nl0 a0 r0 v0s_5, bX3 cI cJ cZ a1 r1 v1]) (by subst ev0s_5; rfl) dX6_startOver_82 rfl ?_
      refine J_aload_n C 86 dX6_startOver_85 rfl rfl ?_
      refine J_iconst C 87 dX6_startOver_86 rfl ki_0 ?_
      obtain ⟨v0s_6, ev0s_6⟩ : ∃ z : Vl, z = setI v0s_5 10 0 := ⟨_, rfl⟩
      have h := h v0s_6 ev0s_6
      refine J_put C 90 6 inlX6 tyX6 tyX6_ok nmX6 0 10 rfl rfl (by decide) wd140 rfl rfl rfl rfl rfl (List.flatten [bX6 cI cJ cZ nl0 a0 r0 v0s_6, bX3 cI cJ cZ a1 r1 v1]) (by subst ev0s_6; rfl) dX6_startOver_87 rfl ?_
      refine J_aload_n C 91 dX6_startOver_90 rfl rfl ?_
      refine J_iconst C 92 dX6_startOver_91 rfl ki_0 ?_
      obtain ⟨v0s_7, ev0s_7⟩ : ∃ z : Vl, z = setI v0s_6 11 0 := ⟨_, rfl⟩
      have h := h v0s_7 ev0s_7
      refine J_put C 95 6 inlX6 tyX6 tyX6_ok nmX6 0 11 rfl rfl (by decide) wd141 rfl rfl rfl rfl rfl (List.flatten [bX6 cI cJ cZ nl0 a0 r0 v0s_7, bX3 cI cJ cZ a1 r1 v1]) (by subst ev0s_7; rfl) dX6_startOver_92 rfl ?_
      refine J_aload_n C 96 dX6_startOver_95 rfl rfl ?_
      refine J_iconst C 97 dX6_startOver_96 rfl ki_0 ?_
      obtain ⟨v0s_8, ev0s_8⟩ : ∃ z : Vl, z = setI v0s_7 12 0 := ⟨_, rfl⟩
      have h := h v0s_8 ev0s_8
      refine J_put C 100 6 inlX6 tyX6 tyX6_ok nmX6 0 12 rfl rfl (by decide) wd142 rfl rfl rfl rfl rfl (List.flatten [bX6 cI cJ cZ nl0 a0 r0 v0s_8, bX3 cI cJ cZ a1 r1 v1]) (by subst ev0s_8; rfl) dX6_startOver_97 rfl ?_
      refine J_aload_n C 101 dX6_startOver_100 rfl rfl ?_
      refine J_iconst C 102 dX6_startOver_101 rfl ki_0 ?_
      obtain ⟨v0s_9, ev0s_9⟩ : ∃ z : Vl, z = setI v0s_8 13 0 := ⟨_, rfl⟩
      have h := h v0s_9 ev0s_9
      refine J_put C 105 6 inlX6 tyX6 tyX6_ok nmX6 0 13 rfl rfl (by decide) wd143 rfl rfl rfl rfl rfl (List.flatten [bX6 cI cJ cZ nl0 a0 r0 v0s_9, bX3 cI cJ cZ a1 r1 v1]) (by subst ev0s_9; rfl) dX6_startOver_102 rfl ?_
      refine J_aload_n C 106 dX6_startOver_105 rfl rfl ?_
      refine J_iconst C 107 dX6_startOver_106 rfl ki_0 ?_
      obtain ⟨v0s_10, ev0s_10⟩ : ∃ z : Vl, z = setI v0s_9 14 0 := ⟨_, rfl⟩
      have h := h v0s_10 ev0s_10
      refine J_put C 110 6 inlX6 tyX6 tyX6_ok nmX6 0 14 rfl rfl (by decide) wd144 rfl rfl rfl rfl rfl (List.flatten [bX6 cI cJ cZ nl0 a0 r0 v0s_10, bX3 cI cJ cZ a1 r1 v1]) (by subst ev0s_10; rfl) dX6_startOver_107 rfl ?_
      refine J_aload_n C 111 dX6_startOver_110 rfl rfl ?_
      refine J_iconst C 112 dX6_startOver_111 rfl ki_0 ?_
      obtain ⟨v0s_11, ev0s_11⟩ : ∃ z : Vl, z = setI v0s_10 15 0 := ⟨_, rfl⟩
      have h := h v0s_11 ev0s_11
      refine J_put C 115 6 inlX6 tyX6 tyX6_ok nmX6 0 15 rfl rfl (by decide) wd145 rfl rfl rfl rfl rfl (List.flatten [bX6 cI cJ cZ nl0 a0 r0 v0s_11, bX3 cI cJ cZ a1 r1 v1]) (by subst ev0s_11; rfl) dX6_startOver_112 rfl ?_
      exact J_vret C hr hk v0s_11 rfl dX6_startOver_115 h
    · have h := h.2 c
      refine J_aload_n C 9 dX6_startOver_8 rfl rfl ?_
      refine J_get C 12 6 inlX6 0 0 rfl rfl (by decide) wd94 rfl rfl dX6_startOver_9 rfl ?_
      refine J_iload_n C 13 dX6_startOver_12 rfl rfl ?_
      refine J_aload_n C 14 dX6_startOver_13 rfl rfl ?_
      refine J_getN C 17 3 inlX3 6 3 rfl rfl (by decide) (mi 48 rfl) rfl rfl dX6_startOver_14 rfl ?_
      refine J_iload_n C 18 dX6_startOver_17 rfl rfl ?_
      refine J_call1piSN (As := [.ref (r1 3), .int y2]) C 21 (c_X8_at l D cI cJ cZ cS 9 (r1 3) (v1.2.2.1 3) y2 _ h) wd147 (mi 62 rfl) wd2 wd146 hdX8_at ⟨Nat.le_of_ble_eq_true rfl, Nat.le_of_ble_eq_true rfl⟩ ⟨Nat.zero_le _, Nat.zero_le _⟩ rfl (Nat.le_of_ble_eq_true rfl) 10 rfl (fun _ => rfl) dX6_startOver_18 rfl (fun r_12 u h => ?_)
      refine J_call1vSN (As := [.ref (r0 0), .int y2, .int r_12]) C 24 (c_X8_put l D cI cJ cZ cS 9 (r0 0) (v0.2.2.1 0) y2 r_12 _ h) wd83 (mi 63 rfl) wd2 wd82 hdX8_put ⟨Nat.le_of_ble_eq_true rfl, Nat.le_of_ble_eq_true rfl⟩ ⟨Nat.zero_le _, Nat.zero_le _⟩ rfl (Nat.le_of_ble_eq_true rfl) 1 rfl (fun u => .inl (cI, 9, .inl u)) (fun _ => rfl) (fun (u : (Nat → Int32)) => List.flatten [bX6 cI cJ cZ nl0 a0 r0 (setRA v0 0 u), bX3 cI cJ cZ a1 r1 v1]) (fun _ => rfl) dX6_startOver_21 rfl (fun u h => ?_)
      obtain ⟨u_13, hu⟩ : ∃ z, z = u := ⟨_, rfl⟩
      subst hu
      obtain ⟨v0s_14, ev0s_14⟩ : ∃ z : Vl, z = setRA v0 0 u_13 := ⟨_, rfl⟩
      have h := h v0s_14 ev0s_14
      refine J_ws (ws' := List.flatten [bX6 cI cJ cZ nl0 a0 r0 v0s_14, bX3 cI cJ cZ a1 r1 v1]) (by subst ev0s_14; rfl) ?_
      refine J_aload_n C 25 dX6_startOver_24 rfl rfl ?_
      refine J_get C 28 6 inlX6 0 1 rfl rfl (by decide) wd95 rfl rfl dX6_startOver_25 rfl ?_
      refine J_iload_n C 29 dX6_startOver_28 rfl rfl ?_
      refine J_iconst C 30 dX6_startOver_29 rfl ki_0 ?_
      refine J_call1vSN (As := [.ref (r0 1), .int y2, .int 0]) C 33 (c_X8_put l D cI cJ cZ cS 9 (r0 1) (v0s_14.2.2.1 1) y2 0 _ h) wd83 (mi 63 rfl) wd2 wd82 hdX8_put ⟨Nat.le_of_ble_eq_true rfl, Nat.le_of_ble_eq_true rfl⟩ ⟨Nat.zero_le _, Nat.zero_le _⟩ rfl (Nat.le_of_ble_eq_true rfl) 2 rfl (fun u => .inl (cI, 9, .inl u)) (fun _ => rfl) (fun (u : (Nat → Int32)) => List.flatten [bX6 cI cJ cZ nl0 a0 r0 (setRA v0s_14 1 u), bX3 cI cJ cZ a1 r1 v1]) (fun _ => rfl) dX6_startOver_30 rfl (fun u h => ?_)
      obtain ⟨u_15, hu⟩ : ∃ z, z = u := ⟨_, rfl⟩
      subst hu
      obtain ⟨v0s_16, ev0s_16⟩ : ∃ z : Vl, z = setRA v0s_14 1 u_15 := ⟨_, rfl⟩
      have h := h v0s_16 ev0s_16
      refine J_ws (ws' := List.flatten [bX6 cI cJ cZ nl0 a0 r0 v0s_16, bX3 cI cJ cZ a1 r1 v1]) (by subst ev0s_16; rfl) ?_
      refine J_aload_n C 34 dX6_startOver_33 rfl rfl ?_
      refine J_get C 37 6 inlX6 0 2 rfl rfl (by decide) wd96 rfl rfl dX6_startOver_34 rfl ?_
      refine J_iload_n C 38 dX6_startOver_37 rfl rfl ?_
      refine J_iconst C 39 dX6_startOver_38 rfl ki_0 ?_
      refine J_call1vSN (As := [.ref (r0 2), .int y2, .int 0]) C 42 (c_X8_put l D cI cJ cZ cS 9 (r0 2) (v0s_16.2.2.1 2) y2 0 _ h) wd83 (mi 63 rfl) wd2 wd82 hdX8_put ⟨Nat.le_of_ble_eq_true rfl, Nat.le_of_ble_eq_true rfl⟩ ⟨Nat.zero_le _, Nat.zero_le _⟩ rfl (Nat.le_of_ble_eq_true rfl) 3 rfl (fun u => .inl (cI, 9, .inl u)) (fun _ => rfl) (fun (u : (Nat → Int32)) => List.flatten [bX6 cI cJ cZ nl0 a0 r0 (setRA v0s_16 2 u), bX3 cI cJ cZ a1 r1 v1]) (fun _ => rfl) dX6_startOver_39 rfl (fun u h => ?_)
      obtain ⟨u_17, hu⟩ : ∃ z, z = u := ⟨_, rfl⟩
      subst hu
      obtain ⟨v0s_18, ev0s_18⟩ : ∃ z : Vl, z = setRA v0s_16 2 u_17 := ⟨_, rfl⟩
      have h := h v0s_18 ev0s_18
      refine J_ws (ws' := List.flatten [bX6 cI cJ cZ nl0 a0 r0 v0s_18, bX3 cI cJ cZ a1 r1 v1]) (by subst ev0s_18; rfl) ?_
      refine J_aload_n C 43 dX6_startOver_42 rfl rfl ?_
      refine J_get C 46 6 inlX6 0 3 rfl rfl (by decide) wd97 rfl rfl dX6_startOver_43 rfl ?_
      refine J_iload_n C 47 dX6_startOver_46 rfl rfl ?_
      refine J_iconst C 48 dX6_startOver_47 rfl ki_0 ?_
      refine J_call1vSN (As := [.ref (r0 3), .int y2, .int 0]) C 51 (c_X8_put l D cI cJ cZ cS 9 (r0 3) (v0s_18.2.2.1 3) y2 0 _ h) wd83 (mi 63 rfl) wd2 wd82 hdX8_put ⟨Nat.le_of_ble_eq_true rfl, Nat.le_of_ble_eq_true rfl⟩ ⟨Nat.zero_le _, Nat.zero_le _⟩ rfl (Nat.le_of_ble_eq_true rfl) 4 rfl (fun u => .inl (cI, 9, .inl u)) (fun _ => rfl) (fun (u : (Nat → Int32)) => List.flatten [bX6 cI cJ cZ nl0 a0 r0 (setRA v0s_18 3 u), bX3 cI cJ cZ a1 r1 v1]) (fun _ => rfl) dX6_startOver_48 rfl (fun u h => ?_)
      obtain ⟨u_19, hu⟩ : ∃ z, z = u := ⟨_, rfl⟩
      subst hu
      obtain ⟨v0s_20, ev0s_20⟩ : ∃ z : Vl, z = setRA v0s_18 3 u_19 := ⟨_, rfl⟩
      have h := h v0s_20 ev0s_20
      refine J_ws (ws' := List.flatten [bX6 cI cJ cZ nl0 a0 r0 v0s_20, bX3 cI cJ cZ a1 r1 v1]) (by subst ev0s_20; rfl) ?_
      obtain ⟨x_21, ex_21⟩ : ∃ z : Int32, z = y2 + 1 := ⟨_, rfl⟩
      have h := h x_21 ex_21
      refine J_iinc C 54 [(2, .int x_21), (0, .ref a0), (1, .ref a1)] dX6_startOver_51 rfl rfl ((kinc_1 _).trans ex_21.symm) (by decide) rfl ?_
      refine J_goto C 2 dX6_startOver_54 rfl ?_
      refine J_loc [1, 2, 0] rfl ?_
      exact ih v0s_20 x_21 h
def wp_X6_startOver (nl0 : Nat) (v0 : Vl) (v1 : Vl)  (Q : Vl → Prop) : Prop := (∃ k : Nat, wp_X6_startOver_c2 nl0 v1 Q k v0 0)
set_option maxHeartbeats 4000000 in
set_option maxRecDepth 100000 in
theorem c_X6_startOver (l : Launch) (D : GG) (cI cJ cZ cS : ClassId) (nl0 : Nat) (a0 : Nat) (r0 : Nat → Nat) (v0 : Vl) (a1 : Nat) (r1 : Nat → Nat) (v1 : Vl)  (Q : Vl → Prop) (h : wp_X6_startOver nl0 v0 v1 Q) : Mv l D (tyL cI cJ cZ cS) yX6_startOver cX6_startOver 3 1 22 [.ref a0, .ref a1] (List.flatten [bX6 cI cJ cZ nl0 a0 r0 v0, bX3 cI cJ cZ a1 r1 v1]) (fun (u : Vl) => Q u) (fun (u : Vl) => List.flatten [bX6 cI cJ cZ nl0 a0 r0 u, bX3 cI cJ cZ a1 r1 v1]) := by
  refine Mv_of RX6 [(0, .ref a0), (1, .ref a1)] (by decide +kernel) rfl rfl (Nat.le_of_ble_eq_true rfl) ?_
  intro p e s m args below meth c A C hr hk
  refine J_iconst C 1 dX6_startOver_0 rfl ki_0 ?_
  refine J_istore_n C 2 [(2, .int 0), (0, .ref a0), (1, .ref a1)] dX6_startOver_1 rfl (by decide) rfl ?_
  refine J_loc [1, 2, 0] rfl ?_
  obtain ⟨n1, h⟩ := h
  exact wk_X6_startOver_c2 C hr hk n1 v0 0 h
