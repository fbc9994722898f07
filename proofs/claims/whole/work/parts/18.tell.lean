/-! ===== THE INVARIANT'S PIECES; calls that only tell ===== -/
theorem MK_fr {k : Ns} {LI LJ LA LB : List Nat} {v w : Vl} (h : MK k v) (f : fr LI LJ LA LB v w) (d1 : dj [10] LI = true) (d3 : dj [11, 12] LA = true) : MK k w := by
  unfold MK
  rw [f.1 10 (dj_n d1 (by decide)), f.2.2.1 11 (dj_n d3 (by decide)), f.2.2.1 12 (dj_n d3 (by decide))]
  exact h
theorem ML_fr {r s : Ns} {i : Nat} {LI LJ LA LB : List Nat} {v w : Vl} (h : MLi r s i v) (f : fr LI LJ LA LB v w) (d3 : dj [29] LA = true) : MLi r s i w := by
  unfold MLi
  rw [f.2.2.1 29 (dj_n d3 (by decide))]
  exact h
/-- THE TEXT and the fault -/
def IT (b : Nat → Nat) (n : Nat) (vx x0 w : Vl) : Prop := x0.1 1 = nI n ∧ w.1 32 = nI n ∧ n ≤ 500 ∧ vx.1 13 = w.1 33 ∧ ∀ i, i < n → x0.2.2.1 0 i = nI (b i) ∧ w.2.2.1 31 i = nI (b i) ∧ b i < 256
theorem IT_fr {b : Nat → Nat} {n : Nat} {vx x0 : Vl} {LI LJ LA LB : List Nat} {v w : Vl} (h : IT b n vx x0 v) (f : fr LI LJ LA LB v w) (d1 : dj [32, 33] LI = true) (d3 : dj [31] LA = true) : IT b n vx x0 w := by
  unfold IT
  rw [f.1 32 (dj_n d1 (by decide)), f.1 33 (dj_n d1 (by decide)), f.2.2.1 31 (dj_n d3 (by decide))]
  exact h
/-- SAYINGS -/
def IB (a b : Nat → Nat) (n : Nat) (x6 w : Vl) : Prop := x6.1 2 = nI n ∧ w.1 56 = nI n ∧ n ≤ 12 ∧ ∀ i, i < n → x6.2.2.1 0 i = nI (a i) ∧ x6.2.2.1 1 i = nI (b i) ∧ w.2.2.1 57 i = nI (a i) ∧ w.2.2.1 58 i = nI (b i) ∧ a i < 512 ∧ b i ≤ 1
theorem IB_fr {a b : Nat → Nat} {n : Nat} {x6 : Vl} {LI LJ LA LB : List Nat} {v w : Vl} (h : IB a b n x6 v) (f : fr LI LJ LA LB v w) (d1 : dj [56] LI = true) (d3 : dj [57, 58] LA = true) : IB a b n x6 w := by
  unfold IB
  rw [f.1 56 (dj_n d1 (by decide)), f.2.2.1 57 (dj_n d3 (by decide)), f.2.2.1 58 (dj_n d3 (by decide))]
  exact h
/-- BOOKS -/
def IW (p : Nat → Nat) (x7 w : Vl) : Prop := ∀ l, l < 9 → x7.2.2.1 1 l = nI (p l) ∧ w.2.2.1 59 l = nI (p l) ∧ p l ≤ 40 ∧ ∀ j, j < p l → x7.2.2.1 0 (40 * l + j) = w.2.2.1 60 (40 * l + j)
theorem IW_fr {p : Nat → Nat} {x7 : Vl} {LI LJ LA LB : List Nat} {v w : Vl} (h : IW p x7 v) (f : fr LI LJ LA LB v w) (d3 : dj [59, 60] LA = true) : IW p x7 w := by
  unfold IW
  rw [f.2.2.1 59 (dj_n d3 (by decide)), f.2.2.1 60 (dj_n d3 (by decide))]
  exact h
/-- an image in the model -/
def MI (r t : Ns) (o : Nat) (w : Vl) : Prop := w.2.2.2 49 (o + 36) = lN (t.1 5) ∧ w.2.2.2 49 (o + 37) = lN (t.1 6) ∧ w.2.2.2 49 (o + 38) = lN (t.1 14) ∧ w.2.2.2 49 (o + 39) = lN (t.1 15) ∧ w.2.2.2 49 (o + 40) = lN (t.1 7) ∧ w.2.2.2 49 (o + 41) = lN (t.1 8) ∧
  w.2.2.2 49 (o + 42) = (gI (t.1 9)).toInt64 ∧ w.2.2.2 49 (o + 43) = lN (t.1 12) ∧ w.2.2.2 49 (o + 44) = lN (t.1 10) ∧ w.2.2.2 49 (o + 45) = lN (t.1 11) ∧ w.2.2.2 49 (o + 46) = lN (t.1 13) ∧ w.2.2.2 49 (o + 48) = lN (t.1 16) ∧
  (∀ l, l < r.1 7 → w.2.2.2 49 (o + l) = lN (t.2 0 l) ∧ w.2.2.2 49 (o + 9 + l) = lN (t.2 1 l) ∧ w.2.2.2 49 (o + 18 + l) = lN (t.2 2 l) ∧ w.2.2.2 49 (o + 27 + l) = lN (t.2 3 l)) ∧
  (∀ l, l < r.1 7 → ∀ d, d < 40 → d < t.1 12 → (w.2.2.2 49 (o + 50 + (40 * l + d))).toInt32 = nI (t.2 4 (d * 9 + l)))
def II (c : Nat) (r : Ns) (i : Nat) (x : Vl) (f : Nat → Int32) (w : Vl) : Prop := ∃ t : Ns, x = encS t ∧ ((f i = 0 ∧ w.2.2.1 50 i = 0) ∨ (f i = 1 ∧ w.2.2.1 50 i = 1 ∧ WfS r t 0 0 ∧ t.1 12 ≤ 200 * c ∧ MI r t (410 * i) w))
theorem II_fr {c : Nat} {r : Ns} {i : Nat} {x : Vl} {g : Nat → Int32} {LI LJ LA LB : List Nat} {v w : Vl} (h : II c r i x g v) (f : fr LI LJ LA LB v w) (d3 : dj [50] LA = true) (d4 : dj [49] LB = true) : II c r i x g w := by
  unfold II MI
  rw [f.2.2.1 50 (dj_n d3 (by decide)), f.2.2.2 49 (dj_n d4 (by decide))]
  exact h
theorem II_up {c c' : Nat} {r : Ns} {i : Nat} {x : Vl} {g : Nat → Int32} {v : Vl} (h : II c r i x g v) (hc : c ≤ c') : II c' r i x g v := by
  obtain ⟨t, e, h⟩ := h
  refine ⟨t, e, h.elim Or.inl (fun q => Or.inr ⟨q.1, q.2.1, q.2.2.1, ?_, q.2.2.2.2⟩)⟩
  have := q.2.2.2.1
  omega
/-- what is now -/
def IS (c : Nat) (r s : Ns) (x1 w : Vl) : Prop := x1 = encS s ∧ WfS r s 0 0 ∧ s.1 12 ≤ 200 * c ∧ MS r s 0 0 w ∧ MLi r s 0 w
theorem IS_fr {c : Nat} {r s : Ns} {x1 : Vl} {LI LJ LA LB : List Nat} {v w : Vl} (h : IS c r s x1 v) (f : fr LI LJ LA LB v w) (d1 : dj [18, 21, 22, 23, 24, 27, 30] LI = true) (d2 : dj [17, 19, 20, 25, 26] LJ = true) (d3 : dj [13, 14, 15, 16] LA = true) (d4 : dj [29] LA = true) : IS c r s x1 w :=
  ⟨h.1, h.2.1, h.2.2.1, MS_fr h.2.2.2.1 f d1 d2 d3, ML_fr h.2.2.2.2 f d4⟩
theorem IS_up {c c' : Nat} {r s : Ns} {x1 : Vl} {v : Vl} (h : IS c r s x1 v) (hc : c ≤ c') : IS c' r s x1 v := by
  have := h.2.2.1
  exact ⟨h.1, h.2.1, by omega, h.2.2.2.1, h.2.2.2.2⟩
/-- the reef, the skies -/
def IR (r : Ns) (x9 w : Vl) : Prop := x9 = encG r ∧ WfR r ∧ MR r w
theorem IR_fr {r : Ns} {x9 : Vl} {LI LJ LA LB : List Nat} {v w : Vl} (h : IR r x9 v) (f : fr LI LJ LA LB v w) (d1 : dj [0, 2, 3, 4, 5, 6, 7] LI = true) (d3 : dj [1, 8, 9] LA = true) : IR r x9 w := ⟨h.1, h.2.1, MR_fr h.2.2 f d1 d3⟩
def IK (k : Ns) (x11 w : Vl) : Prop := x11 = encG k ∧ WfK k ∧ MK k w
theorem IK_fr {k : Ns} {x11 : Vl} {LI LJ LA LB : List Nat} {v w : Vl} (h : IK k x11 v) (f : fr LI LJ LA LB v w) (d1 : dj [10] LI = true) (d3 : dj [11, 12] LA = true) : IK k x11 w := ⟨h.1, h.2.1, MK_fr h.2.2 f d1 d3⟩
theorem WfK_3 {k : Ns} (hk : WfK k) : k.1 3 ≤ 2970 := by
  rw [hk.2.1]
  exact Nat.le_trans (zsum_le (m := 99) _ (fun i hi => (hk.2.2 i hi).2.2)) (Nat.mul_le_mul_left 99 hk.1)
theorem p_fault {b : Nat → Nat} {n : Nat} {vx x0 w : Vl} (h : IT b n vx x0 w) : ∃ a, (∀ Q : Int32 → Prop, Q a → wp_X8_fault vx Q) ∧ (∀ Q : Int32 → Prop, Q a → wp_X9_fault w Q) :=
  ⟨vx.1 13, fun Q q => q, fun Q q => by unfold wp_X9_fault; rw [← h.2.2.2.1]; exact q⟩
theorem rl_no {x : Int32} {a b : Nat} (h : ¬ (nI a ≤ x ∧ x ≤ nI b)) (i : Nat) (hi : a ≤ i ∧ i ≤ b) (hb : b < 2 ^ 31) : ¬ x = nI i := by
  intro e
  rw [e] at h
  exact h ⟨nI_le hi.1 (by omega), nI_le hi.2 hb⟩
theorem p_told {c : Nat} {r s k : Ns} {b e g : Nat → Nat} {n m : Nat} {vx x0 x1 x6 x9 x11 w : Vl} (x : Int32) (hR : IR r x9 w) (hS : IS c r s x1 w) (hK : IK k x11 w) (hT : IT b n vx x0 w) (hB : IB e g m x6 w) (hc : c ≤ 64) : ∃ a, (∀ Q : Int64 → Prop, Q a → wp_X8_told vx x0 x1 x6 x9 x11 x Q) ∧ (∀ Q : Int64 → Prop, Q a → wp_X9_told w x Q) := by
  obtain ⟨e9, wr, mr⟩ := hR
  obtain ⟨e1, ws, hd, ms, ml⟩ := hS
  obtain ⟨e11, wk, mk⟩ := hK
  have k3 := WfK_3 wk
  obtain ⟨t1, t2, t3, t4, t5⟩ := hT
  obtain ⟨b1, b2, b3, b4⟩ := hB
  obtain ⟨n0, n2, n3, n4, n5, n6, n7, n8, n9, nl⟩ := mr
  obtain ⟨r7, r8, r8', r9, r9', r10, r11, r12, r12', r13, r13', _, _, _, rl⟩ := wr
  obtain ⟨s7, s8, s6, s9, s13, s16, s5, s15, s10, s11, s14, sl⟩ := ws
  obtain ⟨m17, m18, m19, m20, m21, m22, m23, m24, m25, m26, m27, m30, mrow⟩ := ms
  rw [Nat.add_zero] at m25 m26
  subst e9 e1 e11
  rcases rl_rg x 0 15 (by omega) (by omega) with ⟨j, _, hj, rfl⟩ | ⟨h1, h2⟩
  · have hj' : j = 0 ∨ j = 1 ∨ j = 2 ∨ j = 3 ∨ j = 4 ∨ j = 5 ∨ j = 6 ∨ j = 7 ∨ j = 8 ∨ j = 9 ∨ j = 10 ∨ j = 11 ∨ j = 12 ∨ j = 13 ∨ j = 14 ∨ j = 15 := by omega
    rcases hj' with rfl | rfl | rfl | rfl | rfl | rfl | rfl | rfl | rfl | rfl | rfl | rfl | rfl | rfl | rfl | rfl
    · refine ⟨lN (r.1 7), fun Q h => ?_, fun Q h => ?_⟩
      · unfold wp_X8_told
        refine ⟨fun q => ?_, fun q => ?_, fun q => ?_, fun q => ?_, fun q => ?_, fun q => ?_, fun q => ?_, fun q => ?_, fun q => ?_, fun q => ?_, fun q => ?_, fun q => ?_, fun q => ?_, fun q => ?_, fun q => ?_, fun q => ?_, fun q => ?_⟩ <;> first | exact absurd q (by decide) | skip
        rw [encG_1, nI_l (by omega)]
        exact h
      · unfold wp_X9_told
        refine ⟨fun q => ?_, fun q => ?_, fun q => ?_, fun q => ?_, fun q => ?_, fun q => ?_, fun q => ?_, fun q => ?_, fun q => ?_, fun q => ?_, fun q => ?_, fun q => ?_, fun q => ?_, fun q => ?_, fun q => ?_, fun q => ?_, fun q => ?_⟩ <;> first | exact absurd q (by decide) | skip
        rw [n0, nI_l (by omega)]
        exact h
    · refine ⟨lN (r.1 8), fun Q h => ?_, fun Q h => ?_⟩
      · unfold wp_X8_told
        refine ⟨fun q => ?_, fun q => ?_, fun q => ?_, fun q => ?_, fun q => ?_, fun q => ?_, fun q => ?_, fun q => ?_, fun q => ?_, fun q => ?_, fun q => ?_, fun q => ?_, fun q => ?_, fun q => ?_, fun q => ?_, fun q => ?_, fun q => ?_⟩ <;> first | exact absurd q (by decide) | skip
        rw [encG_1, nI_l (by omega)]
        exact h
      · unfold wp_X9_told
        refine ⟨fun q => ?_, fun q => ?_, fun q => ?_, fun q => ?_, fun q => ?_, fun q => ?_, fun q => ?_, fun q => ?_, fun q => ?_, fun q => ?_, fun q => ?_, fun q => ?_, fun q => ?_, fun q => ?_, fun q => ?_, fun q => ?_, fun q => ?_⟩ <;> first | exact absurd q (by decide) | skip
        rw [n2, nI_l (by omega)]
        exact h
    · refine ⟨lN (r.1 9), fun Q h => ?_, fun Q h => ?_⟩
      · unfold wp_X8_told
        refine ⟨fun q => ?_, fun q => ?_, fun q => ?_, fun q => ?_, fun q => ?_, fun q => ?_, fun q => ?_, fun q => ?_, fun q => ?_, fun q => ?_, fun q => ?_, fun q => ?_, fun q => ?_, fun q => ?_, fun q => ?_, fun q => ?_, fun q => ?_⟩ <;> first | exact absurd q (by decide) | skip
        rw [encG_1, nI_l (by omega)]
        exact h
      · unfold wp_X9_told
        refine ⟨fun q => ?_, fun q => ?_, fun q => ?_, fun q => ?_, fun q => ?_, fun q => ?_, fun q => ?_, fun q => ?_, fun q => ?_, fun q => ?_, fun q => ?_, fun q => ?_, fun q => ?_, fun q => ?_, fun q => ?_, fun q => ?_, fun q => ?_⟩ <;> first | exact absurd q (by decide) | skip
        rw [n3, nI_l (by omega)]
        exact h
    · refine ⟨lN (s.1 5), fun Q h => ?_, fun Q h => ?_⟩
      · unfold wp_X8_told
        refine ⟨fun q => ?_, fun q => ?_, fun q => ?_, fun q => ?_, fun q => ?_, fun q => ?_, fun q => ?_, fun q => ?_, fun q => ?_, fun q => ?_, fun q => ?_, fun q => ?_, fun q => ?_, fun q => ?_, fun q => ?_, fun q => ?_, fun q => ?_⟩ <;> first | exact absurd q (by decide) | skip
        rw [encS_1 _ (by decide) (by decide), nI_l (by omega)]
        exact h
      · unfold wp_X9_told
        refine ⟨fun q => ?_, fun q => ?_, fun q => ?_, fun q => ?_, fun q => ?_, fun q => ?_, fun q => ?_, fun q => ?_, fun q => ?_, fun q => ?_, fun q => ?_, fun q => ?_, fun q => ?_, fun q => ?_, fun q => ?_, fun q => ?_, fun q => ?_⟩ <;> first | exact absurd q (by decide) | skip
        rw [m17]
        exact h
    · refine ⟨lN (s.1 6), fun Q h => ?_, fun Q h => ?_⟩
      · unfold wp_X8_told
        refine ⟨fun q => ?_, fun q => ?_, fun q => ?_, fun q => ?_, fun q => ?_, fun q => ?_, fun q => ?_, fun q => ?_, fun q => ?_, fun q => ?_, fun q => ?_, fun q => ?_, fun q => ?_, fun q => ?_, fun q => ?_, fun q => ?_, fun q => ?_⟩ <;> first | exact absurd q (by decide) | skip
        rw [encS_1 _ (by decide) (by decide), nI_l (by omega)]
        exact h
      · unfold wp_X9_told
        refine ⟨fun q => ?_, fun q => ?_, fun q => ?_, fun q => ?_, fun q => ?_, fun q => ?_, fun q => ?_, fun q => ?_, fun q => ?_, fun q => ?_, fun q => ?_, fun q => ?_, fun q => ?_, fun q => ?_, fun q => ?_, fun q => ?_, fun q => ?_⟩ <;> first | exact absurd q (by decide) | skip
        rw [m18, nI_l (by omega)]
        exact h
    · refine ⟨lN (s.1 12), fun Q h => ?_, fun Q h => ?_⟩
      · unfold wp_X8_told
        refine ⟨fun q => ?_, fun q => ?_, fun q => ?_, fun q => ?_, fun q => ?_, fun q => ?_, fun q => ?_, fun q => ?_, fun q => ?_, fun q => ?_, fun q => ?_, fun q => ?_, fun q => ?_, fun q => ?_, fun q => ?_, fun q => ?_, fun q => ?_⟩ <;> first | exact absurd q (by decide) | skip
        rw [encS_1 _ (by decide) (by decide), nI_l (by omega)]
        exact h
      · unfold wp_X9_told
        refine ⟨fun q => ?_, fun q => ?_, fun q => ?_, fun q => ?_, fun q => ?_, fun q => ?_, fun q => ?_, fun q => ?_, fun q => ?_, fun q => ?_, fun q => ?_, fun q => ?_, fun q => ?_, fun q => ?_, fun q => ?_, fun q => ?_, fun q => ?_⟩ <;> first | exact absurd q (by decide) | skip
        rw [m24, nI_l (by omega)]
        exact h
    · refine ⟨lN (s.1 10), fun Q h => ?_, fun Q h => ?_⟩
      · unfold wp_X8_told
        refine ⟨fun q => ?_, fun q => ?_, fun q => ?_, fun q => ?_, fun q => ?_, fun q => ?_, fun q => ?_, fun q => ?_, fun q => ?_, fun q => ?_, fun q => ?_, fun q => ?_, fun q => ?_, fun q => ?_, fun q => ?_, fun q => ?_, fun q => ?_⟩ <;> first | exact absurd q (by decide) | skip
        rw [encS_1 _ (by decide) (by decide), nI_l (by omega)]
        exact h
      · unfold wp_X9_told
        refine ⟨fun q => ?_, fun q => ?_, fun q => ?_, fun q => ?_, fun q => ?_, fun q => ?_, fun q => ?_, fun q => ?_, fun q => ?_, fun q => ?_, fun q => ?_, fun q => ?_, fun q => ?_, fun q => ?_, fun q => ?_, fun q => ?_, fun q => ?_⟩ <;> first | exact absurd q (by decide) | skip
        rw [m25]
        exact h
    · refine ⟨lN (s.1 11), fun Q h => ?_, fun Q h => ?_⟩
      · unfold wp_X8_told
        refine ⟨fun q => ?_, fun q => ?_, fun q => ?_, fun q => ?_, fun q => ?_, fun q => ?_, fun q => ?_, fun q => ?_, fun q => ?_, fun q => ?_, fun q => ?_, fun q => ?_, fun q => ?_, fun q => ?_, fun q => ?_, fun q => ?_, fun q => ?_⟩ <;> first | exact absurd q (by decide) | skip
        rw [encS_1 _ (by decide) (by decide), nI_l (by omega)]
        exact h
      · unfold wp_X9_told
        refine ⟨fun q => ?_, fun q => ?_, fun q => ?_, fun q => ?_, fun q => ?_, fun q => ?_, fun q => ?_, fun q => ?_, fun q => ?_, fun q => ?_, fun q => ?_, fun q => ?_, fun q => ?_, fun q => ?_, fun q => ?_, fun q => ?_, fun q => ?_⟩ <;> first | exact absurd q (by decide) | skip
        rw [m26]
        exact h
    · refine ⟨lN (n), fun Q h => ?_, fun Q h => ?_⟩
      · unfold wp_X8_told
        refine ⟨fun q => ?_, fun q => ?_, fun q => ?_, fun q => ?_, fun q => ?_, fun q => ?_, fun q => ?_, fun q => ?_, fun q => ?_, fun q => ?_, fun q => ?_, fun q => ?_, fun q => ?_, fun q => ?_, fun q => ?_, fun q => ?_, fun q => ?_⟩ <;> first | exact absurd q (by decide) | skip
        rw [t1, nI_l (by omega)]
        exact h
      · unfold wp_X9_told
        refine ⟨fun q => ?_, fun q => ?_, fun q => ?_, fun q => ?_, fun q => ?_, fun q => ?_, fun q => ?_, fun q => ?_, fun q => ?_, fun q => ?_, fun q => ?_, fun q => ?_, fun q => ?_, fun q => ?_, fun q => ?_, fun q => ?_, fun q => ?_⟩ <;> first | exact absurd q (by decide) | skip
        rw [t2, nI_l (by omega)]
        exact h
    · refine ⟨lN (m), fun Q h => ?_, fun Q h => ?_⟩
      · unfold wp_X8_told
        refine ⟨fun q => ?_, fun q => ?_, fun q => ?_, fun q => ?_, fun q => ?_, fun q => ?_, fun q => ?_, fun q => ?_, fun q => ?_, fun q => ?_, fun q => ?_, fun q => ?_, fun q => ?_, fun q => ?_, fun q => ?_, fun q => ?_, fun q => ?_⟩ <;> first | exact absurd q (by decide) | skip
        rw [b1, nI_l (by omega)]
        exact h
      · unfold wp_X9_told
        refine ⟨fun q => ?_, fun q => ?_, fun q => ?_, fun q => ?_, fun q => ?_, fun q => ?_, fun q => ?_, fun q => ?_, fun q => ?_, fun q => ?_, fun q => ?_, fun q => ?_, fun q => ?_, fun q => ?_, fun q => ?_, fun q => ?_, fun q => ?_⟩ <;> first | exact absurd q (by decide) | skip
        rw [b2, nI_l (by omega)]
        exact h
    · refine ⟨lN (k.1 3), fun Q h => ?_, fun Q h => ?_⟩
      · unfold wp_X8_told
        refine ⟨fun q => ?_, fun q => ?_, fun q => ?_, fun q => ?_, fun q => ?_, fun q => ?_, fun q => ?_, fun q => ?_, fun q => ?_, fun q => ?_, fun q => ?_, fun q => ?_, fun q => ?_, fun q => ?_, fun q => ?_, fun q => ?_, fun q => ?_⟩ <;> first | exact absurd q (by decide) | skip
        rw [encG_1, nI_l (by omega)]
        exact h
      · unfold wp_X9_told
        refine ⟨fun q => ?_, fun q => ?_, fun q => ?_, fun q => ?_, fun q => ?_, fun q => ?_, fun q => ?_, fun q => ?_, fun q => ?_, fun q => ?_, fun q => ?_, fun q => ?_, fun q => ?_, fun q => ?_, fun q => ?_, fun q => ?_, fun q => ?_⟩ <;> first | exact absurd q (by decide) | skip
        refine m_skyAll wk mk ?_
        rw [nI_l (by omega)]
        exact h
    · refine ⟨lN (s.1 14), fun Q h => ?_, fun Q h => ?_⟩
      · unfold wp_X8_told
        refine ⟨fun q => ?_, fun q => ?_, fun q => ?_, fun q => ?_, fun q => ?_, fun q => ?_, fun q => ?_, fun q => ?_, fun q => ?_, fun q => ?_, fun q => ?_, fun q => ?_, fun q => ?_, fun q => ?_, fun q => ?_, fun q => ?_, fun q => ?_⟩ <;> first | exact absurd q (by decide) | skip
        rw [encS_1 _ (by decide) (by decide), nI_l (by omega)]
        exact h
      · unfold wp_X9_told
        refine ⟨fun q => ?_, fun q => ?_, fun q => ?_, fun q => ?_, fun q => ?_, fun q => ?_, fun q => ?_, fun q => ?_, fun q => ?_, fun q => ?_, fun q => ?_, fun q => ?_, fun q => ?_, fun q => ?_, fun q => ?_, fun q => ?_, fun q => ?_⟩ <;> first | exact absurd q (by decide) | skip
        rw [m19]
        exact h
    · refine ⟨lN (s.1 7), fun Q h => ?_, fun Q h => ?_⟩
      · unfold wp_X8_told
        refine ⟨fun q => ?_, fun q => ?_, fun q => ?_, fun q => ?_, fun q => ?_, fun q => ?_, fun q => ?_, fun q => ?_, fun q => ?_, fun q => ?_, fun q => ?_, fun q => ?_, fun q => ?_, fun q => ?_, fun q => ?_, fun q => ?_, fun q => ?_⟩ <;> first | exact absurd q (by decide) | skip
        rw [encS_1 _ (by decide) (by decide), nI_l (by omega)]
        exact h
      · unfold wp_X9_told
        refine ⟨fun q => ?_, fun q => ?_, fun q => ?_, fun q => ?_, fun q => ?_, fun q => ?_, fun q => ?_, fun q => ?_, fun q => ?_, fun q => ?_, fun q => ?_, fun q => ?_, fun q => ?_, fun q => ?_, fun q => ?_, fun q => ?_, fun q => ?_⟩ <;> first | exact absurd q (by decide) | skip
        rw [m21, nI_l (by omega)]
        exact h
    · refine ⟨lN (s.1 8), fun Q h => ?_, fun Q h => ?_⟩
      · unfold wp_X8_told
        refine ⟨fun q => ?_, fun q => ?_, fun q => ?_, fun q => ?_, fun q => ?_, fun q => ?_, fun q => ?_, fun q => ?_, fun q => ?_, fun q => ?_, fun q => ?_, fun q => ?_, fun q => ?_, fun q => ?_, fun q => ?_, fun q => ?_, fun q => ?_⟩ <;> first | exact absurd q (by decide) | skip
        rw [encS_1 _ (by decide) (by decide), nI_l (by omega)]
        exact h
      · unfold wp_X9_told
        refine ⟨fun q => ?_, fun q => ?_, fun q => ?_, fun q => ?_, fun q => ?_, fun q => ?_, fun q => ?_, fun q => ?_, fun q => ?_, fun q => ?_, fun q => ?_, fun q => ?_, fun q => ?_, fun q => ?_, fun q => ?_, fun q => ?_, fun q => ?_⟩ <;> first | exact absurd q (by decide) | skip
        rw [m22, nI_l (by omega)]
        exact h
    · refine ⟨(gI (s.1 9)).toInt64, fun Q h => ?_, fun Q h => ?_⟩
      · unfold wp_X8_told
        refine ⟨fun q => ?_, fun q => ?_, fun q => ?_, fun q => ?_, fun q => ?_, fun q => ?_, fun q => ?_, fun q => ?_, fun q => ?_, fun q => ?_, fun q => ?_, fun q => ?_, fun q => ?_, fun q => ?_, fun q => ?_, fun q => ?_, fun q => ?_⟩ <;> first | exact absurd q (by decide) | exact h
      · unfold wp_X9_told
        rw [m23]
        refine ⟨fun q => ?_, fun q => ?_, fun q => ?_, fun q => ?_, fun q => ?_, fun q => ?_, fun q => ?_, fun q => ?_, fun q => ?_, fun q => ?_, fun q => ?_, fun q => ?_, fun q => ?_, fun q => ?_, fun q => ?_, fun q => ?_, fun q => ?_⟩ <;> first | exact absurd q (by decide) | exact h
    · refine ⟨lN (s.1 15), fun Q h => ?_, fun Q h => ?_⟩
      · unfold wp_X8_told
        refine ⟨fun q => ?_, fun q => ?_, fun q => ?_, fun q => ?_, fun q => ?_, fun q => ?_, fun q => ?_, fun q => ?_, fun q => ?_, fun q => ?_, fun q => ?_, fun q => ?_, fun q => ?_, fun q => ?_, fun q => ?_, fun q => ?_, fun q => ?_⟩ <;> first | exact absurd q (by decide) | skip
        rw [encS_1 _ (by decide) (by decide), nI_l (by omega)]
        exact h
      · unfold wp_X9_told
        refine ⟨fun q => ?_, fun q => ?_, fun q => ?_, fun q => ?_, fun q => ?_, fun q => ?_, fun q => ?_, fun q => ?_, fun q => ?_, fun q => ?_, fun q => ?_, fun q => ?_, fun q => ?_, fun q => ?_, fun q => ?_, fun q => ?_, fun q => ?_⟩ <;> first | exact absurd q (by decide) | skip
        rw [m20]
        exact h
  · exact ⟨-1000000002, fun Q h => ⟨fun q => absurd q (rl_no h2 0 (by omega) (by omega)), fun q => absurd q (rl_no h2 1 (by omega) (by omega)), fun q => absurd q (rl_no h2 2 (by omega) (by omega)), fun q => absurd q (rl_no h2 3 (by omega) (by omega)), fun q => absurd q (rl_no h2 4 (by omega) (by omega)), fun q => absurd q (rl_no h2 5 (by omega) (by omega)), fun q => absurd q (rl_no h2 6 (by omega) (by omega)), fun q => absurd q (rl_no h2 7 (by omega) (by omega)), fun q => absurd q (rl_no h2 8 (by omega) (by omega)), fun q => absurd q (rl_no h2 9 (by omega) (by omega)), fun q => absurd q (rl_no h2 10 (by omega) (by omega)), fun q => absurd q (rl_no h2 11 (by omega) (by omega)), fun q => absurd q (rl_no h2 12 (by omega) (by omega)), fun q => absurd q (rl_no h2 13 (by omega) (by omega)), fun q => absurd q (rl_no h2 14 (by omega) (by omega)), fun q => absurd q (rl_no h2 15 (by omega) (by omega)), fun _ => h⟩, fun Q h => ⟨fun q => absurd q (rl_no h2 0 (by omega) (by omega)), fun q => absurd q (rl_no h2 1 (by omega) (by omega)), fun q => absurd q (rl_no h2 2 (by omega) (by omega)), fun q => absurd q (rl_no h2 3 (by omega) (by omega)), fun q => absurd q (rl_no h2 4 (by omega) (by omega)), fun q => absurd q (rl_no h2 5 (by omega) (by omega)), fun q => absurd q (rl_no h2 6 (by omega) (by omega)), fun q => absurd q (rl_no h2 7 (by omega) (by omega)), fun q => absurd q (rl_no h2 8 (by omega) (by omega)), fun q => absurd q (rl_no h2 9 (by omega) (by omega)), fun q => absurd q (rl_no h2 10 (by omega) (by omega)), fun q => absurd q (rl_no h2 11 (by omega) (by omega)), fun q => absurd q (rl_no h2 12 (by omega) (by omega)), fun q => absurd q (rl_no h2 13 (by omega) (by omega)), fun q => absurd q (rl_no h2 14 (by omega) (by omega)), fun q => absurd q (rl_no h2 15 (by omega) (by omega)), fun _ => h⟩⟩
theorem p_light {c : Nat} {r s : Ns} {vx x1 x9 w : Vl} (l x : Int32) (hR : IR r x9 w) (hS : IS c r s x1 w) : ∃ a, (∀ Q : Int32 → Prop, Q a → wp_X8_light vx x1 x9 l x Q) ∧ (∀ Q : Int32 → Prop, Q a → wp_X9_light w l x Q) := by
  obtain ⟨e9, wr, mr⟩ := hR
  obtain ⟨e1, ws, hd, ms, ml⟩ := hS
  have mr0 := mr.1
  have nl := mr.2.2.2.2.2.2.2.2.2
  have r7 := wr.1
  have sl := ws.2.2.2.2.2.2.2.2.2.2.2
  have mrow := ms.2.2.2.2.2.2.2.2.2.2.2.2
  subst e9 e1
  rcases rl_lt l (r.1 7) r7 with ⟨j, hj, rfl⟩ | ⟨g1, g2⟩
  · have j9 : j < 9 := by omega
    obtain ⟨a13, a14, a15, a16⟩ := mrow j hj
    have l1 := (sl j hj).2.1
    rcases rl_rg x 0 8 (by omega) (by omega) with ⟨i, _, hi, rfl⟩ | ⟨h1, h2⟩
    · have hi' : i = 0 ∨ i = 1 ∨ i = 2 ∨ i = 3 ∨ i = 4 ∨ i = 5 ∨ i = 6 ∨ i = 7 ∨ i = 8 := by omega
      rcases hi' with rfl | rfl | rfl | rfl | rfl | rfl | rfl | rfl | rfl
      · refine ⟨nI (r.2 0 j), fun Q h => ?_, fun Q h => ?_⟩
        · unfold wp_X8_light
          rw [rl_nly hj r7, rl_b00]
          refine ⟨fun q => ?_, fun q => ?_, fun q => ?_, fun q => ?_, fun q => ?_, fun q => ?_, fun q => ?_, fun q => ?_, fun q => ?_, fun q => ?_⟩ <;> first | exact absurd q (by decide) | skip
          rw [w_at (by decide), encG_r, jat_row _ j9 (by decide)]
          exact h
        · unfold wp_X9_light
          rw [rl_ily mr0 hj r7, rl_b11]
          refine ⟨fun q => ?_, fun q => ?_, fun q => ?_, fun q => ?_, fun q => ?_, fun q => ?_, fun q => ?_, fun q => ?_, fun q => ?_, fun q => ?_⟩ <;> first | exact absurd q (by decide) | skip
          have e := nl j hj 0 (by omega)
          rw [lit32 5, pk_mul, nI_add, nI_clamp (by omega), e]
          exact ⟨vp_in_nI (by omega) (by decide), h⟩
      · refine ⟨nI (r.2 1 j), fun Q h => ?_, fun Q h => ?_⟩
        · unfold wp_X8_light
          rw [rl_nly hj r7, rl_b00]
          refine ⟨fun q => ?_, fun q => ?_, fun q => ?_, fun q => ?_, fun q => ?_, fun q => ?_, fun q => ?_, fun q => ?_, fun q => ?_, fun q => ?_⟩ <;> first | exact absurd q (by decide) | skip
          rw [w_at (by decide), encG_r, jat_row _ j9 (by decide)]
          exact h
        · unfold wp_X9_light
          rw [rl_ily mr0 hj r7, rl_b11]
          refine ⟨fun q => ?_, fun q => ?_, fun q => ?_, fun q => ?_, fun q => ?_, fun q => ?_, fun q => ?_, fun q => ?_, fun q => ?_, fun q => ?_⟩ <;> first | exact absurd q (by decide) | skip
          have e := nl j hj 1 (by omega)
          rw [lit32 5, pk_mul, nI_add, nI_clamp (by omega), e]
          exact ⟨vp_in_nI (by omega) (by decide), h⟩
      · refine ⟨nI (r.2 2 j), fun Q h => ?_, fun Q h => ?_⟩
        · unfold wp_X8_light
          rw [rl_nly hj r7, rl_b00]
          refine ⟨fun q => ?_, fun q => ?_, fun q => ?_, fun q => ?_, fun q => ?_, fun q => ?_, fun q => ?_, fun q => ?_, fun q => ?_, fun q => ?_⟩ <;> first | exact absurd q (by decide) | skip
          rw [w_at (by decide), encG_r, jat_row _ j9 (by decide)]
          exact h
        · unfold wp_X9_light
          rw [rl_ily mr0 hj r7, rl_b11]
          refine ⟨fun q => ?_, fun q => ?_, fun q => ?_, fun q => ?_, fun q => ?_, fun q => ?_, fun q => ?_, fun q => ?_, fun q => ?_, fun q => ?_⟩ <;> first | exact absurd q (by decide) | skip
          have e := nl j hj 2 (by omega)
          rw [lit32 5, pk_mul, nI_add, nI_clamp (by omega), e]
          exact ⟨vp_in_nI (by omega) (by decide), h⟩
      · refine ⟨nI (r.2 3 j), fun Q h => ?_, fun Q h => ?_⟩
        · unfold wp_X8_light
          rw [rl_nly hj r7, rl_b00]
          refine ⟨fun q => ?_, fun q => ?_, fun q => ?_, fun q => ?_, fun q => ?_, fun q => ?_, fun q => ?_, fun q => ?_, fun q => ?_, fun q => ?_⟩ <;> first | exact absurd q (by decide) | skip
          rw [w_at (by decide), encG_r, jat_row _ j9 (by decide)]
          exact h
        · unfold wp_X9_light
          rw [rl_ily mr0 hj r7, rl_b11]
          refine ⟨fun q => ?_, fun q => ?_, fun q => ?_, fun q => ?_, fun q => ?_, fun q => ?_, fun q => ?_, fun q => ?_, fun q => ?_, fun q => ?_⟩ <;> first | exact absurd q (by decide) | skip
          have e := nl j hj 3 (by omega)
          rw [lit32 5, pk_mul, nI_add, nI_clamp (by omega), e]
          exact ⟨vp_in_nI (by omega) (by decide), h⟩
      · refine ⟨nI (r.2 4 j), fun Q h => ?_, fun Q h => ?_⟩
        · unfold wp_X8_light
          rw [rl_nly hj r7, rl_b00]
          refine ⟨fun q => ?_, fun q => ?_, fun q => ?_, fun q => ?_, fun q => ?_, fun q => ?_, fun q => ?_, fun q => ?_, fun q => ?_, fun q => ?_⟩ <;> first | exact absurd q (by decide) | skip
          rw [w_at (by decide), encG_r, jat_row _ j9 (by decide)]
          exact h
        · unfold wp_X9_light
          rw [rl_ily mr0 hj r7, rl_b11]
          refine ⟨fun q => ?_, fun q => ?_, fun q => ?_, fun q => ?_, fun q => ?_, fun q => ?_, fun q => ?_, fun q => ?_, fun q => ?_, fun q => ?_⟩ <;> first | exact absurd q (by decide) | skip
          have e := nl j hj 4 (by omega)
          rw [lit32 5, pk_mul, nI_add, nI_clamp (by omega), e]
          exact ⟨vp_in_nI (by omega) (by decide), h⟩
      · refine ⟨nI (s.2 0 j), fun Q h => ?_, fun Q h => ?_⟩
        · unfold wp_X8_light
          rw [rl_nly hj r7, rl_b00]
          refine ⟨fun q => ?_, fun q => ?_, fun q => ?_, fun q => ?_, fun q => ?_, fun q => ?_, fun q => ?_, fun q => ?_, fun q => ?_, fun q => ?_⟩ <;> first | exact absurd q (by decide) | skip
          rw [w_at (by decide), encS_r, jat_row _ j9 (by decide)]
          exact h
        · unfold wp_X9_light
          rw [rl_ily mr0 hj r7, rl_b11]
          refine ⟨fun q => ?_, fun q => ?_, fun q => ?_, fun q => ?_, fun q => ?_, fun q => ?_, fun q => ?_, fun q => ?_, fun q => ?_, fun q => ?_⟩ <;> first | exact absurd q (by decide) | skip
          rw [nI_clamp (by omega), a13]
          exact ⟨vp_in_nI j9 (by decide), h⟩
      · refine ⟨nI (s.2 1 j), fun Q h => ?_, fun Q h => ?_⟩
        · unfold wp_X8_light
          rw [rl_nly hj r7, rl_b00]
          refine ⟨fun q => ?_, fun q => ?_, fun q => ?_, fun q => ?_, fun q => ?_, fun q => ?_, fun q => ?_, fun q => ?_, fun q => ?_, fun q => ?_⟩ <;> first | exact absurd q (by decide) | skip
          rw [w_at (by decide), encS_r, jat_row _ j9 (by decide)]
          exact h
        · unfold wp_X9_light
          rw [rl_ily mr0 hj r7, rl_b11]
          refine ⟨fun q => ?_, fun q => ?_, fun q => ?_, fun q => ?_, fun q => ?_, fun q => ?_, fun q => ?_, fun q => ?_, fun q => ?_, fun q => ?_⟩ <;> first | exact absurd q (by decide) | skip
          rw [nI_clamp (by omega), a14]
          refine ⟨vp_in_nI j9 (by decide), ?_⟩
          have : s.2 1 j = 0 ∨ s.2 1 j = 1 := by omega
          rcases this with e | e
          · rw [e] at h ⊢
            exact ⟨fun _ => h, fun q => absurd rfl q⟩
          · rw [e] at h ⊢
            exact ⟨fun q => absurd q (by decide), fun _ => h⟩
      · refine ⟨nI (s.2 2 j), fun Q h => ?_, fun Q h => ?_⟩
        · unfold wp_X8_light
          rw [rl_nly hj r7, rl_b00]
          refine ⟨fun q => ?_, fun q => ?_, fun q => ?_, fun q => ?_, fun q => ?_, fun q => ?_, fun q => ?_, fun q => ?_, fun q => ?_, fun q => ?_⟩ <;> first | exact absurd q (by decide) | skip
          rw [w_at (by decide), encS_r, jat_row _ j9 (by decide)]
          exact h
        · unfold wp_X9_light
          rw [rl_ily mr0 hj r7, rl_b11]
          refine ⟨fun q => ?_, fun q => ?_, fun q => ?_, fun q => ?_, fun q => ?_, fun q => ?_, fun q => ?_, fun q => ?_, fun q => ?_, fun q => ?_⟩ <;> first | exact absurd q (by decide) | skip
          rw [nI_clamp (by omega), a15]
          exact ⟨vp_in_nI j9 (by decide), h⟩
      · refine ⟨nI (s.2 3 j), fun Q h => ?_, fun Q h => ?_⟩
        · unfold wp_X8_light
          rw [rl_nly hj r7, rl_b00]
          refine ⟨fun q => ?_, fun q => ?_, fun q => ?_, fun q => ?_, fun q => ?_, fun q => ?_, fun q => ?_, fun q => ?_, fun q => ?_, fun q => ?_⟩ <;> first | exact absurd q (by decide) | skip
          rw [w_at (by decide), encS_r, jat_row _ j9 (by decide)]
          exact h
        · unfold wp_X9_light
          rw [rl_ily mr0 hj r7, rl_b11]
          refine ⟨fun q => ?_, fun q => ?_, fun q => ?_, fun q => ?_, fun q => ?_, fun q => ?_, fun q => ?_, fun q => ?_, fun q => ?_, fun q => ?_⟩ <;> first | exact absurd q (by decide) | skip
          rw [nI_clamp (by omega), a16]
          exact ⟨vp_in_nI j9 (by decide), h⟩
    · refine ⟨-1000000002, fun Q h => ?_, fun Q h => ?_⟩
      · unfold wp_X8_light
        rw [rl_nly hj r7, rl_b00]
        exact ⟨fun q => absurd q (rl_no h2 0 (by omega) (by omega)), fun q => absurd q (rl_no h2 1 (by omega) (by omega)), fun q => absurd q (rl_no h2 2 (by omega) (by omega)), fun q => absurd q (rl_no h2 3 (by omega) (by omega)), fun q => absurd q (rl_no h2 4 (by omega) (by omega)), fun q => absurd q (rl_no h2 5 (by omega) (by omega)), fun q => absurd q (rl_no h2 6 (by omega) (by omega)), fun q => absurd q (rl_no h2 7 (by omega) (by omega)), fun q => absurd q (rl_no h2 8 (by omega) (by omega)), fun _ => h⟩
      · unfold wp_X9_light
        rw [rl_ily mr0 hj r7, rl_b11]
        exact ⟨fun q => absurd q (rl_no h2 0 (by omega) (by omega)), fun q => absurd q (rl_no h2 1 (by omega) (by omega)), fun q => absurd q (rl_no h2 2 (by omega) (by omega)), fun q => absurd q (rl_no h2 3 (by omega) (by omega)), fun q => absurd q (rl_no h2 4 (by omega) (by omega)), fun q => absurd q (rl_no h2 5 (by omega) (by omega)), fun q => absurd q (rl_no h2 6 (by omega) (by omega)), fun q => absurd q (rl_no h2 7 (by omega) (by omega)), fun q => absurd q (rl_no h2 8 (by omega) (by omega)), fun _ => h⟩
  · refine ⟨-1000000001, fun Q h => ?_, fun Q h => ?_⟩
    · unfold wp_X8_light
      rw [rl_nln g1, rl_b01]
      exact h
    · unfold wp_X9_light
      rw [rl_iln mr0 g2, rl_b10]
      exact h
theorem p_sky {k : Ns} {vx x11 w : Vl} (x : Int32) (hK : IK k x11 w) : ∃ a, (∀ Q : Int32 → Prop, Q a → wp_X8_sky vx x11 x Q) ∧ (∀ Q : Int32 → Prop, Q a → wp_X9_sky w x Q) := by
  obtain ⟨e11, wk, mk⟩ := hK
  subst e11
  rcases rl_rg x 0 9999 (by omega) (by omega) with ⟨j, j0, hj, rfl⟩ | ⟨h1, h2⟩
  · refine ⟨nI (zsky k j), fun Q h => ?_, fun Q h => ?_⟩
    · exact rl_cy j0 hj (by decide) (q_skyOf wk (by omega) h)
    · unfold wp_X9_sky
      rw [rl_iy j0 hj (by omega) (by decide +kernel) (by decide +kernel), rl_b01]
      exact m_skyOf wk mk (by omega) h
  · refine ⟨-1000000002, fun Q h => rl_cn h1 h, fun Q h => ?_⟩
    unfold wp_X9_sky
    rw [rl_ino h2 (by decide +kernel) (by decide +kernel), rl_b00]
    exact h
theorem rl_nsy {j : Nat} {Q : Int32 → Prop} (hj : j ≤ 2) : wp_X8_isNoSky (nI j) Q ↔ Q 0 := by
  unfold wp_X8_isNoSky
  rw [rl_eF (nI_pos (by omega)), rl_eT (show nI j < 3 from nI_lt (b := 3) (by omega) (by omega))]
theorem rl_nsn {x : Int32} {Q : Int32 → Prop} (h : ¬ (nI 0 ≤ x ∧ x ≤ nI 2)) : wp_X8_isNoSky x Q ↔ Q 1 := by
  unfold wp_X8_isNoSky
  by_cases h0 : x < 0
  · rw [rl_eT h0]
  · have h3 : ¬ x < 3 := by
      intro q
      refine h ⟨?_, ?_⟩
      · obtain ⟨j, hj, rfl⟩ := nI_of h0
        exact nI_pos' hj
      · obtain ⟨j, hj, rfl⟩ := nI_of h0
        have := (nI_ltI (b := 3) hj (by omega)).mp q
        exact nI_le (by omega) (by omega)
    rw [rl_eF h0, rl_eF h3]
theorem rl_isy {j : Nat} {Q : Int32 → Prop} (hj : j ≤ 2) : wp_X9_isSky (nI j) Q ↔ Q 1 := by
  unfold wp_X9_isSky
  rw [rl_iy (a := 0) (Nat.zero_le _) hj (by omega) (by decide +kernel) (by decide +kernel)]
  exact ⟨fun h => h.2, fun h => ⟨rfl, h⟩⟩
theorem rl_isn {x : Int32} {Q : Int32 → Prop} (h : ¬ (nI 0 ≤ x ∧ x ≤ nI 2)) : wp_X9_isSky x Q ↔ Q 0 := by
  unfold wp_X9_isSky
  rw [rl_ino h (by decide +kernel) (by decide +kernel)]
  exact ⟨fun h => h.2, fun h => ⟨rfl, h⟩⟩
theorem p_odds {r : Ns} {vx x9 w : Vl} (x y : Int32) (hR : IR r x9 w) : ∃ a, (∀ Q : Int32 → Prop, Q a → wp_X8_odds vx x9 x y Q) ∧ (∀ Q : Int32 → Prop, Q a → wp_X9_odds w x y Q) := by
  obtain ⟨e9, wr, mr⟩ := hR
  subst e9
  unfold wp_X8_odds wp_X9_odds
  rcases rl_rg x 0 2 (by omega) (by omega) with ⟨i, _, hi, rfl⟩ | ⟨h1, h2⟩
  · rcases rl_rg y 0 2 (by omega) (by omega) with ⟨j, _, hj, rfl⟩ | ⟨h1, h2⟩
    · refine ⟨nI (r.2 6 (i * 3 + j)), fun Q h => ?_, fun Q h => ?_⟩
      · rw [rl_nsy hi, rl_b10, rl_nsy hj, rl_b00, w_X3_chanceOf (by omega) (by omega)]
        exact h
      · rw [rl_isy hi, rl_b01, rl_isy hj, rl_b01, lit32 3, pk_mul, nI_add, nI_clamp (by omega), mr.2.2.2.2.2.2.2.2.1 _ (by omega), Nat.mul_comm 3 i]
        exact ⟨vp_in_nI (by omega) (by decide), h⟩
    · refine ⟨-1000000001, fun Q h => ?_, fun Q h => ?_⟩
      · rw [rl_nsy hi, rl_b10, rl_nsn h2, rl_b01]
        exact h
      · rw [rl_isy hi, rl_b01, rl_isn h2, rl_b00]
        exact h
  · refine ⟨-1000000001, fun Q h => ?_, fun Q h => ?_⟩
    · rw [rl_nsn h2, rl_b11]
      exact h
    · rw [rl_isn h2, rl_b00]
      exact h
