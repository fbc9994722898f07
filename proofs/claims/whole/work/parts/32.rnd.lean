/-! ===== THE ROUND, in numbers ===== -/
/-- alike in what a night needs -/
def Rn (s t : Ns) : Prop := t.1 10 = s.1 10 ∧ t.1 11 = s.1 11 ∧ ∀ l, l < 9 → t.2 0 l = s.2 0 l ∧ t.2 1 l = s.2 1 l ∧ t.2 2 l = s.2 2 l ∧ t.2 3 l = s.2 3 l
/-- alike in what a day needs -/
def Rp (s t : Ns) : Prop := Rn s t ∧ t.1 5 = s.1 5 ∧ t.1 6 = s.1 6 ∧ t.1 7 = s.1 7 ∧ t.1 8 = s.1 8 ∧ t.1 12 = s.1 12
theorem Rp_eq {nl : Nat} {s t : Ns} (h : zeq nl s t) : Rp s t := by
  obtain ⟨⟨a5, a6, a7, a8, a9, a10, a11, a12, a13, a14, a15, a16⟩, hl, _⟩ := h
  exact ⟨⟨a10, a11, hl⟩, a5, a6, a7, a8, a12⟩
theorem Rp_t {s t u : Ns} (h : Rp s t) (g : Rp t u) : Rp s u := by
  obtain ⟨⟨a1, a2, a3⟩, a4, a5, a6, a7, a8⟩ := h
  obtain ⟨⟨b1, b2, b3⟩, b4, b5, b6, b7, b8⟩ := g
  refine ⟨⟨b1.trans a1, b2.trans a2, fun l hl => ?_⟩, b4.trans a4, b5.trans a5, b6.trans a6, b7.trans a7, b8.trans a8⟩
  obtain ⟨c0, c1, c2, c3⟩ := a3 l hl
  obtain ⟨d0, d1, d2, d3⟩ := b3 l hl
  exact ⟨d0.trans c0, d1.trans c1, d2.trans c2, d3.trans c3⟩
theorem Rp_9 {s t : Ns} (h : Rp s t) (g : Nat) : Rp (zu s 9 g) (zu t 9 g) := by
  obtain ⟨⟨a1, a2, a3⟩, a4, a5, a6, a7, a8⟩ := h
  refine ⟨⟨?_, ?_, a3⟩, ?_, ?_, ?_, ?_, ?_⟩ <;> (rw [zu_n _ _ (by decide), zu_n _ _ (by decide)]; assumption)
theorem zlog_0 (s : Ns) (l : Nat) : zlog 0 s l = s := if_neg (fun q => absurd q.2 (Nat.not_lt_zero _))
theorem Rn_step {r s t : Ns} {sky h i : Nat} (H : Rn s t) (hi : i < 9) : Rn (zstep 0 r sky h i s) (zstep 0 r sky h i t) := by
  obtain ⟨a1, a2, a3⟩ := H
  obtain ⟨b0, b1, b2, b3⟩ := a3 i hi
  have en : znd r t sky h i = znd r s sky h i := by unfold znd; rw [b1]
  have ez : zleft r t i (znd r s sky h i) = zleft r s i (znd r s sky h i) := by unfold zleft; rw [b0]
  have ed : zdk r t i sky (znd r t sky h i) = zdk r s i sky (znd r s sky h i) := by unfold zdk; rw [en, b0]
  by_cases hd : zdk r s i sky (znd r s sky h i) = true
  · rw [zstep_dark hd, zstep_dark (ed.trans hd), zlog_0, zlog_0, en]
    refine ⟨?_, ?_, fun l hl => ?_⟩
    · rw [zcount_10, zcount_10, zburn_1 _ _ _ _ (by decide), zburn_1 _ _ _ _ (by decide), a1]
    · rw [zcount_11, zcount_11, zburn_1 _ _ _ _ (by decide), zburn_1 _ _ _ _ (by decide), zburn_2 _ _ _ _ (by decide), zburn_2 _ _ _ _ (by decide), a2, b2]
    · rw [zcount_r, zcount_r]
      obtain ⟨c0, c1, c2, c3⟩ := a3 l hl
      by_cases c : l = i
      · subst c
        simp (disch := omega) only [za_n, za_s, zburn_0, zburn_2]
        exact ⟨ez, c1, by rw [c2], by rw [c3]⟩
      · simp (disch := omega) only [za_n, za_r, zburn_0n, zburn_2]
        exact ⟨c0, c1, c2, c3⟩
  · rw [zstep_lit hd, zstep_lit (fun q => hd (ed.symm.trans q)), zlog_0, zlog_0, en]
    refine ⟨?_, ?_, fun l hl => ?_⟩
    · rw [za_1, za_1, zburn_1 _ _ _ _ (by decide), zburn_1 _ _ _ _ (by decide), a1]
    · rw [za_1, za_1, zburn_1 _ _ _ _ (by decide), zburn_1 _ _ _ _ (by decide), a2]
    · obtain ⟨c0, c1, c2, c3⟩ := a3 l hl
      by_cases c : l = i
      · subst c
        simp (disch := omega) only [za_n, za_s, zburn_0, zburn_2]
        exact ⟨ez, c1, trivial, c3⟩
      · simp (disch := omega) only [za_n, za_r, zburn_0n, zburn_2]
        exact ⟨c0, c1, c2, c3⟩
theorem Rn_loop {r s t : Ns} {sky h : Nat} (H : Rn s t) : ∀ i, i ≤ 9 → Rn (zloop 0 r sky h s i) (zloop 0 r sky h t i)
  | 0, _ => H
  | i + 1, hi => Rn_step (Rn_loop H i (by omega)) (by omega)
theorem Rn_sail {r s t : Ns} {sky : Nat} (H : Rp s t) (h9 : t.1 9 = s.1 9) (hg : s.1 9 ≤ 9) : Rp (zsail r s sky) (zsail r t sky) := by
  obtain ⟨⟨a1, a2, a3⟩, a5, a6, a7, a8, a12⟩ := H
  have ep : zplace r t sky = zplace r s sky := by unfold zplace; rw [a7, h9]
  have rows : ∀ k, k ≠ 0 → (zsail r t sky).2 k = t.2 k ∧ (zsail r s sky).2 k = s.2 k := fun k hk => ⟨zsail_2 _ _ _ hk, zsail_2 _ _ _ hk⟩
  refine ⟨⟨?_, ?_, fun l hl => ?_⟩, ?_, ?_, ?_, ?_, ?_⟩
  · rw [zsail_1 _ _ _ (by decide) (by decide) (by decide), zsail_1 _ _ _ (by decide) (by decide) (by decide), a1]
  · rw [zsail_1 _ _ _ (by decide) (by decide) (by decide), zsail_1 _ _ _ (by decide) (by decide) (by decide), a2]
  · obtain ⟨c0, c1, c2, c3⟩ := a3 l hl
    rw [(rows 1 (by decide)).1, (rows 1 (by decide)).2, (rows 2 (by decide)).1, (rows 2 (by decide)).2, (rows 3 (by decide)).1, (rows 3 (by decide)).2]
    refine ⟨?_, c1, c2, c3⟩
    unfold zsail
    rw [ep, h9]
    split
    · cases e : s.1 9 with
      | zero => exact c0
      | succ g =>
        show (zfill r (zu t 7 (zplace r s sky)) g).2 0 l = (zfill r (zu s 7 (zplace r s sky)) g).2 0 l
        have cg := (a3 g (by omega)).1
        unfold zfill zgive
        simp (disch := omega) only [zu_n, zu_2]
        rw [a8, cg]
        by_cases c : l = g
        · subst c
          rw [za_s, za_s]
        · rw [za_r _ _ _ _ c, za_r _ _ _ _ c, zu_2, zu_2, zu_2, zu_2]
          exact c0
    · exact c0
  · unfold zsail
    rw [ep, h9]
    split
    · cases e : s.1 9 with
      | zero =>
        show (ztakeOil r (zu t 7 (zplace r s sky)) (r.1 9)).1 5 = (ztakeOil r (zu s 7 (zplace r s sky)) (r.1 9)).1 5
        unfold ztakeOil ztake
        simp (disch := omega) only [zu_s, zu_n]
        rw [a5, a8]
      | succ g =>
        show (zfill r (zu t 7 (zplace r s sky)) g).1 5 = (zfill r (zu s 7 (zplace r s sky)) g).1 5
        unfold zfill
        simp (disch := omega) only [za_1, zu_s, zu_n]
        exact a5
    · simp (disch := omega) only [zu_n]
      exact a5
  · rw [zsail_1 _ _ _ (by decide) (by decide) (by decide), zsail_1 _ _ _ (by decide) (by decide) (by decide), a6]
  · unfold zsail
    rw [ep, h9]
    split
    · cases e : s.1 9 with
      | zero =>
        show (ztakeOil r (zu t 7 (zplace r s sky)) (r.1 9)).1 7 = (ztakeOil r (zu s 7 (zplace r s sky)) (r.1 9)).1 7
        unfold ztakeOil
        simp (disch := omega) only [zu_s, zu_n]
      | succ g =>
        show (zfill r (zu t 7 (zplace r s sky)) g).1 7 = (zfill r (zu s 7 (zplace r s sky)) g).1 7
        unfold zfill
        simp (disch := omega) only [za_1, zu_s, zu_n]
    · rw [zu_s, zu_s]
  · unfold zsail
    rw [ep, h9]
    split
    · cases e : s.1 9 with
      | zero =>
        show (ztakeOil r (zu t 7 (zplace r s sky)) (r.1 9)).1 8 = (ztakeOil r (zu s 7 (zplace r s sky)) (r.1 9)).1 8
        unfold ztakeOil ztake
        simp (disch := omega) only [zu_s, zu_n]
        rw [a5, a8]
      | succ g =>
        show (zfill r (zu t 7 (zplace r s sky)) g).1 8 = (zfill r (zu s 7 (zplace r s sky)) g).1 8
        have cg := (a3 g (by omega)).1
        unfold zfill zgive
        simp (disch := omega) only [za_1, zu_s, zu_n, zu_2]
        rw [a8, cg]
    · simp (disch := omega) only [zu_n]
      exact a8
  · rw [zsail_1 _ _ _ (by decide) (by decide) (by decide), zsail_1 _ _ _ (by decide) (by decide) (by decide), a12]
theorem Rp_eggs {r s t : Ns} (H : Rp s t) : Rp (zeggs r s) (zeggs r t) := by
  obtain ⟨⟨a1, a2, a3⟩, a5, a6, a7, a8, a12⟩ := H
  refine ⟨⟨?_, ?_, a3⟩, ?_, ?_, ?_, ?_, ?_⟩ <;> (unfold zeggs; simp (disch := omega) only [zu_s, zu_n])
  · exact a1
  · exact a2
  · rw [a5, a6]
  · rw [a6]
  · exact a7
  · exact a8
  · exact a12
theorem Rp_day {r s t : Ns} {sky : Nat} (r7 : r.1 7 ≤ 9) (H : Rp s t) (h9 : t.1 9 = s.1 9) (hg : s.1 9 ≤ 9) : Rp (zday 0 r s sky) (zday 0 r t sky) := by
  have a12 := H.2.2.2.2.2
  have e1 : (zeggs r s).1 9 = s.1 9 := zeggs_1 _ _ (by decide) (by decide) (by decide)
  have e2 : (zeggs r t).1 9 = t.1 9 := zeggs_1 _ _ (by decide) (by decide) (by decide)
  have Hm : Rp (zmorn r s sky) (zmorn r t sky) := Rn_sail (Rp_eggs H) (by rw [e1, e2]; exact h9) (by rw [e1]; exact hg)
  have Hl := Rn_loop (r := r) (sky := sky) (h := zhours r (s.1 12)) Hm.1 (r.1 7) r7
  obtain ⟨_, b5, b6, b7, b8, b12⟩ := Hm
  obtain ⟨c1, c2, c3⟩ := Hl
  unfold zday zeve
  rw [a12]
  refine ⟨⟨?_, ?_, c3⟩, ?_, ?_, ?_, ?_, ?_⟩ <;> simp (disch := omega) only [zu_s, zu_n]
  · exact c1
  · exact c2
  · rw [zloop_1 _ _ _ _ _ (by decide) (by decide) (by decide), zloop_1 _ _ _ _ _ (by decide) (by decide) (by decide)]; exact b5
  · rw [zloop_1 _ _ _ _ _ (by decide) (by decide) (by decide), zloop_1 _ _ _ _ _ (by decide) (by decide) (by decide)]; exact b6
  · rw [zloop_1 _ _ _ _ _ (by decide) (by decide) (by decide), zloop_1 _ _ _ _ _ (by decide) (by decide) (by decide)]; exact b7
  · rw [zloop_1 _ _ _ _ _ (by decide) (by decide) (by decide), zloop_1 _ _ _ _ _ (by decide) (by decide) (by decide)]; exact b8
  · rw [zloop_1 _ _ _ _ _ (by decide) (by decide) (by decide), zloop_1 _ _ _ _ _ (by decide) (by decide) (by decide), b12]
/-! harm and breaches never shrink -/
theorem zstep_mono (r s : Ns) (sky h i : Nat) : s.1 10 ≤ (zstep 0 r sky h i s).1 10 ∧ s.1 11 ≤ (zstep 0 r sky h i s).1 11 := by
  by_cases hd : zdk r s i sky (znd r s sky h i) = true
  · rw [zstep_dark hd, zlog_0, zcount_10, zcount_11, zburn_1 _ _ _ _ (by decide), zburn_1 _ _ _ _ (by decide)]
    exact ⟨Nat.le_add_right _ _, Nat.le_add_right _ _⟩
  · rw [zstep_lit hd, zlog_0, za_1, zburn_1 _ _ _ _ (by decide), zburn_1 _ _ _ _ (by decide)]
    exact ⟨Nat.le_refl _, Nat.le_refl _⟩
theorem zloop_mono (r s : Ns) (sky h : Nat) : ∀ i, s.1 10 ≤ (zloop 0 r sky h s i).1 10 ∧ s.1 11 ≤ (zloop 0 r sky h s i).1 11
  | 0 => ⟨Nat.le_refl _, Nat.le_refl _⟩
  | i + 1 => ⟨Nat.le_trans (zloop_mono r s sky h i).1 (zstep_mono r _ sky h i).1, Nat.le_trans (zloop_mono r s sky h i).2 (zstep_mono r _ sky h i).2⟩
theorem zmorn_10 (r s : Ns) (sky : Nat) : (zmorn r s sky).1 10 = s.1 10 ∧ (zmorn r s sky).1 11 = s.1 11 := by
  unfold zmorn
  rw [zsail_1 _ _ _ (by decide) (by decide) (by decide), zeggs_1 _ _ (by decide) (by decide) (by decide), zsail_1 _ _ _ (by decide) (by decide) (by decide), zeggs_1 _ _ (by decide) (by decide) (by decide)]
  exact ⟨rfl, rfl⟩
theorem zday_10 (r s : Ns) (sky : Nat) : (zday 0 r s sky).1 10 = (zloop 0 r sky (zhours r (s.1 12)) (zmorn r s sky) (r.1 7)).1 10 ∧ (zday 0 r s sky).1 11 = (zloop 0 r sky (zhours r (s.1 12)) (zmorn r s sky) (r.1 7)).1 11 := by
  unfold zday zeve
  simp (disch := omega) only [zu_n]
  exact ⟨trivial, trivial⟩
theorem zday_mono (r s : Ns) (sky : Nat) : s.1 10 ≤ (zday 0 r s sky).1 10 ∧ s.1 11 ≤ (zday 0 r s sky).1 11 := by
  have h := zloop_mono r (zmorn r s sky) sky (zhours r (s.1 12)) (r.1 7)
  rw [(zmorn_10 r s sky).1, (zmorn_10 r s sky).2] at h
  rw [(zday_10 r s sky).1, (zday_10 r s sky).2]
  exact h
/-! a goal where nothing is filled is like the harbour -/
def zfl (r t : Ns) (sky l : Nat) : Prop := 0 < t.1 8 ∧ t.2 0 l < r.2 3 l ∧ (if t.1 7 ≤ r.2 1 l then r.2 1 l - t.1 7 else t.1 7 - r.2 1 l) ≤ zby r sky
theorem zfl_no {r t : Ns} {sky l : Nat} (r7 : r.1 7 ≤ 9) (hn : ¬ zfl r t sky l) : (zday 0 r (zu t 9 (l + 1)) sky).1 10 = (zday 0 r (zu t 9 0) sky).1 10 ∧ (zday 0 r (zu t 9 (l + 1)) sky).1 11 = (zday 0 r (zu t 9 0) sky).1 11 := by
  have H : Rn (zmorn r (zu t 9 0) sky) (zmorn r (zu t 9 (l + 1)) sky) := by
    refine ⟨?_, ?_, fun j hj => ?_⟩
    · rw [(zmorn_10 _ _ _).1, (zmorn_10 _ _ _).1, zu_n _ _ (by decide), zu_n _ _ (by decide)]
    · rw [(zmorn_10 _ _ _).2, (zmorn_10 _ _ _).2, zu_n _ _ (by decide), zu_n _ _ (by decide)]
    · have rows : ∀ g k, k ≠ 0 → (zmorn r (zu t 9 g) sky).2 k = t.2 k := fun g k hk => by
        unfold zmorn
        rw [zsail_2 _ _ _ hk]
        rfl
      rw [rows _ 1 (by decide), rows _ 1 (by decide), rows _ 2 (by decide), rows _ 2 (by decide), rows _ 3 (by decide), rows _ 3 (by decide)]
      refine ⟨?_, rfl, rfl, rfl⟩
      have e0 : (zmorn r (zu t 9 0) sky).2 0 = t.2 0 := by
        unfold zmorn zsail
        have e9 : (zeggs r (zu t 9 0)).1 9 = 0 := by rw [zeggs_1 _ _ (by decide) (by decide) (by decide), zu_s]
        rw [e9]
        split <;> rfl
      rw [e0]
      unfold zmorn zsail
      have e9 : (zeggs r (zu t 9 (l + 1))).1 9 = l + 1 := by rw [zeggs_1 _ _ (by decide) (by decide) (by decide), zu_s]
      have e8 : (zeggs r (zu t 9 (l + 1))).1 8 = t.1 8 := by rw [zeggs_1 _ _ (by decide) (by decide) (by decide), zu_n _ _ (by decide)]
      have e7 : (zeggs r (zu t 9 (l + 1))).1 7 = t.1 7 := by rw [zeggs_1 _ _ (by decide) (by decide) (by decide), zu_n _ _ (by decide)]
      rw [e9]
      split
      · rename_i hp
        show (zfill r (zu (zeggs r (zu t 9 (l + 1))) 7 (zplace r (zeggs r (zu t 9 (l + 1))) sky)) l).2 0 j = _
        have hz : zgive r (zu (zeggs r (zu t 9 (l + 1))) 7 (zplace r (zeggs r (zu t 9 (l + 1))) sky)) l = 0 := by
          unfold zgive
          rw [zu_n _ _ (by decide), e8]
          have er : (zu (zeggs r (zu t 9 (l + 1))) 7 (zplace r (zeggs r (zu t 9 (l + 1))) sky)).2 0 l = t.2 0 l := rfl
          rw [er]
          unfold zplace at hp
          rw [e9, e7] at hp
          have ht : zto r (l + 1) = r.2 1 l := rfl
          rw [ht] at hp
          unfold zfl at hn
          by_cases c1 : 0 < t.1 8
          · by_cases c2 : t.2 0 l < r.2 3 l
            · exfalso
              refine hn ⟨c1, c2, ?_⟩
              by_cases c3 : t.1 7 ≤ r.2 1 l
              · rw [if_pos c3] at hp ⊢
                omega
              · rw [if_neg c3] at hp ⊢
                omega
            · omega
          · omega
        unfold zfill
        rw [hz]
        by_cases c : j = l
        · subst c
          rw [za_s]
          rfl
        · rw [za_r _ _ _ _ c]
          rfl
      · rfl
  have Hl := Rn_loop (r := r) (sky := sky) (h := zhours r (t.1 12)) H (r.1 7) r7
  rw [(zday_10 _ _ _).1, (zday_10 _ _ _).2, (zday_10 _ _ _).1, (zday_10 _ _ _).2, zu_n _ _ (by decide), zu_n _ _ (by decide)]
  exact ⟨Hl.1, Hl.2.1⟩
/-! rows of goals -/
def zst (r k t : Ns) (g : Nat) : Ns := zday 0 r (zu t 9 g) (zsky k (t.1 12))
def zpre (r k s : Ns) : Nat → Nat → Ns
  | 0, _ => s
  | d + 1, x => zst r k (zpre r k s d (x / (r.1 7 + 1))) (x % (r.1 7 + 1))
def zC (r k s : Ns) (n x : Nat) : Nat × Nat := ((zpre r k s n x).1 10, (zpre r k s n x).1 11)
def btr (c : Nat × Nat) : Option (Nat × Nat × Nat) → Prop
  | none => True
  | some p => c.1 < p.1 ∨ (c.1 = p.1 ∧ c.2 < p.2.1)
noncomputable def zbu (c : Nat × Nat) (i : Nat) (o : Option (Nat × Nat × Nat)) : Option (Nat × Nat × Nat) := @ite _ (btr c o) (Classical.propDecidable _) (some (c.1, c.2, i)) o
noncomputable def zb (C : Nat → Nat × Nat) : Nat → Option (Nat × Nat × Nat)
  | 0 => none
  | i + 1 => zbu (C i) i (zb C i)
theorem zbu_y {c : Nat × Nat} {i : Nat} {o : Option (Nat × Nat × Nat)} (h : btr c o) : zbu c i o = some (c.1, c.2, i) := if_pos h
theorem zbu_n {c : Nat × Nat} {i : Nat} {o : Option (Nat × Nat × Nat)} (h : ¬ btr c o) : zbu c i o = o := if_neg h
theorem zb_skip (C : Nat → Nat × Nat) (A : Nat) : ∀ m, (∀ x, A ≤ x → x < A + m → ¬ btr (C x) (zb C A)) → zb C (A + m) = zb C A
  | 0, _ => rfl
  | m + 1, h => by
    have ih := zb_skip C A m (fun x h1 h2 => h x h1 (by omega))
    show zbu (C (A + m)) (A + m) (zb C (A + m)) = _
    rw [ih, zbu_n (h (A + m) (by omega) (by omega))]
theorem btr_mono {c : Nat × Nat} (C : Nat → Nat × Nat) {i : Nat} (h : ¬ btr c (zb C i)) : ¬ btr c (zb C (i + 1)) := by
  show ¬ btr c (zbu (C i) i (zb C i))
  by_cases g : btr (C i) (zb C i)
  · rw [zbu_y g]
    cases e : zb C i with
    | none => rw [e] at h; exact absurd trivial h
    | some p =>
      rw [e] at h g
      unfold btr at h g ⊢
      dsimp only at h g ⊢
      omega
  · rw [zbu_n g]
    exact h
theorem btr_self (C : Nat → Nat × Nat) (i : Nat) : ¬ btr (C i) (zb C (i + 1)) := by
  show ¬ btr (C i) (zbu (C i) i (zb C i))
  by_cases g : btr (C i) (zb C i)
  · rw [zbu_y g]
    unfold btr
    dsimp only
    omega
  · rw [zbu_n g]
    exact g
theorem btr_after (C : Nat → Nat × Nat) (i : Nat) : ∀ m, ¬ btr (C i) (zb C (i + 1 + m))
  | 0 => btr_self C i
  | m + 1 => btr_mono C (btr_after C i m)
theorem zb_some (C : Nat → Nat × Nat) : ∀ i, ∃ p, zb C (i + 1) = some p ∧ p.2.2 < i + 1 ∧ (p.1, p.2.1) = C p.2.2
  | 0 => ⟨((C 0).1, (C 0).2, 0), zbu_y trivial, Nat.zero_lt_one, rfl⟩
  | i + 1 => by
    obtain ⟨p, e, hp, hc⟩ := zb_some C i
    by_cases g : btr (C (i + 1)) (zb C (i + 1))
    · exact ⟨((C (i + 1)).1, (C (i + 1)).2, i + 1), zbu_y g, Nat.lt_succ_self _, rfl⟩
    · refine ⟨p, ?_, by omega, hc⟩
      show zbu (C (i + 1)) (i + 1) (zb C (i + 1)) = _
      rw [zbu_n g]
      exact e
theorem zpre_mono (r k s : Ns) (d : Nat) : ∀ j x, (zpre r k s d (x / (r.1 7 + 1) ^ j)).1 10 ≤ (zpre r k s (d + j) x).1 10 ∧ (zpre r k s d (x / (r.1 7 + 1) ^ j)).1 11 ≤ (zpre r k s (d + j) x).1 11
  | 0, x => by
    rw [Nat.pow_zero, Nat.div_one]
    exact ⟨Nat.le_refl _, Nat.le_refl _⟩
  | j + 1, x => by
    have ih := zpre_mono r k s d j (x / (r.1 7 + 1))
    rw [Nat.div_div_eq_div_mul, Nat.mul_comm, ← Nat.pow_succ] at ih
    have h := zday_mono r (zu (zpre r k s (d + j) (x / (r.1 7 + 1))) 9 (x % (r.1 7 + 1))) (zsky k ((zpre r k s (d + j) (x / (r.1 7 + 1))).1 12))
    rw [zu_n _ _ (by decide), zu_n _ _ (by decide)] at h
    exact ⟨Nat.le_trans ih.1 h.1, Nat.le_trans ih.2 h.2⟩
theorem btr_le {c c' : Nat × Nat} {o : Option (Nat × Nat × Nat)} (h1 : c.1 ≤ c'.1) (h2 : c.2 ≤ c'.2) (h : ¬ btr c o) : ¬ btr c' o := by
  cases o with
  | none => exact absurd trivial h
  | some p =>
    unfold btr at h ⊢
    dsimp only at h ⊢
    omega
