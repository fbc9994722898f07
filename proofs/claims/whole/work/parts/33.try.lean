/-! ===== THE CLASS'S ROUND ===== -/
def cR (v : Vl) (b n : Nat) : Option (Nat × Nat × Nat) → Prop
  | none => v.1 3 = nI 2147483647 ∧ v.1 4 = nI 2147483647
  | some p => v.1 3 = nI p.1 ∧ v.1 4 = nI p.2.1 ∧ ∀ d, d < n → v.2.2.1 2 d = gI (p.2.2 / b ^ (n - 1 - d) % b)
def rowR (v : Vl) (b d x : Nat) : Prop := ∀ j, j < d → v.2.2.1 1 j = gI (x / b ^ (d - 1 - j) % b)
theorem zb_val (C : Nat → Nat × Nat) : ∀ i p, zb C i = some p → p.2.2 < i ∧ (p.1, p.2.1) = C p.2.2
  | 0, p, h => by cases h
  | i + 1, p, h => by
    obtain ⟨q, e, h1, h2⟩ := zb_some C i
    rw [e] at h
    cases h
    exact ⟨h1, h2⟩
theorem wf_goal {r s : Ns} {g : Nat} (hs : WfS r s 0 0) (hg : g ≤ r.1 7) : WfS r (zu s 9 g) 0 0 := by
  obtain ⟨s7, s8, s6, s9, s13, s16, s5, s15, s10, s11, s14, sl⟩ := hs
  unfold WfS
  simp (disch := omega) only [zu_s, zu_n, zu_2]
  exact ⟨s7, s8, s6, hg, s13, s16, s5, s15, s10, s11, s14, sl⟩
theorem wf_pre {r k s : Ns} (hr : WfR r) (hk : WfK k) (hs : WfS r s 0 0) : ∀ d x, WfS r (zpre r k s d x) 0 0 ∧ (zpre r k s d x).1 12 = s.1 12 + d
  | 0, _ => ⟨hs, rfl⟩
  | d + 1, x => by
    have ih := wf_pre hr hk hs d (x / (r.1 7 + 1))
    refine ⟨wf_day hr (wf_goal ih.1 (Nat.le_of_lt_succ (Nat.mod_lt _ (Nat.succ_pos _)))) (zsky_le hk _), ?_⟩
    show (zday 0 r _ _).1 12 = _
    rw [zday_12, zu_n _ _ (by decide), ih.2]
    omega
theorem zC_le {r k s : Ns} (hr : WfR r) (hk : WfK k) (hs : WfS r s 0 0) {n : Nat} (hn : s.1 12 + n ≤ 12900) (x : Nat) : (zC r k s n x).1 ≤ 23220000 ∧ (zC r k s n x).2 ≤ 23220000 := by
  obtain ⟨w, e⟩ := wf_pre hr hk hs n x
  have h10 := w.2.2.2.2.2.2.2.2.1
  have h11 := w.2.2.2.2.2.2.2.2.2.1
  rw [e] at h10 h11
  show (zpre r k s n x).1 10 ≤ _ ∧ (zpre r k s n x).1 11 ≤ _
  omega
theorem zpre_ch (r k s : Ns) (d x : Nat) {g : Nat} (hg : g ≤ r.1 7) : zpre r k s (d + 1) (x * (r.1 7 + 1) + g) = zst r k (zpre r k s d x) g := by
  show zst r k (zpre r k s d ((x * (r.1 7 + 1) + g) / (r.1 7 + 1))) ((x * (r.1 7 + 1) + g) % (r.1 7 + 1)) = _
  have e1 : (x * (r.1 7 + 1) + g) / (r.1 7 + 1) = x := by
    rw [Nat.mul_comm, Nat.mul_add_div (Nat.succ_pos _), Nat.div_eq_of_lt (Nat.lt_succ_of_le hg), Nat.add_zero]
  have e2 : (x * (r.1 7 + 1) + g) % (r.1 7 + 1) = g := by
    rw [Nat.mul_comm, Nat.mul_add_mod, Nat.mod_eq_of_lt (Nat.lt_succ_of_le hg)]
  rw [e1, e2]
/-- what the class's day leaves is alike -/
theorem rd_ch {r k s t a : Ns} {d x g nl : Nat} (hr : WfR r) (ht : Rp (zpre r k s d x) t) (hg : g ≤ r.1 7) : Rp (zpre r k s (d + 1) (x * (r.1 7 + 1) + g)) (zday 0 r (zu (zcopy nl a t) 9 g) (zsky k (t.1 12))) := by
  have r7 := hr.1
  rw [zpre_ch r k s d x hg]
  unfold zst
  have e12 : t.1 12 = (zpre r k s d x).1 12 := ht.2.2.2.2.2
  rw [← e12]
  exact Rp_day r7 (Rp_9 (Rp_t ht (Rp_eq (zcopy_eq nl a t))) g) (by rw [zu_s, zu_s]) (by rw [zu_s]; omega)
theorem blk_skip {r k s : Ns} {n d x : Nat} (hdn : d + 1 ≤ n) (h : ¬ btr ((zpre r k s (d + 1) x).1 10, (zpre r k s (d + 1) x).1 11) (zb (zC r k s n) (x * (r.1 7 + 1) ^ (n - (d + 1))))) : zb (zC r k s n) ((x + 1) * (r.1 7 + 1) ^ (n - (d + 1))) = zb (zC r k s n) (x * (r.1 7 + 1) ^ (n - (d + 1))) := by
  have hp : 0 < (r.1 7 + 1) ^ (n - (d + 1)) := Nat.pow_pos (Nat.succ_pos _)
  rw [Nat.succ_mul]
  refine zb_skip _ _ _ (fun y h1 h2 => ?_)
  have e : y / (r.1 7 + 1) ^ (n - (d + 1)) = x := by
    have : y < (x + 1) * (r.1 7 + 1) ^ (n - (d + 1)) := by rw [Nat.succ_mul]; exact h2
    have g1 := (Nat.div_lt_iff_lt_mul hp).mpr this
    have g2 := (Nat.le_div_iff_mul_le hp).mpr h1
    omega
  have m := zpre_mono r k s (d + 1) (n - (d + 1)) y
  rw [e] at m
  have en : d + 1 + (n - (d + 1)) = n := by omega
  rw [en] at m
  exact btr_le m.1 m.2 h
theorem nf_skip {r k s t : Ns} {d x l : Nat} (hr : WfR r) (ht : Rp (zpre r k s d x) t) (hl : l < r.1 7) (hf : ¬ zfl r t (zsky k (t.1 12)) l) : zb (zC r k s (d + 1)) (x * (r.1 7 + 1) + (l + 1) + 1) = zb (zC r k s (d + 1)) (x * (r.1 7 + 1) + (l + 1)) := by
  have r7 := hr.1
  have e12 : t.1 12 = (zpre r k s d x).1 12 := ht.2.2.2.2.2
  have key : ∀ g, g ≤ r.1 7 → Rp (zpre r k s (d + 1) (x * (r.1 7 + 1) + g)) (zday 0 r (zu t 9 g) (zsky k (t.1 12))) := by
    intro g hg
    rw [zpre_ch r k s d x hg]
    unfold zst
    rw [← e12]
    exact Rp_day r7 (Rp_9 ht g) (by rw [zu_s, zu_s]) (by rw [zu_s]; omega)
  have k1 := key (l + 1) hl
  have k0 := key 0 (Nat.zero_le _)
  have q := zfl_no r7 hf
  have e : zC r k s (d + 1) (x * (r.1 7 + 1) + (l + 1)) = zC r k s (d + 1) (x * (r.1 7 + 1)) := by
    unfold zC
    rw [← k1.1.1, ← k1.1.2.1, q.1, q.2, k0.1.1, k0.1.2.1]
    rfl
  show zbu (zC r k s (d + 1) (x * (r.1 7 + 1) + (l + 1))) _ _ = _
  rw [e, zbu_n]
  have := btr_after (zC r k s (d + 1)) (x * (r.1 7 + 1)) l
  have e3 : x * (r.1 7 + 1) + 1 + l = x * (r.1 7 + 1) + (l + 1) := by omega
  rw [e3] at this
  exact this
theorem q_better {v : Vl} {b n nl : Nat} {t : Ns} {o : Option (Nat × Nat × Nat)} {Q : Int32 → Prop} (hv : cR v b n o) (h10 : t.1 10 ≤ 23220000) (h11 : t.1 11 ≤ 23220000) (ho : ∀ p, o = some p → p.1 ≤ 23220000 ∧ p.2.1 ≤ 23220000) (hy : btr (t.1 10, t.1 11) o → Q 1) (hn : ¬ btr (t.1 10, t.1 11) o → Q 0) : wp_X4_isBetter v nl (encS t) Q := by
  unfold wp_X4_isBetter
  rw [encS_1 _ (by decide) (by decide), encS_1 _ (by decide) (by decide)]
  cases o with
  | none =>
    rw [hv.1, rl_eT (nI_lt (by omega) (by omega))]
    exact hy trivial
  | some p =>
    have hp := ho p rfl
    rw [hv.1, hv.2.1]
    unfold btr at hy hn
    dsimp only at hy hn
    simp (disch := omega) only [nI_ltI, nI_eq, nI_leI]
    refine ⟨fun c => hy (Or.inl c), fun c => ⟨fun c2 => hn (by omega), fun c2 => ⟨fun c3 => hn (by omega), fun c3 => hy (by omega)⟩⟩⟩
theorem w_copyRaw {f g : Nat → Int32} {Q : (Nat → Int32) → Prop} (h : ∀ u, (∀ j, j < 4 → u j = f j) → Q u) : wp_X8_copyRow 4 f 4 g Q := by
  have e0 : (if Int32.ofNat 4 < Int32.ofNat 4 then Int32.ofNat 4 else Int32.ofNat 4) = nI 4 := by rw [ite_self]; rfl
  have e1 : Int32.toNatClampNeg 0 = 0 := by decide
  unfold wp_X8_copyRow
  simp only [e0, e1, nI_clamp (show 4 < 2 ^ 31 by omega), forall_eq]
  refine ⟨⟨by decide, by decide, by decide, by omega, by omega⟩, h _ (fun j hj => ?_)⟩
  rw [pk_cpy_in (Nat.zero_le _) (by omega), Nat.zero_add, Nat.sub_zero]
theorem q_take {v : Vl} {b n x nl : Nat} {t : Ns} {Q : Vl → Prop} (hn : n ≤ 4) (hrow : rowR v b n x) (h : ∀ u, cR u b n (some (t.1 10, t.1 11, x)) → (∀ j, u.2.2.1 1 j = v.2.2.1 1 j) → Q u) : wp_X4_takeRow v nl (encS t) Q := by
  unfold wp_X4_takeRow
  simp only [forall_eq, encS_1 t (show (10 : Nat) ≠ 9 by decide) (show (10 : Nat) ≠ 16 by decide), encS_1 t (show (11 : Nat) ≠ 9 by decide) (show (11 : Nat) ≠ 16 by decide)]
  refine w_copyRaw (fun u hu => h _ ⟨rfl, rfl, fun d hd => ?_⟩ (fun j => rfl))
  show u d = _
  rw [hu d (by omega)]
  exact hrow d hd
theorem gI_s (g : Nat) : gI g + 1 = gI (g + 1) := by
  cases g with
  | zero => decide
  | succ g => exact nI_1 g
theorem gI_L {g L : Nat} (hg : g ≤ L) (hL : L ≤ 9) : ¬ nI L ≤ gI g := by
  cases g with
  | zero =>
    intro q
    rw [Int32.le_iff_toInt_le, nI_toInt (by omega)] at q
    have : (gI 0).toInt = -1 := by decide
    omega
  | succ g => exact nI_ge (by omega) (by omega)
theorem q_filling {nl l sky : Nat} {r t : Ns} {Q : Int32 → Prop} (hr : WfR r) (wt : WfS r t 0 0) (hl : l < r.1 7) (hk : sky ≤ 2) (hy : zfl r t sky l → Q 1) (hn : ¬ zfl r t sky l → Q 0) : wp_X6_isFillingBy nl (encS t) (encG r) (nI sky) (nI l) Q := by
  have r7 := hr.1
  have r8 := hr.2.2.1
  have r9 := hr.2.2.2.2.1
  obtain ⟨k0, k1, k2, k3, k4⟩ := hr.2.2.2.2.2.2.2.2.2.2.2.2.2.2 l hl
  have l0 := (wt.2.2.2.2.2.2.2.2.2.2.2 l hl).1
  have h7 := wt.1
  have h8 := wt.2.1
  have hb := zby_le hr sky
  unfold wp_X6_isFillingBy
  have e8 : nI (t.1 8) ≤ 0 ↔ t.1 8 ≤ 0 := nI_leI (b := 0) (by omega) (by omega)
  simp (disch := omega) only [encS_1, encG_r, encS_r, w_at, jat_row, e8, nI_leI, w_X3_milesBy, i_abs]
  have hz : (if t.1 7 ≤ r.2 1 l then r.2 1 l - t.1 7 else t.1 7 - r.2 1 l) ≤ 99 := by split <;> omega
  simp (disch := omega) only [nI_ltI]
  unfold zfl at hy hn
  refine ⟨fun c => hn (by omega), fun c => ⟨fun c2 => hn (by omega), fun c2 => ⟨fun c3 => hn (by omega), fun c3 => hy ⟨by omega, by omega, by omega⟩⟩⟩⟩
theorem row_up {v : Vl} {b d x g : Nat} (hg : g < b) (h : rowR v b d x) : rowR (setRA v 1 (upd (v.2.2.1 1) d (gI g))) b (d + 1) (x * b + g) := by
  intro j hj
  show upd (v.2.2.1 1) d (gI g) j = _
  rw [upd_a]
  have hb : 0 < b := by omega
  by_cases c : j = d
  · rw [if_pos c, c]
    have e : d + 1 - 1 - d = 0 := by omega
    rw [e, Nat.pow_zero, Nat.div_one, Nat.mul_comm, Nat.mul_add_mod, Nat.mod_eq_of_lt hg]
  · rw [if_neg c, h j (by omega)]
    have e : d + 1 - 1 - j = (d - 1 - j) + 1 := by omega
    rw [e, Nat.pow_succ, Nat.mul_comm (b ^ (d - 1 - j)) b, ← Nat.div_div_eq_div_mul, Nat.mul_comm x b, Nat.mul_add_div hb, Nat.div_eq_of_lt hg, Nat.add_zero]
theorem row_dn {v u : Vl} {b d x y : Nat} (e : ∀ j, j < d → u.2.2.1 1 j = v.2.2.1 1 j) (h : rowR v b d x) (hxy : x = y) : rowR u b d y := by
  intro j hj
  rw [e j hj, h j hj, hxy]
theorem row_pf {u : Vl} {b d x g : Nat} (hg : g < b) (h : rowR u b (d + 1) (x * b + g)) : rowR u b d x := by
  intro j hj
  rw [h j (by omega)]
  have hb : 0 < b := by omega
  have e : d + 1 - 1 - j = (d - 1 - j) + 1 := by omega
  rw [e, Nat.pow_succ, Nat.mul_comm (b ^ (d - 1 - j)) b, ← Nat.div_div_eq_div_mul, Nat.mul_comm x b, Nat.mul_add_div hb, Nat.div_eq_of_lt hg, Nat.add_zero]
theorem q_try3 {r k s : Ns} {n : Nat} (hr : WfR r) (hk : WfK k) (hs : WfS r s 0 0) (hd : s.1 12 ≤ 12880) (hn : n ≤ 4) {Q : Vl → Vl → Prop} (hdn : 3 < n) (x : Nat) (t : Ns) (ht : Rp (zpre r k s 3 x) t) (wt : WfS r t 0 0)
    (hQ : ∀ v a4, cR v (r.1 7 + 1) n (zb (zC r k s n) ((x + 1) * (r.1 7 + 1) ^ (n - 3))) → rowR v (r.1 7 + 1) 3 x → Q v (encS a4)) :
    ∀ v a4, cR v (r.1 7 + 1) n (zb (zC r k s n) (x * (r.1 7 + 1) ^ (n - 3))) → rowR v (r.1 7 + 1) 3 x → wp_X4_tryDay_d3 v (encG r) (encG k) (encS t) (encS a4) (nI n) Q := by
  intro v a4 hv hrow
  have r7 := hr.1
  have e12 : t.1 12 = s.1 12 + 3 := by rw [ht.2.2.2.2.2]; exact (wf_pre hr hk hs 3 x).2
  have hpw : (r.1 7 + 1) ^ (n - 3) = (r.1 7 + 1) * (r.1 7 + 1) ^ (n - (3 + 1)) := by
    have e : n - 3 = (n - (3 + 1)) + 1 := by omega
    rw [e, Nat.pow_succ, Nat.mul_comm]
  have sk := zsky_le hk (t.1 12)
  have loop : ∀ (e : Nat), (e = 0 ∧ n ≠ 3 + 1 ∨ e = 1 ∧ n = 3 + 1) → ∀ m g v a4, g + m = r.1 7 + 1 → cR v (r.1 7 + 1) n (zb (zC r k s n) ((x * (r.1 7 + 1) + g) * (r.1 7 + 1) ^ (n - (3 + 1)))) → rowR v (r.1 7 + 1) 3 x → wp_X4_tryDay_d3_c69 (encG r) (encG k) (encS t) Q (m + 1) v (encS a4) (nI n) (nI (zsky k (t.1 12))) (nI e) (gI g) := by
    intro e he m
    induction m with
    | zero =>
      intro g v a4 eg hv hrow
      obtain rfl : g = r.1 7 + 1 := by omega
      unfold wp_X4_tryDay_d3_c69
      rw [encG_1, rl_eT (show nI (r.1 7) ≤ gI (r.1 7 + 1) from nI_le (Nat.le_refl _) (by omega))]
      refine hQ v a4 ?_ hrow
      have e2 : (x + 1) * (r.1 7 + 1) ^ (n - 3) = (x * (r.1 7 + 1) + (r.1 7 + 1)) * (r.1 7 + 1) ^ (n - (3 + 1)) := by
        rw [hpw, ← Nat.mul_assoc, Nat.succ_mul]
      rw [e2]
      exact hv
    | succ m ih =>
      intro g v a4 eg hv hrow
      have hg : g ≤ r.1 7 := by omega
      have nxt : ∀ u a4, cR u (r.1 7 + 1) n (zb (zC r k s n) ((x * (r.1 7 + 1) + g + 1) * (r.1 7 + 1) ^ (n - (3 + 1)))) → rowR u (r.1 7 + 1) 3 x → wp_X4_tryDay_d3_c186 (encG r) (encG k) (encS t) Q (wp_X4_tryDay_d3_c69 (encG r) (encG k) (encS t) Q (m + 1)) u (encS a4) (nI n) (nI (zsky k (t.1 12))) (nI e) (gI g) := by
        intro u a4 hu hru
        unfold wp_X4_tryDay_d3_c186
        simp only [forall_eq, gI_s]
        exact ih (g + 1) u a4 (by omega) hu hru
      have c110 : wp_X4_tryDay_d3_c110 (encG r) (encG k) (encS t) Q (wp_X4_tryDay_d3_c69 (encG r) (encG k) (encS t) Q (m + 1)) v (encS a4) (nI n) (nI (zsky k (t.1 12))) (nI e) (gI g) := by
        unfold wp_X4_tryDay_d3_c110
        refine q_copyFrom (by decide) (by decide) ?_
        simp only [forall_eq, encS_set9]
        have wc := WfS_eq hr (zcopy_eq (min 0 0) a4 t) wt
        have dc : (zcopy (min 0 0) a4 t).1 12 = t.1 12 := (zcopy_eq (min 0 0) a4 t).1.2.2.2.2.2.2.2.1
        have wg := wf_goal wc hg
        refine q_live hr wg (by rw [zu_n _ _ (by decide), dc]; omega) sk (by omega) ?_
        have rc := rd_ch (a := a4) (nl := min 0 0) hr ht hg
        have wd := wf_day (nl := 0) hr wg sk
        obtain ⟨t', et⟩ : ∃ t', t' = zday 0 r (zu (zcopy (min 0 0) a4 t) 9 g) (zsky k (t.1 12)) := ⟨_, rfl⟩
        rw [← et] at rc wd ⊢
        have d12 : t'.1 12 = s.1 12 + 3 + 1 := by rw [et, zday_12, zu_n _ _ (by decide), dc, e12]
        have h10 := wd.2.2.2.2.2.2.2.2.1
        have h11 := wd.2.2.2.2.2.2.2.2.2.1
        rw [d12] at h10 h11
        have ej : ∀ f : Nat → Int32, jput 4 f 3 (gI g) = upd f 3 (gI g) := fun f => jput_nI (j := 3) (by omega) (by decide)
        rw [w_put (by decide), ej]
        obtain ⟨v', ev⟩ : ∃ v', v' = setRA v 1 (upd (v.2.2.1 1) 3 (gI g)) := ⟨_, rfl⟩
        rw [← ev]
        have hv' : cR v' (r.1 7 + 1) n (zb (zC r k s n) ((x * (r.1 7 + 1) + g) * (r.1 7 + 1) ^ (n - (3 + 1)))) := by
          rw [ev]
          cases ez : zb (zC r k s n) ((x * (r.1 7 + 1) + g) * (r.1 7 + 1) ^ (n - (3 + 1))) with
          | none => rw [ez] at hv; exact hv
          | some p => rw [ez] at hv; exact hv
        have hrow' : rowR v' (r.1 7 + 1) (3 + 1) (x * (r.1 7 + 1) + g) := by
          rw [ev]
          exact row_up (by omega) hrow
        have hpre : rowR v' (r.1 7 + 1) 3 x := row_pf (by omega) hrow'
        refine q_better hv' (by omega) (by omega) (fun p ep => ?_) (fun hb => ?_) (fun hb => ?_)
        · have q := (zb_val _ _ p ep).2
          have q2 := zC_le hr hk hs (n := n) (by omega) p.2.2
          rw [← q] at q2
          exact q2
        · rw [rl_b11]
          rcases he with ⟨rfl, hne⟩ | ⟨rfl, hee⟩
          · rw [rl_eT (show nI 0 = 0 from rfl)]
            exact absurd hne (by omega)
          · rw [rl_eF (show ¬ nI 1 = 0 by decide)]
            refine q_take (b := r.1 7 + 1) (n := n) (x := x * (r.1 7 + 1) + g) hn (by rw [hee]; exact hrow') (fun u hu hu1 => ?_)
            refine nxt u t'  ?_ (row_dn (fun j _ => hu1 j) hpre rfl)
            have e0 : n - (3 + 1) = 0 := by omega
            rw [e0, Nat.pow_zero, Nat.mul_one]
            rw [e0, Nat.pow_zero, Nat.mul_one] at hb
            show cR u (r.1 7 + 1) n (zbu (zC r k s n (x * (r.1 7 + 1) + g)) (x * (r.1 7 + 1) + g) (zb (zC r k s n) (x * (r.1 7 + 1) + g)))
            have ec : zC r k s n (x * (r.1 7 + 1) + g) = (t'.1 10, t'.1 11) := by
              unfold zC
              rw [hee, rc.1.1, rc.1.2.1]
            rw [ec, zbu_y hb]
            exact hu
        · rw [rl_b10]
          refine nxt v' t'  ?_ hpre
          have hb' : ¬ btr ((zpre r k s (3 + 1) (x * (r.1 7 + 1) + g)).1 10, (zpre r k s (3 + 1) (x * (r.1 7 + 1) + g)).1 11) (zb (zC r k s n) ((x * (r.1 7 + 1) + g) * (r.1 7 + 1) ^ (n - (3 + 1)))) := by
            rw [← rc.1.1, ← rc.1.2.1]
            exact hb
          rw [blk_skip (by omega) hb']
          exact hv'
      unfold wp_X4_tryDay_d3_c69
      rw [encG_1, rl_eF (gI_L hg r7)]
      rcases he with ⟨rfl, hne⟩ | ⟨rfl, hee⟩
      · rw [rl_eT (show nI 0 = 0 from rfl)]
        exact c110
      · rw [rl_eF (show ¬ nI 1 = 0 by decide)]
        cases g with
        | zero =>
          rw [rl_eT (show gI 0 = -1 from rfl)]
          exact c110
        | succ l =>
          rw [rl_eF (show ¬ gI (l + 1) = -1 from rl_nm1 (by omega))]
          refine q_filling hr wt (by omega) sk (fun hf => ?_) (fun hf => ?_)
          · rw [rl_b11]
            exact c110
          · rw [rl_b10]
            refine nxt v a4 ?_ hrow
            subst hee
            have e0 : 3 + 1 - (3 + 1) = 0 := by omega
            rw [e0, Nat.pow_zero, Nat.mul_one]
            rw [e0, Nat.pow_zero, Nat.mul_one] at hv
            rw [nf_skip hr ht (by omega) hf]
            exact hv
  have start : ∀ (e : Nat), (e = 0 ∧ n ≠ 3 + 1 ∨ e = 1 ∧ n = 3 + 1) → wp_X4_tryDay_d3_c64 (encG r) (encG k) (encS t) Q v (encS a4) (nI n) (nI (zsky k (t.1 12))) (nI e) := by
    intro e he
    refine ⟨r.1 7 + 1 + 1, loop e he (r.1 7 + 1) 0 v a4 (by omega) ?_ hrow⟩
    show cR v (r.1 7 + 1) n (zb (zC r k s n) ((x * (r.1 7 + 1)) * (r.1 7 + 1) ^ (n - (3 + 1))))
    rw [Nat.mul_assoc, ← hpw]
    exact hv
  unfold wp_X4_tryDay_d3
  rw [rl_eF (show ¬ nI n ≤ 3 from nI_ge (a := 3) (by omega) (by omega)), encS_1 _ (by decide) (by decide)]
  refine q_skyOf hk (by omega) ?_
  by_cases c : n = 3 + 1
  · rw [rl_fT (show (4 : Int32) = nI n by rw [c]; rfl)]
    exact start 1 (Or.inr ⟨rfl, c⟩)
  · rw [rl_fF (show ¬ (4 : Int32) = nI n from fun q => c ((nI_eq (a := 4) (by omega) (by omega)).mp q).symm)]
    exact start 0 (Or.inl ⟨rfl, c⟩)
theorem q_try2 {r k s : Ns} {n : Nat} (hr : WfR r) (hk : WfK k) (hs : WfS r s 0 0) (hd : s.1 12 ≤ 12880) (hn : n ≤ 4) {Q : Vl → Vl → Vl → Prop} (hdn : 2 < n) (x : Nat) (t : Ns) (ht : Rp (zpre r k s 2 x) t) (wt : WfS r t 0 0)
    (hQ : ∀ v a3 a4, cR v (r.1 7 + 1) n (zb (zC r k s n) ((x + 1) * (r.1 7 + 1) ^ (n - 2))) → rowR v (r.1 7 + 1) 2 x → Q v (encS a3) (encS a4)) :
    ∀ v a3 a4, cR v (r.1 7 + 1) n (zb (zC r k s n) (x * (r.1 7 + 1) ^ (n - 2))) → rowR v (r.1 7 + 1) 2 x → wp_X4_tryDay_d2 v (encG r) (encG k) (encS t) (encS a3) (encS a4) (nI n) Q := by
  intro v a3 a4 hv hrow
  have r7 := hr.1
  have e12 : t.1 12 = s.1 12 + 2 := by rw [ht.2.2.2.2.2]; exact (wf_pre hr hk hs 2 x).2
  have hpw : (r.1 7 + 1) ^ (n - 2) = (r.1 7 + 1) * (r.1 7 + 1) ^ (n - (2 + 1)) := by
    have e : n - 2 = (n - (2 + 1)) + 1 := by omega
    rw [e, Nat.pow_succ, Nat.mul_comm]
  have sk := zsky_le hk (t.1 12)
  have loop : ∀ (e : Nat), (e = 0 ∧ n ≠ 2 + 1 ∨ e = 1 ∧ n = 2 + 1) → ∀ m g v a3 a4, g + m = r.1 7 + 1 → cR v (r.1 7 + 1) n (zb (zC r k s n) ((x * (r.1 7 + 1) + g) * (r.1 7 + 1) ^ (n - (2 + 1)))) → rowR v (r.1 7 + 1) 2 x → wp_X4_tryDay_d2_c69 (encG r) (encG k) (encS t) Q (m + 1) v (encS a3) (encS a4) (nI n) (nI (zsky k (t.1 12))) (nI e) (gI g) := by
    intro e he m
    induction m with
    | zero =>
      intro g v a3 a4 eg hv hrow
      obtain rfl : g = r.1 7 + 1 := by omega
      unfold wp_X4_tryDay_d2_c69
      rw [encG_1, rl_eT (show nI (r.1 7) ≤ gI (r.1 7 + 1) from nI_le (Nat.le_refl _) (by omega))]
      refine hQ v a3 a4 ?_ hrow
      have e2 : (x + 1) * (r.1 7 + 1) ^ (n - 2) = (x * (r.1 7 + 1) + (r.1 7 + 1)) * (r.1 7 + 1) ^ (n - (2 + 1)) := by
        rw [hpw, ← Nat.mul_assoc, Nat.succ_mul]
      rw [e2]
      exact hv
    | succ m ih =>
      intro g v a3 a4 eg hv hrow
      have hg : g ≤ r.1 7 := by omega
      have nxt : ∀ u a3 a4, cR u (r.1 7 + 1) n (zb (zC r k s n) ((x * (r.1 7 + 1) + g + 1) * (r.1 7 + 1) ^ (n - (2 + 1)))) → rowR u (r.1 7 + 1) 2 x → wp_X4_tryDay_d2_c186 (encG r) (encG k) (encS t) Q (wp_X4_tryDay_d2_c69 (encG r) (encG k) (encS t) Q (m + 1)) u (encS a3) (encS a4) (nI n) (nI (zsky k (t.1 12))) (nI e) (gI g) := by
        intro u a3 a4 hu hru
        unfold wp_X4_tryDay_d2_c186
        simp only [forall_eq, gI_s]
        exact ih (g + 1) u a3 a4 (by omega) hu hru
      have c110 : wp_X4_tryDay_d2_c110 (encG r) (encG k) (encS t) Q (wp_X4_tryDay_d2_c69 (encG r) (encG k) (encS t) Q (m + 1)) v (encS a3) (encS a4) (nI n) (nI (zsky k (t.1 12))) (nI e) (gI g) := by
        unfold wp_X4_tryDay_d2_c110
        refine q_copyFrom (by decide) (by decide) ?_
        simp only [forall_eq, encS_set9]
        have wc := WfS_eq hr (zcopy_eq (min 0 0) a3 t) wt
        have dc : (zcopy (min 0 0) a3 t).1 12 = t.1 12 := (zcopy_eq (min 0 0) a3 t).1.2.2.2.2.2.2.2.1
        have wg := wf_goal wc hg
        refine q_live hr wg (by rw [zu_n _ _ (by decide), dc]; omega) sk (by omega) ?_
        have rc := rd_ch (a := a3) (nl := min 0 0) hr ht hg
        have wd := wf_day (nl := 0) hr wg sk
        obtain ⟨t', et⟩ : ∃ t', t' = zday 0 r (zu (zcopy (min 0 0) a3 t) 9 g) (zsky k (t.1 12)) := ⟨_, rfl⟩
        rw [← et] at rc wd ⊢
        have d12 : t'.1 12 = s.1 12 + 2 + 1 := by rw [et, zday_12, zu_n _ _ (by decide), dc, e12]
        have h10 := wd.2.2.2.2.2.2.2.2.1
        have h11 := wd.2.2.2.2.2.2.2.2.2.1
        rw [d12] at h10 h11
        have ej : ∀ f : Nat → Int32, jput 4 f 2 (gI g) = upd f 2 (gI g) := fun f => jput_nI (j := 2) (by omega) (by decide)
        rw [w_put (by decide), ej]
        obtain ⟨v', ev⟩ : ∃ v', v' = setRA v 1 (upd (v.2.2.1 1) 2 (gI g)) := ⟨_, rfl⟩
        rw [← ev]
        have hv' : cR v' (r.1 7 + 1) n (zb (zC r k s n) ((x * (r.1 7 + 1) + g) * (r.1 7 + 1) ^ (n - (2 + 1)))) := by
          rw [ev]
          cases ez : zb (zC r k s n) ((x * (r.1 7 + 1) + g) * (r.1 7 + 1) ^ (n - (2 + 1))) with
          | none => rw [ez] at hv; exact hv
          | some p => rw [ez] at hv; exact hv
        have hrow' : rowR v' (r.1 7 + 1) (2 + 1) (x * (r.1 7 + 1) + g) := by
          rw [ev]
          exact row_up (by omega) hrow
        have hpre : rowR v' (r.1 7 + 1) 2 x := row_pf (by omega) hrow'
        refine q_better hv' (by omega) (by omega) (fun p ep => ?_) (fun hb => ?_) (fun hb => ?_)
        · have q := (zb_val _ _ p ep).2
          have q2 := zC_le hr hk hs (n := n) (by omega) p.2.2
          rw [← q] at q2
          exact q2
        · rw [rl_b11]
          rcases he with ⟨rfl, hne⟩ | ⟨rfl, hee⟩
          · rw [rl_eT (show nI 0 = 0 from rfl)]
            refine q_try3 hr hk hs hd hn (by omega) (x * (r.1 7 + 1) + g) t' rc wd (fun u a4 hu hru => ?_) v' a4 hv' hrow'
            exact nxt u t' a4 hu (row_pf (by omega) hru)
          · rw [rl_eF (show ¬ nI 1 = 0 by decide)]
            refine q_take (b := r.1 7 + 1) (n := n) (x := x * (r.1 7 + 1) + g) hn (by rw [hee]; exact hrow') (fun u hu hu1 => ?_)
            refine nxt u t' a4 ?_ (row_dn (fun j _ => hu1 j) hpre rfl)
            have e0 : n - (2 + 1) = 0 := by omega
            rw [e0, Nat.pow_zero, Nat.mul_one]
            rw [e0, Nat.pow_zero, Nat.mul_one] at hb
            show cR u (r.1 7 + 1) n (zbu (zC r k s n (x * (r.1 7 + 1) + g)) (x * (r.1 7 + 1) + g) (zb (zC r k s n) (x * (r.1 7 + 1) + g)))
            have ec : zC r k s n (x * (r.1 7 + 1) + g) = (t'.1 10, t'.1 11) := by
              unfold zC
              rw [hee, rc.1.1, rc.1.2.1]
            rw [ec, zbu_y hb]
            exact hu
        · rw [rl_b10]
          refine nxt v' t' a4 ?_ hpre
          have hb' : ¬ btr ((zpre r k s (2 + 1) (x * (r.1 7 + 1) + g)).1 10, (zpre r k s (2 + 1) (x * (r.1 7 + 1) + g)).1 11) (zb (zC r k s n) ((x * (r.1 7 + 1) + g) * (r.1 7 + 1) ^ (n - (2 + 1)))) := by
            rw [← rc.1.1, ← rc.1.2.1]
            exact hb
          rw [blk_skip (by omega) hb']
          exact hv'
      unfold wp_X4_tryDay_d2_c69
      rw [encG_1, rl_eF (gI_L hg r7)]
      rcases he with ⟨rfl, hne⟩ | ⟨rfl, hee⟩
      · rw [rl_eT (show nI 0 = 0 from rfl)]
        exact c110
      · rw [rl_eF (show ¬ nI 1 = 0 by decide)]
        cases g with
        | zero =>
          rw [rl_eT (show gI 0 = -1 from rfl)]
          exact c110
        | succ l =>
          rw [rl_eF (show ¬ gI (l + 1) = -1 from rl_nm1 (by omega))]
          refine q_filling hr wt (by omega) sk (fun hf => ?_) (fun hf => ?_)
          · rw [rl_b11]
            exact c110
          · rw [rl_b10]
            refine nxt v a3 a4 ?_ hrow
            subst hee
            have e0 : 2 + 1 - (2 + 1) = 0 := by omega
            rw [e0, Nat.pow_zero, Nat.mul_one]
            rw [e0, Nat.pow_zero, Nat.mul_one] at hv
            rw [nf_skip hr ht (by omega) hf]
            exact hv
  have start : ∀ (e : Nat), (e = 0 ∧ n ≠ 2 + 1 ∨ e = 1 ∧ n = 2 + 1) → wp_X4_tryDay_d2_c64 (encG r) (encG k) (encS t) Q v (encS a3) (encS a4) (nI n) (nI (zsky k (t.1 12))) (nI e) := by
    intro e he
    refine ⟨r.1 7 + 1 + 1, loop e he (r.1 7 + 1) 0 v a3 a4 (by omega) ?_ hrow⟩
    show cR v (r.1 7 + 1) n (zb (zC r k s n) ((x * (r.1 7 + 1)) * (r.1 7 + 1) ^ (n - (2 + 1))))
    rw [Nat.mul_assoc, ← hpw]
    exact hv
  unfold wp_X4_tryDay_d2
  rw [rl_eF (show ¬ nI n ≤ 2 from nI_ge (a := 2) (by omega) (by omega)), encS_1 _ (by decide) (by decide)]
  refine q_skyOf hk (by omega) ?_
  by_cases c : n = 2 + 1
  · rw [rl_fT (show (3 : Int32) = nI n by rw [c]; rfl)]
    exact start 1 (Or.inr ⟨rfl, c⟩)
  · rw [rl_fF (show ¬ (3 : Int32) = nI n from fun q => c ((nI_eq (a := 3) (by omega) (by omega)).mp q).symm)]
    exact start 0 (Or.inl ⟨rfl, c⟩)
theorem q_try1 {r k s : Ns} {n : Nat} (hr : WfR r) (hk : WfK k) (hs : WfS r s 0 0) (hd : s.1 12 ≤ 12880) (hn : n ≤ 4) {Q : Vl → Vl → Vl → Vl → Prop} (hdn : 1 < n) (x : Nat) (t : Ns) (ht : Rp (zpre r k s 1 x) t) (wt : WfS r t 0 0)
    (hQ : ∀ v a2 a3 a4, cR v (r.1 7 + 1) n (zb (zC r k s n) ((x + 1) * (r.1 7 + 1) ^ (n - 1))) → rowR v (r.1 7 + 1) 1 x → Q v (encS a2) (encS a3) (encS a4)) :
    ∀ v a2 a3 a4, cR v (r.1 7 + 1) n (zb (zC r k s n) (x * (r.1 7 + 1) ^ (n - 1))) → rowR v (r.1 7 + 1) 1 x → wp_X4_tryDay_d1 v (encG r) (encG k) (encS t) (encS a2) (encS a3) (encS a4) (nI n) Q := by
  intro v a2 a3 a4 hv hrow
  have r7 := hr.1
  have e12 : t.1 12 = s.1 12 + 1 := by rw [ht.2.2.2.2.2]; exact (wf_pre hr hk hs 1 x).2
  have hpw : (r.1 7 + 1) ^ (n - 1) = (r.1 7 + 1) * (r.1 7 + 1) ^ (n - (1 + 1)) := by
    have e : n - 1 = (n - (1 + 1)) + 1 := by omega
    rw [e, Nat.pow_succ, Nat.mul_comm]
  have sk := zsky_le hk (t.1 12)
  have loop : ∀ (e : Nat), (e = 0 ∧ n ≠ 1 + 1 ∨ e = 1 ∧ n = 1 + 1) → ∀ m g v a2 a3 a4, g + m = r.1 7 + 1 → cR v (r.1 7 + 1) n (zb (zC r k s n) ((x * (r.1 7 + 1) + g) * (r.1 7 + 1) ^ (n - (1 + 1)))) → rowR v (r.1 7 + 1) 1 x → wp_X4_tryDay_d1_c69 (encG r) (encG k) (encS t) Q (m + 1) v (encS a2) (encS a3) (encS a4) (nI n) (nI (zsky k (t.1 12))) (nI e) (gI g) := by
    intro e he m
    induction m with
    | zero =>
      intro g v a2 a3 a4 eg hv hrow
      obtain rfl : g = r.1 7 + 1 := by omega
      unfold wp_X4_tryDay_d1_c69
      rw [encG_1, rl_eT (show nI (r.1 7) ≤ gI (r.1 7 + 1) from nI_le (Nat.le_refl _) (by omega))]
      refine hQ v a2 a3 a4 ?_ hrow
      have e2 : (x + 1) * (r.1 7 + 1) ^ (n - 1) = (x * (r.1 7 + 1) + (r.1 7 + 1)) * (r.1 7 + 1) ^ (n - (1 + 1)) := by
        rw [hpw, ← Nat.mul_assoc, Nat.succ_mul]
      rw [e2]
      exact hv
    | succ m ih =>
      intro g v a2 a3 a4 eg hv hrow
      have hg : g ≤ r.1 7 := by omega
      have nxt : ∀ u a2 a3 a4, cR u (r.1 7 + 1) n (zb (zC r k s n) ((x * (r.1 7 + 1) + g + 1) * (r.1 7 + 1) ^ (n - (1 + 1)))) → rowR u (r.1 7 + 1) 1 x → wp_X4_tryDay_d1_c186 (encG r) (encG k) (encS t) Q (wp_X4_tryDay_d1_c69 (encG r) (encG k) (encS t) Q (m + 1)) u (encS a2) (encS a3) (encS a4) (nI n) (nI (zsky k (t.1 12))) (nI e) (gI g) := by
        intro u a2 a3 a4 hu hru
        unfold wp_X4_tryDay_d1_c186
        simp only [forall_eq, gI_s]
        exact ih (g + 1) u a2 a3 a4 (by omega) hu hru
      have c110 : wp_X4_tryDay_d1_c110 (encG r) (encG k) (encS t) Q (wp_X4_tryDay_d1_c69 (encG r) (encG k) (encS t) Q (m + 1)) v (encS a2) (encS a3) (encS a4) (nI n) (nI (zsky k (t.1 12))) (nI e) (gI g) := by
        unfold wp_X4_tryDay_d1_c110
        refine q_copyFrom (by decide) (by decide) ?_
        simp only [forall_eq, encS_set9]
        have wc := WfS_eq hr (zcopy_eq (min 0 0) a2 t) wt
        have dc : (zcopy (min 0 0) a2 t).1 12 = t.1 12 := (zcopy_eq (min 0 0) a2 t).1.2.2.2.2.2.2.2.1
        have wg := wf_goal wc hg
        refine q_live hr wg (by rw [zu_n _ _ (by decide), dc]; omega) sk (by omega) ?_
        have rc := rd_ch (a := a2) (nl := min 0 0) hr ht hg
        have wd := wf_day (nl := 0) hr wg sk
        obtain ⟨t', et⟩ : ∃ t', t' = zday 0 r (zu (zcopy (min 0 0) a2 t) 9 g) (zsky k (t.1 12)) := ⟨_, rfl⟩
        rw [← et] at rc wd ⊢
        have d12 : t'.1 12 = s.1 12 + 1 + 1 := by rw [et, zday_12, zu_n _ _ (by decide), dc, e12]
        have h10 := wd.2.2.2.2.2.2.2.2.1
        have h11 := wd.2.2.2.2.2.2.2.2.2.1
        rw [d12] at h10 h11
        have ej : ∀ f : Nat → Int32, jput 4 f 1 (gI g) = upd f 1 (gI g) := fun f => jput_nI (j := 1) (by omega) (by decide)
        rw [w_put (by decide), ej]
        obtain ⟨v', ev⟩ : ∃ v', v' = setRA v 1 (upd (v.2.2.1 1) 1 (gI g)) := ⟨_, rfl⟩
        rw [← ev]
        have hv' : cR v' (r.1 7 + 1) n (zb (zC r k s n) ((x * (r.1 7 + 1) + g) * (r.1 7 + 1) ^ (n - (1 + 1)))) := by
          rw [ev]
          cases ez : zb (zC r k s n) ((x * (r.1 7 + 1) + g) * (r.1 7 + 1) ^ (n - (1 + 1))) with
          | none => rw [ez] at hv; exact hv
          | some p => rw [ez] at hv; exact hv
        have hrow' : rowR v' (r.1 7 + 1) (1 + 1) (x * (r.1 7 + 1) + g) := by
          rw [ev]
          exact row_up (by omega) hrow
        have hpre : rowR v' (r.1 7 + 1) 1 x := row_pf (by omega) hrow'
        refine q_better hv' (by omega) (by omega) (fun p ep => ?_) (fun hb => ?_) (fun hb => ?_)
        · have q := (zb_val _ _ p ep).2
          have q2 := zC_le hr hk hs (n := n) (by omega) p.2.2
          rw [← q] at q2
          exact q2
        · rw [rl_b11]
          rcases he with ⟨rfl, hne⟩ | ⟨rfl, hee⟩
          · rw [rl_eT (show nI 0 = 0 from rfl)]
            refine q_try2 hr hk hs hd hn (by omega) (x * (r.1 7 + 1) + g) t' rc wd (fun u a3 a4 hu hru => ?_) v' a3 a4 hv' hrow'
            exact nxt u t' a3 a4 hu (row_pf (by omega) hru)
          · rw [rl_eF (show ¬ nI 1 = 0 by decide)]
            refine q_take (b := r.1 7 + 1) (n := n) (x := x * (r.1 7 + 1) + g) hn (by rw [hee]; exact hrow') (fun u hu hu1 => ?_)
            refine nxt u t' a3 a4 ?_ (row_dn (fun j _ => hu1 j) hpre rfl)
            have e0 : n - (1 + 1) = 0 := by omega
            rw [e0, Nat.pow_zero, Nat.mul_one]
            rw [e0, Nat.pow_zero, Nat.mul_one] at hb
            show cR u (r.1 7 + 1) n (zbu (zC r k s n (x * (r.1 7 + 1) + g)) (x * (r.1 7 + 1) + g) (zb (zC r k s n) (x * (r.1 7 + 1) + g)))
            have ec : zC r k s n (x * (r.1 7 + 1) + g) = (t'.1 10, t'.1 11) := by
              unfold zC
              rw [hee, rc.1.1, rc.1.2.1]
            rw [ec, zbu_y hb]
            exact hu
        · rw [rl_b10]
          refine nxt v' t' a3 a4 ?_ hpre
          have hb' : ¬ btr ((zpre r k s (1 + 1) (x * (r.1 7 + 1) + g)).1 10, (zpre r k s (1 + 1) (x * (r.1 7 + 1) + g)).1 11) (zb (zC r k s n) ((x * (r.1 7 + 1) + g) * (r.1 7 + 1) ^ (n - (1 + 1)))) := by
            rw [← rc.1.1, ← rc.1.2.1]
            exact hb
          rw [blk_skip (by omega) hb']
          exact hv'
      unfold wp_X4_tryDay_d1_c69
      rw [encG_1, rl_eF (gI_L hg r7)]
      rcases he with ⟨rfl, hne⟩ | ⟨rfl, hee⟩
      · rw [rl_eT (show nI 0 = 0 from rfl)]
        exact c110
      · rw [rl_eF (show ¬ nI 1 = 0 by decide)]
        cases g with
        | zero =>
          rw [rl_eT (show gI 0 = -1 from rfl)]
          exact c110
        | succ l =>
          rw [rl_eF (show ¬ gI (l + 1) = -1 from rl_nm1 (by omega))]
          refine q_filling hr wt (by omega) sk (fun hf => ?_) (fun hf => ?_)
          · rw [rl_b11]
            exact c110
          · rw [rl_b10]
            refine nxt v a2 a3 a4 ?_ hrow
            subst hee
            have e0 : 1 + 1 - (1 + 1) = 0 := by omega
            rw [e0, Nat.pow_zero, Nat.mul_one]
            rw [e0, Nat.pow_zero, Nat.mul_one] at hv
            rw [nf_skip hr ht (by omega) hf]
            exact hv
  have start : ∀ (e : Nat), (e = 0 ∧ n ≠ 1 + 1 ∨ e = 1 ∧ n = 1 + 1) → wp_X4_tryDay_d1_c64 (encG r) (encG k) (encS t) Q v (encS a2) (encS a3) (encS a4) (nI n) (nI (zsky k (t.1 12))) (nI e) := by
    intro e he
    refine ⟨r.1 7 + 1 + 1, loop e he (r.1 7 + 1) 0 v a2 a3 a4 (by omega) ?_ hrow⟩
    show cR v (r.1 7 + 1) n (zb (zC r k s n) ((x * (r.1 7 + 1)) * (r.1 7 + 1) ^ (n - (1 + 1))))
    rw [Nat.mul_assoc, ← hpw]
    exact hv
  unfold wp_X4_tryDay_d1
  rw [rl_eF (show ¬ nI n ≤ 1 from nI_ge (a := 1) (by omega) (by omega)), encS_1 _ (by decide) (by decide)]
  refine q_skyOf hk (by omega) ?_
  by_cases c : n = 1 + 1
  · rw [rl_fT (show (2 : Int32) = nI n by rw [c]; rfl)]
    exact start 1 (Or.inr ⟨rfl, c⟩)
  · rw [rl_fF (show ¬ (2 : Int32) = nI n from fun q => c ((nI_eq (a := 2) (by omega) (by omega)).mp q).symm)]
    exact start 0 (Or.inl ⟨rfl, c⟩)
theorem q_try0 {r k s : Ns} {n : Nat} (hr : WfR r) (hk : WfK k) (hs : WfS r s 0 0) (hd : s.1 12 ≤ 12880) (hn : n ≤ 4) {Q : Vl → Vl → Vl → Vl → Vl → Prop} (hdn : 0 < n) (x : Nat) (t : Ns) (ht : Rp (zpre r k s 0 x) t) (wt : WfS r t 0 0)
    (hQ : ∀ v a1 a2 a3 a4, cR v (r.1 7 + 1) n (zb (zC r k s n) ((x + 1) * (r.1 7 + 1) ^ (n - 0))) → rowR v (r.1 7 + 1) 0 x → Q v (encS a1) (encS a2) (encS a3) (encS a4)) :
    ∀ v a1 a2 a3 a4, cR v (r.1 7 + 1) n (zb (zC r k s n) (x * (r.1 7 + 1) ^ (n - 0))) → rowR v (r.1 7 + 1) 0 x → wp_X4_tryDay_d0 v (encG r) (encG k) (encS t) (encS a1) (encS a2) (encS a3) (encS a4) (nI n) Q := by
  intro v a1 a2 a3 a4 hv hrow
  have r7 := hr.1
  have e12 : t.1 12 = s.1 12 + 0 := by rw [ht.2.2.2.2.2]; exact (wf_pre hr hk hs 0 x).2
  have hpw : (r.1 7 + 1) ^ (n - 0) = (r.1 7 + 1) * (r.1 7 + 1) ^ (n - (0 + 1)) := by
    have e : n - 0 = (n - (0 + 1)) + 1 := by omega
    rw [e, Nat.pow_succ, Nat.mul_comm]
  have sk := zsky_le hk (t.1 12)
  have loop : ∀ (e : Nat), (e = 0 ∧ n ≠ 0 + 1 ∨ e = 1 ∧ n = 0 + 1) → ∀ m g v a1 a2 a3 a4, g + m = r.1 7 + 1 → cR v (r.1 7 + 1) n (zb (zC r k s n) ((x * (r.1 7 + 1) + g) * (r.1 7 + 1) ^ (n - (0 + 1)))) → rowR v (r.1 7 + 1) 0 x → wp_X4_tryDay_d0_c69 (encG r) (encG k) (encS t) Q (m + 1) v (encS a1) (encS a2) (encS a3) (encS a4) (nI n) (nI (zsky k (t.1 12))) (nI e) (gI g) := by
    intro e he m
    induction m with
    | zero =>
      intro g v a1 a2 a3 a4 eg hv hrow
      obtain rfl : g = r.1 7 + 1 := by omega
      unfold wp_X4_tryDay_d0_c69
      rw [encG_1, rl_eT (show nI (r.1 7) ≤ gI (r.1 7 + 1) from nI_le (Nat.le_refl _) (by omega))]
      refine hQ v a1 a2 a3 a4 ?_ hrow
      have e2 : (x + 1) * (r.1 7 + 1) ^ (n - 0) = (x * (r.1 7 + 1) + (r.1 7 + 1)) * (r.1 7 + 1) ^ (n - (0 + 1)) := by
        rw [hpw, ← Nat.mul_assoc, Nat.succ_mul]
      rw [e2]
      exact hv
    | succ m ih =>
      intro g v a1 a2 a3 a4 eg hv hrow
      have hg : g ≤ r.1 7 := by omega
      have nxt : ∀ u a1 a2 a3 a4, cR u (r.1 7 + 1) n (zb (zC r k s n) ((x * (r.1 7 + 1) + g + 1) * (r.1 7 + 1) ^ (n - (0 + 1)))) → rowR u (r.1 7 + 1) 0 x → wp_X4_tryDay_d0_c186 (encG r) (encG k) (encS t) Q (wp_X4_tryDay_d0_c69 (encG r) (encG k) (encS t) Q (m + 1)) u (encS a1) (encS a2) (encS a3) (encS a4) (nI n) (nI (zsky k (t.1 12))) (nI e) (gI g) := by
        intro u a1 a2 a3 a4 hu hru
        unfold wp_X4_tryDay_d0_c186
        simp only [forall_eq, gI_s]
        exact ih (g + 1) u a1 a2 a3 a4 (by omega) hu hru
      have c110 : wp_X4_tryDay_d0_c110 (encG r) (encG k) (encS t) Q (wp_X4_tryDay_d0_c69 (encG r) (encG k) (encS t) Q (m + 1)) v (encS a1) (encS a2) (encS a3) (encS a4) (nI n) (nI (zsky k (t.1 12))) (nI e) (gI g) := by
        unfold wp_X4_tryDay_d0_c110
        refine q_copyFrom (by decide) (by decide) ?_
        simp only [forall_eq, encS_set9]
        have wc := WfS_eq hr (zcopy_eq (min 0 0) a1 t) wt
        have dc : (zcopy (min 0 0) a1 t).1 12 = t.1 12 := (zcopy_eq (min 0 0) a1 t).1.2.2.2.2.2.2.2.1
        have wg := wf_goal wc hg
        refine q_live hr wg (by rw [zu_n _ _ (by decide), dc]; omega) sk (by omega) ?_
        have rc := rd_ch (a := a1) (nl := min 0 0) hr ht hg
        have wd := wf_day (nl := 0) hr wg sk
        obtain ⟨t', et⟩ : ∃ t', t' = zday 0 r (zu (zcopy (min 0 0) a1 t) 9 g) (zsky k (t.1 12)) := ⟨_, rfl⟩
        rw [← et] at rc wd ⊢
        have d12 : t'.1 12 = s.1 12 + 0 + 1 := by rw [et, zday_12, zu_n _ _ (by decide), dc, e12]
        have h10 := wd.2.2.2.2.2.2.2.2.1
        have h11 := wd.2.2.2.2.2.2.2.2.2.1
        rw [d12] at h10 h11
        have ej : ∀ f : Nat → Int32, jput 4 f 0 (gI g) = upd f 0 (gI g) := fun f => jput_nI (j := 0) (by omega) (by decide)
        rw [w_put (by decide), ej]
        obtain ⟨v', ev⟩ : ∃ v', v' = setRA v 1 (upd (v.2.2.1 1) 0 (gI g)) := ⟨_, rfl⟩
        rw [← ev]
        have hv' : cR v' (r.1 7 + 1) n (zb (zC r k s n) ((x * (r.1 7 + 1) + g) * (r.1 7 + 1) ^ (n - (0 + 1)))) := by
          rw [ev]
          cases ez : zb (zC r k s n) ((x * (r.1 7 + 1) + g) * (r.1 7 + 1) ^ (n - (0 + 1))) with
          | none => rw [ez] at hv; exact hv
          | some p => rw [ez] at hv; exact hv
        have hrow' : rowR v' (r.1 7 + 1) (0 + 1) (x * (r.1 7 + 1) + g) := by
          rw [ev]
          exact row_up (by omega) hrow
        have hpre : rowR v' (r.1 7 + 1) 0 x := row_pf (by omega) hrow'
        refine q_better hv' (by omega) (by omega) (fun p ep => ?_) (fun hb => ?_) (fun hb => ?_)
        · have q := (zb_val _ _ p ep).2
          have q2 := zC_le hr hk hs (n := n) (by omega) p.2.2
          rw [← q] at q2
          exact q2
        · rw [rl_b11]
          rcases he with ⟨rfl, hne⟩ | ⟨rfl, hee⟩
          · rw [rl_eT (show nI 0 = 0 from rfl)]
            refine q_try1 hr hk hs hd hn (by omega) (x * (r.1 7 + 1) + g) t' rc wd (fun u a2 a3 a4 hu hru => ?_) v' a2 a3 a4 hv' hrow'
            exact nxt u t' a2 a3 a4 hu (row_pf (by omega) hru)
          · rw [rl_eF (show ¬ nI 1 = 0 by decide)]
            refine q_take (b := r.1 7 + 1) (n := n) (x := x * (r.1 7 + 1) + g) hn (by rw [hee]; exact hrow') (fun u hu hu1 => ?_)
            refine nxt u t' a2 a3 a4 ?_ (row_dn (fun j _ => hu1 j) hpre rfl)
            have e0 : n - (0 + 1) = 0 := by omega
            rw [e0, Nat.pow_zero, Nat.mul_one]
            rw [e0, Nat.pow_zero, Nat.mul_one] at hb
            show cR u (r.1 7 + 1) n (zbu (zC r k s n (x * (r.1 7 + 1) + g)) (x * (r.1 7 + 1) + g) (zb (zC r k s n) (x * (r.1 7 + 1) + g)))
            have ec : zC r k s n (x * (r.1 7 + 1) + g) = (t'.1 10, t'.1 11) := by
              unfold zC
              rw [hee, rc.1.1, rc.1.2.1]
            rw [ec, zbu_y hb]
            exact hu
        · rw [rl_b10]
          refine nxt v' t' a2 a3 a4 ?_ hpre
          have hb' : ¬ btr ((zpre r k s (0 + 1) (x * (r.1 7 + 1) + g)).1 10, (zpre r k s (0 + 1) (x * (r.1 7 + 1) + g)).1 11) (zb (zC r k s n) ((x * (r.1 7 + 1) + g) * (r.1 7 + 1) ^ (n - (0 + 1)))) := by
            rw [← rc.1.1, ← rc.1.2.1]
            exact hb
          rw [blk_skip (by omega) hb']
          exact hv'
      unfold wp_X4_tryDay_d0_c69
      rw [encG_1, rl_eF (gI_L hg r7)]
      rcases he with ⟨rfl, hne⟩ | ⟨rfl, hee⟩
      · rw [rl_eT (show nI 0 = 0 from rfl)]
        exact c110
      · rw [rl_eF (show ¬ nI 1 = 0 by decide)]
        cases g with
        | zero =>
          rw [rl_eT (show gI 0 = -1 from rfl)]
          exact c110
        | succ l =>
          rw [rl_eF (show ¬ gI (l + 1) = -1 from rl_nm1 (by omega))]
          refine q_filling hr wt (by omega) sk (fun hf => ?_) (fun hf => ?_)
          · rw [rl_b11]
            exact c110
          · rw [rl_b10]
            refine nxt v a1 a2 a3 a4 ?_ hrow
            subst hee
            have e0 : 0 + 1 - (0 + 1) = 0 := by omega
            rw [e0, Nat.pow_zero, Nat.mul_one]
            rw [e0, Nat.pow_zero, Nat.mul_one] at hv
            rw [nf_skip hr ht (by omega) hf]
            exact hv
  have start : ∀ (e : Nat), (e = 0 ∧ n ≠ 0 + 1 ∨ e = 1 ∧ n = 0 + 1) → wp_X4_tryDay_d0_c64 (encG r) (encG k) (encS t) Q v (encS a1) (encS a2) (encS a3) (encS a4) (nI n) (nI (zsky k (t.1 12))) (nI e) := by
    intro e he
    refine ⟨r.1 7 + 1 + 1, loop e he (r.1 7 + 1) 0 v a1 a2 a3 a4 (by omega) ?_ hrow⟩
    show cR v (r.1 7 + 1) n (zb (zC r k s n) ((x * (r.1 7 + 1)) * (r.1 7 + 1) ^ (n - (0 + 1))))
    rw [Nat.mul_assoc, ← hpw]
    exact hv
  unfold wp_X4_tryDay_d0
  rw [rl_eF (show ¬ nI n ≤ 0 from nI_ge (a := 0) (by omega) (by omega)), encS_1 _ (by decide) (by decide)]
  refine q_skyOf hk (by omega) ?_
  by_cases c : n = 0 + 1
  · rw [rl_fT (show (1 : Int32) = nI n by rw [c]; rfl)]
    exact start 1 (Or.inr ⟨rfl, c⟩)
  · rw [rl_fF (show ¬ (1 : Int32) = nI n from fun q => c ((nI_eq (a := 1) (by omega) (by omega)).mp q).symm)]
    exact start 0 (Or.inl ⟨rfl, c⟩)
