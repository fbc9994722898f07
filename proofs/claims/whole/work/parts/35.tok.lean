/-! ===== TEXTS: what is read of them ===== -/
def isL (c : Nat) : Bool := decide (97 ≤ c ∧ c ≤ 122)
def isF (c : Nat) : Bool := decide (48 ≤ c ∧ c ≤ 57)
def isB (c : Nat) : Bool := decide (c = 32)
/-- the end of a run from p on -/
def zrun (P : Nat → Bool) (b : Nat → Nat) (n : Nat) : Nat → Nat → Nat
  | 0, p => p
  | m + 1, p => if p < n ∧ P (b p) = true then zrun P b n m (p + 1) else p
def zE (P : Nat → Bool) (b : Nat → Nat) (n p : Nat) : Nat := zrun P b n (n - p) p
theorem zE_y {P : Nat → Bool} {b : Nat → Nat} {n p : Nat} (h : p < n ∧ P (b p) = true) : zE P b n p = zE P b n (p + 1) := by
  unfold zE
  obtain ⟨m, e⟩ : ∃ m, n - p = m + 1 := ⟨n - p - 1, by omega⟩
  rw [e]
  have e2 : n - (p + 1) = m := by omega
  rw [e2]
  exact if_pos h
theorem zE_n {P : Nat → Bool} {b : Nat → Nat} {n p : Nat} (h : ¬ (p < n ∧ P (b p) = true)) : zE P b n p = p := by
  unfold zE
  cases e : n - p with
  | zero => rfl
  | succ m => exact if_neg h
theorem zrun_ge (P : Nat → Bool) (b : Nat → Nat) (n : Nat) : ∀ m p, p ≤ zrun P b n m p
  | 0, p => Nat.le_refl _
  | m + 1, p => by
    unfold zrun
    split
    · exact Nat.le_trans (Nat.le_succ p) (zrun_ge P b n m (p + 1))
    · exact Nat.le_refl _
theorem zE_ge (P : Nat → Bool) (b : Nat → Nat) (n p : Nat) : p ≤ zE P b n p := zrun_ge P b n _ p
theorem zrun_le (P : Nat → Bool) (b : Nat → Nat) (n : Nat) : ∀ m p, p ≤ n → zrun P b n m p ≤ n
  | 0, p, h => h
  | m + 1, p, h => by
    unfold zrun
    split
    · rename_i c
      exact zrun_le P b n m (p + 1) c.1
    · exact h
theorem zE_le {P : Nat → Bool} {b : Nat → Nat} {n p : Nat} (h : p ≤ n) : zE P b n p ≤ n := zrun_le P b n _ p h
theorem zrun_stop (P : Nat → Bool) (b : Nat → Nat) (n : Nat) : ∀ m p, n ≤ p + m → ¬ (zrun P b n m p < n ∧ P (b (zrun P b n m p)) = true)
  | 0, p, h => by
    intro q
    have := q.1
    unfold zrun at this
    omega
  | m + 1, p, h => by
    unfold zrun
    split
    · exact zrun_stop P b n m (p + 1) (by omega)
    · assumption
theorem zE_stop (P : Nat → Bool) (b : Nat → Nat) (n p : Nat) : ¬ (zE P b n p < n ∧ P (b (zE P b n p)) = true) := zrun_stop P b n _ p (by omega)
theorem zrun_in (P : Nat → Bool) (b : Nat → Nat) (n : Nat) : ∀ m p i, p ≤ i → i < zrun P b n m p → i < n ∧ P (b i) = true
  | 0, p, i, h1, h2 => by
    unfold zrun at h2
    omega
  | m + 1, p, i, h1, h2 => by
    unfold zrun at h2
    by_cases c : p < n ∧ P (b p) = true
    · rw [if_pos c] at h2
      by_cases e : i = p
      · rw [e]; exact c
      · exact zrun_in P b n m (p + 1) i (by omega) h2
    · rw [if_neg c] at h2
      omega
theorem zE_in {P : Nat → Bool} {b : Nat → Nat} {n p i : Nat} (h1 : p ≤ i) (h2 : i < zE P b n p) : i < n ∧ P (b i) = true := zrun_in P b n _ p i h1 h2
/-! the class's text at p -/
def TC (b : Nat → Nat) (n p : Nat) (v : Vl) : Prop := v.1 1 = nI n ∧ v.1 2 = nI p ∧ ∀ i, i < n → v.2.2.1 0 i = nI (b i)
def TM (b : Nat → Nat) (n p : Nat) (w : Vl) : Prop := w.1 32 = nI n ∧ w.1 34 = nI p ∧ ∀ i, i < n → w.2.2.1 31 i = nI (b i)
/-- a text -/
def Tx (b : Nat → Nat) (n : Nat) : Prop := n ≤ 500 ∧ ∀ i, i < n → b i < 256
theorem TC_set {b : Nat → Nat} {n p q : Nat} {v : Vl} (h : TC b n p v) : TC b n q (setI v 2 (nI q)) := ⟨h.1, rfl, h.2.2⟩
theorem TC_fr {b : Nat → Nat} {n p : Nat} {v u : Vl} {LI LJ LA LB : List Nat} (h : TC b n p v) (f : fr LI LJ LA LB v u) (d1 : dj [1, 2] LI = true) (d3 : dj [0] LA = true) : TC b n p u := by
  unfold TC
  rw [f.1 1 (dj_n d1 (by decide)), f.1 2 (dj_n d1 (by decide)), f.2.2.1 0 (dj_n d3 (by decide))]
  exact h
theorem TM_fr {b : Nat → Nat} {n p : Nat} {v u : Vl} {LI LJ LA LB : List Nat} (h : TM b n p v) (f : fr LI LJ LA LB v u) (d1 : dj [32, 34] LI = true) (d3 : dj [31] LA = true) : TM b n p u := by
  unfold TM
  rw [f.1 32 (dj_n d1 (by decide)), f.1 34 (dj_n d1 (by decide)), f.2.2.1 31 (dj_n d3 (by decide))]
  exact h
theorem w_byteAt {b : Nat → Nat} {n p i : Nat} {v : Vl} {Q : Int32 → Prop} (T : Tx b n) (h : TC b n p v) (hi : i < 2 ^ 30) : wp_X7_byteAt v (nI i) Q ↔ Q (if i < n then nI (b i) else -1) := by
  have hn := T.1
  unfold wp_X7_byteAt
  rw [h.1, rl_eF (nI_pos (by omega))]
  by_cases c : i < n
  · rw [rl_eF (nI_ge c (by omega)), rl_eF (show ¬ (500 : Int32) ≤ nI i from nI_ge (b := 500) (by omega) (by omega)), nI_clamp (by omega), h.2.2 i c, if_pos c]
    exact ⟨fun q => q.2, fun q => ⟨vp_in_nI (by omega) (by decide), q⟩⟩
  · rw [rl_eT (nI_le (by omega) (by omega)), if_neg c]
theorem w_fig {b : Nat → Nat} {n i : Nat} {Q : Int32 → Prop} (T : Tx b n) : wp_X7_isFigure (if i < n then nI (b i) else -1) Q ↔ Q (if i < n ∧ isF (b i) = true then 1 else 0) := by
  unfold wp_X7_isFigure
  by_cases c : i < n
  · have hb := T.2 i c
    rw [if_pos c]
    simp (disch := omega) only [lit32 48, lit32 57, nI_ltI]
    unfold isF
    by_cases c1 : b i < 48
    · rw [rl_eT c1, if_neg (fun q => absurd (of_decide_eq_true q.2) (by omega))]
    · rw [rl_eF c1]
      by_cases c2 : 57 < b i
      · rw [rl_eT c2, if_neg (fun q => absurd (of_decide_eq_true q.2) (by omega))]
      · rw [rl_eF c2, if_pos ⟨c, decide_eq_true (by omega)⟩]
  · rw [if_neg c, rl_eT (by decide), if_neg (fun q => c q.1)]
theorem w_let {b : Nat → Nat} {n i : Nat} {Q : Int32 → Prop} (T : Tx b n) : wp_X7_isLetter (if i < n then nI (b i) else -1) Q ↔ Q (if i < n ∧ isL (b i) = true then 1 else 0) := by
  unfold wp_X7_isLetter
  by_cases c : i < n
  · have hb := T.2 i c
    rw [if_pos c]
    simp (disch := omega) only [lit32 97, lit32 122, nI_ltI]
    unfold isL
    by_cases c1 : b i < 97
    · rw [rl_eT c1, if_neg (fun q => absurd (of_decide_eq_true q.2) (by omega))]
    · rw [rl_eF c1]
      by_cases c2 : 122 < b i
      · rw [rl_eT c2, if_neg (fun q => absurd (of_decide_eq_true q.2) (by omega))]
      · rw [rl_eF c2, if_pos ⟨c, decide_eq_true (by omega)⟩]
  · rw [if_neg c, rl_eT (by decide), if_neg (fun q => c q.1)]
theorem sI_self (v : Vl) (k : Nat) : setI v k (v.1 k) = v := by
  unfold setI
  have : upd v.1 k (v.1 k) = v.1 := by
    funext j
    rw [upd_a]
    split
    · rename_i e; rw [e]
    · rfl
  rw [this]
theorem sI_sI (v : Vl) (k : Nat) (x y : Int32) : setI (setI v k x) k y = setI v k y := by
  unfold setI
  have : upd (upd v.1 k x) k y = upd v.1 k y := by
    funext j
    rw [upd_a, upd_a, upd_a]
    split <;> rfl
  rw [this]
theorem q_skip_loop {b : Nat → Nat} {n : Nat} {Q : Vl → Prop} (T : Tx b n) : ∀ m p v, n - p = m → p ≤ n → TC b n p v → Q (setI v 2 (nI (zE isB b n p))) → wp_X7_skipBlanks_c5 Q (m + 1) v (nI p) := by
  intro m
  induction m with
  | zero =>
    intro p v e hp h hQ
    have hn := T.1
    unfold wp_X7_skipBlanks_c5
    rw [h.1, rl_eT (nI_le (by omega) (by omega))]
    rw [zE_n (by omega), ← h.2.1, sI_self] at hQ
    exact hQ
  | succ m ih =>
    intro p v e hp h hQ
    have hn := T.1
    have hb := T.2 p (by omega)
    unfold wp_X7_skipBlanks_c5
    rw [h.1, rl_eF (nI_ge (by omega) (by omega)), w_byteAt T h (by omega), if_pos (by omega)]
    by_cases c : b p = 32
    · rw [rl_fT (show nI (b p) = 32 by rw [c]; rfl)]
      simp only [forall_eq, nI_1]
      rw [zE_y ⟨by omega, decide_eq_true c⟩] at hQ
      refine ih (p + 1) _ (by omega) (by omega) (TC_set h) ?_
      rw [sI_sI]
      exact hQ
    · rw [rl_fF (show ¬ nI (b p) = 32 from fun q => c ((nI_eq (b := 32) (by omega) (by omega)).mp q))]
      rw [zE_n (fun q => c (of_decide_eq_true q.2)), ← h.2.1, sI_self] at hQ
      exact hQ
theorem q_skip {b : Nat → Nat} {n p : Nat} {v : Vl} {Q : Vl → Prop} (T : Tx b n) (hp : p ≤ n) (h : TC b n p v) (hQ : ∀ u, TC b n (zE isB b n p) u → fr [2] [] [] [] v u → Q u) : wp_X7_skipBlanks v Q := by
  unfold wp_X7_skipBlanks
  simp only [forall_eq]
  rw [h.2.1]
  exact ⟨n - p + 1, q_skip_loop T (n - p) p v rfl hp h (hQ _ (TC_set h) (fr_I (fr_r v) _ (by decide)))⟩
/-- a fault told -/
def FC (f pl : Nat) (u : Vl) : Prop := u.1 6 = nI f ∧ u.1 7 = nI pl
theorem q_fail {f pl : Nat} {v : Vl} {Q : Int32 → Vl → Prop} (h : ∀ u, FC f pl u → fr [6, 7] [] [] [] v u → Q 0 u) : wp_X7_fail v (nI f) (nI pl) Q := by
  unfold wp_X7_fail
  simp only [forall_eq]
  exact h _ ⟨rfl, rfl⟩ (fr_I (fr_I (fr_r v) _ (by decide)) _ (by decide))
theorem nar0 : narrow .boolean (.int 0) = .int 0 := rfl
/-- the sign c is next, or not -/
theorem q_sign_s {b : Nat → Nat} {n p c : Nat} {v : Vl} {Q : Int32 → Vl → Prop} (T : Tx b n) (hp : p ≤ n) (h : TC b n p v) (hc : zE isB b n p < n ∧ b (zE isB b n p) = c) (hQ : ∀ u, TC b n (zE isB b n p + 1) u → fr [2] [] [] [] v u → Q 1 u) : wp_X7_readSign v (nI c) Q := by
  have hn := T.1
  have hle := zE_le (P := isB) (b := b) hp
  unfold wp_X7_readSign wp_X7_isNext
  refine q_skip T hp h (fun u hu fu => ?_)
  rw [hu.2.1, w_byteAt T hu (by omega), if_pos hc.1, hc.2, rl_fT rfl]
  refine rl_b11.mpr (fun x ex => ?_)
  rw [ex, hu.2.1, nI_1]
  exact hQ _ (TC_set hu) (fr_I fu _ (by decide))
theorem q_sign_f {b : Nat → Nat} {n p c : Nat} {v : Vl} {Q : Int32 → Vl → Prop} (T : Tx b n) (hp : p ≤ n) (h : TC b n p v) (hc256 : c < 256) (hc : ¬ (zE isB b n p < n ∧ b (zE isB b n p) = c)) (hQ : ∀ u, FC 1 (zE isB b n p) u → Q 0 u) : wp_X7_readSign v (nI c) Q := by
  have hn := T.1
  have hle := zE_le (P := isB) (b := b) hp
  unfold wp_X7_readSign wp_X7_isNext
  refine q_skip T hp h (fun u hu fu => ?_)
  have hne : ¬ (if zE isB b n p < n then nI (b (zE isB b n p)) else -1) = nI c := by
    by_cases c1 : zE isB b n p < n
    · have hb := T.2 _ c1
      rw [if_pos c1]
      exact fun q => hc ⟨c1, (nI_eq (by omega) (by omega)).mp q⟩
    · rw [if_neg c1]
      exact fun q => absurd q.symm (rl_nm1 (by omega))
  rw [hu.2.1, w_byteAt T hu (by omega), rl_fF hne]
  refine rl_b10.mpr ?_
  rw [hu.2.1]
  exact q_fail (f := 1) (fun u' hu' _ => ⟨nar0, hQ u' hu'⟩)
theorem q_next {b : Nat → Nat} {n p c : Nat} {v : Vl} {Q : Int32 → Vl → Prop} (T : Tx b n) (hp : p ≤ n) (h : TC b n p v) (hc256 : c < 256) (hQ : ∀ u, TC b n (zE isB b n p) u → fr [2] [] [] [] v u → Q (if zE isB b n p < n ∧ b (zE isB b n p) = c then 1 else 0) u) : wp_X7_isNext v (nI c) Q := by
  have hn := T.1
  have hle := zE_le (P := isB) (b := b) hp
  unfold wp_X7_isNext
  refine q_skip T hp h (fun u hu fu => ?_)
  have hq := hQ u hu fu
  rw [hu.2.1, w_byteAt T hu (by omega)]
  by_cases c1 : zE isB b n p < n
  · have hb := T.2 _ c1
    rw [if_pos c1]
    by_cases c2 : b (zE isB b n p) = c
    · rw [if_pos ⟨c1, c2⟩] at hq
      rw [c2, rl_fT rfl]
      exact hq
    · rw [if_neg (fun q => c2 q.2)] at hq
      rw [rl_fF (fun q => c2 ((nI_eq (by omega) (by omega)).mp q))]
      exact hq
  · rw [if_neg (fun q => c1 q.1)] at hq
    rw [if_neg c1, rl_fF (fun q => absurd q.symm (rl_nm1 (by omega)))]
    exact hq
theorem q_atEnd {b : Nat → Nat} {n p : Nat} {v : Vl} {Q : Int32 → Vl → Prop} (T : Tx b n) (hp : p ≤ n) (h : TC b n p v) (hQ : ∀ u, TC b n (zE isB b n p) u → fr [2] [] [] [] v u → Q (if zE isB b n p < n then 0 else 1) u) : wp_X7_isAtEnd v Q := by
  have hn := T.1
  have hle := zE_le (P := isB) (b := b) hp
  unfold wp_X7_isAtEnd
  refine q_skip T hp h (fun u hu fu => ?_)
  have hq := hQ u hu fu
  rw [hu.1, hu.2.1]
  by_cases c1 : zE isB b n p < n
  · rw [if_pos c1] at hq
    rw [rl_eT (nI_lt c1 (by omega))]
    exact hq
  · rw [if_neg c1] at hq
    rw [rl_eF (nI_nlt (by omega) (by omega))]
    exact hq
/-! words -/
theorem q_word_loop {b : Nat → Nat} {n : Nat} {Q : Int32 → Vl → Prop} (T : Tx b n) : ∀ m p v, n - p = m → p ≤ n → TC b n p v → Q 1 (setI v 2 (nI (zE isL b n p))) → wp_X7_readWord_c41 Q (m + 1) v (nI p) := by
  intro m
  induction m with
  | zero =>
    intro p v e hp h hQ
    have hn := T.1
    unfold wp_X7_readWord_c41
    rw [h.1, rl_eT (nI_le (by omega) (by omega))]
    rw [zE_n (by omega), ← h.2.1, sI_self] at hQ
    exact hQ
  | succ m ih =>
    intro p v e hp h hQ
    have hn := T.1
    unfold wp_X7_readWord_c41
    rw [h.1, rl_eF (nI_ge (by omega) (by omega)), w_byteAt T h (by omega), w_let T]
    by_cases c : p < n ∧ isL (b p) = true
    · rw [if_pos c, rl_b01]
      simp only [forall_eq, nI_1]
      rw [zE_y c] at hQ
      refine ih (p + 1) _ (by omega) (by omega) (TC_set h) ?_
      rw [sI_sI]
      exact hQ
    · rw [if_neg c, rl_b00]
      rw [zE_n c, ← h.2.1, sI_self] at hQ
      exact hQ
theorem q_word_s {b : Nat → Nat} {n p : Nat} {v : Vl} {Q : Int32 → Vl → Prop} (T : Tx b n) (hp : p ≤ n) (h : TC b n p v) (hc : zE isB b n p < n ∧ isL (b (zE isB b n p)) = true) (hQ : ∀ u, TC b n (zE isL b n (zE isB b n p)) u → u.1 3 = nI (zE isB b n p) → Q 1 u) : wp_X7_readWord v Q := by
  have hn := T.1
  have hle := zE_le (P := isB) (b := b) hp
  unfold wp_X7_readWord
  refine q_skip T hp h (fun u hu fu => ?_)
  simp only [forall_eq]
  have hu3 : TC b n (zE isB b n p) (setI u 3 (u.1 2)) := hu
  have e2 : (setI u 3 (u.1 2)).1 2 = nI (zE isB b n p) := hu.2.1
  rw [e2, w_byteAt T hu3 (by omega), w_let T, if_pos hc, rl_b11]
  refine ⟨n - zE isB b n p + 1, q_word_loop T _ _ _ rfl hle hu3 (hQ _ (TC_set hu3) ?_)⟩
  show u.1 2 = _
  exact hu.2.1
theorem q_word_f {b : Nat → Nat} {n p : Nat} {v : Vl} {Q : Int32 → Vl → Prop} (T : Tx b n) (hp : p ≤ n) (h : TC b n p v) (hc : ¬ (zE isB b n p < n ∧ isL (b (zE isB b n p)) = true)) (hQ : ∀ u, FC 1 (zE isB b n p) u → Q 0 u) : wp_X7_readWord v Q := by
  have hn := T.1
  have hle := zE_le (P := isB) (b := b) hp
  unfold wp_X7_readWord
  refine q_skip T hp h (fun u hu fu => ?_)
  simp only [forall_eq]
  have hu3 : TC b n (zE isB b n p) (setI u 3 (u.1 2)) := hu
  have e2 : (setI u 3 (u.1 2)).1 2 = nI (zE isB b n p) := hu.2.1
  rw [e2, w_byteAt T hu3 (by omega), w_let T, if_neg hc, rl_b10]
  exact q_fail (f := 1) (fun u' hu' _ => ⟨nar0, hQ u' hu'⟩)
def wl : List (List Nat) := [[112, 108, 97, 105, 110], [100, 111, 117, 98, 108, 101], [108, 101, 97, 107, 121], [102, 108, 111, 97, 116, 105, 110, 103], [103, 97, 115], [], [102, 105, 110, 101], [114, 111, 117, 103, 104], [105, 99, 101], [108, 105, 103, 104, 116], [98, 111, 97, 116], [98, 97, 114, 114, 101, 108], [104, 101, 110, 115], [110, 105, 103, 104, 116], [111, 100, 100, 115]]
def wlen (k : Nat) : Nat := (wl.getD k []).length
def wf (k i : Nat) : Nat := (wl.getD k []).getD i 0
theorem wl_len : ∀ k, k < 15 → lenS.getD k 0 = wlen k := by decide +kernel
theorem wl_8 : ∀ k, k < 15 → wlen k ≤ 8 := by decide +kernel
theorem wl_byt : ∀ k, k < 15 → ∀ i, i < wlen k → (bytS.getD k []).getD i 0 = nI (wf k i) ∧ 97 ≤ wf k i ∧ wf k i ≤ 122 := by decide +kernel
/-- the word from p on, m long, is word k -/
def isW (b : Nat → Nat) (k p m : Nat) : Prop := m = wlen k ∧ ∀ i, i < wlen k → b (p + i) = wf k i
theorem q_isWord {b : Nat → Nat} {n p e k : Nat} {v : Vl} {Q : Int32 → Prop} (T : Tx b n) (hk : k < 15) (hpe : p ≤ e) (he : e ≤ n) (h : TC b n e v) (h3 : v.1 3 = nI p) (hy : isW b k p (e - p) → Q 1) (hno : ¬ isW b k p (e - p) → Q 0) : wp_X7_isWord v k Q := by
  have hn := T.1
  have h8 := wl_8 k hk
  have el : Int32.ofNat (wlen k) = nI (wlen k) := rfl
  unfold wp_X7_isWord
  refine ⟨hk, ?_⟩
  rw [wl_len k hk, h.2.1, h3, pk_sub hpe, el]
  by_cases c : e - p = wlen k
  · rw [c, rl_eT rfl]
    have loop : ∀ m i, i + m = wlen k → (∀ j, j < i → b (p + j) = wf k j) → wp_X7_isWord_c20 k v Q (m + 1) (nI i) := by
      intro m
      induction m with
      | zero =>
        intro i ei hi
        obtain rfl : i = wlen k := by omega
        unfold wp_X7_isWord_c20
        rw [wl_len k hk, el, rl_eT (nI_le (Nat.le_refl _) (by omega))]
        exact hy ⟨c, hi⟩
      | succ m ih =>
        intro i ei hi
        unfold wp_X7_isWord_c20
        rw [wl_len k hk, el, rl_eF (nI_ge (by omega) (by omega)), h3, nI_add, w_byteAt T h (by omega), if_pos (by omega), nI_clamp (by omega), (wl_byt k hk i (by omega)).1]
        have hb := T.2 (p + i) (by omega)
        have hw := (wl_byt k hk i (by omega)).2.2
        refine ⟨vp_in_nI (by omega) (by omega), ?_⟩
        by_cases c2 : b (p + i) = wf k i
        · rw [c2, rl_eT rfl]
          simp only [forall_eq, nI_1]
          refine ih (i + 1) (by omega) (fun j hj => ?_)
          by_cases c3 : j = i
          · rw [c3]; exact c2
          · exact hi j (by omega)
        · rw [rl_eF (fun q => c2 ((nI_eq (by omega) (by omega)).mp q))]
          exact hno (fun q => c2 (q.2 i (by omega)))
    exact ⟨wlen k + 1, loop (wlen k) 0 (by omega) (fun j hj => absurd hj (Nat.not_lt_zero _))⟩
  · rw [rl_eF (fun q => c ((nI_eq (by omega) (by omega)).mp q))]
    exact hno (fun q => c q.1)
