/-! ===== ODDS, parted by skies and miles ===== -/
def zF (o : Nat → Nat) (D : Nat → Nat → Nat) (s sky l : Nat) : Nat := if s = 0 then D sky l * o (sky * 3) / 100 else if s = 1 then D sky l * o (sky * 3 + 1) / 100 else D sky l - D sky l * o (sky * 3) / 100 - D sky l * o (sky * 3 + 1) / 100
def zacc (ix : Nat → Nat → Nat) (p : Nat → Nat) (F : Nat → Nat → Nat → Nat) (k s l : Nat) : Nat :=
  if l = 0 ∨ 100 ≤ l + p s then 0 else (if ix 0 (l + p s) < k then F s 0 (l + p s) else 0) + (if ix 1 (l + p s) < k then F s 1 (l + p s) else 0) + (if ix 2 (l + p s) < k then F s 2 (l + p s) else 0)
def zDs (F : Nat → Nat → Nat → Nat) (p : Nat → Nat) (s l : Nat) : Nat := if l = 0 ∨ 100 ≤ l + p s then 0 else F s 0 (l + p s) + F s 1 (l + p s) + F s 2 (l + p s)
def zD (o p : Nat → Nat) (D : Nat → Nat → Nat) : Nat → Nat → Nat → Nat
  | 0 => D
  | d + 1 => zDs (zF o (zD o p D d)) p
def zD0 (sky m s l : Nat) : Nat := if s = sky ∧ l = m then 1000000000 else 0
def zM (D : Nat → Nat → Nat) : Nat := zsum (D 0) 100 + zsum (D 1) 100 + zsum (D 2) 100
/-- what is beyond M miles is nothing -/
def zB (M : Nat) (D : Nat → Nat → Nat) : Prop := ∀ s l, M < l → D s l = 0
/-! sums -/
theorem zsum_add (f g : Nat → Nat) : ∀ n, zsum (fun i => f i + g i) n = zsum f n + zsum g n
  | 0 => rfl
  | n + 1 => by
    show zsum (fun i => f i + g i) n + (f n + g n) = zsum f n + f n + (zsum g n + g n)
    rw [zsum_add f g n]
    omega
theorem zsum_mn {f g : Nat → Nat} : ∀ n, (∀ i, i < n → f i ≤ g i) → zsum f n ≤ zsum g n
  | 0, _ => Nat.le_refl _
  | n + 1, h => Nat.add_le_add (zsum_mn n (fun i hi => h i (by omega))) (h n (by omega))
theorem zsum_cat (g : Nat → Nat) (p : Nat) : ∀ n, zsum g (p + n) = zsum g p + zsum (fun l => g (l + p)) n
  | 0 => rfl
  | n + 1 => by
    show zsum g (p + n) + g (p + n) = zsum g p + (zsum (fun l => g (l + p)) n + g (n + p))
    rw [zsum_cat g p n, Nat.add_comm n p]
    omega
theorem zsum_z {g : Nat → Nat} {n : Nat} (h : ∀ l, n ≤ l → g l = 0) : ∀ p, zsum g (n + p) = zsum g n
  | 0 => rfl
  | p + 1 => by
    show zsum g (n + p) + g (n + p) = _
    rw [zsum_z h p, h _ (by omega)]
    rfl
theorem zsum_sh {g : Nat → Nat} {n p : Nat} (h : ∀ l, n ≤ l → g l = 0) : zsum (fun l => g (l + p)) n ≤ zsum g n := by
  have e1 := zsum_cat g p n
  have e2 := zsum_z h p
  rw [Nat.add_comm n p] at e2
  omega
theorem zsum_1 {f : Nat → Nat} : ∀ n i, i < n → f i ≤ zsum f n
  | 0, _, h => absurd h (Nat.not_lt_zero _)
  | n + 1, i, h => by
    show f i ≤ zsum f n + f n
    by_cases c : i = n
    · rw [c]; omega
    · have := zsum_1 (f := f) n i (by omega)
      omega
/-! mass -/
theorem zF_sum {o : Nat → Nat} {D : Nat → Nat → Nat} {sky l : Nat} (h : o (sky * 3) + o (sky * 3 + 1) ≤ 100) : zF o D 0 sky l + zF o D 1 sky l + zF o D 2 sky l = D sky l := by
  have e : D sky l * o (sky * 3) / 100 + D sky l * o (sky * 3 + 1) / 100 ≤ D sky l := by
    have h1 : D sky l * o (sky * 3) + D sky l * o (sky * 3 + 1) ≤ D sky l * 100 := by
      rw [← Nat.mul_add]
      exact Nat.mul_le_mul_left _ h
    omega
  show D sky l * o (sky * 3) / 100 + D sky l * o (sky * 3 + 1) / 100 + (D sky l - D sky l * o (sky * 3) / 100 - D sky l * o (sky * 3 + 1) / 100) = D sky l
  omega
theorem zF_0 {o : Nat → Nat} {D : Nat → Nat → Nat} {s sky l : Nat} (h : D sky l = 0) : zF o D s sky l = 0 := by
  unfold zF
  rw [h, Nat.zero_mul, Nat.zero_mul]
  split
  · rfl
  · split <;> rfl
theorem zDs_row {F : Nat → Nat → Nat → Nat} {p : Nat → Nat} {s : Nat} (h : ∀ sky l, 100 ≤ l → F s sky l = 0) : zsum (zDs F p s) 100 ≤ zsum (F s 0) 100 + zsum (F s 1) 100 + zsum (F s 2) 100 := by
  have e1 : zsum (zDs F p s) 100 ≤ zsum (fun l => (F s 0 (l + p s) + F s 1 (l + p s)) + F s 2 (l + p s)) 100 := by
    refine zsum_mn 100 (fun l _ => ?_)
    unfold zDs
    split
    · exact Nat.zero_le _
    · exact Nat.le_refl _
  rw [zsum_add (fun l => F s 0 (l + p s) + F s 1 (l + p s)) (fun l => F s 2 (l + p s)), zsum_add (fun l => F s 0 (l + p s)) (fun l => F s 1 (l + p s))] at e1
  have e2 := zsum_sh (p := p s) (h 0)
  have e3 := zsum_sh (p := p s) (h 1)
  have e4 := zsum_sh (p := p s) (h 2)
  omega
theorem zM_le {o p : Nat → Nat} {D : Nat → Nat → Nat} {M : Nat} (hM : M ≤ 99) (hB : zB M D) (ho : ∀ sky, sky < 3 → o (sky * 3) + o (sky * 3 + 1) ≤ 100) : zM (zDs (zF o D) p) ≤ zM D := by
  have hz : ∀ s sky l, 100 ≤ l → zF o D s sky l = 0 := fun s sky l hl => zF_0 (hB sky l (by omega))
  have e0 := zDs_row (p := p) (hz 0)
  have e1 := zDs_row (p := p) (hz 1)
  have e2 := zDs_row (p := p) (hz 2)
  have es : ∀ sky, sky < 3 → zsum (zF o D 0 sky) 100 + zsum (zF o D 1 sky) 100 + zsum (zF o D 2 sky) 100 = zsum (D sky) 100 := by
    intro sky hs
    rw [← zsum_add, ← zsum_add]
    congr 1
    funext l
    exact zF_sum (ho sky hs)
  have s0 := es 0 (by omega)
  have s1 := es 1 (by omega)
  have s2 := es 2 (by omega)
  unfold zM
  omega
theorem zB_Ds {o p : Nat → Nat} {D : Nat → Nat → Nat} {M : Nat} (hB : zB M D) : zB M (zDs (zF o D) p) := by
  intro s l hl
  unfold zDs
  rw [zF_0 (hB 0 _ (by omega)), zF_0 (hB 1 _ (by omega)), zF_0 (hB 2 _ (by omega))]
  split <;> rfl
theorem zB_D {o p : Nat → Nat} {D : Nat → Nat → Nat} {M : Nat} (hB : zB M D) : ∀ d, zB M (zD o p D d)
  | 0 => hB
  | d + 1 => zB_Ds (zB_D hB d)
theorem zM_D {o p : Nat → Nat} {D : Nat → Nat → Nat} {M : Nat} (hM : M ≤ 99) (hB : zB M D) (ho : ∀ sky, sky < 3 → o (sky * 3) + o (sky * 3 + 1) ≤ 100) : ∀ d, zM (zD o p D d) ≤ zM D
  | 0 => Nat.le_refl _
  | d + 1 => Nat.le_trans (zM_le hM (zB_D hB d) ho) (zM_D hM hB ho d)
theorem zM_1 {D : Nat → Nat → Nat} {s l : Nat} (hs : s < 3) (hl : l < 100) : D s l ≤ zM D := by
  have e0 := zsum_1 (f := D s) 100 l hl
  have : s = 0 ∨ s = 1 ∨ s = 2 := by omega
  unfold zM
  rcases this with rfl | rfl | rfl <;> omega
theorem zB_0 (sky M : Nat) : zB M (zD0 sky M) := by
  intro s l hl
  unfold zD0
  rw [if_neg (by omega)]
theorem zsum_del {g : Nat → Nat} {m : Nat} (h : ∀ l, l ≠ m → g l = 0) : ∀ n, zsum g n = if m < n then g m else 0
  | 0 => rfl
  | n + 1 => by
    show zsum g n + g n = _
    rw [zsum_del h n]
    by_cases c : m = n
    · subst c
      rw [if_neg (Nat.lt_irrefl _), if_pos (Nat.lt_succ_self _), Nat.zero_add]
    · rw [h n (fun q => c q.symm)]
      by_cases c2 : m < n
      · rw [if_pos c2, if_pos (by omega)]; rfl
      · rw [if_neg c2, if_neg (by omega)]
theorem zM_0 {sky M : Nat} (hs : sky < 3) : zM (zD0 sky M) ≤ 1000000000 := by
  have h : ∀ s, zsum (zD0 sky M s) 100 ≤ if s = sky then 1000000000 else 0 := by
    intro s
    rw [zsum_del (m := M) (fun l hl => by unfold zD0; rw [if_neg (fun q => hl q.2)]) 100]
    by_cases c : s = sky
    · rw [if_pos c]
      unfold zD0
      split
      · split <;> omega
      · omega
    · rw [if_neg c]
      unfold zD0
      rw [if_neg (show ¬ (s = sky ∧ M = M) from fun q => c q.1), ite_self]
      exact Nat.le_refl _
  have h0 := h 0
  have h1 := h 1
  have h2 := h 2
  unfold zM
  have : sky = 0 ∨ sky = 1 ∨ sky = 2 := by omega
  rcases this with rfl | rfl | rfl <;> simp at h0 h1 h2 <;> omega
/-! what a cell adds -/
/-- a row of longs holds g -/
def Rr (ix : Nat → Nat → Nat) (f : Nat → Int64) (g : Nat → Nat → Nat) : Prop := ∀ s, s < 3 → ∀ l, l < 100 → f (ix s l) = lN (g s l)
def addG (ix : Nat → Nat → Nat) (f : Nat → Int64) (s l p : Nat) (x : Int64) : Nat → Int64 := if l ≤ p then f else vp_updL f (ix s (l - p)) (f (ix s (l - p)) + x)
def inj3 (ix : Nat → Nat → Nat) : Prop := ∀ s, s < 3 → ∀ l, l < 100 → ∀ s', s' < 3 → ∀ l', l' < 100 → ix s l = ix s' l' → s = s' ∧ l = l'
def ixC (s l : Nat) : Nat := l * 3 + s
def ixM (s l : Nat) : Nat := 100 * s + l
theorem inj_C : inj3 ixC := by
  intro s hs l hl s' hs' l' hl' h
  unfold ixC at h
  omega
theorem inj_M : inj3 ixM := by
  intro s hs l hl s' hs' l' hl' h
  unfold ixM at h
  omega
theorem Rr_add {ix : Nat → Nat → Nat} {f : Nat → Int64} {g : Nat → Nat → Nat} (hi : inj3 ix) (h : Rr ix f g) {s l p x : Nat} (hs : s < 3) (hl : l < 100) : Rr ix (addG ix f s l p (lN x)) (fun s' l' => g s' l' + if s' = s ∧ l' + p = l ∧ l' ≠ 0 then x else 0) := by
  intro s' hs' l' hl'
  unfold addG
  by_cases c : l ≤ p
  · rw [if_pos c]
    show _ = lN (g s' l' + if s' = s ∧ l' + p = l ∧ l' ≠ 0 then x else 0)
    rw [if_neg (by omega), Nat.add_zero]
    exact h s' hs' l' hl'
  · rw [if_neg c, updL_a]
    show _ = lN (g s' l' + if s' = s ∧ l' + p = l ∧ l' ≠ 0 then x else 0)
    by_cases c2 : s' = s ∧ l' = l - p
    · obtain ⟨rfl, rfl⟩ := c2
      rw [if_pos rfl, if_pos ⟨rfl, by omega, by omega⟩, h s' hs' _ hl', lN_add]
    · rw [if_neg (fun q => c2 (hi s' hs' l' hl' s hs (l - p) (by omega) q)), if_neg (by omega), Nat.add_zero]
      exact h s' hs' l' hl'
/-- one cell more -/
theorem zacc_step {ix : Nat → Nat → Nat} (hi : inj3 ix) {p : Nat → Nat} {F : Nat → Nat → Nat → Nat} {sk lk s l : Nat} (hsk : sk < 3) (hlk : lk < 100) (hs : s < 3) (hl : l < 100) : zacc ix p F (ix sk lk + 1) s l = zacc ix p F (ix sk lk) s l + if l + p s = lk ∧ l ≠ 0 then F s sk lk else 0 := by
  unfold zacc
  by_cases c : l = 0 ∨ 100 ≤ l + p s
  · rw [if_pos c, if_pos c, if_neg (by omega)]
  · rw [if_neg c, if_neg c]
    have h100 : l + p s < 100 := by omega
    have key : ∀ sky, sky < 3 → (if ix sky (l + p s) < ix sk lk + 1 then F s sky (l + p s) else 0) = (if ix sky (l + p s) < ix sk lk then F s sky (l + p s) else 0) + if sky = sk ∧ l + p s = lk then F s sky (l + p s) else 0 := by
      intro sky hsky
      by_cases c1 : sky = sk ∧ l + p s = lk
      · rw [if_pos c1]
        obtain ⟨c2, c3⟩ := c1
        rw [c2, c3, if_pos (Nat.lt_succ_self _), if_neg (Nat.lt_irrefl _), Nat.zero_add]
      · rw [if_neg c1, Nat.add_zero]
        have hne : ix sky (l + p s) ≠ ix sk lk := fun q => c1 (hi sky hsky _ h100 sk hsk lk hlk q)
        by_cases c4 : ix sky (l + p s) < ix sk lk
        · rw [if_pos c4, if_pos (by omega)]
          rfl
        · rw [if_neg c4, if_neg (by omega)]
    rw [key 0 (by omega), key 1 (by omega), key 2 (by omega)]
    have : sk = 0 ∨ sk = 1 ∨ sk = 2 := by omega
    by_cases c5 : l + p s = lk
    · rw [if_pos (show l + p s = lk ∧ l ≠ 0 from ⟨c5, by omega⟩)]
      rcases this with rfl | rfl | rfl <;> simp [c5] <;> omega
    · rw [if_neg (show ¬ (l + p s = lk ∧ l ≠ 0) from fun q => c5 q.1)]
      simp [c5]
theorem Rr_step {ix : Nat → Nat → Nat} (hi : inj3 ix) {p : Nat → Nat} {F : Nat → Nat → Nat → Nat} {f : Nat → Int64} {sk lk : Nat} (hsk : sk < 3) (hlk : lk < 100) (h : Rr ix f (zacc ix p F (ix sk lk))) : Rr ix (addG ix (addG ix (addG ix f 0 lk (p 0) (lN (F 0 sk lk))) 1 lk (p 1) (lN (F 1 sk lk))) 2 lk (p 2) (lN (F 2 sk lk))) (zacc ix p F (ix sk lk + 1)) := by
  have h3 := Rr_add hi (Rr_add hi (Rr_add hi h (s := 0) (p := p 0) (x := F 0 sk lk) (by omega) hlk) (s := 1) (p := p 1) (x := F 1 sk lk) (by omega) hlk) (s := 2) (p := p 2) (x := F 2 sk lk) (by omega) hlk
  intro s hs l hl
  rw [h3 s hs l hl, zacc_step hi hsk hlk hs hl]
  congr 1
  have : s = 0 ∨ s = 1 ∨ s = 2 := by omega
  rcases this with rfl | rfl | rfl <;> simp
theorem Rr_0step {ix : Nat → Nat → Nat} (hi : inj3 ix) {p : Nat → Nat} {F : Nat → Nat → Nat → Nat} {f : Nat → Int64} {sk lk : Nat} (hsk : sk < 3) (hlk : lk < 100) (h : Rr ix f (zacc ix p F (ix sk lk))) (h0 : ∀ s, F s sk lk = 0) : Rr ix f (zacc ix p F (ix sk lk + 1)) := by
  intro s hs l hl
  rw [h s hs l hl, zacc_step hi hsk hlk hs hl, h0, ite_self, Nat.add_zero]
theorem zacc_0 (ix : Nat → Nat → Nat) (p : Nat → Nat) (F : Nat → Nat → Nat → Nat) (s l : Nat) : zacc ix p F 0 s l = 0 := by
  unfold zacc
  split
  · rfl
  · rw [if_neg (Nat.not_lt_zero _), if_neg (Nat.not_lt_zero _), if_neg (Nat.not_lt_zero _)]
theorem zacc_C {p o : Nat → Nat} {D : Nat → Nat → Nat} {M s l : Nat} (hB : zB M D) : zacc ixC p (zF o D) (3 * (M + 1)) s l = zDs (zF o D) p s l := by
  unfold zacc zDs
  split
  · rfl
  · have key : ∀ sky, sky < 3 → (if ixC sky (l + p s) < 3 * (M + 1) then zF o D s sky (l + p s) else 0) = zF o D s sky (l + p s) := by
      intro sky hs
      by_cases c : l + p s ≤ M
      · rw [if_pos (by unfold ixC; omega)]
      · rw [zF_0 (hB sky _ (by omega)), ite_self]
    rw [key 0 (by omega), key 1 (by omega), key 2 (by omega)]
theorem zacc_M {p : Nat → Nat} {F : Nat → Nat → Nat → Nat} {s l : Nat} : zacc ixM p F 300 s l = zDs F p s l := by
  unfold zacc zDs
  split
  · rfl
  · rw [if_pos (by unfold ixM; omega), if_pos (by unfold ixM; omega), if_pos (by unfold ixM; omega)]
