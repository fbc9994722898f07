/-! ===== THE DAY, in numbers, and the class's way to it ===== -/
def zneed0 (r : Ns) (l h : Nat) : Nat := if r.2 0 l = 1 then r.2 2 l * h / 10 * 2 else r.2 2 l * h / 10
def zneed (r : Ns) (l h sky hv : Nat) : Nat := if r.2 0 l = 4 then 0 else if r.2 0 l = 3 ∧ sky = 2 then 0 else if hv = 1 ∧ sky = 0 then zneed0 r l h / 2 else zneed0 r l h
def zout (r : Ns) (l sky : Nat) : Nat := if r.2 0 l = 4 ∧ sky = 1 ∨ r.2 0 l = 3 ∧ sky = 2 then 1 else 0
def zleak (r : Ns) (l x : Nat) : Nat := if r.2 0 l = 2 ∧ 0 < x then max 1 (x / 10) else 0
def zby (r : Ns) (sky : Nat) : Nat := if sky = 0 then r.1 8 else if sky = 1 then r.1 8 / 2 else 0
def zto (r : Ns) : Nat → Nat
  | 0 => 0
  | l + 1 => r.2 1 l
def zhours (r : Ns) (d : Nat) : Nat := r.2 5 (d / 10 % r.1 13)
def zeggs (r s : Ns) : Ns := zu (zu (zu s 6 ((s.1 6 + r.1 11) % r.1 12)) 5 (s.1 5 + (s.1 6 + r.1 11) / r.1 12)) 15 (s.1 15 + (s.1 6 + r.1 11) / r.1 12)
def ztake (r s : Ns) (w : Nat) : Nat := min w (min (s.1 5) (r.1 9 - s.1 8))
def ztakeOil (r s : Ns) (w : Nat) : Ns := zu (zu s 5 (s.1 5 - ztake r s w)) 8 (s.1 8 + ztake r s w)
def zgive (r s : Ns) (l : Nat) : Nat := min (s.1 8) (r.2 3 l - s.2 0 l)
def zfill (r s : Ns) (l : Nat) : Ns := za (zu s 8 (s.1 8 - zgive r s l)) 0 l (s.2 0 l + zgive r s l)
def zplace (r s : Ns) (sky : Nat) : Nat := if s.1 7 ≤ zto r (s.1 9) then s.1 7 + min (zto r (s.1 9) - s.1 7) (zby r sky) else s.1 7 - min (s.1 7 - zto r (s.1 9)) (zby r sky)
def zarr (r s : Ns) : Nat → Ns
  | 0 => ztakeOil r s (r.1 9)
  | l + 1 => zfill r s l
def zsail (r s : Ns) (sky : Nat) : Ns := if zplace r s sky = zto r (s.1 9) then zarr r (zu s 7 (zplace r s sky)) (s.1 9) else zu s 7 (zplace r s sky)
def zleft (r s : Ns) (l nd : Nat) : Nat := s.2 0 l - nd - zleak r l (s.2 0 l - nd)
def zburn (r s : Ns) (l nd : Nat) : Ns := za (zu s 14 (s.1 14 + (s.2 0 l - zleft r s l nd))) 0 l (zleft r s l nd)
def zdk (r s : Ns) (l sky nd : Nat) : Bool := decide (s.2 0 l < nd ∨ zout r l sky = 1)
def zcount (r s : Ns) (l sky : Nat) : Ns :=
  if s.2 2 l + 1 < 2 then zu (za (za s 2 l (s.2 2 l + 1)) 3 l (s.2 3 l + 1)) 10 (s.1 10 + r.2 4 l * (if sky = 1 then 2 else 1))
  else zu (zu (za (za s 2 l (s.2 2 l + 1)) 3 l (s.2 3 l + 1)) 11 (s.1 11 + 1)) 10 (s.1 10 + r.2 4 l * (if sky = 1 then 2 else 1))
def zlog (nl : Nat) (s : Ns) (l : Nat) : Ns := if s.1 12 < 40 ∧ s.1 12 * 9 + l < nl then za s 4 (s.1 12 * 9 + l) (s.2 0 l) else s
def znd (r s : Ns) (sky h l : Nat) : Nat := zneed r l h sky (s.2 1 l)
def zstep (nl : Nat) (r : Ns) (sky h l : Nat) (s : Ns) : Ns :=
  zlog nl (if zdk r s l sky (znd r s sky h l) = true then zcount r (zburn r s l (znd r s sky h l)) l sky else za (zburn r s l (znd r s sky h l)) 2 l 0) l
def zloop (nl : Nat) (r : Ns) (sky h : Nat) (s : Ns) : Nat → Ns
  | 0 => s
  | i + 1 => zstep nl r sky h i (zloop nl r sky h s i)
def zloopD (nl : Nat) (r : Ns) (sky h : Nat) (s : Ns) : Nat → Int32
  | 0 => 0
  | i + 1 => if zdk r (zloop nl r sky h s i) i sky (znd r (zloop nl r sky h s i) sky h i) = true then zloopD nl r sky h s i ||| (1 <<< (nI i &&& 31)) else zloopD nl r sky h s i
def zmorn (r s : Ns) (sky : Nat) : Ns := zsail r (zeggs r s) sky
def zeve (s : Ns) (sky : Nat) : Ns := zu (zu s 13 sky) 12 (s.1 12 + 1)
def zday (nl : Nat) (r s : Ns) (sky : Nat) : Ns := zeve (zloop nl r sky (zhours r (s.1 12)) (zmorn r s sky) (r.1 7)) sky
def zdayD (nl : Nat) (r s : Ns) (sky : Nat) : Int32 := zloopD nl r sky (zhours r (s.1 12)) (zmorn r s sky) (r.1 7)
/-- the reef as it may be told -/
def WfR (r : Ns) : Prop := r.1 7 ≤ 9 ∧ 1 ≤ r.1 8 ∧ r.1 8 ≤ 99 ∧ 1 ≤ r.1 9 ∧ r.1 9 ≤ 999 ∧ r.1 10 ≤ 9999 ∧ r.1 11 ≤ 99 ∧ 1 ≤ r.1 12 ∧ r.1 12 ≤ 99 ∧ 1 ≤ r.1 13 ∧ r.1 13 ≤ 12 ∧
  (∀ i, i < r.1 13 → r.2 5 i ≤ 24) ∧ (∀ i, i < 9 → r.2 6 i ≤ 100) ∧ (∀ i, i < 3 → r.2 6 (3 * i) + r.2 6 (3 * i + 1) + r.2 6 (3 * i + 2) = 100) ∧
  (∀ l, l < r.1 7 → r.2 0 l ≤ 4 ∧ r.2 1 l ≤ 99 ∧ r.2 2 l ≤ 99 ∧ r.2 3 l ≤ 999 ∧ r.2 4 l ≤ 99)
/-- a state as days may leave it; e: eggs of the day are counted; i: lights that have burnt in its night -/
def WfS (r s : Ns) (e i : Nat) : Prop := s.1 7 ≤ 99 ∧ s.1 8 ≤ r.1 9 ∧ s.1 6 < r.1 12 ∧ s.1 9 ≤ r.1 7 ∧ s.1 13 ≤ 2 ∧ s.1 16 < 2 ^ 31 ∧ s.1 5 ≤ 10000 + 200 * (s.1 12 + e) ∧ s.1 15 ≤ 200 * (s.1 12 + e) ∧
  s.1 10 ≤ 1800 * s.1 12 + 198 * i ∧ s.1 11 ≤ 9 * s.1 12 + i ∧ s.1 14 ≤ 9000 * s.1 12 + 999 * i ∧
  (∀ l, l < r.1 7 → s.2 0 l ≤ r.2 3 l ∧ s.2 1 l ≤ 1 ∧ s.2 2 l ≤ s.1 12 + (if l < i then 1 else 0) ∧ s.2 3 l ≤ s.1 12 + (if l < i then 1 else 0))
/-! the reef's leaves -/
theorem w_X3_milesBy {r : Ns} {sky : Nat} {Q : Int32 → Prop} (h : sky < 2 ^ 31) (h8 : r.1 8 < 2 ^ 31) : wp_X3_milesBy (encG r) (nI sky) Q ↔ Q (nI (zby r sky)) := by
  unfold wp_X3_milesBy zby
  simp (disch := omega) only [encG_1, lit32, pk_div, nI_eq]
  by_cases h0 : sky = 0
  · simp [h0]
  · by_cases h1 : sky = 1
    · simp [h1]
    · simp [h0, h1]
theorem w_X3_milesTo {r : Ns} {g : Nat} {Q : Int32 → Prop} (h : g ≤ 9) : wp_X3_milesTo (encG r) (gI g) Q ↔ Q (nI (zto r g)) := by
  unfold wp_X3_milesTo
  cases g with
  | zero => simp [gI, zto, nI_0]
  | succ l =>
    have e := gI_eq0 (g := l + 1) (by omega)
    simp only [e]
    simp (disch := omega) only [gI, zto, w_at, encG_r, jat_row]
    simp
theorem w_X3_chanceOf {r : Ns} {a b : Nat} {Q : Int32 → Prop} (ha : a < 3) (hb : b < 3) : wp_X3_chanceOf (encG r) (nI a) (nI b) Q ↔ Q (nI (r.2 6 (a * 3 + b))) := by
  unfold wp_X3_chanceOf
  simp (disch := omega) only [lit32, pk_mul, nI_add, w_at, encG_r, jat_row]
theorem w_floorMod {a b : Nat} {Q : Int32 → Prop} (ha : a < 2 ^ 31) (h0 : 0 < b) (hb : b < 2 ^ 31) : wp_J9_floorMod_7cf53 (nI a) (nI b) Q ↔ Q (nI (a % b)) := by
  have hx : (0 : Int32) ≤ nI a ^^^ nI b := by
    have e1 : (nI a).toBitVec.toNat = a := pk_tn (by omega)
    have e2 : (nI b).toBitVec.toNat = b := pk_tn (by omega)
    have e3 : (nI a ^^^ nI b).toBitVec.toNat = a ^^^ b := by
      rw [Int32.toBitVec_xor, BitVec.toNat_xor, e1, e2]
    have e4 : a ^^^ b < 2 ^ 31 := Nat.xor_lt_two_pow ha hb
    rw [Int32.le_iff_toInt_le]
    have e5 : (nI a ^^^ nI b).toInt = (nI a ^^^ nI b).toBitVec.toInt := rfl
    rw [e5, BitVec.toInt_eq_toNat_of_lt (by omega), e3]
    exact Int.natCast_nonneg _
  have hn : ¬ nI b = 0 := nI_ne0 h0 hb
  unfold wp_J9_floorMod_7cf53
  simp only [forall_eq, hn, hx, pk_rem ha h0 hb]
  simp
theorem w_X3_hoursOf {r : Ns} {d : Nat} {Q : Int32 → Prop} (hr : WfR r) (hd : d < 2 ^ 31) : wp_X3_hoursOf (encG r) (nI d) Q ↔ Q (nI (zhours r d)) := by
  have h1 : 1 ≤ r.1 13 := hr.2.2.2.2.2.2.2.2.2.1
  have h2 : r.1 13 ≤ 12 := hr.2.2.2.2.2.2.2.2.2.2.1
  have h3 : d / 10 % r.1 13 < 12 := Nat.lt_of_lt_of_le (Nat.mod_lt _ (by omega)) h2
  unfold wp_X3_hoursOf zhours
  simp (disch := omega) only [encG_1, lit32, pk_div, nI_leI, w_floorMod, w_at, encG_r, jat_row]
  simp [h1]
theorem w_X3_isDarkBySky {r : Ns} {l sky : Nat} {Q : Int32 → Prop} (hl : l < 9) (hk : r.2 0 l ≤ 4) (hs : sky ≤ 2) : wp_X3_isDarkBySky (encG r) (nI l) (nI sky) Q ↔ Q (nI (zout r l sky)) := by
  unfold wp_X3_isDarkBySky wp_X3_isDarkBySky_c19 zout
  simp (disch := omega) only [encG_1, lit32, w_at, encG_r, jat_row, nI_eq]
  by_cases h1 : r.2 0 l = 4 <;> by_cases h2 : r.2 0 l = 3 <;> by_cases h3 : sky = 1 <;> by_cases h4 : sky = 2 <;> simp [h1, h2, h3, h4]
theorem zneed0_le {r : Ns} {l h : Nat} (hb : r.2 2 l ≤ 99) (hh : h ≤ 24) : zneed0 r l h ≤ 474 ∧ r.2 2 l * h ≤ 2376 := by
  have e : r.2 2 l * h ≤ 99 * 24 := Nat.mul_le_mul hb hh
  unfold zneed0
  split <;> omega
theorem w_X3_needOf {r : Ns} {l h sky hv : Nat} {Q : Int32 → Prop} (hl : l < 9) (hk : r.2 0 l ≤ 4) (hb : r.2 2 l ≤ 99) (hh : h ≤ 24) (hs : sky ≤ 2) (hv1 : hv ≤ 1) : wp_X3_needOf (encG r) (nI l) (nI h) (nI sky) (nI hv) Q ↔ Q (nI (zneed r l h sky hv)) := by
  have e := (zneed0_le (h := h) hb hh).2
  unfold wp_X3_needOf wp_X3_needOf_c29 wp_X3_needOf_c56 zneed zneed0
  simp (disch := omega) only [forall_eq, encG_1, lit32, w_at, encG_r, jat_row, nI_eq, pk_mul, pk_div]
  have e0 : (hv = 0) ↔ ¬ hv = 1 := by omega
  by_cases h1 : r.2 0 l = 4 <;> by_cases h2 : r.2 0 l = 3 <;> by_cases h3 : sky = 2 <;> by_cases h4 : r.2 0 l = 1 <;> by_cases h5 : hv = 1 <;> by_cases h6 : sky = 0 <;> first | omega | simp [h1, h2, h3, h4, h5, h6, e0]
theorem w_X3_leakOf {r : Ns} {l x : Nat} {Q : Int32 → Prop} (hl : l < 9) (hk : r.2 0 l ≤ 4) (hx : x < 2 ^ 31) : wp_X3_leakOf (encG r) (nI l) (nI x) Q ↔ Q (nI (zleak r l x)) := by
  unfold wp_X3_leakOf zleak
  simp (disch := omega) only [forall_eq, encG_1, lit32, w_at, encG_r, jat_row, nI_eq, pk_div, i_max]
  simp (disch := omega) only [nI_ltI]
  by_cases h1 : r.2 0 l = 2 <;> by_cases h2 : 0 < x <;> simp [h1, h2]
