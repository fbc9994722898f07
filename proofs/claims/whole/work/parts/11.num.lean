/-! ===== NUMBERS: the class's values as natural numbers ===== -/
abbrev Ns : Type := (Nat → Nat) × (Nat → Nat → Nat)
def zu (s : Ns) (k x : Nat) : Ns := (va_up s.1 k x, s.2)
def zw (s : Ns) (k : Nat) (f : Nat → Nat) : Ns := (s.1, va_up s.2 k f)
def za (s : Ns) (k i x : Nat) : Ns := zw s k (va_up (s.2 k) i x)
def gI : Nat → Int32
  | 0 => -1
  | l + 1 => nI l
def nRow (f : Nat → Nat) : Nat → Int32 := fun j => nI (f j)
/-- plain values: ints and rows of ints -/
def encG (s : Ns) : Vl := (fun k => nI (s.1 k), fun _ => 0, fun k => nRow (s.2 k), fun _ _ => 0)
/-- a state of the class: the aim may be -1, the lot is a long -/
def encS (s : Ns) : Vl := (fun k => if k = 9 then gI (s.1 9) else if k = 16 then 0 else nI (s.1 k), fun k => if k = 16 then lN (s.1 16) else 0, fun k => nRow (s.2 k), fun _ _ => 0)
theorem lit32 (n : Nat) : (OfNat.ofNat n : Int32) = nI n := rfl
theorem lit64N (n : Nat) : (OfNat.ofNat n : Int64) = lN n := rfl
theorem va_up_s {α : Type} (f : Nat → α) (k : Nat) (x : α) : va_up f k x k = x := if_pos rfl
theorem va_up_n {α : Type} (f : Nat → α) {k j : Nat} (x : α) (h : j ≠ k) : va_up f k x j = f j := if_neg h
theorem zu_s (s : Ns) (k x : Nat) : (zu s k x).1 k = x := if_pos rfl
theorem zu_n (s : Ns) {k j : Nat} (x : Nat) (h : j ≠ k) : (zu s k x).1 j = s.1 j := if_neg h
theorem zu_2 (s : Ns) (k x : Nat) : (zu s k x).2 = s.2 := rfl
theorem zw_1 (s : Ns) (k : Nat) (f : Nat → Nat) : (zw s k f).1 = s.1 := rfl
theorem zw_s (s : Ns) (k : Nat) (f : Nat → Nat) : (zw s k f).2 k = f := if_pos rfl
theorem zw_n (s : Ns) {k j : Nat} (f : Nat → Nat) (h : j ≠ k) : (zw s k f).2 j = s.2 j := if_neg h
theorem za_1 (s : Ns) (k i x : Nat) : (za s k i x).1 = s.1 := rfl
theorem za_s (s : Ns) (k i x : Nat) : (za s k i x).2 k i = x := by unfold za; rw [zw_s, va_up_s]
theorem za_r (s : Ns) (k i x : Nat) {j : Nat} (h : j ≠ i) : (za s k i x).2 k j = s.2 k j := by unfold za; rw [zw_s, va_up_n _ _ h]
theorem za_n (s : Ns) {k : Nat} (i x : Nat) {k' : Nat} (h : k' ≠ k) : (za s k i x).2 k' = s.2 k' := by unfold za; rw [zw_n _ _ h]
theorem va_up_id {α : Type} (f : Nat → α) (k : Nat) : va_up f k (f k) = f := by
  funext j
  unfold va_up
  split
  · rename_i h; rw [h]
  · rfl
theorem zu_uu (s : Ns) (k x y : Nat) : zu (zu s k x) k y = zu s k y := by unfold zu; simp only [bx_uu]
theorem zw_ww (s : Ns) (k : Nat) (f g : Nat → Nat) : zw (zw s k f) k g = zw s k g := by unfold zw; simp only [bx_uu]
theorem zw_self (s : Ns) (k : Nat) : zw s k (s.2 k) = s := by unfold zw; rw [va_up_id]
theorem zu_self (s : Ns) (k : Nat) : zu s k (s.1 k) = s := by unfold zu; rw [va_up_id]
theorem nRow_ap (f : Nat → Nat) (j : Nat) : nRow f j = nI (f j) := rfl
theorem upd_up (f : Nat → Int32) (k : Nat) (x : Int32) : upd f k x = va_up f k x := rfl
theorem nRow_upd (f : Nat → Nat) (i x : Nat) : upd (nRow f) i (nI x) = nRow (va_up f i x) := by
  funext j
  unfold upd nRow va_up
  split <;> rfl
theorem encG_1 (s : Ns) (k : Nat) : (encG s).1 k = nI (s.1 k) := rfl
theorem encG_r (s : Ns) (k : Nat) : (encG s).2.2.1 k = nRow (s.2 k) := rfl
theorem encG_setI (s : Ns) (k x : Nat) : setI (encG s) k (nI x) = encG (zu s k x) := by
  have e : upd (fun k => nI (s.1 k)) k (nI x) = fun j => nI ((zu s k x).1 j) := by
    funext j
    unfold upd zu va_up
    show (if j = k then nI x else nI (s.1 j)) = nI (if j = k then x else s.1 j)
    split <;> rfl
  unfold setI encG
  rw [e]
  rfl
theorem encG_setRA (s : Ns) (k : Nat) (f : Nat → Nat) : setRA (encG s) k (nRow f) = encG (zw s k f) := by
  have e : va_up (fun k => nRow (s.2 k)) k (nRow f) = fun j => nRow ((zw s k f).2 j) := by
    funext j
    unfold zw va_up
    show (if j = k then nRow f else nRow (s.2 j)) = nRow (if j = k then f else s.2 j)
    split <;> rfl
  unfold setRA encG
  rw [e]
  rfl
theorem encS_1 (s : Ns) {k : Nat} (h : k ≠ 9) (h' : k ≠ 16) : (encS s).1 k = nI (s.1 k) := by
  show (if k = 9 then gI (s.1 9) else if k = 16 then 0 else nI (s.1 k)) = _
  rw [if_neg h, if_neg h']
theorem encS_9 (s : Ns) : (encS s).1 9 = gI (s.1 9) := rfl
theorem encS_J (s : Ns) : (encS s).2.1 16 = lN (s.1 16) := rfl
theorem encS_r (s : Ns) (k : Nat) : (encS s).2.2.1 k = nRow (s.2 k) := rfl
theorem encS_setI (s : Ns) {k : Nat} (x : Nat) (h : k ≠ 9) (h' : k ≠ 16) : setI (encS s) k (nI x) = encS (zu s k x) := by
  have e : upd (encS s).1 k (nI x) = (encS (zu s k x)).1 := by
    funext j
    show (if j = k then nI x else if j = 9 then gI (s.1 9) else if j = 16 then 0 else nI (s.1 j)) = (if j = 9 then gI (if 9 = k then x else s.1 9) else if j = 16 then 0 else nI (if j = k then x else s.1 j))
    by_cases e : j = k
    · subst e
      rw [if_pos rfl, if_neg h, if_neg h', if_pos rfl]
    · rw [if_neg e, if_neg e, if_neg (Ne.symm h)]
  have e2 : (encS s).2 = (encS (zu s k x)).2 := by
    have : (fun j => if j = 16 then lN (s.1 16) else 0) = (fun j => if j = 16 then lN ((zu s k x).1 16) else 0) := by rw [zu_n _ _ (Ne.symm h')]
    show (_, _, _) = (_, _, _)
    rw [this]
    rfl
  unfold setI
  rw [e]
  show ((encS (zu s k x)).1, (encS s).2) = _
  rw [e2]
theorem encS_set9 (s : Ns) (g : Nat) : setI (encS s) 9 (gI g) = encS (zu s 9 g) := by
  have e : upd (encS s).1 9 (gI g) = (encS (zu s 9 g)).1 := by
    funext j
    show (if j = 9 then gI g else if j = 9 then gI (s.1 9) else if j = 16 then 0 else nI (s.1 j)) = (if j = 9 then gI (if 9 = 9 then g else s.1 9) else if j = 16 then 0 else nI (if j = 9 then g else s.1 j))
    by_cases e : j = 9
    · rw [if_pos e, if_pos e, if_pos rfl]
    · rw [if_neg e, if_neg e, if_neg e, if_neg e]
  unfold setI
  rw [e]
  rfl
theorem encS_setJ (s : Ns) (x : Nat) : setJ (encS s) 16 (lN x) = encS (zu s 16 x) := by
  have e : vp_updL (encS s).2.1 16 (lN x) = (encS (zu s 16 x)).2.1 := by
    funext j
    show (if j = 16 then lN x else if j = 16 then lN (s.1 16) else 0) = (if j = 16 then lN (if 16 = 16 then x else s.1 16) else 0)
    by_cases e : j = 16
    · rw [if_pos e, if_pos e, if_pos rfl]
    · rw [if_neg e, if_neg e, if_neg e]
  have e1 : (encS s).1 = (encS (zu s 16 x)).1 := by
    funext j
    show (if j = 9 then gI (s.1 9) else if j = 16 then 0 else nI (s.1 j)) = (if j = 9 then gI (if 9 = 16 then x else s.1 9) else if j = 16 then 0 else nI (if j = 16 then x else s.1 j))
    by_cases e : j = 9
    · rw [if_pos e, if_pos e, if_neg (by decide)]
    · rw [if_neg e, if_neg e]
      by_cases e2 : j = 16
      · rw [if_pos e2, if_pos e2]
      · rw [if_neg e2, if_neg e2, if_neg e2]
  unfold setJ
  rw [e, e1]
  rfl
theorem encS_setRA (s : Ns) (k : Nat) (f : Nat → Nat) : setRA (encS s) k (nRow f) = encS (zw s k f) := by
  have e : va_up (fun k => nRow (s.2 k)) k (nRow f) = fun j => nRow ((zw s k f).2 j) := by
    funext j
    unfold zw va_up
    show (if j = k then nRow f else nRow (s.2 j)) = nRow (if j = k then f else s.2 j)
    split <;> rfl
  unfold setRA
  show (_, _, va_up (fun k => nRow (s.2 k)) k (nRow f), _) = _
  rw [e]
  rfl
theorem jat_row {n j : Nat} (f : Nat → Nat) (hj : j < n) (hn : n < 2 ^ 31) : jat n (nRow f) (nI j) = nI (f j) := jat_nI hj hn
theorem jput_row {n j : Nat} (f : Nat → Nat) (x : Nat) (hj : j < n) (hn : n < 2 ^ 31) : jput n (nRow f) (nI j) (nI x) = nRow (va_up f j x) := by
  rw [jput_nI hj hn, nRow_upd]
theorem jput_out {n j : Nat} (f : Nat → Int32) (x : Int32) (hj : n ≤ j) (hn : j < 2 ^ 31) : jput n f (nI j) x = f := by
  unfold jput
  exact if_pos (Or.inr (nI_le hj hn))
theorem jput_m1 {n : Nat} (f : Nat → Int32) (x : Int32) : jput n f (-1) x = f := by
  unfold jput
  exact if_pos (Or.inl (by decide))
theorem gI_eq0 {g : Nat} (h : g < 2 ^ 31) : gI g = -1 ↔ g = 0 := by
  cases g with
  | zero => exact ⟨fun _ => rfl, fun _ => rfl⟩
  | succ l =>
    refine ⟨fun e => ?_, fun e => by omega⟩
    have e1 : (gI (l + 1)).toInt = (l : Int) := nI_toInt (by omega)
    rw [e] at e1
    have : (-1 : Int32).toInt = -1 := by decide
    omega
theorem gI_neg {g : Nat} (h : g < 2 ^ 31) : 0 ≤ gI g ↔ g ≠ 0 := by
  cases g with
  | zero => exact ⟨fun e => absurd e (by decide), fun e => absurd rfl e⟩
  | succ l => exact ⟨fun _ => by omega, fun _ => nI_pos' (by omega)⟩
theorem i_min {a b : Nat} (ha : a < 2 ^ 31) (hb : b < 2 ^ 31) : (if nI b < nI a then nI b else nI a) = nI (min a b) := by
  by_cases h : b < a
  · rw [if_pos ((nI_ltI hb ha).mpr h), Nat.min_eq_right (by omega)]
  · rw [if_neg (fun c => h ((nI_ltI hb ha).mp c)), Nat.min_eq_left (by omega)]
theorem i_max {a b : Nat} (ha : a < 2 ^ 31) (hb : b < 2 ^ 31) : (if nI a < nI b then nI b else nI a) = nI (max a b) := by
  by_cases h : a < b
  · rw [if_pos ((nI_ltI ha hb).mpr h), Nat.max_eq_right (by omega)]
  · rw [if_neg (fun c => h ((nI_ltI ha hb).mp c)), Nat.max_eq_left (by omega)]
theorem vp_inN {a N : Nat} (ha : a < 2 ^ 31) (hN : N < 2 ^ 31) : vp_in (nI a) N ↔ a < N := by
  rw [vp_in_iff, nI_toInt ha]
  omega
/-- a branch of a walk, both ways -/
theorem br_i {c A B : Prop} [Decidable c] : ((c → A) ∧ (¬ c → B)) ↔ (if c then A else B) := by
  by_cases h : c <;> simp [h]
theorem br_n {c A B : Prop} [Decidable c] : ((¬ c → B) ∧ (c → A)) ↔ (if c then A else B) := by
  by_cases h : c <;> simp [h]
/-! frames of the model's value -/
def fr (LI LJ LA LB : List Nat) (v w : Vl) : Prop := (∀ k, k ∉ LI → w.1 k = v.1 k) ∧ (∀ k, k ∉ LJ → w.2.1 k = v.2.1 k) ∧ (∀ k, k ∉ LA → w.2.2.1 k = v.2.2.1 k) ∧ (∀ k, k ∉ LB → w.2.2.2 k = v.2.2.2 k)
theorem fr_r {LI LJ LA LB : List Nat} (v : Vl) : fr LI LJ LA LB v v := ⟨fun _ _ => rfl, fun _ _ => rfl, fun _ _ => rfl, fun _ _ => rfl⟩
theorem fr_t {LI LJ LA LB : List Nat} {u v w : Vl} (h : fr LI LJ LA LB u v) (g : fr LI LJ LA LB v w) : fr LI LJ LA LB u w :=
  ⟨fun k q => (g.1 k q).trans (h.1 k q), fun k q => (g.2.1 k q).trans (h.2.1 k q), fun k q => (g.2.2.1 k q).trans (h.2.2.1 k q), fun k q => (g.2.2.2 k q).trans (h.2.2.2 k q)⟩
theorem fr_I {LI LJ LA LB : List Nat} {v w : Vl} (h : fr LI LJ LA LB v w) {k : Nat} (x : Int32) (hk : k ∈ LI) : fr LI LJ LA LB v (setI w k x) :=
  ⟨fun j q => (if_neg (fun e : j = k => q (e ▸ hk)) : (setI w k x).1 j = w.1 j).trans (h.1 j q), h.2.1, h.2.2.1, h.2.2.2⟩
theorem fr_J {LI LJ LA LB : List Nat} {v w : Vl} (h : fr LI LJ LA LB v w) {k : Nat} (x : Int64) (hk : k ∈ LJ) : fr LI LJ LA LB v (setJ w k x) :=
  ⟨h.1, fun j q => (if_neg (fun e : j = k => q (e ▸ hk)) : (setJ w k x).2.1 j = w.2.1 j).trans (h.2.1 j q), h.2.2.1, h.2.2.2⟩
theorem fr_A {LI LJ LA LB : List Nat} {v w : Vl} (h : fr LI LJ LA LB v w) {k : Nat} (i : Nat) (x : Int32) (hk : k ∈ LA) : fr LI LJ LA LB v (setA w k i x) :=
  ⟨h.1, h.2.1, fun j q => (if_neg (fun e : j = k => q (e ▸ hk)) : (setA w k i x).2.2.1 j = w.2.2.1 j).trans (h.2.2.1 j q), h.2.2.2⟩
theorem fr_B {LI LJ LA LB : List Nat} {v w : Vl} (h : fr LI LJ LA LB v w) {k : Nat} (i : Nat) (x : Int64) (hk : k ∈ LB) : fr LI LJ LA LB v (setB w k i x) :=
  ⟨h.1, h.2.1, h.2.2.1, fun j q => (if_neg (fun e : j = k => q (e ▸ hk)) : (setB w k i x).2.2.2 j = w.2.2.2 j).trans (h.2.2.2 j q)⟩
theorem fr_m {LI LJ LA LB LI' LJ' LA' LB' : List Nat} {v w : Vl} (h : fr LI LJ LA LB v w) (e1 : ∀ k, k ∈ LI → k ∈ LI') (e2 : ∀ k, k ∈ LJ → k ∈ LJ') (e3 : ∀ k, k ∈ LA → k ∈ LA') (e4 : ∀ k, k ∈ LB → k ∈ LB') : fr LI' LJ' LA' LB' v w :=
  ⟨fun k q => h.1 k (fun c => q (e1 k c)), fun k q => h.2.1 k (fun c => q (e2 k c)), fun k q => h.2.2.1 k (fun c => q (e3 k c)), fun k q => h.2.2.2 k (fun c => q (e4 k c))⟩
/-! values read behind a store -/
theorem sI_1 (v : Vl) (k : Nat) (x : Int32) (j : Nat) : (setI v k x).1 j = if j = k then x else v.1 j := rfl
theorem sI_2 (v : Vl) (k : Nat) (x : Int32) : (setI v k x).2 = v.2 := rfl
theorem sJ_1 (v : Vl) (k : Nat) (x : Int64) : (setJ v k x).1 = v.1 := rfl
theorem sJ_2 (v : Vl) (k : Nat) (x : Int64) (j : Nat) : (setJ v k x).2.1 j = if j = k then x else v.2.1 j := rfl
theorem sJ_3 (v : Vl) (k : Nat) (x : Int64) : (setJ v k x).2.2 = v.2.2 := rfl
theorem sA_1 (v : Vl) (k i : Nat) (x : Int32) : (setA v k i x).1 = v.1 := rfl
theorem sA_2 (v : Vl) (k i : Nat) (x : Int32) : (setA v k i x).2.1 = v.2.1 := rfl
theorem sA_3 (v : Vl) (k i : Nat) (x : Int32) (j : Nat) : (setA v k i x).2.2.1 j = if j = k then upd (v.2.2.1 k) i x else v.2.2.1 j := rfl
theorem sA_4 (v : Vl) (k i : Nat) (x : Int32) : (setA v k i x).2.2.2 = v.2.2.2 := rfl
theorem sB_1 (v : Vl) (k i : Nat) (x : Int64) : (setB v k i x).1 = v.1 := rfl
theorem sB_2 (v : Vl) (k i : Nat) (x : Int64) : (setB v k i x).2.1 = v.2.1 := rfl
theorem sB_3 (v : Vl) (k i : Nat) (x : Int64) : (setB v k i x).2.2.1 = v.2.2.1 := rfl
theorem sB_4 (v : Vl) (k i : Nat) (x : Int64) (j : Nat) : (setB v k i x).2.2.2 j = if j = k then vp_updL (v.2.2.2 k) i x else v.2.2.2 j := rfl
theorem upd_a (f : Nat → Int32) (k : Nat) (x : Int32) (j : Nat) : upd f k x j = if j = k then x else f j := rfl
theorem updL_a (f : Nat → Int64) (k : Nat) (x : Int64) (j : Nat) : vp_updL f k x j = if j = k then x else f j := rfl
