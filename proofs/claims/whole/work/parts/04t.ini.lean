section JI
variable {p : Program} {l : Launch} {e : Env} {R : Room} {s : State} {m : MethodId} {args : Array Value} {below : List Frame} {meth : Method} {c : Code} {D : GG} {tys : List (ClassId × FieldType)} {A : Nat → Prop} {nL cells slots : Nat} {Q : State → Prop} {own : String} {cc : ByteArray} {pc : Nat} {lv : List (Nat × Value)} {st : List Value} {ws : va_W}
theorem J_objI {a : Nat} (C : Cx p s m args c D tys A own cc nL) (pc' : Nat) {idx : Nat} (hlink : Cond.methodLink own idx Lib.objectInit ∈ wsL_law) (hinst : Cond.instanceMethod Lib.objectInit ∈ wsL_law) (hcode : Cond.code Lib.objectInit ⟨#[0xb1]⟩ 1 none ∈ wsL_law) (hR : 1 ≤ R.frames) (hlo : (st.map fun v => v.category).sum + 12 ≤ R.locals) (hd : decode cc pc = .ok (.invokespecial idx, 3)) (hp : pc + 3 = pc') (kk : J p l e R s m args below meth c D A nL cells slots Q pc' lv st ws) : J p l e R s m args below meth c D A nL cells slots Q pc lv (.ref a :: st) ws := by
  subst hp
  intro H locs ls hP hD hS hl
  refine W.objInit C.1 C.2.1 C.2.2.2.1 (C.2.2.2.2.1 _ hlink) (C.2.2.2.2.1 _ hinst) (C.2.2.2.2.1 _ hcode) rfl (by rw [C.2.2.1]; exact hl.1) rfl hd hR (by show 2 * 0 + _ + 12 ≤ _; omega) ?_
  exact kk H locs ls hP hD hS hl
theorem flat_snoc (Bs : List va_W) (b : va_W) : Bs.flatten ++ b = (Bs ++ [b]).flatten := by rw [List.flatten_append]; simp
theorem J_newB (C : Cx p s m args c D tys A own cc nL) (pc' : Nat) {index : Nat} (ci : Nat) {Cn : String} {T : u_T} {N : Nat} {fs : List Value} (hin : ∀ w ∈ u_ws Cn T N, w ∈ wsL_law) (ty : Nat → FieldType) (hty : ∀ k, k < N → parseFieldDescriptor (T k).2.2.1 = some (ty k)) (hcl : Cond.classLink own index Cn ∈ wsL_law) (hinst : Cond.instantiable Cn N ∈ wsL_law) (hini : Cond.initialized Cn ∈ wsL_law) (hc : vwCl[ci]? = some (Cn, T, N)) (hfs : ∀ j, j < N → defaultValue (ty j) = vp_V fs j) (hcells : cells + 1 ≤ R.cells) (hslots : slots + N ≤ R.slots) {Bs : List va_W} (hws : ws = Bs.flatten) (hd : decode cc pc = .ok (.new index, 3)) (hp : pc + 3 = pc') (Bs' : Nat → List va_W) (hB : ∀ q, Bs ++ [[(q, .inr (ci, fs))]] = Bs' q)
    (kk : ∀ q : Nat, J p l e R s m args below meth c D A nL (cells + 1) (slots + N) Q pc' lv (.ref q :: st) (Bs' q).flatten) : J p l e R s m args below meth c D A nL cells slots Q pc lv st ws := by
  subst hp
  subst hws
  intro H locs ls hP hD hS hl
  refine va_new C.1 C.2.1 C.2.2.2.2.1 hin ty hty C.2.2.2.1 (C.2.2.2.2.1 _ hcl) (C.2.2.2.2.1 _ hinst) (C.2.2.2.2.1 _ hini) C.2.2.2.2.2.1 hP hD hS C.2.2.2.2.2.2.2.1 hc hfs hcells hslots hd (fun q H1 hP1 hD1 hS1 => ?_)
  rw [flat_snoc, hB q] at hP1 hD1
  exact kk q H1 locs ls hP1 hD1 hS1 hl
theorem J_naI (C : Cx p s m args c D tys A own cc nL) (pc' : Nat) (harr : Cond.arrayClass .int ∈ wsL_law) {cA : ClassId} (ht : tys[0]? = some (cA, .int)) {n : Int32} (N' : Nat) (hn : ¬ n < 0) (hN : n.toNatClampNeg = N') (hbytes : N' * componentBytes .int ≤ 536870912) (hcells : cells + 1 ≤ R.cells) (hslots : slots + N' ≤ R.slots) {Bs : List va_W} (hws : ws = Bs.flatten) (hd : decode cc pc = .ok (.newarray .int, 2)) (hp : pc + 2 = pc') (Bs' : Nat → List va_W) (hB : ∀ q, Bs ++ [[(q, .inl (cA, N', .inl (fun _ => 0)))]] = Bs' q)
    (kk : ∀ q : Nat, J p l e R s m args below meth c D A nL (cells + 1) (slots + N') Q pc' lv (.ref q :: st) (Bs' q).flatten) : J p l e R s m args below meth c D A nL cells slots Q pc lv (.int n :: st) ws := by
  subst hp
  subst hws
  intro H locs ls hP hD hS hl
  refine va_newa (atype := .int) (a0 := (N', .inl (fun _ => 0))) C.1 C.2.1 (C.2.2.2.2.1 _ harr) rfl C.2.2.2.2.2.1 hP hD hS C.2.2.2.2.2.2.2.1 (fun cA => rfl) hn hN hbytes hcells hslots hd (fun q cB H1 hK1 hP1 hD1 hS1 => ?_)
  have e1 : va_RA s cB .int := (hK1.2 tys.length _ (by rw [List.getElem?_append_right (Nat.le_refl _), Nat.sub_self]; rfl)).2
  have e2 : va_RA s cA .int := (C.2.2.2.2.2.1.2 0 _ ht).2
  have e3 : cB = cA := Option.some.inj (e1.symm.trans e2)
  subst e3
  rw [flat_snoc, hB q] at hP1 hD1
  exact kk q H1 locs ls hP1 hD1 hS1 hl
theorem J_naJ (C : Cx p s m args c D tys A own cc nL) (pc' : Nat) (harr : Cond.arrayClass .long ∈ wsL_law) {cA : ClassId} (ht : tys[1]? = some (cA, .long)) {n : Int32} (N' : Nat) (hn : ¬ n < 0) (hN : n.toNatClampNeg = N') (hbytes : N' * componentBytes .long ≤ 536870912) (hcells : cells + 1 ≤ R.cells) (hslots : slots + N' ≤ R.slots) {Bs : List va_W} (hws : ws = Bs.flatten) (hd : decode cc pc = .ok (.newarray .long, 2)) (hp : pc + 2 = pc') (Bs' : Nat → List va_W) (hB : ∀ q, Bs ++ [[(q, .inl (cA, N', .inr (.inl (fun _ => 0))))]] = Bs' q)
    (kk : ∀ q : Nat, J p l e R s m args below meth c D A nL (cells + 1) (slots + N') Q pc' lv (.ref q :: st) (Bs' q).flatten) : J p l e R s m args below meth c D A nL cells slots Q pc lv (.int n :: st) ws := by
  subst hp
  subst hws
  intro H locs ls hP hD hS hl
  refine va_newa (atype := .long) (a0 := (N', .inr (.inl (fun _ => 0)))) C.1 C.2.1 (C.2.2.2.2.1 _ harr) rfl C.2.2.2.2.2.1 hP hD hS C.2.2.2.2.2.2.2.1 (fun cA => rfl) hn hN hbytes hcells hslots hd (fun q cB H1 hK1 hP1 hD1 hS1 => ?_)
  have e1 : va_RA s cB .long := (hK1.2 tys.length _ (by rw [List.getElem?_append_right (Nat.le_refl _), Nat.sub_self]; rfl)).2
  have e2 : va_RA s cA .long := (C.2.2.2.2.2.1.2 1 _ ht).2
  have e3 : cB = cA := Option.some.inj (e1.symm.trans e2)
  subst e3
  rw [flat_snoc, hB q] at hP1 hD1
  exact kk q H1 locs ls hP1 hD1 hS1 hl
theorem J_naZ (C : Cx p s m args c D tys A own cc nL) (pc' : Nat) (harr : Cond.arrayClass .boolean ∈ wsL_law) {cA : ClassId} (ht : tys[2]? = some (cA, .boolean)) {n : Int32} (N' : Nat) (hn : ¬ n < 0) (hN : n.toNatClampNeg = N') (hbytes : N' * componentBytes .boolean ≤ 536870912) (hcells : cells + 1 ≤ R.cells) (hslots : slots + N' ≤ R.slots) {Bs : List va_W} (hws : ws = Bs.flatten) (hd : decode cc pc = .ok (.newarray .boolean, 2)) (hp : pc + 2 = pc') (Bs' : Nat → List va_W) (hB : ∀ q, Bs ++ [[(q, .inl (cA, N', .inl (fun _ => 0)))]] = Bs' q)
    (kk : ∀ q : Nat, J p l e R s m args below meth c D A nL (cells + 1) (slots + N') Q pc' lv (.ref q :: st) (Bs' q).flatten) : J p l e R s m args below meth c D A nL cells slots Q pc lv (.int n :: st) ws := by
  subst hp
  subst hws
  intro H locs ls hP hD hS hl
  refine va_newa (atype := .boolean) (a0 := (N', .inl (fun _ => 0))) C.1 C.2.1 (C.2.2.2.2.1 _ harr) rfl C.2.2.2.2.2.1 hP hD hS C.2.2.2.2.2.2.2.1 (fun cA => rfl) hn hN hbytes hcells hslots hd (fun q cB H1 hK1 hP1 hD1 hS1 => ?_)
  have e1 : va_RA s cB .boolean := (hK1.2 tys.length _ (by rw [List.getElem?_append_right (Nat.le_refl _), Nat.sub_self]; rfl)).2
  have e2 : va_RA s cA .boolean := (C.2.2.2.2.2.1.2 2 _ ht).2
  have e3 : cB = cA := Option.some.inj (e1.symm.trans e2)
  subst e3
  rw [flat_snoc, hB q] at hP1 hD1
  exact kk q H1 locs ls hP1 hD1 hS1 hl
theorem J_naS (C : Cx p s m args c D tys A own cc nL) (pc' : Nat) {index : Nat} (hcl : Cond.classLink own index "ReefLights$State" ∈ wsL_law) {cA : ClassId} (ht : tys[3]? = some (cA, .object "ReefLights$State")) {n : Int32} (N' : Nat) (hn : ¬ n < 0) (hN : n.toNatClampNeg = N') (hbytes : N' * 4 ≤ 536870912) (hcells : cells + 1 ≤ R.cells) (hslots : slots + N' ≤ R.slots) {Bs : List va_W} (hws : ws = Bs.flatten) (hd : decode cc pc = .ok (.anewarray index, 3)) (hp : pc + 3 = pc') (Bs' : Nat → List va_W) (hB : ∀ q, Bs ++ [[(q, .inl (cA, N', .inr (.inr (.inr (.inr (fun _ => none))))))]] = Bs' q)
    (kk : ∀ q : Nat, J p l e R s m args below meth c D A nL (cells + 1) (slots + N') Q pc' lv (.ref q :: st) (Bs' q).flatten) : J p l e R s m args below meth c D A nL cells slots Q pc lv (.int n :: st) ws := by
  subst hp
  subst hws
  intro H locs ls hP hD hS hl
  refine va_newq C.1 C.2.1 C.2.2.2.1 (C.2.2.2.2.1 _ hcl) C.2.2.2.2.2.2.2.2.2.2.2.2 C.2.2.2.2.2.1 hP hD hS C.2.2.2.2.2.2.2.1 hn hN hbytes hcells hslots hd (fun q cB H1 hK1 hP1 hD1 hS1 => ?_)
  obtain ⟨_, _, _, _, _, e1⟩ := (hK1.2 tys.length _ (by rw [List.getElem?_append_right (Nat.le_refl _), Nat.sub_self]; rfl)).2
  obtain ⟨_, _, _, _, _, e2⟩ := (C.2.2.2.2.2.1.2 3 _ ht).2
  have e3 : cB = cA := Option.some.inj (e1.symm.trans e2)
  subst e3
  rw [flat_snoc, hB q] at hP1 hD1
  exact kk q H1 locs ls hP1 hD1 hS1 hl
theorem J_putF {a : Nat} (C : Cx p s m args c D tys A own cc nL) (hin2 : meth.name = "<init>") (pc' : Nat) {ref : String} {index : Nat} (ci : Nat) {Cn : String} {T : u_T} {N : Nat} {fs : List Value} {v : Value} (hin : ∀ w ∈ u_ws Cn T N, w ∈ wsL_law) (ty0 : Nat → FieldType) (hty : ∀ k, k < N → parseFieldDescriptor (T k).2.2.1 = some (ty0 k)) (hnm : ∀ a, a < N → ∀ b, b < N → a ≠ b → (T a).2.1 ≠ (T b).2.1) (q0 k : Nat) (he : ws[q0]? = some (a, .inr (ci, fs))) (hc : vwCl[ci]? = some (Cn, T, N)) (hk : k < N) (hlink : Cond.fieldLink own index ref (T k).2.1 (T k).2.2.1 ∈ wsL_law) (hr : ref = (T k).1) (hfin : (T k).2.2.2 = true) (hdecl : (T k).1 = own) (hn : narrow (ty0 k) v = v) (hfit : fits (ty0 k) v = true) (hlen : fs.length = N) (ws' : va_W) (hw : ws.set q0 (a, .inr (ci, fs.set k v)) = ws') (hd : decode cc pc = .ok (.putfield index, 3)) (hp : pc + 3 = pc') (kk : J p l e R s m args below meth c D A nL cells slots Q pc' lv st ws') : J p l e R s m args below meth c D A nL cells slots Q pc lv (v :: .ref a :: st) ws := by
  subst hp
  subst hr
  subst hw
  exact fun H locs ls hP hD hS hl => va_putF C.1 C.2.1 C.2.2.2.2.1 hin ty0 hty hnm C.2.2.2.1 C.2.2.2.2.2.1 hP hD hS q0 he hc k hk (C.2.2.2.2.1 _ hlink) (fun _ h => h) hfin hin2 hdecl (hty k hk) hn hfit (by rw [hlen]; exact hk) hd (fun H1 locs1 hP1 hD1 hS1 => kk H1 locs1 ls hP1 hD1 hS1 hl)
theorem J_aast {a v : Nat} (C : Cx p s m args c D tys A own cc nL) (pc' : Nat) (q0 qk ci : Nat) {cA : ClassId} {r : vw_C} {n : Nat} {vs : List Value} {f : Nat → Option Nat} {i : Int32} (j : Nat) (ha : ws[q0]? = some (a, .inl (cA, n, .inr (.inr (.inr (.inr f)))))) (ht : tys[3]? = some (cA, .object r.1)) (hv : ws[qk]? = some (v, .inr (ci, vs))) (hc : vwCl[ci]? = some r) (hj : i.toNatClampNeg = j) (hin : vp_in i n) (ws' : va_W) (hw : ws.set q0 (a, .inl (cA, n, .inr (.inr (.inr (.inr (va_up f j (some v))))))) = ws') (hd : decode cc pc = .ok (.aastore, 1)) (hp : pc + 1 = pc') (kk : J p l e R s m args below meth c D A nL cells slots Q pc' lv st ws') : J p l e R s m args below meth c D A nL cells slots Q pc lv (.ref v :: .int i :: .ref a :: st) ws := by
  subst hp
  subst hj
  subst hw
  exact fun H locs ls hP hD hS hl => va_astq C.1 C.2.1 C.2.2.2.2.2.1 hP hD hS q0 3 qk ci ha ht hv hc hin hd (fun H1 locs1 hP1 hD1 hS1 => kk H1 locs1 ls hP1 hD1 hS1 hl)
theorem J_cellx {a : Nat} {cA : ClassId} {x y : vp_A} (q0 : Nat) (ha : ws[q0]? = some (a, .inl (cA, x))) (hxy : vp_cell cA x = vp_cell cA y) (ws' : va_W) (hw : ws.set q0 (a, .inl (cA, y)) = ws') (kk : J p l e R s m args below meth c D A nL cells slots Q pc lv st ws') : J p l e R s m args below meth c D A nL cells slots Q pc lv st ws := by
  subst hw
  intro H locs ls hP hD hS hl
  refine kk H locs ls (hP.set hD ha ?_ (fun _ _ => rfl)) (hD.set ha) hS hl
  have h := hP q0 _ ha
  show H[a]? = some (vp_cell cA y)
  rw [← hxy]
  exact h
def Mc {S : Type} (l : Launch) (D : GG) (tys : List (ClassId × FieldType)) (y : MethodName) (cy : ByteArray) (n f lo mc ms : Nat) (av : List Value) (wc : va_W) (post : S → Prop) (B : S → va_W) : Prop :=
  ∀ sz : Nat, Met l y (Cond.code y cy n none :: wsL_law) { frames := f, cells := mc, slots := ms, locals := lo } (CPre D tys av sz wc) (va_Qv post (fun u t => va_P D.1 vwCl (B u) t.heap ∧ va_D (va_A wc sz) (B u)) (va_A wc sz)) mc ms (va_A wc sz)
theorem Mc_of {S : Type} {l : Launch} {D : GG} {tys : List (ClassId × FieldType)} {y : MethodName} {cy : ByteArray} {n f lo mc ms : Nat} {av : List Value} {wc : va_W} {post : S → Prop} {B : S → va_W} (own : String) (lv0 : List (Nat × Value)) (hy : plainFor y = true) (hcls : y.cls = own) (hni : y.name = "<init>") (hlv : lv_args 0 av = lv0) (hnl : (lg_sl av).length ≤ n)
    (body : ∀ (p : Program) (e : Env) (s : State) (m : MethodId) (args : Array Value) (below : List Frame) (meth : Method) (c : Code) (A : Nat → Prop), Cx p s m args c D tys A own cy n → meth.sig.returnType = none → meth.locks = false → meth.name = "<init>" → J p l e { frames := f, cells := mc, slots := ms, locals := lo } s m args below meth c D A n 0 0 (MQ below (va_Qv post (fun u t => va_P D.1 vwCl (B u) t.heap ∧ va_D A (B u)) A) args s mc ms A) 0 lv0 [] wc) : Mc l D tys y cy n f lo mc ms av wc post B := by
  intro sz
  refine Met_ofWF (cc := cy) (maxL := n) (ret := none) hy rfl ?_
  intro p e s m args below meth c s₁ Bd hml hv
  obtain ⟨rfl, hsz, hP, hK, hN, hD0, hSC⟩ := hv
  have hts := atoms_spec (ws := Cond.code y cy n none :: wsL_law) Bd.pre
  have hown : s.vm.findClass own = some m.cls := by rw [← hcls]; exact findClass_of_methodNamed Bd.named
  have hin : meth.name = "<init>" := by rw [← hni]; exact (name_of_methodNamed Bd.named Bd.method).1
  subst hsz
  have hl := lv_entry av (n := n) hnl
  rw [lg_entry_eq, hlv] at *
  exact body p e s m av.toArray below meth c (va_A wc s.heap.size) ⟨Bd.exec, Bd.bytes, hml, hown, fun w h => hts w (List.mem_cons_of_mem _ h), hK, hN, fun q h => Or.inr h, hSC⟩ Bd.returns Bd.notSynchronized hin s.heap [] _ hP hD0.self va_S.rf hl
theorem J_callBI {S : Type} {b : Nat} (C : Cx p s m args c D tys A own cc nL) (pc' : Nat) {y : MethodName} {cy : ByteArray} {n f lo mc ms index : Nat} {As rest : List Value} {stk : List Value} {Bs Bc : List va_W} {post : S → Prop} {B : S → va_W} (hM : Mc l D tys y cy n f lo mc ms (.ref b :: As) Bc.flatten post B) (hcode : Cond.code y cy n none ∈ wsL_law) (hlink : Cond.methodLink own index y ∈ wsL_law) (hini : Cond.initialized y.cls ∈ wsL_law) (hinst : Cond.instanceMethod y ∈ wsL_law) (hni : y.name = "<init>")
    (hd0 : y.cls ≠ "java/lang/invoke/MethodHandle" ∧ y.cls ≠ "java/lang/invoke/VarHandle" ∧ (parseMethodDescriptor y.desc).map (fun d => d.parameters.length) = some As.length) (hR : f + 1 ≤ R.frames ∧ 8 + (n + 11) + lo ≤ R.locals) (hcs : cells + mc ≤ R.cells ∧ slots + ms ≤ R.slots) (hstk : stk = As.reverse ++ .ref b :: rest) (hsum : (rest.map fun v => v.category).sum ≤ 8) (ic ir : List Nat) (nB : Nat) (hnB : Bs.length = nB) (hic : (ic ++ ir).isPerm (List.range nB) = true) (hBc : ic.filterMap (fun i => Bs[i]?) = Bc) (hws : ws = Bs.flatten) (Bd : S → List va_W) (hBd : ∀ u, B u = (Bd u).flatten) (Bs' : S → List va_W) (hF : ∀ u, ir.filterMap (fun j => Bs[j]?) ++ Bd u = Bs' u) (hd : decode cc pc = .ok (.invokespecial index, 3)) (hp : pc + 3 = pc')
    (kk : ∀ u : S, post u → J p l e R s m args below meth c D A nL (cells + mc) (slots + ms) Q pc' lv rest (Bs' u).flatten) : J p l e R s m args below meth c D A nL cells slots Q pc lv stk ws := by
  subst hws
  subst hBc
  subst hnB
  subst hp
  subst hstk
  have h1 := idx_perm (L := Bs) (is := ic ++ ir) (List.isPerm_iff.mp hic)
  rw [List.filterMap_append] at h1
  have h2 := h1.symm.flatten
  rw [List.flatten_append] at h2
  refine J_perm h2 ?_
  intro H locs ls hP hD hS hl
  have hPc : va_P D.1 vwCl (ic.filterMap (fun i => Bs[i]?)).flatten H := fun k q hk => hP k q (by rw [List.getElem?_append_left (List.getElem?_eq_some_iff.mp hk).1]; exact hk)
  have hDc : va_D A (ic.filterMap (fun i => Bs[i]?)).flatten := va_D_left hD
  have hFc : ∀ q, va_A (ic.filterMap (fun i => Bs[i]?)).flatten H.size q → A q := by
    intro q h
    rcases h with ⟨k, e, h⟩ | h
    · exact hDc.2 k (q, e) h
    · exact C.2.2.2.2.2.2.2.1 q (Nat.le_trans hS.1 h)
  refine va_callv (va_runI (As := As) (rest := rest) ⟨C.1, C.2.1, C.2.2.1, C.2.2.2.1, C.2.2.2.2.1⟩ (hM H.size) ⟨callB_of As.length C.2.2.2.2.1 (goodAll hcode) rfl rfl rfl (C.2.2.2.2.1 _ hini) (C.2.2.2.2.1 _ hlink) hd0 hR, hni, C.2.2.2.2.1 _ hinst⟩ ⟨CPre_blind, fun U hU hW => ⟨rfl, by rw [hU], by rw [hU]; exact hPc, va_K.moved hW.alike C.2.2.2.2.2.1, nestL_warm hW C.2.2.2.2.2.2.1, hDc.weaken (fun _ _ _ _ => trivial), C.2.2.2.2.2.2.2.2.call hS hFc hU hW⟩⟩ rfl rfl hl.1 rfl (lv_room hsum) hd hcs) hS (fun q _ h => hFc q h) hFc (fun u t H1 locs1 ht hvm hw hB hz1 hk1 hS1 => ?_)
  obtain ⟨hP1, hD1⟩ := hB
  rw [ht] at hP1
  obtain ⟨hP2, hD2⟩ := va_joinL hP hD hk1 hFc hP1 hD1
  have hp : (B u ++ (ir.filterMap (fun j => Bs[j]?)).flatten).Perm (Bs' u).flatten := by
    rw [hBd u, ← hF u, List.flatten_append]
    exact List.perm_append_comm
  exact kk u hw H1 locs1 ls (va_P_perm hp hP2) (va_D_perm hp hD2) hS1 hl
end JI
