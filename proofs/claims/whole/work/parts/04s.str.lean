section JS
variable {p : Program} {l : Launch} {e : Env} {R : Room} {s : State} {m : MethodId} {args : Array Value} {below : List Frame} {meth : Method} {c : Code} {D : GG} {tys : List (ClassId × FieldType)} {A : Nat → Prop} {nL cells slots : Nat} {Q : State → Prop} {own : String} {cc : ByteArray} {pc : Nat} {lv : List (Nat × Value)} {st : List Value} {ws : va_W}
theorem J_getsZ (C : Cx p s m args c D tys A own cc nL) (pc' : Nat) {index : Nat} (hlink : Cond.fieldLink own index "java/lang/String" "COMPACT_STRINGS" "Z" ∈ wsL_law) (hd : decode cc pc = .ok (.getstatic index, 3)) (hp : pc + 3 = pc') (kk : J p l e R s m args below meth c D A nL cells slots Q pc' lv (.int 1 :: st) ws) : J p l e R s m args below meth c D A nL cells slots Q pc lv st ws := by
  subst hp
  exact fun H locs ls hP hD hS hl => va_gets C.1 C.2.1 C.2.2.2.2.2.2.2.2.2.2.1 hS C.2.2.2.1 (C.2.2.2.2.1 _ hlink) (fun _ h => h) hd (kk H locs ls hP hD hS hl)
theorem J_getsq (C : Cx p s m args c D tys A own cc nL) (pc' : Nat) {index : Nat} (hlink : Cond.fieldLink own index "jdk/internal/util/Preconditions" "SIOOBE_FORMATTER" "Ljava/util/function/BiFunction;" ∈ wsL_law) (hd : decode cc pc = .ok (.getstatic index, 3)) (hp : pc + 3 = pc') (kk : ∀ v : Value, v = .null ∨ (∃ t, v = .ref t) → J p l e R s m args below meth c D A nL cells slots Q pc' lv (v :: st) ws) : J p l e R s m args below meth c D A nL cells slots Q pc lv st ws := by
  subst hp
  intro H locs ls hP hD hS hl
  rcases C.2.2.2.2.2.2.2.2.2.2.2.1 with hZ | ⟨t, hZ⟩
  · exact va_gets C.1 C.2.1 hZ hS C.2.2.2.1 (C.2.2.2.2.1 _ hlink) (fun _ h => h) hd (kk .null (Or.inl rfl) H locs ls hP hD hS hl)
  · exact va_gets C.1 C.2.1 hZ hS C.2.2.2.1 (C.2.2.2.2.1 _ hlink) (fun _ h => h) hd (kk (.ref t) (Or.inr ⟨t, rfl⟩) H locs ls hP hD hS hl)
theorem J_sco (C : Cx p s m args c D tys A own cc nL) {i : Nat} (hi : i < 15) (pc' : Nat) {index : Nat} (hlink : Cond.fieldLink own index "java/lang/String" "coder" "B" ∈ wsL_law) (hd : decode cc pc = .ok (.getfield index, 3)) (hp : pc + 3 = pc') (kk : J p l e R s m args below meth c D A nL cells slots Q pc' lv (.int 0 :: st) ws) : J p l e R s m args below meth c D A nL cells slots Q pc lv (.ref (D.2.1 i) :: st) ws := by
  subst hp
  exact fun H locs ls hP hD hS hl => vk_getf C.1 C.2.1 (C.2.2.2.2.2.2.2.2.1.1 i hi).2.1 hS C.2.2.2.1 (C.2.2.2.2.1 _ hlink) (fun _ h => h) hd (kk H locs ls hP hD hS hl)
theorem J_sva (C : Cx p s m args c D tys A own cc nL) {i : Nat} (hi : i < 15) (pc' : Nat) {index : Nat} (hlink : Cond.fieldLink own index "java/lang/String" "value" "[B" ∈ wsL_law) (hd : decode cc pc = .ok (.getfield index, 3)) (hp : pc + 3 = pc') (kk : J p l e R s m args below meth c D A nL cells slots Q pc' lv (.ref (D.2.2 i) :: st) ws) : J p l e R s m args below meth c D A nL cells slots Q pc lv (.ref (D.2.1 i) :: st) ws := by
  subst hp
  exact fun H locs ls hP hD hS hl => vk_getf C.1 C.2.1 (C.2.2.2.2.2.2.2.2.1.1 i hi).2.2.1 hS C.2.2.2.1 (C.2.2.2.2.1 _ hlink) (fun _ h => h) hd (kk H locs ls hP hD hS hl)
theorem J_sln (C : Cx p s m args c D tys A own cc nL) {i : Nat} (hi : i < 15) (pc' : Nat) (hd : decode cc pc = .ok (.arraylength, 1)) (hp : pc + 1 = pc') (kk : J p l e R s m args below meth c D A nL cells slots Q pc' lv (.int (Int32.ofNat (lenS.getD i 0)) :: st) ws) : J p l e R s m args below meth c D A nL cells slots Q pc lv (.ref (D.2.2 i) :: st) ws := by
  subst hp
  intro H locs ls hP hD hS hl
  obtain ⟨cell, h1, h2, h3, h4, h5, h6, h7⟩ := (C.2.2.2.2.2.2.2.2.1.1 i hi).2.2.2
  have hc : H[D.2.2 i]? = some cell := by rw [hS.2.1 _ (Array.getElem?_eq_some_iff.mp h1).1 h7]; exact h1
  exact W.alen C.1 C.2.1 hc h2 h5 rfl rfl hd (kk H locs ls hP hD hS hl)
theorem J_sby (C : Cx p s m args c D tys A own cc nL) {i : Nat} (hi : i < 15) (pc' : Nat) {k : Int32} (hin : vp_in k (lenS.getD i 0)) (hd : decode cc pc = .ok (.baload, 1)) (hp : pc + 1 = pc') (kk : J p l e R s m args below meth c D A nL cells slots Q pc' lv (.int ((bytS.getD i []).getD k.toNatClampNeg 0) :: st) ws) : J p l e R s m args below meth c D A nL cells slots Q pc lv (.int k :: .ref (D.2.2 i) :: st) ws := by
  subst hp
  exact fun H locs ls hP hD hS hl => va_tb C.1 C.2.1 (C.2.2.2.2.2.2.2.2.1.1 i hi).2.2.2 hS hin rfl hd (kk H locs ls hP hD hS hl)
theorem J_i2c {x : Int32} (C : Cx p s m args c D tys A own cc nL) (pc' : Nat) (hd : decode cc pc = .ok (.i2c, 1)) (hp : pc + 1 = pc') (kk : J p l e R s m args below meth c D A nL cells slots Q pc' lv (.int (x.toUInt32 % 65536).toInt32 :: st) ws) : J p l e R s m args below meth c D A nL cells slots Q pc lv (.int x :: st) ws := by
  subst hp
  exact fun H locs ls hP hD hS hl => lv_i2c C.1 C.2.1 hd rfl (kk H locs ls hP hD hS hl)
theorem J_ldcS (C : Cx p s m args c D tys A own cc nL) (pc' : Nat) {index : Nat} (i : Nat) {tx : String} (hi : strL[i]? = some (own, index, tx)) (hd : decode cc pc = .ok (.ldc index, 2)) (hp : pc + 2 = pc') (kk : J p l e R s m args below meth c D A nL cells slots Q pc' lv (.ref (D.2.1 i) :: st) ws) : J p l e R s m args below meth c D A nL cells slots Q pc lv st ws := by
  subst hp
  exact fun H locs ls hP hD hS hl => va_ldcS C.1 C.2.1 C.2.2.2.1 (C.2.2.2.2.2.2.2.2.2.1 i _ hi) hd (kk H locs ls hP hD hS hl)
theorem J_ldcSw (C : Cx p s m args c D tys A own cc nL) (pc' : Nat) {index : Nat} (i : Nat) {tx : String} (hi : strL[i]? = some (own, index, tx)) (hd : decode cc pc = .ok (.ldc_w index, 3)) (hp : pc + 3 = pc') (kk : J p l e R s m args below meth c D A nL cells slots Q pc' lv (.ref (D.2.1 i) :: st) ws) : J p l e R s m args below meth c D A nL cells slots Q pc lv st ws := by
  subst hp
  intro H locs ls hP hD hS hl T hT X
  obtain ⟨t, a1, b1⟩ := kk H locs ls hP hD hS hl T hT X
  have hZ : vk_R own index tx (D.2.1 i) s := C.2.2.2.2.2.2.2.2.2.1 i _ hi
  exact ⟨t, X.ldcStringW C.1 C.2.2.2.1 (text := tx) (a := D.2.1 i) hZ.1 hZ.2 (g := F0 m pc ls st) rfl (by rw [C.2.1]; exact hd) t a1, b1⟩
theorem J_nret {S : Type} {post : Int32 → S → Prop} {B : S → va_W} {v : Int32} {rt : FieldType} (C : Cx p s m args c D tys A own cc nL) (hr : meth.sig.returnType = some rt) (hk : meth.locks = false) (hn : narrow rt (.int v) = .int v) (u : S) (hw : B u = ws) (hd : decode cc pc = .ok (.ireturn, 1)) (hpost : post v u) : J p l e R s m args below meth c D A nL cells slots (MQ below (va_Qi post (fun u t => va_P D.1 vwCl (B u) t.heap ∧ va_D A (B u)) A) args s cells slots A) pc lv [.int v] ws :=
  fun H locs ls hP hD hS hl => W.zret C.1 C.2.1 hr hn (fun t ht hW => ⟨⟨v, u, rfl, hpost, by rw [hw, ht]; exact hP, by rw [hw]; exact hD⟩, hS.F ht⟩) hS.2.2 hd hk
theorem J_callStr (C : Cx p s m args c D tys A own cc nL) (pc' : Nat) {i : Nat} (hi : i < 15) {y : MethodName} {cy : ByteArray} {n f lo index : Nat} {rt : FieldType} {As rest : List Value} {stk : List Value} {post : Int32 → Unit → Prop} (hM : Mi l D tys y cy n rt f lo (.ref (D.2.1 i) :: As) (List.flatten []) post (fun _ => List.flatten [])) (hcode : Cond.code y cy n (some rt) ∈ wsL_law) (hlink : Cond.methodLink own index y ∈ wsL_law) (hini : Cond.initialized y.cls ∈ wsL_law) (hinst : Cond.instanceMethod y ∈ wsL_law) (hsel : Cond.selects "java/lang/String" y y ∈ wsL_law)
    (hd0 : y.cls ≠ "java/lang/invoke/MethodHandle" ∧ y.cls ≠ "java/lang/invoke/VarHandle" ∧ (parseMethodDescriptor y.desc).map (fun d => d.parameters.length) = some As.length) (hR : f + 1 ≤ R.frames ∧ 8 + (n + 11) + lo ≤ R.locals) (hcs : cells ≤ R.cells ∧ slots ≤ R.slots) (hstk : stk = As.reverse ++ .ref (D.2.1 i) :: rest) (hsum : (rest.map fun v => v.category).sum ≤ 8) (hd : decode cc pc = .ok (.invokevirtual index, 3)) (hp : pc + 3 = pc')
    (kk : ∀ r : Int32, post r () → J p l e R s m args below meth c D A nL cells slots Q pc' lv (.int r :: rest) ws) : J p l e R s m args below meth c D A nL cells slots Q pc lv stk ws := by
  subst hp
  subst hstk
  intro H locs ls hP hD hS hl
  have hPc : va_P D.1 vwCl (List.flatten []) H := fun k q hk => by simp at hk
  have hDc : va_D A (List.flatten []) := ⟨fun i j p q h => by simp at h, fun k q h => by simp at h⟩
  have hFc : ∀ q, va_A (List.flatten []) H.size q → A q := by
    intro q h
    rcases h with ⟨k, e, h⟩ | h
    · simp at h
    · exact C.2.2.2.2.2.2.2.1 q (Nat.le_trans hS.1 h)
  refine va_calli (va_runV (As := As) (rest := rest) ⟨C.1, C.2.1, C.2.2.1, C.2.2.2.1, C.2.2.2.2.1⟩ (hM H.size) ⟨callB_of As.length C.2.2.2.2.1 (goodAll hcode) rfl rfl rfl (C.2.2.2.2.1 _ hini) (C.2.2.2.2.1 _ hlink) hd0 hR, C.2.2.2.2.1 _ hinst, C.2.2.2.2.1 _ hsel⟩ ⟨CPre_blind, vk_recv C.2.2.2.2.2.2.2.2.1 hi hS, fun U hU hW => ⟨rfl, by rw [hU], by rw [hU]; exact hPc, va_K.moved hW.alike C.2.2.2.2.2.1, nestL_warm hW C.2.2.2.2.2.2.1, hDc.weaken (fun _ _ _ _ => trivial), C.2.2.2.2.2.2.2.2.call hS hFc hU hW⟩⟩ rfl rfl hl.1 rfl (lv_room hsum) hd hcs) hS (fun q _ h => hFc q h) hFc (fun r u t H1 locs1 ht hvm hw hB hz1 hk1 hS1 => ?_)
  obtain ⟨hP1, hD1⟩ := hB
  rw [ht] at hP1
  obtain ⟨hP2, hD2⟩ := va_joinL (wc := List.flatten []) (wr := ws) hP hD hk1 hFc hP1 hD1
  exact kk r hw H1 locs1 ls hP2 hD2 hS1 hl
/-! a method that answers one of the string constants -/
def Mr (l : Launch) (D : GG) (tys : List (ClassId × FieldType)) (y : MethodName) (cy : ByteArray) (n f lo : Nat) (av : List Value) (post : Nat → Prop) : Prop :=
  ∀ sz : Nat, Met l y (Cond.code y cy n (some (.object "java/lang/String")) :: wsL_law) (rmk f lo) (CPre D tys av sz (List.flatten [])) (va_Qr post (fun u a t => a = D.2.1 u) (va_A (List.flatten []) sz)) 0 0 (va_A (List.flatten []) sz)
theorem Mr_of {l : Launch} {D : GG} {tys : List (ClassId × FieldType)} {y : MethodName} {cy : ByteArray} {n : Nat} {f lo : Nat} {av : List Value} {post : Nat → Prop} (own : String) (lv0 : List (Nat × Value)) (hy : plainFor y = true) (hcls : y.cls = own) (hlv : lv_args 0 av = lv0) (hnl : (lg_sl av).length ≤ n)
    (body : ∀ (p : Program) (e : Env) (s : State) (m : MethodId) (args : Array Value) (below : List Frame) (meth : Method) (c : Code) (A : Nat → Prop), Cx p s m args c D tys A own cy n → meth.sig.returnType = some (.object "java/lang/String") → meth.locks = false → J p l e (rmk f lo) s m args below meth c D A n 0 0 (MQ below (va_Qr post (fun u a t => a = D.2.1 u) A) args s 0 0 A) 0 lv0 [] (List.flatten [])) : Mr l D tys y cy n f lo av post := by
  intro sz
  refine Met_ofWF (cc := cy) (maxL := n) (ret := some (.object "java/lang/String")) hy rfl ?_
  intro p e s m args below meth c s₁ Bd hml hv
  obtain ⟨rfl, hsz, hP, hK, hN, hD0, hSC⟩ := hv
  have hts := atoms_spec (ws := Cond.code y cy n (some (.object "java/lang/String")) :: wsL_law) Bd.pre
  have hown : s.vm.findClass own = some m.cls := by rw [← hcls]; exact findClass_of_methodNamed Bd.named
  subst hsz
  have hl := lv_entry av (n := n) hnl
  rw [lg_entry_eq, hlv] at *
  exact body p e s m av.toArray below meth c (va_A (List.flatten []) s.heap.size) ⟨Bd.exec, Bd.bytes, hml, hown, fun w h => hts w (List.mem_cons_of_mem _ h), hK, hN, fun q h => Or.inr h, hSC⟩ Bd.returns Bd.notSynchronized s.heap [] _ hP hD0.self va_S.rf hl
theorem J_aretS {post : Nat → Prop} (C : Cx p s m args c D tys A own cc nL) (hr : meth.sig.returnType = some (.object "java/lang/String")) (hk : meth.locks = false) (i : Nat) (hd : decode cc pc = .ok (.areturn, 1)) (hpost : post i) : J p l e R s m args below meth c D A nL cells slots (MQ below (va_Qr post (fun u a t => a = D.2.1 u) A) args s cells slots A) pc lv [.ref (D.2.1 i)] ws :=
  fun H locs ls hP hD hS hl => W.aret C.1 C.2.1 hr (Or.inl ⟨_, rfl⟩) (Or.inr ⟨_, rfl⟩) (fun t ht hW => ⟨⟨i, _, rfl, hpost, rfl⟩, hS.F ht⟩) hS.2.2 hd hk
theorem J_callrSN (C : Cx p s m args c D tys A own cc nL) {host : String} (pc' : Nat) {y : MethodName} {cy : ByteArray} {n f lo index : Nat} {As rest : List Value} {stk : List Value} {post : Nat → Prop} (hM : Mr l D tys y cy n f lo As post) (hcode : Cond.code y cy n (some (.object "java/lang/String")) ∈ wsL_law) (hlink : Cond.methodLinkNest own index y host ∈ nestL) (hini : Cond.initialized y.cls ∈ wsL_law) (hstat : Cond.static y ∈ wsL_law)
    (hd0 : y.cls ≠ "java/lang/invoke/MethodHandle" ∧ y.cls ≠ "java/lang/invoke/VarHandle" ∧ (parseMethodDescriptor y.desc).map (fun d => d.parameters.length) = some As.length) (hR : f + 1 ≤ R.frames ∧ 8 + (n + 11) + lo ≤ R.locals) (hcs : cells ≤ R.cells ∧ slots ≤ R.slots) (hstk : stk = As.reverse ++ rest) (hsum : (rest.map fun v => v.category).sum ≤ 8) (hd : decode cc pc = .ok (.invokestatic index, 3)) (hp : pc + 3 = pc')
    (kk : ∀ i : Nat, post i → J p l e R s m args below meth c D A nL cells slots Q pc' lv (.ref (D.2.1 i) :: rest) ws) : J p l e R s m args below meth c D A nL cells slots Q pc lv stk ws := by
  subst hp
  subst hstk
  intro H locs ls hP hD hS hl
  have hPc : va_P D.1 vwCl (List.flatten []) H := fun k q hk => by simp at hk
  have hDc : va_D A (List.flatten []) := ⟨fun i j p q h => by simp at h, fun k q h => by simp at h⟩
  have hFc : ∀ q, va_A (List.flatten []) H.size q → A q := by
    intro q h
    rcases h with ⟨k, e, h⟩ | h
    · simp at h
    · exact C.2.2.2.2.2.2.2.1 q (Nat.le_trans hS.1 h)
  refine va_callr (va_runSN (As := As) (rest := rest) ⟨C.1, C.2.1, C.2.2.1, C.2.2.2.1, C.2.2.2.2.1⟩ (hM H.size) ⟨va_cnB As.length C.2.2.2.2.1 (goodAll hcode) rfl rfl rfl (C.2.2.2.2.2.2.1 _ hlink) (C.2.2.2.2.1 _ hini) hd0 hR, C.2.2.2.2.1 _ hstat, trivial⟩ ⟨CPre_blind, fun U hU hW => ⟨rfl, by rw [hU], by rw [hU]; exact hPc, va_K.moved hW.alike C.2.2.2.2.2.1, nestL_warm hW C.2.2.2.2.2.2.1, hDc.weaken (fun _ _ _ _ => trivial), C.2.2.2.2.2.2.2.2.call hS hFc hU hW⟩⟩ rfl rfl hl.1 rfl (lv_room hsum) hd hcs) hS (fun q _ h => hFc q h) hFc (fun u ra t H1 locs1 ht hvm hw hB hz1 hk1 hS1 => ?_)
  subst hB
  obtain ⟨hP2, hD2⟩ := va_joinL (wc := List.flatten []) (wr := ws) (w1 := List.flatten []) hP hD hk1 hFc (fun k q hk => by simp at hk) ⟨fun i j p q h => by simp at h, fun k q h => by simp at h⟩
  exact kk u hw H1 locs1 ls hP2 hD2 hS1 hl
end JS
abbrev tyL (cI cJ cZ cS : ClassId) : List (ClassId × FieldType) := [(cI, .int), (cJ, .long), (cZ, .boolean), (cS, .object "ReefLights$State")]
theorem zi_0 : Int32.ofInt (0) = 0 := by decide
theorem zi_1 : Int32.ofInt (1) = 1 := by decide
theorem zs_255 : (Int16.ofInt (255)).toInt32 = 255 := by decide
theorem hdJ0_coder_7d493 : yJ0_coder_7d493.cls ≠ "java/lang/invoke/MethodHandle" ∧ yJ0_coder_7d493.cls ≠ "java/lang/invoke/VarHandle" ∧ (parseMethodDescriptor yJ0_coder_7d493.desc).map (fun d => d.parameters.length) = some 0 := by decide +kernel
theorem hdJ0_isLatin1_aae02 : yJ0_isLatin1_aae02.cls ≠ "java/lang/invoke/MethodHandle" ∧ yJ0_isLatin1_aae02.cls ≠ "java/lang/invoke/VarHandle" ∧ (parseMethodDescriptor yJ0_isLatin1_aae02.desc).map (fun d => d.parameters.length) = some 0 := by decide +kernel
theorem hdJ3_checkIndex_8e157 : yJ3_checkIndex_8e157.cls ≠ "java/lang/invoke/MethodHandle" ∧ yJ3_checkIndex_8e157.cls ≠ "java/lang/invoke/VarHandle" ∧ (parseMethodDescriptor yJ3_checkIndex_8e157.desc).map (fun d => d.parameters.length) = some 3 := by decide +kernel
theorem hdJ0_checkIndex_df160 : yJ0_checkIndex_df160.cls ≠ "java/lang/invoke/MethodHandle" ∧ yJ0_checkIndex_df160.cls ≠ "java/lang/invoke/VarHandle" ∧ (parseMethodDescriptor yJ0_checkIndex_df160.desc).map (fun d => d.parameters.length) = some 2 := by decide +kernel
theorem hdJ1_charAt_3b067 : yJ1_charAt_3b067.cls ≠ "java/lang/invoke/MethodHandle" ∧ yJ1_charAt_3b067.cls ≠ "java/lang/invoke/VarHandle" ∧ (parseMethodDescriptor yJ1_charAt_3b067.desc).map (fun d => d.parameters.length) = some 2 := by decide +kernel
theorem hdJ0_length_8abf5 : yJ0_length_8abf5.cls ≠ "java/lang/invoke/MethodHandle" ∧ yJ0_length_8abf5.cls ≠ "java/lang/invoke/VarHandle" ∧ (parseMethodDescriptor yJ0_length_8abf5.desc).map (fun d => d.parameters.length) = some 0 := by decide +kernel
theorem hdJ0_charAt_5068e : yJ0_charAt_5068e.cls ≠ "java/lang/invoke/MethodHandle" ∧ yJ0_charAt_5068e.cls ≠ "java/lang/invoke/VarHandle" ∧ (parseMethodDescriptor yJ0_charAt_5068e.desc).map (fun d => d.parameters.length) = some 1 := by decide +kernel
set_option maxHeartbeats 4000000 in
set_option maxRecDepth 100000 in
theorem c_coder (l : Launch) (D : GG) (cI cJ cZ cS : ClassId) (i : Nat) (hi : i < 15) : Mi l D (tyL cI cJ cZ cS) yJ0_coder_7d493 cJ0_coder_7d493 1 .byte 0 0 [.ref (D.2.1 i)] (List.flatten []) (fun (r : Int32) (u : Unit) => r = 0) (fun (_ : Unit) => List.flatten []) := by
  refine Mi_of RJ0 [(0, .ref (D.2.1 i))] (by decide +kernel) rfl rfl (Nat.le_of_ble_eq_true rfl) ?_
  intro p e s m args below meth c A C hr hk
  refine J_getsZ C 3 wd282 dJ0_coder_7d493_0 rfl ?_
  refine J_if_eq C 6 13 dJ0_coder_7d493_3 rfl rfl (fun c => ?_) (fun c => ?_)
  · exact absurd c (by decide)
  · refine J_aload_n C 7 dJ0_coder_7d493_6 rfl rfl ?_
    refine J_sco C hi 10 wd283 dJ0_coder_7d493_7 rfl ?_
    refine J_goto C 14 dJ0_coder_7d493_10 rfl ?_
    exact J_nret C hr hk rfl () rfl dJ0_coder_7d493_14 rfl
set_option maxHeartbeats 4000000 in
set_option maxRecDepth 100000 in
theorem c_isLatin1 (l : Launch) (D : GG) (cI cJ cZ cS : ClassId) (i : Nat) (hi : i < 15) : Mi l D (tyL cI cJ cZ cS) yJ0_isLatin1_aae02 cJ0_isLatin1_aae02 1 .boolean 0 0 [.ref (D.2.1 i)] (List.flatten []) (fun (r : Int32) (u : Unit) => r = 1) (fun (_ : Unit) => List.flatten []) := by
  refine Mi_of RJ0 [(0, .ref (D.2.1 i))] (by decide +kernel) rfl rfl (Nat.le_of_ble_eq_true rfl) ?_
  intro p e s m args below meth c A C hr hk
  refine J_getsZ C 3 wd282 dJ0_isLatin1_aae02_0 rfl ?_
  refine J_if_eq C 6 17 dJ0_isLatin1_aae02_3 rfl rfl (fun c => ?_) (fun c => ?_)
  · exact absurd c (by decide)
  · refine J_aload_n C 7 dJ0_isLatin1_aae02_6 rfl rfl ?_
    refine J_sco C hi 10 wd283 dJ0_isLatin1_aae02_7 rfl ?_
    refine J_if_ne C 13 17 dJ0_isLatin1_aae02_10 rfl rfl (fun c => ?_) (fun c => ?_)
    · exact absurd rfl c
    · refine J_iconst C 14 dJ0_isLatin1_aae02_13 rfl zi_1 ?_
      refine J_goto C 18 dJ0_isLatin1_aae02_14 rfl ?_
      exact J_nret C hr hk rfl () rfl dJ0_isLatin1_aae02_18 rfl
set_option maxHeartbeats 4000000 in
set_option maxRecDepth 100000 in
theorem c_length (l : Launch) (D : GG) (cI cJ cZ cS : ClassId) (i : Nat) (hi : i < 15) : Mi l D (tyL cI cJ cZ cS) yJ0_length_8abf5 cJ0_length_8abf5 1 .int 1 20 [.ref (D.2.1 i)] (List.flatten []) (fun (r : Int32) (u : Unit) => r = Int32.ofNat (lenS.getD i 0)) (fun (_ : Unit) => List.flatten []) := by
  refine Mi_of RJ0 [(0, .ref (D.2.1 i))] (by decide +kernel) rfl rfl (Nat.le_of_ble_eq_true rfl) ?_
  intro p e s m args below meth c A C hr hk
  refine J_aload_n C 1 dJ0_length_8abf5_0 rfl rfl ?_
  refine J_sva C hi 4 wd277 dJ0_length_8abf5_1 rfl ?_
  refine J_sln C hi 5 dJ0_length_8abf5_4 rfl ?_
  refine J_aload_n C 6 dJ0_length_8abf5_5 rfl rfl ?_
  refine J_callStr (As := []) C 9 hi (c_coder l D cI cJ cZ cS i hi) wd281 wd278 wd275 wd279 wd280 hdJ0_coder_7d493 ⟨Nat.le_of_ble_eq_true rfl, Nat.le_of_ble_eq_true rfl⟩ ⟨Nat.zero_le _, Nat.zero_le _⟩ rfl (Nat.le_of_ble_eq_true rfl) dJ0_length_8abf5_6 rfl (fun r h => ?_)
  have h : r = 0 := h
  subst h
  refine J_ishr C 10 dJ0_length_8abf5_9 rfl ?_
  refine J_nmi (y := Int32.ofNat (lenS.getD i 0)) ?_ ?_
  · have h15 : ∀ k, k < 15 → Int32.ofNat (lenS.getD k 0) = Int32.ofNat (lenS.getD k 0) >>> ((0 : Int32) &&& 31) := by decide +kernel
    exact h15 i hi
  exact J_iret C hr hk () rfl dJ0_length_8abf5_10 rfl
set_option maxHeartbeats 4000000 in
set_option maxRecDepth 100000 in
theorem c_pcheck (l : Launch) (D : GG) (cI cJ cZ cS : ClassId) (x n : Int32) (v : Value) (hv : v = .null ∨ ∃ t, v = .ref t) (h0 : ¬ x < 0) (h1 : x < n) : Mi l D (tyL cI cJ cZ cS) yJ3_checkIndex_8e157 cJ3_checkIndex_8e157 3 .int 0 0 [.int x, .int n, v] (List.flatten []) (fun (r : Int32) (u : Unit) => r = x) (fun (_ : Unit) => List.flatten []) := by
  refine Mi_of RJ3 [(0, .int x), (1, .int n), (2, v)] (by decide +kernel) rfl (by rcases hv with rfl | ⟨t, rfl⟩ <;> rfl) (by rcases hv with rfl | ⟨t, rfl⟩ <;> exact Nat.le_of_ble_eq_true rfl) ?_
  intro p e s m args below meth c A C hr hk
  refine J_iload_n C 1 dJ3_checkIndex_8e157_0 rfl rfl ?_
  refine J_if_lt C 4 9 dJ3_checkIndex_8e157_1 rfl rfl (fun c => absurd c h0) (fun c => ?_)
  refine J_iload_n C 5 dJ3_checkIndex_8e157_4 rfl rfl ?_
  refine J_iload_n C 6 dJ3_checkIndex_8e157_5 rfl rfl ?_
  refine J_icmp_lt C 9 16 dJ3_checkIndex_8e157_6 rfl rfl (fun c => ?_) (fun c => absurd h1 c)
  refine J_iload_n C 17 dJ3_checkIndex_8e157_16 rfl rfl ?_
  exact J_iret C hr hk () rfl dJ3_checkIndex_8e157_17 rfl
set_option maxHeartbeats 4000000 in
set_option maxRecDepth 100000 in
theorem c_scheck (l : Launch) (D : GG) (cI cJ cZ cS : ClassId) (x n : Int32) (h0 : ¬ x < 0) (h1 : x < n) : Mv l D (tyL cI cJ cZ cS) yJ0_checkIndex_df160 cJ0_checkIndex_df160 2 1 22 [.int x, .int n] (List.flatten []) (fun (u : Unit) => True) (fun (_ : Unit) => List.flatten []) := by
  refine Mv_of RJ0 [(0, .int x), (1, .int n)] (by decide +kernel) rfl rfl (Nat.le_of_ble_eq_true rfl) ?_
  intro p e s m args below meth c A C hr hk
  refine J_iload_n C 1 dJ0_checkIndex_df160_0 rfl rfl ?_
  refine J_iload_n C 2 dJ0_checkIndex_df160_1 rfl rfl ?_
  refine J_getsq C 5 wd299 dJ0_checkIndex_df160_2 rfl (fun v hv => ?_)
  refine J_callBiS (Bs := []) (As := [.int x, .int n, v]) C 8 (c_pcheck l D cI cJ cZ cS x n v hv h0 h1) wd303 wd300 wd302 wd301 hdJ3_checkIndex_8e157 ⟨Nat.le_of_ble_eq_true rfl, Nat.le_of_ble_eq_true rfl⟩ ⟨Nat.zero_le _, Nat.zero_le _⟩ rfl (Nat.le_of_ble_eq_true rfl) [] [] 0 rfl rfl rfl rfl (fun (_ : Unit) => []) (fun _ => rfl) [] rfl (fun _ => rfl) rfl (fun (_ : Unit) => []) (fun _ => rfl) dJ0_checkIndex_df160_5 rfl (fun r u h => ?_)
  refine J_pop C 9 dJ0_checkIndex_df160_8 rfl rfl ?_
  exact J_vret C hr hk () rfl dJ0_checkIndex_df160_9 trivial
set_option maxHeartbeats 4000000 in
set_option maxRecDepth 100000 in
theorem c_lcharAt (l : Launch) (D : GG) (cI cJ cZ cS : ClassId) (i : Nat) (hi : i < 15) (x : Int32) (hx : vp_in x (lenS.getD i 0)) : Mi l D (tyL cI cJ cZ cS) yJ1_charAt_3b067 cJ1_charAt_3b067 2 .char 2 43 [.ref (D.2.2 i), .int x] (List.flatten []) (fun (r : Int32) (u : Unit) => r = (bytS.getD i []).getD x.toNatClampNeg 0) (fun (_ : Unit) => List.flatten []) := by
  refine Mi_of RJ1 [(0, .ref (D.2.2 i)), (1, .int x)] (by decide +kernel) rfl rfl (Nat.le_of_ble_eq_true rfl) ?_
  intro p e s m args below meth c A C hr hk
  have hb : ∀ k, k < 15 → lenS.getD k 0 < 2 ^ 31 ∧ ∀ j, j < lenS.getD k 0 → ((((bytS.getD k []).getD j 0) &&& 255).toUInt32 % 65536).toInt32 = (bytS.getD k []).getD j 0 := by decide +kernel
  obtain ⟨j, hj, rfl⟩ := vp_in_of hx (hb i hi).1
  refine J_iload_n C 1 dJ1_charAt_3b067_0 rfl rfl ?_
  refine J_aload_n C 2 dJ1_charAt_3b067_1 rfl rfl ?_
  refine J_sln C hi 3 dJ1_charAt_3b067_2 rfl ?_
  refine J_callBvS (Bs := []) (As := [.int (nI j), .int (Int32.ofNat (lenS.getD i 0))]) C 6 (c_scheck l D cI cJ cZ cS (nI j) (Int32.ofNat (lenS.getD i 0)) (nI_pos (Nat.lt_trans hj (hb i hi).1)) (nI_lt hj (hb i hi).1)) wd298 wd296 wd275 wd297 hdJ0_checkIndex_df160 ⟨Nat.le_of_ble_eq_true rfl, Nat.le_of_ble_eq_true rfl⟩ ⟨Nat.zero_le _, Nat.zero_le _⟩ rfl (Nat.le_of_ble_eq_true rfl) [] [] 0 rfl rfl rfl rfl (fun (_ : Unit) => []) (fun _ => rfl) [] rfl (fun _ => rfl) rfl (fun (_ : Unit) => []) (fun _ => rfl) dJ1_charAt_3b067_3 rfl (fun u h => ?_)
  refine J_aload_n C 7 dJ1_charAt_3b067_6 rfl rfl ?_
  refine J_iload_n C 8 dJ1_charAt_3b067_7 rfl rfl ?_
  refine J_sby C hi 9 hx dJ1_charAt_3b067_8 rfl ?_
  refine J_sipush C 12 dJ1_charAt_3b067_9 rfl zs_255 ?_
  refine J_iand C 13 dJ1_charAt_3b067_12 rfl ?_
  refine J_i2c C 14 dJ1_charAt_3b067_13 rfl ?_
  exact J_nret C hr hk (pk_nc _) () rfl dJ1_charAt_3b067_14 (by rw [nI_clamp (Nat.lt_trans hj (hb i hi).1)]; exact (hb i hi).2 j hj)
set_option maxHeartbeats 4000000 in
set_option maxRecDepth 100000 in
theorem c_charAt (l : Launch) (D : GG) (cI cJ cZ cS : ClassId) (i : Nat) (hi : i < 15) (x : Int32) (hx : vp_in x (lenS.getD i 0)) : Mi l D (tyL cI cJ cZ cS) yJ0_charAt_5068e cJ0_charAt_5068e 2 .char 3 64 [.ref (D.2.1 i), .int x] (List.flatten []) (fun (r : Int32) (u : Unit) => r = (bytS.getD i []).getD x.toNatClampNeg 0) (fun (_ : Unit) => List.flatten []) := by
  refine Mi_of RJ0 [(0, .ref (D.2.1 i)), (1, .int x)] (by decide +kernel) rfl rfl (Nat.le_of_ble_eq_true rfl) ?_
  intro p e s m args below meth c A C hr hk
  refine J_aload_n C 1 dJ0_charAt_5068e_0 rfl rfl ?_
  refine J_callStr (As := []) C 4 hi (c_isLatin1 l D cI cJ cZ cS i hi) wd291 wd288 wd275 wd289 wd290 hdJ0_isLatin1_aae02 ⟨Nat.le_of_ble_eq_true rfl, Nat.le_of_ble_eq_true rfl⟩ ⟨Nat.zero_le _, Nat.zero_le _⟩ rfl (Nat.le_of_ble_eq_true rfl) dJ0_charAt_5068e_1 rfl (fun r h => ?_)
  have h : r = 1 := h
  subst h
  refine J_if_eq C 7 16 dJ0_charAt_5068e_4 rfl rfl (fun c => absurd c (by decide)) (fun c => ?_)
  refine J_aload_n C 8 dJ0_charAt_5068e_7 rfl rfl ?_
  refine J_sva C hi 11 wd277 dJ0_charAt_5068e_8 rfl ?_
  refine J_iload_n C 12 dJ0_charAt_5068e_11 rfl rfl ?_
  refine J_callBiS (Bs := []) (As := [.ref (D.2.2 i), .int x]) C 15 (c_lcharAt l D cI cJ cZ cS i hi x hx) wd295 wd292 wd294 wd293 hdJ1_charAt_3b067 ⟨Nat.le_of_ble_eq_true rfl, Nat.le_of_ble_eq_true rfl⟩ ⟨Nat.zero_le _, Nat.zero_le _⟩ rfl (Nat.le_of_ble_eq_true rfl) [] [] 0 rfl rfl rfl rfl (fun (_ : Unit) => []) (fun _ => rfl) [] rfl (fun _ => rfl) rfl (fun (_ : Unit) => []) (fun _ => rfl) dJ0_charAt_5068e_12 rfl (fun r u h => ?_)
  have h : r = (bytS.getD i []).getD x.toNatClampNeg 0 := h
  exact J_nret C hr hk (by
    have hb : ∀ k, k < 15 → lenS.getD k 0 < 2 ^ 31 ∧ ∀ j, j < lenS.getD k 0 → narrow .char (.int ((bytS.getD k []).getD j 0)) = .int ((bytS.getD k []).getD j 0) := by decide +kernel
    obtain ⟨j, hj, rfl⟩ := vp_in_of hx (hb i hi).1
    rw [h, nI_clamp (Nat.lt_trans hj (hb i hi).1)]
    exact (hb i hi).2 j hj) () rfl dJ0_charAt_5068e_15 h
