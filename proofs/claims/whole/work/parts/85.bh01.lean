-- the law's helpers: contracts of methods with handlers, the call that throws into a handler, their call by the law
abbrev bx_rh : Room := { frames := 10, cells := 1, slots := 6, locals := 320 }
def bx_CH (l : Launch) (y : MethodName) (cc : ByteArray) (maxL : Nat) (hh : List (Nat × Nat × Nat × Nat)) (D : va_G) (av : List Value) (ty : List (ClassId × FieldType)) (w0 : va_W) {S : Type} (post : Int32 → S → Prop) (w1 : S → va_W) : Prop :=
  ∀ sz : Nat, Met l y (Cond.codeWith y cc maxL (some .int) hh :: bs_big) bx_rh (va_Pc av (fun U => bs_Pre D w0 ty sz U ∧ bx_Z U)) (va_Qi post (bs_B D w1 (va_A w0 sz)) (va_A w0 sz)) 1 6 (va_A w0 sz)
def bx_QH (below : List Frame) (s : State) (av : List Value) (D : va_G) (A : Nat → Prop) {S : Type} (post : Int32 → S → Prop) (w1 : S → va_W) : State → Prop := MQ below (va_Qi post (bs_B D w1 A) A) av.toArray s 1 6 A
section BXHM
variable {l : Launch} {y : MethodName} {cc : ByteArray} {maxL : Nat} {hh : List (Nat × Nat × Nat × Nat)} {D : va_G} {av : List Value} {ty : List (ClassId × FieldType)} {w0 : va_W} {S : Type}
theorem bx_CH.mk {post : Int32 → S → Prop} {w1 : S → va_W} (hy : plainName y.cls = true) (hav : (lg_sl av).length ≤ maxL)
    (body : ∀ (p : Program) (e : Env) (s : State) (m : MethodId) (below : List Frame) (meth : Method) (c : Code) (ls : Array Slot) (A : Nat → Prop),
      p.tables.exec = Jvm.exec → c.code = cc → meth.sig.returnType = some .int → c.maxLocals = maxL → meth.locks = false → s.vm.findClass y.cls = some m.cls → c.exceptionTable.toList.map (fun h => (h.startPc, h.endPc, h.handlerPc, h.catchType)) = hh →
      (∀ w ∈ bs_big, w.before av.toArray s = true) → bs_NW s → bx_Z s → va_P D bs_cl w0 s.heap → va_K D bs_cl ty s → va_D A w0 → va_S A s.heap s.heap [] → (∀ q, s.heap.size ≤ q → A q) → lv_has ls maxL (lv_args 0 av) →
      W p l e bx_rh s m av.toArray below meth c s.heap [] 0 0 (bx_QH below s av D A post w1) (F0 m 0 ls [])) : bx_CH l y cc maxL hh D av ty w0 post w1 := by
  intro sz
  refine va_MetW (cc := cc) (maxL := maxL) (ret := some .int) (hh := hh) hy rfl ?_
  intro p e s m args below meth c s₁ B hml hv
  obtain ⟨rfl, ⟨hsz, hP, hK, hD0, hN⟩, hZ⟩ := hv
  have hts := atoms_spec (ws := Cond.codeWith y cc maxL (some .int) hh :: bs_big) B.pre
  subst hsz
  have hD := hD0.self (sz := s.heap.size)
  have hl := lv_entry av (n := maxL) hav
  rw [lg_entry_eq]
  obtain ⟨m9, meth9, c9, hn9, h1, h2, -, -, hex, -⟩ := Cond.codeWith_spec (hts _ List.mem_cons_self)
  have X0 := Stand.of_body B
  cases B.named.symm.trans hn9
  cases h1.symm.trans X0.method
  cases h2.symm.trans X0.code
  exact body p e s m below meth c _ (va_A w0 s.heap.size) B.exec B.bytes B.returns hml B.notSynchronized (findClass_of_methodNamed B.named) hex (fun w h => hts w (List.mem_cons_of_mem _ h)) hN hZ hP hK hD va_S.rf (fun q h => Or.inr h) hl
end BXHM
section BXHR
variable {p : Program} {l : Launch} {e : Env} {R : Room} {s : State} {m : MethodId} {below : List Frame} {meth : Method} {c : Code} {H : Heap} {locs : List Loc} {cc : ByteArray} {pc : Nat} {ls : Array Slot} {D : va_G} {av : List Value} {A : Nat → Prop} {S : Type}
theorem bx_retH {cells slots : Nat} {post : Int32 → S → Prop} {w1 : S → va_W} {v : Int32} (hc : cells ≤ 1) (hs : slots ≤ 6) (hx : p.tables.exec = Jvm.exec) (hb : c.code = cc) (hr : meth.sig.returnType = some .int) (hlk : meth.locks = false) (u : S) (hpo : post v u)
    (hP : va_P D bs_cl (w1 u) H) (hD : va_D A (w1 u)) (hS : va_S A s.heap H locs) (hdg : decode cc pc = .ok (.ireturn, 1)) : W p l e R s m av.toArray below meth c H locs cells slots (bx_QH below s av D A post w1) (F0 m pc ls [.int v]) :=
  bx_more hc hs (W.iret (v := v) hx hb hr (fun t ht hW => ⟨⟨v, u, rfl, hpo, by rw [ht]; exact hP, hD⟩, hS.F ht⟩) hS.2.2 hdg (hlocks := hlk))
end BXHR
section BXHC
variable {p : Program} {l : Launch} {e : Env} {R : Room} {s : State} {m : MethodId} {args : Array Value} {below : List Frame} {meth : Method} {c : Code} {locs : List Loc} {cells slots : Nat} {Q : State → Prop}
variable {cc bytes : ByteArray} {nL maxL index pc : Nat} {ls : Array Slot} {own C X : String} {y : MethodName} {ret : Option FieldType} {D : va_G} {b : Nat} {ty tys : List (ClassId × FieldType)} {ws w0 : va_W} {A : Nat → Prop}
/-- a call that throws, taken by the first entry of the table -/
theorem bx_callX1 {As : List Value} (n : Nat) (rest : List Value) {i st en hp : Nat} {hs : List (Nat × Nat × Nat × Nat)}
    (hh : c.exceptionTable.toList.map (fun h => (h.startPc, h.endPc, h.handlerPc, h.catchType)) = (st, en, hp, i) :: hs) (hcl : Cond.classLink own i X ∈ bs_big) (hca : Cond.castable X X ∈ bx_zl) (hi : i ≠ 0) (hin : st ≤ pc ∧ pc < en)
    (hx : p.tables.exec = Jvm.exec) (hb : c.code = cc) (hml : c.maxLocals = nL) (hown : s.vm.findClass own = some m.cls) (hB : ∀ w ∈ bs_big, w.before args s = true) (hN : bs_NW s) (hZ : bx_Z s)
    (hK : va_K D bs_cl tys s) (hP : va_P D bs_cl ws s.heap) (hD : va_D A ws) (hS : va_S A s.heap s.heap locs)
    (hM : bx_CT l y bytes maxL ret bx_rm D (.ref b :: As) ty w0 X)
    (kcd : Cond.code y bytes maxL ret ∈ bs_big) (kml : Cond.methodLink own index y ∈ bs_big) (kim : Cond.instanceMethod y ∈ bs_big) (kse : Cond.selects C y y ∈ bs_big) (kin : Cond.initialized C ∈ bs_big)
    (hd : y.cls = C ∧ y.cls ≠ "java/lang/invoke/MethodHandle" ∧ y.cls ≠ "java/lang/invoke/VarHandle" ∧ (parseMethodDescriptor y.desc).map (fun d => d.parameters.length) = some n)
    (hR : 9 ≤ R.frames ∧ 8 + (maxL + 11) + 256 ≤ R.locals)
    (hrv : ∃ (ci : Nat) (fs : List Value) (q : vw_C), w0[0]? = some (b, .inr (ci, fs)) ∧ bs_cl[ci]? = some q ∧ q.1 = C)
    (isC : List Nat) (hC : isC.map (fun i => ws[i]?) = w0.map some) (hnd : va_nd isC = true)
    (it : List Nat) (hty : it.filterMap (fun i => tys[i]?) = ty)
    (hn : As.length = n) (hsz : ls.size = nL) (hrest : (rest.map fun v => v.category).sum ≤ 8) (hcs : cells + 1 ≤ R.cells ∧ slots + 6 ≤ R.slots) (hdg : decode cc pc = .ok (.invokevirtual index, 3))
    {st0 : List Value} (hst : st0 = As.reverse ++ .ref b :: rest)
    (kk : ∀ (a : Nat) (H1 : Heap), va_P D bs_cl ws H1 → va_S A s.heap H1 locs → W p l e R s m args below meth c H1 locs (cells + 1) (slots + 6) Q (F0 m hp ls [.ref a])) :
    W p l e R s m args below meth c s.heap locs cells slots Q (F0 m pc ls st0) := by
  subst hst
  obtain ⟨ci, fs, q, hv1, hv2, hv3⟩ := hrv
  have hPc := hP.sub (ws' := w0) isC (bs_fm hC)
  have hDc := hD.sub (ws' := w0) isC hnd hC
  have hKc := hK.sub (tys' := ty) it hty
  obtain ⟨cellB, hcB, hoB, hclB⟩ := va_recv hKc hPc hv2 hv1
  rw [hv3] at hclB
  intro T hT X0
  obtain ⟨T1, a, ce, X1, hce, hvm, hfc, hszT, hkeep, hst⟩ := bx_run (g := F0 m pc ls (As.reverse ++ .ref b :: rest)) (rest := rest) X0 hx hown hB hM
    (fun U hU hW => ⟨⟨by rw [hU], by rw [hU, hT]; exact hPc, va_K.moved hW.alike hKc, hDc.weaken (fun _ _ _ _ => trivial), hN.warm hW⟩, hZ.warm hW (fun q cell h => by rw [hU, hT]; exact h)⟩)
    kcd kml kim kse kin hd hR hcs (by rw [hT]; exact hcB) hoB hclB rfl (hsz.trans hml.symm) hn rfl (lv_room hrest) (by rw [hb]; exact hdg)
  rw [hT] at hszT hkeep
  obtain ⟨vm', X2, hst2⟩ := bx_catch1 (g := { (F0 m pc ls (As.reverse ++ .ref b :: rest)) with stack := rest }) X1 hown hh (hB _ hcl) (bx_any hca hZ) hi rfl hin hce hvm hfc
  obtain ⟨t2, a1, b1⟩ := kk a T1.heap (hP.kept fun k q hk => hkeep q.1 (hP k q hk).lt) ⟨hszT, fun q h1 _ => hkeep q h1, hS.2.2⟩ (T1.setVm vm') rfl X2
  exact ⟨t2, hst _ (hst2 _ a1), b1⟩
/-- .. by the second -/
theorem bx_callX2 {As : List Value} (n : Nat) (rest : List Value) {C1 : String} {i j st en hp st1 en1 hp1 : Nat}
    (hh : c.exceptionTable.toList.map (fun h => (h.startPc, h.endPc, h.handlerPc, h.catchType)) = [(st1, en1, hp1, j), (st, en, hp, i)]) (hcl : Cond.classLink own i X ∈ bs_big) (hca : Cond.castable X X ∈ bx_zl) (hcl1 : Cond.classLink own j C1 ∈ bs_big) (hno : Cond.not (Cond.castable X C1) ∈ bx_zl) (hi : i ≠ 0 ∧ j ≠ 0) (hin1 : st1 ≤ pc ∧ pc < en1) (hin : st ≤ pc ∧ pc < en)
    (hx : p.tables.exec = Jvm.exec) (hb : c.code = cc) (hml : c.maxLocals = nL) (hown : s.vm.findClass own = some m.cls) (hB : ∀ w ∈ bs_big, w.before args s = true) (hN : bs_NW s) (hZ : bx_Z s)
    (hK : va_K D bs_cl tys s) (hP : va_P D bs_cl ws s.heap) (hD : va_D A ws) (hS : va_S A s.heap s.heap locs)
    (hM : bx_CT l y bytes maxL ret bx_rm D (.ref b :: As) ty w0 X)
    (kcd : Cond.code y bytes maxL ret ∈ bs_big) (kml : Cond.methodLink own index y ∈ bs_big) (kim : Cond.instanceMethod y ∈ bs_big) (kse : Cond.selects C y y ∈ bs_big) (kin : Cond.initialized C ∈ bs_big)
    (hd : y.cls = C ∧ y.cls ≠ "java/lang/invoke/MethodHandle" ∧ y.cls ≠ "java/lang/invoke/VarHandle" ∧ (parseMethodDescriptor y.desc).map (fun d => d.parameters.length) = some n)
    (hR : 9 ≤ R.frames ∧ 8 + (maxL + 11) + 256 ≤ R.locals)
    (hrv : ∃ (ci : Nat) (fs : List Value) (q : vw_C), w0[0]? = some (b, .inr (ci, fs)) ∧ bs_cl[ci]? = some q ∧ q.1 = C)
    (isC : List Nat) (hC : isC.map (fun i => ws[i]?) = w0.map some) (hnd : va_nd isC = true)
    (it : List Nat) (hty : it.filterMap (fun i => tys[i]?) = ty)
    (hn : As.length = n) (hsz : ls.size = nL) (hrest : (rest.map fun v => v.category).sum ≤ 8) (hcs : cells + 1 ≤ R.cells ∧ slots + 6 ≤ R.slots) (hdg : decode cc pc = .ok (.invokevirtual index, 3))
    {st0 : List Value} (hst : st0 = As.reverse ++ .ref b :: rest)
    (kk : ∀ (a : Nat) (H1 : Heap), va_P D bs_cl ws H1 → va_S A s.heap H1 locs → W p l e R s m args below meth c H1 locs (cells + 1) (slots + 6) Q (F0 m hp ls [.ref a])) :
    W p l e R s m args below meth c s.heap locs cells slots Q (F0 m pc ls st0) := by
  subst hst
  obtain ⟨ci, fs, q, hv1, hv2, hv3⟩ := hrv
  have hPc := hP.sub (ws' := w0) isC (bs_fm hC)
  have hDc := hD.sub (ws' := w0) isC hnd hC
  have hKc := hK.sub (tys' := ty) it hty
  obtain ⟨cellB, hcB, hoB, hclB⟩ := va_recv hKc hPc hv2 hv1
  rw [hv3] at hclB
  intro T hT X0
  obtain ⟨T1, a, ce, X1, hce, hvm, hfc, hszT, hkeep, hst⟩ := bx_run (g := F0 m pc ls (As.reverse ++ .ref b :: rest)) (rest := rest) X0 hx hown hB hM
    (fun U hU hW => ⟨⟨by rw [hU], by rw [hU, hT]; exact hPc, va_K.moved hW.alike hKc, hDc.weaken (fun _ _ _ _ => trivial), hN.warm hW⟩, hZ.warm hW (fun q cell h => by rw [hU, hT]; exact h)⟩)
    kcd kml kim kse kin hd hR hcs (by rw [hT]; exact hcB) hoB hclB rfl (hsz.trans hml.symm) hn rfl (lv_room hrest) (by rw [hb]; exact hdg)
  rw [hT] at hszT hkeep
  obtain ⟨vm', X2, hst2⟩ := bx_catch2 (g := { (F0 m pc ls (As.reverse ++ .ref b :: rest)) with stack := rest }) X1 hown hh (hB _ hcl) (bx_any hca hZ) (hB _ hcl1) (bx_any hno hZ) hi.1 hi.2 rfl hin1 hin hce hvm hfc
  obtain ⟨t2, a1, b1⟩ := kk a T1.heap (hP.kept fun k q hk => hkeep q.1 (hP k q hk).lt) ⟨hszT, fun q h1 _ => hkeep q h1, hS.2.2⟩ (T1.setVm vm') rfl X2
  exact ⟨t2, hst _ (hst2 _ a1), b1⟩
end BXHC
section BXHS
variable {p : Program} {l : Launch} {e : Env} {R : Room} {s : State} {m : MethodId} {args : Array Value} {below : List Frame} {meth : Method} {c : Code} {H : Heap} {locs : List Loc} {cells slots : Nat} {Q : State → Prop}
theorem bx_callSW {T : State} (X : Stand p l e R s m args below meth c T locs cells slots) (hexec : p.tables.exec = Jvm.exec) {own : String} {index : Nat} {y : MethodName} {bytes : ByteArray} {maxL : Nat} {ret : Option FieldType} {hh : List (Nat × Nat × Nat × Nat)}
    (hown : s.vm.findClass own = some m.cls) (hlink : (Cond.methodLink own index y).before args s = true) (hstat : (Cond.static y).before args s = true) (hinit : (Cond.initialized y.cls).before args s = true)
    (hcode : (Cond.codeWith y bytes maxL ret hh).before args s = true) (hy : y.cls ≠ "java/lang/invoke/MethodHandle" ∧ y.cls ≠ "java/lang/invoke/VarHandle")
    {W : Nat} {Pre : Pt → Array Value → Prop} {Post : Pt → Array Value → Option Value → Pt → Prop} (hK : Back l R p e below s args y 3 W Pre Post)
    {g : JFrame} (hg : g.method = m) (hsize : g.locals.size = c.maxLocals) {argsL rest : List Value} (hlen : ∀ sig, parseMethodDescriptor y.desc = some sig → argsL.length = sig.parameters.length)
    (hstack : g.stack = argsL.reverse ++ rest) (hW : 2 * g.monitorRoom + (rest.map fun v => v.category).sum ≤ W) (hdg : decode c.code g.pc = .ok (.invokestatic index, 3))
    (hpre : ∀ vm₁, s.WarmedH vm₁ → Pre ⟨T.setVm vm₁, locs, cells, slots⟩ argsL.toArray) :
    ∃ (v : Option Value) (vm₁ : Vm) (B : Pt), s.WarmedH vm₁ ∧ Stand p l e R s m args below meth c B.U B.locs B.cells B.slots ∧ Post ⟨T.setVm vm₁, locs, cells, slots⟩ argsL.toArray v B ∧
      ∀ target, Steps p.tables e below (B.U.setTop { g with pc := g.pc + 3, stack := v.toList ++ rest }) target → Steps p.tables e below (T.setTop g) target := by
  obtain ⟨mk, methM, cM, hnamed, hmethM, -, -, -, -, -, -, hsigM⟩ := Cond.codeWith_spec hcode
  have hstatic : methM.isStatic = true := Cond.static_spec hnamed hmethM hstat
  obtain ⟨kP, hkP, -⟩ := className_of_methodNamed hnamed
  have hinitP : kP.init = .initialized := Cond.initialized_spec (findClass_of_methodNamed hnamed) hkP hinit
  obtain ⟨vm₁, X₁, hstep₁⟩ := X.invokestatic hexec hown hlink hnamed hmethM hstatic hkP hinitP hy (g := g) hg (argsL := argsL) (rest := rest) (hlen _ hsigM) hstack hdg
  obtain ⟨v, B, X', hpost, hsteps⟩ := hK m meth c ⟨T.setVm vm₁, locs, cells, slots⟩ { g with stack := rest } (.invokestatic index) mk argsL.toArray X₁ hg hsize hdg hW (X₁.named hnamed) (hpre vm₁ X₁.warmed)
  exact ⟨v, vm₁, B, X₁.warmed, X', hpost, fun target h => hstep₁ _ fun acts => by rw [doInvoke_state]; exact hsteps.trans h⟩
variable {cc bytes : ByteArray} {nL maxL index pc : Nat} {ls : Array Slot} {own : String} {y : MethodName} {hh : List (Nat × Nat × Nat × Nat)} {D : va_G} {ty tys : List (ClassId × FieldType)} {ws w0 : va_W} {S : Type} {w1 : S → va_W} {A : Nat → Prop}
/-- the call of a helper: one cell and six slots more at most -/
theorem bx_callH {post : Int32 → S → Prop} {As : List Value} (n : Nat) (wr : va_W) (w2 : S → va_W) (rest : List Value)
    (hx : p.tables.exec = Jvm.exec) (hb : c.code = cc) (hml : c.maxLocals = nL) (hown : s.vm.findClass own = some m.cls) (hB : ∀ w ∈ bs_big, w.before args s = true) (hN : bs_NW s) (hZ : bx_Z s) (hold : ∀ q, q < s.heap.size → ¬ A q)
    (hK : va_K D bs_cl tys s) (hP : va_P D bs_cl ws H) (hD : va_D A ws) (hS : va_S A s.heap H locs) (hA : ∀ q, s.heap.size ≤ q → A q)
    (hM : bx_CH l y bytes maxL hh D As ty w0 post w1)
    (kcd : Cond.codeWith y bytes maxL (some .int) hh ∈ bs_big) (kml : Cond.methodLink own index y ∈ bs_big) (kst : Cond.static y ∈ bs_big) (kin : Cond.initialized y.cls ∈ bs_big)
    (hd : y.cls ≠ "java/lang/invoke/MethodHandle" ∧ y.cls ≠ "java/lang/invoke/VarHandle" ∧ (parseMethodDescriptor y.desc).map (fun d => d.parameters.length) = some n)
    (hR : 11 ≤ R.frames ∧ 8 + (maxL + 11) + 320 ≤ R.locals)
    (isC isR : List Nat) (hC : isC.map (fun i => ws[i]?) = w0.map some) (hRw : isR.map (fun i => ws[i]?) = wr.map some) (hnd : va_nd isC = true ∧ va_nd isR = true ∧ ∀ i ∈ isR, i ∉ isC)
    (it : List Nat) (hty : it.filterMap (fun i => tys[i]?) = ty)
    (ip : List Nat) (hip : va_nd ip = true) (hiq : ∀ u, ip.map (fun i => (wr ++ w1 u)[i]?) = (w2 u).map some)
    (hn : As.length = n) (hsz : ls.size = nL) (hrest : (rest.map fun v => v.category).sum ≤ 8) (hcs : cells + 1 ≤ R.cells ∧ slots + 6 ≤ R.slots) (hdg : decode cc pc = .ok (.invokestatic index, 3))
    {st0 : List Value} (hst : st0 = As.reverse ++ rest)
    (kk : ∀ (r : Int32) (u : S) (H1 : Heap) (locs1 : List Loc), post r u → va_P D bs_cl (w2 u) H1 → va_D A (w2 u) → va_S A s.heap H1 locs1 → W p l e R s m args below meth c H1 locs1 (cells + 1) (slots + 6) Q (F0 m (pc + 3) ls (.int r :: rest))) :
    W p l e R s m args below meth c H locs cells slots Q (F0 m pc ls st0) := by
  subst hst
  obtain ⟨hnC, hnR, hdis⟩ := hnd
  have hPc := hP.sub (ws' := w0) isC (bs_fm hC)
  have hDc := hD.sub (ws' := w0) isC hnC hC
  have hKc := hK.sub (tys' := ty) it hty
  have hFc := va_free (wc := w0) hD hS hA isC hC
  have hpayc : ∀ w ∈ (Cond.codeWith y bytes maxL (some .int) hh :: bs_big), ∀ (a' : Array Value) (U : State), s.WarmedH U.vm → w.before a' U = true := fun w hw a' U hW => by
    have hw' : w ∈ bs_big := by
      rcases List.mem_cons.mp hw with rfl | hw
      · exact kcd
      · exact hw
    exact word_at hW (good_of_word (List.mem_filter.mp hw').2) (hB w hw')
  have hbl : FrameBlind (va_Pc As (fun U => bs_Pre D w0 ty H.size U ∧ bx_Z U)) := fun a U g mk q => by
    obtain ⟨q0, q1, q2⟩ := q
    exact ⟨q0, (bs_blind (av := As) a U g mk ⟨q0, q1⟩).2, q2.same rfl (fun _ _ h => h)⟩
  have hBk : Back l R p e below s args y 3 8 (PreOf R 1 6 (va_Pc As (fun U => bs_Pre D w0 ty H.size U ∧ bx_Z U))) (PostOf (va_Qi post (bs_B D w1 (va_A w0 H.size)) (va_A w0 H.size)) 1 6 (va_A w0 H.size)) :=
    va_backW (hh := hh) (bytes := bytes) (maxL := maxL) (ret := some .int) (hM H.size) hbl rfl rfl hR.1 hR.2 hpayc List.mem_cons_self (fun a' U hW => word_at hW (good_of_word (List.mem_filter.mp kin).2) (hB _ kin))
  have hPre : ∀ U : State, U.heap = H → s.WarmedH U.vm → va_Pc As (fun U => bs_Pre D w0 ty H.size U ∧ bx_Z U) As.toArray U := fun U hU hW =>
    ⟨rfl, ⟨by rw [hU], by rw [hU]; exact hPc, va_K.moved hW.alike hKc, hDc.weaken (fun _ _ _ _ => trivial), hN.warm hW⟩, hZ.warm hW (fun q cell h => by
      have hlt : q < s.heap.size := (Array.getElem?_eq_some_iff.mp h).1
      rw [hU, hS.2.1 q hlt (hold q hlt)]; exact h)⟩
  have hrun : va_Run p l e R s m args below meth c H locs cells slots 1 6 (F0 m pc ls (As.reverse ++ rest)) rest (va_Qi post (bs_B D w1 (va_A w0 H.size)) (va_A w0 H.size) As.toArray) (va_A w0 H.size) := by
    intro T hT X
    obtain ⟨v, vm₁, ⟨U', l2, c2, s2⟩, hW₁, X', ⟨g', mk, t, L, e1, e2, hq, h1, hL, h2, h3⟩, st⟩ := bx_callSW X hx (bytes := bytes) (maxL := maxL) (ret := some .int) (hh := hh) hown (hB _ kml) (hB _ kst) (hB _ kin) (hB _ kcd) ⟨hd.1, hd.2.1⟩ hBk (g := F0 m pc ls (As.reverse ++ rest)) rfl (hsz.trans hml.symm) (argsL := As) (rest := rest)
      (fun sig h => by have h2 := hd.2.2; rw [h] at h2; exact hn.trans (Option.some.inj h2).symm) rfl (lv_room hrest) (by rw [hb]; exact hdg) (fun vm₁ hW₁ => ⟨hcs.1, hcs.2, hPre (T.setVm vm₁) hT hW₁⟩)
    dsimp only [Pt.U, Pt.locs, Pt.cells, Pt.slots] at X' e1 e2 h1 h2 h3 st
    subst h1; subst h2; subst h3
    exact ⟨v, (T.setVm vm₁).calling g' mk As.toArray, t, U', L, hT, X', hL, e1, e2, hq, st⟩
  refine va_calli hrun hS (fun q _ h => hFc q h) hFc (fun r u t H1 locs1 ht hvm hpo hBu hz1 hk1 hS1 => ?_)
  obtain ⟨hP1, hD1⟩ := hBu
  rw [ht] at hP1
  obtain ⟨hP2, hD2⟩ := va_join (wr := wr) (w1 := w1 u) hP hD isC isR hC hRw hnR hdis hk1 hFc hP1 hD1
  exact kk r u H1 locs1 hpo (hP2.sub ip (bs_fm (hiq u))) (hD2.sub ip hip (hiq u)) hS1
end BXHS
