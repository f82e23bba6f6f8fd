-- constructors: contracts with new cells, their calls
def bs_CN (l : Launch) (y : MethodName) (cc : ByteArray) (maxL : Nat) (rm : Room) (D : va_G) (av : List Value) (ty : List (ClassId × FieldType)) (w0 : va_W) (mc ms : Nat) {S : Type} (w1 : S → va_W) (ty1 : S → List (ClassId × FieldType)) : Prop :=
  ∀ sz : Nat, Met l y (Cond.code y cc maxL none :: bs_big) rm (va_Pc av (bs_Pre D w0 ty sz)) (va_Qv (fun _ : S => True) (fun u t => va_P D bs_cl (w1 u) t.heap ∧ va_D (va_A w0 sz) (w1 u) ∧ va_K D bs_cl (ty1 u) t) (va_A w0 sz)) mc ms (va_A w0 sz)
def bs_QN (below : List Frame) (s : State) (av : List Value) (D : va_G) (A : Nat → Prop) (mc ms : Nat) {S : Type} (w1 : S → va_W) (ty1 : S → List (ClassId × FieldType)) : State → Prop := MQ below (va_Qv (fun _ : S => True) (fun u t => va_P D bs_cl (w1 u) t.heap ∧ va_D A (w1 u) ∧ va_K D bs_cl (ty1 u) t) A) av.toArray s mc ms A
abbrev bs_rn (d c n : Nat) : Room := { frames := d, cells := c, slots := n, locals := 32 * d }
section BNM
variable {l : Launch} {y : MethodName} {cc : ByteArray} {maxL : Nat} {rm : Room} {D : va_G} {av : List Value} {ty : List (ClassId × FieldType)} {w0 : va_W} {mc ms : Nat} {S : Type}
theorem bs_CN.mk {w1 : S → va_W} {ty1 : S → List (ClassId × FieldType)} (hy : plainName y.cls = true) (hyn : y.name = "<init>") (hav : (lg_sl av).length ≤ maxL)
    (body : ∀ (p : Program) (e : Env) (s : State) (m : MethodId) (below : List Frame) (meth : Method) (c : Code) (ls : Array Slot) (A : Nat → Prop),
      p.tables.exec = Jvm.exec → c.code = cc → meth.sig.returnType = none → c.maxLocals = maxL → meth.locks = false → meth.name = "<init>" → s.vm.findClass y.cls = some m.cls →
      (∀ w ∈ bs_big, w.before av.toArray s = true) → bs_NW s → va_P D bs_cl w0 s.heap → va_K D bs_cl ty s → va_D A w0 → va_S A s.heap s.heap [] → (∀ q, s.heap.size ≤ q → A q) → lv_has ls maxL (lv_args 0 av) →
      W p l e rm s m av.toArray below meth c s.heap [] 0 0 (bs_QN below s av D A mc ms w1 ty1) (F0 m 0 ls [])) : bs_CN l y cc maxL rm D av ty w0 mc ms w1 ty1 := by
  intro sz
  refine Met.ofW (cc := cc) (maxL := maxL) (ret := none) hy rfl ?_
  intro p e s m args below meth c s₁ B hml hv
  obtain ⟨rfl, hsz, hP, hK, hD0, hN⟩ := hv
  have hts := atoms_spec (ws := Cond.code y cc maxL none :: bs_big) B.pre
  subst hsz
  have hD := hD0.self (sz := s.heap.size)
  have hl := lv_entry av (n := maxL) hav
  rw [lg_entry_eq]
  exact body p e s m below meth c _ (va_A w0 s.heap.size) B.exec B.bytes B.returns hml B.notSynchronized ((name_of_methodNamed B.named B.method).1.trans hyn) (findClass_of_methodNamed B.named) (fun w h => hts w (List.mem_cons_of_mem _ h)) hN hP hK hD va_S.rf (fun q h => Or.inr h) hl
end BNM
section BNR
variable {p : Program} {l : Launch} {e : Env} {R : Room} {s : State} {m : MethodId} {below : List Frame} {meth : Method} {c : Code} {H : Heap} {locs : List Loc} {cc : ByteArray} {pc : Nat} {ls : Array Slot} {D : va_G} {av : List Value} {A : Nat → Prop} {S : Type} {cells slots mc ms : Nat}
theorem bs_retN {w1 : S → va_W} {ty1 : S → List (ClassId × FieldType)} (hc : cells ≤ mc) (hs : slots ≤ ms) (hx : p.tables.exec = Jvm.exec) (hb : c.code = cc) (hr : meth.sig.returnType = none) (hlk : meth.locks = false) (u : S)
    (hP : va_P D bs_cl (w1 u) H) (hD : va_D A (w1 u)) (hK : va_K D bs_cl (ty1 u) s) (hS : va_S A s.heap H locs) (hdg : decode cc pc = .ok (.return_, 1)) : W p l e R s m av.toArray below meth c H locs cells slots (bs_QN below s av D A mc ms w1 ty1) (F0 m pc ls []) :=
  bx_more hc hs (W.vret hx hb hr (fun t ht hW => ⟨⟨u, rfl, trivial, by rw [ht]; exact hP, hD, va_K.moved hW.alike hK⟩, hS.F ht⟩) hS.2.2 hdg (hlocks := hlk))
end BNR
section BNC
variable {p : Program} {l : Launch} {e : Env} {R : Room} {s : State} {m : MethodId} {args : Array Value} {below : List Frame} {meth : Method} {c : Code} {H : Heap} {locs : List Loc} {cells slots : Nat} {Q : State → Prop}
variable {cc bytes : ByteArray} {nL maxL index pc : Nat} {ls : Array Slot} {own : String} {y : MethodName} {rm : Room} {D : va_G} {b : Nat} {ty tys : List (ClassId × FieldType)} {ws w0 : va_W} {S : Type} {w1 : S → va_W} {ty1 : S → List (ClassId × FieldType)} {A : Nat → Prop} {H0 : Heap} {mc ms : Nat}
theorem bs_callN (wr : va_W) (w2 : S → va_W) (rest : List Value)
    (hN : bs_NW s) (hK : va_K D bs_cl tys s) (hP : va_P D bs_cl ws H) (hD : va_D A ws) (hS : va_S A H0 H locs) (hA : ∀ q, H0.size ≤ q → A q)
    {As : List Value} (hrun : PreS s H (va_Pc (.ref b :: As) (bs_Pre D w0 ty H.size)) (.ref b :: As) → va_Run p l e R s m args below meth c H locs cells slots mc ms (F0 m pc ls (As.reverse ++ .ref b :: rest)) rest (va_Qv (fun _ : S => True) (fun u t => va_P D bs_cl (w1 u) t.heap ∧ va_D (va_A w0 H.size) (w1 u) ∧ va_K D bs_cl (ty1 u) t) (va_A w0 H.size) (Value.ref b :: As).toArray) (va_A w0 H.size))
    (isC isR : List Nat) (hC : isC.map (fun i => ws[i]?) = w0.map some) (hRw : isR.map (fun i => ws[i]?) = wr.map some) (hnd : va_nd isC = true ∧ va_nd isR = true ∧ ∀ i ∈ isR, i ∉ isC)
    (it : List Nat) (hty : it.filterMap (fun i => tys[i]?) = ty)
    (ip : List Nat) (hip : va_nd ip = true) (hiq : ∀ u, ip.map (fun i => (wr ++ w1 u)[i]?) = (w2 u).map some)
    {st0 : List Value} (hst : st0 = As.reverse ++ .ref b :: rest)
    (kk : ∀ (u : S) (H1 : Heap) (locs1 : List Loc), va_P D bs_cl (w2 u) H1 → va_D A (w2 u) → va_S A H0 H1 locs1 → va_K D bs_cl (tys ++ ty1 u) s → W p l e R s m args below meth c H1 locs1 (cells + mc) (slots + ms) Q (F0 m (pc + 3) ls rest)) :
    W p l e R s m args below meth c H locs cells slots Q (F0 m pc ls st0) := by
  subst hst
  obtain ⟨hnC, hnR, hdis⟩ := hnd
  have hPc := hP.sub (ws' := w0) isC (bs_fm hC)
  have hDc := hD.sub (ws' := w0) isC hnC hC
  have hKc := hK.sub (tys' := ty) it hty
  have hFc := va_free (wc := w0) hD hS hA isC hC
  refine va_callv (hrun ⟨bs_blind, fun U hU hW => ⟨rfl, by rw [hU], by rw [hU]; exact hPc, va_K.moved hW.alike hKc, hDc.weaken (fun _ _ _ _ => trivial), hN.warm hW⟩⟩) hS (fun q _ h => hFc q h) hFc (fun u t H1 locs1 ht hvm _ hBu hz1 hk1 hS1 => ?_)
  obtain ⟨hP1, hD1, hK1⟩ := hBu
  rw [ht] at hP1
  obtain ⟨hP2, hD2⟩ := va_join (wr := wr) (w1 := w1 u) hP hD isC isR hC hRw hnR hdis hk1 hFc hP1 hD1
  exact kk u H1 locs1 (hP2.sub ip (bs_fm (hiq u))) (hD2.sub ip hip (hiq u)) hS1 (hK.app (va_K.moved hvm.symm hK1))
theorem bs_gI {ret : Option FieldType} (kcd : Cond.code y bytes maxL ret ∈ bs_big) : GoodIn bs_big (Cond.code y bytes maxL ret :: bs_big) := bs_good (by
  intro w hw
  rcases List.mem_cons.mp hw with rfl | h
  all_goals assumption)
/-- `new`'s constructor -/
theorem bs_callI {As : List Value} (n : Nat) (wr : va_W) (w2 : S → va_W) (rest : List Value)
    (hx : p.tables.exec = Jvm.exec) (hb : c.code = cc) (hml : c.maxLocals = nL) (hown : s.vm.findClass own = some m.cls) (hB : ∀ w ∈ bs_big, w.before args s = true) (hN : bs_NW s)
    (hK : va_K D bs_cl tys s) (hP : va_P D bs_cl ws H) (hD : va_D A ws) (hS : va_S A H0 H locs) (hA : ∀ q, H0.size ≤ q → A q)
    (hM : bs_CN l y bytes maxL rm D (.ref b :: As) ty w0 mc ms w1 ty1)
    (kcd : Cond.code y bytes maxL none ∈ bs_big) (kml : Cond.methodLink own index y ∈ bs_big) (kim : Cond.instanceMethod y ∈ bs_big) (kin : Cond.initialized y.cls ∈ bs_big) (hy1 : y.name = "<init>")
    (hd : y.cls ≠ "java/lang/invoke/MethodHandle" ∧ y.cls ≠ "java/lang/invoke/VarHandle" ∧ (parseMethodDescriptor y.desc).map (fun d => d.parameters.length) = some n)
    (hR : rm.cells = mc ∧ rm.slots = ms ∧ rm.frames + 1 ≤ R.frames ∧ 8 + (maxL + 11) + rm.locals ≤ R.locals)
    (isC isR : List Nat) (hC : isC.map (fun i => ws[i]?) = w0.map some) (hRw : isR.map (fun i => ws[i]?) = wr.map some) (hnd : va_nd isC = true ∧ va_nd isR = true ∧ ∀ i ∈ isR, i ∉ isC)
    (it : List Nat) (hty : it.filterMap (fun i => tys[i]?) = ty)
    (ip : List Nat) (hip : va_nd ip = true) (hiq : ∀ u, ip.map (fun i => (wr ++ w1 u)[i]?) = (w2 u).map some)
    (hn : As.length = n) (hsz : ls.size = nL) (hrest : (rest.map fun v => v.category).sum ≤ 8) (hcs : cells + mc ≤ R.cells ∧ slots + ms ≤ R.slots) (hdg : decode cc pc = .ok (.invokespecial index, 3))
    {st0 : List Value} (hst : st0 = As.reverse ++ .ref b :: rest)
    (kk : ∀ (u : S) (H1 : Heap) (locs1 : List Loc), va_P D bs_cl (w2 u) H1 → va_D A (w2 u) → va_S A H0 H1 locs1 → va_K D bs_cl (tys ++ ty1 u) s → W p l e R s m args below meth c H1 locs1 (cells + mc) (slots + ms) Q (F0 m (pc + 3) ls rest)) :
    W p l e R s m args below meth c H locs cells slots Q (F0 m pc ls st0) :=
  bs_callN wr w2 rest hN hK hP hD hS hA (fun hp => va_runI (As := As) (rest := rest) (b := b) ⟨hx, hb, hml, hown, hB⟩ (hM H.size) (cwI n hB (bs_gI kcd) rfl hR.1 hR.2.1 (hB _ kin) (hB _ kml) (hB _ kim) hy1 hd ⟨hR.2.2.1, hR.2.2.2⟩) hp rfl hn hsz rfl (lv_room hrest) hdg hcs) isC isR hC hRw hnd it hty ip hip hiq hst kk
/-- .. that is private, of a nest mate -/
theorem bs_callIN {As : List Value} {host : String} (n : Nat) (wr : va_W) (w2 : S → va_W) (rest : List Value)
    (hx : p.tables.exec = Jvm.exec) (hb : c.code = cc) (hml : c.maxLocals = nL) (hown : s.vm.findClass own = some m.cls) (hB : ∀ w ∈ bs_big, w.before args s = true) (hN : bs_NW s)
    (hK : va_K D bs_cl tys s) (hP : va_P D bs_cl ws H) (hD : va_D A ws) (hS : va_S A H0 H locs) (hA : ∀ q, H0.size ≤ q → A q)
    (hM : bs_CN l y bytes maxL rm D (.ref b :: As) ty w0 mc ms w1 ty1)
    (kcd : Cond.code y bytes maxL none ∈ bs_big) (kml : Cond.methodLinkNest own index y host ∈ bs_nest) (kim : Cond.instanceMethod y ∈ bs_big) (kin : Cond.initialized y.cls ∈ bs_big) (hy1 : y.name = "<init>")
    (hd : y.cls ≠ "java/lang/invoke/MethodHandle" ∧ y.cls ≠ "java/lang/invoke/VarHandle" ∧ (parseMethodDescriptor y.desc).map (fun d => d.parameters.length) = some n)
    (hR : rm.cells = mc ∧ rm.slots = ms ∧ rm.frames + 1 ≤ R.frames ∧ 8 + (maxL + 11) + rm.locals ≤ R.locals)
    (isC isR : List Nat) (hC : isC.map (fun i => ws[i]?) = w0.map some) (hRw : isR.map (fun i => ws[i]?) = wr.map some) (hnd : va_nd isC = true ∧ va_nd isR = true ∧ ∀ i ∈ isR, i ∉ isC)
    (it : List Nat) (hty : it.filterMap (fun i => tys[i]?) = ty)
    (ip : List Nat) (hip : va_nd ip = true) (hiq : ∀ u, ip.map (fun i => (wr ++ w1 u)[i]?) = (w2 u).map some)
    (hn : As.length = n) (hsz : ls.size = nL) (hrest : (rest.map fun v => v.category).sum ≤ 8) (hcs : cells + mc ≤ R.cells ∧ slots + ms ≤ R.slots) (hdg : decode cc pc = .ok (.invokespecial index, 3))
    {st0 : List Value} (hst : st0 = As.reverse ++ .ref b :: rest)
    (kk : ∀ (u : S) (H1 : Heap) (locs1 : List Loc), va_P D bs_cl (w2 u) H1 → va_D A (w2 u) → va_S A H0 H1 locs1 → va_K D bs_cl (tys ++ ty1 u) s → W p l e R s m args below meth c H1 locs1 (cells + mc) (slots + ms) Q (F0 m (pc + 3) ls rest)) :
    W p l e R s m args below meth c H locs cells slots Q (F0 m pc ls st0) :=
  bs_callN wr w2 rest hN hK hP hD hS hA (fun hp => va_runIN (As := As) (rest := rest) (b := b) ⟨hx, hb, hml, hown, hB⟩ (hM H.size) ⟨va_cnB n hB (bs_gI kcd) rfl hR.1 hR.2.1 (hN _ kml) (hB _ kin) hd ⟨hR.2.2.1, hR.2.2.2⟩, hy1, hB _ kim⟩ hp rfl hn hsz rfl (lv_room hrest) hdg hcs) isC isR hC hRw hnd it hty ip hip hiq hst kk
end BNC
