-- the ground: contracts that make no cell, their calls, rows with a named result (by base.py)
theorem bs_fm {α β : Type} {f : α → Option β} : ∀ {is : List α} {xs : List β}, is.map f = xs.map some → is.filterMap f = xs
  | [], [], _ => rfl
  | [], x :: xs, h => by simp at h
  | a :: is, [], h => by simp at h
  | a :: is, x :: xs, h => by
    simp only [List.map_cons, List.cons.injEq] at h
    rw [List.filterMap_cons_some h.1, bs_fm h.2]
/-- words on private members of nest mates: they stay through a run, but not by their form -/
def bs_nest : List Cond := [(Cond.fieldLinkNest cn_Fr 7 cn_Rw "size" "I" cn_Lp), (Cond.fieldLinkNest cn_Cn 59 cn_Rw "size" "I" cn_Lp), (Cond.fieldLinkNest cn_Lp 91 cn_Rw "size" "I" cn_Lp), (Cond.fieldLinkNest cn_Pf 78 cn_Rw "size" "I" cn_Lp), (Cond.fieldLinkNest cn_Mt 80 cn_Rw "size" "I" cn_Lp), (Cond.methodLinkNest cn_Lp 23 my_As_init cn_Lp), (Cond.fieldLinkNest cn_Lp 110 cn_As "s" "I" cn_Lp), (Cond.fieldLinkNest cn_Lp 113 cn_As "\x72" "I" cn_Lp), (Cond.fieldLinkNest cn_Lp 74 cn_Pf "columnCount" "I" cn_Lp), (Cond.fieldLinkNest cn_Mt 27 cn_Pf "period" "I" cn_Lp), (Cond.fieldLinkNest cn_Lp 69 cn_Pf "size" "I" cn_Lp), (Cond.fieldLinkNest cn_Lp 57 cn_Mt "registers" "[I" cn_Lp), (Cond.fieldLinkNest cn_Lp 65 cn_Mt "profile" "LLoadProfileMeter$Profile;" cn_Lp), (Cond.fieldLinkNest cn_Lp 61 cn_Mt "now" "I" cn_Lp), (Cond.fieldLinkNest cn_Lp 37 cn_Cn "meter" "LLoadProfileMeter$Meter;" cn_Lp)]
theorem bs_ntab : ∀ w ∈ bs_nest, w.onTables = true := by decide +kernel
theorem bs_nin : ∀ w ∈ bs_nest, w ∈ lw_tbl := List.forall_mem_cons.mpr ⟨kw_fn_Fr_7, List.forall_mem_cons.mpr ⟨kw_fn_Cn_59, List.forall_mem_cons.mpr ⟨kw_fn_Lp_91, List.forall_mem_cons.mpr ⟨kw_fn_Pf_78, List.forall_mem_cons.mpr ⟨kw_fn_Mt_80, List.forall_mem_cons.mpr ⟨kw_mn_Lp_23, List.forall_mem_cons.mpr ⟨kw_fn_Lp_110, List.forall_mem_cons.mpr ⟨kw_fn_Lp_113, List.forall_mem_cons.mpr ⟨kw_fn_Lp_74, List.forall_mem_cons.mpr ⟨kw_fn_Mt_27, List.forall_mem_cons.mpr ⟨kw_fn_Lp_69, List.forall_mem_cons.mpr ⟨kw_fn_Lp_57, List.forall_mem_cons.mpr ⟨kw_fn_Lp_65, List.forall_mem_cons.mpr ⟨kw_fn_Lp_61, List.forall_mem_cons.mpr ⟨kw_fn_Lp_37, fun _ h => absurd h List.not_mem_nil⟩⟩⟩⟩⟩⟩⟩⟩⟩⟩⟩⟩⟩⟩⟩
def bs_NW (U : State) : Prop := ∀ w ∈ bs_nest, va_Nw w U
theorem bs_NW.same {u U : State} (h : bs_NW u) (e : u.vm = U.vm) : bs_NW U := fun w hw => va_Nw.same (bs_ntab w hw) e (h w hw)
theorem bs_NW.warm {s U : State} (h : bs_NW s) (hW : s.WarmedH U.vm) : bs_NW U := by
  intro w hw
  have h1 := h w hw
  simp only [bs_nest, List.mem_cons, List.not_mem_nil, or_false] at hw
  rcases hw with rfl | rfl | rfl | rfl | rfl | rfl | rfl | rfl | rfl | rfl | rfl | rfl | rfl | rfl | rfl <;> first | exact va_Nw.warmF hW h1 | exact va_Nw.warmM hW h1
theorem bs_NW.use {U : State} {w : Cond} {args : Array Value} (h : bs_NW U) (hw : w ∈ bs_nest) : w.before args U = true := va_Nw.use (bs_ntab w hw) (h w hw)
abbrev bs_Pre (D : va_G) (w : va_W) (ty : List (ClassId × FieldType)) (sz : Nat) (U : State) : Prop :=
  U.heap.size = sz ∧ va_P D bs_cl w U.heap ∧ va_K D bs_cl ty U ∧ va_D (fun _ => True) w ∧ bs_NW U
theorem bs_blind {D : va_G} {w : va_W} {ty : List (ClassId × FieldType)} {sz : Nat} {av : List Value} : FrameBlind (va_Pc av (bs_Pre D w ty sz)) := fun a U g mk q => by
  obtain ⟨q0, q1, qP, qK, qD, qN⟩ := q
  exact ⟨q0, q1, qP, va_K.moved (u := U) (U := U.calling g mk a) (Vm.Alike.refl U.vm) qK, qD, qN.same (U := U.calling g mk a) rfl⟩
abbrev bs_B (D : va_G) {S : Type} (w1 : S → va_W) (A : Nat → Prop) (u : S) (t : State) : Prop := va_P D bs_cl (w1 u) t.heap ∧ va_D A (w1 u)
/-- a method that answers nothing and makes no cell: from the cells w0 to the cells w1 u, for some u with post u -/
def bs_CV (l : Launch) (y : MethodName) (cc : ByteArray) (maxL : Nat) (rm : Room) (D : va_G) (av : List Value) (ty : List (ClassId × FieldType)) (w0 : va_W) {S : Type} (post : S → Prop) (w1 : S → va_W) : Prop :=
  ∀ sz : Nat, Met l y (Cond.code y cc maxL none :: bs_big) rm (va_Pc av (bs_Pre D w0 ty sz)) (va_Qv post (bs_B D w1 (va_A w0 sz)) (va_A w0 sz)) 0 0 (va_A w0 sz)
/-- .. that answers an int or a boolean -/
def bs_CI (l : Launch) (y : MethodName) (cc : ByteArray) (maxL : Nat) (rt : FieldType) (rm : Room) (D : va_G) (av : List Value) (ty : List (ClassId × FieldType)) (w0 : va_W) {S : Type} (post : Int32 → S → Prop) (w1 : S → va_W) : Prop :=
  ∀ sz : Nat, Met l y (Cond.code y cc maxL (some rt) :: bs_big) rm (va_Pc av (bs_Pre D w0 ty sz)) (va_Qi post (bs_B D w1 (va_A w0 sz)) (va_A w0 sz)) 0 0 (va_A w0 sz)
def bs_QV (below : List Frame) (s : State) (av : List Value) (D : va_G) (A : Nat → Prop) {S : Type} (post : S → Prop) (w1 : S → va_W) : State → Prop := MQ below (va_Qv post (bs_B D w1 A) A) av.toArray s 0 0 A
def bs_QI (below : List Frame) (s : State) (av : List Value) (D : va_G) (A : Nat → Prop) {S : Type} (post : Int32 → S → Prop) (w1 : S → va_W) : State → Prop := MQ below (va_Qi post (bs_B D w1 A) A) av.toArray s 0 0 A
section BSM
variable {l : Launch} {y : MethodName} {cc : ByteArray} {maxL : Nat} {rt : FieldType} {rm : Room} {D : va_G} {av : List Value} {ty : List (ClassId × FieldType)} {w0 : va_W} {S : Type}
theorem bs_CV.mk {post : S → Prop} {w1 : S → va_W} (hy : plainName y.cls = true) (hav : (lg_sl av).length ≤ maxL)
    (body : ∀ (p : Program) (e : Env) (s : State) (m : MethodId) (below : List Frame) (meth : Method) (c : Code) (ls : Array Slot) (A : Nat → Prop),
      p.tables.exec = Jvm.exec → c.code = cc → meth.sig.returnType = none → c.maxLocals = maxL → meth.locks = false → s.vm.findClass y.cls = some m.cls →
      (∀ w ∈ bs_big, w.before av.toArray s = true) → bs_NW s → va_P D bs_cl w0 s.heap → va_K D bs_cl ty s → va_D A w0 → va_S A s.heap s.heap [] → (∀ q, s.heap.size ≤ q → A q) → lv_has ls maxL (lv_args 0 av) →
      W p l e rm s m av.toArray below meth c s.heap [] 0 0 (bs_QV below s av D A post w1) (F0 m 0 ls [])) : bs_CV l y cc maxL rm D av ty w0 post w1 := by
  intro sz
  refine Met.ofW (cc := cc) (maxL := maxL) (ret := none) hy rfl ?_
  intro p e s m args below meth c s₁ B hml hv
  obtain ⟨rfl, hsz, hP, hK, hD0, hN⟩ := hv
  have hts := atoms_spec (ws := Cond.code y cc maxL none :: bs_big) B.pre
  subst hsz
  have hD := hD0.self (sz := s.heap.size)
  have hl := lv_entry av (n := maxL) hav
  rw [lg_entry_eq]
  exact body p e s m below meth c _ (va_A w0 s.heap.size) B.exec B.bytes B.returns hml B.notSynchronized (findClass_of_methodNamed B.named) (fun w h => hts w (List.mem_cons_of_mem _ h)) hN hP hK hD va_S.rf (fun q h => Or.inr h) hl
theorem bs_CI.mk {post : Int32 → S → Prop} {w1 : S → va_W} (hy : plainName y.cls = true) (hav : (lg_sl av).length ≤ maxL)
    (body : ∀ (p : Program) (e : Env) (s : State) (m : MethodId) (below : List Frame) (meth : Method) (c : Code) (ls : Array Slot) (A : Nat → Prop),
      p.tables.exec = Jvm.exec → c.code = cc → meth.sig.returnType = some rt → c.maxLocals = maxL → meth.locks = false → s.vm.findClass y.cls = some m.cls →
      (∀ w ∈ bs_big, w.before av.toArray s = true) → bs_NW s → va_P D bs_cl w0 s.heap → va_K D bs_cl ty s → va_D A w0 → va_S A s.heap s.heap [] → (∀ q, s.heap.size ≤ q → A q) → lv_has ls maxL (lv_args 0 av) →
      W p l e rm s m av.toArray below meth c s.heap [] 0 0 (bs_QI below s av D A post w1) (F0 m 0 ls [])) : bs_CI l y cc maxL rt rm D av ty w0 post w1 := by
  intro sz
  refine Met.ofW (cc := cc) (maxL := maxL) (ret := some rt) hy rfl ?_
  intro p e s m args below meth c s₁ B hml hv
  obtain ⟨rfl, hsz, hP, hK, hD0, hN⟩ := hv
  have hts := atoms_spec (ws := Cond.code y cc maxL (some rt) :: bs_big) B.pre
  subst hsz
  have hD := hD0.self (sz := s.heap.size)
  have hl := lv_entry av (n := maxL) hav
  rw [lg_entry_eq]
  exact body p e s m below meth c _ (va_A w0 s.heap.size) B.exec B.bytes B.returns hml B.notSynchronized (findClass_of_methodNamed B.named) (fun w h => hts w (List.mem_cons_of_mem _ h)) hN hP hK hD va_S.rf (fun q h => Or.inr h) hl
end BSM
section BSR
variable {p : Program} {l : Launch} {e : Env} {R : Room} {s : State} {m : MethodId} {below : List Frame} {meth : Method} {c : Code} {H : Heap} {locs : List Loc} {cc : ByteArray} {pc : Nat} {ls : Array Slot} {D : va_G} {av : List Value} {A : Nat → Prop} {S : Type}
theorem bs_retV {post : S → Prop} {w1 : S → va_W} (hx : p.tables.exec = Jvm.exec) (hb : c.code = cc) (hr : meth.sig.returnType = none) (hlk : meth.locks = false) (u : S) (hpo : post u)
    (hP : va_P D bs_cl (w1 u) H) (hD : va_D A (w1 u)) (hS : va_S A s.heap H locs) (hdg : decode cc pc = .ok (.return_, 1)) : W p l e R s m av.toArray below meth c H locs 0 0 (bs_QV below s av D A post w1) (F0 m pc ls []) :=
  W.vret hx hb hr (fun t ht hW => ⟨⟨u, rfl, hpo, by rw [ht]; exact hP, hD⟩, hS.F ht⟩) hS.2.2 hdg (hlocks := hlk)
theorem bs_retI {post : Int32 → S → Prop} {w1 : S → va_W} {v : Int32} (hx : p.tables.exec = Jvm.exec) (hb : c.code = cc) (hr : meth.sig.returnType = some .int) (hlk : meth.locks = false) (u : S) (hpo : post v u)
    (hP : va_P D bs_cl (w1 u) H) (hD : va_D A (w1 u)) (hS : va_S A s.heap H locs) (hdg : decode cc pc = .ok (.ireturn, 1)) : W p l e R s m av.toArray below meth c H locs 0 0 (bs_QI below s av D A post w1) (F0 m pc ls [.int v]) :=
  W.iret (v := v) hx hb hr (fun t ht hW => ⟨⟨v, u, rfl, hpo, by rw [ht]; exact hP, hD⟩, hS.F ht⟩) hS.2.2 hdg (hlocks := hlk)
theorem bs_retZ {post : Int32 → S → Prop} {w1 : S → va_W} {v : Int32} (hx : p.tables.exec = Jvm.exec) (hb : c.code = cc) (hr : meth.sig.returnType = some .boolean) (hlk : meth.locks = false) (hv : v = 0 ∨ v = 1) (u : S) (hpo : post v u)
    (hP : va_P D bs_cl (w1 u) H) (hD : va_D A (w1 u)) (hS : va_S A s.heap H locs) (hdg : decode cc pc = .ok (.ireturn, 1)) : W p l e R s m av.toArray below meth c H locs 0 0 (bs_QI below s av D A post w1) (F0 m pc ls [.int v]) :=
  W.zret (v := v) (ty := .boolean) hx hb hr (by rcases hv with rfl | rfl <;> first | exact narrow_b0 | exact narrow_b1) (fun t ht hW => ⟨⟨v, u, rfl, hpo, by rw [ht]; exact hP, hD⟩, hS.F ht⟩) hS.2.2 hdg (hlocks := hlk)
end BSR
section BSC
variable {p : Program} {l : Launch} {e : Env} {R : Room} {s : State} {m : MethodId} {args : Array Value} {below : List Frame} {meth : Method} {c : Code} {H : Heap} {locs : List Loc} {cells slots : Nat} {Q : State → Prop}
variable {cc bytes : ByteArray} {nL maxL index pc : Nat} {ls : Array Slot} {own C : String} {y : MethodName} {rt : FieldType} {rm : Room} {D : va_G} {b : Nat} {ty tys : List (ClassId × FieldType)} {ws w0 : va_W} {S : Type} {w1 : S → va_W} {A : Nat → Prop} {H0 : Heap}
/-- what a call of a method of C's by its receiver wants of the tables -/
theorem bs_gV {ret : Option FieldType} (kcd : Cond.code y bytes maxL ret ∈ bs_big) (kml : Cond.methodLink own index y ∈ bs_big) (kim : Cond.instanceMethod y ∈ bs_big) (kse : Cond.selects C y y ∈ bs_big) (kin : Cond.initialized C ∈ bs_big) :
    GoodIn bs_big (wsV own index C y (Cond.code y bytes maxL ret :: bs_big)) := bs_good (by
  intro w hw
  unfold wsV at hw
  rcases List.mem_append.mp hw with h | h
  · simp only [List.mem_cons, List.not_mem_nil, or_false] at h
    rcases h with rfl | rfl | rfl | rfl
    all_goals assumption
  · rcases List.mem_cons.mp h with rfl | h
    all_goals assumption)
theorem bs_gS {ret : Option FieldType} (kcd : Cond.code y bytes maxL ret ∈ bs_big) (kml : Cond.methodLink own index y ∈ bs_big) (kst : Cond.static y ∈ bs_big) (kin : Cond.initialized y.cls ∈ bs_big) :
    GoodIn bs_big (va_wsS own index y (Cond.code y bytes maxL ret :: bs_big)) := bs_good (by
  intro w hw
  unfold va_wsS at hw
  rcases List.mem_append.mp hw with h | h
  · simp only [List.mem_cons, List.not_mem_nil, or_false] at h
    rcases h with rfl | rfl | rfl
    all_goals assumption
  · rcases List.mem_cons.mp h with rfl | h
    all_goals assumption)
theorem bs_callVv {post : S → Prop} {As : List Value} (n : Nat) (wr : va_W) (w2 : S → va_W) (rest : List Value)
    (hx : p.tables.exec = Jvm.exec) (hb : c.code = cc) (hml : c.maxLocals = nL) (hown : s.vm.findClass own = some m.cls) (hB : ∀ w ∈ bs_big, w.before args s = true) (hN : bs_NW s)
    (hK : va_K D bs_cl tys s) (hP : va_P D bs_cl ws H) (hD : va_D A ws) (hS : va_S A H0 H locs) (hA : ∀ q, H0.size ≤ q → A q)
    (hM : bs_CV l y bytes maxL rm D (.ref b :: As) ty w0 post w1)
    (kcd : Cond.code y bytes maxL none ∈ bs_big) (kml : Cond.methodLink own index y ∈ bs_big) (kim : Cond.instanceMethod y ∈ bs_big) (kse : Cond.selects C y y ∈ bs_big) (kin : Cond.initialized C ∈ bs_big)
    (hd : y.cls = C ∧ y.cls ≠ "java/lang/invoke/MethodHandle" ∧ y.cls ≠ "java/lang/invoke/VarHandle" ∧ (parseMethodDescriptor y.desc).map (fun d => d.parameters.length) = some n)
    (hR : rm.cells = 0 ∧ rm.slots = 0 ∧ rm.frames + 1 ≤ R.frames ∧ 8 + (maxL + 11) + rm.locals ≤ R.locals)
    (hrv : ∃ (ci : Nat) (fs : List Value) (q : vw_C), w0[0]? = some (b, .inr (ci, fs)) ∧ bs_cl[ci]? = some q ∧ q.1 = C)
    (isC isR : List Nat) (hC : isC.map (fun i => ws[i]?) = w0.map some) (hRw : isR.map (fun i => ws[i]?) = wr.map some) (hnd : va_nd isC = true ∧ va_nd isR = true ∧ ∀ i ∈ isR, i ∉ isC)
    (it : List Nat) (hty : it.filterMap (fun i => tys[i]?) = ty)
    (ip : List Nat) (hip : va_nd ip = true) (hiq : ∀ u, ip.map (fun i => (wr ++ w1 u)[i]?) = (w2 u).map some)
    (hn : As.length = n) (hsz : ls.size = nL) (hrest : (rest.map fun v => v.category).sum ≤ 8) (hcs : cells ≤ R.cells ∧ slots ≤ R.slots) (hdg : decode cc pc = .ok (.invokevirtual index, 3))
    {st0 : List Value} (hst : st0 = As.reverse ++ .ref b :: rest)
    (kk : ∀ (u : S) (H1 : Heap) (locs1 : List Loc), post u → va_P D bs_cl (w2 u) H1 → va_D A (w2 u) → va_S A H0 H1 locs1 → W p l e R s m args below meth c H1 locs1 cells slots Q (F0 m (pc + 3) ls rest)) :
    W p l e R s m args below meth c H locs cells slots Q (F0 m pc ls st0) := by
  subst hst
  obtain ⟨hr1, hr2, hr3, hr4⟩ := hR
  obtain ⟨hnC, hnR, hdis⟩ := hnd
  obtain ⟨ci, fs, q, hv1, hv2, hv3⟩ := hrv
  have hPc := hP.sub (ws' := w0) isC (bs_fm hC)
  have hDc := hD.sub (ws' := w0) isC hnC hC
  have hKc := hK.sub (tys' := ty) it hty
  have hFc := va_free (wc := w0) hD hS hA isC hC
  have hrec := va_recv hKc hPc hv2 hv1
  rw [hv3] at hrec
  refine va_callv (va_runV (As := As) (rest := rest) (C := C) (b := b) ⟨hx, hb, hml, hown, hB⟩ (hM H.size) (cwV n hB (bs_gV kcd kml kim kse kin) rfl hr1 hr2 hd ⟨hr3, hr4⟩) ⟨bs_blind, hrec, fun U hU hW => ⟨rfl, by rw [hU], by rw [hU]; exact hPc, va_K.moved hW.alike hKc, hDc.weaken (fun _ _ _ _ => trivial), hN.warm hW⟩⟩ rfl hn hsz rfl (lv_room hrest) hdg ⟨hcs.1, hcs.2⟩) hS (fun q _ h => hFc q h) hFc (fun u t H1 locs1 ht hvm hpo hBu hz1 hk1 hS1 => ?_)
  obtain ⟨hP1, hD1⟩ := hBu
  rw [ht] at hP1
  obtain ⟨hP2, hD2⟩ := va_join (wr := wr) (w1 := w1 u) hP hD isC isR hC hRw hnR hdis hk1 hFc hP1 hD1
  exact kk u H1 locs1 hpo (hP2.sub ip (bs_fm (hiq u))) (hD2.sub ip hip (hiq u)) hS1
theorem bs_callVi {post : Int32 → S → Prop} {As : List Value} (n : Nat) (wr : va_W) (w2 : S → va_W) (rest : List Value)
    (hx : p.tables.exec = Jvm.exec) (hb : c.code = cc) (hml : c.maxLocals = nL) (hown : s.vm.findClass own = some m.cls) (hB : ∀ w ∈ bs_big, w.before args s = true) (hN : bs_NW s)
    (hK : va_K D bs_cl tys s) (hP : va_P D bs_cl ws H) (hD : va_D A ws) (hS : va_S A H0 H locs) (hA : ∀ q, H0.size ≤ q → A q)
    (hM : bs_CI l y bytes maxL rt rm D (.ref b :: As) ty w0 post w1)
    (kcd : Cond.code y bytes maxL (some rt) ∈ bs_big) (kml : Cond.methodLink own index y ∈ bs_big) (kim : Cond.instanceMethod y ∈ bs_big) (kse : Cond.selects C y y ∈ bs_big) (kin : Cond.initialized C ∈ bs_big)
    (hd : y.cls = C ∧ y.cls ≠ "java/lang/invoke/MethodHandle" ∧ y.cls ≠ "java/lang/invoke/VarHandle" ∧ (parseMethodDescriptor y.desc).map (fun d => d.parameters.length) = some n)
    (hR : rm.cells = 0 ∧ rm.slots = 0 ∧ rm.frames + 1 ≤ R.frames ∧ 8 + (maxL + 11) + rm.locals ≤ R.locals)
    (hrv : ∃ (ci : Nat) (fs : List Value) (q : vw_C), w0[0]? = some (b, .inr (ci, fs)) ∧ bs_cl[ci]? = some q ∧ q.1 = C)
    (isC isR : List Nat) (hC : isC.map (fun i => ws[i]?) = w0.map some) (hRw : isR.map (fun i => ws[i]?) = wr.map some) (hnd : va_nd isC = true ∧ va_nd isR = true ∧ ∀ i ∈ isR, i ∉ isC)
    (it : List Nat) (hty : it.filterMap (fun i => tys[i]?) = ty)
    (ip : List Nat) (hip : va_nd ip = true) (hiq : ∀ u, ip.map (fun i => (wr ++ w1 u)[i]?) = (w2 u).map some)
    (hn : As.length = n) (hsz : ls.size = nL) (hrest : (rest.map fun v => v.category).sum ≤ 8) (hcs : cells ≤ R.cells ∧ slots ≤ R.slots) (hdg : decode cc pc = .ok (.invokevirtual index, 3))
    {st0 : List Value} (hst : st0 = As.reverse ++ .ref b :: rest)
    (kk : ∀ (r : Int32) (u : S) (H1 : Heap) (locs1 : List Loc), post r u → va_P D bs_cl (w2 u) H1 → va_D A (w2 u) → va_S A H0 H1 locs1 → W p l e R s m args below meth c H1 locs1 cells slots Q (F0 m (pc + 3) ls (.int r :: rest))) :
    W p l e R s m args below meth c H locs cells slots Q (F0 m pc ls st0) := by
  subst hst
  obtain ⟨hr1, hr2, hr3, hr4⟩ := hR
  obtain ⟨hnC, hnR, hdis⟩ := hnd
  obtain ⟨ci, fs, q, hv1, hv2, hv3⟩ := hrv
  have hPc := hP.sub (ws' := w0) isC (bs_fm hC)
  have hDc := hD.sub (ws' := w0) isC hnC hC
  have hKc := hK.sub (tys' := ty) it hty
  have hFc := va_free (wc := w0) hD hS hA isC hC
  have hrec := va_recv hKc hPc hv2 hv1
  rw [hv3] at hrec
  refine va_calli (va_runV (As := As) (rest := rest) (C := C) (b := b) ⟨hx, hb, hml, hown, hB⟩ (hM H.size) (cwV n hB (bs_gV kcd kml kim kse kin) rfl hr1 hr2 hd ⟨hr3, hr4⟩) ⟨bs_blind, hrec, fun U hU hW => ⟨rfl, by rw [hU], by rw [hU]; exact hPc, va_K.moved hW.alike hKc, hDc.weaken (fun _ _ _ _ => trivial), hN.warm hW⟩⟩ rfl hn hsz rfl (lv_room hrest) hdg ⟨hcs.1, hcs.2⟩) hS (fun q _ h => hFc q h) hFc (fun r u t H1 locs1 ht hvm hpo hBu hz1 hk1 hS1 => ?_)
  obtain ⟨hP1, hD1⟩ := hBu
  rw [ht] at hP1
  obtain ⟨hP2, hD2⟩ := va_join (wr := wr) (w1 := w1 u) hP hD isC isR hC hRw hnR hdis hk1 hFc hP1 hD1
  exact kk r u H1 locs1 hpo (hP2.sub ip (bs_fm (hiq u))) (hD2.sub ip hip (hiq u)) hS1
theorem bs_callSv {post : S → Prop} {As : List Value} (n : Nat) (wr : va_W) (w2 : S → va_W) (rest : List Value)
    (hx : p.tables.exec = Jvm.exec) (hb : c.code = cc) (hml : c.maxLocals = nL) (hown : s.vm.findClass own = some m.cls) (hB : ∀ w ∈ bs_big, w.before args s = true) (hN : bs_NW s)
    (hK : va_K D bs_cl tys s) (hP : va_P D bs_cl ws H) (hD : va_D A ws) (hS : va_S A H0 H locs) (hA : ∀ q, H0.size ≤ q → A q)
    (hM : bs_CV l y bytes maxL rm D As ty w0 post w1)
    (kcd : Cond.code y bytes maxL none ∈ bs_big) (kml : Cond.methodLink own index y ∈ bs_big) (kst : Cond.static y ∈ bs_big) (kin : Cond.initialized y.cls ∈ bs_big)
    (hd : y.cls ≠ "java/lang/invoke/MethodHandle" ∧ y.cls ≠ "java/lang/invoke/VarHandle" ∧ (parseMethodDescriptor y.desc).map (fun d => d.parameters.length) = some n)
    (hR : rm.cells = 0 ∧ rm.slots = 0 ∧ rm.frames + 1 ≤ R.frames ∧ 8 + (maxL + 11) + rm.locals ≤ R.locals)
    (isC isR : List Nat) (hC : isC.map (fun i => ws[i]?) = w0.map some) (hRw : isR.map (fun i => ws[i]?) = wr.map some) (hnd : va_nd isC = true ∧ va_nd isR = true ∧ ∀ i ∈ isR, i ∉ isC)
    (it : List Nat) (hty : it.filterMap (fun i => tys[i]?) = ty)
    (ip : List Nat) (hip : va_nd ip = true) (hiq : ∀ u, ip.map (fun i => (wr ++ w1 u)[i]?) = (w2 u).map some)
    (hn : As.length = n) (hsz : ls.size = nL) (hrest : (rest.map fun v => v.category).sum ≤ 8) (hcs : cells ≤ R.cells ∧ slots ≤ R.slots) (hdg : decode cc pc = .ok (.invokestatic index, 3))
    {st0 : List Value} (hst : st0 = As.reverse ++ rest)
    (kk : ∀ (u : S) (H1 : Heap) (locs1 : List Loc), post u → va_P D bs_cl (w2 u) H1 → va_D A (w2 u) → va_S A H0 H1 locs1 → W p l e R s m args below meth c H1 locs1 cells slots Q (F0 m (pc + 3) ls rest)) :
    W p l e R s m args below meth c H locs cells slots Q (F0 m pc ls st0) := by
  subst hst
  obtain ⟨hr1, hr2, hr3, hr4⟩ := hR
  obtain ⟨hnC, hnR, hdis⟩ := hnd
  have hPc := hP.sub (ws' := w0) isC (bs_fm hC)
  have hDc := hD.sub (ws' := w0) isC hnC hC
  have hKc := hK.sub (tys' := ty) it hty
  have hFc := va_free (wc := w0) hD hS hA isC hC
  refine va_callv (va_runS (As := As) (rest := rest) ⟨hx, hb, hml, hown, hB⟩ (hM H.size) (va_cwS n hB (bs_gS kcd kml kst kin) rfl hr1 hr2 hd ⟨hr3, hr4⟩) ⟨bs_blind, fun U hU hW => ⟨rfl, by rw [hU], by rw [hU]; exact hPc, va_K.moved hW.alike hKc, hDc.weaken (fun _ _ _ _ => trivial), hN.warm hW⟩⟩ rfl hn hsz rfl (lv_room hrest) hdg ⟨hcs.1, hcs.2⟩) hS (fun q _ h => hFc q h) hFc (fun u t H1 locs1 ht hvm hpo hBu hz1 hk1 hS1 => ?_)
  obtain ⟨hP1, hD1⟩ := hBu
  rw [ht] at hP1
  obtain ⟨hP2, hD2⟩ := va_join (wr := wr) (w1 := w1 u) hP hD isC isR hC hRw hnR hdis hk1 hFc hP1 hD1
  exact kk u H1 locs1 hpo (hP2.sub ip (bs_fm (hiq u))) (hD2.sub ip hip (hiq u)) hS1
theorem bs_callSi {post : Int32 → S → Prop} {As : List Value} (n : Nat) (wr : va_W) (w2 : S → va_W) (rest : List Value)
    (hx : p.tables.exec = Jvm.exec) (hb : c.code = cc) (hml : c.maxLocals = nL) (hown : s.vm.findClass own = some m.cls) (hB : ∀ w ∈ bs_big, w.before args s = true) (hN : bs_NW s)
    (hK : va_K D bs_cl tys s) (hP : va_P D bs_cl ws H) (hD : va_D A ws) (hS : va_S A H0 H locs) (hA : ∀ q, H0.size ≤ q → A q)
    (hM : bs_CI l y bytes maxL rt rm D As ty w0 post w1)
    (kcd : Cond.code y bytes maxL (some rt) ∈ bs_big) (kml : Cond.methodLink own index y ∈ bs_big) (kst : Cond.static y ∈ bs_big) (kin : Cond.initialized y.cls ∈ bs_big)
    (hd : y.cls ≠ "java/lang/invoke/MethodHandle" ∧ y.cls ≠ "java/lang/invoke/VarHandle" ∧ (parseMethodDescriptor y.desc).map (fun d => d.parameters.length) = some n)
    (hR : rm.cells = 0 ∧ rm.slots = 0 ∧ rm.frames + 1 ≤ R.frames ∧ 8 + (maxL + 11) + rm.locals ≤ R.locals)
    (isC isR : List Nat) (hC : isC.map (fun i => ws[i]?) = w0.map some) (hRw : isR.map (fun i => ws[i]?) = wr.map some) (hnd : va_nd isC = true ∧ va_nd isR = true ∧ ∀ i ∈ isR, i ∉ isC)
    (it : List Nat) (hty : it.filterMap (fun i => tys[i]?) = ty)
    (ip : List Nat) (hip : va_nd ip = true) (hiq : ∀ u, ip.map (fun i => (wr ++ w1 u)[i]?) = (w2 u).map some)
    (hn : As.length = n) (hsz : ls.size = nL) (hrest : (rest.map fun v => v.category).sum ≤ 8) (hcs : cells ≤ R.cells ∧ slots ≤ R.slots) (hdg : decode cc pc = .ok (.invokestatic index, 3))
    {st0 : List Value} (hst : st0 = As.reverse ++ rest)
    (kk : ∀ (r : Int32) (u : S) (H1 : Heap) (locs1 : List Loc), post r u → va_P D bs_cl (w2 u) H1 → va_D A (w2 u) → va_S A H0 H1 locs1 → W p l e R s m args below meth c H1 locs1 cells slots Q (F0 m (pc + 3) ls (.int r :: rest))) :
    W p l e R s m args below meth c H locs cells slots Q (F0 m pc ls st0) := by
  subst hst
  obtain ⟨hr1, hr2, hr3, hr4⟩ := hR
  obtain ⟨hnC, hnR, hdis⟩ := hnd
  have hPc := hP.sub (ws' := w0) isC (bs_fm hC)
  have hDc := hD.sub (ws' := w0) isC hnC hC
  have hKc := hK.sub (tys' := ty) it hty
  have hFc := va_free (wc := w0) hD hS hA isC hC
  refine va_calli (va_runS (As := As) (rest := rest) ⟨hx, hb, hml, hown, hB⟩ (hM H.size) (va_cwS n hB (bs_gS kcd kml kst kin) rfl hr1 hr2 hd ⟨hr3, hr4⟩) ⟨bs_blind, fun U hU hW => ⟨rfl, by rw [hU], by rw [hU]; exact hPc, va_K.moved hW.alike hKc, hDc.weaken (fun _ _ _ _ => trivial), hN.warm hW⟩⟩ rfl hn hsz rfl (lv_room hrest) hdg ⟨hcs.1, hcs.2⟩) hS (fun q _ h => hFc q h) hFc (fun r u t H1 locs1 ht hvm hpo hBu hz1 hk1 hS1 => ?_)
  obtain ⟨hP1, hD1⟩ := hBu
  rw [ht] at hP1
  obtain ⟨hP2, hD2⟩ := va_join (wr := wr) (w1 := w1 u) hP hD isC isR hC hRw hnR hdis hk1 hFc hP1 hD1
  exact kk r u H1 locs1 hpo (hP2.sub ip (bs_fm (hiq u))) (hD2.sub ip hip (hiq u)) hS1
variable {x y' v : Int32} {rest : List Value}
theorem bs_irem (hx : p.tables.exec = Jvm.exec) (hb : c.code = cc) (hdg : decode cc pc = .ok (.irem, 1)) (hne : ¬ y' = 0) (hv : x - x / y' * y' = v) (k : W p l e R s m args below meth c H locs cells slots Q (F0 m (pc + 1) ls (.int v :: rest))) : W p l e R s m args below meth c H locs cells slots Q (F0 m pc ls (.int y' :: .int x :: rest)) := by
  subst hv; exact lv_irem hx hb hdg hne k
theorem bs_idiv (hx : p.tables.exec = Jvm.exec) (hb : c.code = cc) (hdg : decode cc pc = .ok (.idiv, 1)) (hne : ¬ y' = 0) (hv : x / y' = v) (k : W p l e R s m args below meth c H locs cells slots Q (F0 m (pc + 1) ls (.int v :: rest))) : W p l e R s m args below meth c H locs cells slots Q (F0 m pc ls (.int y' :: .int x :: rest)) := by
  subst hv; exact lv_idiv hx hb hdg hne k
theorem bs_ldc {v0 : Int32} (hx : p.tables.exec = Jvm.exec) (hb : c.code = cc) (hown : s.vm.findClass own = some m.cls) (hc : (Cond.constant own index v0).before args s = true) (hv : v0 = v) (hdg : decode cc pc = .ok (.ldc index, 2)) (k : W p l e R s m args below meth c H locs cells slots Q (F0 m (pc + 2) ls (.int v :: rest))) : W p l e R s m args below meth c H locs cells slots Q (F0 m pc ls rest) := by
  subst hv; exact lv_ldc hx hb hown hc hdg k
end BSC
abbrev bs_rm (d : Nat) : Room := { frames := d, cells := 0, slots := 0, locals := 32 * d }
def bs_ushr (x y : Int32) : Int32 := (x.toUInt32 >>> (y.toUInt32 &&& Int32.toUInt32 31)).toInt32
def bs_rem (x y : Int32) : Int32 := x - x / y * y
theorem bs_pos {α : Type} {c : Prop} [Decidable c] {a b : Option α} {r : α} (h : c) (hm : (if c then a else b) = some r) : a = some r := by rw [if_pos h] at hm; exact hm
theorem bs_neg {α : Type} {c : Prop} [Decidable c] {a b : Option α} {r : α} (h : ¬ c) (hm : (if c then a else b) = some r) : b = some r := by rw [if_neg h] at hm; exact hm
theorem bs_nn {α : Type} {c : Prop} [Decidable c] {a : Option α} {r : α} (hm : (if c then none else a) = some r) : ¬ c ∧ a = some r := by
  by_cases h : c
  · rw [if_pos h] at hm; cases hm
  · rw [if_neg h] at hm; exact ⟨h, hm⟩
theorem bs_zz {α : Type} {c : Prop} [Decidable c] {a : Option α} {r : α} (hm : (if c then a else none) = some r) : c ∧ a = some r := by
  by_cases h : c
  · rw [if_pos h] at hm; exact ⟨h, hm⟩
  · rw [if_neg h] at hm; cases hm
theorem bs_bind {α β : Type} {x : Option α} {f : α → Option β} {b : β} (h : x.bind f = some b) : ∃ a, x = some a ∧ f a = some b := by
  cases x with
  | none => cases h
  | some a => exact ⟨a, rfl, h⟩
theorem bs_no {α : Type} {r : α} (h : (none : Option α) = some r) : False := by cases h
theorem bs_narz {x : Int32} (h : x = 0 ∨ x = 1) : narrow .boolean (.int x) = .int x := by rcases h with rfl | rfl <;> first | exact narrow_b0 | exact narrow_b1
theorem bs_ler {k n : Nat} (h : Nat.ble k n = true) : k ≤ n := Nat.le_of_ble_eq_true h
theorem bs_ltr {k n : Nat} (h : Nat.ble (k + 1) n = true) : k < n := Nat.le_of_ble_eq_true h
theorem bs_lit {i : Int32} {n : Nat} (h : ¬ (i < 0 ∨ n ≤ i.toNatClampNeg)) : vp_in i n := h
theorem bs_inc1 (x : Int32) : x + Int32.ofInt 1 = x + 1 := by rw [show Int32.ofInt 1 = (1 : Int32) by decide +kernel]
theorem bs_inc3 (x : Int32) : x + Int32.ofInt 3 = x + 3 := by rw [show Int32.ofInt 3 = (3 : Int32) by decide +kernel]
theorem bs_incm1 (x : Int32) : x + Int32.ofInt (-1) = x + (-1) := by rw [show Int32.ofInt (-1) = (-1 : Int32) by decide +kernel]
theorem bs_cp {sp dp n : Int32} {a b N M : Nat} (h : ¬ ((sp < 0 ∨ dp < 0 ∨ n < 0) ∨ N < a ∨ M < b)) : ¬ sp < 0 ∧ ¬ dp < 0 ∧ ¬ n < 0 ∧ a ≤ N ∧ b ≤ M :=
  ⟨fun q => h (Or.inl (Or.inl q)), fun q => h (Or.inl (Or.inr (Or.inl q))), fun q => h (Or.inl (Or.inr (Or.inr q))), Nat.le_of_not_lt fun q => h (Or.inr (Or.inl q)), Nat.le_of_not_lt fun q => h (Or.inr (Or.inr q))⟩
theorem bs_say {D : va_G} {A : Nat → Prop} {H : Heap} (w : va_W) (h1 : va_P D bs_cl w H) (h2 : va_D A w) : va_P D bs_cl w H ∧ va_D A w := ⟨h1, h2⟩
section BSQ
variable {p : Program} {l : Launch} {e : Env} {R : Room} {s : State} {m : MethodId} {args : Array Value} {below : List Frame} {meth : Method} {c : Code} {H : Heap} {locs : List Loc} {cells slots : Nat}
theorem bs_genQ {Q0 : State → Prop} {g : JFrame} (h : ∀ Q : State → Prop, Q0 = Q → W p l e R s m args below meth c H locs cells slots Q g) : W p l e R s m args below meth c H locs cells slots Q0 g := h Q0 rfl
end BSQ
theorem kn_Fr_7 : (Cond.fieldLinkNest cn_Fr 7 cn_Rw "size" "I" cn_Lp : Cond) ∈ bs_nest := List.mem_of_getElem? (i := 0) rfl
theorem kn_Cn_59 : (Cond.fieldLinkNest cn_Cn 59 cn_Rw "size" "I" cn_Lp : Cond) ∈ bs_nest := List.mem_of_getElem? (i := 1) rfl
theorem kn_Lp_91 : (Cond.fieldLinkNest cn_Lp 91 cn_Rw "size" "I" cn_Lp : Cond) ∈ bs_nest := List.mem_of_getElem? (i := 2) rfl
theorem kn_Pf_78 : (Cond.fieldLinkNest cn_Pf 78 cn_Rw "size" "I" cn_Lp : Cond) ∈ bs_nest := List.mem_of_getElem? (i := 3) rfl
theorem kn_Mt_80 : (Cond.fieldLinkNest cn_Mt 80 cn_Rw "size" "I" cn_Lp : Cond) ∈ bs_nest := List.mem_of_getElem? (i := 4) rfl
theorem kn_m_Lp_23 : (Cond.methodLinkNest cn_Lp 23 my_As_init cn_Lp : Cond) ∈ bs_nest := List.mem_of_getElem? (i := 5) rfl
theorem kn_Lp_110 : (Cond.fieldLinkNest cn_Lp 110 cn_As "s" "I" cn_Lp : Cond) ∈ bs_nest := List.mem_of_getElem? (i := 6) rfl
theorem kn_Lp_113 : (Cond.fieldLinkNest cn_Lp 113 cn_As "\x72" "I" cn_Lp : Cond) ∈ bs_nest := List.mem_of_getElem? (i := 7) rfl
theorem kn_Lp_74 : (Cond.fieldLinkNest cn_Lp 74 cn_Pf "columnCount" "I" cn_Lp : Cond) ∈ bs_nest := List.mem_of_getElem? (i := 8) rfl
theorem kn_Mt_27 : (Cond.fieldLinkNest cn_Mt 27 cn_Pf "period" "I" cn_Lp : Cond) ∈ bs_nest := List.mem_of_getElem? (i := 9) rfl
theorem kn_Lp_69 : (Cond.fieldLinkNest cn_Lp 69 cn_Pf "size" "I" cn_Lp : Cond) ∈ bs_nest := List.mem_of_getElem? (i := 10) rfl
theorem kn_Lp_57 : (Cond.fieldLinkNest cn_Lp 57 cn_Mt "registers" "[I" cn_Lp : Cond) ∈ bs_nest := List.mem_of_getElem? (i := 11) rfl
theorem kn_Lp_65 : (Cond.fieldLinkNest cn_Lp 65 cn_Mt "profile" "LLoadProfileMeter$Profile;" cn_Lp : Cond) ∈ bs_nest := List.mem_of_getElem? (i := 12) rfl
theorem kn_Lp_61 : (Cond.fieldLinkNest cn_Lp 61 cn_Mt "now" "I" cn_Lp : Cond) ∈ bs_nest := List.mem_of_getElem? (i := 13) rfl
theorem kn_Lp_37 : (Cond.fieldLinkNest cn_Lp 37 cn_Cn "meter" "LLoadProfileMeter$Meter;" cn_Lp : Cond) ∈ bs_nest := List.mem_of_getElem? (i := 14) rfl
