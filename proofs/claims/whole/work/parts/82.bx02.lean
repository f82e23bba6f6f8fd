-- catches: the search through a table whose classes may be cold; a call that throws into a handler
section BXH
variable {E : CtlPost} {e : Env} {d : Bool} {acts : List Action} {s : State} {f : JFrame} {a : Addr} {Q : Handler → Pre}
theorem bx_go {x : ExceptionTableEntry} {t : List ExceptionTableEntry} {c : ClassId} {cell : Cell} {vm' : Vm} (hx : covers x f.pc = true) (h0 : x.catchType ≠ 0)
    (hg : (Jvm.resolveClass f.method.cls x.catchType).Gives e.toSetting s.vm (.ok c) vm') (hr : vm'.classReady f.method.cls x.catchType c) (hcell : s.heap[a]? = some cell) (hobj : ∀ k, cell.vm ≠ .statics k)
    (hk : ∃ k, vm'.classes[cell.cls]? = some k) (hc : ∃ k, vm'.classes[c]? = some k) (hsz : vm'.classes.size ≤ s.vm.classes.size) :
    wp (findHandler.go f a (x :: t)) Q E e d acts s ↔
      if vm'.assignable cell.cls c = true then Q (.found x.handlerPc) d acts (s.setVm vm') else wp (findHandler.go f a t) Q E e d acts (s.setVm vm') := by
  have h1 := W.findHandler_go_class (Q := Q) (E := E) (e := e) (d := d) (acts := acts) (s := s.setVm vm') (t := t) hx h0 hr hcell hobj hk hc
  refine Iff.trans ?_ h1
  rw [h1]
  obtain ⟨ha, ht⟩ := hg.op (op := VmOp.resolveClass f.method.cls x.catchType) rfl
  simp only [covers] at hx
  have hc' : ∃ k, (s.setVm vm').vm.classes[c]? = some k := hc
  have hk' : ∃ k, (s.setVm vm').vm.classes[cell.cls]? = some k := hk
  have hcell' : (s.setVm vm').heap[a]? = some cell := hcell
  have e1 : (s.setVm vm').vm = vm' := rfl
  cases hfit : vm'.assignable cell.cls c <;>
    simp [findHandler.go, hx, h0, ha, ht, hsz, hcell, hcell', hobj, hk', hc', hk, hc, hfit, VmOp.dirties, VmOp.acts, e1]
def bx_Fd (e : Env) (s : State) (f : JFrame) (a : Addr) (pc : Nat) (vm' : Vm) : Prop := ∀ (Q : Handler → Pre) (E : CtlPost) (d : Bool) (acts : List Action), wp (findHandler f a) Q E e d acts s ↔ Q (.found pc) d acts (s.setVm vm')
theorem bx_step {r : List Frame} {pc : Nat} {vm' : Vm} (hfind : bx_Fd e s f a pc vm') :
    (stepThrowing e s a (.java f :: r)).Is ((s.setVm vm').setFrames (.java { f with pc := pc, stack := [.ref a] } :: r)) [] := by
  simp only [stepThrowing, searchFrame, vmDo]
  generalize hr : Sem.go _ e false [] s = res
  obtain ⟨as, rfl, ha⟩ := Sem.eq_ok_of hr (a := Handler.found pc) (s' := s.setVm vm') (acts' := []) (by simp [hfind _ _ _ _])
  exact ⟨rfl, ha⟩
end BXH
theorem bx_caught {tb : Tables} {e : Env} {s target : State} {g : JFrame} {c : Code} {below : List Frame} {a : Addr} (h : At s g.method c below) {pc : Nat} {vm' : Vm} (hfind : bx_Fd e ((s.setTop g).pushFrame (.throwing a)) g a pc vm')
    (hrest : Steps tb e below ((s.setVm vm').setTop { g with pc := pc, stack := [.ref a] }) target) :
    Steps tb e below ((s.setTop g).pushFrame (.throwing a)) target := by
  obtain ⟨hgo, hw⟩ := h.throwing a
  refine Steps.head hgo hw ?_
  rw [stepThread_throwing (frames_entered h.top _), (bx_step (s := (s.setTop g).pushFrame (.throwing a)) hfind).1]
  obtain ⟨g₀, hg⟩ := Option.isSome_iff_exists.mp h.top
  obtain ⟨r, hr⟩ := State.topJava?_eq_some.mp hg
  have hr2 : (s.setVm vm').frames = .java g₀ :: r := hr
  rw [State.setTop_of_frames _ hr2] at hrest
  have key : ∀ F1 F2 : List Frame, (((s.setTop g).setFrames F1).setVm vm').setFrames F2 = (s.setVm vm').setFrames F2 := fun F1 F2 => by
    show ((((s.setVm vm').setTop g).setFrames F1).setFrames F2) = _
    rw [State.setFrames_setFrames, State.setTop_of_frames _ hr2, State.setFrames_setFrames]
  rw [State.pushFrame, key, hr]
  exact hrest
section BXC
variable {p : Program} {l : Launch} {e : Env} {R : Room} {s : State} {m : MethodId} {args : Array Value} {below : List Frame} {meth : Method} {c : Code} {T : State} {locs : List Loc} {cells slots : Nat}
/-- one entry of the table: its class is noted; it takes the exception, or it passes it -/
theorem bx_entry (hpl : e.platform.magicAccessors = ({} : Platform).magicAccessors) {own C : String} {i : Nat} (hown : s.vm.findClass own = some m.cls) (hcl : (Cond.classLink own i C).before args s = true) {vm : Vm} (hW : s.WarmedH vm) :
    ∃ cC, s.vm.findClass C = some cC ∧ s.WarmedH (vm.noted m.cls i (.cls cC)) ∧ (Jvm.resolveClass m.cls i).Gives e.toSetting vm (.ok cC) (vm.noted m.cls i (.cls cC)) ∧ (vm.noted m.cls i (.cls cC)).classReady m.cls i cC := by
  obtain ⟨cc, hfcc, hcl⟩ := Cond.classLink_spec hown hcl e.platform hpl
  obtain ⟨hg₁, hwarm₁, hready₁⟩ := State.classEntry (e := e) hW hcl
  exact ⟨cc, hfcc, hwarm₁, hg₁, hready₁⟩
theorem bx_size {vm vm' : Vm} (h1 : s.WarmedH vm) (h2 : s.WarmedH vm') : vm'.classes.size ≤ vm.classes.size := by
  have a1 := h1.alike; have a2 := h2.alike
  have e1 := a1.2.1; have e2 := a2.2.1
  omega
theorem bx_catch1 (X : Stand p l e R s m args below meth c T locs cells slots) {own C : String} {i st en hp : Nat} {hs : List (Nat × Nat × Nat × Nat)} (hown : s.vm.findClass own = some m.cls)
    (hh : c.exceptionTable.toList.map (fun h => (h.startPc, h.endPc, h.handlerPc, h.catchType)) = (st, en, hp, i) :: hs) (hcl : (Cond.classLink own i C).before args s = true) (hca : (Cond.castable C C).before args s = true) (hi : i ≠ 0)
    {g : JFrame} (hg : g.method = m) (hin : st ≤ g.pc ∧ g.pc < en) {a : Addr} {ce : Cell} (hce : T.heap[a]? = some ce) (hvm : ce.vm = .none) (hfc : s.vm.findClass C = some ce.cls) :
    ∃ vm', Stand p l e R s m args below meth c (T.setVm vm') locs cells slots ∧ ∀ target, Steps p.tables e below ((T.setVm vm').setTop { g with pc := hp, stack := [.ref a] }) target → Steps p.tables e below ((T.setTop g).pushFrame (.throwing a)) target := by
  subst hg
  have hpl : e.platform.magicAccessors = ({} : Platform).magicAccessors := by rw [X.admits.platform]
  obtain ⟨cC, hfC, hW, hG, hR⟩ := bx_entry hpl hown hcl X.warmed
  cases hfc.symm.trans hfC
  obtain ⟨c3, c4, hc3, hc4, hasg⟩ := Cond.castable_spec hca
  cases hc3.symm.trans hfC
  cases hc4.symm.trans hfC
  obtain ⟨x, xs, hx⟩ : ∃ x xs, c.exceptionTable.toList = x :: xs := by
    cases hq : c.exceptionTable.toList with
    | nil => rw [hq] at hh; cases hh
    | cons x xs => exact ⟨x, xs, rfl⟩
  rw [hx] at hh
  simp only [List.map_cons, List.cons.injEq, Prod.mk.injEq] at hh
  obtain ⟨⟨h1, h2, h3, h4⟩, -⟩ := hh
  have hk : ∃ k, s.vm.classes[ce.cls]? = some k := by
    obtain ⟨k, hk⟩ := Vm.classAt_of_findClass hfC
    exact ⟨k, hk⟩
  have hk2 : ∃ k, (T.vm.noted g.method.cls i (.cls ce.cls)).classes[ce.cls]? = some k := by
    obtain ⟨k, hk⟩ := hk
    obtain ⟨k', hk', -⟩ := hW.alike.2.2 _ _ hk
    exact ⟨k', hk'⟩
  refine ⟨_, X.noted hW, fun target hrest => ?_⟩
  refine bx_caught (vm' := T.vm.noted g.method.cls i (.cls ce.cls)) (pc := hp) (by exact X.here) ?_ hrest
  intro Q E d acts
  have hmeth : ((T.setTop g).pushFrame (.throwing a)).vm.method? g.method = some meth := by
    rw [Stand.throwing_vm]
    rw [X.warmed.alike.method?]; exact X.method
  rw [W.findHandler_eq hmeth X.code, hx]
  subst h3 h4
  rw [bx_go (c := ce.cls) (cell := ce) (vm' := T.vm.noted g.method.cls x.catchType (.cls ce.cls)) (by simp [covers]; omega) hi (by rw [Stand.throwing_vm]; exact hG) hR (by rw [Stand.throwing_heap]; exact hce) (by intro k; rw [hvm]; simp) hk2 hk2 (by rw [Stand.throwing_vm]; exact bx_size X.warmed hW), if_pos (by rw [hW.alike.assignable]; exact hasg)]
theorem bx_catch2 (X : Stand p l e R s m args below meth c T locs cells slots) {own C C1 : String} {i j st en hp st1 en1 hp1 : Nat} (hown : s.vm.findClass own = some m.cls)
    (hh : c.exceptionTable.toList.map (fun h => (h.startPc, h.endPc, h.handlerPc, h.catchType)) = [(st1, en1, hp1, j), (st, en, hp, i)]) (hcl : (Cond.classLink own i C).before args s = true) (hca : (Cond.castable C C).before args s = true)
    (hcl1 : (Cond.classLink own j C1).before args s = true) (hno : (Cond.not (Cond.castable C C1)).before args s = true) (hi : i ≠ 0) (hj : j ≠ 0)
    {g : JFrame} (hg : g.method = m) (hin1 : st1 ≤ g.pc ∧ g.pc < en1) (hin : st ≤ g.pc ∧ g.pc < en) {a : Addr} {ce : Cell} (hce : T.heap[a]? = some ce) (hvm : ce.vm = .none) (hfc : s.vm.findClass C = some ce.cls) :
    ∃ vm', Stand p l e R s m args below meth c (T.setVm vm') locs cells slots ∧ ∀ target, Steps p.tables e below ((T.setVm vm').setTop { g with pc := hp, stack := [.ref a] }) target → Steps p.tables e below ((T.setTop g).pushFrame (.throwing a)) target := by
  subst hg
  have hpl : e.platform.magicAccessors = ({} : Platform).magicAccessors := by rw [X.admits.platform]
  obtain ⟨cD, hfD, hW1, hG1, hR1⟩ := bx_entry hpl hown hcl1 X.warmed
  obtain ⟨cC, hfC, hW, hG, hR⟩ := bx_entry hpl hown hcl hW1
  cases hfc.symm.trans hfC
  obtain ⟨c3, c4, hc3, hc4, hasg⟩ := Cond.castable_spec hca
  cases hc3.symm.trans hfC
  cases hc4.symm.trans hfC
  have hnas : s.vm.assignable ce.cls cD = false := by
    have h9 := hno
    simp only [Cond.before, Cond.holds, Cond.value, hfC, hfD] at h9
    simpa using h9
  have hx : ∃ x y, c.exceptionTable.toList = [x, y] := by
    cases hq : c.exceptionTable.toList with
    | nil => rw [hq] at hh; cases hh
    | cons x xs =>
      cases xs with
      | nil => rw [hq] at hh; simp at hh
      | cons y ys =>
        cases ys with
        | nil => exact ⟨x, y, rfl⟩
        | cons z zs => rw [hq] at hh; simp at hh
  obtain ⟨x, y, hx⟩ := hx
  rw [hx] at hh
  simp only [List.map_cons, List.map_nil, List.cons.injEq, Prod.mk.injEq, and_true] at hh
  obtain ⟨⟨a1, a2, a3, a4⟩, h1, h2, h3, h4⟩ := hh
  have up : ∀ {vm : Vm} {q : Nat} {n : String}, s.WarmedH vm → s.vm.findClass n = some q → ∃ k, vm.classes[q]? = some k := fun hw hf => by
    obtain ⟨k, hk⟩ := Vm.classAt_of_findClass hf
    obtain ⟨k', hk', -⟩ := hw.alike.2.2 _ _ hk
    exact ⟨k', hk'⟩
  refine ⟨_, X.noted hW, fun target hrest => ?_⟩
  refine bx_caught (pc := hp) (by exact X.here) ?_ hrest
  intro Q E d acts
  have hmeth : ((T.setTop g).pushFrame (.throwing a)).vm.method? g.method = some meth := by
    rw [Stand.throwing_vm]
    rw [X.warmed.alike.method?]; exact X.method
  rw [W.findHandler_eq hmeth X.code, hx]
  subst h3 h4 a4
  rw [bx_go (c := cD) (cell := ce) (vm' := T.vm.noted g.method.cls x.catchType (.cls cD)) (by simp [covers]; omega) hj (by rw [Stand.throwing_vm]; exact hG1) hR1 (by rw [Stand.throwing_heap]; exact hce) (by intro k; rw [hvm]; simp) (up hW1 hfC) (up hW1 hfD) (by rw [Stand.throwing_vm]; exact bx_size X.warmed hW1), if_neg (by rw [hW1.alike.assignable, hnas]; decide)]
  rw [bx_go (s := (((T.setTop g).pushFrame (.throwing a)).setVm (T.vm.noted g.method.cls x.catchType (.cls cD)))) (c := ce.cls) (cell := ce) (vm' := (T.vm.noted g.method.cls x.catchType (.cls cD)).noted g.method.cls y.catchType (.cls ce.cls)) (by simp [covers]; omega) hi hG hR (by show ((T.setTop g).pushFrame (.throwing a)).heap[a]? = _; rw [Stand.throwing_heap]; exact hce) (by intro k; rw [hvm]; simp) (up hW hfC) (up hW hfC) (bx_size hW1 hW), if_pos (by rw [hW.alike.assignable]; exact hasg)]
  rfl
end BXC
