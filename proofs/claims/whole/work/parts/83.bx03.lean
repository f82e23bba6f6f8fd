-- the contract of a call that throws, and the call
def bx_ex : Nat → String
  | 1 => "java/lang/IllegalArgumentException"
  | 2 => "java/lang/IllegalStateException"
  | 3 => "java/lang/IndexOutOfBoundsException"
  | _ => "java/util/NoSuchElementException"
abbrev bx_rm : Room := { frames := 8, cells := 1, slots := 6, locals := 256 }
/-- a method that throws X and leaves all cells as they were -/
def bx_CT (l : Launch) (y : MethodName) (cc : ByteArray) (maxL : Nat) (ret : Option FieldType) (rm : Room) (D : va_G) (av : List Value) (ty : List (ClassId × FieldType)) (w0 : va_W) (X : String) : Prop :=
  ∀ sz : Nat, MetFree l y (headSpec (Cond.code y cc maxL ret :: bs_big) rm) (va_Pc av (fun U => bs_Pre D w0 ty sz U ∧ bx_Z U)) (fun _ _ _ _ _ => True) (fun _ st o t => bx_E X st o t)
theorem bx_nilP {D : va_G} {H : Heap} : va_P D bs_cl [] H := fun k q h => by simp at h
theorem bx_nilD {A : Nat → Prop} : va_D A [] := ⟨fun i j p q h => by simp at h, fun k q h => by simp at h⟩
section BXM
variable {l : Launch} {y : MethodName} {cc : ByteArray} {maxL : Nat} {ret : Option FieldType} {rm : Room} {D : va_G} {av : List Value} {ty : List (ClassId × FieldType)} {w0 : va_W}
theorem bx_CT.mk {X : String} (hfl : l.flags = pinnedFlags ++ [noTraceFlag]) (hy : plainName y.cls = true) (hav : (lg_sl av).length ≤ maxL)
    (body : ∀ (p : Program) (e : Env) (s : State) (m : MethodId) (below : List Frame) (meth : Method) (c : Code) (ls : Array Slot),
      p.tables.exec = Jvm.exec → e.platform.stackTraces = false → c.code = cc → c.maxLocals = maxL → meth.locks = false → c.exceptionTable.isEmpty = true → s.vm.findClass y.cls = some m.cls →
      (∀ w ∈ bs_big, w.before av.toArray s = true) → bs_NW s → bx_Z s → va_P D bs_cl w0 s.heap → va_K D bs_cl ty s → lv_has ls maxL (lv_args 0 av) →
      W p l e rm s m av.toArray below meth c s.heap [] 0 0 (bx_QT below s X) (F0 m 0 ls [])) : bx_CT l y cc maxL ret rm D av ty w0 X := by
  intro sz
  refine MetFree.of_bodyS (code := cc) (maxLocals := maxL) (ret := ret) hy ?_ ?_
  · intro args s m h hn
    obtain ⟨meth, c, h1, h2, h3, h4, h5, h6, -, -⟩ := Cond.code_spec hn (atoms_spec (ws := Cond.code y cc maxL ret :: bs_big) h _ List.mem_cons_self)
    exact ⟨meth, c, h1, h2, h3, h4, h5, h6⟩
  · intro p e s m args below meth c s₁ B hml hv _
    obtain ⟨rfl, ⟨hsz, hP, hK, hD0, hN⟩, hZ⟩ := hv
    have hts := atoms_spec (ws := Cond.code y cc maxL ret :: bs_big) B.pre
    have X0 := Stand.of_body B
    obtain ⟨meth', c', h1, h2, -, -, -, -, hex, -⟩ := Cond.code_spec B.named (hts _ List.mem_cons_self)
    cases h1.symm.trans X0.method
    cases h2.symm.trans X0.code
    have hh0 : s₁.heap = s.heap := by rw [B.state]; rfl
    have hl := lv_entry av (n := maxL) hav
    rw [lg_entry_eq]
    obtain ⟨t, a1, o, b1, b2, b3⟩ := body p e s m below meth c _ B.exec (Launch.traces_off hfl B.admits) B.bytes hml B.notSynchronized hex (findClass_of_methodNamed B.named) (fun w h => hts w (List.mem_cons_of_mem _ h)) hN hZ hP hK hl s₁ hh0 X0
    exact ⟨t, o, a1, b1, b2, b3⟩
end BXM
theorem bx_keep {D : va_G} {w : va_W} {s : State} {H : Heap} {locs : List Loc} (hP : va_P D bs_cl w s.heap) (hS : va_S (bx_S0 s) s.heap H locs) : va_P D bs_cl w H := by
  exact hP.kept fun k q hk => hS.2.1 q.1 (hP k q hk).lt (fun h => absurd (hP k q hk).lt (Nat.not_lt.mpr h))
section BXR
variable {p : Program} {l : Launch} {e : Env} {R : Room} {s : State} {m : MethodId} {args : Array Value} {below : List Frame} {meth : Method} {c : Code} {T : State} {locs : List Loc} {cells slots : Nat}
theorem bx_more {H : Heap} {Q : State → Prop} {g : JFrame} {cells' slots' : Nat} (hc : cells ≤ cells') (hs : slots ≤ slots') (k : W p l e R s m args below meth c H locs cells' slots' Q g) : W p l e R s m args below meth c H locs cells slots Q g :=
  fun T hT X => k T hT { X with same := X.same.weaken (fun y hy _ => hy) hc hs }
/-- the call of a method that throws: the note lies over the caller's frame -/
theorem bx_run {own C X : String} {index maxL n : Nat} {y : MethodName} {bytes : ByteArray} {ret : Option FieldType} {D : va_G} {b : Nat} {As rest : List Value} {ty : List (ClassId × FieldType)} {w0 : va_W}
    (X0 : Stand p l e R s m args below meth c T locs cells slots) (hx : p.tables.exec = Jvm.exec) (hown : s.vm.findClass own = some m.cls) (hB : ∀ w ∈ bs_big, w.before args s = true)
    (hM : bx_CT l y bytes maxL ret bx_rm D (.ref b :: As) ty w0 X) (hPre : ∀ U : State, U.heap = T.heap → s.WarmedH U.vm → bs_Pre D w0 ty T.heap.size U ∧ bx_Z U)
    (kcd : Cond.code y bytes maxL ret ∈ bs_big) (kml : Cond.methodLink own index y ∈ bs_big) (kim : Cond.instanceMethod y ∈ bs_big) (kse : Cond.selects C y y ∈ bs_big) (kin : Cond.initialized C ∈ bs_big)
    (hd : y.cls = C ∧ y.cls ≠ "java/lang/invoke/MethodHandle" ∧ y.cls ≠ "java/lang/invoke/VarHandle" ∧ (parseMethodDescriptor y.desc).map (fun d => d.parameters.length) = some n)
    (hR : 9 ≤ R.frames ∧ 8 + (maxL + 11) + 256 ≤ R.locals) (hc : cells + 1 ≤ R.cells ∧ slots + 6 ≤ R.slots)
    {cellB : Cell} (hcell : T.heap[b]? = some cellB) (hobj : cellB.vm.isStatics = false) (hcls : s.vm.findClass C = some cellB.cls)
    {g : JFrame} (hg : g.method = m) (hsize : g.locals.size = c.maxLocals) (hn : As.length = n) (hstack : g.stack = As.reverse ++ .ref b :: rest) (hW : 2 * g.monitorRoom + (rest.map fun v => v.category).sum ≤ 8) (hdg : decode c.code g.pc = .ok (.invokevirtual index, 3)) :
    ∃ (T1 : State) (a : Nat) (ce : Cell), Stand p l e R s m args below meth c T1 locs (cells + 1) (slots + 6) ∧ T1.heap[a]? = some ce ∧ ce.vm = .none ∧ s.vm.findClass X = some ce.cls ∧ T.heap.size ≤ T1.heap.size ∧ (∀ q : Nat, q < T.heap.size → T1.heap[q]? = T.heap[q]?) ∧
      ∀ target, Steps p.tables e below ((T1.setTop { g with stack := rest }).pushFrame (.throwing a)) target → Steps p.tables e below (T.setTop g) target := by
  subst hg
  obtain ⟨hd1, hd2, hd3, hd4⟩ := hd
  subst hd1
  obtain ⟨mk, methM, hnamed, hmethM, hstM, habM⟩ := Cond.instanceMethod_spec (hB _ kim)
  obtain ⟨methM', cM, hmethM', -, -, -, -, -, -, hsigM⟩ := Cond.code_spec hnamed (hB _ kcd)
  cases hmethM.symm.trans hmethM'
  obtain ⟨c2, r2, m2, q1, q2, q3, q4, kP, hkP, hkPi⟩ := Cond.selects_spec (hB _ kse)
  cases hcls.symm.trans q1
  cases (State.methodFound?_of_named hnamed ⟨hd2, hd3⟩).symm.trans q2
  cases hnamed.symm.trans q3
  have hselP : selectMethod e.platform s.vm cellB.cls mk = .method mk := by rw [Launch.admits_selectMethod X0.admits]; exact q4
  have hlen : As.length = methM.sig.parameters.length := by
    rw [hsigM] at hd4
    simp only [Option.map_some, Option.some.injEq] at hd4
    omega
  obtain ⟨vm₁, X₁, hstep₁⟩ := X0.invokevirtual hx hown (hB _ kml) hnamed hmethM hstM hkP hkPi ⟨hd2, hd3⟩ (a := b) (cell := cellB) hcell
    (fun z h => by rw [h] at hobj; cases hobj) hselP hmethM habM hkP hkPi (g := g) rfl (argsL := As) (rest := rest) hlen hstack hdg
  have hn1 : (T.setVm vm₁).methodNamed? y = some mk := X₁.named hnamed
  have hgood : ∀ w ∈ bs_big, w.before (Value.ref b :: As).toArray (T.setVm vm₁) = true := fun w hw => word_at (U := T.setVm vm₁) X₁.warmed (good_of_word (List.mem_filter.mp hw).2) (hB w hw)
  obtain ⟨methY, cY, hmY, hcY, -, hlY, -, -, -, -⟩ := Cond.code_spec hn1 (hgood _ kcd)
  obtain ⟨kY, hkY, -⟩ := className_of_methodNamed hn1
  have hinitY : kY.init = .initialized := Cond.initialized_spec (findClass_of_methodNamed hn1) hkY (hgood _ kin)
  have h : At (T.setVm vm₁) ({ g with stack := rest } : JFrame).method c below := X₁.here
  have happ : (headSpec (Cond.code y bytes maxL ret :: bs_big) bx_rm).appliesLoose y e.platform ((T.setVm vm₁).calling { g with stack := rest } mk (Value.ref b :: As).toArray) = true :=
    Spec.appliesLoose_calling (g := { g with stack := rest }) h hdg hn1 hkY hinitY
      (X₁.room_calling (g := { g with stack := rest }) (R' := bx_rm) hsize hmY hcY (by show 8 + 1 ≤ R.frames; omega) (by rw [hlY]; show _ + 256 ≤ _; have := hW; dsimp only at this ⊢; omega) hc.1 hc.2)
      (atoms_intro (ws := Cond.code y bytes maxL ret :: bs_big) fun w hw => by
        rcases List.mem_cons.mp hw with rfl | hw
        · exact hgood _ kcd
        · exact hgood _ hw)
  obtain ⟨mid, hmid⟩ := h.above
  have hfr : ((T.setVm vm₁).setTop { g with stack := rest }).frames = (.java { g with stack := rest } :: mid) ++ below := by rw [State.frames_setTop' _ h.top, hmid]; rfl
  have hpre : va_Pc (.ref b :: As) (fun U => bs_Pre D w0 ty T.heap.size U ∧ bx_Z U) (Value.ref b :: As).toArray ((T.setVm vm₁).calling { g with stack := rest } mk (Value.ref b :: As).toArray) := by
    obtain ⟨z1, z2⟩ := hPre (T.setVm vm₁) rfl X₁.warmed
    exact ⟨rfl, (bs_blind (av := .ref b :: As) (Value.ref b :: As).toArray (T.setVm vm₁) { g with stack := rest } mk ⟨rfl, z1⟩).2, z2.same rfl (fun _ _ h => h)⟩
  obtain ⟨o, s₂, hsteps, -, hend, hq⟩ := Steps.callFree (hM T.heap.size) p X₁.admits X₁.cas X₁.clock (acts := []) hfr happ hpre trivial
  have hq : bx_E X ((T.setVm vm₁).calling { g with stack := rest } mk (Value.ref b :: As).toArray) o s₂ := hq
  obtain ⟨q, ce, rfl, hce, hvm, hfc, hszq, hW₂, e2, q2, q3, q4, q5, q6⟩ := hq
  rw [State.frames_setTop' _ h.top] at hend
  have hend' : s₂.frames = .throwing q :: .java { g with stack := rest } :: (T.setVm vm₁).frames.tail := hend
  have hW' : (T.setVm vm₁).WarmedH s₂.vm := hW₂
  obtain ⟨g₀, hg0⟩ := Option.isSome_iff_exists.mp h.top
  obtain ⟨r, hr⟩ := State.topJava?_eq_some.mp hg0
  have hsame : (T.setVm vm₁).sameButNew ({ (T.setVm vm₁) with heap := s₂.heap, slotsUsed := s₂.slotsUsed } : State) [] 1 6 := by
    refine ⟨?_, q2, q3, q4, q5, q6⟩
    obtain ⟨t, ht, -⟩ := State.frames_cons hr
    show ({ (T.setVm vm₁) with heap := s₂.heap, slotsUsed := s₂.slotsUsed } : State) = { (T.setVm vm₁).setFrames (T.setVm vm₁).frames with heap := s₂.heap, slotsUsed := s₂.slotsUsed }
    rw [State.setFrames_self ht]
  have e3 : s₂ = ({ ((T.setVm vm₁).calling { g with stack := rest } mk (Value.ref b :: As).toArray).setFrames s₂.frames with heap := s₂.heap, slotsUsed := s₂.slotsUsed } : State).setVm s₂.vm := by
    have : s₂ = ({ s₂ with vm := ((T.setVm vm₁).calling { g with stack := rest } mk (Value.ref b :: As).toArray).vm } : State).setVm s₂.vm := rfl
    rw [e2] at this
    exact this
  have hs₂ : s₂ = ((({ (T.setVm vm₁) with heap := s₂.heap, slotsUsed := s₂.slotsUsed } : State).setVm s₂.vm).setTop { g with stack := rest }).pushFrame (.throwing q) := by
    have hr' : (({ (T.setVm vm₁) with heap := s₂.heap, slotsUsed := s₂.slotsUsed } : State).setVm s₂.vm).frames = .java g₀ :: r := hr
    have hr2 : (({ (T.setVm vm₁) with heap := s₂.heap, slotsUsed := s₂.slotsUsed } : State).setVm s₂.vm).topJava?.isSome := h.top
    refine e3.trans ?_
    rw [State.pushFrame, State.frames_setTop' _ hr2, State.setTop_of_frames _ hr', State.setFrames_setFrames, hend', State.calling_eq h.top, State.setFrames_setFrames, hr']
    rw [hr]
    rfl
  have hsm : s.sameButNew (({ T with heap := s₂.heap, slotsUsed := s₂.slotsUsed } : State).setVm s.vm) (locs ++ []) (cells + 1) (slots + 6) := X₁.same.trans (hsame.setVm s.vm)
  rw [List.append_nil] at hsm
  refine ⟨(({ (T.setVm vm₁) with heap := s₂.heap, slotsUsed := s₂.slotsUsed } : State).setVm s₂.vm), q, ce,
    ⟨X₁.admits, X₁.cas, X₁.clock, X₁.frames, X₁.room, X₁.hears, X₁.method, X₁.code, (X₁.here.setHeapUsed s₂.heap s₂.slotsUsed).setVm hW'.alike, X₁.tail, State.WarmedH.trans X₁.warmed hW', X₁.limits, X₁.bytes, hsm⟩, hce, hvm, ?_, q2, ?_, ?_⟩
  · have hfc' : (T.setVm vm₁).vm.findClass X = some ce.cls := hfc
    rw [X₁.warmed.alike.findClass] at hfc'
    exact hfc'
  · intro j hj
    obtain ⟨c1, hc1⟩ : ∃ c1, T.heap[j]? = some c1 := ⟨_, Array.getElem?_eq_getElem hj⟩
    obtain ⟨c', hc', he, hs1, hs2⟩ := q6 j c1 hc1
    show s₂.heap[j]? = _
    rw [hc1]
    refine hc'.trans ?_
    rw [he]
    congr 1
    have : c'.slots = c1.slots := Array.ext_getElem? (fun i => hs2 i (by simp))
    rw [this]
  · intro target htg
    refine hstep₁ _ fun acts => ?_
    rw [doInvoke_state]
    rw [← hs₂] at htg
    exact hsteps.trans htg
end BXR
