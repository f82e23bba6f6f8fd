-- the law's start: words, classes, the two cells of the script, the initial relation
theorem lw_NW {b : Nat} {s : State} (hts : ∀ w ∈ lw_tbl, w.before #[Value.ref b] s = true) : bs_NW s := fun w hw => va_Nw.of (bs_ntab w hw) (hts w (bs_nin w hw))
set_option maxRecDepth 100000 in
theorem lw_zin : ∀ w ∈ bx_zl, w ∈ lw_tbl ∨ w ∈ flatC (Jvm.Cond.and given_1 narrow_1) := by decide +kernel
theorem lw_Zs {b : Nat} {s : State} (hts : ∀ w ∈ lw_tbl, w.before #[Value.ref b] s = true) (hgv : (Jvm.Cond.and given_1 narrow_1).before #[Value.ref b] s = true) : bx_Z s := by
  intro w hw
  have h1 : w.before #[Value.ref b] s = true := by
    rcases lw_zin w hw with h | h
    · exact hts w h
    · exact flat_of_before _ hgv w h
  simp only [bx_zl, List.mem_cons, List.not_mem_nil, or_false] at hw
  rcases hw with rfl | rfl | rfl | rfl | rfl | rfl | rfl | rfl | rfl | rfl | rfl | rfl | rfl | rfl | rfl | rfl | rfl | rfl | rfl | rfl | rfl | rfl | rfl <;> exact h1
theorem lw_Ks {args : Array Value} {s : State} (hB : ∀ w ∈ bs_big, w.before args s = true) : ∃ D : va_G, va_K D bs_cl [] s := by
  obtain ⟨c0, i0, k0⟩ := u_known (n := 2) hB ki_As (hB _ kw_ib_As)
  obtain ⟨c1, i1, k1⟩ := u_known (n := 10) hB ki_Cn (hB _ kw_ib_Cn)
  obtain ⟨c2, i2, k2⟩ := u_known (n := 3) hB ki_Mt (hB _ kw_ib_Mt)
  obtain ⟨c3, i3, k3⟩ := u_known (n := 7) hB ki_Pf (hB _ kw_ib_Pf)
  obtain ⟨c4, i4, k4⟩ := u_known (n := 2) hB ki_Rw (hB _ kw_ib_Rw)
  obtain ⟨c5, i5, k5⟩ := u_known (n := 5) hB ki_Lp (hB _ kw_ib_Lp)
  obtain ⟨c6, i6, k6⟩ := u_known (n := 28) hB ki_Mo (hB _ kw_ib_Mo)
  refine ⟨(fun k => match k with | 0 => c0 | 1 => c1 | 2 => c2 | 3 => c3 | 4 => c4 | 5 => c5 | _ => c6, fun k => match k with | 0 => i0 | 1 => i1 | 2 => i2 | 3 => i3 | 4 => i4 | 5 => i5 | _ => i6), fun c q hq => ?_, fun k q h => by simp at h⟩
  have hc : c < 7 := (List.getElem?_eq_some_iff.mp hq).1
  rcases (show c = 0 ∨ c = 1 ∨ c = 2 ∨ c = 3 ∨ c = 4 ∨ c = 5 ∨ c = 6 by omega) with rfl | rfl | rfl | rfl | rfl | rfl | rfl
  · cases hq; exact k0
  · cases hq; exact k1
  · cases hq; exact k2
  · cases hq; exact k3
  · cases hq; exact k4
  · cases hq; exact k5
  · cases hq; exact k6
def lw_v (L : Nat) (xs : Nat → Int32) (k : Int32) : Int32 := if Int32.ofNat L ≤ k then 0 else xs k.toNatClampNeg
theorem lw_vin {L : Nat} {k : Int32} (hL : L ≤ 1538) (hk : ¬ k < 0) (h : ¬ Int32.ofNat L ≤ k) : vp_in k L := by
  intro q
  rcases q with q | q
  · exact hk q
  · apply h
    have e1 : (Int32.ofNat L).toInt = L := nI_toInt (by omega)
    have e0 : (0 : Int32).toInt = 0 := by decide +kernel
    rw [Int32.le_iff_toInt_le, e1]
    rw [Int32.lt_iff_toInt_lt, e0] at hk
    have : k.toNatClampNeg = k.toInt.toNat := rfl
    omega
set_option maxRecDepth 100000 in
theorem lw_cell (l : Launch) (b L : Nat) (xs : Nat → Int32) (k : Int32) (hL : L ≤ 1538) (hk : ¬ k < 0) (sz : Nat) : Met l my_La_cell (Cond.code my_La_cell mb_La_cell 2 (some .int) :: bs_big) (bs_rm 0) (va_Pc [.ref b, .int k] (fun U => U.heap.size = sz ∧ va_X b L xs U U.heap ∧ b < U.heap.size))
    (va_Qi (fun v (_ : Unit) => v = lw_v L xs k) (fun _ _ => True) (fun q => sz ≤ q)) 0 0 (fun q => sz ≤ q) := by
  refine Met.ofW (cc := mb_La_cell) (maxL := 2) (ret := some .int) (by decide +kernel) rfl ?_
  intro p e s m args below meth c s₁ B hml hv
  obtain ⟨rfl, hsz, hX, hbl⟩ := hv
  subst hsz
  have hx := B.exec
  have hb := B.bytes
  have hl := lv_entry [.ref b, .int k] (n := 2) (bs_ler rfl)
  rw [lg_entry_eq]
  generalize (lg_sl ([.ref b, .int k]) ++ List.replicate (2 - (lg_sl ([.ref b, .int k])).length) Slot.unset).toArray = ls at hl ⊢
  have hl : lv_has ls 2 [(0, .ref b), (1, .int k)] := hl
  have hS := va_S.rf (A := fun q => s.heap.size ≤ q) (H0 := s.heap)
  have hbA : ¬ s.heap.size ≤ b := Nat.not_le.mpr hbl
  have hlk := B.notSynchronized
  refine lv_iload_n hx hb dc_La_cell_0 rfl (lv_at hl 1 rfl) ?_
  refine lv_aload_n hx hb dc_La_cell_1 rfl (lv_at hl 0 rfl) ?_
  refine va_slen hx hb hX hbl hbA hS dc_La_cell_2 ?_
  refine lv_icmp_ge (tgt := 12) hx hb dc_La_cell_3 (by decide) (fun h3 => ?_) (fun h3 => ?_)
  · refine lv_iconst (v := 0) hx hb dc_La_cell_12 (by decide +kernel) ?_
    exact W.iret (v := 0) hx hb B.returns (fun t ht hW => ⟨⟨0, (), rfl, by rw [lw_v, if_pos h3], trivial⟩, hS.F ht⟩) hS.2.2 dc_La_cell_13 (hlocks := hlk)
  · refine lv_aload_n hx hb dc_La_cell_6 rfl (lv_at hl 0 rfl) ?_
    refine lv_iload_n hx hb dc_La_cell_7 rfl (lv_at hl 1 rfl) ?_
    refine va_sld hx hb hX hbl hbA hS (lw_vin hL hk h3) dc_La_cell_8 ?_
    refine lv_goto (tgt := 13) hx hb dc_La_cell_9 (by decide) ?_
    exact W.iret (v := xs k.toNatClampNeg) hx hb B.returns (fun t ht hW => ⟨⟨_, (), rfl, by rw [lw_v, if_neg h3], trivial⟩, hS.F ht⟩) hS.2.2 dc_La_cell_13 (hlocks := hlk)
section LWC
variable {p : Program} {l : Launch} {e : Env} {R : Room} {s : State} {m : MethodId} {args : Array Value} {below : List Frame} {meth : Method} {c : Code} {H : Heap} {locs : List Loc} {cells slots : Nat} {Q : State → Prop}
variable {cc : ByteArray} {nL pc : Nat} {ls : Array Slot} {D : va_G} {ws : va_W} {A : Nat → Prop}
theorem lw_cellc {b L : Nat} {xs : Nat → Int32} {k : Int32} (rest : List Value) (hL : L ≤ 1538) (hk : ¬ k < 0) (hx : p.tables.exec = Jvm.exec) (hb : c.code = cc) (hml : c.maxLocals = nL) (hown : s.vm.findClass cn_La = some m.cls) (hB : ∀ w ∈ bs_big, w.before args s = true)
    (hX : va_X b L xs s s.heap) (hbl : b < s.heap.size) (hold : ∀ q, q < s.heap.size → ¬ A q) (hA : ∀ q, s.heap.size ≤ q → A q) (hP : va_P D bs_cl ws H) (hS : va_S A s.heap H locs)
    (hR : 1 ≤ R.frames ∧ 21 ≤ R.locals) (hsz : ls.size = nL) (hrest : (rest.map fun v => v.category).sum ≤ 8) (hcs : cells ≤ R.cells ∧ slots ≤ R.slots) (hdg : decode cc pc = .ok (.invokestatic 52, 3))
    (kk : ∀ (H1 : Heap) (locs1 : List Loc), va_P D bs_cl ws H1 → va_S A s.heap H1 locs1 → W p l e R s m args below meth c H1 locs1 cells slots Q (F0 m (pc + 3) ls (.int (lw_v L xs k) :: rest))) :
    W p l e R s m args below meth c H locs cells slots Q (F0 m pc ls (.int k :: .ref b :: rest)) := by
  have hAH : ∀ q, H.size ≤ q → A q := fun q h => hA q (Nat.le_trans hS.1 h)
  have hbH : b < H.size := Nat.lt_of_lt_of_le hbl hS.1
  have hXH : va_X b L xs s H := hX.kept (hS.2.1 b hbl (hold b hbl))
  refine va_calli (va_runS (As := [.ref b, .int k]) (rest := rest) ⟨hx, hb, hml, hown, hB⟩ (lw_cell l b L xs k hL hk H.size) (va_cwS 2 hB (bs_gS kw_cd_La_cell kw_ml_La_52 kw_st_La_cell kw_in_La) rfl rfl rfl kd_La_cell ⟨hR.1, hR.2⟩)
    ⟨fun a U g mk q => by obtain ⟨q0, q1, qX, qb⟩ := q; exact ⟨q0, q1, va_X.moved (u := U) (U := U.calling g mk a) (Vm.Alike.refl U.vm) qX, qb⟩, fun U hU hW => ⟨rfl, by rw [hU], by rw [hU]; exact va_X.moved hW.alike hXH, by rw [hU]; exact hbH⟩⟩ rfl rfl hsz rfl (lv_room hrest) hdg ⟨hcs.1, hcs.2⟩) hS (fun q h1 h2 => absurd h1 (Nat.not_lt.mpr h2)) hAH (fun r u t H1 locs1 ht hvm hpo hBu hz1 hk1 hS1 => ?_)
  have hpo : r = lw_v L xs k := hpo
  subst hpo
  exact kk H1 locs1 (hP.kept fun j q hj => hk1 q.1 (hP j q hj).lt (Nat.not_le.mpr (hP j q hj).lt)) hS1
end LWC
theorem lw_capN (i : Int32) : ∃ n : Nat, bn_cap i = nI n ∧ 1 ≤ n ∧ n ≤ 12 := by
  unfold bn_cap
  have e1 : (1 : Int32).toInt = 1 := by decide +kernel
  have e12 : (12 : Int32).toInt = 12 := by decide +kernel
  by_cases h1 : (1 : Int32) ≤ i
  · by_cases h2 : i ≤ 12
    · rw [if_pos h1, if_pos h2]
      rw [Int32.le_iff_toInt_le, e1] at h1
      rw [Int32.le_iff_toInt_le, e12] at h2
      refine ⟨i.toInt.toNat, ?_, by omega, by omega⟩
      apply Int32.toInt_inj.mp
      rw [nI_toInt (by omega)]; omega
    · rw [if_pos h1, if_neg h2]; exact ⟨12, rfl, by decide, by decide⟩
  · rw [if_neg h1]; exact ⟨1, rfl, by decide, by decide⟩
theorem lw_init (sec i : Int32) {qf vf made : Nat → Int32} {th : Int32} : al_rel 0 (fun _ => 0) 0 (fun _ => 0) 0 0 sec 0 0 0 0 0 0 (fun _ => 0) 1 (bn_cap i) 0 0 0 (upd (fun _ => 0) ((0 : Int32).toNatClampNeg) 1) (fun _ => 0) 0 qf 0 (fun _ => 0) 0 vf
    sec th 0 (bn_cap i) 0 1 0 0 0 0 0 0 0 0 0 0 0 0 0 (fun _ => 0) (upd (upd (upd (fun _ => 0) ((0 : Int32).toNatClampNeg) 1) ((1 : Int32).toNatClampNeg) 0) ((2 : Int32).toNatClampNeg) 0) (fun _ => 0) (fun _ => 0) (fun _ => 0) (fun _ => 0) (fun _ => 0) (fun _ => 0) made := by
  obtain ⟨capN, e, h1, h2⟩ := lw_capN i
  have nil : ∀ f : Nat → Int32, fb f [] := fun f i x h => by simp at h
  have nB : pu_B [] := fun x h => by simp at h
  have one : ∀ f : Nat → Int32, f 0 = 1 → fb f [1] := fun f hf i x h => by
    have hi : i < 1 := (List.getElem?_eq_some_iff.mp h).1
    obtain rfl : i = 0 := by omega
    cases h; exact hf
  have wf : ab_wf [1] [] capN 0 := ⟨by decide, by decide, fun c hc => by simp at hc; subst hc; exact ⟨by decide, by decide⟩, h1, h2, by decide, Nat.zero_le _, fun e he => by simp at he, fun e he => by simp at he⟩
  refine al_mk rfl ⟨[], ⟨rfl, Nat.zero_le _, by decide, nil _⟩, rfl, nil _, nB⟩ ⟨[], ⟨rfl, Nat.zero_le _, by decide, nil _⟩, rfl, nil _, nB, Or.inl rfl⟩ ⟨0, 0, rfl, rfl, rfl, rfl, by decide, by decide⟩
    ⟨0, 0, 0, [], Or.inl rfl, rfl, rfl, rfl, by decide, rfl, rfl, by decide, rfl, rfl, by decide, ⟨rfl, Nat.zero_le _, by decide, nil _⟩, rfl, nil _, nB, Or.inl rfl⟩
    ⟨0, fun _ => 0, [1], [], capN, 0, rfl, by decide, rfl, fun _ _ _ => rfl, fun _ _ _ => rfl, ⟨wf, rfl, e, rfl, rfl, one _ (by decide +kernel), 0, rfl, by decide, fun i e k x h => by simp at h⟩, ⟨wf, rfl, e, rfl, rfl, one _ (by decide +kernel), fun i e h => by simp at h⟩⟩ (Or.inl ⟨rfl, rfl⟩)
