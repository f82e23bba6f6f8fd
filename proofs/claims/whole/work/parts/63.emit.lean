/-! The reference's made bytes -/
theorem pu_byteN {x : Nat} (h : x < 256) : (nI x).toBitVec.toNat % 256 = x := by rw [pk_tn (by omega)]; exact Nat.mod_eq_of_lt h
theorem pu_emitV {F : Nat} {m : Int32} {f : Nat → Int32} {l : List Nat} {v : Int32} (h : rw_is 300 m f l) (hl : l.length < 300) : ∃ r, mm_Mo_emit F v m f = some r ∧ rw_is 300 r.1 r.2 (l ++ [v.toBitVec.toNat % 256]) := by
  obtain ⟨rfl, h1, h2, h3⟩ := h
  rw [mq_Mo_emit, if_neg (nI_in hl (by omega)), nI_clamp (by omega), nI_1, pu_and255]
  exact ⟨_, rfl, by simp, by simp; omega, h2, h3.push _⟩
theorem pu_emit {F : Nat} {m : Int32} {f : Nat → Int32} {l : List Nat} {x : Nat} (h : rw_is 300 m f l) (hl : l.length < 300) (hx : x < 256) : ∃ r, mm_Mo_emit F (nI x) m f = some r ∧ rw_is 300 r.1 r.2 (l ++ [x]) := by
  obtain ⟨r, e, hr⟩ := pu_emitV (F := F) (v := nI x) h hl
  rw [pu_byteN hx] at hr
  exact ⟨r, e, hr⟩
theorem pu_emitInt {F : Nat} {m : Int32} {f : Nat → Int32} {l : List Nat} {t : Nat} {v : Int32} (h : rw_is 300 m f l) (hl : l.length + 5 ≤ 300) (ht : t < 256) (hF : 5 < F) : ∃ r, mm_Mo_emitInt F (nI t) v m f = some r ∧ rw_is 300 r.1 r.2 (l ++ t :: pu_by v) := by
  obtain ⟨r0, e0, h0⟩ := pu_emit (F := F) (x := t) h (by omega) ht
  have hb : ∀ (s : Int32) (k : Nat), ((s.toUInt32 &&& Int32.toUInt32 31).toBitVec % 32).toNat = k → (bs_ushr v s).toBitVec.toNat = v.toBitVec.toNat / 2 ^ k := fun s k hs => pk_ushr v s k hs
  obtain ⟨r1, e1, h1⟩ := pu_emitV (F := F) (v := bs_ushr v (8 * 3)) h0 (by simp; omega)
  obtain ⟨r2, e2, h2⟩ := pu_emitV (F := F) (v := bs_ushr v (8 * (3 + (-1)))) h1 (by simp; omega)
  obtain ⟨r3, e3, h3⟩ := pu_emitV (F := F) (v := bs_ushr v (8 * (3 + (-1) + (-1)))) h2 (by simp; omega)
  obtain ⟨r4, e4, h4⟩ := pu_emitV (F := F) (v := bs_ushr v (8 * (3 + (-1) + (-1) + (-1)))) h3 (by simp; omega)
  rw [hb _ 24 (by decide +kernel), hb _ 16 (by decide +kernel), hb _ 8 (by decide +kernel), hb _ 0 (by decide +kernel)] at h4
  obtain ⟨k, rfl⟩ : ∃ k, F = k + 6 := ⟨F - 6, by omega⟩
  rw [mq_Mo_emitInt, pu_b e0, mq_Mo_emitInt_L7, if_neg (by decide +kernel), pu_b e1, mq_Mo_emitInt_L7, if_neg (by decide +kernel), pu_b e2, mq_Mo_emitInt_L7, if_neg (by decide +kernel), pu_b e3, mq_Mo_emitInt_L7, if_neg (by decide +kernel), pu_b e4, mq_Mo_emitInt_L7, if_pos (by decide +kernel)]
  refine ⟨_, rfl, ?_⟩
  have e : l ++ t :: pu_by v = ((((l ++ [t]) ++ [v.toBitVec.toNat / 2 ^ 24 % 256]) ++ [v.toBitVec.toNat / 2 ^ 16 % 256]) ++ [v.toBitVec.toNat / 2 ^ 8 % 256]) ++ [v.toBitVec.toNat / 2 ^ 0 % 256] := by
    have := v.toBitVec.isLt
    have e24 : v.toBitVec.toNat / 2 ^ 24 % 256 = v.toBitVec.toNat / 2 ^ 24 := Nat.mod_eq_of_lt (by omega)
    rw [e24, show v.toBitVec.toNat / 2 ^ 0 = v.toBitVec.toNat by omega]
    simp [pu_by]
  rw [e]
  exact h4
theorem pu_say {F : Nat} {m : Int32} {f : Nat → Int32} {a b : Nat} (ha : a < 256) (hb : b < 256) : ∃ r, mm_Mo_say F (nI a) (nI b) m f = some r ∧ rw_is 300 r.1 r.2 [a, b] := by
  obtain ⟨r0, e0, h0⟩ := pu_emit (F := F) (x := a) (pu_empty (N := 300) f (by decide)) (by decide) ha
  obtain ⟨r1, e1, h1⟩ := pu_emit (F := F) (x := b) h0 (by simp) hb
  rw [mq_Mo_say, pu_b e0, pu_b e1]
  exact ⟨_, rfl, h1⟩
theorem pu_refuse {F : Nat} {m : Int32} {f : Nat → Int32} {a : Nat} (ha : a < 256) : ∃ r, mm_Mo_refuse F (nI a) m f = some r ∧ rw_is 300 r.1 r.2 [196, 1, 1, a] := by
  obtain ⟨r0, e0, h0⟩ := pu_say (F := F) (m := m) (f := f) (a := 196) (b := 1) (by decide) (by decide)
  obtain ⟨r1, e1, h1⟩ := pu_emit (F := F) (x := 1) h0 (by simp) (by decide)
  obtain ⟨r2, e2, h2⟩ := pu_emit (F := F) (x := a) h1 (by simp) ha
  rw [mq_Mo_refuse, pu_b (show mm_Mo_say F 196 1 m f = some r0 from e0), pu_b (show mm_Mo_emit F 1 r0.1 r0.2 = some r1 from e1), pu_b e2]
  exact ⟨_, rfl, h2⟩
/-! .. and the class's rows likewise -/
theorem pu_addTwo {F N : Nat} {sz : Int32} {f : Nat → Int32} {l : List Nat} {a b : Nat} (h : rw_is N sz f l) (hl : l.length + 2 ≤ N) : ∃ r, mm_Cn_addTwo F N (nI a) (nI b) sz f = some r ∧ rw_is N r.1 r.2 (l ++ [a, b]) := by
  obtain ⟨r0, e0, h0⟩ := pu_add (F := F) (x := a) h (by omega)
  obtain ⟨r1, e1, h1⟩ := pu_add (F := F) (x := b) h0 (by simp; omega)
  rw [mq_Cn_addTwo, pu_b e0, pu_b e1]
  rw [List.append_assoc] at h1
  exact ⟨_, rfl, h1⟩
theorem pu_addFailure {F N : Nat} {sz : Int32} {f : Nat → Int32} {l : List Nat} {a : Nat} (h : rw_is N sz f l) (hl : l.length + 4 ≤ N) : ∃ r, mm_Cn_addFailure F N (nI a) sz f = some r ∧ rw_is N r.1 r.2 (l ++ [196, 1, 1, a]) := by
  obtain ⟨r0, e0, h0⟩ := pu_addTwo (F := F) (a := 196) (b := 1) h (by omega)
  obtain ⟨r1, e1, h1⟩ := pu_addTwo (F := F) (a := 1) (b := a) h0 (by simp; omega)
  rw [mq_Cn_addFailure, pu_b (show mm_Cn_addTwo F N 196 1 sz f = some r0 from e0), pu_b (show mm_Cn_addTwo F N 1 (nI a) r0.1 r0.2 = some r1 from e1)]
  rw [List.append_assoc] at h1
  exact ⟨_, rfl, h1⟩
