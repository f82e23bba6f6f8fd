/-! Long values in blocks -/
def bl_out (v : List Nat) (k : Nat) : List Nat := [196, 2, if v.length - 40 * (k - 1) ≤ 40 then 1 else 0, k] ++ (v.drop (40 * (k - 1))).take 40
theorem bl_send {F N k : Nat} {bs vsz psz : Int32} {vf pf : Nat → Int32} {v l : List Nat} (hF : 300 < F) (h : rw_is N psz pf l) (hl : l.length + 44 ≤ N) (hv : rw_is 266 vsz vf v) (hk1 : 1 ≤ k) (hk : 40 * (k - 1) < v.length) :
    ∃ r, mm_Cn_sendBlock F N (nI k) bs vsz vf psz pf = some r ∧ (r.1 = if v.length - 40 * (k - 1) ≤ 40 then 0 else nI k) ∧ rw_is N r.2.1 r.2.2 (l ++ bl_out v k) := by
  have hvl := hv.2.1
  have hN := h.2.2.1
  have ef : (40 : Int32) * (nI k - 1) = nI (40 * (k - 1)) := by
    rw [show nI k - 1 = nI (k - 1) from pk_sub (b := 1) hk1]
    exact pk_mul 40 _
  have el : vsz - nI (40 * (k - 1)) = nI (v.length - 40 * (k - 1)) := by rw [hv.1]; exact pk_sub (by omega)
  obtain ⟨r1, e1, h1⟩ := pu_addTwo (F := F) (a := 196) (b := 2) h (by omega)
  rw [mq_Cn_sendBlock, ef, el]
  by_cases hq : v.length - 40 * (k - 1) ≤ 40
  · obtain ⟨r2, e2, h2⟩ := pu_addTwo (F := F) (a := 1) (b := k) h1 (by simp; omega)
    obtain ⟨r3, e3, h3⟩ := pu_addPart (F := F) (a := 40 * (k - 1)) (c := v.length - 40 * (k - 1)) h2 hv (by omega) (by simp; omega) (by omega)
    rw [if_neg (pu_ncl 40 40 hq), mq_Cn_sendBlock_J30, pu_b (show mm_Cn_addTwo F N 196 2 psz pf = some r1 from e1), if_neg (by decide +kernel), mq_Cn_sendBlock_J51, pu_b (show mm_Cn_addTwo F N 1 (nI k) r1.1 r1.2 = some r2 from e2), if_neg (by decide +kernel), pu_b e3, if_neg (by decide +kernel)]
    refine ⟨_, rfl, by rw [if_pos hq], ?_⟩
    have e : l ++ bl_out v k = l ++ [196, 2] ++ [1, k] ++ (v.drop (40 * (k - 1))).take (v.length - 40 * (k - 1)) := by
      unfold bl_out
      rw [if_pos hq, List.take_of_length_le (i := 40) (by rw [List.length_drop]; exact hq), List.take_of_length_le (i := v.length - 40 * (k - 1)) (by rw [List.length_drop]; omega)]
      simp
    rw [e]
    exact h3
  · obtain ⟨r2, e2, h2⟩ := pu_addTwo (F := F) (a := 0) (b := k) h1 (by simp; omega)
    obtain ⟨r3, e3, h3⟩ := pu_addPart (F := F) (a := 40 * (k - 1)) (c := 40) h2 hv (by omega) (by simp; omega) (by omega)
    rw [if_pos (pu_cl 40 40 (by omega)), mq_Cn_sendBlock_J30, pu_b (show mm_Cn_addTwo F N 196 2 psz pf = some r1 from e1), if_pos rfl, mq_Cn_sendBlock_J51, pu_b (show mm_Cn_addTwo F N 0 (nI k) r1.1 r1.2 = some r2 from e2), if_pos rfl, pu_b (show mm_Rw_addPart F N 266 (nI (40 * (k - 1))) 40 r2.1 r2.2 vsz vf = some r3 from e3), if_pos rfl]
    refine ⟨_, rfl, by rw [if_neg hq], ?_⟩
    have e : l ++ bl_out v k = l ++ [196, 2] ++ [0, k] ++ (v.drop (40 * (k - 1))).take 40 := by
      unfold bl_out
      rw [if_neg hq]
      simp
    rw [e]
    exact h3
/-- the reference sends bytes i to e of what it keeps -/
theorem bl_68 {F a e : Nat} {sz sent : Int32} {mb : Nat → Int32} {v : List Nat} (hv : fb mb v) (hB : pu_B v) (he : e ≤ v.length) (hv2 : v.length ≤ 266) :
    ∀ (k i : Nat) (m : Int32) (f : Nat → Int32) (l : List Nat), i ≤ e → e - i < k → rw_is 300 m f l → l.length + (e - i) ≤ 300 → a < 2 ^ 31 →
      ∃ r, mm_Mo_block_L68 F k (nI a) (nI e) (nI i) sz sent m mb f = some r ∧ (r.1 = if e = a then 0 else nI a) ∧ r.2.1 = sent ∧ rw_is 300 r.2.2.1 r.2.2.2 (l ++ (v.drop i).take (e - i)) := by
  intro k
  induction k with
  | zero => intro i m f l _ h; omega
  | succ k ih =>
    intro i m f l hi hk h hl ha
    rw [mq_Mo_block_L68]
    by_cases hie : e ≤ i
    · rw [if_pos (nI_le hie (by omega)), show e - i = 0 by omega, List.take_zero, List.append_nil]
      by_cases hea : e = a
      · rw [if_pos (congrArg nI hea), if_pos hea]
        exact ⟨_, rfl, rfl, rfl, h⟩
      · rw [if_neg (pu_nn (by omega) ha hea), if_neg hea]
        exact ⟨_, rfl, rfl, rfl, h⟩
    · have hlt : i < v.length := by omega
      obtain ⟨r1, e1, h1⟩ := pu_emit (F := F) (x := v[i]) h (by omega) (hB _ (List.getElem_mem hlt))
      rw [if_neg (nI_ge (by omega) (by omega)), if_neg (nI_in (by omega) (by omega)), nI_clamp (by omega), hv i _ (List.getElem?_eq_getElem hlt), pu_b e1, nI_1]
      obtain ⟨r2, e2, q1, q2, h2⟩ := ih (i + 1) r1.1 r1.2 _ (by omega) (by omega) h1 (by simp; omega) ha
      refine ⟨r2, e2, q1, q2, ?_⟩
      have e' : (v.drop i).take (e - i) = v[i] :: (v.drop (i + 1)).take (e - (i + 1)) := by
        rw [List.drop_eq_getElem_cons hlt, show e - i = (e - (i + 1)) + 1 by omega, List.take_succ_cons]
      rw [e']
      rw [List.append_assoc] at h2
      exact h2
theorem bl_block {F k : Nat} {sz m : Int32} {mb f : Nat → Int32} {v : List Nat} (hF : 300 < F) (hv : fb mb v) (hB : pu_B v) (hv2 : v.length ≤ 266) (hk1 : 1 ≤ k) (hk : 40 * (k - 1) < v.length) :
    ∃ r, mm_Mo_block F (nI v.length) sz (nI (k - 1)) m mb f = some r ∧ (r.1 = if v.length - 40 * (k - 1) ≤ 40 then 0 else nI v.length) ∧ r.2.1 = nI k ∧ rw_is 300 r.2.2.1 r.2.2.2 (bl_out v k) := by
  have ef : (40 : Int32) * nI (k - 1) = nI (40 * (k - 1)) := pk_mul 40 _
  have ek : nI (k - 1) + 1 = nI k := by rw [nI_1]; congr 1; omega
  obtain ⟨r1, e1, h1⟩ := pu_say (F := F) (m := m) (f := f) (a := 196) (b := 2) (by decide) (by decide)
  rw [mq_Mo_block, ef, pk_sub (by omega)]
  by_cases hq : v.length - 40 * (k - 1) ≤ 40
  · obtain ⟨r2, e2, h2⟩ := pu_emit (F := F) (x := 1) h1 (by simp) (by decide)
    obtain ⟨r3, e3, h3⟩ := pu_emit (F := F) (x := k) h2 (by simp) (by omega)
    obtain ⟨r4, e4, q1, q2, h4⟩ := bl_68 (F := F) (a := v.length) (e := v.length) (sz := sz) (sent := nI k) hv hB (Nat.le_refl _) hv2 F (40 * (k - 1)) r3.1 r3.2 _ (by omega) (by omega) h3 (by simp; omega) (by omega)
    rw [if_pos (pu_le 40 40 hq), mq_Mo_block_J24, pu_b (show mm_Mo_say F 196 2 m f = some r1 from e1), if_pos rfl, pu_b (show mm_Mo_emit F 1 r1.1 r1.2 = some r2 from e2), ek, pu_b e3]
    refine ⟨r4, e4, ?_, q2, ?_⟩
    · rw [q1, if_pos rfl, if_pos hq]
    · have e : bl_out v k = [196, 2] ++ [1] ++ [k] ++ (v.drop (40 * (k - 1))).take (v.length - 40 * (k - 1)) := by
        unfold bl_out
        rw [if_pos hq, List.take_of_length_le (i := 40) (by rw [List.length_drop]; exact hq), List.take_of_length_le (i := v.length - 40 * (k - 1)) (by rw [List.length_drop]; omega)]
        rfl
      rw [e]
      exact h4
  · have e40 : nI (40 * (k - 1)) + 40 = nI (40 * (k - 1) + 40) := nI_add _ 40
    obtain ⟨r2, e2, h2⟩ := pu_emit (F := F) (x := 0) h1 (by simp) (by decide)
    obtain ⟨r3, e3, h3⟩ := pu_emit (F := F) (x := k) h2 (by simp) (by omega)
    obtain ⟨r4, e4, q1, q2, h4⟩ := bl_68 (F := F) (a := v.length) (e := 40 * (k - 1) + 40) (sz := sz) (sent := nI k) hv hB (by omega) hv2 F (40 * (k - 1)) r3.1 r3.2 _ (by omega) (by omega) h3 (by simp) (by omega)
    rw [if_neg (pu_nle 40 40 (by omega)), e40, mq_Mo_block_J24, pu_b (show mm_Mo_say F 196 2 m f = some r1 from e1), if_neg (pu_nn (by omega) (by omega) (by omega)), pu_b (show mm_Mo_emit F 0 r1.1 r1.2 = some r2 from e2), ek, pu_b e3]
    refine ⟨r4, e4, ?_, q2, ?_⟩
    · rw [q1, if_neg (by omega), if_neg hq]
    · have e : bl_out v k = [196, 2] ++ [0] ++ [k] ++ (v.drop (40 * (k - 1))).take (40 * (k - 1) + 40 - 40 * (k - 1)) := by
        unfold bl_out
        rw [if_neg hq, Nat.add_sub_cancel_left]
        rfl
      rw [e]
      exact h4
