/-! The value of an attribute that there is -/
def vl_val (o a : Nat) (now : Int32) (R : Nat → Int32) (C : List Nat) (E : List (List Int32)) (capN perN : Nat) (lo hi : Int32) : List Nat :=
  if a = 1 then [9, 2, 1, o] else if o = 0 then 6 :: pu_by now else if o < 4 then (if a = 2 then 5 :: pu_by (R o) else [2, 2, 15, (o + 254) % 256, 22, 27 + o])
  else if a = 2 then 1 :: vl_cn lo hi E :: vl_es C.length lo hi E else if a = 3 then 1 :: C.length :: C.flatMap (fun c => [17, c])
  else 6 :: pu_by (nI (if a = 4 then perN else if a = 7 then E.length else capN))
theorem vl_fm_len (C : List Nat) : (C.flatMap (fun c => [17, c])).length = 2 * C.length := by
  induction C with
  | nil => rfl
  | cons c C ih => rw [List.flatMap_cons, List.length_append, ih]; simp; omega
theorem pw_cols {F N : Nat} {cc : Int32} {cols : Nat → Int32} {C : List Nat} (hcc : cc = nI C.length) (hC : C.length ≤ 3) (hcols : fb cols C) :
    ∀ (k j : Nat) (sz : Int32) (f : Nat → Int32) (l : List Nat), j ≤ C.length → C.length - j < k → rw_is N sz f l → l.length + 2 * (C.length - j) ≤ N →
      ∃ r, mm_Pf_writeColumns_L15 F N k (nI j) cc cols sz f = some r ∧ rw_is N r.1 r.2 (l ++ (C.drop j).flatMap (fun c => [17, c])) := by
  intro k
  induction k with
  | zero => intro j sz f l _ h; omega
  | succ k ih =>
    intro j sz f l hj hk h hl
    rw [mq_Pf_writeColumns_L15, hcc]
    by_cases hjc : C.length ≤ j
    · rw [if_pos (nI_le hjc (by omega)), List.drop_eq_nil_of_le hjc, List.flatMap_nil, List.append_nil]
      exact ⟨_, rfl, h⟩
    · have hlt : j < C.length := by omega
      obtain ⟨r1, e1, h1⟩ := pu_add (F := F) (x := 17) h (by omega)
      obtain ⟨r2, e2, h2⟩ := pu_add (F := F) (x := C[j]) h1 (by simp; omega)
      rw [if_neg (nI_ge (by omega) (by omega)), pu_b (show mm_Rw_add F N 17 sz f = some r1 from e1), if_neg (nI_in (by omega) (by omega)), nI_clamp (by omega), hcols j _ (List.getElem?_eq_getElem hlt), pu_b e2, nI_1, ← hcc]
      obtain ⟨r3, e3, h3⟩ := ih (j + 1) r2.1 r2.2 _ (by omega) (by omega) h2 (by simp; omega)
      refine ⟨r3, e3, ?_⟩
      rw [List.drop_eq_getElem_cons hlt, List.flatMap_cons]
      rw [List.append_assoc, List.append_assoc] at h3
      exact h3
theorem pw_mcols {F : Nat} {cc : Int32} {cols : Nat → Int32} {C : List Nat} (hcc : cc = nI C.length) (hC : C.length ≤ 3) (hC3 : ∀ c ∈ C, 1 ≤ c ∧ c ≤ 3) (hcols : fb cols C) :
    ∀ (k j : Nat) (m : Int32) (f : Nat → Int32) (l : List Nat), j ≤ C.length → C.length - j < k → rw_is 300 m f l → l.length + 2 * (C.length - j) ≤ 300 →
      ∃ r, mm_Mo_emitValue_L149 F k (nI j) cc m cols f = some r ∧ rw_is 300 r.1 r.2 (l ++ (C.drop j).flatMap (fun c => [17, c])) := by
  intro k
  induction k with
  | zero => intro j m f l _ h; omega
  | succ k ih =>
    intro j m f l hj hk h hl
    rw [mq_Mo_emitValue_L149, hcc]
    by_cases hjc : C.length ≤ j
    · rw [if_pos (nI_le hjc (by omega)), List.drop_eq_nil_of_le hjc, List.flatMap_nil, List.append_nil]
      exact ⟨_, rfl, h⟩
    · have hlt : j < C.length := by omega
      have hb := hC3 C[j] (List.getElem_mem hlt)
      obtain ⟨r1, e1, h1⟩ := pu_emit (F := F) (x := 17) h (by omega) (by decide)
      obtain ⟨r2, e2, h2⟩ := pu_emit (F := F) (x := C[j]) h1 (by simp; omega) (by omega)
      rw [if_neg (nI_ge (by omega) (by omega)), pu_b (show mm_Mo_emit F 17 m f = some r1 from e1), if_neg (nI_in (by omega) (by omega)), nI_clamp (by omega), hcols j _ (List.getElem?_eq_getElem hlt), pu_b e2, nI_1, ← hcc]
      obtain ⟨r3, e3, h3⟩ := ih (j + 1) r2.1 r2.2 _ (by omega) (by omega) h2 (by simp; omega)
      refine ⟨r3, e3, ?_⟩
      rw [List.drop_eq_getElem_cons hlt, List.flatMap_cons]
      rw [List.append_assoc, List.append_assoc] at h3
      exact h3
theorem pw_o : ∀ o, o < 4 → 1 ≤ o → (nI o - 2) &&& 255 = nI ((o + 254) % 256) := by decide +kernel
theorem pw_om : ∀ o, o < 4 → 1 ≤ o → (nI o - 2).toBitVec.toNat % 256 = (o + 254) % 256 := by decide +kernel
/-- attributes: by object and number -/
abbrev at_ok (o a : Nat) : Prop := a = 1 ∨ a = 2 ∨ a = 3 ∧ 0 < o ∨ o = 4 ∧ (a = 4 ∨ a = 7 ∨ a = 8)
theorem pw_write {F o a : Nat} {now lo hi cc cap per first size sz : Int32} {reg cols ring f R : Nat → Int32} {C : List Nat} {E : List (List Int32)} {capN perN : Nat} (hF : 20 < F) (ho : o ≤ 4) (ha : a < 256) (hat : at_ok o a) (h : pc_is cc cap per first size cols ring C E capN perN) (hreg : rg_c reg R) (hrw : rw_is 266 sz f []) :
    ∃ r, mm_Mt_write F 266 (nI o) (nI a) lo hi now reg cc cap per first size cols ring sz f = some r ∧ rw_is 266 r.1 r.2 (vl_val o a now R C E capN perN lo hi) := by
  obtain ⟨⟨w1, w2, w3, w4, w5, w6, w7, w8, w9⟩, hcc, hcap, hper, hs, hcols, fN, hf, hfN, hr⟩ := h
  have hl := vl_es_len C.length lo hi E w8
  have hl2 : (5 * C.length + 7) * E.length ≤ 22 * 12 := Nat.mul_le_mul (by omega) (by omega)
  unfold vl_val
  rw [mq_Mt_write]
  by_cases a1 : a = 1
  · subst a1
    obtain ⟨r1, e1, h1⟩ := pu_add (F := F) (x := 9) hrw (by simp)
    obtain ⟨r2, e2, h2⟩ := pu_add (F := F) (x := 2) h1 (by simp)
    obtain ⟨r3, e3, h3⟩ := pu_add (F := F) (x := 1) h2 (by simp)
    obtain ⟨r4, e4, h4⟩ := pu_add (F := F) (x := o) h3 (by simp)
    rw [if_pos (show nI 1 = 1 from rfl), if_pos rfl, pu_b (show mm_Rw_add F 266 9 sz f = some r1 from e1), pu_b (show mm_Rw_add F 266 2 r1.1 r1.2 = some r2 from e2), pu_b (show mm_Rw_add F 266 1 r2.1 r2.2 = some r3 from e3), pu_b e4]
    exact ⟨_, rfl, h4⟩
  rw [if_neg (pu_ne 1 1 a1), if_neg a1]
  by_cases o0 : o = 0
  · subst o0
    obtain ⟨r1, e1, h1⟩ := pu_addTagged (F := F) (t := 6) (v := now) hrw (by simp)
    rw [if_pos (show nI 0 = 0 from nI_0), if_pos rfl, pu_b (show mm_Rw_addTagged F 266 6 now sz f = some r1 from e1)]
    exact ⟨_, rfl, h1⟩
  rw [if_neg (nI_ne0 (by omega) (by omega)), if_neg o0]
  by_cases o4 : o = 4
  · subst o4
    rw [if_pos (show nI 4 = 4 from rfl), if_neg (show ¬ (4 : Nat) < 4 by omega)]
    by_cases a2 : a = 2
    · subst a2
      obtain ⟨r1, e1, h1⟩ := pe_entries (F := F) (N := 266) (a := lo) (b := hi) hF hcc w2 hf hfN hs (by omega) w8 hr hrw (by omega)
      rw [if_pos (show nI 2 = 2 from rfl), if_pos rfl, pu_b e1]
      exact ⟨_, rfl, h1⟩
    rw [if_neg (pu_ne 2 2 a2), if_neg a2, mq_Mt_write_J71, if_pos (show nI 4 = 4 from rfl), mq_Pf_writeSetting]
    by_cases a3 : a = 3
    · subst a3
      obtain ⟨r1, e1, h1⟩ := pu_add (F := F) (x := 1) hrw (by simp)
      obtain ⟨r2, e2, h2⟩ := pu_add (F := F) (x := C.length) h1 (by simp)
      obtain ⟨r3, e3, h3⟩ := pw_cols (F := F) hcc w2 hcols F 0 r2.1 r2.2 _ (by omega) (by omega) h2 (by simp; omega)
      rw [nI_0] at e3
      rw [← hcc] at e2
      rw [if_pos (show nI 3 = 3 from rfl), if_pos rfl, mq_Pf_writeColumns, pu_b (show mm_Rw_add F 266 1 sz f = some r1 from e1), pu_b e2, pu_b e3, pu_s]
      exact ⟨_, rfl, h3⟩
    rw [if_neg (pu_ne 3 3 a3), if_neg a3]
    by_cases a4 : a = 4
    · subst a4
      obtain ⟨r1, e1, h1⟩ := pu_addTagged (F := F) (t := 6) (v := per) hrw (by simp)
      rw [if_pos (show nI 4 = 4 from rfl), if_pos rfl, ← hper, pu_b (show mm_Rw_addTagged F 266 6 per sz f = some r1 from e1), pu_s]
      exact ⟨_, rfl, h1⟩
    rw [if_neg (pu_ne 4 4 a4), if_neg a4]
    by_cases a7 : a = 7
    · subst a7
      obtain ⟨r1, e1, h1⟩ := pu_addTagged (F := F) (t := 6) (v := size) hrw (by simp)
      rw [if_pos (show nI 7 = 7 from rfl), if_pos rfl, ← hs, pu_b (show mm_Rw_addTagged F 266 6 size sz f = some r1 from e1), pu_s]
      exact ⟨_, rfl, h1⟩
    · obtain ⟨r1, e1, h1⟩ := pu_addTagged (F := F) (t := 6) (v := cap) hrw (by simp)
      rw [if_neg (pu_ne 7 7 a7), if_neg a7, ← hcap, pu_b (show mm_Rw_addTagged F 266 6 cap sz f = some r1 from e1), pu_s]
      exact ⟨_, rfl, h1⟩
  · have o3 : o < 4 := by omega
    rw [if_neg (pu_ne 4 4 o4), if_pos o3, mq_Mt_write_J71, if_neg (pu_ne 4 4 o4)]
    have hreg1 : mm_Mt_isRegister F (nI o) = some 1 := by
      rw [mq_Mt_isRegister, if_neg (pu_nlt 1 1 (by omega)), if_neg (pu_ncl 3 3 (by omega))]
    rw [pu_b hreg1, if_neg (by decide +kernel), mq_Mt_writeRegister]
    by_cases a2 : a = 2
    · subst a2
      obtain ⟨r1, e1, h1⟩ := pu_addTagged (F := F) (t := 5) (v := R o) hrw (by simp)
      rw [if_pos (show nI 2 = 2 from rfl), if_pos rfl, show nI o - 1 = nI (o - 1) from pk_sub (b := 1) (by omega), if_neg (nI_in (by omega) (by omega)), nI_clamp (by omega), hreg o (by omega) (by omega), pu_b (show mm_Rw_addTagged F 266 5 (R o) sz f = some r1 from e1), pu_s]
      exact ⟨_, rfl, h1⟩
    · obtain ⟨r1, e1, h1⟩ := pu_add (F := F) (x := 2) hrw (by simp)
      obtain ⟨r2, e2, h2⟩ := pu_add (F := F) (x := 2) h1 (by simp)
      obtain ⟨r3, e3, h3⟩ := pu_add (F := F) (x := 15) h2 (by simp)
      obtain ⟨r4, e4, h4⟩ := pu_add (F := F) (x := (o + 254) % 256) h3 (by simp)
      obtain ⟨r5, e5, h5⟩ := pu_add (F := F) (x := 22) h4 (by simp)
      obtain ⟨r6, e6, h6⟩ := pu_add (F := F) (x := 27 + o) h5 (by simp)
      rw [if_neg (pu_ne 2 2 a2), if_neg a2, pw_o o o3 (by omega), show (27 : Int32) + nI o = nI (27 + o) from nI_add 27 o,
        pu_b (show mm_Rw_add F 266 2 sz f = some r1 from e1), pu_b (show mm_Rw_add F 266 2 r1.1 r1.2 = some r2 from e2), pu_b (show mm_Rw_add F 266 15 r2.1 r2.2 = some r3 from e3), pu_b e4, pu_b (show mm_Rw_add F 266 22 r4.1 r4.2 = some r5 from e5), pu_b e6, pu_s]
      exact ⟨_, rfl, h6⟩
theorem pw_emit {F o a : Nat} {now p lo hi cc cap per size m : Int32} {reg cols times values lf f R : Nat → Int32} {C : List Nat} {E : List (List Int32)} {capN perN : Nat} (hF : 20 < F) (ho : o ≤ 4) (ha : a < 256) (hat : at_ok o a) (h : pm_is cc cap per size cols times values C E capN perN) (hreg : rg_m reg R)
    (hp : p = 0 ∧ lo = 0 ∧ hi = -1 ∨ p = 1 ∧ mm_Mo_intAt F 5 lf = some lo ∧ mm_Mo_intAt F 9 lf = some hi) :
    ∃ r, mm_Mo_emitValue F (nI o) (nI a) p now cap per cc size 0 reg cols times values lf f = some r ∧ rw_is 300 r.1 r.2 (vl_val o a now R C E capN perN lo hi) := by
  have hrw : rw_is 300 0 f [] := pu_empty f (by decide)
  obtain ⟨⟨w1, w2, w3, w4, w5, w6, w7, w8, w9⟩, hcc, hcap, hper, hs, hcols, htv⟩ := h
  unfold vl_val
  rw [mq_Mo_emitValue]
  by_cases a1 : a = 1
  · subst a1
    obtain ⟨r1, e1, h1⟩ := pu_emit (F := F) (x := 9) hrw (by simp) (by decide)
    obtain ⟨r2, e2, h2⟩ := pu_emit (F := F) (x := 2) h1 (by simp) (by decide)
    obtain ⟨r3, e3, h3⟩ := pu_emit (F := F) (x := 1) h2 (by simp) (by decide)
    obtain ⟨r4, e4, h4⟩ := pu_emit (F := F) (x := o) h3 (by simp) (by omega)
    rw [if_pos (show nI 1 = 1 from rfl), if_pos rfl, pu_b (show mm_Mo_emit F 9 0 f = some r1 from e1), pu_b (show mm_Mo_emit F 2 r1.1 r1.2 = some r2 from e2), pu_b (show mm_Mo_emit F 1 r2.1 r2.2 = some r3 from e3), pu_b e4]
    exact ⟨_, rfl, h4⟩
  rw [if_neg (pu_ne 1 1 a1), if_neg a1]
  by_cases o0 : o = 0
  · subst o0
    obtain ⟨r1, e1, h1⟩ := pu_emitInt (F := F) (t := 6) (v := now) hrw (by simp) (by decide) (by omega)
    rw [if_pos (show nI 0 = 0 from nI_0), if_pos rfl, pu_b (show mm_Mo_emitInt F 6 now 0 f = some r1 from e1)]
    exact ⟨_, rfl, h1⟩
  rw [if_neg (nI_ne0 (by omega) (by omega)), if_neg o0]
  by_cases o4 : o = 4
  · subst o4
    rw [if_pos (pu_cle 4 4 (by omega)), if_neg (show ¬ (4 : Nat) < 4 by omega), mq_Mo_emitValue_J70, if_pos (pu_cle 4 4 (by omega))]
    by_cases a2 : a = 2
    · subst a2
      obtain ⟨r1, e1, h1⟩ := pe_mentries (F := F) hF hcc w2 hs (by omega) w8 w9 htv hp hrw
      rw [if_pos (show nI 2 = 2 from rfl), if_pos rfl, pu_b e1]
      exact ⟨_, rfl, h1⟩
    rw [if_neg (pu_ne 2 2 a2), if_neg a2]
    by_cases a3 : a = 3
    · subst a3
      obtain ⟨r1, e1, h1⟩ := pu_emit (F := F) (x := 1) hrw (by simp) (by decide)
      obtain ⟨r2, e2, h2⟩ := pu_emit (F := F) (x := C.length) h1 (by simp) (by omega)
      obtain ⟨r3, e3, h3⟩ := pw_mcols (F := F) hcc w2 w3 hcols F 0 r2.1 r2.2 _ (by omega) (by omega) h2 (by simp; omega)
      rw [nI_0] at e3
      rw [← hcc] at e2
      rw [if_pos (show nI 3 = 3 from rfl), if_pos rfl, pu_b (show mm_Mo_emit F 1 0 f = some r1 from e1), pu_b e2]
      exact ⟨_, e3, h3⟩
    rw [if_neg (pu_ne 3 3 a3), if_neg a3]
    by_cases a4 : a = 4
    · subst a4
      obtain ⟨r1, e1, h1⟩ := pu_emitInt (F := F) (t := 6) (v := per) hrw (by simp) (by decide) (by omega)
      rw [if_pos (show nI 4 = 4 from rfl), if_pos rfl, ← hper, pu_b (show mm_Mo_emitInt F 6 per 0 f = some r1 from e1)]
      exact ⟨_, rfl, h1⟩
    rw [if_neg (pu_ne 4 4 a4), if_neg a4]
    by_cases a7 : a = 7
    · subst a7
      obtain ⟨r1, e1, h1⟩ := pu_emitInt (F := F) (t := 6) (v := size) hrw (by simp) (by decide) (by omega)
      rw [if_pos (show nI 7 = 7 from rfl), if_pos rfl, ← hs, pu_b (show mm_Mo_emitInt F 6 size 0 f = some r1 from e1)]
      exact ⟨_, rfl, h1⟩
    · obtain ⟨r1, e1, h1⟩ := pu_emitInt (F := F) (t := 6) (v := cap) hrw (by simp) (by decide) (by omega)
      rw [if_neg (pu_ne 7 7 a7), if_neg a7, ← hcap, pu_b (show mm_Mo_emitInt F 6 cap 0 f = some r1 from e1)]
      exact ⟨_, rfl, h1⟩
  · have o3 : o < 4 := by omega
    rw [if_neg (pu_ncle 4 4 (by omega)), if_pos o3]
    by_cases a2 : a = 2
    · subst a2
      obtain ⟨r1, e1, h1⟩ := pu_emitInt (F := F) (t := 5) (v := R o) hrw (by simp) (by decide) (by omega)
      rw [if_pos (show nI 2 = 2 from rfl), if_pos rfl, if_neg (nI_in (by omega) (by omega)), nI_clamp (by omega), hreg o (by omega) (by omega), pu_b (show mm_Mo_emitInt F 5 (R o) 0 f = some r1 from e1)]
      exact ⟨_, rfl, h1⟩
    · obtain ⟨r1, e1, h1⟩ := pu_emit (F := F) (x := 2) hrw (by simp) (by decide)
      obtain ⟨r2, e2, h2⟩ := pu_emit (F := F) (x := 2) h1 (by simp) (by decide)
      obtain ⟨r3, e3, h3⟩ := pu_emit (F := F) (x := 15) h2 (by simp) (by decide)
      obtain ⟨r4, e4, h4⟩ := pu_emitV (F := F) (v := nI o - 2) h3 (by simp)
      rw [pw_om o o3 (by omega)] at h4
      obtain ⟨r5, e5, h5⟩ := pu_emit (F := F) (x := 22) h4 (by simp) (by decide)
      obtain ⟨r6, e6, h6⟩ := pu_emit (F := F) (x := 27 + o) h5 (by simp) (by omega)
      rw [if_neg (pu_ne 2 2 a2), if_neg a2, mq_Mo_emitValue_J70, if_neg (pu_ncle 4 4 (by omega)), show (27 : Int32) + nI o = nI (27 + o) from nI_add 27 o,
        pu_b (show mm_Mo_emit F 2 0 f = some r1 from e1), pu_b (show mm_Mo_emit F 2 r1.1 r1.2 = some r2 from e2), pu_b (show mm_Mo_emit F 15 r2.1 r2.2 = some r3 from e3), pu_b e4, pu_b (show mm_Mo_emit F 22 r4.1 r4.2 = some r5 from e5), pu_b e6]
      exact ⟨_, rfl, h6⟩
