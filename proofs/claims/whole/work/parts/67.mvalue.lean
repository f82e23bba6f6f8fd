/-! .. and the reference's -/
theorem pe_sx (x : Int32) : x.toInt64 &&& 4294967295 = lN x.toBitVec.toNat := by
  refine Int64.toBitVec_inj.mp (BitVec.eq_of_getLsbD_eq ?_)
  intro i hi
  have hm : ∀ i, i < 64 → ((4294967295 : Int64).toBitVec).getLsbD i = decide (i < 32) := by decide +kernel
  rw [Int64.toBitVec_and, BitVec.getLsbD_and, hm i hi]
  show ((x.toBitVec.signExtend 64).getLsbD i && decide (i < 32)) = (BitVec.ofNat 64 x.toBitVec.toNat).getLsbD i
  rw [BitVec.getLsbD_signExtend, BitVec.getLsbD_ofNat]
  by_cases h : i < 32
  · simp [h, hi]
    exact rfl
  · simp [h, hi]
    exact BitVec.getLsbD_of_ge _ _ (by omega)
theorem pe_lo {tN u : Nat} (ht : tN < 2 ^ 31) (hu : u < 2 ^ 32) : lg_cmp (lN tN) (lN u) < 0 ↔ tN < u := by
  have h1 := pk_lLT (a := u) (b := tN) (by omega) (by omega)
  have h2 := pk_lEQ (a := tN) (b := u) (by omega) (by omega)
  unfold lg_cmp
  by_cases q1 : u < tN
  · simp only [h1.mpr q1, if_true]
    exact ⟨fun h => absurd h (by decide +kernel), fun h => by omega⟩
  · by_cases q2 : tN = u
    · subst q2
      simp
    · have n1 : ¬ lN u < lN tN := fun q => q1 (h1.mp q)
      have n2 : ¬ lN tN = lN u := fun q => q2 (h2.mp q)
      simp [n1, n2]
      omega
theorem pe_hi {tN u : Nat} (ht : tN < 2 ^ 31) (hu : u < 2 ^ 32) : 0 < lg_cmp (lN tN) (lN u) ↔ u < tN := by
  have h1 := pk_lLT (a := u) (b := tN) (by omega) (by omega)
  have h2 := pk_lEQ (a := tN) (b := u) (by omega) (by omega)
  unfold lg_cmp
  by_cases q1 : u < tN
  · simp [h1.mpr q1, q1]
  · have n1 : ¬ lN u < lN tN := fun q => q1 (h1.mp q)
    by_cases q2 : tN = u
    · subst q2
      simp
    · have n2 : ¬ lN tN = lN u := fun q => q2 (h2.mp q)
      simp [n1, n2]
      omega
theorem pe_neg {x : Int32} (h : x < 0) : 2 ^ 31 ≤ x.toBitVec.toNat := by
  by_cases q : x.toBitVec.toNat < 2 ^ 31
  · have e : x = nI x.toBitVec.toNat := pu_eqN rfl
    rw [e] at h
    exact absurd h (nI_pos q)
  · omega
theorem pe_nn {x : Int32} (h : ¬ x < 0) : x.toBitVec.toNat < 2 ^ 31 ∧ x = nI x.toBitVec.toNat := by
  obtain ⟨j, hj, e⟩ := nI_of h
  have : x.toBitVec.toNat = j := by rw [e]; exact pk_tn (by omega)
  exact ⟨by omega, pu_eqN rfl⟩
theorem pe_mIn {F i : Nat} {p a b t : Int32} {times lf : Nat → Int32} (hi : i < 13) (ht : times i = t) (ht0 : ¬ t < 0) (hp : p = 0 ∧ a = 0 ∧ b = -1 ∨ p = 1 ∧ mm_Mo_intAt F 5 lf = some a ∧ mm_Mo_intAt F 9 lf = some b) :
    mm_Mo_isIn F (nI i) p times lf = some (if vl_in a b t then 1 else 0) := by
  rw [mq_Mo_isIn]
  rcases hp with ⟨rfl, rfl, rfl⟩ | ⟨rfl, ha, hb⟩
  · rw [if_pos rfl, if_pos ⟨by decide +kernel, ht0, Or.inl (by decide +kernel)⟩]
  · obtain ⟨h1, h2⟩ := pe_nn ht0
    have hua := a.toBitVec.isLt
    have hub := b.toBitVec.isLt
    have hl := nI_l h1
    rw [← h2] at hl
    rw [if_neg (by decide +kernel), if_neg (nI_in (by omega) (by omega)), nI_clamp (by omega), ht, pu_b ha, hl, pe_sx]
    by_cases c1 : t.toBitVec.toNat < a.toBitVec.toNat
    · rw [if_pos ((pe_lo h1 hua).mpr c1), if_neg (fun q => ?_)]
      obtain ⟨q1, q2, -⟩ := q
      obtain ⟨w1, w2⟩ := pe_nn q1
      rw [h2, w2] at q2
      exact q2 (nI_lt c1 w1)
    · rw [if_neg (fun q => c1 ((pe_lo h1 hua).mp q)), pu_b hb, pe_sx]
      have g1 : ¬ a < 0 := fun q => by have := pe_neg q; omega
      have g2 : ¬ t < a := by
        obtain ⟨w1, w2⟩ := pe_nn g1
        rw [h2, w2]
        exact nI_nlt (by omega) h1
      by_cases c2 : b.toBitVec.toNat < t.toBitVec.toNat
      · rw [if_pos ((pe_hi h1 hub).mpr c2), if_neg (fun q => ?_)]
        rcases q.2.2 with w | w
        · have := pe_neg w; omega
        · have hb0 : ¬ b < 0 := fun q => by have := pe_neg q; omega
          obtain ⟨w1, w2⟩ := pe_nn hb0
          rw [h2, w2] at w
          exact w (nI_lt c2 h1)
      · have g3 : b < 0 ∨ ¬ b < t := by
          by_cases hb0 : b < 0
          · exact Or.inl hb0
          · obtain ⟨w1, w2⟩ := pe_nn hb0
            refine Or.inr ?_
            rw [h2, w2]
            exact nI_nlt (by omega) w1
        rw [if_neg (fun q => c2 ((pe_hi h1 hub).mp q)), if_pos ⟨g1, g2, g3⟩]
theorem pe_94 {F i n : Nat} {cc : Int32} {values : Nat → Int32} {vs : List Int32} (hF : 6 < F) (hcc : cc = nI n) (hn : n ≤ 3) (hi : i < 12) (hv : vs.length = n) (hr : ∀ (k : Nat) (x : Int32), vs[k]? = some x → values (3 * i + k) = x) :
    ∀ (k j : Nat) (m : Int32) (f : Nat → Int32) (l : List Nat), j ≤ n → n - j < k → rw_is 300 m f l → l.length + 5 * (n - j) ≤ 300 →
      ∃ r, mm_Mo_emitEntries_L94 F k (nI i) (nI j) cc m values f = some r ∧ rw_is 300 r.1 r.2 (l ++ vl_w (j + 1) (vs.drop j)) := by
  intro k
  induction k with
  | zero => intro j m f l _ h; omega
  | succ k ih =>
    intro j m f l hj hk h hl
    rw [mq_Mo_emitEntries_L94, hcc]
    by_cases hjn : n ≤ j
    · rw [if_pos (nI_le hjn (by omega)), List.drop_eq_nil_of_le (by omega), show vl_w (j + 1) [] = [] from rfl, List.append_nil]
      exact ⟨_, rfl, h⟩
    · have hlt : j < vs.length := by omega
      have hx := hr j vs[j] (List.getElem?_eq_getElem hlt)
      have e3 : (3 : Int32) * nI i = nI (3 * i) := pk_mul 3 i
      have ed : vl_w (j + 1) (vs.drop j) = (5 :: pu_by vs[j]) ++ vl_w (j + 1 + 1) (vs.drop (j + 1)) := by
        rw [List.drop_eq_getElem_cons hlt]
        show ((if j + 1 = 0 then 6 else 5) :: pu_by vs[j]) ++ _ = _
        rw [if_neg (by omega)]
      obtain ⟨r1, e1, h1⟩ := pu_emitInt (F := F) (t := 5) (v := vs[j]) h (by omega) (by decide) (by omega)
      rw [if_neg (nI_ge (by omega) (by omega)), e3, nI_add, if_neg (nI_in (by omega) (by omega)), nI_clamp (by omega), hx, ed, nI_1, ← hcc, pu_b (show mm_Mo_emitInt F 5 vs[j] m f = some r1 from e1)]
      obtain ⟨r2, e2, h2⟩ := ih (j + 1) r1.1 r1.2 _ (by omega) (by omega) h1 (by simp [pu_by_len]; omega)
      refine ⟨r2, e2, ?_⟩
      rw [List.append_assoc] at h2
      exact h2
theorem pe_tv {times values : Nat → Int32} {E : List (List Int32)} {n i : Nat} (htv : tv_at times values E) (he : ∀ e ∈ E, e.length = n + 1) (hlt : i < E.length) : ∃ t vs, E[i] = t :: vs ∧ vs.length = n ∧ times i = t ∧ ∀ (k : Nat) (x : Int32), vs[k]? = some x → values (3 * i + k) = x := by
  have hel := he E[i] (List.getElem_mem hlt)
  cases hq : E[i] with
  | nil => rw [hq] at hel; simp at hel
  | cons t vs =>
    rw [hq] at hel
    obtain ⟨h1, h2⟩ := htv i E[i] (List.getElem?_eq_getElem hlt)
    rw [hq] at h1 h2
    exact ⟨t, vs, rfl, by simpa using hel, h1 t rfl, fun k x hx => h2 k x hx⟩
theorem pe_47 {F n : Nat} {cc size p a b : Int32} {times values lf : Nat → Int32} {E : List (List Int32)} (hF : 20 < F) (hcc : cc = nI n) (hn : n ≤ 3) (hs : size = nI E.length) (hE : E.length ≤ 12) (he : ∀ e ∈ E, e.length = n + 1) (h0 : ∀ e ∈ E, ∀ t : Int32, e[0]? = some t → ¬ t < 0) (htv : tv_at times values E)
    (hp : p = 0 ∧ a = 0 ∧ b = -1 ∨ p = 1 ∧ mm_Mo_intAt F 5 lf = some a ∧ mm_Mo_intAt F 9 lf = some b) :
    ∀ (k i : Nat) (m : Int32) (f : Nat → Int32) (l : List Nat), i ≤ E.length → E.length - i < k → rw_is 300 m f l → l.length + (vl_es n a b (E.drop i)).length ≤ 300 →
      ∃ r, mm_Mo_emitEntries_L47 F k p (nI i) cc size m times values lf f = some r ∧ rw_is 300 r.1 r.2 (l ++ vl_es n a b (E.drop i)) := by
  intro k
  induction k with
  | zero => intro i m f l _ h; omega
  | succ k ih =>
    intro i m f l hi hk h hl
    rw [mq_Mo_emitEntries_L47, hs]
    by_cases hiE : E.length ≤ i
    · rw [if_pos (nI_le hiE (by omega)), List.drop_eq_nil_of_le hiE, show vl_es n a b [] = [] from rfl, List.append_nil]
      exact ⟨_, rfl, h⟩
    · have hlt : i < E.length := by omega
      obtain ⟨t, vs, htv', hvl, ht, hvv⟩ := pe_tv htv he hlt
      have ht0 : ¬ t < 0 := h0 E[i] (List.getElem_mem hlt) t (by rw [htv']; rfl)
      have ed : E.drop i = E[i] :: E.drop (i + 1) := List.drop_eq_getElem_cons hlt
      have hhd : E[i].headD 0 = t := by rw [htv']; rfl
      rw [if_neg (nI_ge (by omega) (by omega)), pu_b (pe_mIn (by omega) ht ht0 hp), pu_z1, nI_1 i, ← hs]
      rw [ed] at hl ⊢
      by_cases hin : vl_in a b t
      · have ees : vl_es n a b (E[i] :: E.drop (i + 1)) = vl_ent n E[i] ++ vl_es n a b (E.drop (i + 1)) := by
          show (if vl_in a b (E[i].headD 0) then vl_ent n E[i] else []) ++ _ = _
          rw [hhd, if_pos hin]
        rw [ees] at hl
        rw [if_pos hin, ees]
        have hll : (vl_ent n E[i]).length = 5 * n + 7 := by
          unfold vl_ent
          rw [List.length_cons, List.length_cons, vl_w_len, he E[i] (List.getElem_mem hlt)]
          omega
        rw [List.length_append, hll] at hl
        obtain ⟨r1, e1, h1⟩ := pu_emit (F := F) (x := 2) h (by omega) (by decide)
        obtain ⟨r2, e2, h3⟩ := pu_emit (F := F) (x := n + 1) h1 (by simp; omega) (by omega)
        obtain ⟨r3, e3, h4⟩ := pu_emitInt (F := F) (t := 6) (v := t) h3 (by simp; omega) (by decide) (by omega)
        obtain ⟨r4, e4, h5⟩ := pe_94 (F := F) (i := i) (by omega) hcc hn (by omega) hvl hvv F 0 r3.1 r3.2 _ (by omega) (by omega) h4 (by simp [pu_by_len]; omega)
        rw [nI_0] at e4
        rw [pu_b (show mm_Mo_emit F 2 m f = some r1 from e1), hcc, nI_1 n, pu_b e2, ← hcc, if_neg (nI_in (by omega) (by omega)), nI_clamp (by omega), ht, pu_b (show mm_Mo_emitInt F 6 t r2.1 r2.2 = some r3 from e3), pu_b e4]
        have h6 : rw_is 300 r4.1 r4.2 (l ++ vl_ent n E[i]) := by
          have q : l ++ [2] ++ [n + 1] ++ 6 :: pu_by t ++ vl_w (0 + 1) (vs.drop 0) = l ++ vl_ent n E[i] := by
            rw [List.drop_zero, htv', List.append_assoc, List.append_assoc, List.append_assoc]
            rfl
          rw [← q]
          exact h5
        obtain ⟨r5, e5, h7⟩ := ih (i + 1) r4.1 r4.2 _ (by omega) (by omega) h6 (by rw [List.length_append, hll]; omega)
        refine ⟨r5, e5, ?_⟩
        rw [List.append_assoc] at h7
        exact h7
      · have ees : vl_es n a b (E[i] :: E.drop (i + 1)) = vl_es n a b (E.drop (i + 1)) := by
          show (if vl_in a b (E[i].headD 0) then vl_ent n E[i] else []) ++ _ = _
          rw [hhd, if_neg hin]
          rfl
        rw [ees] at hl
        rw [if_neg hin, ees]
        exact ih (i + 1) m f l (by omega) (by omega) h hl
theorem pe_4 {F n : Nat} {cc size p a b : Int32} {times values lf : Nat → Int32} {E : List (List Int32)} {m : Int32} {f : Nat → Int32} {l : List Nat} (hF : 20 < F) (hcc : cc = nI n) (hn : n ≤ 3) (hs : size = nI E.length) (hE : E.length ≤ 12) (he : ∀ e ∈ E, e.length = n + 1) (h0 : ∀ e ∈ E, ∀ t : Int32, e[0]? = some t → ¬ t < 0) (htv : tv_at times values E)
    (hp : p = 0 ∧ a = 0 ∧ b = -1 ∨ p = 1 ∧ mm_Mo_intAt F 5 lf = some a ∧ mm_Mo_intAt F 9 lf = some b) (h : rw_is 300 m f l) (hl : l.length + 2 + (vl_es n a b E).length ≤ 300) :
    ∀ (k i w : Nat), i ≤ E.length → E.length - i < k → w + vl_cn a b (E.drop i) = vl_cn a b E →
      ∃ r, mm_Mo_emitEntries_L4 F k p (nI w) (nI i) cc size m times values lf f = some r ∧ rw_is 300 r.1 r.2 (l ++ 1 :: vl_cn a b E :: vl_es n a b E) := by
  intro k
  induction k with
  | zero => intro i w _ h; omega
  | succ k ih =>
    intro i w hi hk hw
    rw [mq_Mo_emitEntries_L4, hs]
    by_cases hiE : E.length ≤ i
    · rw [List.drop_eq_nil_of_le hiE, show vl_cn a b [] = 0 from rfl, Nat.add_zero] at hw
      subst hw
      have hcn := vl_cn_le a b E
      obtain ⟨r1, e1, h1⟩ := pu_emit (F := F) (x := 1) h (by omega) (by decide)
      obtain ⟨r2, e2, h2⟩ := pu_emit (F := F) (x := vl_cn a b E) h1 (by simp; omega) (by omega)
      rw [if_pos (nI_le hiE (by omega)), pu_b (show mm_Mo_emit F 1 m f = some r1 from e1), pu_b e2, ← hs]
      obtain ⟨r3, e3, h3⟩ := pe_47 (F := F) hF hcc hn hs hE he h0 htv hp F 0 r2.1 r2.2 _ (by omega) (by omega) h2 (by rw [List.drop_zero]; simp; omega)
      rw [nI_0] at e3
      refine ⟨r3, e3, ?_⟩
      rw [List.drop_zero, List.append_assoc, List.append_assoc] at h3
      exact h3
    · have hlt : i < E.length := by omega
      obtain ⟨t, vs, htv', hvl, ht, hvv⟩ := pe_tv htv he hlt
      have ht0 : ¬ t < 0 := h0 E[i] (List.getElem_mem hlt) t (by rw [htv']; rfl)
      have hhd : E[i].headD 0 = t := by rw [htv']; rfl
      have ecn : vl_cn a b (E.drop i) = (if vl_in a b t then 1 else 0) + vl_cn a b (E.drop (i + 1)) := by
        rw [List.drop_eq_getElem_cons hlt]
        show (if vl_in a b (E[i].headD 0) then 1 else 0) + _ = _
        rw [hhd]
      rw [ecn] at hw
      rw [if_neg (nI_ge (by omega) (by omega)), pu_b (pe_mIn (by omega) ht ht0 hp), pu_z1, nI_1 i, ← hs]
      by_cases hin : vl_in a b t
      · rw [if_pos hin] at hw ⊢
        rw [nI_1 w]
        exact ih (i + 1) (w + 1) (by omega) (by omega) (by omega)
      · rw [if_neg hin] at hw ⊢
        rw [show nI w + 0 = nI w from nI_add w 0]
        exact ih (i + 1) w (by omega) (by omega) (by omega)
theorem pe_mentries {F n : Nat} {cc size p a b : Int32} {times values lf : Nat → Int32} {E : List (List Int32)} {m : Int32} {f : Nat → Int32} (hF : 20 < F) (hcc : cc = nI n) (hn : n ≤ 3) (hs : size = nI E.length) (hE : E.length ≤ 12) (he : ∀ e ∈ E, e.length = n + 1) (h0 : ∀ e ∈ E, ∀ t : Int32, e[0]? = some t → ¬ t < 0) (htv : tv_at times values E)
    (hp : p = 0 ∧ a = 0 ∧ b = -1 ∨ p = 1 ∧ mm_Mo_intAt F 5 lf = some a ∧ mm_Mo_intAt F 9 lf = some b) (h : rw_is 300 m f []) :
    ∃ r, mm_Mo_emitEntries F p cc size m times values lf f = some r ∧ rw_is 300 r.1 r.2 (1 :: vl_cn a b E :: vl_es n a b E) := by
  have hl := vl_es_len n a b E he
  have hl2 : (5 * n + 7) * E.length ≤ 22 * 12 := Nat.mul_le_mul (by omega) hE
  obtain ⟨r, e, hr⟩ := pe_4 (F := F) hF hcc hn hs hE he h0 htv hp h (by rw [List.length_nil]; omega) F 0 0 (by omega) (by omega) (by rw [List.drop_zero, Nat.zero_add])
  rw [nI_0] at e
  exact ⟨r, e, hr⟩
