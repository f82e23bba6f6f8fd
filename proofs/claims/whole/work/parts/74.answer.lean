/-! The answer to a payload, on both sides at once -/
theorem nb_both {F z : Nat} {bs vsz rsz psz msz ms many : Int32} {vf rf pf mb lf made : Nat → Int32} {rq : List Nat} (hF : 300 < F) (hz : rq[2]? = some z) (hB : pu_B rq) (hrq : rw_is 60 rsz rf rq) (hln : ln_is lf rq) (hps : rw_is 80 psz pf []) (h : lv_rel bs vsz vf msz ms mb) :
    ∃ rc rm out, mm_Cn_answerNextBlock F 80 bs 0 rsz rf vsz vf psz pf = some rc ∧ mm_Mo_more F msz 0 ms many mb lf made = some rm ∧ rw_is 80 rc.2.1 rc.2.2 out ∧ rw_is 300 rm.2.2.1 rm.2.2.2 out ∧ pu_B out ∧ 1 ≤ out.length ∧ out.length ≤ 44 ∧ lv_rel rc.1 vsz vf rm.1 rm.2.1 mb := by
  have h60 := hrq.2.1
  have hzb := hB z (List.mem_of_getElem? hz)
  have fail : ∀ n : Nat, n < 256 → ∃ r1 r2, mm_Cn_addFailure F 80 (nI n) psz pf = some r1 ∧ mm_Mo_refuse F (nI n) many made = some r2 ∧ rw_is 80 r1.1 r1.2 [196, 1, 1, n] ∧ rw_is 300 r2.1 r2.2 [196, 1, 1, n] ∧ pu_B [196, 1, 1, n] := by
    intro n hn
    obtain ⟨r1, e1, h1⟩ := pu_addFailure (F := F) (a := n) hps (by simp)
    obtain ⟨r2, e2, h2⟩ := pu_refuse (F := F) (m := many) (f := made) hn
    refine ⟨r1, r2, e1, e2, h1, h2, fun x hx => ?_⟩
    simp only [List.mem_cons, List.not_mem_nil, or_false] at hx
    omega
  rw [mq_Cn_answerNextBlock, mq_Mo_more]
  rcases h with ⟨rfl, rfl⟩ | ⟨v, k, hv, hf, hvB, rfl, rfl, rfl, hk1, hk⟩
  · obtain ⟨r1, r2, e1, e2, h1, h2, h3⟩ := fail 16 (by decide)
    rw [if_pos rfl, if_pos rfl, pu_b (show mm_Cn_addFailure F 80 16 psz pf = some r1 from e1), pu_b (show mm_Mo_refuse F 16 many made = some r2 from e2)]
    exact ⟨_, _, _, rfl, rfl, h1, h2, h3, by simp, by simp, Or.inl ⟨rfl, rfl⟩⟩
  · have hvl := hv.2.1
    rw [if_neg (nI_ne0 (by omega) (by omega)), if_neg (nI_ne0 (by omega) (by omega)), pu_b (show mm_Rw_at F 60 2 rsz rf = some (nI z) from pu_at_in (i := 2) hrq hz), pu_b (show mm_Mo_at F 2 lf = some (nI z) from pl_at (i := 2) hln hz h60)]
    by_cases q : z = k
    · subst q
      obtain ⟨r4, e4, q4, h4⟩ := bl_send (F := F) (k := z + 1) (bs := 0) hF hps (by simp) hv (by omega) (by omega)
      obtain ⟨r5, e5, q5, q6, h5⟩ := bl_block (F := F) (k := z + 1) (sz := 0) (m := many) (f := made) hF hf hvB hvl (by omega) (by omega)
      rw [if_pos rfl, if_pos rfl, nI_1, pu_b e4, pu_b (show mm_Mo_block F (nI v.length) 0 (nI z) many mb made = some r5 from e5)]
      refine ⟨_, _, bl_out v (z + 1), rfl, rfl, h4, h5, ?_, by unfold bl_out; simp, by unfold bl_out; simp; omega, ?_⟩
      · intro x hx
        unfold bl_out at hx
        rcases List.mem_append.mp hx with w | w
        · simp only [List.mem_cons, List.not_mem_nil, or_false] at w
          rcases w with rfl | rfl | rfl | rfl
          · decide
          · decide
          · split <;> decide
          · omega
        · exact hvB x (List.mem_of_mem_drop (List.mem_of_mem_take w))
      · by_cases hl : v.length - 40 * (z + 1 - 1) ≤ 40
        · rw [if_pos hl] at q4 q5
          exact Or.inl ⟨q4, q5⟩
        · rw [if_neg hl] at q4 q5
          exact Or.inr ⟨v, z + 1, hv, hf, hvB, q4, q6, q5, by omega, by omega⟩
    · obtain ⟨r1, r2, e1, e2, h1, h2, h3⟩ := fail 19 (by decide)
      rw [if_neg (pu_nn (by omega) (by omega) q), if_neg (pu_nn (by omega) (by omega) q), pu_b (show mm_Cn_addFailure F 80 19 psz pf = some r1 from e1), pu_b (show mm_Mo_refuse F 19 many made = some r2 from e2)]
      exact ⟨_, _, _, rfl, rfl, h1, h2, h3, by simp, by simp, Or.inl ⟨rfl, rfl⟩⟩
abbrev an_C : Type := Int32 × Int32 × Int32 × (Nat → Int32) × Int32 × Int32 × Int32 × Int32 × Int32 × (Nat → Int32) × (Nat → Int32) × Int32 × (Nat → Int32) × Int32 × (Nat → Int32)
abbrev an_M : Type := Int32 × Int32 × Int32 × Int32 × Int32 × Int32 × Int32 × Int32 × Int32 × (Nat → Int32) × (Nat → Int32) × (Nat → Int32) × (Nat → Int32) × (Nat → Int32) × (Nat → Int32)
abbrev an_ok (c : an_C) (m : an_M) : Prop := ∃ (ag : Nat) (out : List Nat), ag < 3 ∧ c.1 = nI ag ∧ m.2.2.2.2.2.1 = nI ag ∧
  me_rel c.2.2.1 c.2.2.2.1 c.2.2.2.2.1 c.2.2.2.2.2.1 c.2.2.2.2.2.2.1 c.2.2.2.2.2.2.2.1 c.2.2.2.2.2.2.2.2.1 c.2.2.2.2.2.2.2.2.2.1 c.2.2.2.2.2.2.2.2.2.2.1 m.1 m.2.1 m.2.2.1 m.2.2.2.1 m.2.2.2.2.1 m.2.2.2.2.2.2.2.2.2.1 m.2.2.2.2.2.2.2.2.2.2.1 m.2.2.2.2.2.2.2.2.2.2.2.1 m.2.2.2.2.2.2.2.2.2.2.2.2.1 ∧
  lv_rel c.2.1 c.2.2.2.2.2.2.2.2.2.2.2.1 c.2.2.2.2.2.2.2.2.2.2.2.2.1 m.2.2.2.2.2.2.1 m.2.2.2.2.2.2.2.1 m.2.2.2.2.2.2.2.2.2.2.2.2.2.1 ∧
  rw_is 80 c.2.2.2.2.2.2.2.2.2.2.2.2.2.1 c.2.2.2.2.2.2.2.2.2.2.2.2.2.2 out ∧ rw_is 300 m.2.2.2.2.2.2.2.2.1 m.2.2.2.2.2.2.2.2.2.2.2.2.2.2 out ∧ pu_B out ∧ 1 ≤ out.length ∧ out.length ≤ 44
theorem bg {F f0 k s : Nat} {rsz : Int32} {rf : Nat → Int32} {rq : List Nat} (K S : Int32) (hK : K = nI k) (hS : S = nI s) (hs : s < 100) (hk : k < 256) (hf : rq[0]? = some f0) (hB : pu_B rq) (hrq : rw_is 60 rsz rf rq) : mm_Cn_begins F K S rsz rf = some (if f0 = k ∧ rq.length = s then 1 else 0) := by
  have h60 := hrq.2.1
  have hfb := hB f0 (List.mem_of_getElem? hf)
  subst hK; subst hS
  rw [mq_Cn_begins, pu_b (show mm_Rw_at F 60 0 rsz rf = some (nI f0) from pu_at_in (i := 0) hrq hf), hrq.1]
  by_cases q1 : f0 = k
  · rw [if_pos (congrArg nI q1)]
    by_cases q2 : rq.length = s
    · rw [if_pos (congrArg nI q2), if_pos ⟨q1, q2⟩]
    · rw [if_neg (pu_nn (by omega) (by omega) q2), if_neg (fun q => q2 q.2)]
  · rw [if_neg (pu_nn (by omega) (by omega) q1), if_neg (fun q => q1 q.1)]
theorem an_needs {F f0 : Nat} {rsz : Int32} {rf : Nat → Int32} {rq : List Nat} (hf : rq[0]? = some f0) (hB : pu_B rq) (hrq : rw_is 60 rsz rf rq) : mm_Cn_needsAssociation F rsz rf = some (if f0 = 192 ∨ f0 = 193 ∨ f0 = 195 then 1 else 0) := by
  have hfb := hB f0 (List.mem_of_getElem? hf)
  rw [mq_Cn_needsAssociation, pu_b (show mm_Rw_at F 60 0 rsz rf = some (nI f0) from pu_at_in (i := 0) hrq hf)]
  by_cases q1 : f0 = 192
  · rw [if_pos (pu_eq 192 192 q1), if_pos (Or.inl q1)]
  rw [if_neg (pu_ne 192 192 q1)]
  by_cases q2 : f0 = 193
  · rw [if_pos (pu_eq 193 193 q2), if_pos (Or.inr (Or.inl q2))]
  rw [if_neg (pu_ne 193 193 q2)]
  by_cases q3 : f0 = 195
  · rw [if_pos (pu_eq 195 195 q3), if_pos (Or.inr (Or.inr q3))]
  · rw [if_neg (pu_ne 195 195 q3), if_neg (by omega)]
theorem an_both {F ag : Nat} {secret bs now cc cap per first size mtime mcap mper mcc msize vsz rsz psz msz ms many : Int32} {reg cols ring mreg mcols times values vf rf pf mb lf made : Nat → Int32} {rq : List Nat} (hF : 300 < F) (h1 : 1 ≤ rq.length) (hB : pu_B rq) (hrq : rw_is 60 rsz rf rq) (hln : ln_is lf rq) (hps : rw_is 80 psz pf []) (hag : ag < 3)
    (h : me_rel now reg cc cap per first size cols ring mtime mcap mper mcc msize mreg mcols times values) (hv : lv_rel bs vsz vf msz ms mb) :
    ∃ rc rm, mm_Cn_answer F 80 secret (nI ag) bs now reg cc cap per first size cols ring rsz rf vsz vf psz pf = some rc ∧ mm_Mo_answer F (nI rq.length) secret mtime mcap mper mcc msize (nI ag) msz ms many mreg mcols times values mb lf made = some rm ∧ an_ok rc rm := by
  have h60 := hrq.2.1
  obtain ⟨f0, hf0⟩ := pu_get (l := rq) (i := 0) (by omega)
  have hfb := hB f0 (List.mem_of_getElem? hf0)
  have m0 : mm_Mo_at F 0 lf = some (nI f0) := pl_at (i := 0) hln hf0 h60
  -- two bytes as an answer
  have two : ∀ a b : Nat, a < 256 → b < 256 → ∃ r1 r2, mm_Cn_addTwo F 80 (nI a) (nI b) psz pf = some r1 ∧ mm_Mo_say F (nI a) (nI b) many made = some r2 ∧ rw_is 80 r1.1 r1.2 [a, b] ∧ rw_is 300 r2.1 r2.2 [a, b] ∧ pu_B [a, b] ∧ 1 ≤ [a, b].length ∧ [a, b].length ≤ 44 := by
    intro a b ha hb
    obtain ⟨r1, e1, g1⟩ := pu_addTwo (F := F) (a := a) (b := b) hps (by simp)
    obtain ⟨r2, e2, g2⟩ := pu_say (F := F) (m := many) (f := made) ha hb
    refine ⟨r1, r2, e1, e2, g1, g2, fun x hx => ?_, by simp, by simp⟩
    simp only [List.mem_cons, List.not_mem_nil, or_false] at hx
    omega
  rw [mq_Cn_answer, pu_b (bg (k := 96) (s := 6) 96 6 rfl rfl (by decide) (by decide) hf0 hB hrq), pu_z1, mq_Mo_answer, pu_b m0]
  by_cases c1 : f0 = 96 ∧ rq.length = 6
  · obtain ⟨r1, hr1⟩ := pu_get (l := rq) (i := 1) (by omega)
    obtain ⟨b2, hb2⟩ := pu_get (l := rq) (i := 2) (by omega)
    obtain ⟨b3, hb3⟩ := pu_get (l := rq) (i := 3) (by omega)
    obtain ⟨b4, hb4⟩ := pu_get (l := rq) (i := 4) (by omega)
    obtain ⟨b5, hb5⟩ := pu_get (l := rq) (i := 5) (by omega)
    have hrb := hB r1 (List.mem_of_getElem? hr1)
    have m1 : mm_Mo_at F 1 lf = some (nI r1) := pl_at (i := 1) hln hr1 h60
    obtain ⟨x1, y1, e1, d1, g1⟩ := two 97 0 (by decide) (by decide)
    obtain ⟨x2, y2, e2, d2, g2⟩ := two 97 1 (by decide) (by decide)
    rw [if_pos c1, if_pos (pu_eq 96 96 c1.1), if_pos (pu_eq 6 6 c1.2), pu_b m1, mq_Cn_associate, pu_b (show mm_Rw_at F 60 1 rsz rf = some (nI r1) from pu_at_in (i := 1) hrq hr1)]
    by_cases q1 : r1 = 1
    · rw [if_pos (pu_eq 1 1 q1), if_pos (pu_eq 1 1 q1), mq_Cn_associate_J34, mq_Cn_associate_J39, if_neg pu_10, if_neg pu_10, pu_b (show mm_Cn_addTwo F 80 97 0 psz pf = some x1 from e1), pu_s, mq_Mo_answer_J68, if_neg (show ¬ (1 : Int32) ≤ 0 by decide +kernel), pu_b (show mm_Mo_say F 97 0 many made = some y1 from d1)]
      exact ⟨_, _, rfl, rfl, 1, [97, 0], by decide, by rw [q1], rfl, h, Or.inl ⟨rfl, rfl⟩, g1⟩
    rw [if_neg (pu_ne 1 1 q1), if_neg (pu_ne 1 1 q1), pu_b m1]
    by_cases q2 : r1 = 2
    · rw [if_pos (pu_eq 2 2 q2), if_pos (pu_eq 2 2 q2), pu_b (show mm_Rw_intAt F 60 2 rsz rf = some (pu_int b2 b3 b4 b5) from pu_intAt (i := 2) hrq hb2 hb3 hb4 hb5), pu_b (show mm_Mo_intAt F 2 lf = some (pu_int b2 b3 b4 b5) from pl_int (i := 2) hln h60 hb2 hb3 hb4 hb5)]
      by_cases q3 : pu_int b2 b3 b4 b5 = secret
      · rw [if_pos q3, if_pos q3, mq_Cn_associate_J34, mq_Cn_associate_J39, if_neg pu_10, if_neg pu_10, pu_b (show mm_Cn_addTwo F 80 97 0 psz pf = some x1 from e1), pu_s, mq_Mo_answer_J68, if_neg (show ¬ (2 : Int32) ≤ 0 by decide +kernel), pu_b (show mm_Mo_say F 97 0 many made = some y1 from d1)]
        exact ⟨_, _, rfl, rfl, 2, [97, 0], by decide, by rw [q2], rfl, h, Or.inl ⟨rfl, rfl⟩, g1⟩
      · rw [if_neg q3, if_neg q3, mq_Cn_associate_J38, mq_Cn_associate_J39, if_pos rfl, if_pos rfl, pu_b (show mm_Cn_addTwo F 80 97 1 psz pf = some x2 from e2), pu_s, mq_Mo_answer_J67, mq_Mo_answer_J68, if_pos (show (0 : Int32) ≤ 0 by decide +kernel), pu_b (show mm_Mo_say F 97 1 many made = some y2 from d2)]
        exact ⟨_, _, rfl, rfl, 0, [97, 1], by decide, nI_0.symm, nI_0.symm, h, Or.inl ⟨rfl, rfl⟩, g2⟩
    · rw [if_neg (pu_ne 2 2 q2), if_neg (pu_ne 2 2 q2), mq_Cn_associate_J38, mq_Cn_associate_J39, if_pos rfl, if_pos rfl, pu_b (show mm_Cn_addTwo F 80 97 1 psz pf = some x2 from e2), pu_s, mq_Mo_answer_J67, mq_Mo_answer_J68, if_pos (show (0 : Int32) ≤ 0 by decide +kernel), pu_b (show mm_Mo_say F 97 1 many made = some y2 from d2)]
      exact ⟨_, _, rfl, rfl, 0, [97, 1], by decide, nI_0.symm, nI_0.symm, h, Or.inl ⟨rfl, rfl⟩, g2⟩
  rw [pu_iteN, if_neg (show ¬ (nI f0 = 96 ∧ nI rq.length = 6) from fun q => c1 ⟨(nI_eq (b := 96) (by omega) (by decide)).mp q.1, (nI_eq (b := 6) (by omega) (by decide)).mp q.2⟩), if_neg c1, pu_b (bg (k := 98) (s := 1) 98 1 rfl rfl (by decide) (by decide) hf0 hB hrq), pu_z1, mq_Mo_answer_J92]
  by_cases c2 : f0 = 98 ∧ rq.length = 1
  · obtain ⟨x1, e1, g1⟩ := pu_add (F := F) (x := 99) hps (by simp)
    obtain ⟨y1, d1, k1⟩ := pu_emit (F := F) (x := 99) (pu_empty (N := 300) made (by decide)) (by simp) (by decide)
    rw [if_pos c2, if_pos (pu_eq 98 98 c2.1), if_pos (pu_eq 1 1 c2.2), pu_b (show mm_Rw_add F 80 99 psz pf = some x1 from e1), pu_b (show mm_Mo_emit F 99 0 made = some y1 from d1)]
    refine ⟨_, _, rfl, rfl, 0, [99], by decide, nI_0.symm, nI_0.symm, h, Or.inl ⟨rfl, rfl⟩, g1, k1, fun x hx => ?_, by simp, by simp⟩
    simp only [List.mem_cons, List.not_mem_nil, or_false] at hx
    omega
  rw [pu_iteN, if_neg (show ¬ (nI f0 = 98 ∧ nI rq.length = 1) from fun q => c2 ⟨(nI_eq (b := 98) (by omega) (by decide)).mp q.1, (nI_eq (b := 1) (by omega) (by decide)).mp q.2⟩), if_neg c2]
  have c3j : ¬ (ag = 0 ∧ (f0 = 192 ∨ f0 = 193 ∨ f0 = 195)) → mm_Mo_answer_J122 F (nI rq.length) (nI f0) msz mtime mcap mper mcc msize (nI ag) 0 ms many mreg mcols times values mb lf made = mm_Mo_answer_J161 F (nI rq.length) (nI f0) msz mtime mcap mper mcc msize (nI ag) 0 ms many mreg mcols times values mb lf made := by
    intro c3
    rw [mq_Mo_answer_J122]
    by_cases a0 : ag = 0
    · rw [if_pos (pu_eq 0 0 a0 nI_0.symm), if_neg (pu_ne 192 192 (fun q => c3 ⟨a0, Or.inl q⟩)), if_neg (pu_ne 193 193 (fun q => c3 ⟨a0, Or.inr (Or.inl q)⟩)), if_neg (pu_ne 195 195 (fun q => c3 ⟨a0, Or.inr (Or.inr q)⟩))]
    · rw [if_neg (nI_ne0 (by omega) (by omega))]
  by_cases c3 : ag = 0 ∧ (f0 = 192 ∨ f0 = 193 ∨ f0 = 195)
  · obtain ⟨x1, y1, e1, d1, g1⟩ := two 216 1 (by decide) (by decide)
    have a0 : nI ag = 0 := pu_eq 0 0 c3.1 nI_0.symm
    rw [if_pos a0, pu_b (an_needs hf0 hB hrq), pu_z1, if_pos c3.2, pu_b (show mm_Cn_addTwo F 80 216 1 psz pf = some x1 from e1), mq_Mo_answer_J122, if_pos a0]
    rcases c3.2 with q | q | q
    · rw [if_pos (pu_eq 192 192 q), pu_b (show mm_Mo_say F 216 1 many made = some y1 from d1)]
      exact ⟨_, _, rfl, rfl, ag, [216, 1], hag, rfl, rfl, h, Or.inl ⟨rfl, rfl⟩, g1⟩
    · rw [if_neg (pu_ne 192 192 (by omega)), if_pos (pu_eq 193 193 q), pu_b (show mm_Mo_say F 216 1 many made = some y1 from d1)]
      exact ⟨_, _, rfl, rfl, ag, [216, 1], hag, rfl, rfl, h, Or.inl ⟨rfl, rfl⟩, g1⟩
    · rw [if_neg (pu_ne 192 192 (by omega)), if_neg (pu_ne 193 193 (by omega)), if_pos (pu_eq 195 195 q), pu_b (show mm_Mo_say F 216 1 many made = some y1 from d1)]
      exact ⟨_, _, rfl, rfl, ag, [216, 1], hag, rfl, rfl, h, Or.inl ⟨rfl, rfl⟩, g1⟩
  have cj : (if nI ag = 0 then (mm_Cn_needsAssociation F rsz rf).bind fun x61 => (if x61 = 0 then mm_Cn_answer_J78 F 80 bs (nI ag) 0 now reg cc cap per first size cols ring rsz rf vsz vf psz pf else (mm_Cn_addTwo F 80 216 1 psz pf).bind fun x72 => some (nI ag, 0, now, reg, cc, cap, per, first, size, cols, ring, vsz, vf, x72.1, x72.2)) else mm_Cn_answer_J78 F 80 bs (nI ag) 0 now reg cc cap per first size cols ring rsz rf vsz vf psz pf) = mm_Cn_answer_J78 F 80 bs (nI ag) 0 now reg cc cap per first size cols ring rsz rf vsz vf psz pf := by
    by_cases a0 : ag = 0
    · rw [if_pos (pu_eq 0 0 a0 nI_0.symm), pu_b (an_needs hf0 hB hrq), pu_z1, if_neg (fun q => c3 ⟨a0, q⟩)]
    · rw [if_neg (nI_ne0 (by omega) (by omega))]
  rw [cj, c3j c3]
  have n60 : ∀ k : Nat, k < 100 → ¬ rq.length = k → ¬ nI rq.length = nI k := fun k hk q => pu_nn (by omega) (by omega) q
  have at1 : ∀ r : Nat, rq[1]? = some r → mm_Rw_at F 60 1 rsz rf = some (nI r) ∧ mm_Mo_at F 1 lf = some (nI r) ∧ r < 256 := fun r hr => ⟨pu_at_in (i := 1) hrq hr, pl_at (i := 1) hln hr h60, hB r (List.mem_of_getElem? hr)⟩
  have at4 : ∀ r : Nat, rq[4]? = some r → mm_Rw_at F 60 4 rsz rf = some (nI r) ∧ mm_Mo_at F 4 lf = some (nI r) ∧ r < 256 := fun r hr => ⟨pu_at_in (i := 4) hrq hr, pl_at (i := 4) hln hr h60, hB r (List.mem_of_getElem? hr)⟩
  -- what is passed over
  have s78 : ¬ (f0 = 192 ∧ rq.length = 5 ∧ rq[1]? = some 1 ∧ rq[4]? = some 0) → mm_Cn_answer_J78 F 80 bs (nI ag) 0 now reg cc cap per first size cols ring rsz rf vsz vf psz pf = mm_Cn_answer_J123 F 80 bs (nI ag) 0 now reg cc cap per first size cols ring rsz rf vsz vf psz pf := by
    intro c
    rw [mq_Cn_answer_J78, pu_b (bg (k := 192) (s := 5) 192 5 rfl rfl (by decide) (by decide) hf0 hB hrq), pu_z1]
    by_cases q : f0 = 192 ∧ rq.length = 5
    case neg => rw [if_neg q]
    obtain ⟨r1, hr1⟩ := pu_get (l := rq) (i := 1) (by omega)
    obtain ⟨r4, hr4⟩ := pu_get (l := rq) (i := 4) (by omega)
    have a1 := at1 r1 hr1
    have a4 := at4 r4 hr4
    rw [if_pos q, pu_b a1.1]
    by_cases q1 : r1 = 1
    case neg => rw [if_neg (pu_ne 1 1 q1)]
    rw [if_pos (pu_eq 1 1 q1), pu_b a4.1, if_neg (pu_ne 0 0 (fun w => c ⟨q.1, q.2, q1 ▸ hr1, w ▸ hr4⟩) (by omega) (by decide) nI_0.symm)]
  have s123 : ¬ (f0 = 192 ∧ rq.length = 13 ∧ rq[1]? = some 1 ∧ rq[4]? = some 1) → mm_Cn_answer_J123 F 80 bs (nI ag) 0 now reg cc cap per first size cols ring rsz rf vsz vf psz pf = mm_Cn_answer_J185 F 80 bs (nI ag) 0 now reg cc cap per first size cols ring rsz rf vsz vf psz pf := by
    intro c
    rw [mq_Cn_answer_J123, pu_b (bg (k := 192) (s := 13) 192 13 rfl rfl (by decide) (by decide) hf0 hB hrq), pu_z1]
    by_cases q : f0 = 192 ∧ rq.length = 13
    case neg => rw [if_neg q]
    obtain ⟨r1, hr1⟩ := pu_get (l := rq) (i := 1) (by omega)
    obtain ⟨r4, hr4⟩ := pu_get (l := rq) (i := 4) (by omega)
    have a1 := at1 r1 hr1
    have a4 := at4 r4 hr4
    rw [if_pos q, pu_b a1.1]
    by_cases q1 : r1 = 1
    case neg => rw [if_neg (pu_ne 1 1 q1)]
    rw [if_pos (pu_eq 1 1 q1), pu_b a4.1, if_neg (pu_ne 1 1 (fun w => c ⟨q.1, q.2, q1 ▸ hr1, w ▸ hr4⟩))]
  have s185 : ¬ (f0 = 192 ∧ rq.length = 3 ∧ rq[1]? = some 2) → mm_Cn_answer_J185 F 80 bs (nI ag) 0 now reg cc cap per first size cols ring rsz rf vsz vf psz pf = mm_Cn_answer_J217 F 80 (nI ag) 0 now reg cc cap per first size cols ring rsz rf vsz vf psz pf := by
    intro c
    rw [mq_Cn_answer_J185, pu_b (bg (k := 192) (s := 3) 192 3 rfl rfl (by decide) (by decide) hf0 hB hrq), pu_z1]
    by_cases q : f0 = 192 ∧ rq.length = 3
    case neg => rw [if_neg q]
    obtain ⟨r1, hr1⟩ := pu_get (l := rq) (i := 1) (by omega)
    have a1 := at1 r1 hr1
    rw [if_pos q, pu_b a1.1, if_neg (pu_ne 2 2 (fun w => c ⟨q.1, q.2, w ▸ hr1⟩))]
  have s161 : ¬ (f0 = 192 ∧ rq.length = 3 ∧ rq[1]? = some 2) → mm_Mo_answer_J161 F (nI rq.length) (nI f0) msz mtime mcap mper mcc msize (nI ag) 0 ms many mreg mcols times values mb lf made = mm_Mo_answer_J190 F (nI rq.length) (nI f0) mtime mcap mper mcc msize (nI ag) 0 ms many mreg mcols times values mb lf made := by
    intro c
    rw [mq_Mo_answer_J161]
    by_cases q : f0 = 192
    case neg => rw [if_neg (pu_ne 192 192 q)]
    rw [if_pos (pu_eq 192 192 q)]
    by_cases q3 : rq.length = 3
    case neg => rw [if_neg (show ¬ nI rq.length = 3 from n60 3 (by decide) q3)]
    obtain ⟨r1, hr1⟩ := pu_get (l := rq) (i := 1) (by omega)
    have a1 := at1 r1 hr1
    rw [if_pos (pu_eq 3 3 q3), pu_b a1.2.1, if_neg (pu_ne 2 2 (fun w => c ⟨q, q3, w ▸ hr1⟩))]
  have s190 : ¬ (f0 = 192 ∧ rq.length = 5 ∧ rq[1]? = some 1 ∧ rq[4]? = some 0) → ¬ (f0 = 192 ∧ rq.length = 13 ∧ rq[1]? = some 1 ∧ rq[4]? = some 1) → mm_Mo_answer_J190 F (nI rq.length) (nI f0) mtime mcap mper mcc msize (nI ag) 0 ms many mreg mcols times values mb lf made = mm_Mo_answer_J262 F (nI rq.length) (nI f0) mtime mcap mper mcc msize (nI ag) 0 ms many mreg mcols times values mb lf made := by
    intro c d
    rw [mq_Mo_answer_J190]
    by_cases q : f0 = 192
    case neg => rw [if_neg (pu_ne 192 192 q)]
    rw [if_pos (pu_eq 192 192 q)]
    by_cases q5 : 5 ≤ rq.length
    case neg =>
      obtain ⟨z, hz⟩ := pl_at' (F := F) (i := 1) lf (by decide)
      rw [pu_b (show mm_Mo_at F 1 lf = some z from hz), if_neg (show ¬ nI rq.length = 5 from n60 5 (by decide) (by omega)), mq_Mo_answer_J219, if_neg (show ¬ nI rq.length = 13 from n60 13 (by decide) (by omega))]
      split <;> rfl
    obtain ⟨r1, hr1⟩ := pu_get (l := rq) (i := 1) (by omega)
    obtain ⟨r4, hr4⟩ := pu_get (l := rq) (i := 4) (by omega)
    have a1 := at1 r1 hr1
    have a4 := at4 r4 hr4
    rw [pu_b a1.2.1]
    by_cases q1 : r1 = 1
    case neg => rw [if_neg (pu_ne 1 1 q1)]
    have j219 : mm_Mo_answer_J219 F (nI rq.length) (nI f0) mtime mcap mper mcc msize (nI ag) 0 ms many mreg mcols times values mb lf made = mm_Mo_answer_J262 F (nI rq.length) (nI f0) mtime mcap mper mcc msize (nI ag) 0 ms many mreg mcols times values mb lf made := by
      rw [mq_Mo_answer_J219]
      by_cases q13 : rq.length = 13
      case neg => rw [if_neg (show ¬ nI rq.length = 13 from n60 13 (by decide) q13)]
      rw [if_pos (pu_eq 13 13 q13), pu_b a4.2.1, if_neg (pu_ne 1 1 (fun w => d ⟨q, q13, q1 ▸ hr1, w ▸ hr4⟩))]
    rw [if_pos (pu_eq 1 1 q1)]
    by_cases q55 : rq.length = 5
    case neg => rw [if_neg (show ¬ nI rq.length = 5 from n60 5 (by decide) q55), j219]
    rw [if_pos (pu_eq 5 5 q55), pu_b a4.2.1, if_neg (pu_ne 0 0 (fun w => c ⟨q, q55, q1 ▸ hr1, w ▸ hr4⟩) (by omega) (by decide) nI_0.symm), j219]
  have hg : ∃ g, (g = 1 ∧ ag = 2 ∨ g = 0 ∧ ¬ ag = 2 ∧ ag < 3) := by
    by_cases q : ag = 2
    · exact ⟨1, Or.inl ⟨rfl, q⟩⟩
    · exact ⟨0, Or.inr ⟨rfl, q, hag⟩⟩
  obtain ⟨nowN, R, C, E, capN, perN, hnow, hnl, hmt, hrc, hrm, hc, hm⟩ := id h
  by_cases c4 : f0 = 192 ∧ rq.length = 5 ∧ rq[1]? = some 1 ∧ rq[4]? = some 0
  · obtain ⟨o, hro⟩ := pu_get (l := rq) (i := 2) (by omega)
    obtain ⟨a, hra⟩ := pu_get (l := rq) (i := 3) (by omega)
    obtain ⟨x1, y1, out, e1, d1, g1, g2, g3, g4, g5, g6⟩ := gt_both (F := F) (p := 0) (now := now) (lo := 0) (hi := -1) (vsz := vsz) (vf := vf) (ms := ms) (m := many) (mb := mb) (lf := lf) (made := made) hF hro hra (hB o (List.mem_of_getElem? hro)) (hB a (List.mem_of_getElem? hra)) (Or.inl ⟨rfl, rfl, rfl⟩) hc hm hrc hrm hrq hps
    rw [mq_Cn_answer_J78, pu_b (bg (k := 192) (s := 5) 192 5 rfl rfl (by decide) (by decide) hf0 hB hrq), pu_z1, if_pos ⟨c4.1, c4.2.1⟩, pu_b (at1 1 c4.2.2.1).1, if_pos (show nI 1 = 1 from rfl), pu_b (at4 0 c4.2.2.2).1, if_pos nI_0, pu_b (show mm_Cn_answerGet F 80 0 0 (-1) 0 now reg cc cap per first size cols ring rsz rf vsz vf psz pf = some x1 from e1), s161 (by omega),
      mq_Mo_answer_J190, if_pos (pu_eq 192 192 c4.1), pu_b (at1 1 c4.2.2.1).2.1, if_pos (show nI 1 = 1 from rfl), if_pos (pu_eq 5 5 c4.2.1), pu_b (at4 0 c4.2.2.2).2.1, if_pos nI_0, mq_Mo_answer_J234, pu_b (show mm_Mo_at F 2 lf = some (nI o) from pl_at (i := 2) hln hro h60), pu_b (show mm_Mo_at F 3 lf = some (nI a) from pl_at (i := 3) hln hra h60), if_neg (show ¬ nI rq.length = 13 from n60 13 (by decide) (by omega)), hmt, pu_b (show mm_Mo_get F (nI o) (nI a) 0 now mcap mper mcc msize 0 ms many mreg mcols times values mb lf made = some y1 from d1)]
    rw [hmt] at h
    exact ⟨_, _, rfl, rfl, ag, out, hag, rfl, rfl, h, g6, g1, g2, g3, g4, g5⟩
  rw [s78 c4]
  by_cases c5 : f0 = 192 ∧ rq.length = 13 ∧ rq[1]? = some 1 ∧ rq[4]? = some 1
  · obtain ⟨o, hro⟩ := pu_get (l := rq) (i := 2) (by omega)
    obtain ⟨a, hra⟩ := pu_get (l := rq) (i := 3) (by omega)
    obtain ⟨b5, q5⟩ := pu_get (l := rq) (i := 5) (by omega)
    obtain ⟨b6, q6⟩ := pu_get (l := rq) (i := 6) (by omega)
    obtain ⟨b7, q7⟩ := pu_get (l := rq) (i := 7) (by omega)
    obtain ⟨b8, q8⟩ := pu_get (l := rq) (i := 8) (by omega)
    obtain ⟨b9, q9⟩ := pu_get (l := rq) (i := 9) (by omega)
    obtain ⟨b10, q10⟩ := pu_get (l := rq) (i := 10) (by omega)
    obtain ⟨b11, q11⟩ := pu_get (l := rq) (i := 11) (by omega)
    obtain ⟨b12, q12⟩ := pu_get (l := rq) (i := 12) (by omega)
    obtain ⟨x1, y1, out, e1, d1, g1, g2, g3, g4, g5, g6⟩ := gt_both (F := F) (p := 1) (now := now) (lo := pu_int b5 b6 b7 b8) (hi := pu_int b9 b10 b11 b12) (vsz := vsz) (vf := vf) (ms := ms) (m := many) (mb := mb) (lf := lf) (made := made) hF hro hra (hB o (List.mem_of_getElem? hro)) (hB a (List.mem_of_getElem? hra)) (Or.inr ⟨rfl, pl_int (i := 5) hln h60 q5 q6 q7 q8, pl_int (i := 9) hln h60 q9 q10 q11 q12⟩) hc hm hrc hrm hrq hps
    rw [mq_Cn_answer_J123, pu_b (bg (k := 192) (s := 13) 192 13 rfl rfl (by decide) (by decide) hf0 hB hrq), pu_z1, if_pos ⟨c5.1, c5.2.1⟩, pu_b (at1 1 c5.2.2.1).1, if_pos (show nI 1 = 1 from rfl), pu_b (at4 1 c5.2.2.2).1, if_pos (show nI 1 = 1 from rfl), pu_b (show mm_Rw_intAt F 60 5 rsz rf = some (pu_int b5 b6 b7 b8) from pu_intAt (i := 5) hrq q5 q6 q7 q8), pu_b (show mm_Rw_intAt F 60 9 rsz rf = some (pu_int b9 b10 b11 b12) from pu_intAt (i := 9) hrq q9 q10 q11 q12),
      pu_b (show mm_Cn_answerGet F 80 1 (pu_int b5 b6 b7 b8) (pu_int b9 b10 b11 b12) 0 now reg cc cap per first size cols ring rsz rf vsz vf psz pf = some x1 from e1), s161 (by omega),
      mq_Mo_answer_J190, if_pos (pu_eq 192 192 c5.1), pu_b (at1 1 c5.2.2.1).2.1, if_pos (show nI 1 = 1 from rfl), if_neg (show ¬ nI rq.length = 5 from n60 5 (by decide) (by omega)), mq_Mo_answer_J219, if_pos (pu_eq 13 13 c5.2.1), pu_b (at4 1 c5.2.2.2).2.1, if_pos (show nI 1 = 1 from rfl), mq_Mo_answer_J234, pu_b (show mm_Mo_at F 2 lf = some (nI o) from pl_at (i := 2) hln hro h60), pu_b (show mm_Mo_at F 3 lf = some (nI a) from pl_at (i := 3) hln hra h60), if_pos (pu_eq 13 13 c5.2.1), hmt, pu_b (show mm_Mo_get F (nI o) (nI a) 1 now mcap mper mcc msize 0 ms many mreg mcols times values mb lf made = some y1 from d1)]
    rw [hmt] at h
    exact ⟨_, _, rfl, rfl, ag, out, hag, rfl, rfl, h, g6, g1, g2, g3, g4, g5⟩
  rw [s123 c5]
  by_cases c6 : f0 = 192 ∧ rq.length = 3 ∧ rq[1]? = some 2
  · obtain ⟨z, hz⟩ := pu_get (l := rq) (i := 2) (by omega)
    obtain ⟨x1, y1, out, e1, d1, g1, g2, g3, g4, g5, g6⟩ := nb_both (F := F) (many := many) (made := made) hF hz hB hrq hln hps hv
    rw [mq_Cn_answer_J185, pu_b (bg (k := 192) (s := 3) 192 3 rfl rfl (by decide) (by decide) hf0 hB hrq), pu_z1, if_pos ⟨c6.1, c6.2.1⟩, pu_b (at1 2 c6.2.2).1, if_pos (show nI 2 = 2 from rfl), pu_b e1, mq_Mo_answer_J161, if_pos (pu_eq 192 192 c6.1), if_pos (pu_eq 3 3 c6.2.1), pu_b (at1 2 c6.2.2).2.1, if_pos (show nI 2 = 2 from rfl), pu_b d1]
    exact ⟨_, _, rfl, rfl, ag, out, hag, rfl, rfl, h, g6, g1, g2, g3, g4, g5⟩
  rw [s185 c6, s161 c6, s190 c4 c5, mq_Cn_answer_J217, pu_b (show mm_Rw_at F 60 0 rsz rf = some (nI f0) from pu_at_in (i := 0) hrq hf0), mq_Mo_answer_J262]
  obtain ⟨g, hg⟩ := hg
  by_cases c7 : f0 = 193 ∧ 3 ≤ rq.length
  · obtain ⟨o, hro⟩ := pu_get (l := rq) (i := 1) (by omega)
    obtain ⟨a, hra⟩ := pu_get (l := rq) (i := 2) (by omega)
    obtain ⟨x1, y1, res, e1, d1, p1, p2, p3, p4⟩ := st_both (F := F) (by omega) hro hra hg hB hrq hln h
    obtain ⟨x2, y2, e2, d2, g2⟩ := two 197 res (by decide) p3
    rw [← p1] at e2
    rw [← p2] at d2
    have e3 : nI rq.length - 3 = nI (rq.length - 3) := pk_sub (b := 3) c7.2
    rw [if_pos (pu_eq 193 193 c7.1), if_pos (pu_eq 193 193 c7.1), if_neg (show ¬ rsz < 3 by rw [hrq.1]; exact pu_nlt 3 3 c7.2), if_neg (pu_nlt 3 3 c7.2), pu_b (at1 o hro).2.1, pu_b (show mm_Mo_at F 2 lf = some (nI a) from pl_at (i := 2) hln hra h60), e3, pu_b d1, pu_b (show mm_Mo_say F 197 y1.1 many made = some y2 from d2)]
    rcases hg with ⟨rfl, rfl⟩ | ⟨rfl, w, -⟩
    · rw [if_pos (show nI 2 = 2 from rfl), pu_b (show mm_Mt_set F 60 1 now reg cc cap per first size cols rsz rf = some x1 from e1), pu_b (show mm_Cn_addTwo F 80 197 x1.1 psz pf = some x2 from e2)]
      exact ⟨_, _, rfl, rfl, 2, [197, res], hag, rfl, rfl, p4, Or.inl ⟨rfl, rfl⟩, g2⟩
    · rw [if_neg (pu_ne 2 2 w), pu_b (show mm_Mt_set F 60 0 now reg cc cap per first size cols rsz rf = some x1 from by rw [← nI_0]; exact e1), pu_b (show mm_Cn_addTwo F 80 197 x1.1 psz pf = some x2 from e2)]
      exact ⟨_, _, rfl, rfl, ag, [197, res], hag, rfl, rfl, p4, Or.inl ⟨rfl, rfl⟩, g2⟩
  have s217 : (if nI f0 = 193 then (if rsz < 3 then mm_Cn_answer_J276 F 80 (nI ag) 0 now reg cc cap per first size cols ring rsz rf vsz vf psz pf else (if nI ag = 2 then (mm_Mt_set F 60 1 now reg cc cap per first size cols rsz rf).bind fun x267 => (mm_Cn_addTwo F 80 197 x267.1 psz pf).bind fun x270 => some (nI ag, 0, x267.2.1, x267.2.2.1, x267.2.2.2.1, x267.2.2.2.2.1, x267.2.2.2.2.2.1, x267.2.2.2.2.2.2.1, x267.2.2.2.2.2.2.2.1, x267.2.2.2.2.2.2.2.2, ring, vsz, vf, x270.1, x270.2)
      else (mm_Mt_set F 60 0 now reg cc cap per first size cols rsz rf).bind fun x267 => (mm_Cn_addTwo F 80 197 x267.1 psz pf).bind fun x270 => some (nI ag, 0, x267.2.1, x267.2.2.1, x267.2.2.2.1, x267.2.2.2.2.1, x267.2.2.2.2.2.1, x267.2.2.2.2.2.2.1, x267.2.2.2.2.2.2.2.1, x267.2.2.2.2.2.2.2.2, ring, vsz, vf, x270.1, x270.2))) else mm_Cn_answer_J276 F 80 (nI ag) 0 now reg cc cap per first size cols ring rsz rf vsz vf psz pf) = mm_Cn_answer_J276 F 80 (nI ag) 0 now reg cc cap per first size cols ring rsz rf vsz vf psz pf := by
    by_cases q : f0 = 193
    · rw [if_pos (pu_eq 193 193 q), if_pos (show rsz < 3 by rw [hrq.1]; exact pu_lt 3 3 (by omega))]
    · rw [if_neg (pu_ne 193 193 q)]
  rw [s217]
  have m301 : ∀ X : Option an_M, (if nI f0 = 193 then (if nI rq.length < 3 then mm_Mo_answer_J301 F (nI rq.length) (nI f0) mtime mcap mper mcc msize (nI ag) 0 ms many mreg mcols times values mb lf made else X) else mm_Mo_answer_J301 F (nI rq.length) (nI f0) mtime mcap mper mcc msize (nI ag) 0 ms many mreg mcols times values mb lf made) = mm_Mo_answer_J301 F (nI rq.length) (nI f0) mtime mcap mper mcc msize (nI ag) 0 ms many mreg mcols times values mb lf made := by
    intro X
    by_cases q : f0 = 193
    · rw [if_pos (pu_eq 193 193 q), if_pos (pu_lt 3 3 (by omega))]
    · rw [if_neg (pu_ne 193 193 q)]
  rw [m301, mq_Cn_answer_J276, pu_b (bg (k := 195) (s := 4) 195 4 rfl rfl (by decide) (by decide) hf0 hB hrq), pu_z1, mq_Mo_answer_J301]
  by_cases c8 : f0 = 195 ∧ rq.length = 4
  · obtain ⟨o, hro⟩ := pu_get (l := rq) (i := 1) (by omega)
    obtain ⟨a, hra⟩ := pu_get (l := rq) (i := 2) (by omega)
    obtain ⟨q, hrp⟩ := pu_get (l := rq) (i := 3) (by omega)
    obtain ⟨x1, y1, res, e1, d1, p1, p2, p3, p4⟩ := ac_both (F := F) (by omega) hro hra hrp hg hB hrq h
    obtain ⟨x2, y2, e2, d2, g2⟩ := two 199 res (by decide) p3
    rw [← p1] at e2
    rw [← p2] at d2
    rw [if_pos c8, if_pos (pu_eq 195 195 c8.1), if_pos (pu_eq 4 4 c8.2), pu_b (at1 o hro).2.1, pu_b (show mm_Mo_at F 2 lf = some (nI a) from pl_at (i := 2) hln hra h60), pu_b (show mm_Mo_at F 3 lf = some (nI q) from pl_at (i := 3) hln hrp h60), pu_b d1, pu_b (show mm_Mo_say F 199 y1.1 many made = some y2 from d2)]
    rcases hg with ⟨rfl, rfl⟩ | ⟨rfl, w, -⟩
    · rw [if_pos (show nI 2 = 2 from rfl), pu_b (show mm_Mt_act F 60 1 now reg cc cap first size cols ring rsz rf = some x1 from e1), pu_b (show mm_Cn_addTwo F 80 199 x1.1 psz pf = some x2 from e2)]
      exact ⟨_, _, rfl, rfl, 2, [199, res], hag, rfl, rfl, p4, Or.inl ⟨rfl, rfl⟩, g2⟩
    · rw [if_neg (pu_ne 2 2 w), pu_b (show mm_Mt_act F 60 0 now reg cc cap first size cols ring rsz rf = some x1 from by rw [← nI_0]; exact e1), pu_b (show mm_Cn_addTwo F 80 199 x1.1 psz pf = some x2 from e2)]
      exact ⟨_, _, rfl, rfl, ag, [199, res], hag, rfl, rfl, p4, Or.inl ⟨rfl, rfl⟩, g2⟩
  obtain ⟨x1, y1, e1, d1, g1⟩ := two 216 2 (by decide) (by decide)
  rw [if_neg c8, pu_b (show mm_Cn_addTwo F 80 216 2 psz pf = some x1 from e1)]
  by_cases q : f0 = 195
  · rw [if_pos (pu_eq 195 195 q), if_neg (show ¬ nI rq.length = 4 from n60 4 (by decide) (fun w => c8 ⟨q, w⟩)), pu_b (show mm_Mo_say F 216 2 many made = some y1 from d1)]
    exact ⟨_, _, rfl, rfl, ag, [216, 2], hag, rfl, rfl, h, Or.inl ⟨rfl, rfl⟩, g1⟩
  · rw [if_neg (pu_ne 195 195 q), pu_b (show mm_Mo_say F 216 2 many made = some y1 from d1)]
    exact ⟨_, _, rfl, rfl, ag, [216, 2], hag, rfl, rfl, h, Or.inl ⟨rfl, rfl⟩, g1⟩
