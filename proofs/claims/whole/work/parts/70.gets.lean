/-! Getting an attribute, on both sides at once -/
theorem at_c0 : ∀ o, o < 5 → ∀ a, a < 256 → mm_Mt_isAttribute 0 (nI o) (nI a) = some (if at_ok o a then 1 else 0) := by decide +kernel
theorem at_m0 : ∀ o, o < 5 → ∀ a, a < 256 → mm_Mo_isAttribute 0 (nI o) (nI a) = some (if at_ok o a then 1 else 0) := by decide +kernel
theorem at_c {F o a : Nat} (ho : o < 5) (ha : a < 256) : mm_Mt_isAttribute F (nI o) (nI a) = some (if at_ok o a then 1 else 0) := at_c0 o ho a ha
theorem at_m {F o a : Nat} (ho : o < 5) (ha : a < 256) : mm_Mo_isAttribute F (nI o) (nI a) = some (if at_ok o a then 1 else 0) := at_m0 o ho a ha
theorem ob_c {F o : Nat} (ho : o < 256) : mm_Mt_isObject F (nI o) = some (if o < 5 then 1 else 0) := by
  rw [mq_Mt_isObject, if_neg (nI_pos (by omega))]
  by_cases h : o < 5
  · rw [if_neg (pu_ncl 4 4 (by omega)), if_pos h]
  · rw [if_pos (pu_cl 4 4 (by omega)), if_neg h]
/-- the result of getting: 0 when there is something to get -/
def gt_res (o a p : Nat) : Nat := if ¬ o < 5 then 4 else if ¬ at_ok o a then 9 else if p = 1 ∧ ¬ (o = 4 ∧ a = 2) then 13 else 0
theorem gt_4 {o a p : Nat} (h : ¬ o < 5) : gt_res o a p = 4 := by unfold gt_res; exact if_pos h
theorem gt_9 {o a p : Nat} (h : o < 5) (h2 : ¬ at_ok o a) : gt_res o a p = 9 := by unfold gt_res; rw [if_neg (show ¬ ¬ o < 5 from fun q => q h)]; exact if_pos h2
theorem gt_t {o a p : Nat} (h : o < 5) (h2 : at_ok o a) : gt_res o a p = if p = 1 ∧ ¬ (o = 4 ∧ a = 2) then 13 else 0 := by unfold gt_res; rw [if_neg (show ¬ ¬ o < 5 from fun q => q h)]; exact if_neg (fun q => q h2)
theorem gt_0 {o a : Nat} (h : o < 5) (h2 : at_ok o a) : gt_res o a 0 = 0 := by rw [gt_t h h2]; exact if_neg (fun q => absurd q.1 (by decide))
theorem gt_1 {o a : Nat} (h : o < 5) (h2 : at_ok o a) (h3 : o = 4 ∧ a = 2) : gt_res o a 1 = 0 := by rw [gt_t h h2]; exact if_neg (fun q => q.2 h3)
theorem gt_13 {o a : Nat} (h : o < 5) (h2 : at_ok o a) (h3 : ¬ (o = 4 ∧ a = 2)) : gt_res o a 1 = 13 := by rw [gt_t h h2]; exact if_pos ⟨rfl, h3⟩
theorem gt_lt (o a p : Nat) : gt_res o a p < 256 := by
  by_cases h : o < 5
  · by_cases h2 : at_ok o a
    · rw [gt_t h h2]
      split <;> decide
    · rw [gt_9 h h2]
      decide
  · rw [gt_4 h]
    decide
theorem gt_c {F o a p : Nat} (ho : o < 256) (ha : a < 256) (hp : p = 0 ∨ p = 1) : mm_Mt_resultOfGetting F (nI o) (nI a) (nI p) = some (nI (gt_res o a p)) := by
  rw [mq_Mt_resultOfGetting, pu_b (ob_c ho), pu_z1]
  by_cases h5 : o < 5
  case neg => rw [if_neg h5, gt_4 h5]; rfl
  rw [if_pos h5, pu_b (at_c h5 ha), pu_z1]
  by_cases hat : at_ok o a
  case neg => rw [if_neg hat, gt_9 h5 hat]; rfl
  rw [if_pos hat]
  rcases hp with rfl | rfl
  · rw [if_pos nI_0, gt_0 h5 hat, nI_0]
  · rw [if_neg (show ¬ nI 1 = 0 by decide +kernel)]
    by_cases o4 : o = 4
    · rw [if_pos (pu_eq 4 4 o4)]
      by_cases a2 : a = 2
      · rw [if_pos (pu_eq 2 2 a2), gt_1 h5 hat ⟨o4, a2⟩, nI_0]
      · rw [if_neg (pu_ne 2 2 a2), gt_13 h5 hat (fun q => a2 q.2)]; rfl
    · rw [if_neg (pu_ne 4 4 o4), gt_13 h5 hat (fun q => o4 q.1)]; rfl
theorem vl_B {o a : Nat} {now lo hi : Int32} {R : Nat → Int32} {C : List Nat} {E : List (List Int32)} {capN perN : Nat} (ho : o ≤ 4) (hw : ab_wf C E capN perN) : pu_B (vl_val o a now R C E capN perN lo hi) := by
  obtain ⟨w1, w2, w3, w4, w5, w6, w7, w8, w9⟩ := hw
  have hw : ∀ (l : List Int32) (j : Nat), pu_B (vl_w j l) := by
    intro l
    induction l with
    | nil => intro j x hx; cases hx
    | cons y r ih =>
      intro j x hx
      have hx : x ∈ ((if j = 0 then 6 else 5) :: pu_by y) ++ vl_w (j + 1) r := hx
      rcases List.mem_append.mp hx with q | q
      · rcases List.mem_cons.mp q with rfl | q
        · split <;> decide
        · exact pu_by_lt y x q
      · exact ih _ x q
  have hes : ∀ E : List (List Int32), pu_B (vl_es C.length lo hi E) := by
    intro E
    induction E with
    | nil => intro x hx; cases hx
    | cons e r ih =>
      intro x hx
      have hx : x ∈ (if vl_in lo hi (e.headD 0) then vl_ent C.length e else []) ++ vl_es C.length lo hi r := hx
      rcases List.mem_append.mp hx with q | q
      · split at q
        · have q : x ∈ 2 :: (C.length + 1) :: vl_w 0 e := q
          rcases List.mem_cons.mp q with rfl | q
          · decide
          · rcases List.mem_cons.mp q with rfl | q
            · omega
            · exact hw e 0 x q
        · cases q
      · exact ih x q
  have hcn := vl_cn_le lo hi E
  intro x hx
  unfold vl_val at hx
  split at hx
  · simp only [List.mem_cons, List.not_mem_nil, or_false] at hx
    omega
  split at hx
  · rcases List.mem_cons.mp hx with rfl | q
    · decide
    · exact pu_by_lt _ x q
  split at hx
  · split at hx
    · rcases List.mem_cons.mp hx with rfl | q
      · decide
      · exact pu_by_lt _ x q
    · simp only [List.mem_cons, List.not_mem_nil, or_false] at hx
      omega
  split at hx
  · rcases List.mem_cons.mp hx with rfl | q
    · decide
    · rcases List.mem_cons.mp q with rfl | q
      · omega
      · exact hes E x q
  split at hx
  · rcases List.mem_cons.mp hx with rfl | q
    · decide
    · rcases List.mem_cons.mp q with rfl | q
      · omega
      · obtain ⟨c, hc, hxc⟩ := List.mem_flatMap.mp q
        have := w3 c hc
        simp only [List.mem_cons, List.not_mem_nil, or_false] at hxc
        omega
  · rcases List.mem_cons.mp hx with rfl | q
    · decide
    · exact pu_by_lt _ x q
theorem vl_len {o a : Nat} {now lo hi : Int32} {R : Nat → Int32} {C : List Nat} {E : List (List Int32)} {capN perN : Nat} (hw : ab_wf C E capN perN) : (vl_val o a now R C E capN perN lo hi).length ≤ 266 := by
  obtain ⟨w1, w2, w3, w4, w5, w6, w7, w8, w9⟩ := hw
  have hl := vl_es_len C.length lo hi E w8
  have hl2 : (5 * C.length + 7) * E.length ≤ 22 * 12 := Nat.mul_le_mul (by omega) (by omega)
  have hf := vl_fm_len C
  unfold vl_val
  split
  · simp
  split
  · simp [pu_by_len]
  split
  · split <;> simp [pu_by_len]
  split
  · simp only [List.length_cons]; omega
  split
  · simp only [List.length_cons]; omega
  · simp [pu_by_len]
/-- the long value that waits: on the class's side and on the reference's -/
def lv_rel (bs vsz : Int32) (vf : Nat → Int32) (msz ms : Int32) (mb : Nat → Int32) : Prop :=
  bs = 0 ∧ msz = 0 ∨ ∃ (v : List Nat) (k : Nat), rw_is 266 vsz vf v ∧ fb mb v ∧ pu_B v ∧ bs = nI k ∧ ms = nI k ∧ msz = nI v.length ∧ 1 ≤ k ∧ 40 * k < v.length
theorem gl_77 {F n : Nat} {sz sent m : Int32} {made : Nat → Int32} {v : List Nat} (hn : n = v.length) (hv : fb made v) (hv2 : v.length ≤ 266) :
    ∀ (k i : Nat) (mb : Nat → Int32), i ≤ n → n - i < k → fb mb (v.take i) → ∃ mb', mm_Mo_get_L77 F k (nI n) (nI i) sz sent m mb made = mm_Mo_get_L77 F 1 (nI n) (nI n) sz sent m mb' made ∧ fb mb' v := by
  intro k
  induction k with
  | zero => intro i mb _ h; omega
  | succ k ih =>
    intro i mb hi hk hb
    by_cases hin : n ≤ i
    · have : i = n := by omega
      subst this
      refine ⟨mb, ?_, ?_⟩
      · rw [mq_Mo_get_L77, mq_Mo_get_L77, if_pos (nI_le (Nat.le_refl _) (by omega)), if_pos (nI_le (Nat.le_refl _) (by omega))]
      · rw [hn, List.take_length] at hb
        exact hb
    · have hlt : i < v.length := by omega
      rw [mq_Mo_get_L77, if_neg (nI_ge (by omega) (by omega)), if_neg (nI_in (by omega) (by omega)), if_neg (nI_in (by omega) (by omega)), nI_clamp (by omega), hv i _ (List.getElem?_eq_getElem hlt), nI_1]
      refine ih (i + 1) _ (by omega) (by omega) ?_
      have h1 := hb.push v[i]
      rw [List.length_take, Nat.min_eq_left (by omega)] at h1
      rw [List.take_succ_eq_append_getElem hlt]
      exact h1
theorem gl_139 {F n : Nat} {sz sent : Int32} {mb : Nat → Int32} {v : List Nat} (hn : n = v.length) (hv : fb mb v) (hB : pu_B v) (hv2 : v.length ≤ 266) :
    ∀ (k i : Nat) (m : Int32) (f : Nat → Int32) (l : List Nat), i ≤ n → n - i < k → rw_is 300 m f l → l.length + (n - i) ≤ 300 →
      ∃ r, mm_Mo_get_L139 F k (nI n) (nI i) sz sent m mb f = some r ∧ r.1 = sz ∧ r.2.1 = sent ∧ r.2.2.2.1 = mb ∧ rw_is 300 r.2.2.1 r.2.2.2.2 (l ++ v.drop i) := by
  intro k
  induction k with
  | zero => intro i m f l _ h; omega
  | succ k ih =>
    intro i m f l hi hk h hl
    rw [mq_Mo_get_L139]
    by_cases hin : n ≤ i
    · rw [if_pos (nI_le hin (by omega)), List.drop_eq_nil_of_le (by omega), List.append_nil]
      exact ⟨_, rfl, rfl, rfl, rfl, h⟩
    · have hlt : i < v.length := by omega
      obtain ⟨r1, e1, h1⟩ := pu_emit (F := F) (x := v[i]) h (by omega) (hB _ (List.getElem_mem hlt))
      rw [if_neg (nI_ge (by omega) (by omega)), if_neg (nI_in (by omega) (by omega)), nI_clamp (by omega), hv i _ (List.getElem?_eq_getElem hlt), pu_b e1, nI_1]
      obtain ⟨r2, e2, q1, q2, q3, h2⟩ := ih (i + 1) r1.1 r1.2 _ (by omega) (by omega) h1 (by simp; omega)
      refine ⟨r2, e2, q1, q2, q3, ?_⟩
      rw [List.drop_eq_getElem_cons hlt]
      rw [List.append_assoc] at h2
      exact h2
theorem gt_both {F o a p : Nat} {now lo hi cc cap per first size mcc mcap mper msize vsz rsz psz ms m : Int32} {reg cols ring mreg mcols times values rf vf pf mb lf made R : Nat → Int32} {C : List Nat} {E : List (List Int32)} {capN perN : Nat} {rq : List Nat}
    (hF : 300 < F) (ho : rq[2]? = some o) (ha : rq[3]? = some a) (hob : o < 256) (hab : a < 256) (hp : p = 0 ∧ lo = 0 ∧ hi = -1 ∨ p = 1 ∧ mm_Mo_intAt F 5 lf = some lo ∧ mm_Mo_intAt F 9 lf = some hi)
    (hc : pc_is cc cap per first size cols ring C E capN perN) (hm : pm_is mcc mcap mper msize mcols times values C E capN perN) (hrc : rg_c reg R) (hrm : rg_m mreg R) (hrq : rw_is 60 rsz rf rq) (hps : rw_is 80 psz pf []) :
    ∃ rc rm out, mm_Cn_answerGet F 80 (nI p) lo hi 0 now reg cc cap per first size cols ring rsz rf vsz vf psz pf = some rc ∧ mm_Mo_get F (nI o) (nI a) (nI p) now mcap mper mcc msize 0 ms m mreg mcols times values mb lf made = some rm ∧
      rw_is 80 rc.2.2.2.1 rc.2.2.2.2 out ∧ rw_is 300 rm.2.2.1 rm.2.2.2.2 out ∧ pu_B out ∧ 1 ≤ out.length ∧ out.length ≤ 44 ∧ lv_rel rc.1 rc.2.1 rc.2.2.1 rm.1 rm.2.1 rm.2.2.2.1 := by
  have hp01 : p = 0 ∨ p = 1 := by rcases hp with ⟨h, -⟩ | ⟨h, -⟩ <;> omega
  have hpI : nI p = 0 ∧ lo = 0 ∧ hi = -1 ∨ nI p = 1 ∧ mm_Mo_intAt F 5 lf = some lo ∧ mm_Mo_intAt F 9 lf = some hi := by
    rcases hp with ⟨h, q⟩ | ⟨h, q⟩
    · exact Or.inl ⟨by rw [h]; exact nI_0, q⟩
    · exact Or.inr ⟨by rw [h]; rfl, q⟩
  have hJ : mm_Mo_get F (nI o) (nI a) (nI p) now mcap mper mcc msize 0 ms m mreg mcols times values mb lf made = mm_Mo_get_J42 F (nI o) (nI a) (nI p) (nI (gt_res o a p)) now mcap mper mcc msize 0 ms m mreg mcols times values mb lf made := by
    rw [mq_Mo_get]
    by_cases h5 : o < 5
    case neg => rw [if_neg (pu_nle 4 4 (by omega)), gt_4 h5]; rfl
    rw [if_pos (pu_le 4 4 (by omega)), pu_b (at_m h5 hab), pu_z1]
    by_cases hat : at_ok o a
    case neg => rw [if_neg hat, gt_9 h5 hat]; rfl
    rw [if_pos hat]
    rcases hp01 with rfl | rfl
    · rw [if_pos nI_0, gt_0 h5 hat, nI_0]; rfl
    · rw [if_neg (show ¬ nI 1 = 0 by decide +kernel)]
      by_cases o4 : o = 4
      · rw [if_pos (pu_eq 4 4 o4)]
        by_cases a2 : a = 2
        · rw [if_pos (pu_eq 2 2 a2), gt_1 h5 hat ⟨o4, a2⟩, nI_0]; rfl
        · rw [if_neg (pu_ne 2 2 a2), gt_13 h5 hat (fun q => a2 q.2)]; rfl
      · rw [if_neg (pu_ne 4 4 o4), gt_13 h5 hat (fun q => o4 q.1)]; rfl
  rw [hJ, mq_Cn_answerGet, pu_b (show mm_Rw_at F 60 2 rsz rf = some (nI o) from pu_at_in (i := 2) hrq ho), pu_b (show mm_Rw_at F 60 3 rsz rf = some (nI a) from pu_at_in (i := 3) hrq ha), pu_b (gt_c hob hab hp01), mq_Mo_get_J42]
  have hres : gt_res o a p < 256 := gt_lt o a p
  by_cases h0 : gt_res o a p = 0
  case neg =>
    obtain ⟨r1, e1, h1⟩ := pu_addFailure (F := F) (a := gt_res o a p) hps (by simp)
    obtain ⟨r2, e2, h2⟩ := pu_refuse (F := F) (m := m) (f := made) hres
    rw [if_neg (nI_ne0 (by omega) (by omega)), pu_b e1, if_neg (nI_nle (by omega) (by omega)), pu_b e2]
    refine ⟨_, _, _, rfl, rfl, h1, h2, ?_, by simp, by simp, Or.inl ⟨rfl, rfl⟩⟩
    intro x hx
    have hx : x ∈ [196, 1, 1, gt_res o a p] := hx
    simp only [List.mem_cons, List.not_mem_nil, or_false] at hx
    omega
  have ho5 : o < 5 := by
    by_cases h5 : o < 5
    · exact h5
    · rw [gt_4 h5] at h0; omega
  have hat : at_ok o a := by
    by_cases hq : at_ok o a
    · exact hq
    · rw [gt_9 ho5 hq] at h0; omega
  have hVB := vl_B (o := o) (a := a) (now := now) (lo := lo) (hi := hi) (R := R) (by omega) hc.1
  have hVL := vl_len (o := o) (a := a) (now := now) (lo := lo) (hi := hi) (R := R) hc.1
  obtain ⟨r1, e1, h1⟩ := pw_write (F := F) (now := now) (lo := lo) (hi := hi) (by omega) (by omega) hab hat hc hrc (pu_empty (N := 266) vf (by decide))
  obtain ⟨r2, e2, h2⟩ := pw_emit (F := F) (now := now) (m := m) (f := made) (by omega) (by omega) hab hat hm hrm hpI
  generalize vl_val o a now R C E capN perN lo hi = v at *
  obtain ⟨mb', e3, h3⟩ := gl_77 (F := F) (sz := 0) (sent := ms) (m := nI v.length) rfl h2.2.2.2 hVL F 0 mb (by omega) (by omega) (fb_nil _)
  rw [nI_0] at e3
  rw [h0, if_pos nI_0, pu_b (show mm_Rw_drop F vsz = some 0 from rfl), pu_b e1, if_pos (show nI 0 ≤ 0 by decide +kernel), pu_b e2, h2.1, e3, mq_Mo_get_L77, if_pos (nI_le (Nat.le_refl _) (by omega)), h1.1]
  by_cases h40 : v.length ≤ 40
  · obtain ⟨r4, e4, h4⟩ := pu_addTwo (F := F) (a := 196) (b := 1) hps (by simp)
    obtain ⟨r5, e5, h5⟩ := pu_add (F := F) (x := 0) h4 (by simp)
    obtain ⟨r6, e6, h6⟩ := pu_addPart (F := F) (a := 0) (c := v.length) h5 h1 (by omega) (by simp; omega) (by omega)
    rw [nI_0, h1.1] at e6
    obtain ⟨r7, e7, h7⟩ := pu_say (F := F) (m := nI v.length) (f := r2.2) (a := 196) (b := 1) (by decide) (by decide)
    obtain ⟨r8, e8, h8⟩ := pu_emit (F := F) (x := 0) h7 (by simp) (by decide)
    obtain ⟨r9, e9, q1, q2, q3, h9⟩ := gl_139 (F := F) (sz := 0) (sent := 0) rfl h3 hVB hVL F 0 r8.1 r8.2 _ (by omega) (by omega) h8 (by simp; omega)
    rw [nI_0] at e9
    rw [if_pos (pu_le 40 40 h40), pu_b (show mm_Cn_addTwo F 80 196 1 psz pf = some r4 from e4), pu_b (show mm_Rw_add F 80 0 r4.1 r4.2 = some r5 from e5), pu_b e6, if_pos (pu_le 40 40 h40), pu_b (show mm_Mo_say F 196 1 (nI v.length) r2.2 = some r7 from e7), pu_b (show mm_Mo_emit F 0 r7.1 r7.2 = some r8 from e8)]
    rw [List.drop_zero] at h9 h6
    rw [List.take_of_length_le (Nat.le_refl _)] at h6
    refine ⟨_, r9, [196, 1, 0] ++ v, rfl, e9, h6, h9, ?_, by simp, by simp; omega, Or.inl ⟨rfl, q1⟩⟩
    intro x hx
    rcases List.mem_append.mp hx with q | q
    · simp only [List.mem_cons, List.not_mem_nil, or_false] at q
      omega
    · exact hVB x q
  · obtain ⟨r4, e4, q4, h4⟩ := bl_send (F := F) (k := 1) (bs := 0) hF hps (by decide) h1 (by omega) (by omega)
    obtain ⟨r5, e5, q5, q6, h5⟩ := bl_block (F := F) (k := 1) (sz := 0) (m := nI v.length) (f := r2.2) hF h3 hVB hVL (by omega) (by omega)
    rw [h1.1] at e4
    rw [if_neg (pu_nle 40 40 (by omega)), pu_b (show mm_Cn_sendBlock F 80 1 0 (nI v.length) r1.2 psz pf = some r4 from e4), if_neg (pu_nle 40 40 (by omega)), pu_b (show mm_Mo_block F (nI v.length) 0 0 (nI v.length) mb' r2.2 = some r5 from e5)]
    rw [if_neg (show ¬ v.length - 40 * (1 - 1) ≤ 40 by omega)] at q4 q5
    refine ⟨_, _, bl_out v 1, rfl, rfl, h4, h5, ?_, by unfold bl_out; simp, by unfold bl_out; simp; omega, Or.inr ⟨v, 1, h1.1 ▸ h1, h3, hVB, q4, q6, q5, by omega, by omega⟩⟩
    intro x hx
    unfold bl_out at hx
    rcases List.mem_append.mp hx with q | q
    · rw [if_neg (show ¬ v.length - 40 * (1 - 1) ≤ 40 by omega)] at q
      simp only [List.mem_cons, List.not_mem_nil, or_false] at q
      omega
    · exact hVB x (List.mem_of_mem_drop (List.mem_of_mem_take q))
