/-! Setting and acting, on both sides at once -/
/-- the payload lies in the reference's line from 6 on -/
def ln_is (lf : Nat → Int32) (rq : List Nat) : Prop := ∀ (i x : Nat), rq[i]? = some x → lf (6 + i) = nI x
theorem pl_at {F i x : Nat} {lf : Nat → Int32} {rq : List Nat} (h : ln_is lf rq) (hx : rq[i]? = some x) (hl : rq.length ≤ 60) : mm_Mo_at F (nI i) lf = some (nI x) := by
  have hi := (List.getElem?_eq_some_iff.mp hx).1
  have e6 : (6 : Int32) + nI i = nI (6 + i) := nI_add 6 i
  rw [mq_Mo_at, e6, if_neg (nI_in (by omega) (by omega)), nI_clamp (by omega), h i x hx]
theorem pl_at' {F i : Nat} (lf : Nat → Int32) (hi : i < 70) : ∃ z, mm_Mo_at F (nI i) lf = some z := by
  have e6 : (6 : Int32) + nI i = nI (6 + i) := nI_add 6 i
  rw [mq_Mo_at, e6, if_neg (nI_in (by omega) (by omega))]
  exact ⟨_, rfl⟩
theorem pl_int {F i a b c d : Nat} {lf : Nat → Int32} {rq : List Nat} (h : ln_is lf rq) (hl : rq.length ≤ 60) (ha : rq[i]? = some a) (hb : rq[i + 1]? = some b) (hc : rq[i + 2]? = some c) (hd : rq[i + 3]? = some d) : mm_Mo_intAt F (nI i) lf = some (pu_int a b c d) := by
  have e1 : nI i + 1 = nI (i + 1) := nI_add _ 1
  have e2 : nI i + 2 = nI (i + 2) := nI_add _ 2
  have e3 : nI i + 3 = nI (i + 3) := nI_add _ 3
  rw [mq_Mo_intAt, pu_b (pl_at h ha hl), e1, pu_b (pl_at h hb hl), e2, pu_b (pl_at h hc hl), e3, pu_b (pl_at h hd hl)]
  rfl
/-- the meter: clock, registers, profile, on both sides -/
def me_rel (now : Int32) (reg : Nat → Int32) (cc cap per first size : Int32) (cols ring : Nat → Int32) (mtime mcap mper mcc msize : Int32) (mreg mcols times values : Nat → Int32) : Prop :=
  ∃ (nowN : Nat) (R : Nat → Int32) (C : List Nat) (E : List (List Int32)) (capN perN : Nat), now = nI nowN ∧ nowN < 2 ^ 31 ∧ mtime = now ∧ rg_c reg R ∧ rg_m mreg R ∧ pc_is cc cap per first size cols ring C E capN perN ∧ pm_is mcc mcap mper msize mcols times values C E capN perN
theorem rg_c.set {reg R : Nat → Int32} (h : rg_c reg R) {o : Nat} (h1 : 1 ≤ o) (v : Int32) : rg_c (upd reg (o - 1) v) (upd R o v) := by
  intro q q1 q3
  by_cases hq : q = o
  · subst hq; rw [pk_us, pk_us]
  · rw [pk_un (by omega), pk_un hq]; exact h q q1 q3
theorem rg_m.set {reg R : Nat → Int32} (h : rg_m reg R) {o : Nat} (v : Int32) : rg_m (upd reg o v) (upd R o v) := by
  intro q q1 q3
  by_cases hq : q = o
  · subst hq; rw [pk_us, pk_us]
  · rw [pk_un hq, pk_un hq]; exact h q q1 q3
theorem pc_is.empty {cc cap per first size : Int32} {cols ring : Nat → Int32} {C : List Nat} {E : List (List Int32)} {capN perN : Nat} (h : pc_is cc cap per first size cols ring C E capN perN) : pc_is cc cap per 0 0 cols ring C [] capN perN := by
  obtain ⟨⟨w1, w2, w3, w4, w5, w6, w7, w8, w9⟩, hcc, hcap, hper, hs, hcols, fN, hf, hfN, hr⟩ := h
  exact ⟨⟨w1, w2, w3, w4, w5, w6, Nat.zero_le _, fun _ he => absurd he List.not_mem_nil, fun _ he => absurd he List.not_mem_nil⟩, hcc, hcap, hper, nI_0.symm, hcols, 0, nI_0.symm, by decide, fun i e k x hi => by simp at hi⟩
theorem pm_is.empty {cc cap per size : Int32} {cols times values : Nat → Int32} {C : List Nat} {E : List (List Int32)} {capN perN : Nat} (h : pm_is cc cap per size cols times values C E capN perN) : pm_is cc cap per 0 cols times values C [] capN perN := by
  obtain ⟨⟨w1, w2, w3, w4, w5, w6, w7, w8, w9⟩, hcc, hcap, hper, hs, hcols, htv⟩ := h
  exact ⟨⟨w1, w2, w3, w4, w5, w6, Nat.zero_le _, fun _ he => absurd he List.not_mem_nil, fun _ he => absurd he List.not_mem_nil⟩, hcc, hcap, hper, nI_0.symm, hcols, fun i e hi => by simp at hi⟩
abbrev st_ok (o a : Nat) : Prop := if o = 4 then a = 3 ∨ a = 4 ∨ a = 8 else a = 2
theorem st_c0 : ∀ o, o < 5 → ∀ a, a < 256 → mm_Mt_isSettable 0 (nI o) (nI a) = some (if st_ok o a then 1 else 0) := by decide +kernel
theorem st_c {F o a : Nat} (ho : o < 5) (ha : a < 256) : mm_Mt_isSettable F (nI o) (nI a) = some (if st_ok o a then 1 else 0) := st_c0 o ho a ha
theorem rg_is {F o : Nat} (ho : o < 256) : mm_Mt_isRegister F (nI o) = some (if 1 ≤ o ∧ o ≤ 3 then 1 else 0) := by
  rw [mq_Mt_isRegister]
  by_cases h1 : 1 ≤ o
  · rw [if_neg (pu_nlt 1 1 h1)]
    by_cases h3 : o ≤ 3
    · rw [if_neg (pu_ncl 3 3 h3), if_pos ⟨h1, h3⟩]
    · rw [if_pos (pu_cl 3 3 (by omega)), if_neg (fun q => h3 q.2)]
  · rw [if_pos (pu_lt 1 1 (by omega)), if_neg (fun q => h1 q.1)]
theorem rg_im {F o : Nat} (ho : o < 256) : mm_Mo_isRegister F (nI o) = some (if 1 ≤ o ∧ o ≤ 3 then 1 else 0) := by
  rw [mq_Mo_isRegister]
  by_cases h1 : 1 ≤ o
  · rw [if_neg (pu_nlt 1 1 h1)]
    by_cases h3 : o ≤ 3
    · rw [if_neg (pu_ncl 3 3 h3), if_pos ⟨h1, h3⟩]
    · rw [if_pos (pu_cl 3 3 (by omega)), if_neg (fun q => h3 q.2)]
  · rw [if_pos (pu_lt 1 1 (by omega)), if_neg (fun q => h1 q.1)]
/-! columns -/
theorem cq_1 {F num : Nat} {rsz mcc msize : Int32} {rf lf mcols : Nat → Int32} {rq : List Nat} (hB : pu_B rq) (hrq : rw_is 60 rsz rf rq) (hln : ln_is lf rq) (hl : rq.length = 5 + 2 * num) (hn : num ≤ 3) :
    ∀ (k i : Nat) (seen : Int32), i ≤ num → num - i < k →
      (mm_Pf_hasColumns_L43 F 60 k (nI num) seen (nI i) rsz rf = some 1 ∧ mm_Mo_setColumns_L56 F k (nI num) seen (nI i) mcc msize mcols lf = mm_Mo_setColumns_L127 F F (nI num) 0 mcc msize mcols lf ∧ ∀ j, i ≤ j → j < num → ∃ c, rq[6 + 2 * j]? = some c ∧ 1 ≤ c ∧ c ≤ 3) ∨
      (mm_Pf_hasColumns_L43 F 60 k (nI num) seen (nI i) rsz rf = some 0 ∧ mm_Mo_setColumns_L56 F k (nI num) seen (nI i) mcc msize mcols lf = some (12, mcc, msize, mcols)) := by
  intro k
  induction k with
  | zero => intro i seen _ h; omega
  | succ k ih =>
    intro i seen hi hk
    have h60 := hrq.2.1
    rw [mq_Pf_hasColumns_L43, mq_Mo_setColumns_L56]
    by_cases hin : num ≤ i
    · rw [if_pos (nI_le hin (by omega)), if_pos (nI_le hin (by omega))]
      exact Or.inl ⟨rfl, rfl, fun j h1 h2 => by omega⟩
    · obtain ⟨c, hc⟩ := pu_get (l := rq) (i := 6 + 2 * i) (by omega)
      obtain ⟨t, ht⟩ := pu_get (l := rq) (i := 5 + 2 * i) (by omega)
      have hcb := hB c (List.mem_of_getElem? hc)
      have htb := hB t (List.mem_of_getElem? ht)
      have e2 : (2 : Int32) * nI i = nI (2 * i) := pk_mul 2 i
      have e6 : (6 : Int32) + nI (2 * i) = nI (6 + 2 * i) := nI_add 6 _
      have e5 : (5 : Int32) + nI (2 * i) = nI (5 + 2 * i) := nI_add 5 _
      rw [if_neg (nI_ge (by omega) (by omega)), if_neg (nI_ge (by omega) (by omega)), e2, e6, e5, pu_b (pu_at_in hrq hc), pu_b (pu_at_in hrq ht), pu_b (pl_at hln hc h60), pu_b (pl_at hln ht h60)]
      by_cases q1 : t = 17
      case neg => rw [if_neg (pu_ne 17 17 q1), if_neg (pu_ne 17 17 q1)]; exact Or.inr ⟨rfl, rfl⟩
      rw [if_pos (pu_eq 17 17 q1), if_pos (pu_eq 17 17 q1), pu_b (rg_is hcb), pu_b (rg_im hcb), pu_z1, pu_z1]
      by_cases q2 : 1 ≤ c ∧ c ≤ 3
      case neg => rw [if_neg q2, if_neg q2]; exact Or.inr ⟨rfl, rfl⟩
      rw [if_pos q2, if_pos q2]
      by_cases q3 : ((seen >>> (nI c &&& 31)) &&& 1) = 1
      · rw [if_pos q3, if_pos q3]; exact Or.inr ⟨rfl, rfl⟩
      rw [if_neg q3, if_neg q3, nI_1]
      rcases ih (i + 1) (seen ||| (1 <<< (nI c &&& 31))) (by omega) (by omega) with ⟨w1, w2, w3⟩ | ⟨w1, w2⟩
      · refine Or.inl ⟨w1, w2, fun j h1 h2 => ?_⟩
        by_cases hji : j = i
        · subst hji; exact ⟨c, hc, q2⟩
        · exact w3 j (by omega) h2
      · exact Or.inr ⟨w1, w2⟩
theorem cq_2 {F num : Nat} {rsz first size : Int32} {rf : Nat → Int32} {rq C : List Nat} (hrq : rw_is 60 rsz rf rq) (hn : num ≤ 3) (hC : C.length = num) (hCr : ∀ j c, C[j]? = some c → rq[6 + 2 * j]? = some c) :
    ∀ (k i : Nat) (cols : Nat → Int32), i ≤ num → num - i < k → fb cols (C.take i) → ∃ cols', mm_Pf_takeColumns_L20 F 60 k (nI i) (nI num) first size cols rsz rf = some (1, nI num, 0, 0, cols') ∧ fb cols' C := by
  intro k
  induction k with
  | zero => intro i cols _ h; omega
  | succ k ih =>
    intro i cols hi hk hb
    rw [mq_Pf_takeColumns_L20]
    by_cases hin : num ≤ i
    · rw [if_pos (nI_le hin (by omega)), pu_b (show mm_Pf_forget F first size = some (0, 0) from rfl)]
      rw [List.take_of_length_le (by omega)] at hb
      exact ⟨cols, rfl, hb⟩
    · have hlt : i < C.length := by omega
      have e2 : (2 : Int32) * nI i = nI (2 * i) := pk_mul 2 i
      have e6 : (6 : Int32) + nI (2 * i) = nI (6 + 2 * i) := nI_add 6 _
      rw [if_neg (nI_ge (by omega) (by omega)), e2, e6, pu_b (pu_at_in hrq (hCr i _ (List.getElem?_eq_getElem hlt))), if_neg (nI_in (by omega) (by omega)), nI_clamp (by omega), nI_1]
      refine ih (i + 1) _ (by omega) (by omega) ?_
      have h1 := hb.push C[i]
      rw [List.length_take, Nat.min_eq_left (by omega)] at h1
      rw [List.take_succ_eq_append_getElem hlt]
      exact h1
theorem cq_3 {F num : Nat} {mcc msize : Int32} {lf : Nat → Int32} {rq C : List Nat} (hln : ln_is lf rq) (hl : rq.length ≤ 60) (hn : num ≤ 3) (hC : C.length = num) (hCr : ∀ j c, C[j]? = some c → rq[6 + 2 * j]? = some c) :
    ∀ (k i : Nat) (cols : Nat → Int32), i ≤ num → num - i < k → fb cols (C.take i) → ∃ cols', mm_Mo_setColumns_L127 F k (nI num) (nI i) mcc msize cols lf = some (0, nI num, 0, cols') ∧ fb cols' C := by
  intro k
  induction k with
  | zero => intro i cols _ h; omega
  | succ k ih =>
    intro i cols hi hk hb
    rw [mq_Mo_setColumns_L127]
    by_cases hin : num ≤ i
    · rw [if_pos (nI_le hin (by omega))]
      rw [List.take_of_length_le (by omega)] at hb
      exact ⟨cols, rfl, hb⟩
    · have hlt : i < C.length := by omega
      have e2 : (2 : Int32) * nI i = nI (2 * i) := pk_mul 2 i
      have e6 : (6 : Int32) + nI (2 * i) = nI (6 + 2 * i) := nI_add 6 _
      rw [if_neg (nI_ge (by omega) (by omega)), e2, e6, pu_b (pl_at hln (hCr i _ (List.getElem?_eq_getElem hlt)) hl), if_neg (nI_in (by omega) (by omega)), nI_clamp (by omega), nI_1]
      refine ih (i + 1) _ (by omega) (by omega) ?_
      have h1 := hb.push C[i]
      rw [List.length_take, Nat.min_eq_left (by omega)] at h1
      rw [List.take_succ_eq_append_getElem hlt]
      exact h1
/-- the columns of a request -/
theorem cq_list {num : Nat} {rq : List Nat} (h : ∀ j, 0 ≤ j → j < num → ∃ c, rq[6 + 2 * j]? = some c ∧ 1 ≤ c ∧ c ≤ 3) : ∃ C : List Nat, C.length = num ∧ (∀ c ∈ C, 1 ≤ c ∧ c ≤ 3) ∧ ∀ j c, C[j]? = some c → rq[6 + 2 * j]? = some c := by
  refine ⟨(List.range num).map (fun j => (rq[6 + 2 * j]?).getD 0), by simp, fun c hc => ?_, fun j c hc => ?_⟩
  · obtain ⟨j, hj, rfl⟩ := List.mem_map.mp hc
    obtain ⟨c, h1, h2⟩ := h j (Nat.zero_le _) (List.mem_range.mp hj)
    rw [h1]
    exact h2
  · rw [List.getElem?_map] at hc
    by_cases hj : j < num
    · obtain ⟨c', h1, h2⟩ := h j (Nat.zero_le _) hj
      rw [List.getElem?_range hj] at hc
      cases hc
      show rq[6 + 2 * j]? = some ((rq[6 + 2 * j]?).getD 0)
      rw [h1]
      rfl
    · rw [List.getElem?_eq_none (by simp; omega)] at hc
      cases hc
theorem cq_both {F : Nat} {cc cap per first size mcc mcap mper msize rsz : Int32} {cols ring mcols times values rf lf : Nat → Int32} {C : List Nat} {E : List (List Int32)} {capN perN : Nat} {rq : List Nat} (hF : 20 < F) (hB : pu_B rq) (hrq : rw_is 60 rsz rf rq) (hln : ln_is lf rq) (h3 : 3 ≤ rq.length)
    (hc : pc_is cc cap per first size cols ring C E capN perN) (hm : pm_is mcc mcap mper msize mcols times values C E capN perN) :
    ∃ rc rm, mm_Pf_takeColumns F 60 cc first size cols rsz rf = some rc ∧ mm_Mo_setColumns F (nI (rq.length - 3)) mcc msize mcols lf = some rm ∧
      (rc.1 = 0 ∧ rm.1 = 12 ∨ rc.1 = 1 ∧ rm.1 = 0) ∧ ∃ C' E', pc_is rc.2.1 cap per rc.2.2.1 rc.2.2.2.1 rc.2.2.2.2 ring C' E' capN perN ∧ pm_is rm.2.1 mcap mper rm.2.2.1 rm.2.2.2 times values C' E' capN perN := by
  have h60 := hrq.2.1
  rw [mq_Pf_takeColumns, mq_Pf_hasColumns, mq_Mo_setColumns]
  have fail : ∃ rc rm, some ((0 : Int32), cc, first, size, cols) = some rc ∧ some ((12 : Int32), mcc, msize, mcols) = some rm ∧
      (rc.1 = 0 ∧ rm.1 = 12 ∨ rc.1 = 1 ∧ rm.1 = 0) ∧ ∃ C' E', pc_is rc.2.1 cap per rc.2.2.1 rc.2.2.2.1 rc.2.2.2.2 ring C' E' capN perN ∧ pm_is rm.2.1 mcap mper rm.2.2.1 rm.2.2.2 times values C' E' capN perN :=
    ⟨_, _, rfl, rfl, Or.inl ⟨rfl, rfl⟩, C, E, hc, hm⟩
  by_cases h5 : 5 ≤ rq.length
  case neg =>
    rw [if_neg (pu_ncle 2 2 (by omega)), mq_Mo_setColumns_J14, if_pos (pu_lt 2 2 (by omega)), pu_b (show mm_Rw_at F 60 4 rsz rf = some (-1) from pu_at_out (i := 4) hrq (by omega) (by omega))]
    by_cases h4 : 4 ≤ rq.length
    · obtain ⟨t, ht⟩ := pu_get (l := rq) (i := 3) (by omega)
      rw [pu_b (show mm_Rw_at F 60 3 rsz rf = some (nI t) from pu_at_in (i := 3) hrq ht)]
      by_cases q1 : t = 1
      · rw [if_pos (pu_eq 1 1 q1), if_pos (by decide +kernel), pu_s, if_pos rfl]; exact fail
      · have := hB t (List.mem_of_getElem? ht)
        rw [if_neg (pu_ne 1 1 q1), pu_s, if_pos rfl]; exact fail
    · rw [pu_b (show mm_Rw_at F 60 3 rsz rf = some (-1) from pu_at_out (i := 3) hrq (by omega) (by omega)), if_neg (by decide +kernel), pu_s, if_pos rfl]; exact fail
  obtain ⟨t, ht⟩ := pu_get (l := rq) (i := 3) (by omega)
  obtain ⟨n, hn⟩ := pu_get (l := rq) (i := 4) (by omega)
  have htb := hB t (List.mem_of_getElem? ht)
  have hnb := hB n (List.mem_of_getElem? hn)
  rw [if_pos (pu_cle 2 2 (by omega)), pu_b (show mm_Mo_at F 4 lf = some (nI n) from pl_at (i := 4) hln hn h60), mq_Mo_setColumns_J14, if_neg (pu_nlt 2 2 (by omega)), pu_b (show mm_Rw_at F 60 4 rsz rf = some (nI n) from pu_at_in (i := 4) hrq hn), pu_b (show mm_Rw_at F 60 3 rsz rf = some (nI t) from pu_at_in (i := 3) hrq ht), pu_b (show mm_Mo_at F 3 lf = some (nI t) from pl_at (i := 3) hln ht h60)]
  by_cases q1 : t = 1
  case neg => rw [if_neg (pu_ne 1 1 q1), if_neg (pu_ne 1 1 q1), pu_s, if_pos rfl]; exact fail
  rw [if_pos (pu_eq 1 1 q1), if_pos (pu_eq 1 1 q1)]
  by_cases q2 : n < 1
  · rw [if_pos (pu_lt 1 1 q2), if_pos (pu_lt 1 1 q2), pu_s, if_pos rfl]; exact fail
  rw [if_neg (pu_nlt 1 1 (by omega)), if_neg (pu_nlt 1 1 (by omega))]
  by_cases q3 : 3 < n
  · rw [if_pos (pu_cl 3 3 q3), if_pos (pu_cl 3 3 q3), pu_s, if_pos rfl]; exact fail
  rw [if_neg (pu_ncl 3 3 (by omega)), if_neg (pu_ncl 3 3 (by omega))]
  have e2 : (2 : Int32) * nI n = nI (2 * n) := pk_mul 2 n
  have e5 : (5 : Int32) + nI (2 * n) = nI (5 + 2 * n) := nI_add 5 _
  have e22 : (2 : Int32) + nI (2 * n) = nI (2 + 2 * n) := nI_add 2 _
  rw [e2, e5, e22, hrq.1]
  by_cases q4 : rq.length = 5 + 2 * n
  case neg => rw [if_neg (pu_nn (by omega) (by omega) q4), if_neg (pu_nn (by omega) (by omega) (by omega)), pu_s, if_pos rfl]; exact fail
  rw [if_pos (congrArg nI q4), if_pos (congrArg nI (by omega)), ← hrq.1]
  rcases cq_1 (F := F) (mcc := mcc) (msize := msize) (mcols := mcols) hB hrq hln q4 (by omega) F 0 0 (by omega) (by omega) with ⟨w1, w2, w3⟩ | ⟨w1, w2⟩
  · rw [nI_0] at w1 w2
    obtain ⟨C', c1, c2, c3⟩ := cq_list w3
    obtain ⟨cols', e1, f1⟩ := cq_2 (F := F) (first := first) (size := size) hrq (by omega) c1 c3 F 0 cols (by omega) (by omega) (fb_nil _)
    obtain ⟨mcols', e3, f3⟩ := cq_3 (F := F) (mcc := mcc) (msize := msize) hln h60 (by omega) c1 c3 F 0 mcols (by omega) (by omega) (fb_nil _)
    rw [nI_0] at e1 e3
    rw [w1, w2, pu_s, if_neg (by decide +kernel), pu_b (show mm_Rw_at F 60 4 rsz rf = some (nI n) from pu_at_in (i := 4) hrq hn), e1, e3]
    obtain ⟨⟨v1, v2, v3, v4, v5, v6, v7, v8, v9⟩, hcc, hcap, hper, hs, hcols, fN, hf, hfN, hr⟩ := hc
    obtain ⟨-, -, mcap', mper', -, -, -⟩ := hm
    have hw : ab_wf C' [] capN perN := ⟨by omega, by omega, c2, v4, v5, v6, Nat.zero_le _, fun _ he => absurd he List.not_mem_nil, fun _ he => absurd he List.not_mem_nil⟩
    exact ⟨_, _, rfl, rfl, Or.inr ⟨rfl, rfl⟩, C', [], ⟨hw, by rw [c1], hcap, hper, nI_0.symm, f1, 0, nI_0.symm, by decide, fun i e k x hi => by simp at hi⟩, ⟨hw, by rw [c1], mcap', mper', nI_0.symm, f3, fun i e hi => by simp at hi⟩⟩
  · rw [nI_0] at w1 w2
    rw [w1, w2, pu_s, if_pos rfl]; exact fail
