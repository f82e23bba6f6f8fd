/-! The encoded value of an attribute: one list of bytes on both sides -/
def vl_w : Nat → List Int32 → List Nat
  | _, [] => []
  | j, x :: r => ((if j = 0 then 6 else 5) :: pu_by x) ++ vl_w (j + 1) r
theorem pu_by_len (v : Int32) : (pu_by v).length = 4 := rfl
theorem vl_w_len : ∀ (l : List Int32) (j : Nat), (vl_w j l).length = 5 * l.length
  | [], _ => rfl
  | x :: r, j => by
    unfold vl_w
    rw [List.length_append, vl_w_len r, List.length_cons, List.length_cons, pu_by_len]
    omega
def vl_ent (n : Nat) (e : List Int32) : List Nat := 2 :: (n + 1) :: vl_w 0 e
abbrev vl_in (a b t : Int32) : Prop := ¬ a < 0 ∧ ¬ t < a ∧ (b < 0 ∨ ¬ b < t)
def vl_es (n : Nat) (a b : Int32) : List (List Int32) → List Nat
  | [] => []
  | e :: r => (if vl_in a b (e.headD 0) then vl_ent n e else []) ++ vl_es n a b r
def vl_cn (a b : Int32) : List (List Int32) → Nat
  | [] => 0
  | e :: r => (if vl_in a b (e.headD 0) then 1 else 0) + vl_cn a b r
theorem pe_67 {F N st n : Nat} {cc : Int32} {ring : Nat → Int32} {e : List Int32} (hcc : cc = nI n) (hn : n ≤ 3) (hst : st + 4 ≤ 48) (he : e.length = n + 1) (hr : ∀ (k : Nat) (x : Int32), e[k]? = some x → ring (st + k) = x) :
    ∀ (k j : Nat) (sz : Int32) (f : Nat → Int32) (l : List Nat), j ≤ n + 1 → n + 1 - j < k → rw_is N sz f l → l.length + 5 * (n + 1 - j) ≤ N →
      ∃ r, mm_Pf_writeEntries_L67 F N k (nI st) (nI j) cc ring sz f = some r ∧ rw_is N r.1 r.2 (l ++ vl_w j (e.drop j)) := by
  intro k
  induction k with
  | zero => intro j sz f l _ h; omega
  | succ k ih =>
    intro j sz f l hj hk h hl
    rw [mq_Pf_writeEntries_L67, hcc]
    by_cases hjn : n < j
    · rw [if_pos (nI_lt hjn (by omega)), List.drop_eq_nil_of_le (by omega), show vl_w j [] = [] from rfl, List.append_nil]
      exact ⟨_, rfl, h⟩
    · have hlt : j < e.length := by omega
      have hx := hr j e[j] (List.getElem?_eq_getElem hlt)
      have ed : vl_w j (e.drop j) = ((if j = 0 then 6 else 5) :: pu_by e[j]) ++ vl_w (j + 1) (e.drop (j + 1)) := by rw [List.drop_eq_getElem_cons hlt]; rfl
      rw [if_neg (nI_nlt (by omega) (by omega)), nI_add, if_neg (nI_in (by omega) (by omega)), nI_clamp (by omega), hx, ed, nI_1, ← hcc]
      by_cases j0 : j = 0
      · subst j0
        obtain ⟨r1, e1, h1⟩ := pu_addTagged (F := F) (t := 6) (v := e[0]) h (by omega)
        rw [if_pos (show nI 0 = 0 from nI_0), pu_b (show mm_Rw_addTagged F N 6 e[0] sz f = some r1 from e1)]
        obtain ⟨r2, e2, h2⟩ := ih (0 + 1) r1.1 r1.2 _ (by omega) (by omega) h1 (by simp [pu_by_len]; omega)
        refine ⟨r2, e2, ?_⟩
        rw [List.append_assoc] at h2
        exact h2
      · obtain ⟨r1, e1, h1⟩ := pu_addTagged (F := F) (t := 5) (v := e[j]) h (by omega)
        rw [if_neg (nI_ne0 (by omega) (by omega)), if_neg j0, if_neg (show ¬ (nI (st + j) < 0 ∨ 48 ≤ st + j) from fun q => q.elim (nI_pos (by omega)) (by omega)), pu_b (show mm_Rw_addTagged F N 5 e[j] sz f = some r1 from e1)]
        obtain ⟨r2, e2, h2⟩ := ih (j + 1) r1.1 r1.2 _ (by omega) (by omega) h1 (by simp [pu_by_len]; omega)
        refine ⟨r2, e2, ?_⟩
        rw [List.append_assoc] at h2
        exact h2
theorem pe_in (F : Nat) (t a b : Int32) : mm_Pf_isWithin F t a b = some (if vl_in a b t then 1 else 0) := by
  rw [mq_Pf_isWithin]
  by_cases h1 : a < 0
  · rw [if_pos h1, if_neg (fun q => q.1 h1)]
  rw [if_neg h1]
  by_cases h2 : t < a
  · rw [if_pos h2, if_neg (fun q => q.2.1 h2)]
  rw [if_neg h2]
  by_cases h3 : b < 0
  · rw [if_pos h3, if_pos ⟨h1, h2, Or.inl h3⟩]
  rw [if_neg h3]
  by_cases h4 : b < t
  · rw [if_pos h4, if_neg (fun q => q.2.2.elim h3 (fun w => w h4))]
  · rw [if_neg h4, if_pos ⟨h1, h2, Or.inr h4⟩]
theorem vl_es_len (n : Nat) (a b : Int32) : ∀ (E : List (List Int32)), (∀ e ∈ E, e.length = n + 1) → (vl_es n a b E).length ≤ (5 * n + 7) * E.length
  | [], _ => Nat.zero_le _
  | e :: r, h => by
    have h1 := vl_es_len n a b r (fun e he => h e (List.mem_cons_of_mem _ he))
    have h2 : e.length = n + 1 := h e List.mem_cons_self
    have h3 := vl_w_len e 0
    unfold vl_es
    rw [List.length_append, List.length_cons, Nat.mul_succ]
    split
    · unfold vl_ent
      rw [List.length_cons, List.length_cons, h3, h2]
      omega
    · rw [List.length_nil]
      omega
theorem vl_cn_le (a b : Int32) : ∀ (E : List (List Int32)), vl_cn a b E ≤ E.length
  | [] => Nat.le_refl _
  | e :: r => by
    have := vl_cn_le a b r
    unfold vl_cn
    rw [List.length_cons]
    split <;> omega
theorem pe_17 {F N n fN : Nat} {cc first size a b : Int32} {ring : Nat → Int32} {E : List (List Int32)} (hF : 20 < F) (hcc : cc = nI n) (hn : n ≤ 3) (hf : first = nI fN) (hfN : fN < 12) (hs : size = nI E.length) (hE : E.length ≤ 12) (he : ∀ e ∈ E, e.length = n + 1) (hr : rg_at ring fN E) :
    ∀ (k i w : Nat) (sz : Int32) (f : Nat → Int32) (l : List Nat), i ≤ E.length → E.length - i < k → rw_is N sz f l → 2 ≤ l.length → l.length + (vl_es n a b (E.drop i)).length ≤ N →
      ∃ r, mm_Pf_writeEntries_L17 F N k a b (nI w) (nI i) cc first size ring sz f = some r ∧ rw_is N r.1 r.2 ((l ++ vl_es n a b (E.drop i)).set 1 (w + vl_cn a b (E.drop i))) := by
  intro k
  induction k with
  | zero => intro i w sz f l _ h; omega
  | succ k ih =>
    intro i w sz f l hi hk h h2 hl
    rw [mq_Pf_writeEntries_L17, hs]
    by_cases hiE : E.length ≤ i
    · obtain ⟨f1, e1, h1⟩ := pu_change (F := F) (i := 1) (x := w) h (by omega)
      rw [if_pos (nI_le hiE (by omega)), pu_b (show mm_Rw_change F N 1 (nI w) sz f = some f1 from e1), List.drop_eq_nil_of_le hiE, show vl_es n a b [] = [] from rfl, show vl_cn a b [] = 0 from rfl, List.append_nil, Nat.add_zero]
      exact ⟨_, rfl, h1⟩
    · have hlt : i < E.length := by omega
      have hel := he E[i] (List.getElem_mem hlt)
      obtain ⟨t, vs, htv⟩ : ∃ t vs, E[i] = t :: vs := by
        cases hq : E[i] with
        | nil => rw [hq] at hel; simp at hel
        | cons t vs => exact ⟨t, vs, rfl⟩
      have hrt : ∀ (k : Nat) (x : Int32), E[i][k]? = some x → ring ((fN + i) % 12 * 4 + k) = x := fun k x hx => hr i E[i] k x (List.getElem?_eq_getElem hlt) hx
      have ht0 : ring ((fN + i) % 12 * 4) = t := hrt 0 t (by rw [htv]; rfl)
      have e0 : bs_rem (first + nI i) 12 * 4 = nI ((fN + i) % 12 * 4) := by
        rw [hf, nI_add, show bs_rem (nI (fN + i)) 12 = nI ((fN + i) % 12) from pk_rem (d := 12) (by omega) (by omega) (by omega)]
        exact pk_mul _ 4
      have ed : E.drop i = E[i] :: E.drop (i + 1) := List.drop_eq_getElem_cons hlt
      have hhd : E[i].headD 0 = t := by rw [htv]; rfl
      rw [if_neg (nI_ge (by omega) (by omega)), pu_b (show mm_Pf_start F (nI i) first = some _ from rfl), e0, if_neg (nI_in (by omega) (by omega)), nI_clamp (by omega), ht0, pu_b (pe_in F t a b), pu_z1, nI_1 i, ← hs]
      rw [ed] at hl ⊢
      by_cases hin : vl_in a b t
      · have ees : vl_es n a b (E[i] :: E.drop (i + 1)) = vl_ent n E[i] ++ vl_es n a b (E.drop (i + 1)) := by
          show (if vl_in a b (E[i].headD 0) then vl_ent n E[i] else []) ++ _ = _
          rw [hhd, if_pos hin]
        have ecn : vl_cn a b (E[i] :: E.drop (i + 1)) = 1 + vl_cn a b (E.drop (i + 1)) := by
          show (if vl_in a b (E[i].headD 0) then 1 else 0) + _ = _
          rw [hhd, if_pos hin]
        rw [ees] at hl
        rw [if_pos hin, ees, ecn]
        have hll : (vl_ent n E[i]).length = 5 * n + 7 := by
          unfold vl_ent
          rw [List.length_cons, List.length_cons, vl_w_len, hel]
          omega
        rw [List.length_append, hll] at hl
        obtain ⟨r1, e1, h1⟩ := pu_add (F := F) (x := 2) h (by omega)
        obtain ⟨r2, e2, h3⟩ := pu_add (F := F) (x := n + 1) h1 (by simp; omega)
        rw [pu_b (show mm_Rw_add F N 2 sz f = some r1 from e1), hcc, nI_1 n, pu_b e2, ← hcc]
        obtain ⟨r3, e3, h4⟩ := pe_67 (F := F) (N := N) (st := (fN + i) % 12 * 4) (e := E[i]) hcc hn (by omega) hel hrt F 0 r2.1 r2.2 _ (by omega) (by omega) h3 (by simp; omega)
        rw [nI_0] at e3
        rw [pu_b e3, nI_1 w]
        have h5 : rw_is N r3.1 r3.2 (l ++ vl_ent n E[i]) := by
          have q : l ++ [2] ++ [n + 1] ++ vl_w 0 (E[i].drop 0) = l ++ vl_ent n E[i] := by
            rw [List.drop_zero, List.append_assoc, List.append_assoc]
            rfl
          rw [← q]
          exact h4
        obtain ⟨r4, e4, h6⟩ := ih (i + 1) (w + 1) r3.1 r3.2 _ (by omega) (by omega) h5 (by rw [List.length_append]; omega) (by rw [List.length_append, hll]; omega)
        refine ⟨r4, e4, ?_⟩
        rw [List.append_assoc, Nat.add_assoc] at h6
        exact h6
      · have ees : vl_es n a b (E[i] :: E.drop (i + 1)) = vl_es n a b (E.drop (i + 1)) := by
          show (if vl_in a b (E[i].headD 0) then vl_ent n E[i] else []) ++ _ = _
          rw [hhd, if_neg hin]
          rfl
        have ecn : vl_cn a b (E[i] :: E.drop (i + 1)) = vl_cn a b (E.drop (i + 1)) := by
          show (if vl_in a b (E[i].headD 0) then 1 else 0) + _ = _
          rw [hhd, if_neg hin, Nat.zero_add]
        rw [ees] at hl
        rw [if_neg hin, ees, ecn]
        exact ih (i + 1) w sz f l (by omega) (by omega) h h2 hl
theorem pe_entries {F N n fN : Nat} {cc first size a b : Int32} {ring : Nat → Int32} {E : List (List Int32)} {sz : Int32} {f : Nat → Int32} (hF : 20 < F) (hcc : cc = nI n) (hn : n ≤ 3) (hf : first = nI fN) (hfN : fN < 12) (hs : size = nI E.length) (hE : E.length ≤ 12) (he : ∀ e ∈ E, e.length = n + 1) (hr : rg_at ring fN E)
    (h : rw_is N sz f []) (hl : 2 + (vl_es n a b E).length ≤ N) : ∃ r, mm_Pf_writeEntries F N a b cc first size ring sz f = some r ∧ rw_is N r.1 r.2 (1 :: vl_cn a b E :: vl_es n a b E) := by
  obtain ⟨r1, e1, h1⟩ := pu_add (F := F) (x := 1) h (by rw [List.length_nil]; omega)
  obtain ⟨r2, e2, h2⟩ := pu_add (F := F) (x := 0) h1 (by simp; omega)
  rw [mq_Pf_writeEntries, pu_b (show mm_Rw_add F N 1 sz f = some r1 from e1), pu_b (show mm_Rw_add F N 0 r1.1 r1.2 = some r2 from e2)]
  obtain ⟨r3, e3, h3⟩ := pe_17 (F := F) (N := N) (a := a) (b := b) hF hcc hn hf hfN hs hE he hr F 0 0 r2.1 r2.2 _ (by omega) (by omega) h2 (by simp) (by rw [List.drop_zero]; simp; omega)
  rw [nI_0] at e3
  refine ⟨r3, e3, ?_⟩
  rw [List.drop_zero, Nat.zero_add] at h3
  exact h3
