/-! The profile: entries as lists, on both sides -/
/-- what both sides keep: columns C, entries E (a time and a number a column), capacity, period -/
def ab_wf (C : List Nat) (E : List (List Int32)) (capN perN : Nat) : Prop :=
  1 ≤ C.length ∧ C.length ≤ 3 ∧ (∀ c ∈ C, 1 ≤ c ∧ c ≤ 3) ∧ 1 ≤ capN ∧ capN ≤ 12 ∧ perN < 2 ^ 31 ∧ E.length ≤ capN ∧ (∀ e ∈ E, e.length = C.length + 1) ∧ ∀ e ∈ E, ∀ t : Int32, e[0]? = some t → ¬ t < 0
def ab_push (capN : Nat) (E : List (List Int32)) (e : List Int32) : List (List Int32) := (if E.length < capN then E else E.drop 1) ++ [e]
def rg_c (reg : Nat → Int32) (R : Nat → Int32) : Prop := ∀ o, 1 ≤ o → o ≤ 3 → reg (o - 1) = R o
def rg_m (reg : Nat → Int32) (R : Nat → Int32) : Prop := ∀ o, 1 ≤ o → o ≤ 3 → reg o = R o
def rg_at (ring : Nat → Int32) (fN : Nat) (E : List (List Int32)) : Prop := ∀ (i : Nat) (e : List Int32) (k : Nat) (x : Int32), E[i]? = some e → e[k]? = some x → ring ((fN + i) % 12 * 4 + k) = x
theorem ab_wf.push {C : List Nat} {E : List (List Int32)} {capN perN : Nat} (h : ab_wf C E capN perN) (R : Nat → Int32) (t : Int32) (ht : ¬ t < 0) : ab_wf C (ab_push capN E (t :: C.map R)) capN perN := by
  obtain ⟨h1, h2, h3, h4, h5, h6, h7, h8, h9⟩ := h
  refine ⟨h1, h2, h3, h4, h5, h6, ?_, fun e he => ?_, fun e he t' ht' => ?_⟩
  · unfold ab_push
    split
    · simp; omega
    · simp; omega
  · unfold ab_push at he
    rcases List.mem_append.mp he with q | q
    · split at q
      · exact h8 e q
      · exact h8 e (List.mem_of_mem_drop q)
    · rw [List.mem_singleton] at q
      subst q
      simp
  · unfold ab_push at he
    rcases List.mem_append.mp he with q | q
    · split at q
      · exact h9 e q t' ht'
      · exact h9 e (List.mem_of_mem_drop q) t' ht'
    · rw [List.mem_singleton] at q
      subst q
      cases ht'
      exact ht
theorem pf_loop {F : Nat} {C : List Nat} {cols reg R : Nat → Int32} {cc first size : Int32} {st : Nat} (hcc : cc = nI C.length) (hC : C.length ≤ 3) (hC3 : ∀ c ∈ C, 1 ≤ c ∧ c ≤ 3) (hcols : fb cols C) (hreg : rg_c reg R) (hst : st + 4 ≤ 48) (sN : Nat) (hs : size = nI sN) :
    ∀ (k j : Nat) (ring : Nat → Int32), j ≤ C.length → C.length - j < k →
      ∃ ring', mm_Pf_capture_L53 F 3 k (nI st) (nI (j + 1)) cc first size cols ring reg = some (first, nI (sN + 1), ring') ∧
        (∀ (i : Nat) (x : Int32), j ≤ i → (C.map R)[i]? = some x → ring' (st + (i + 1)) = x) ∧ ∀ q, (q < st + (j + 1) ∨ st + 4 ≤ q) → ring' q = ring q := by
  intro k
  induction k with
  | zero => intro j ring _ h; omega
  | succ k ih =>
    intro j ring hj hk
    rw [mq_Pf_capture_L53]
    by_cases hjc : C.length ≤ j
    · rw [hcc, if_pos (nI_lt (by omega) (by omega)), hs, nI_1]
      refine ⟨ring, rfl, fun i x hi hx => ?_, fun q _ => rfl⟩
      have := (List.getElem?_eq_some_iff.mp hx).1
      rw [List.length_map] at this
      omega
    · have hlt : j < C.length := by omega
      obtain ⟨c, hc⟩ : ∃ c, C[j]? = some c := ⟨_, List.getElem?_eq_getElem hlt⟩
      obtain ⟨hc1, hc3⟩ := hC3 c (List.mem_of_getElem? hc)
      have e1 : nI (j + 1) - 1 = nI j := nI_pred j
      have e2 : nI c - 1 = nI (c - 1) := pk_sub (b := 1) hc1
      rw [hcc, if_neg (nI_nlt (by omega) (by omega)), e1, if_neg (nI_in (by omega) (by omega)), nI_clamp (by omega), hcols j c hc, e2, if_neg (nI_in (by omega) (by omega)), nI_clamp (by omega), nI_add, if_neg (nI_in (by omega) (by omega)), nI_clamp (by omega), nI_1, hreg c hc1 hc3, ← hcc]
      obtain ⟨ring', e, ha, hb⟩ := ih (j + 1) (upd ring (st + (j + 1)) (R c)) (by omega) (by omega)
      refine ⟨ring', e, fun i x hi hx => ?_, fun q hq => ?_⟩
      · by_cases hij : i = j
        · subst hij
          rw [hb _ (by omega), pk_us]
          rw [List.getElem?_map, hc] at hx
          exact Option.some.inj hx
        · exact ha i x (by omega) hx
      · rw [hb q (by omega), pk_un (by omega)]
theorem pf_capJ {F : Nat} {C : List Nat} {E : List (List Int32)} {cols ring reg R : Nat → Int32} {cc first size t : Int32} {fN : Nat} (hF : 10 < F) (hcc : cc = nI C.length) (hC : C.length ≤ 3) (hC3 : ∀ c ∈ C, 1 ≤ c ∧ c ≤ 3) (hcols : fb cols C) (hreg : rg_c reg R) (hE : E.length < 12)
    (hE8 : ∀ e ∈ E, e.length = C.length + 1) (hf : first = nI fN) (hfN : fN < 12) (hs : size = nI E.length) (hr : rg_at ring fN E) :
    ∃ ring', mm_Pf_capture_J34 F 3 t cc first size cols ring reg = some (first, nI (E.length + 1), ring') ∧ rg_at ring' fN (E ++ [t :: C.map R]) := by
  have e0 : bs_rem (first + size) 12 * 4 = nI ((fN + E.length) % 12 * 4) := by
    rw [hf, hs, nI_add, show bs_rem (nI (fN + E.length)) 12 = nI ((fN + E.length) % 12) from pk_rem (d := 12) (by omega) (by omega) (by omega)]
    exact pk_mul _ 4
  rw [mq_Pf_capture_J34, pu_b (show mm_Pf_start F size first = some _ from rfl), e0, if_neg (nI_in (by omega) (by omega)), nI_clamp (by omega)]
  obtain ⟨ring', e, ha, hb⟩ := pf_loop (F := F) (first := first) (st := (fN + E.length) % 12 * 4) hcc hC hC3 hcols hreg (by omega) E.length hs F 0 (upd ring ((fN + E.length) % 12 * 4) t) (by omega) (by omega)
  refine ⟨ring', e, fun i e' k x hi hk => ?_⟩
  by_cases hiE : i < E.length
  · rw [List.getElem?_append_left hiE] at hi
    have hk4 : k < C.length + 1 := by
      rw [← hE8 e' (List.mem_of_getElem? hi)]
      exact (List.getElem?_eq_some_iff.mp hk).1
    rw [hb _ (by omega), pk_un (by omega)]
    exact hr i e' k x hi hk
  · have hi2 : i = E.length := by
      have := (List.getElem?_eq_some_iff.mp hi).1
      simp at this
      omega
    subst hi2
    rw [List.getElem?_append_right (Nat.le_refl _), Nat.sub_self] at hi
    cases hi
    cases k with
    | zero =>
      cases hk
      rw [Nat.add_zero, hb _ (by omega), pk_us]
    | succ k => exact ha k x (Nat.zero_le _) hk
/-- the class's profile -/
def pc_is (cc cap per first size : Int32) (cols ring : Nat → Int32) (C : List Nat) (E : List (List Int32)) (capN perN : Nat) : Prop :=
  ab_wf C E capN perN ∧ cc = nI C.length ∧ cap = nI capN ∧ per = nI perN ∧ size = nI E.length ∧ fb cols C ∧ ∃ fN, first = nI fN ∧ fN < 12 ∧ rg_at ring fN E
theorem pf_capture {F : Nat} {C : List Nat} {E : List (List Int32)} {cols ring reg R : Nat → Int32} {cc cap per first size t : Int32} {capN perN : Nat} (hF : 10 < F) (h : pc_is cc cap per first size cols ring C E capN perN) (hreg : rg_c reg R) (ht : ¬ t < 0) :
    ∃ r, mm_Pf_capture F 3 t cc cap first size cols ring reg = some r ∧ pc_is cc cap per r.1 r.2.1 cols r.2.2 C (ab_push capN E (t :: C.map R)) capN perN := by
  obtain ⟨hw, hcc, hcap, hper, hs, hcols, fN, hf, hfN, hr⟩ := h
  have hw' := hw.push R t ht
  obtain ⟨h1, h2, h3, h4, h5, h6, h7, h8, h9⟩ := hw
  rw [mq_Pf_capture]
  by_cases hfull : E.length < capN
  · rw [hs, hcap, if_pos (nI_lt hfull (by omega)), ← hs]
    obtain ⟨ring', e, hr'⟩ := pf_capJ (F := F) (t := t) hF hcc h2 h3 hcols hreg (by omega) h8 hf hfN hs hr
    refine ⟨_, e, hw', hcc, rfl, hper, ?_, hcols, fN, hf, hfN, ?_⟩
    · show nI (E.length + 1) = _
      unfold ab_push
      rw [if_pos hfull]
      simp
    · show rg_at ring' fN _
      unfold ab_push
      rw [if_pos hfull]
      exact hr'
  · have e1 : bs_rem (first + 1) 12 = nI ((fN + 1) % 12) := by
      rw [hf, nI_1]
      exact pk_rem (d := 12) (by omega) (by omega) (by omega)
    have e2 : size - 1 = nI (E.drop 1).length := by
      rw [hs, List.length_drop]
      exact pk_sub (b := 1) (by omega)
    have hlen : (E.drop 1).length = E.length - 1 := List.length_drop
    rw [hs, hcap, if_neg (nI_nlt (by omega) (by omega)), ← hs, e1, e2]
    obtain ⟨ring', e, hr'⟩ := pf_capJ (F := F) (t := t) (E := E.drop 1) (fN := (fN + 1) % 12) (ring := ring) hF hcc h2 h3 hcols hreg (by omega) (fun e he => h8 e (List.mem_of_mem_drop he)) rfl (by omega) rfl (fun i e k x hi hk => by
      rw [List.getElem?_drop] at hi
      have := hr (1 + i) e k x hi hk
      rw [show ((fN + 1) % 12 + i) % 12 = (fN + (1 + i)) % 12 by omega]
      exact this)
    refine ⟨_, e, hw', hcc, rfl, hper, ?_, hcols, _, rfl, by omega, ?_⟩
    · show nI ((E.drop 1).length + 1) = _
      unfold ab_push
      rw [if_neg hfull]
      simp
    · show rg_at ring' _ _
      unfold ab_push
      rw [if_neg hfull]
      exact hr'
/-- the reference's profile -/
def tv_at (times values : Nat → Int32) (E : List (List Int32)) : Prop := ∀ (i : Nat) (e : List Int32), E[i]? = some e → (∀ x, e[0]? = some x → times i = x) ∧ ∀ (k : Nat) (x : Int32), e[k + 1]? = some x → values (3 * i + k) = x
def pm_is (cc cap per size : Int32) (cols times values : Nat → Int32) (C : List Nat) (E : List (List Int32)) (capN perN : Nat) : Prop :=
  ab_wf C E capN perN ∧ cc = nI C.length ∧ cap = nI capN ∧ per = nI perN ∧ size = nI E.length ∧ fb cols C ∧ tv_at times values E
theorem pm_103 {F : Nat} {i : Nat} (hi : i < 12) : ∀ (k j : Nat) (v : Nat → Int32), j ≤ 3 → 3 - j < k →
    ∃ v', mm_Mo_capture_L103 F k (nI i) (nI j) v = some v' ∧ (∀ a, j ≤ a → a < 3 → v' (3 * i + a) = v (3 * i + 3 + a)) ∧ ∀ q, (q < 3 * i + j ∨ 3 * i + 3 ≤ q) → v' q = v q := by
  intro k
  induction k with
  | zero => intro j v _ h; omega
  | succ k ih =>
    intro j v hj hk
    have e3 : (3 : Int32) * nI i = nI (3 * i) := pk_mul 3 i
    have e4 : nI (3 * i) + 3 = nI (3 * i + 3) := nI_add _ 3
    rw [mq_Mo_capture_L103]
    by_cases h3 : 3 ≤ j
    · rw [if_pos (pu_cle 3 3 h3)]
      exact ⟨v, rfl, fun a h1 h2 => by omega, fun q _ => rfl⟩
    · rw [if_neg (pu_ncle 3 3 (by omega)), e3, e4, nI_add, nI_add, if_neg (nI_in (by omega) (by omega)), if_neg (nI_in (by omega) (by omega)), nI_clamp (by omega), nI_clamp (by omega), nI_1]
      obtain ⟨v', e, ha, hb⟩ := ih (j + 1) (upd v (3 * i + j) (v (3 * i + 3 + j))) (by omega) (by omega)
      refine ⟨v', e, fun a h1 h2 => ?_, fun q hq => ?_⟩
      · by_cases haj : a = j
        · subst haj
          rw [hb _ (by omega), pk_us]
        · rw [ha a (by omega) h2, pk_un (by omega)]
      · rw [hb q (by omega), pk_un (by omega)]
theorem pm_77 {F : Nat} {E : List (List Int32)} {n : Nat} (hF : 10 < F) (hn : n = E.length) (hE : E.length ≤ 13) : ∀ (k i : Nat) (t v : Nat → Int32), i + 1 ≤ n → n - i < k → (∀ (j : Nat) (e : List Int32), E[j + 1]? = some e → e.length ≤ 4) →
    (∀ (j : Nat) (e : List Int32), E[j + 1]? = some e → (∀ x, e[0]? = some x → (if j < i then t j else t (j + 1)) = x) ∧ ∀ (a : Nat) (x : Int32), e[a + 1]? = some x → (if j < i then v (3 * j + a) else v (3 * (j + 1) + a)) = x) →
    ∃ t' v', mm_Mo_capture_L77 F k (nI i) (nI n) t v = some (nI (n - 1), t', v') ∧ tv_at t' v' (E.drop 1) := by
  intro k
  induction k with
  | zero => intro i t v _ h; omega
  | succ k ih =>
    intro i t v hi hk h4 h
    rw [mq_Mo_capture_L77]
    by_cases hx : n ≤ i + 1
    · rw [nI_1, if_pos (nI_le hx (by omega)), show nI n - 1 = nI (n - 1) from pk_sub (b := 1) (by omega)]
      refine ⟨t, v, rfl, fun j e hj => ?_⟩
      rw [List.getElem?_drop, Nat.add_comm] at hj
      have hlt := (List.getElem?_eq_some_iff.mp hj).1
      obtain ⟨ha, hb⟩ := h j e hj
      refine ⟨fun x hx => ?_, fun a x hx => ?_⟩
      · have := ha x hx
        rw [if_pos (by omega)] at this
        exact this
      · have := hb a x hx
        rw [if_pos (by omega)] at this
        exact this
    · obtain ⟨v', e103, hv1, hv2⟩ := pm_103 (F := F) (i := i) (by omega) F 0 v (by omega) (by omega)
      rw [nI_1, if_neg (nI_ge (by omega) (by omega)), if_neg (nI_in (by omega) (by omega)), if_neg (nI_in (by omega) (by omega)), nI_clamp (by omega), nI_clamp (by omega), ← nI_0, pu_b e103]
      refine ih (i + 1) (upd t i (t (i + 1))) v' (by omega) (by omega) h4 (fun j e hj => ?_)
      obtain ⟨ha, hb⟩ := h j e hj
      have hl4 := h4 j e hj
      refine ⟨fun x hx => ?_, fun a x hx => ?_⟩
      · have := ha x hx
        by_cases hji : j = i
        · subst hji
          rw [if_pos (by omega), pk_us]
          rw [if_neg (by omega)] at this
          exact this
        · by_cases hjl : j < i
          · rw [if_pos (by omega), pk_un (by omega)]
            rw [if_pos hjl] at this
            exact this
          · rw [if_neg (by omega), pk_un (by omega)]
            rw [if_neg (by omega)] at this
            exact this
      · have := hb a x hx
        have ha3 : a + 1 < e.length := (List.getElem?_eq_some_iff.mp hx).1
        by_cases hji : j = i
        · subst hji
          rw [if_pos (by omega), hv1 a (by omega) (by omega)]
          rw [if_neg (by omega), show 3 * (j + 1) + a = 3 * j + 3 + a by omega] at this
          exact this
        · by_cases hjl : j < i
          · rw [if_pos (by omega), hv2 _ (by omega)]
            rw [if_pos hjl] at this
            exact this
          · rw [if_neg (by omega), hv2 _ (by omega)]
            rw [if_neg (by omega)] at this
            exact this
theorem pm_15 {F : Nat} {C : List Nat} {cols reg R : Nat → Int32} {cc cap : Int32} {n capN : Nat} (hcc : cc = nI C.length) (hcap : cap = nI capN) (hC : C.length ≤ 3) (hC3 : ∀ c ∈ C, 1 ≤ c ∧ c ≤ 3) (hcols : fb cols C) (hreg : rg_m reg R) (hn : n ≤ 12) (hcn : capN ≤ 12) (t : Nat → Int32) :
    ∀ (k j : Nat) (v : Nat → Int32), j ≤ C.length → C.length - j < k →
      ∃ v', mm_Mo_capture_L15 F k (nI j) cap cc (nI n) reg cols t v = (if capN < n + 1 then mm_Mo_capture_L77 F F 0 (nI (n + 1)) t v' else some (nI (n + 1), t, v')) ∧
        (∀ (i : Nat) (x : Int32), j ≤ i → (C.map R)[i]? = some x → v' (3 * n + i) = x) ∧ ∀ q, q < 3 * n + j → v' q = v q := by
  intro k
  induction k with
  | zero => intro j v _ h; omega
  | succ k ih =>
    intro j v hj hk
    rw [mq_Mo_capture_L15]
    by_cases hjc : C.length ≤ j
    · rw [hcc, if_pos (nI_le hjc (by omega)), nI_1, hcap]
      refine ⟨v, ?_, fun i x hi hx => ?_, fun q _ => rfl⟩
      · by_cases hfull : capN < n + 1
        · rw [if_pos (nI_lt hfull (by omega)), if_pos hfull]
        · rw [if_neg (nI_nlt (by omega) (by omega)), if_neg hfull]
      · have := (List.getElem?_eq_some_iff.mp hx).1
        rw [List.length_map] at this
        omega
    · have hlt : j < C.length := by omega
      obtain ⟨c, hc⟩ : ∃ c, C[j]? = some c := ⟨_, List.getElem?_eq_getElem hlt⟩
      obtain ⟨hc1, hc3⟩ := hC3 c (List.mem_of_getElem? hc)
      have e3 : (3 : Int32) * nI n = nI (3 * n) := pk_mul 3 n
      rw [hcc, if_neg (nI_ge (by omega) (by omega)), if_neg (nI_in (by omega) (by omega)), nI_clamp (by omega), hcols j c hc, if_neg (nI_in (by omega) (by omega)), e3, nI_add, if_neg (nI_in (by omega) (by omega)), nI_clamp (by omega), nI_clamp (by omega), nI_1, hreg c hc1 hc3, ← hcc]
      obtain ⟨v', e, ha, hb⟩ := ih (j + 1) (upd v (3 * n + j) (R c)) (by omega) (by omega)
      refine ⟨v', e, fun i x hi hx => ?_, fun q hq => ?_⟩
      · by_cases hij : i = j
        · subst hij
          rw [hb _ (by omega), pk_us]
          rw [List.getElem?_map, hc] at hx
          exact Option.some.inj hx
        · exact ha i x (by omega) hx
      · rw [hb q (by omega), pk_un (by omega)]
theorem pm_capture {F : Nat} {C : List Nat} {E : List (List Int32)} {cols times values reg R : Nat → Int32} {cc cap per size t : Int32} {capN perN : Nat} (hF : 20 < F) (h : pm_is cc cap per size cols times values C E capN perN) (hreg : rg_m reg R) (ht : ¬ t < 0) :
    ∃ r, mm_Mo_capture F t cap cc size reg cols times values = some r ∧ pm_is cc cap per r.1 cols r.2.1 r.2.2 C (ab_push capN E (t :: C.map R)) capN perN := by
  obtain ⟨hw, hcc, hcap, hper, hs, hcols, htv⟩ := h
  have hw' := hw.push R t ht
  obtain ⟨h1, h2, h3, h4, h5, h6, h7, h8, h9⟩ := hw
  rw [mq_Mo_capture, hs, if_neg (nI_in (by omega) (by omega)), nI_clamp (by omega)]
  obtain ⟨v', e, ha, hb⟩ := pm_15 (F := F) (n := E.length) (capN := capN) hcc hcap h2 h3 hcols hreg (by omega) h5 (upd times E.length t) F 0 values (by omega) (by omega)
  rw [nI_0] at e
  rw [e]
  have hE' : tv_at (upd times E.length t) v' (E ++ [t :: C.map R]) := by
    intro i e' hi
    by_cases hiE : i < E.length
    · rw [List.getElem?_append_left hiE] at hi
      obtain ⟨q1, q2⟩ := htv i e' hi
      have hl := h8 e' (List.mem_of_getElem? hi)
      refine ⟨fun x hx => ?_, fun k x hx => ?_⟩
      · rw [pk_un (by omega)]
        exact q1 x hx
      · have := (List.getElem?_eq_some_iff.mp hx).1
        rw [hb _ (by omega)]
        exact q2 k x hx
    · have hi2 : i = E.length := by
        have := (List.getElem?_eq_some_iff.mp hi).1
        simp at this
        omega
      subst hi2
      rw [List.getElem?_append_right (Nat.le_refl _), Nat.sub_self] at hi
      cases hi
      refine ⟨fun x hx => ?_, fun k x hx => ha k x (Nat.zero_le _) hx⟩
      cases hx
      exact pk_us
  by_cases hfull : capN < E.length + 1
  · have hne : ¬ E.length < capN := by omega
    rw [if_pos hfull]
    have e9 : ab_push capN E (t :: C.map R) = (E ++ [t :: C.map R]).drop 1 := by
      unfold ab_push
      rw [if_neg hne, List.drop_append_of_le_length (by omega)]
    rw [e9] at hw' ⊢
    obtain ⟨t', v'', e77, htv'⟩ := pm_77 (F := F) (E := E ++ [t :: C.map R]) (n := E.length + 1) (by omega) (by simp) (by simp; omega) F 0 (upd times E.length t) v' (by omega) (by omega) (fun j e hj => by
        rcases List.mem_append.mp (List.mem_of_getElem? hj) with q | q
        · rw [h8 e q]; omega
        · rw [List.mem_singleton] at q
          subst q
          simp; omega) (fun j e hj => by
        obtain ⟨q1, q2⟩ := hE' (j + 1) e hj
        refine ⟨fun x hx => ?_, fun a x hx => ?_⟩
        · rw [if_neg (by omega)]
          exact q1 x hx
        · rw [if_neg (by omega)]
          exact q2 a x hx)
    rw [nI_0] at e77
    refine ⟨_, e77, hw', hcc, hcap, hper, ?_, hcols, htv'⟩
    show nI (E.length + 1 - 1) = _
    simp
  · have hlt2 : E.length < capN := by omega
    have e9 : ab_push capN E (t :: C.map R) = E ++ [t :: C.map R] := by
      unfold ab_push
      rw [if_pos hlt2]
    rw [if_neg hfull]
    rw [e9] at hw' ⊢
    exact ⟨_, rfl, hw', hcc, hcap, hper, by simp, hcols, hE'⟩
