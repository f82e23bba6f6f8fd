/-! numbers that the mirrors have as literals -/
theorem pu_ne {x : Nat} (c : Int32) (n : Nat) (h : ¬ x = n) (hx : x < 2 ^ 31 := by omega) (hn : n < 2 ^ 31 := by decide) (hc : c = nI n := by rfl) : ¬ nI x = c := by subst hc; exact fun q => h ((nI_eq hx hn).mp q)
theorem pu_eq {x : Nat} (c : Int32) (n : Nat) (h : x = n) (hc : c = nI n := by rfl) : nI x = c := by subst hc; rw [h]
theorem pu_lt {x : Nat} (c : Int32) (n : Nat) (h : x < n) (hn : n < 2 ^ 31 := by decide) (hc : c = nI n := by rfl) : nI x < c := by subst hc; exact nI_lt h hn
theorem pu_nlt {x : Nat} (c : Int32) (n : Nat) (h : n ≤ x) (hx : x < 2 ^ 31 := by omega) (hc : c = nI n := by rfl) : ¬ nI x < c := by subst hc; exact nI_nlt h hx
theorem pu_le {x : Nat} (c : Int32) (n : Nat) (h : x ≤ n) (hn : n < 2 ^ 31 := by decide) (hc : c = nI n := by rfl) : nI x ≤ c := by subst hc; exact nI_le h hn
theorem pu_nle {x : Nat} (c : Int32) (n : Nat) (h : n < x) (hx : x < 2 ^ 31 := by omega) (hc : c = nI n := by rfl) : ¬ nI x ≤ c := by subst hc; exact nI_ge h hx
theorem pu_cl {x : Nat} (c : Int32) (n : Nat) (h : n < x) (hx : x < 2 ^ 31 := by omega) (hc : c = nI n := by rfl) : c < nI x := by subst hc; exact nI_lt h hx
theorem pu_ncl {x : Nat} (c : Int32) (n : Nat) (h : x ≤ n) (hn : n < 2 ^ 31 := by decide) (hc : c = nI n := by rfl) : ¬ c < nI x := by subst hc; exact nI_nlt h hn
theorem pu_cle {x : Nat} (c : Int32) (n : Nat) (h : n ≤ x) (hx : x < 2 ^ 31 := by omega) (hc : c = nI n := by rfl) : c ≤ nI x := by subst hc; exact nI_le h hx
theorem pu_ncle {x : Nat} (c : Int32) (n : Nat) (h : x < n) (hn : n < 2 ^ 31 := by decide) (hc : c = nI n := by rfl) : ¬ c ≤ nI x := by subst hc; exact nI_ge h hn
/-! The line: wrapping it in the reference, and what a frame is -/
theorem pu_mwlL {F : Nat} {l : List Nat} {c : Nat} (hB : pu_B l) (hc : c < 256) (hl : l.length ≤ 60) (hF : 100 < F) :
    ∀ (k m : Nat) (v : Int32) (f : Nat → Int32), m < k → m ≤ l.length → (v = if m = 0 then -1 else nI (m - 1)) → (∀ (j x : Nat), l[j]? = some x → (j < m → f j = nI x) ∧ (m ≤ j → f (j + 6) = nI x)) →
      ∃ f', mm_Mo_wrapLine_L7 F k (nI c) v (nI l.length) f = some (nI (pu_fr c l).length, nI (pu_fr c l).length, f') ∧ fb f' (pu_fr c l) := by
  intro k
  induction k with
  | zero => intro m v f h; omega
  | succ k ih =>
    intro m v f hk hm hv hf
    rw [mq_Mo_wrapLine_L7]
    cases m with
    | zero =>
      rw [if_pos rfl] at hv
      subst hv
      obtain ⟨f', e, h'⟩ := pu_mwrap (F := F) (N := 80) (f := f) (l := l) (c := c) (fun i x hx => (hf i x hx).2 (Nat.zero_le _)) hB hc (by omega) (by omega) (by decide) (by omega)
      rw [if_pos (by decide +kernel), pu_b e]
      exact ⟨f', rfl, h'⟩
    | succ m =>
      rw [if_neg (by omega), Nat.add_sub_cancel] at hv
      subst hv
      have e6 : (6 : Int32) + nI m = nI (6 + m) := nI_add 6 m
      rw [if_neg (nI_pos (by omega)), if_neg (nI_in (by omega) (by omega)), e6, if_neg (nI_in (by omega) (by omega)), nI_clamp (by omega), nI_clamp (by omega)]
      refine ih m _ _ (by omega) (by omega) ?_ ?_
      · cases m with
        | zero => rw [if_pos rfl]; decide +kernel
        | succ m => rw [if_neg (by omega), Nat.add_sub_cancel]; exact pk_m1 m
      · intro j x hx
        obtain ⟨h1, h2⟩ := hf j x hx
        refine ⟨fun hj => ?_, fun hj => ?_⟩
        · rw [pk_un (by omega)]
          exact h1 (by omega)
        · by_cases hjm : j = m
          · subst hjm
            rw [Nat.add_comm 6 j, pk_us]
            exact h1 (by omega)
          · rw [pk_un (by omega)]
            exact h2 (by omega)
theorem pu_mwl {F : Nat} {f : Nat → Int32} {l : List Nat} {c : Nat} (h : fb f l) (hB : pu_B l) (hc : c < 256) (hl : l.length ≤ 60) (hF : 100 < F) :
    ∃ f', mm_Mo_wrapLine F (nI c) (nI l.length) f = some (nI (pu_fr c l).length, nI (pu_fr c l).length, f') ∧ fb f' (pu_fr c l) := by
  rw [mq_Mo_wrapLine]
  refine pu_mwlL hB hc hl hF F l.length _ f (by omega) (Nat.le_refl _) ?_ (fun j x hx => ⟨fun _ => h j x hx, fun hj => ?_⟩)
  · cases hn : l.length with
    | zero => rw [if_pos rfl]; decide +kernel
    | succ n => rw [if_neg (by omega), Nat.add_sub_cancel]; exact nI_pred n
  · have := (List.getElem?_eq_some_iff.mp hx).1
    omega
/-- a frame, as bytes -/
def pu_ok (l : List Nat) : Prop := (l.length = 7 ∨ 10 ≤ l.length ∧ l.length ≤ 69) ∧ l[0]? = some 126 ∧ l[1]? = some (l.length - 2) ∧ l[2]? = some 17 ∧ l[l.length - 1]? = some 126 ∧
  l[4]? = some (pu_ck ((l.take 4).drop 1) % 256) ∧ l[5]? = some (pu_ck ((l.take 4).drop 1) / 256) ∧
  (l.length = 7 ∨ l[l.length - 3]? = some (pu_ck ((l.take (l.length - 3)).drop 1) % 256) ∧ l[l.length - 2]? = some (pu_ck ((l.take (l.length - 3)).drop 1) / 256))
theorem pu_eqI {a b : Nat} (ha : a < 2 ^ 31) (hb : b < 2 ^ 31) : (nI a = nI b) = (a = b) := propext (nI_eq ha hb)
theorem pu_isChecked {F N : Nat} {sz : Int32} {f : Nat → Int32} {l : List Nat} {e x y : Nat} (h : rw_is N sz f l) (hB : pu_B l) (h1 : 1 ≤ e) (hx : l[e]? = some x) (hy : l[e + 1]? = some y) (hF : 100 < F) (hl : l.length ≤ 80) :
    mm_Fr_isChecked F N (nI e) sz f = some (if x = pu_ck ((l.take e).drop 1) % 256 ∧ y = pu_ck ((l.take e).drop 1) / 256 then 1 else 0) := by
  have hk := pu_ck_lt ((l.take e).drop 1)
  have hle : e < l.length := (List.getElem?_eq_some_iff.mp hx).1
  have hx2 : x < 256 := hB x (List.mem_of_getElem? hx)
  have hy2 : y < 256 := hB y (List.mem_of_getElem? hy)
  have e1 : nI e + 1 = nI (e + 1) := nI_add _ 1
  rw [mq_Fr_isChecked, pu_b (pu_chk h (by omega) h1 (hB.take _) (by omega) (by omega)), pu_b (pu_at_in h hx), pu_lo hk, pu_hi hk, e1, pu_b (pu_at_in h hy)]
  by_cases c1 : x = pu_ck ((l.take e).drop 1) % 256
  · rw [if_pos (congrArg nI c1)]
    by_cases c2 : y = pu_ck ((l.take e).drop 1) / 256
    · rw [if_pos (congrArg nI c2), if_pos ⟨c1, c2⟩]
    · rw [if_neg (fun q => c2 ((nI_eq (by omega) (by omega)).mp q)), if_neg (fun q => c2 q.2)]
  · rw [if_neg (fun q => c1 ((nI_eq (by omega) (by omega)).mp q)), if_neg (fun q => c1 q.1)]
theorem pu_iteN {α : Type} {a b : Prop} [Decidable a] [Decidable b] {x y : α} : (if a then (if b then x else y) else y) = if a ∧ b then x else y := by
  by_cases ha : a
  · by_cases hb : b
    · rw [if_pos ha, if_pos hb, if_pos ⟨ha, hb⟩]
    · rw [if_pos ha, if_neg hb, if_neg (fun q => hb q.2)]
  · rw [if_neg ha, if_neg (fun q => ha q.1)]
theorem pu_z1 {c : Prop} [Decidable c] {α : Type} {a b : α} : (if (if c then (1 : Int32) else 0) = 0 then a else b) = if c then b else a := by
  by_cases h : c
  · rw [if_pos h, if_pos h, if_neg (by decide +kernel)]
  · rw [if_neg h, if_neg h, if_pos rfl]
theorem pu_get {l : List Nat} {i : Nat} (h : i < l.length) : ∃ x, l[i]? = some x := ⟨_, List.getElem?_eq_getElem h⟩
theorem pu_nn {a b : Nat} (ha : a < 2 ^ 31) (hb : b < 2 ^ 31) (h : ¬ a = b) : ¬ nI a = nI b := fun q => h ((nI_eq ha hb).mp q)
theorem pu_sn {l : List Nat} {i x y : Nat} (h : l[i]? = some x) (q : l[i]? = some y) : x = y := Option.some.inj (h.symm.trans q)
theorem pu_sz1 : ∀ n, n < 81 → (nI n - 6 - 3 < 1 ↔ n < 10) := by decide +kernel
theorem pu_sz2 : ∀ n, n < 81 → (nI n - 6 - 3 ≤ 60 ↔ n ≤ 69) := by decide +kernel
theorem pu_J29 {F : Nat} {sz : Int32} {f : Nat → Int32} {l : List Nat} (h : rw_is 80 sz f l) (hB : pu_B l) (hF : 100 < F) (hg : l.length = 7 ∨ 10 ≤ l.length ∧ l.length ≤ 69) :
    ∃ b, mm_Fr_isFrame_J29 F 80 sz sz f = some b ∧ (pu_ok l → b = 1) ∧ (¬ pu_ok l → b = 0) := by
  have hn : 7 ≤ l.length := by omega
  have hl : l.length ≤ 80 := h.2.1
  obtain ⟨x0, h0⟩ := pu_get (l := l) (i := 0) (by omega)
  obtain ⟨x1, h1⟩ := pu_get (l := l) (i := 1) (by omega)
  obtain ⟨x2, h2⟩ := pu_get (l := l) (i := 2) (by omega)
  obtain ⟨x4, h4⟩ := pu_get (l := l) (i := 4) (by omega)
  obtain ⟨x5, h5⟩ := pu_get (l := l) (i := 5) (by omega)
  obtain ⟨xl, hxl⟩ := pu_get (l := l) (i := l.length - 1) (by omega)
  obtain ⟨y, hy⟩ := pu_get (l := l) (i := l.length - 3) (by omega)
  obtain ⟨z, hz⟩ := pu_get (l := l) (i := l.length - 3 + 1) (by omega)
  have b0 := hB _ (List.mem_of_getElem? h0)
  have b1 := hB _ (List.mem_of_getElem? h1)
  have b2 := hB _ (List.mem_of_getElem? h2)
  have bl := hB _ (List.mem_of_getElem? hxl)
  have s2 : sz - 2 = nI (l.length - 2) := by rw [h.1]; exact pk_sub (b := 2) (by omega)
  have s1 : sz - 1 = nI (l.length - 1) := by rw [h.1]; exact pk_sub (b := 1) (by omega)
  have s3 : sz - 3 = nI (l.length - 3) := by rw [h.1]; exact pk_sub (b := 3) (by omega)
  have z2 : l.length - 3 + 1 = l.length - 2 := by omega
  have c4 := pu_isChecked (F := F) (e := 4) h hB (by omega) h4 h5 hF hl
  rw [mq_Fr_isFrame_J29, pu_b (show mm_Rw_at F 80 0 sz f = some (nI x0) from pu_at_in (i := 0) h h0)]
  by_cases q0 : x0 = 126
  case neg => rw [if_neg (pu_ne 126 126 q0)]; exact ⟨_, rfl, fun ok => absurd (pu_sn h0 ok.2.1) q0, fun _ => rfl⟩
  rw [if_pos (pu_eq 126 126 q0), pu_b (show mm_Rw_at F 80 1 sz f = some (nI x1) from pu_at_in (i := 1) h h1), s2]
  by_cases q1 : x1 = l.length - 2
  case neg => rw [if_neg (pu_nn (by omega) (by omega) q1)]; exact ⟨_, rfl, fun ok => absurd (pu_sn h1 ok.2.2.1) q1, fun _ => rfl⟩
  rw [if_pos (congrArg nI q1), pu_b (show mm_Rw_at F 80 2 sz f = some (nI x2) from pu_at_in (i := 2) h h2)]
  by_cases q2 : x2 = 17
  case neg => rw [if_neg (pu_ne 17 17 q2)]; exact ⟨_, rfl, fun ok => absurd (pu_sn h2 ok.2.2.2.1) q2, fun _ => rfl⟩
  rw [if_pos (pu_eq 17 17 q2), s1, pu_b (pu_at_in h hxl)]
  by_cases q3 : xl = 126
  case neg => rw [if_neg (pu_ne 126 126 q3)]; exact ⟨_, rfl, fun ok => absurd (pu_sn hxl ok.2.2.2.2.1) q3, fun _ => rfl⟩
  rw [if_pos (pu_eq 126 126 q3), pu_b (show mm_Fr_isChecked F 80 4 sz f = _ from c4), pu_z1]
  by_cases q4 : x4 = pu_ck ((l.take 4).drop 1) % 256 ∧ x5 = pu_ck ((l.take 4).drop 1) / 256
  case neg => rw [if_neg q4]; exact ⟨_, rfl, fun ok => absurd ⟨pu_sn h4 ok.2.2.2.2.2.1, pu_sn h5 ok.2.2.2.2.2.2.1⟩ q4, fun _ => rfl⟩
  rw [if_pos q4]
  by_cases q7 : l.length = 7
  · rw [if_pos (show sz = 7 by rw [h.1, q7]; rfl)]
    exact ⟨_, rfl, fun _ => rfl, fun no => absurd ⟨hg, q0 ▸ h0, q1 ▸ h1, q2 ▸ h2, q3 ▸ hxl, q4.1 ▸ h4, q4.2 ▸ h5, Or.inl q7⟩ no⟩
  · rw [if_neg (show ¬ sz = 7 by rw [h.1]; exact pu_ne 7 7 q7), s3, pu_b (pu_isChecked (F := F) h hB (by omega) hy hz hF hl), pu_z1]
    by_cases q5 : y = pu_ck ((l.take (l.length - 3)).drop 1) % 256 ∧ z = pu_ck ((l.take (l.length - 3)).drop 1) / 256
    · rw [if_pos q5]
      rw [z2] at hz
      exact ⟨_, rfl, fun _ => rfl, fun no => absurd ⟨hg, q0 ▸ h0, q1 ▸ h1, q2 ▸ h2, q3 ▸ hxl, q4.1 ▸ h4, q4.2 ▸ h5, Or.inr ⟨q5.1 ▸ hy, q5.2 ▸ hz⟩⟩ no⟩
    · rw [if_neg q5]
      rw [z2] at hz
      exact ⟨_, rfl, fun ok => absurd (ok.2.2.2.2.2.2.2.resolve_left q7) (fun w => q5 ⟨pu_sn hy w.1, pu_sn hz w.2⟩), fun _ => rfl⟩
theorem pu_isFrame {F : Nat} {sz : Int32} {f : Nat → Int32} {l : List Nat} (h : rw_is 80 sz f l) (hB : pu_B l) (hF : 100 < F) : ∃ b, mm_Fr_isFrame F 80 sz f = some b ∧ (pu_ok l → b = 1) ∧ (¬ pu_ok l → b = 0) := by
  have hl : l.length ≤ 80 := h.2.1
  have i1 := pu_sz1 l.length (by omega)
  have i2 := pu_sz2 l.length (by omega)
  rw [mq_Fr_isFrame, pu_b (show mm_Fr_payloadSize F sz = some (sz - 6 - 3) from rfl)]
  by_cases q7 : l.length = 7
  · rw [if_pos (show sz = 7 by rw [h.1, q7]; rfl)]
    exact pu_J29 h hB hF (Or.inl q7)
  · rw [if_neg (show ¬ sz = 7 by rw [h.1]; exact pu_ne 7 7 q7)]
    rw [← h.1] at i1 i2
    by_cases q1 : l.length < 10
    · rw [if_pos (i1.mpr q1)]
      exact ⟨_, rfl, fun ok => absurd ok.1 (by omega), fun _ => rfl⟩
    · rw [if_neg (fun q => q1 (i1.mp q))]
      by_cases q2 : l.length ≤ 69
      · rw [if_pos (i2.mpr q2)]
        exact pu_J29 h hB hF (Or.inr ⟨by omega, q2⟩)
      · rw [if_neg (fun q => q2 (i2.mp q))]
        exact ⟨_, rfl, fun ok => absurd ok.1 (by omega), fun _ => rfl⟩
theorem pu_sz3 : ∀ n, n < 81 → (nI n - 9 < 1 ↔ n < 10) := by decide +kernel
theorem pu_sz4 : ∀ n, n < 81 → (nI n - 9 ≤ 60 ↔ n ≤ 69) := by decide +kernel
/-- the reference's answer: the payload's length, or -1 -/
theorem pu_payloadOf {F : Nat} {f : Nat → Int32} {l : List Nat} (h : fb f l) (hl : l.length ≤ 80) (hB : pu_B l) (hF : 100 < F) :
    ∃ b, mm_Mo_payloadOf F (nI l.length) f = some b ∧ (pu_ok l → b = nI (if l.length = 7 then 0 else l.length - 9)) ∧ (¬ pu_ok l → b = -1) := by
  rw [mq_Mo_payloadOf]
  by_cases hn : l.length < 7
  · rw [if_pos (pu_lt 7 7 hn)]
    exact ⟨_, rfl, fun ok => absurd ok.1 (by omega), fun _ => rfl⟩
  obtain ⟨x0, h0⟩ := pu_get (l := l) (i := 0) (by omega)
  obtain ⟨x1, h1⟩ := pu_get (l := l) (i := 1) (by omega)
  obtain ⟨x2, h2⟩ := pu_get (l := l) (i := 2) (by omega)
  obtain ⟨x4, h4⟩ := pu_get (l := l) (i := 4) (by omega)
  obtain ⟨x5, h5⟩ := pu_get (l := l) (i := 5) (by omega)
  obtain ⟨xl, hxl⟩ := pu_get (l := l) (i := l.length - 1) (by omega)
  obtain ⟨y, hy⟩ := pu_get (l := l) (i := l.length - 3) (by omega)
  obtain ⟨z, hz⟩ := pu_get (l := l) (i := l.length - 2) (by omega)
  have b0 := hB _ (List.mem_of_getElem? h0)
  have b1 := hB _ (List.mem_of_getElem? h1)
  have b2 := hB _ (List.mem_of_getElem? h2)
  have b4 := hB _ (List.mem_of_getElem? h4)
  have b5 := hB _ (List.mem_of_getElem? h5)
  have bl := hB _ (List.mem_of_getElem? hxl)
  have hby := hB _ (List.mem_of_getElem? hy)
  have hbz := hB _ (List.mem_of_getElem? hz)
  have hk := pu_ck_lt ((l.take 4).drop 1)
  have s2 : nI l.length - 2 = nI (l.length - 2) := pk_sub (b := 2) (by omega)
  have s1 : nI l.length - 1 = nI (l.length - 1) := pk_sub (b := 1) (by omega)
  have c0 : (0 : Int32).toNatClampNeg = 0 := by decide +kernel
  have c1 : (1 : Int32).toNatClampNeg = 1 := by decide +kernel
  have c2 : (2 : Int32).toNatClampNeg = 2 := by decide +kernel
  have c4 : (4 : Int32).toNatClampNeg = 4 := by decide +kernel
  have c5 : (5 : Int32).toNatClampNeg = 5 := by decide +kernel
  have k4 := pu_mk (F := F) (N := 80) (e := 4) h (by omega) (by omega) (by decide) (by omega) (hB.take _) (by omega) (by omega)
  rw [if_neg (pu_nlt 7 7 (by omega)), c0, h 0 _ h0]
  by_cases q0 : x0 = 126
  case neg => rw [if_neg (pu_ne 126 126 q0)]; exact ⟨_, rfl, fun ok => absurd (pu_sn h0 ok.2.1) q0, fun _ => rfl⟩
  rw [if_pos (pu_eq 126 126 q0), s1, if_neg (nI_in (by omega) (by omega)), nI_clamp (by omega), h _ _ hxl]
  by_cases q3 : xl = 126
  case neg => rw [if_neg (pu_ne 126 126 q3)]; exact ⟨_, rfl, fun ok => absurd (pu_sn hxl ok.2.2.2.2.1) q3, fun _ => rfl⟩
  rw [if_pos (pu_eq 126 126 q3), c1, h 1 _ h1, s2]
  by_cases q1 : x1 = l.length - 2
  case neg => rw [if_neg (pu_nn (by omega) (by omega) q1)]; exact ⟨_, rfl, fun ok => absurd (pu_sn h1 ok.2.2.1) q1, fun _ => rfl⟩
  rw [if_pos (congrArg nI q1), c2, h 2 _ h2]
  by_cases q2 : x2 = 17
  case neg => rw [if_neg (pu_ne 17 17 q2)]; exact ⟨_, rfl, fun ok => absurd (pu_sn h2 ok.2.2.2.1) q2, fun _ => rfl⟩
  rw [if_pos (pu_eq 17 17 q2), pu_b (show mm_Mo_check F 80 4 f = _ from k4), c4, h 4 _ h4, pu_mlo hk]
  by_cases q4 : x4 = pu_ck ((l.take 4).drop 1) % 256
  case neg => rw [if_neg (pu_nn (by omega) (by omega) q4)]; exact ⟨_, rfl, fun ok => absurd (pu_sn h4 ok.2.2.2.2.2.1) q4, fun _ => rfl⟩
  rw [if_pos (congrArg nI q4), c5, h 5 _ h5, pu_mhi hk]
  by_cases q5 : x5 = pu_ck ((l.take 4).drop 1) / 256
  case neg => rw [if_neg (pu_nn (by omega) (by omega) q5)]; exact ⟨_, rfl, fun ok => absurd (pu_sn h5 ok.2.2.2.2.2.2.1) q5, fun _ => rfl⟩
  rw [if_pos (congrArg nI q5)]
  by_cases q7 : l.length = 7
  · rw [if_pos (show nI l.length = 7 by rw [q7]; rfl)]
    refine ⟨_, rfl, fun _ => ?_, fun no => absurd ⟨Or.inl q7, q0 ▸ h0, q1 ▸ h1, q2 ▸ h2, q3 ▸ hxl, q4 ▸ h4, q5 ▸ h5, Or.inl q7⟩ no⟩
    rw [if_pos q7, nI_0]
  rw [if_neg (pu_ne 7 7 q7)]
  have i3 := pu_sz3 l.length (by omega)
  have i4 := pu_sz4 l.length (by omega)
  by_cases q8 : l.length < 10
  · rw [if_pos (i3.mpr q8)]
    exact ⟨_, rfl, fun ok => absurd ok.1 (by omega), fun _ => rfl⟩
  rw [if_neg (fun q => q8 (i3.mp q))]
  by_cases q9 : l.length ≤ 69
  case neg => rw [if_neg (fun q => q9 (i4.mp q))]; exact ⟨_, rfl, fun ok => absurd ok.1 (by omega), fun _ => rfl⟩
  have s9 : nI l.length - 9 = nI (l.length - 9) := pk_sub (b := 9) (by omega)
  have s6 : (6 : Int32) + nI (l.length - 9) = nI (l.length - 3) := by rw [show (6 : Int32) = nI 6 from rfl, nI_add]; congr 1; omega
  have s7 : (7 : Int32) + nI (l.length - 9) = nI (l.length - 2) := by rw [show (7 : Int32) = nI 7 from rfl, nI_add]; congr 1; omega
  have k6 := pu_mk (F := F) (N := 80) (e := l.length - 3) h (by omega) (by omega) (by decide) (by omega) (hB.take _) (by omega) (by omega)
  have hk6 := pu_ck_lt ((l.take (l.length - 3)).drop 1)
  rw [if_pos (i4.mpr q9), s9, s6, s7, pu_b k6, if_neg (nI_in (by omega) (by omega)), nI_clamp (by omega), h _ _ hy, pu_mlo hk6]
  by_cases qa : y = pu_ck ((l.take (l.length - 3)).drop 1) % 256
  case neg => rw [if_neg (pu_nn (by omega) (by omega) qa)]; exact ⟨_, rfl, fun ok => absurd (ok.2.2.2.2.2.2.2.resolve_left q7) (fun w => qa (pu_sn hy w.1)), fun _ => rfl⟩
  rw [if_pos (congrArg nI qa), if_neg (nI_in (by omega) (by omega)), nI_clamp (by omega), h _ _ hz, pu_mhi hk6]
  by_cases qb : z = pu_ck ((l.take (l.length - 3)).drop 1) / 256
  case neg => rw [if_neg (pu_nn (by omega) (by omega) qb)]; exact ⟨_, rfl, fun ok => absurd (ok.2.2.2.2.2.2.2.resolve_left q7) (fun w => qb (pu_sn hz w.2)), fun _ => rfl⟩
  rw [if_pos (congrArg nI qb)]
  refine ⟨_, rfl, fun _ => ?_, fun no => absurd ⟨Or.inr ⟨by omega, q9⟩, q0 ▸ h0, q1 ▸ h1, q2 ▸ h2, q3 ▸ hxl, q4 ▸ h4, q5 ▸ h5, Or.inr ⟨qa ▸ hy, qb ▸ hz⟩⟩ no⟩
  rw [if_neg q7]
