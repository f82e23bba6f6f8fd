/-! Rows about the mirrors alone: bytes, rows of bytes -/
theorem pu_b {α β : Type} {x : Option α} {a : α} {f : α → Option β} (h : x = some a) : x.bind f = f a := by rw [h]; rfl
theorem pu_s {α β : Type} {a : α} {f : α → Option β} : (some a).bind f = f a := rfl
theorem pu_ofNat (n : Nat) : Int32.ofNat n = nI n := rfl
/-- the function begins with the list -/
def fb (f : Nat → Int32) (l : List Nat) : Prop := ∀ (i x : Nat), l[i]? = some x → f i = nI x
theorem fb.set {f : Nat → Int32} {l : List Nat} (h : fb f l) (i x : Nat) : fb (upd f i (nI x)) (l.set i x) := by
  intro j y hy
  by_cases hj : j = i
  · subst hj
    have hi : j < l.length := by
      have := (List.getElem?_eq_some_iff.mp hy).1
      simpa using this
    rw [List.getElem?_set_self hi] at hy
    cases hy
    exact pk_us
  · rw [pk_un hj]
    rw [List.getElem?_set_ne (fun q => hj q.symm)] at hy
    exact h j y hy
theorem fb.push {f : Nat → Int32} {l : List Nat} (h : fb f l) (x : Nat) : fb (upd f l.length (nI x)) (l ++ [x]) := by
  intro i y hy
  by_cases hi : i = l.length
  · subst hi
    rw [pk_us]
    simp at hy
    rw [hy]
  · have hlt : i < l.length := by
      have := (List.getElem?_eq_some_iff.mp hy).1
      simp at this
      omega
    rw [pk_un hi]
    rw [List.getElem?_append_left hlt] at hy
    exact h i y hy
theorem fb.pre {f : Nat → Int32} {l l' : List Nat} (h : fb f (l ++ l')) : fb f l := fun i x hx => h i x (by rw [List.getElem?_append_left (List.getElem?_eq_some_iff.mp hx).1]; exact hx)
theorem fb_nil (f : Nat → Int32) : fb f [] := fun i x hx => by simp at hx
theorem fb.cons {f : Nat → Int32} {x : Nat} {l : List Nat} (h0 : f 0 = nI x) (h : fb (fun i => f (i + 1)) l) : fb f (x :: l) := by
  intro i y hy
  cases i with
  | zero => cases hy; exact h0
  | succ i => exact h i y hy
/-- a row of bytes: its size and its contents are those of the list -/
def rw_is (N : Nat) (sz : Int32) (f : Nat → Int32) (l : List Nat) : Prop := sz = nI l.length ∧ l.length ≤ N ∧ N < 2 ^ 20 ∧ fb f l
theorem pu_at_in {F N : Nat} {sz : Int32} {f : Nat → Int32} {l : List Nat} {i x : Nat} (h : rw_is N sz f l) (hx : l[i]? = some x) : mm_Rw_at F N (nI i) sz f = some (nI x) := by
  obtain ⟨rfl, h1, h2, h3⟩ := h
  have hi : i < l.length := (List.getElem?_eq_some_iff.mp hx).1
  rw [mq_Rw_at, if_neg (nI_pos (by omega)), if_neg (nI_ge hi (by omega)), if_neg (nI_in (by omega) (by omega)), nI_clamp (by omega), h3 i x hx]
theorem pu_at_out {F N : Nat} {sz : Int32} {f : Nat → Int32} {l : List Nat} {i : Nat} (h : rw_is N sz f l) (hx : l.length ≤ i) (hi : i < 2 ^ 30) : mm_Rw_at F N (nI i) sz f = some (-1) := by
  obtain ⟨rfl, h1, h2, h3⟩ := h
  rw [mq_Rw_at, if_neg (nI_pos (by omega)), if_pos (nI_le hx (by omega))]
theorem pu_add {F N : Nat} {sz : Int32} {f : Nat → Int32} {l : List Nat} {x : Nat} (h : rw_is N sz f l) (hl : l.length < N) : ∃ r, mm_Rw_add F N (nI x) sz f = some r ∧ rw_is N r.1 r.2 (l ++ [x]) := by
  obtain ⟨rfl, h1, h2, h3⟩ := h
  rw [mq_Rw_add, pu_ofNat, if_neg (nI_ge hl (by omega)), if_neg (nI_in hl (by omega)), nI_clamp (by omega), nI_1]
  exact ⟨_, rfl, by simp, by simp; omega, h2, h3.push x⟩
theorem pu_drop {F : Nat} {sz : Int32} : mm_Rw_drop F sz = some 0 := rfl
theorem pu_empty {N : Nat} (f : Nat → Int32) (h : N < 2 ^ 20) : rw_is N 0 f [] := ⟨nI_0.symm, Nat.zero_le _, h, fun i x hx => by simp at hx⟩
theorem pu_addPartL {F N M : Nat} {sz2 : Int32} {f2 : Nat → Int32} {l2 : List Nat} {a c : Nat} (h2 : rw_is M sz2 f2 l2) (hac : a + c ≤ l2.length) :
    ∀ (k i : Nat) (sz : Int32) (f : Nat → Int32) (l : List Nat), rw_is N sz f l → i ≤ c → l.length + (c - i) ≤ N → c - i < k →
      ∃ r, mm_Rw_addPart_L3 F N M k (nI a) (nI c) (nI i) sz f sz2 f2 = some r ∧ rw_is N r.1 r.2 (l ++ (l2.drop (a + i)).take (c - i)) := by
  intro k
  induction k with
  | zero => intro i sz f l _ _ _ h; omega
  | succ k ih =>
    intro i sz f l h hi hl hk
    have hM := h2.2.1
    have hM2 := h2.2.2.1
    rw [mq_Rw_addPart_L3]
    by_cases hic : c ≤ i
    · rw [if_pos (nI_le hic (by omega))]
      have : c - i = 0 := by omega
      rw [this, List.take_zero, List.append_nil]
      exact ⟨_, rfl, h⟩
    · rw [if_neg (nI_ge (by omega) (by omega)), nI_add]
      have hlt : a + i < l2.length := by omega
      rw [pu_b (pu_at_in (x := l2[a + i]) h2 (List.getElem?_eq_getElem hlt))]
      obtain ⟨r, e1, h1⟩ := pu_add (F := F) (x := l2[a + i]) h (by omega)
      rw [pu_b e1, nI_1]
      obtain ⟨r', e2, h2'⟩ := ih (i + 1) r.1 r.2 _ h1 (by omega) (by simp; omega) (by omega)
      refine ⟨r', e2, ?_⟩
      have e : (l2.drop (a + i)).take (c - i) = l2[a + i] :: (l2.drop (a + (i + 1))).take (c - (i + 1)) := by
        rw [List.drop_eq_getElem_cons hlt, show c - i = (c - (i + 1)) + 1 by omega, List.take_succ_cons]
        rfl
      rw [e]
      rw [List.append_assoc] at h2'
      exact h2'
theorem pu_addPart {F N M : Nat} {sz sz2 : Int32} {f f2 : Nat → Int32} {l l2 : List Nat} {a c : Nat} (h : rw_is N sz f l) (h2 : rw_is M sz2 f2 l2) (hac : a + c ≤ l2.length) (hl : l.length + c ≤ N) (hF : c < F) :
    ∃ r, mm_Rw_addPart F N M (nI a) (nI c) sz f sz2 f2 = some r ∧ rw_is N r.1 r.2 (l ++ (l2.drop a).take c) := by
  obtain ⟨r, e, hr⟩ := pu_addPartL (F := F) h2 hac F 0 sz f l h (by omega) (by omega) (by omega)
  rw [nI_0] at e
  exact ⟨r, e, hr⟩
theorem pu_change {F N : Nat} {sz : Int32} {f : Nat → Int32} {l : List Nat} {i x : Nat} (h : rw_is N sz f l) (hi : i < l.length) : ∃ f', mm_Rw_change F N (nI i) (nI x) sz f = some f' ∧ rw_is N sz f' (l.set i x) := by
  obtain ⟨rfl, h1, h2, h3⟩ := h
  rw [mq_Rw_change, if_neg (nI_pos (by omega)), if_neg (nI_ge hi (by omega)), if_neg (nI_in (by omega) (by omega)), nI_clamp (by omega)]
  exact ⟨_, rfl, by simp, by simp; omega, h2, h3.set i x⟩
/-- four bytes of an int, the highest first -/
def pu_by (v : Int32) : List Nat := [v.toBitVec.toNat / 2 ^ 24, v.toBitVec.toNat / 2 ^ 16 % 256, v.toBitVec.toNat / 2 ^ 8 % 256, v.toBitVec.toNat % 256]
theorem pu_eqN {x : Int32} {n : Nat} (h : x.toBitVec.toNat = n) : x = nI n := by
  subst h
  exact Int32.toBitVec_inj.mp (by show _ = BitVec.ofNat 32 _; simp)
theorem pu_ushr (v : Int32) (s : Int32) (k : Nat) (hs : ((s.toUInt32 &&& Int32.toUInt32 31).toBitVec % 32).toNat = k) : bs_ushr v s = nI (v.toBitVec.toNat / 2 ^ k) := pu_eqN (pk_ushr v s k hs)
theorem pu_and255 (v : Int32) : v &&& 255 = nI (v.toBitVec.toNat % 256) := pk_and v 8 (by decide +kernel)
theorem pu_ushr255 (v : Int32) (s : Int32) (k : Nat) (hs : ((s.toUInt32 &&& Int32.toUInt32 31).toBitVec % 32).toNat = k) : bs_ushr v s &&& 255 = nI (v.toBitVec.toNat / 2 ^ k % 256) := by
  rw [pu_and255, show (bs_ushr v s).toBitVec.toNat = _ from pk_ushr v s k hs]
theorem pu_by_lt (v : Int32) : ∀ x ∈ pu_by v, x < 256 := by
  have := v.toBitVec.isLt
  intro x hx
  simp only [pu_by, List.mem_cons, List.not_mem_nil, or_false] at hx
  rcases hx with rfl | rfl | rfl | rfl
  · omega
  all_goals exact Nat.mod_lt _ (by decide)
theorem pu_upd4 {f : Nat → Int32} {l : List Nat} {a b c d : Nat} (h : fb f l) :
    fb (upd (upd (upd (upd f l.length (nI a)) (l.length + 1) (nI b)) (l.length + 2) (nI c)) (l.length + 3) (nI d)) (l ++ [a, b, c, d]) := by
  have h1 := (((h.push a).push b).push c).push d
  simp only [List.length_append, List.length_cons, List.length_nil, List.append_assoc, List.cons_append, List.nil_append, Nat.zero_add, Nat.add_assoc] at h1
  exact h1
theorem pu_addInt {F N : Nat} {sz : Int32} {f : Nat → Int32} {l : List Nat} {v : Int32} (h : rw_is N sz f l) (hl : l.length + 4 ≤ N) : ∃ r, mm_Rw_addInt F N v sz f = some r ∧ rw_is N r.1 r.2 (l ++ pu_by v) := by
  obtain ⟨rfl, h1, h2, h3⟩ := h
  have e4 : nI l.length + 4 = nI (l.length + 4) := nI_add _ 4
  have e1 : nI l.length + 1 = nI (l.length + 1) := nI_add _ 1
  have e2 : nI l.length + 2 = nI (l.length + 2) := nI_add _ 2
  have e3 : nI l.length + 3 = nI (l.length + 3) := nI_add _ 3
  rw [mq_Rw_addInt, pu_ofNat, e4, if_neg (nI_nlt hl (by omega)), if_neg (nI_in (by omega) (by omega)), e1, if_neg (nI_in (by omega) (by omega)), e2, if_neg (nI_in (by omega) (by omega)), e3, if_neg (nI_in (by omega) (by omega)),
    nI_clamp (by omega), nI_clamp (by omega), nI_clamp (by omega), nI_clamp (by omega), pu_ushr v 24 24 (by decide +kernel), pu_ushr255 v 16 16 (by decide +kernel), pu_ushr255 v 8 8 (by decide +kernel), pu_and255]
  exact ⟨_, rfl, by simp [pu_by], by simp [pu_by]; omega, h2, pu_upd4 h3⟩
theorem pu_addTagged {F N : Nat} {sz : Int32} {f : Nat → Int32} {l : List Nat} {t : Nat} {v : Int32} (h : rw_is N sz f l) (hl : l.length + 5 ≤ N) : ∃ r, mm_Rw_addTagged F N (nI t) v sz f = some r ∧ rw_is N r.1 r.2 (l ++ t :: pu_by v) := by
  obtain ⟨r, e, hr⟩ := pu_add (F := F) (x := t) h (by omega)
  obtain ⟨r', e', hr'⟩ := pu_addInt (F := F) (v := v) hr (by simp; omega)
  rw [mq_Rw_addTagged, pu_b e, pu_b e']
  rw [List.append_assoc] at hr'
  exact ⟨_, rfl, hr'⟩
/-- an int of four bytes -/
def pu_int (a b c d : Nat) : Int32 := (((nI a <<< (24 &&& 31)) ||| (nI b <<< (16 &&& 31))) ||| (nI c <<< (8 &&& 31))) ||| nI d
theorem pu_intAt {F N : Nat} {sz : Int32} {f : Nat → Int32} {l : List Nat} {i a b c d : Nat} (h : rw_is N sz f l) (ha : l[i]? = some a) (hb : l[i + 1]? = some b) (hc : l[i + 2]? = some c) (hd : l[i + 3]? = some d) : mm_Rw_intAt F N (nI i) sz f = some (pu_int a b c d) := by
  have e1 : nI i + 1 = nI (i + 1) := nI_add _ 1
  have e2 : nI i + 2 = nI (i + 2) := nI_add _ 2
  have e3 : nI i + 3 = nI (i + 3) := nI_add _ 3
  rw [mq_Rw_intAt, pu_b (pu_at_in h ha), e1, pu_b (pu_at_in h hb), e2, pu_b (pu_at_in h hc), e3, pu_b (pu_at_in h hd)]
  rfl
theorem pu_six {f : Nat → Int32} {p : List Nat} (h : ∀ (i x : Nat), p[i]? = some x → f (i + 6) = nI x) : ∃ a b c d e g : Nat, fb f ([a, b, c, d, e, g] ++ p) := by
  have q : ∀ x : Int32, x = nI x.toBitVec.toNat := fun x => pu_eqN rfl
  have h6 : fb (fun i => f (i + 6)) p := fun i x hx => h i x hx
  have h5 : fb (fun i => f (i + 5)) _ := fb.cons (q (f 5)) h6
  have h4 : fb (fun i => f (i + 4)) _ := fb.cons (q (f 4)) h5
  have h3 : fb (fun i => f (i + 3)) _ := fb.cons (q (f 3)) h4
  have h2 : fb (fun i => f (i + 2)) _ := fb.cons (q (f 2)) h3
  have h1 : fb (fun i => f (i + 1)) _ := fb.cons (q (f 1)) h2
  exact ⟨_, _, _, _, _, _, fb.cons (q (f 0)) h1⟩
theorem pu_moveBack {F N : Nat} {sz : Int32} {f : Nat → Int32} {l : List Nat} (h : rw_is N sz f l) (hl : l.length + 6 ≤ N) : ∃ (r : Int32 × (Nat → Int32)) (a b c d e g : Nat), mm_Rw_moveBack F N 6 sz f = some r ∧ rw_is N r.1 r.2 ([a, b, c, d, e, g] ++ l) := by
  obtain ⟨rfl, h1, h2, h3⟩ := h
  have e6 : nI l.length + 6 = nI (l.length + 6) := nI_add _ 6
  have c0 : (0 : Int32).toNatClampNeg = 0 := by decide +kernel
  have c6 : (6 : Int32).toNatClampNeg = 6 := by decide +kernel
  have hg : ∀ (i x : Nat), l[i]? = some x → va_cpy f f 0 6 l.length (i + 6) = nI x := by
    intro i x hx
    have hi : i < l.length := (List.getElem?_eq_some_iff.mp hx).1
    rw [pk_cpy_in (by omega) (by omega), Nat.zero_add, Nat.add_sub_cancel]
    exact h3 i x hx
  obtain ⟨a, b, c, d, e, g, hf⟩ := pu_six hg
  rw [mq_Rw_moveBack, if_neg (by decide +kernel), pu_ofNat, e6, if_neg (nI_nlt hl (by omega)), c0, c6, nI_clamp (by omega), if_neg (by
    rintro ((q | q | q) | q | q)
    · exact absurd q (by decide +kernel)
    · exact absurd q (by decide +kernel)
    · exact nI_pos (by omega) q
    · omega
    · omega)]
  exact ⟨_, a, b, c, d, e, g, rfl, congrArg nI (by simp), by simp; omega, h2, hf⟩
