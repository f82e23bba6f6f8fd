/-! Frames: both sides make one list of bytes -/
def pu_hd (c n : Nat) : List Nat := [126, n, 17, c, pu_ck [n, 17, c] % 256, pu_ck [n, 17, c] / 256]
def pu_bd (c : Nat) (p : List Nat) : List Nat := pu_hd c (p.length + 7) ++ p
def pu_fr (c : Nat) (p : List Nat) : List Nat := if p = [] then pu_hd c 5 ++ [126] else pu_bd c p ++ [pu_ck ((pu_bd c p).drop 1) % 256, pu_ck ((pu_bd c p).drop 1) / 256, 126]
theorem pu_lo {k : Nat} (h : k < 65536) : nI k &&& 255 = nI (k % 256) := pk_andN (n := k) (by omega) (m := 255) 8 (by decide +kernel)
theorem pu_hi {k : Nat} (h : k < 65536) : nI k >>> (8 &&& 31) = nI (k / 256) := pk_shrN (n := k) (by omega) (8 &&& 31) 8 (by decide +kernel)
theorem pu_mlo {k : Nat} (h : k < 65536) : bs_rem (nI k) 256 = nI (k % 256) := pk_rem (d := 256) (by omega) (by omega) (by omega)
theorem pu_mhi {k : Nat} (h : k < 65536) : nI k / 256 = nI (k / 256) := pk_div (d := 256) (by omega) (by omega) (by omega)
theorem pu_hdB {c n : Nat} (hc : c < 256) (hn : n < 256) : pu_B (pu_hd c n) := by
  have := pu_ck_lt [n, 17, c]
  intro x hx
  simp only [pu_hd, List.mem_cons, List.not_mem_nil, or_false] at hx
  rcases hx with rfl | rfl | rfl | rfl | rfl | rfl <;> omega
theorem pu_B.app {a b : List Nat} (ha : pu_B a) (hb : pu_B b) : pu_B (a ++ b) := fun x hx => (List.mem_append.mp hx).elim (ha x) (hb x)
theorem pu_B.take {a : List Nat} (ha : pu_B a) (n : Nat) : pu_B (a.take n) := fun x hx => ha x (List.mem_of_mem_take hx)
theorem pu_B.drop {a : List Nat} (ha : pu_B a) (n : Nat) : pu_B (a.drop n) := fun x hx => ha x (List.mem_of_mem_drop hx)
theorem pu_frB {c : Nat} {p : List Nat} (hc : c < 256) (hp : pu_B p) (hl : p.length ≤ 240) : pu_B (pu_fr c p) := by
  unfold pu_fr
  have h3 := pu_ck_lt ((pu_bd c p).drop 1)
  split
  · exact (pu_hdB hc (by omega)).app (fun x hx => by simp at hx; omega)
  · exact ((pu_hdB hc (by omega)).app hp).app (fun x hx => by
      simp only [List.mem_cons, List.not_mem_nil, or_false] at hx
      rcases hx with rfl | rfl | rfl <;> omega)
theorem pu_fr_len (c : Nat) (p : List Nat) : (pu_fr c p).length = if p = [] then 7 else p.length + 9 := by
  unfold pu_fr pu_bd pu_hd
  split
  · rfl
  · simp
theorem pu_wrapJ {F N : Nat} {sz : Int32} {f : Nat → Int32} {l : List Nat} {c n b1 b2 b3 b4 b5 : Nat} (h : rw_is N sz f ([126, b1, b2, b3, b4, b5] ++ l)) (hB : pu_B l) (hc : c < 256) (hn : n < 256) (hN : l.length + 9 ≤ N) (hF : l.length + 9 < F) :
    ∃ r, mm_Fr_wrap_J36 F N (nI c) (nI l.length) (nI n) 1 sz f = some r ∧ rw_is N r.1 r.2 (if l = [] then pu_hd c n ++ [126] else pu_hd c n ++ l ++ [pu_ck ((pu_hd c n ++ l).drop 1) % 256, pu_ck ((pu_hd c n ++ l).drop 1) / 256, 126]) := by
  have hN2 := h.2.2.1
  have hk := pu_ck_lt [n, 17, c]
  rw [mq_Fr_wrap_J36]
  obtain ⟨f1, e1, h1⟩ := pu_change (F := F) (i := 1) (x := n) h (by simp)
  rw [pu_b (show mm_Rw_change F N 1 (nI n) sz f = some f1 from e1)]
  obtain ⟨f2, e2, h2⟩ := pu_change (F := F) (i := 2) (x := 17) h1 (by simp)
  rw [pu_b (show mm_Rw_change F N 2 17 sz f1 = some f2 from e2)]
  obtain ⟨f3, e3, h3⟩ := pu_change (F := F) (i := 3) (x := c) h2 (by simp)
  rw [pu_b (show mm_Rw_change F N 3 (nI c) sz f2 = some f3 from e3)]
  have h3 : rw_is N sz f3 ([126, n, 17, c, b4, b5] ++ l) := h3
  have e4 := pu_chk (F := F) (e := 4) h3 (by simp) (by omega) (by
    intro x hx
    have hx : x ∈ [126, n, 17, c] := hx
    simp only [List.mem_cons, List.not_mem_nil, or_false] at hx
    rcases hx with rfl | rfl | rfl | rfl <;> omega) (by omega) (by omega)
  rw [pu_b (show mm_Fr_check F N 4 sz f3 = some (nI (pu_ck [n, 17, c])) from e4), pu_lo hk, pu_hi hk]
  obtain ⟨f5, e5, h5⟩ := pu_change (F := F) (i := 4) (x := pu_ck [n, 17, c] % 256) h3 (by simp)
  rw [pu_b (show mm_Rw_change F N 4 (nI (pu_ck [n, 17, c] % 256)) sz f3 = some f5 from e5)]
  obtain ⟨f6, e6, h6⟩ := pu_change (F := F) (i := 5) (x := pu_ck [n, 17, c] / 256) h5 (by simp)
  rw [pu_b (show mm_Rw_change F N 5 (nI (pu_ck [n, 17, c] / 256)) sz f5 = some f6 from e6)]
  have h6 : rw_is N sz f6 (pu_hd c n ++ l) := h6
  have hlen : (pu_hd c n ++ l).length = l.length + 6 := by simp [pu_hd]
  by_cases hl : l = []
  · subst hl
    rw [if_pos (show nI ([] : List Nat).length ≤ 0 by decide +kernel), if_pos rfl]
    obtain ⟨r, e7, h7⟩ := pu_add (F := F) (x := 126) h6 (by rw [hlen]; omega)
    rw [pu_b (show mm_Rw_add F N 126 sz f6 = some r from e7)]
    rw [List.append_nil] at h7
    exact ⟨_, rfl, h7⟩
  · have hpos : 0 < l.length := List.length_pos_iff.mpr hl
    rw [if_neg (nI_nle hpos (by omega)), if_neg hl]
    have hk2 := pu_ck_lt ((pu_hd c n ++ l).drop 1)
    have e7 := pu_chk (F := F) (e := l.length + 6) h6 (by rw [hlen]; omega) (by omega) (((pu_hdB hc hn).app hB).take _) (by omega) (by omega)
    rw [List.take_of_length_le (by rw [hlen]; omega), show nI (l.length + 6) = sz by rw [h6.1, hlen]] at e7
    rw [pu_b e7, pu_lo hk2, pu_hi hk2]
    obtain ⟨r8, e8, h8⟩ := pu_add (F := F) (x := pu_ck ((pu_hd c n ++ l).drop 1) % 256) h6 (by rw [hlen]; omega)
    rw [pu_b e8]
    obtain ⟨r9, e9, h9⟩ := pu_add (F := F) (x := pu_ck ((pu_hd c n ++ l).drop 1) / 256) h8 (by rw [List.length_append, hlen]; simp; omega)
    rw [pu_b e9]
    obtain ⟨r, e10, h10⟩ := pu_add (F := F) (x := 126) h9 (by rw [List.length_append, List.length_append, hlen]; simp; omega)
    rw [pu_b (show mm_Rw_add F N 126 r9.1 r9.2 = some r from e10)]
    refine ⟨_, rfl, ?_⟩
    simp only [List.append_assoc, List.cons_append, List.nil_append] at h10 ⊢
    exact h10
theorem pu_wrap {F N : Nat} {sz : Int32} {f : Nat → Int32} {l : List Nat} {c : Nat} (h : rw_is N sz f l) (hB : pu_B l) (hl : l.length ≤ 240) (hc : c < 256) (hN : l.length + 9 ≤ N) (hF : l.length + 9 < F) : ∃ r, mm_Fr_wrap F N (nI c) sz f = some r ∧ rw_is N r.1 r.2 (pu_fr c l) := by
  obtain ⟨r0, a, b1, b2, b3, b4, b5, e0, h0⟩ := pu_moveBack (F := F) h (by omega)
  have hN2 := h.2.2.1
  rw [mq_Fr_wrap, pu_b e0]
  obtain ⟨f1, e1, h1⟩ := pu_change (F := F) (i := 0) (x := 126) h0 (by simp)
  rw [pu_b (show mm_Rw_change F N 0 126 r0.1 r0.2 = some f1 from e1), h.1]
  have h1 : rw_is N r0.1 f1 ([126, b1, b2, b3, b4, b5] ++ l) := h1
  by_cases h00 : l = []
  · obtain ⟨r, e2, h2⟩ := pu_wrapJ (F := F) (n := 5) h1 hB hc (by omega) hN hF
    subst h00
    rw [if_pos (show nI ([] : List Nat).length = 0 by decide +kernel)]
    refine ⟨r, e2, ?_⟩
    rw [if_pos rfl] at h2
    unfold pu_fr
    rw [if_pos rfl]
    exact h2
  · have hpos : 0 < l.length := List.length_pos_iff.mpr h00
    obtain ⟨r, e2, h2⟩ := pu_wrapJ (F := F) (n := l.length + 7) h1 hB hc (by omega) hN hF
    rw [if_neg (nI_ne0 hpos (by omega))]
    have e : ((6 : Int32) + nI l.length + 3) - 2 = nI (l.length + 7) := by
      rw [show (6 : Int32) = nI 6 from rfl, nI_add, show (3 : Int32) = nI 3 from rfl, nI_add, show (2 : Int32) = nI 2 from rfl, pk_sub (by omega)]
      congr 1
      omega
    rw [e]
    refine ⟨r, e2, ?_⟩
    rw [if_neg h00] at h2
    unfold pu_fr pu_bd
    rw [if_neg h00]
    exact h2
/-! the reference's wrap: the payload lies at 6 -/
theorem pu_mwrapJ {F N : Nat} {f : Nat → Int32} {l : List Nat} {c n b0 b1 b2 b3 b4 b5 : Nat} (h : fb f ([b0, b1, b2, b3, b4, b5] ++ l)) (hB : pu_B l) (hc : c < 256) (hn : n < 256) (hl : if l = [] then n = 5 else n = l.length + 7) (hN : l.length + 9 ≤ N) (hN2 : N < 2 ^ 20) (hF : l.length + 9 < F) :
    ∃ f', mm_Mo_wrap_J12 F N (nI c) (nI l.length) (nI n) f = some (nI (pu_fr c l).length, f') ∧ fb f' (pu_fr c l) := by
  have hk := pu_ck_lt [n, 17, c]
  have lit : ∀ (i : Int32) (k : Nat), i.toNatClampNeg = k → ¬ i < 0 → k < N → ¬ (i < 0 ∨ N ≤ i.toNatClampNeg) := fun i k e n h q => q.elim n (fun w => by rw [e] at w; omega)
  have c0 : (0 : Int32).toNatClampNeg = 0 := by decide +kernel
  have c1 : (1 : Int32).toNatClampNeg = 1 := by decide +kernel
  have c2 : (2 : Int32).toNatClampNeg = 2 := by decide +kernel
  have c3 : (3 : Int32).toNatClampNeg = 3 := by decide +kernel
  have c4 : (4 : Int32).toNatClampNeg = 4 := by decide +kernel
  have c5 : (5 : Int32).toNatClampNeg = 5 := by decide +kernel
  have h3 := (((h.set 0 126).set 1 n).set 2 17).set 3 c
  have h3 : fb _ ([126, n, 17, c, b4, b5] ++ l) := h3
  have e4 := pu_mk (F := F) (N := N) (e := 4) h3 (by simp) (by omega) hN2 (by omega) (by
    intro x hx
    have hx : x ∈ [126, n, 17, c] := hx
    simp only [List.mem_cons, List.not_mem_nil, or_false] at hx
    rcases hx with rfl | rfl | rfl | rfl <;> omega) (by omega) (by omega)
  rw [mq_Mo_wrap_J12, if_neg (lit 0 0 c0 (by decide +kernel) (by omega)), if_neg (lit 1 1 c1 (by decide +kernel) (by omega)), if_neg (lit 2 2 c2 (by decide +kernel) (by omega)), if_neg (lit 3 3 c3 (by decide +kernel) (by omega)), c0, c1, c2, c3,
    pu_b (show mm_Mo_check F N 4 (upd (upd (upd (upd f 0 126) 1 (nI n)) 2 17) 3 (nI c)) = some (nI (pu_ck [n, 17, c])) from e4), if_neg (lit 4 4 c4 (by decide +kernel) (by omega)), if_neg (lit 5 5 c5 (by decide +kernel) (by omega)), c4, c5, pu_mlo hk, pu_mhi hk]
  have h5 := (h3.set 4 (pu_ck [n, 17, c] % 256)).set 5 (pu_ck [n, 17, c] / 256)
  have h5 : fb (upd (upd (upd (upd (upd (upd f 0 126) 1 (nI n)) 2 17) 3 (nI c)) 4 (nI (pu_ck [n, 17, c] % 256))) 5 (nI (pu_ck [n, 17, c] / 256))) (pu_hd c n ++ l) := h5
  have hlen : (pu_hd c n ++ l).length = l.length + 6 := by simp [pu_hd]
  have e1 : nI n + 1 = nI (n + 1) := nI_add _ 1
  have e2 : nI n + 2 = nI (n + 2) := nI_add _ 2
  by_cases hl0 : l = []
  · subst hl0
    rw [if_pos rfl] at hl
    subst hl
    rw [if_pos (show nI ([] : List Nat).length ≤ 0 by decide +kernel), e1, e2, if_neg (nI_in (by omega) (by omega)), nI_clamp (by omega)]
    refine ⟨_, rfl, ?_⟩
    have h6 := h5.push 126
    rw [List.append_nil] at h6
    unfold pu_fr
    rw [if_pos rfl]
    exact h6
  · rw [if_neg hl0] at hl
    subst hl
    have hpos : 0 < l.length := List.length_pos_iff.mpr hl0
    have hk2 := pu_ck_lt ((pu_hd c (l.length + 7) ++ l).drop 1)
    have e7 := pu_mk (F := F) (N := N) (e := 6 + l.length) h5 (by rw [hlen]; omega) (by omega) hN2 (by omega) (((pu_hdB hc hn).app hB).take _) (by omega) (by omega)
    rw [List.take_of_length_le (by rw [hlen]; omega)] at e7
    have e6 : (6 : Int32) + nI l.length = nI (6 + l.length) := nI_add 6 _
    have e7' : (7 : Int32) + nI l.length = nI (7 + l.length) := nI_add 7 _
    rw [if_neg (nI_nle hpos (by omega)), e6, pu_b e7, if_neg (nI_in (by omega) (by omega)), e7', if_neg (nI_in (by omega) (by omega)), e1, if_neg (nI_in (by omega) (by omega)), e2, pu_mlo hk2, pu_mhi hk2, nI_clamp (by omega), nI_clamp (by omega), nI_clamp (by omega)]
    rw [show (pu_fr c l).length = l.length + 7 + 2 by rw [pu_fr_len, if_neg hl0]]
    refine ⟨_, rfl, ?_⟩
    · have h8 := ((h5.push (pu_ck ((pu_hd c (l.length + 7) ++ l).drop 1) % 256)).push (pu_ck ((pu_hd c (l.length + 7) ++ l).drop 1) / 256)).push 126
      simp only [List.length_append, List.length_cons, List.length_nil, hlen] at h8
      unfold pu_fr pu_bd
      rw [if_neg hl0]
      simp only [List.append_assoc, List.cons_append, List.nil_append, Nat.add_assoc, Nat.zero_add, Nat.reduceAdd] at h8 ⊢
      rw [Nat.add_comm 6 l.length, Nat.add_comm 7 l.length]
      exact h8
theorem pu_mwrap {F N : Nat} {f : Nat → Int32} {l : List Nat} {c : Nat} (h : ∀ (i x : Nat), l[i]? = some x → f (i + 6) = nI x) (hB : pu_B l) (hc : c < 256) (hl : l.length ≤ 240) (hN : l.length + 9 ≤ N) (hN2 : N < 2 ^ 20) (hF : l.length + 9 < F) :
    ∃ f', mm_Mo_wrap F N (nI c) (nI l.length) f = some (nI (pu_fr c l).length, f') ∧ fb f' (pu_fr c l) := by
  obtain ⟨b0, b1, b2, b3, b4, b5, h0⟩ := pu_six h
  rw [mq_Mo_wrap]
  by_cases hl0 : l = []
  · obtain ⟨f', e, hf⟩ := pu_mwrapJ (F := F) (N := N) (c := c) (n := 5) h0 hB hc (by omega) (by rw [if_pos hl0]) hN hN2 hF
    rw [if_pos (show nI l.length ≤ 0 by subst hl0; decide +kernel)]
    exact ⟨f', e, hf⟩
  · have hpos : 0 < l.length := List.length_pos_iff.mpr hl0
    obtain ⟨f', e, hf⟩ := pu_mwrapJ (F := F) (N := N) (c := c) (n := l.length + 7) h0 hB hc (by omega) (by rw [if_neg hl0]) hN hN2 hF
    have e7' : (7 : Int32) + nI l.length = nI (l.length + 7) := by rw [show (7 : Int32) = nI 7 from rfl, nI_add, Nat.add_comm]
    rw [if_neg (nI_nle hpos (by omega)), e7']
    exact ⟨f', e, hf⟩
