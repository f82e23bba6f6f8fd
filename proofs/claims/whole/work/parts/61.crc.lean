/-! The check of a frame: both sides by one function of bytes -/
def pu_B (l : List Nat) : Prop := ∀ x ∈ l, x < 256
theorem pu_xor (a b : Nat) : nI a ^^^ nI b = nI (a ^^^ b) := by
  refine Int32.toBitVec_inj.mp ?_
  show BitVec.ofNat 32 a ^^^ BitVec.ofNat 32 b = BitVec.ofNat 32 (a ^^^ b)
  refine BitVec.eq_of_getLsbD_eq ?_
  intro i hi
  simp [hi]
theorem pu_x16 {a b : Nat} (ha : a < 65536) (hb : b < 65536) : a ^^^ b < 65536 := Nat.xor_lt_two_pow (n := 16) ha hb
def pu_st (c : Nat) : Nat := if c % 2 = 1 then (c / 2) ^^^ 33800 else c / 2
def pu_c8 : Nat → Nat → Nat
  | 0, c => c
  | k + 1, c => pu_c8 k (pu_st c)
def pu_crc : Nat → List Nat → Nat
  | c, [] => c
  | c, x :: l => pu_crc (pu_c8 8 (c ^^^ x)) l
def pu_ck (l : List Nat) : Nat := 65535 - pu_crc 65535 l
theorem pu_st_lt {c : Nat} (h : c < 65536) : pu_st c < 65536 := by
  unfold pu_st
  split
  · exact pu_x16 (by omega) (by decide)
  · omega
theorem pu_c8_lt : ∀ (k : Nat) {c : Nat}, c < 65536 → pu_c8 k c < 65536
  | 0, _, h => h
  | k + 1, _, h => pu_c8_lt k (pu_st_lt h)
theorem pu_crc_lt : ∀ (l : List Nat) {c : Nat}, c < 65536 → pu_B l → pu_crc c l < 65536
  | [], _, h, _ => h
  | x :: l, _, h, hb => pu_crc_lt l (pu_c8_lt 8 (pu_x16 h (Nat.lt_of_lt_of_le (hb x List.mem_cons_self) (by decide)))) (fun y hy => hb y (List.mem_cons_of_mem _ hy))
theorem pu_ck_lt (l : List Nat) : pu_ck l < 65536 := by unfold pu_ck; omega
theorem pu_one {n : Nat} (h : n < 2 ^ 31) : nI n = 1 ↔ n = 1 := nI_eq (b := 1) h (by decide)
theorem pu_ck21 {F N : Nat} : ∀ (k b c : Nat), b ≤ 8 → 8 - b < k → c < 65536 → mm_Fr_check_L21 F N k (nI c) (nI b) = some (nI (pu_c8 (8 - b) c)) := by
  intro k
  induction k with
  | zero => intro b c _ h; omega
  | succ k ih =>
    intro b c hb hk hc
    rw [mq_Fr_check_L21, show (8 : Int32) = nI 8 from rfl]
    by_cases h8 : 8 ≤ b
    · rw [if_pos (nI_le h8 (by omega)), show 8 - b = 0 by omega]
      rfl
    · rw [if_neg (nI_ge (by omega) (by omega)), pk_andN (n := c) (by omega) (m := 1) 1 (by decide +kernel), show bs_ushr (nI c) 1 = nI (c / 2) from pk_ushrN (by omega) 1 1 (by decide +kernel), nI_1, show (33800 : Int32) = nI 33800 from rfl, pu_xor,
        show 8 - b = (8 - (b + 1)) + 1 by omega]
      show _ = some (nI (pu_c8 (8 - (b + 1)) (pu_st c)))
      by_cases h1 : c % 2 = 1
      · rw [if_pos ((pu_one (by omega)).mpr (by omega)), show pu_st c = (c / 2) ^^^ 33800 from if_pos h1]
        exact ih (b + 1) _ (by omega) (by omega) (pu_x16 (by omega) (by decide))
      · rw [if_neg (fun q => h1 (by have := (pu_one (n := c % 2 ^ 1) (by omega)).mp q; omega)), show pu_st c = c / 2 from if_neg h1]
        exact ih (b + 1) _ (by omega) (by omega) (by omega)
theorem pu_mk19 {F N : Nat} : ∀ (k b c : Nat), b ≤ 8 → 8 - b < k → c < 65536 → mm_Mo_check_L19 F N k (nI c) (nI b) = some (nI (pu_c8 (8 - b) c)) := by
  intro k
  induction k with
  | zero => intro b c _ h; omega
  | succ k ih =>
    intro b c hb hk hc
    rw [mq_Mo_check_L19, show (8 : Int32) = nI 8 from rfl]
    by_cases h8 : 8 ≤ b
    · rw [if_pos (nI_le h8 (by omega)), show 8 - b = 0 by omega]
      rfl
    · rw [if_neg (nI_ge (by omega) (by omega)), show bs_rem (nI c) 2 = nI (c % 2) from pk_rem (d := 2) (by omega) (by omega) (by omega), show nI c / 2 = nI (c / 2) from pk_div (d := 2) (by omega) (by omega) (by omega), nI_1, show (33800 : Int32) = nI 33800 from rfl, pu_xor,
        show 8 - b = (8 - (b + 1)) + 1 by omega]
      show _ = some (nI (pu_c8 (8 - (b + 1)) (pu_st c)))
      by_cases h1 : c % 2 = 1
      · rw [if_pos ((pu_one (by omega)).mpr h1), show pu_st c = (c / 2) ^^^ 33800 from if_pos h1]
        exact ih (b + 1) _ (by omega) (by omega) (pu_x16 (by omega) (by decide))
      · rw [if_neg (fun q => h1 ((pu_one (by omega)).mp q)), show pu_st c = c / 2 from if_neg h1]
        exact ih (b + 1) _ (by omega) (by omega) (by omega)
theorem pu_dt {l : List Nat} {e i : Nat} (h : i < e) (he : e ≤ l.length) : (l.take e).drop i = l[i] :: (l.take e).drop (i + 1) := by
  have h1 : i < (l.take e).length := by simp; omega
  rw [List.drop_eq_getElem_cons h1, List.getElem_take]
theorem pu_chkL {F N : Nat} {sz : Int32} {f : Nat → Int32} {l : List Nat} {e : Nat} (h : rw_is N sz f l) (he : e ≤ l.length) (hB : pu_B (l.take e)) (hF : 8 < F) :
    ∀ (k i c : Nat), i ≤ e → e - i < k → c < 65536 → mm_Fr_check_L5 F N k (nI e) (nI c) (nI i) sz f = some (nI (65535 - pu_crc c ((l.take e).drop i))) := by
  have hN := h.2.1
  have hN2 := h.2.2.1
  intro k
  induction k with
  | zero => intro i c _ h; omega
  | succ k ih =>
    intro i c hi hk hc
    rw [mq_Fr_check_L5]
    by_cases h8 : e ≤ i
    · rw [if_pos (nI_le h8 (by omega)), List.drop_eq_nil_of_le (by simp; omega), show (65535 : Int32) = nI 65535 from rfl, pk_sub (by omega)]
      rfl
    · have hlt : i < l.length := by omega
      have hx : l[i] < 256 := hB _ (by
        have h1 : i < (l.take e).length := by simp; omega
        have := List.getElem_mem h1
        rw [List.getElem_take] at this
        exact this)
      rw [if_neg (nI_ge (by omega) (by omega)), pu_b (pu_at_in h (List.getElem?_eq_getElem hlt)), pu_xor, ← nI_0, pu_b (pu_ck21 F 0 _ (by omega) (by omega) (pu_x16 hc (by omega))), nI_1,
        ih (i + 1) _ (by omega) (by omega) (pu_c8_lt 8 (pu_x16 hc (by omega))), pu_dt (i := i) (e := e) (by omega) he]
      rfl
theorem pu_chk {F N : Nat} {sz : Int32} {f : Nat → Int32} {l : List Nat} {e : Nat} (h : rw_is N sz f l) (he : e ≤ l.length) (h1 : 1 ≤ e) (hB : pu_B (l.take e)) (hF : 8 < F) (hF2 : e < F) : mm_Fr_check F N (nI e) sz f = some (nI (pu_ck ((l.take e).drop 1))) :=
  pu_chkL h he hB hF F 1 65535 h1 (by omega) (by omega)
theorem pu_mkL {F N : Nat} {f : Nat → Int32} {l : List Nat} {e : Nat} (h : fb f l) (he : e ≤ l.length) (hN : e ≤ N) (hN2 : N < 2 ^ 20) (hB : pu_B (l.take e)) (hF : 8 < F) :
    ∀ (k i c : Nat), i ≤ e → e - i < k → c < 65536 → mm_Mo_check_L5 F N k (nI e) (nI c) (nI i) f = some (nI (65535 - pu_crc c ((l.take e).drop i))) := by
  intro k
  induction k with
  | zero => intro i c _ h; omega
  | succ k ih =>
    intro i c hi hk hc
    rw [mq_Mo_check_L5]
    by_cases h8 : e ≤ i
    · rw [if_pos (nI_le h8 (by omega)), List.drop_eq_nil_of_le (by simp; omega), show (65535 : Int32) = nI 65535 from rfl, pk_sub (by omega)]
      rfl
    · have hlt : i < l.length := by omega
      have hx : l[i] < 256 := hB _ (by
        have h1 : i < (l.take e).length := by simp; omega
        have := List.getElem_mem h1
        rw [List.getElem_take] at this
        exact this)
      rw [if_neg (nI_ge (by omega) (by omega)), if_neg (nI_in (by omega) (by omega)), nI_clamp (by omega), h i _ (List.getElem?_eq_getElem hlt), pu_xor, ← nI_0, pu_b (pu_mk19 F 0 _ (by omega) (by omega) (pu_x16 hc (by omega))), nI_1,
        ih (i + 1) _ (by omega) (by omega) (pu_c8_lt 8 (pu_x16 hc (by omega))), pu_dt (i := i) (e := e) (by omega) he]
      rfl
theorem pu_mk {F N : Nat} {f : Nat → Int32} {l : List Nat} {e : Nat} (h : fb f l) (he : e ≤ l.length) (hN : e ≤ N) (hN2 : N < 2 ^ 20) (h1 : 1 ≤ e) (hB : pu_B (l.take e)) (hF : 8 < F) (hF2 : e < F) : mm_Mo_check F N (nI e) f = some (nI (pu_ck ((l.take e).drop 1))) :=
  pu_mkL h he hN hN2 hB hF F 1 65535 h1 (by omega) (by omega)
