def mm_Rw_at (F : Nat) (t_bytes_N : Nat) (i1 : Int32) (t_size : Int32) (t_bytes_f : Nat → Int32) : Option (Int32) :=
  (if i1 < 0 then
    some (-1)
  else
    (if t_size ≤ i1 then
      some (-1)
    else
      (if i1 < 0 ∨ t_bytes_N ≤ i1.toNatClampNeg then none else
      some (t_bytes_f i1.toNatClampNeg))))
theorem mq_Rw_at (F : Nat) (t_bytes_N : Nat) (i1 : Int32) (t_size : Int32) (t_bytes_f : Nat → Int32) : mm_Rw_at F t_bytes_N i1 t_size t_bytes_f =
  (if i1 < 0 then
    some (-1)
  else
    (if t_size ≤ i1 then
      some (-1)
    else
      (if i1 < 0 ∨ t_bytes_N ≤ i1.toNatClampNeg then none else
      some (t_bytes_f i1.toNatClampNeg)))) := rfl
def mm_Fr_after (F : Nat) (i0 : Int32) : Option (Int32) :=
  some ((i0 + 1) &&& 7)
theorem mq_Fr_after (F : Nat) (i0 : Int32) : mm_Fr_after F i0 =
  some ((i0 + 1) &&& 7) := rfl
def mm_Fr_information (F : Nat) (i0 : Int32) (i1 : Int32) : Option (Int32) :=
  some ((16 + (2 * i0)) + (32 * i1))
theorem mq_Fr_information (F : Nat) (i0 : Int32) (i1 : Int32) : mm_Fr_information F i0 i1 =
  some ((16 + (2 * i0)) + (32 * i1)) := rfl
def mm_As_hear (F : Nat) (p1_bytes_N : Nat) (t_s : Int32) (t_r : Int32) (p1_size : Int32) (p1_bytes_f : Nat → Int32) : Option (Int32 × Int32) :=
  (mm_Rw_at F p1_bytes_N 3 p1_size p1_bytes_f).bind fun x2 =>
  (if x2 = 115 then
    some (0, 0)
  else
    (mm_Fr_after F t_s).bind fun x34 =>
    (mm_Fr_information F t_r x34).bind fun x37 =>
    (if x2 = x37 then
      (mm_Fr_after F t_s).bind fun x48 =>
      (mm_Fr_after F t_r).bind fun x59 =>
      some (x48, x59)
    else
      some (t_s, t_r)))
theorem mq_As_hear (F : Nat) (p1_bytes_N : Nat) (t_s : Int32) (t_r : Int32) (p1_size : Int32) (p1_bytes_f : Nat → Int32) : mm_As_hear F p1_bytes_N t_s t_r p1_size p1_bytes_f =
  (mm_Rw_at F p1_bytes_N 3 p1_size p1_bytes_f).bind fun x2 =>
  (if x2 = 115 then
    some (0, 0)
  else
    (mm_Fr_after F t_s).bind fun x34 =>
    (mm_Fr_information F t_r x34).bind fun x37 =>
    (if x2 = x37 then
      (mm_Fr_after F t_s).bind fun x48 =>
      (mm_Fr_after F t_r).bind fun x59 =>
      some (x48, x59)
    else
      some (t_s, t_r))) := rfl
def mm_Cn_state (F : Nat) (t_connected : Int32) (t_expected : Int32) (t_next : Int32) (t_association : Int32) : Option (Int32) :=
  (if t_connected = 0 then
    some 0
  else
    some (((1 + (4 * t_association)) + (16 * t_expected)) + (128 * t_next)))
theorem mq_Cn_state (F : Nat) (t_connected : Int32) (t_expected : Int32) (t_next : Int32) (t_association : Int32) : mm_Cn_state F t_connected t_expected t_next t_association =
  (if t_connected = 0 then
    some 0
  else
    some (((1 + (4 * t_association)) + (16 * t_expected)) + (128 * t_next))) := rfl
def mm_Rw_drop (F : Nat) (t_size : Int32) : Option (Int32) :=
  some 0
theorem mq_Rw_drop (F : Nat) (t_size : Int32) : mm_Rw_drop F t_size =
  some 0 := rfl
def mm_Cn_connect (F : Nat) (t_connected : Int32) (t_expected : Int32) (t_next : Int32) (t_association : Int32) (t_blocksSent : Int32) (t_latest_size : Int32) : Option (Int32 × Int32 × Int32 × Int32 × Int32 × Int32) :=
  (mm_Rw_drop F t_latest_size).bind fun x29 =>
  some (1, 0, 0, 0, 0, x29)
theorem mq_Cn_connect (F : Nat) (t_connected : Int32) (t_expected : Int32) (t_next : Int32) (t_association : Int32) (t_blocksSent : Int32) (t_latest_size : Int32) : mm_Cn_connect F t_connected t_expected t_next t_association t_blocksSent t_latest_size =
  (mm_Rw_drop F t_latest_size).bind fun x29 =>
  some (1, 0, 0, 0, 0, x29) := rfl
def mm_Rw_moveBack (F : Nat) (t_bytes_N : Nat) (i1 : Int32) (t_size : Int32) (t_bytes_f : Nat → Int32) : Option (Int32 × (Nat → Int32)) :=
  (if i1 < 0 then
    some (t_size, t_bytes_f)
  else
    (if (Int32.ofNat t_bytes_N) < (t_size + i1) then
      some (t_size, t_bytes_f)
    else
      (if ((0 : Int32) < 0 ∨ i1 < 0 ∨ t_size < 0) ∨ t_bytes_N < (0 : Int32).toNatClampNeg + t_size.toNatClampNeg ∨ t_bytes_N < i1.toNatClampNeg + t_size.toNatClampNeg then none else
      some (t_size + i1, va_cpy t_bytes_f t_bytes_f ((0 : Int32).toNatClampNeg) i1.toNatClampNeg t_size.toNatClampNeg))))
theorem mq_Rw_moveBack (F : Nat) (t_bytes_N : Nat) (i1 : Int32) (t_size : Int32) (t_bytes_f : Nat → Int32) : mm_Rw_moveBack F t_bytes_N i1 t_size t_bytes_f =
  (if i1 < 0 then
    some (t_size, t_bytes_f)
  else
    (if (Int32.ofNat t_bytes_N) < (t_size + i1) then
      some (t_size, t_bytes_f)
    else
      (if ((0 : Int32) < 0 ∨ i1 < 0 ∨ t_size < 0) ∨ t_bytes_N < (0 : Int32).toNatClampNeg + t_size.toNatClampNeg ∨ t_bytes_N < i1.toNatClampNeg + t_size.toNatClampNeg then none else
      some (t_size + i1, va_cpy t_bytes_f t_bytes_f ((0 : Int32).toNatClampNeg) i1.toNatClampNeg t_size.toNatClampNeg)))) := rfl
def mm_Rw_change (F : Nat) (t_bytes_N : Nat) (i1 : Int32) (i2 : Int32) (t_size : Int32) (t_bytes_f : Nat → Int32) : Option (Nat → Int32) :=
  (if i1 < 0 then
    some t_bytes_f
  else
    (if t_size ≤ i1 then
      some t_bytes_f
    else
      (if i1 < 0 ∨ t_bytes_N ≤ i1.toNatClampNeg then none else
      some (upd t_bytes_f i1.toNatClampNeg i2))))
theorem mq_Rw_change (F : Nat) (t_bytes_N : Nat) (i1 : Int32) (i2 : Int32) (t_size : Int32) (t_bytes_f : Nat → Int32) : mm_Rw_change F t_bytes_N i1 i2 t_size t_bytes_f =
  (if i1 < 0 then
    some t_bytes_f
  else
    (if t_size ≤ i1 then
      some t_bytes_f
    else
      (if i1 < 0 ∨ t_bytes_N ≤ i1.toNatClampNeg then none else
      some (upd t_bytes_f i1.toNatClampNeg i2)))) := rfl
def mm_Fr_check_L21 (F : Nat) (p0_bytes_N : Nat) : Nat → (Int32) → (Int32) → Option (Int32)
  | 0, _, _ => none
  | k + 1, v2, v4 =>
    (if 8 ≤ v4 then
      some v2
    else
      (if (v2 &&& 1) = 1 then
        mm_Fr_check_L21 F p0_bytes_N k ((bs_ushr v2 1) ^^^ 33800) (v4 + 1)
      else
        mm_Fr_check_L21 F p0_bytes_N k (bs_ushr v2 1) (v4 + 1)))
theorem mq_Fr_check_L21 (F : Nat) (p0_bytes_N : Nat) (k : Nat) (v2 : Int32) (v4 : Int32) : mm_Fr_check_L21 F p0_bytes_N (k + 1) v2 v4 =
    (if 8 ≤ v4 then
      some v2
    else
      (if (v2 &&& 1) = 1 then
        mm_Fr_check_L21 F p0_bytes_N k ((bs_ushr v2 1) ^^^ 33800) (v4 + 1)
      else
        mm_Fr_check_L21 F p0_bytes_N k (bs_ushr v2 1) (v4 + 1))) := rfl
def mm_Fr_check_L5 (F : Nat) (p0_bytes_N : Nat) : Nat → (Int32) → (Int32) → (Int32) → (Int32) → (Nat → Int32) → Option (Int32)
  | 0, _, _, _, _, _ => none
  | k + 1, v1, v2, v3, p0_size, p0_bytes_f =>
    (if v1 ≤ v3 then
      some (65535 - v2)
    else
      (mm_Rw_at F p0_bytes_N v3 p0_size p0_bytes_f).bind fun x13 =>
      (mm_Fr_check_L21 F p0_bytes_N F (v2 ^^^ x13) 0).bind fun z21 =>
      mm_Fr_check_L5 F p0_bytes_N k v1 z21 (v3 + 1) p0_size p0_bytes_f)
theorem mq_Fr_check_L5 (F : Nat) (p0_bytes_N : Nat) (k : Nat) (v1 : Int32) (v2 : Int32) (v3 : Int32) (p0_size : Int32) (p0_bytes_f : Nat → Int32) : mm_Fr_check_L5 F p0_bytes_N (k + 1) v1 v2 v3 p0_size p0_bytes_f =
    (if v1 ≤ v3 then
      some (65535 - v2)
    else
      (mm_Rw_at F p0_bytes_N v3 p0_size p0_bytes_f).bind fun x13 =>
      (mm_Fr_check_L21 F p0_bytes_N F (v2 ^^^ x13) 0).bind fun z21 =>
      mm_Fr_check_L5 F p0_bytes_N k v1 z21 (v3 + 1) p0_size p0_bytes_f) := rfl
def mm_Fr_check (F : Nat) (p0_bytes_N : Nat) (i1 : Int32) (p0_size : Int32) (p0_bytes_f : Nat → Int32) : Option (Int32) :=
  mm_Fr_check_L5 F p0_bytes_N F i1 65535 1 p0_size p0_bytes_f
theorem mq_Fr_check (F : Nat) (p0_bytes_N : Nat) (i1 : Int32) (p0_size : Int32) (p0_bytes_f : Nat → Int32) : mm_Fr_check F p0_bytes_N i1 p0_size p0_bytes_f =
  mm_Fr_check_L5 F p0_bytes_N F i1 65535 1 p0_size p0_bytes_f := rfl
def mm_Rw_add (F : Nat) (t_bytes_N : Nat) (i1 : Int32) (t_size : Int32) (t_bytes_f : Nat → Int32) : Option (Int32 × (Nat → Int32)) :=
  (if (Int32.ofNat t_bytes_N) ≤ t_size then
    some (t_size, t_bytes_f)
  else
    (if t_size < 0 ∨ t_bytes_N ≤ t_size.toNatClampNeg then none else
    some (t_size + 1, upd t_bytes_f t_size.toNatClampNeg i1)))
theorem mq_Rw_add (F : Nat) (t_bytes_N : Nat) (i1 : Int32) (t_size : Int32) (t_bytes_f : Nat → Int32) : mm_Rw_add F t_bytes_N i1 t_size t_bytes_f =
  (if (Int32.ofNat t_bytes_N) ≤ t_size then
    some (t_size, t_bytes_f)
  else
    (if t_size < 0 ∨ t_bytes_N ≤ t_size.toNatClampNeg then none else
    some (t_size + 1, upd t_bytes_f t_size.toNatClampNeg i1))) := rfl
def mm_Fr_wrap_J36 (F : Nat) (p0_bytes_N : Nat) (v1 : Int32) (v2 : Int32) (s0 : Int32) (s1 : Int32) (p0_size : Int32) (p0_bytes_f : Nat → Int32) : Option (Int32 × (Nat → Int32)) :=
  (mm_Rw_change F p0_bytes_N s1 s0 p0_size p0_bytes_f).bind fun x36 =>
  (mm_Rw_change F p0_bytes_N 2 17 p0_size x36).bind fun x43 =>
  (mm_Rw_change F p0_bytes_N 3 v1 p0_size x43).bind fun x49 =>
  (mm_Fr_check F p0_bytes_N 4 p0_size x49).bind fun x54 =>
  (mm_Rw_change F p0_bytes_N 4 (x54 &&& 255) p0_size x49).bind fun x65 =>
  (mm_Rw_change F p0_bytes_N 5 (x54 >>> (8 &&& 31)) p0_size x65).bind fun x74 =>
  (if v2 ≤ 0 then
    (mm_Rw_add F p0_bytes_N 126 p0_size x74).bind fun x113 =>
    some (x113.1, x113.2)
  else
    (mm_Fr_check F p0_bytes_N p0_size p0_size x74).bind fun x86 =>
    (mm_Rw_add F p0_bytes_N (x86 &&& 255) p0_size x74).bind fun x98 =>
    (mm_Rw_add F p0_bytes_N (x86 >>> (8 &&& 31)) x98.1 x98.2).bind fun x107 =>
    (mm_Rw_add F p0_bytes_N 126 x107.1 x107.2).bind fun x113 =>
    some (x113.1, x113.2))
theorem mq_Fr_wrap_J36 (F : Nat) (p0_bytes_N : Nat) (v1 : Int32) (v2 : Int32) (s0 : Int32) (s1 : Int32) (p0_size : Int32) (p0_bytes_f : Nat → Int32) : mm_Fr_wrap_J36 F p0_bytes_N v1 v2 s0 s1 p0_size p0_bytes_f =
  (mm_Rw_change F p0_bytes_N s1 s0 p0_size p0_bytes_f).bind fun x36 =>
  (mm_Rw_change F p0_bytes_N 2 17 p0_size x36).bind fun x43 =>
  (mm_Rw_change F p0_bytes_N 3 v1 p0_size x43).bind fun x49 =>
  (mm_Fr_check F p0_bytes_N 4 p0_size x49).bind fun x54 =>
  (mm_Rw_change F p0_bytes_N 4 (x54 &&& 255) p0_size x49).bind fun x65 =>
  (mm_Rw_change F p0_bytes_N 5 (x54 >>> (8 &&& 31)) p0_size x65).bind fun x74 =>
  (if v2 ≤ 0 then
    (mm_Rw_add F p0_bytes_N 126 p0_size x74).bind fun x113 =>
    some (x113.1, x113.2)
  else
    (mm_Fr_check F p0_bytes_N p0_size p0_size x74).bind fun x86 =>
    (mm_Rw_add F p0_bytes_N (x86 &&& 255) p0_size x74).bind fun x98 =>
    (mm_Rw_add F p0_bytes_N (x86 >>> (8 &&& 31)) x98.1 x98.2).bind fun x107 =>
    (mm_Rw_add F p0_bytes_N 126 x107.1 x107.2).bind fun x113 =>
    some (x113.1, x113.2)) := rfl
def mm_Fr_wrap (F : Nat) (p0_bytes_N : Nat) (i1 : Int32) (p0_size : Int32) (p0_bytes_f : Nat → Int32) : Option (Int32 × (Nat → Int32)) :=
  (mm_Rw_moveBack F p0_bytes_N 6 p0_size p0_bytes_f).bind fun x8 =>
  (mm_Rw_change F p0_bytes_N 0 126 x8.1 x8.2).bind fun x15 =>
  (if p0_size = 0 then
    mm_Fr_wrap_J36 F p0_bytes_N i1 p0_size 5 1 x8.1 x15
  else
    mm_Fr_wrap_J36 F p0_bytes_N i1 p0_size (((6 + p0_size) + 3) - 2) 1 x8.1 x15)
theorem mq_Fr_wrap (F : Nat) (p0_bytes_N : Nat) (i1 : Int32) (p0_size : Int32) (p0_bytes_f : Nat → Int32) : mm_Fr_wrap F p0_bytes_N i1 p0_size p0_bytes_f =
  (mm_Rw_moveBack F p0_bytes_N 6 p0_size p0_bytes_f).bind fun x8 =>
  (mm_Rw_change F p0_bytes_N 0 126 x8.1 x8.2).bind fun x15 =>
  (if p0_size = 0 then
    mm_Fr_wrap_J36 F p0_bytes_N i1 p0_size 5 1 x8.1 x15
  else
    mm_Fr_wrap_J36 F p0_bytes_N i1 p0_size (((6 + p0_size) + 3) - 2) 1 x8.1 x15) := rfl
def mm_Cn_receiveBare (F : Nat) (p2_bytes_N : Nat) (i1 : Int32) (t_connected : Int32) (t_expected : Int32) (t_next : Int32) (t_association : Int32) (t_blocksSent : Int32) (t_latest_size : Int32) (p2_size : Int32) (p2_bytes_f : Nat → Int32) : Option (Int32 × Int32 × Int32 × Int32 × Int32 × Int32 × Int32 × (Nat → Int32)) :=
  (if i1 = 147 then
    (mm_Cn_connect F t_connected t_expected t_next t_association t_blocksSent t_latest_size).bind fun x8 =>
    (mm_Fr_wrap F p2_bytes_N 115 p2_size p2_bytes_f).bind fun x14 =>
    some (x8.1, x8.2.1, x8.2.2.1, x8.2.2.2.1, x8.2.2.2.2.1, x8.2.2.2.2.2, x14.1, x14.2)
  else
    (if i1 = 83 then
      (if t_connected = 0 then
        (mm_Fr_wrap F p2_bytes_N 31 p2_size p2_bytes_f).bind fun x41 =>
        some (0, t_expected, t_next, t_association, t_blocksSent, t_latest_size, x41.1, x41.2)
      else
        (mm_Fr_wrap F p2_bytes_N 115 p2_size p2_bytes_f).bind fun x41 =>
        some (0, t_expected, t_next, t_association, t_blocksSent, t_latest_size, x41.1, x41.2))
    else
      some (t_connected, t_expected, t_next, t_association, t_blocksSent, t_latest_size, p2_size, p2_bytes_f)))
theorem mq_Cn_receiveBare (F : Nat) (p2_bytes_N : Nat) (i1 : Int32) (t_connected : Int32) (t_expected : Int32) (t_next : Int32) (t_association : Int32) (t_blocksSent : Int32) (t_latest_size : Int32) (p2_size : Int32) (p2_bytes_f : Nat → Int32) : mm_Cn_receiveBare F p2_bytes_N i1 t_connected t_expected t_next t_association t_blocksSent t_latest_size p2_size p2_bytes_f =
  (if i1 = 147 then
    (mm_Cn_connect F t_connected t_expected t_next t_association t_blocksSent t_latest_size).bind fun x8 =>
    (mm_Fr_wrap F p2_bytes_N 115 p2_size p2_bytes_f).bind fun x14 =>
    some (x8.1, x8.2.1, x8.2.2.1, x8.2.2.2.1, x8.2.2.2.2.1, x8.2.2.2.2.2, x14.1, x14.2)
  else
    (if i1 = 83 then
      (if t_connected = 0 then
        (mm_Fr_wrap F p2_bytes_N 31 p2_size p2_bytes_f).bind fun x41 =>
        some (0, t_expected, t_next, t_association, t_blocksSent, t_latest_size, x41.1, x41.2)
      else
        (mm_Fr_wrap F p2_bytes_N 115 p2_size p2_bytes_f).bind fun x41 =>
        some (0, t_expected, t_next, t_association, t_blocksSent, t_latest_size, x41.1, x41.2))
    else
      some (t_connected, t_expected, t_next, t_association, t_blocksSent, t_latest_size, p2_size, p2_bytes_f))) := rfl
def mm_Fr_isInformation (F : Nat) (i0 : Int32) : Option (Int32) :=
  (if (i0 &&& 17) = 16 then
    some 1
  else
    some 0)
theorem mq_Fr_isInformation (F : Nat) (i0 : Int32) : mm_Fr_isInformation F i0 =
  (if (i0 &&& 17) = 16 then
    some 1
  else
    some 0) := rfl
def mm_Fr_payloadSize (F : Nat) (p0_size : Int32) : Option (Int32) :=
  some ((p0_size - 6) - 3)
theorem mq_Fr_payloadSize (F : Nat) (p0_size : Int32) : mm_Fr_payloadSize F p0_size =
  some ((p0_size - 6) - 3) := rfl
def mm_Rw_addPart_L3 (F : Nat) (t_bytes_N : Nat) (p1_bytes_N : Nat) : Nat → (Int32) → (Int32) → (Int32) → (Int32) → (Nat → Int32) → (Int32) → (Nat → Int32) → Option (Int32 × (Nat → Int32))
  | 0, _, _, _, _, _, _, _ => none
  | k + 1, v2, v3, v4, t_size, t_bytes_f, p1_size, p1_bytes_f =>
    (if v3 ≤ v4 then
      some (t_size, t_bytes_f)
    else
      (mm_Rw_at F p1_bytes_N (v2 + v4) p1_size p1_bytes_f).bind fun x15 =>
      (mm_Rw_add F t_bytes_N x15 t_size t_bytes_f).bind fun x18 =>
      mm_Rw_addPart_L3 F t_bytes_N p1_bytes_N k v2 v3 (v4 + 1) x18.1 x18.2 p1_size p1_bytes_f)
theorem mq_Rw_addPart_L3 (F : Nat) (t_bytes_N : Nat) (p1_bytes_N : Nat) (k : Nat) (v2 : Int32) (v3 : Int32) (v4 : Int32) (t_size : Int32) (t_bytes_f : Nat → Int32) (p1_size : Int32) (p1_bytes_f : Nat → Int32) : mm_Rw_addPart_L3 F t_bytes_N p1_bytes_N (k + 1) v2 v3 v4 t_size t_bytes_f p1_size p1_bytes_f =
    (if v3 ≤ v4 then
      some (t_size, t_bytes_f)
    else
      (mm_Rw_at F p1_bytes_N (v2 + v4) p1_size p1_bytes_f).bind fun x15 =>
      (mm_Rw_add F t_bytes_N x15 t_size t_bytes_f).bind fun x18 =>
      mm_Rw_addPart_L3 F t_bytes_N p1_bytes_N k v2 v3 (v4 + 1) x18.1 x18.2 p1_size p1_bytes_f) := rfl
def mm_Rw_addPart (F : Nat) (t_bytes_N : Nat) (p1_bytes_N : Nat) (i2 : Int32) (i3 : Int32) (t_size : Int32) (t_bytes_f : Nat → Int32) (p1_size : Int32) (p1_bytes_f : Nat → Int32) : Option (Int32 × (Nat → Int32)) :=
  mm_Rw_addPart_L3 F t_bytes_N p1_bytes_N F i2 i3 0 t_size t_bytes_f p1_size p1_bytes_f
theorem mq_Rw_addPart (F : Nat) (t_bytes_N : Nat) (p1_bytes_N : Nat) (i2 : Int32) (i3 : Int32) (t_size : Int32) (t_bytes_f : Nat → Int32) (p1_size : Int32) (p1_bytes_f : Nat → Int32) : mm_Rw_addPart F t_bytes_N p1_bytes_N i2 i3 t_size t_bytes_f p1_size p1_bytes_f =
  mm_Rw_addPart_L3 F t_bytes_N p1_bytes_N F i2 i3 0 t_size t_bytes_f p1_size p1_bytes_f := rfl
def mm_Cn_begins (F : Nat) (i1 : Int32) (i2 : Int32) (t_request_size : Int32) (t_request_bytes_f : Nat → Int32) : Option (Int32) :=
  (mm_Rw_at F 60 0 t_request_size t_request_bytes_f).bind fun x5 =>
  (if x5 = i1 then
    (if t_request_size = i2 then
      some 1
    else
      some 0)
  else
    some 0)
theorem mq_Cn_begins (F : Nat) (i1 : Int32) (i2 : Int32) (t_request_size : Int32) (t_request_bytes_f : Nat → Int32) : mm_Cn_begins F i1 i2 t_request_size t_request_bytes_f =
  (mm_Rw_at F 60 0 t_request_size t_request_bytes_f).bind fun x5 =>
  (if x5 = i1 then
    (if t_request_size = i2 then
      some 1
    else
      some 0)
  else
    some 0) := rfl
def mm_Rw_intAt (F : Nat) (t_bytes_N : Nat) (i1 : Int32) (t_size : Int32) (t_bytes_f : Nat → Int32) : Option (Int32) :=
  (mm_Rw_at F t_bytes_N i1 t_size t_bytes_f).bind fun x2 =>
  (mm_Rw_at F t_bytes_N (i1 + 1) t_size t_bytes_f).bind fun x12 =>
  (mm_Rw_at F t_bytes_N (i1 + 2) t_size t_bytes_f).bind fun x23 =>
  (mm_Rw_at F t_bytes_N (i1 + 3) t_size t_bytes_f).bind fun x34 =>
  some ((((x2 <<< (24 &&& 31)) ||| (x12 <<< (16 &&& 31))) ||| (x23 <<< (8 &&& 31))) ||| x34)
theorem mq_Rw_intAt (F : Nat) (t_bytes_N : Nat) (i1 : Int32) (t_size : Int32) (t_bytes_f : Nat → Int32) : mm_Rw_intAt F t_bytes_N i1 t_size t_bytes_f =
  (mm_Rw_at F t_bytes_N i1 t_size t_bytes_f).bind fun x2 =>
  (mm_Rw_at F t_bytes_N (i1 + 1) t_size t_bytes_f).bind fun x12 =>
  (mm_Rw_at F t_bytes_N (i1 + 2) t_size t_bytes_f).bind fun x23 =>
  (mm_Rw_at F t_bytes_N (i1 + 3) t_size t_bytes_f).bind fun x34 =>
  some ((((x2 <<< (24 &&& 31)) ||| (x12 <<< (16 &&& 31))) ||| (x23 <<< (8 &&& 31))) ||| x34) := rfl
def mm_Cn_addTwo (F : Nat) (p0_bytes_N : Nat) (i1 : Int32) (i2 : Int32) (p0_size : Int32) (p0_bytes_f : Nat → Int32) : Option (Int32 × (Nat → Int32)) :=
  (mm_Rw_add F p0_bytes_N i1 p0_size p0_bytes_f).bind fun x2 =>
  (mm_Rw_add F p0_bytes_N i2 x2.1 x2.2).bind fun x7 =>
  some (x7.1, x7.2)
theorem mq_Cn_addTwo (F : Nat) (p0_bytes_N : Nat) (i1 : Int32) (i2 : Int32) (p0_size : Int32) (p0_bytes_f : Nat → Int32) : mm_Cn_addTwo F p0_bytes_N i1 i2 p0_size p0_bytes_f =
  (mm_Rw_add F p0_bytes_N i1 p0_size p0_bytes_f).bind fun x2 =>
  (mm_Rw_add F p0_bytes_N i2 x2.1 x2.2).bind fun x7 =>
  some (x7.1, x7.2) := rfl
def mm_Cn_associate_J39 (F : Nat) (p1_bytes_N : Nat) (v2 : Int32) (s0 : Int32) (t_association : Int32) (p1_size : Int32) (p1_bytes_f : Nat → Int32) : Option (Int32 × Int32 × (Nat → Int32)) :=
  (if s0 = 0 then
    (if s0 = 0 then
      (mm_Cn_addTwo F p1_bytes_N 97 1 p1_size p1_bytes_f).bind fun x65 =>
      some (0, x65.1, x65.2)
    else
      (mm_Cn_addTwo F p1_bytes_N 97 0 p1_size p1_bytes_f).bind fun x65 =>
      some (0, x65.1, x65.2))
  else
    (if s0 = 0 then
      (mm_Cn_addTwo F p1_bytes_N 97 1 p1_size p1_bytes_f).bind fun x65 =>
      some (v2, x65.1, x65.2)
    else
      (mm_Cn_addTwo F p1_bytes_N 97 0 p1_size p1_bytes_f).bind fun x65 =>
      some (v2, x65.1, x65.2)))
theorem mq_Cn_associate_J39 (F : Nat) (p1_bytes_N : Nat) (v2 : Int32) (s0 : Int32) (t_association : Int32) (p1_size : Int32) (p1_bytes_f : Nat → Int32) : mm_Cn_associate_J39 F p1_bytes_N v2 s0 t_association p1_size p1_bytes_f =
  (if s0 = 0 then
    (if s0 = 0 then
      (mm_Cn_addTwo F p1_bytes_N 97 1 p1_size p1_bytes_f).bind fun x65 =>
      some (0, x65.1, x65.2)
    else
      (mm_Cn_addTwo F p1_bytes_N 97 0 p1_size p1_bytes_f).bind fun x65 =>
      some (0, x65.1, x65.2))
  else
    (if s0 = 0 then
      (mm_Cn_addTwo F p1_bytes_N 97 1 p1_size p1_bytes_f).bind fun x65 =>
      some (v2, x65.1, x65.2)
    else
      (mm_Cn_addTwo F p1_bytes_N 97 0 p1_size p1_bytes_f).bind fun x65 =>
      some (v2, x65.1, x65.2))) := rfl
def mm_Cn_associate_J38 (F : Nat) (p1_bytes_N : Nat) (v2 : Int32) (t_association : Int32) (p1_size : Int32) (p1_bytes_f : Nat → Int32) : Option (Int32 × Int32 × (Nat → Int32)) :=
  mm_Cn_associate_J39 F p1_bytes_N v2 0 t_association p1_size p1_bytes_f
theorem mq_Cn_associate_J38 (F : Nat) (p1_bytes_N : Nat) (v2 : Int32) (t_association : Int32) (p1_size : Int32) (p1_bytes_f : Nat → Int32) : mm_Cn_associate_J38 F p1_bytes_N v2 t_association p1_size p1_bytes_f =
  mm_Cn_associate_J39 F p1_bytes_N v2 0 t_association p1_size p1_bytes_f := rfl
def mm_Cn_associate_J34 (F : Nat) (p1_bytes_N : Nat) (v2 : Int32) (t_association : Int32) (p1_size : Int32) (p1_bytes_f : Nat → Int32) : Option (Int32 × Int32 × (Nat → Int32)) :=
  mm_Cn_associate_J39 F p1_bytes_N v2 1 t_association p1_size p1_bytes_f
theorem mq_Cn_associate_J34 (F : Nat) (p1_bytes_N : Nat) (v2 : Int32) (t_association : Int32) (p1_size : Int32) (p1_bytes_f : Nat → Int32) : mm_Cn_associate_J34 F p1_bytes_N v2 t_association p1_size p1_bytes_f =
  mm_Cn_associate_J39 F p1_bytes_N v2 1 t_association p1_size p1_bytes_f := rfl
def mm_Cn_associate (F : Nat) (p1_bytes_N : Nat) (t_secret : Int32) (t_association : Int32) (t_request_size : Int32) (t_request_bytes_f : Nat → Int32) (p1_size : Int32) (p1_bytes_f : Nat → Int32) : Option (Int32 × Int32 × (Nat → Int32)) :=
  (mm_Rw_at F 60 1 t_request_size t_request_bytes_f).bind fun x5 =>
  (if x5 = 1 then
    mm_Cn_associate_J34 F p1_bytes_N x5 t_association p1_size p1_bytes_f
  else
    (if x5 = 2 then
      (mm_Rw_intAt F 60 2 t_request_size t_request_bytes_f).bind fun x24 =>
      (if x24 = t_secret then
        mm_Cn_associate_J34 F p1_bytes_N x5 t_association p1_size p1_bytes_f
      else
        mm_Cn_associate_J38 F p1_bytes_N x5 t_association p1_size p1_bytes_f)
    else
      mm_Cn_associate_J38 F p1_bytes_N x5 t_association p1_size p1_bytes_f))
theorem mq_Cn_associate (F : Nat) (p1_bytes_N : Nat) (t_secret : Int32) (t_association : Int32) (t_request_size : Int32) (t_request_bytes_f : Nat → Int32) (p1_size : Int32) (p1_bytes_f : Nat → Int32) : mm_Cn_associate F p1_bytes_N t_secret t_association t_request_size t_request_bytes_f p1_size p1_bytes_f =
  (mm_Rw_at F 60 1 t_request_size t_request_bytes_f).bind fun x5 =>
  (if x5 = 1 then
    mm_Cn_associate_J34 F p1_bytes_N x5 t_association p1_size p1_bytes_f
  else
    (if x5 = 2 then
      (mm_Rw_intAt F 60 2 t_request_size t_request_bytes_f).bind fun x24 =>
      (if x24 = t_secret then
        mm_Cn_associate_J34 F p1_bytes_N x5 t_association p1_size p1_bytes_f
      else
        mm_Cn_associate_J38 F p1_bytes_N x5 t_association p1_size p1_bytes_f)
    else
      mm_Cn_associate_J38 F p1_bytes_N x5 t_association p1_size p1_bytes_f)) := rfl
def mm_Cn_needsAssociation (F : Nat) (t_request_size : Int32) (t_request_bytes_f : Nat → Int32) : Option (Int32) :=
  (mm_Rw_at F 60 0 t_request_size t_request_bytes_f).bind fun x5 =>
  (if x5 = 192 then
    some 1
  else
    (if x5 = 193 then
      some 1
    else
      (if x5 = 195 then
        some 1
      else
        some 0)))
theorem mq_Cn_needsAssociation (F : Nat) (t_request_size : Int32) (t_request_bytes_f : Nat → Int32) : mm_Cn_needsAssociation F t_request_size t_request_bytes_f =
  (mm_Rw_at F 60 0 t_request_size t_request_bytes_f).bind fun x5 =>
  (if x5 = 192 then
    some 1
  else
    (if x5 = 193 then
      some 1
    else
      (if x5 = 195 then
        some 1
      else
        some 0))) := rfl
def mm_Mt_isObject (F : Nat) (i0 : Int32) : Option (Int32) :=
  (if i0 < 0 then
    some 0
  else
    (if 4 < i0 then
      some 0
    else
      some 1))
theorem mq_Mt_isObject (F : Nat) (i0 : Int32) : mm_Mt_isObject F i0 =
  (if i0 < 0 then
    some 0
  else
    (if 4 < i0 then
      some 0
    else
      some 1)) := rfl
def mm_Mt_isAttribute (F : Nat) (i0 : Int32) (i1 : Int32) : Option (Int32) :=
  (if i0 = 0 then
    (if i1 = 1 then
      some 1
    else
      (if i1 = 2 then
        some 1
      else
        some 0))
  else
    (if i0 = 4 then
      (if i1 < 1 then
        (if i1 = 7 then
          some 1
        else
          (if i1 = 8 then
            some 1
          else
            some 0))
      else
        (if i1 ≤ 4 then
          some 1
        else
          (if i1 = 7 then
            some 1
          else
            (if i1 = 8 then
              some 1
            else
              some 0))))
    else
      (if i1 < 1 then
        some 0
      else
        (if 3 < i1 then
          some 0
        else
          some 1))))
theorem mq_Mt_isAttribute (F : Nat) (i0 : Int32) (i1 : Int32) : mm_Mt_isAttribute F i0 i1 =
  (if i0 = 0 then
    (if i1 = 1 then
      some 1
    else
      (if i1 = 2 then
        some 1
      else
        some 0))
  else
    (if i0 = 4 then
      (if i1 < 1 then
        (if i1 = 7 then
          some 1
        else
          (if i1 = 8 then
            some 1
          else
            some 0))
      else
        (if i1 ≤ 4 then
          some 1
        else
          (if i1 = 7 then
            some 1
          else
            (if i1 = 8 then
              some 1
            else
              some 0))))
    else
      (if i1 < 1 then
        some 0
      else
        (if 3 < i1 then
          some 0
        else
          some 1)))) := rfl
def mm_Mt_resultOfGetting (F : Nat) (i0 : Int32) (i1 : Int32) (i2 : Int32) : Option (Int32) :=
  (mm_Mt_isObject F i0).bind fun x1 =>
  (if x1 = 0 then
    some 4
  else
    (mm_Mt_isAttribute F i0 i1).bind fun x11 =>
    (if x11 = 0 then
      some 9
    else
      (if i2 = 0 then
        some 0
      else
        (if i0 = 4 then
          (if i1 = 2 then
            some 0
          else
            some 13)
        else
          some 13))))
theorem mq_Mt_resultOfGetting (F : Nat) (i0 : Int32) (i1 : Int32) (i2 : Int32) : mm_Mt_resultOfGetting F i0 i1 i2 =
  (mm_Mt_isObject F i0).bind fun x1 =>
  (if x1 = 0 then
    some 4
  else
    (mm_Mt_isAttribute F i0 i1).bind fun x11 =>
    (if x11 = 0 then
      some 9
    else
      (if i2 = 0 then
        some 0
      else
        (if i0 = 4 then
          (if i1 = 2 then
            some 0
          else
            some 13)
        else
          some 13)))) := rfl
def mm_Cn_addFailure (F : Nat) (p0_bytes_N : Nat) (i1 : Int32) (p0_size : Int32) (p0_bytes_f : Nat → Int32) : Option (Int32 × (Nat → Int32)) :=
  (mm_Cn_addTwo F p0_bytes_N 196 1 p0_size p0_bytes_f).bind fun x5 =>
  (mm_Cn_addTwo F p0_bytes_N 1 i1 x5.1 x5.2).bind fun x11 =>
  some (x11.1, x11.2)
theorem mq_Cn_addFailure (F : Nat) (p0_bytes_N : Nat) (i1 : Int32) (p0_size : Int32) (p0_bytes_f : Nat → Int32) : mm_Cn_addFailure F p0_bytes_N i1 p0_size p0_bytes_f =
  (mm_Cn_addTwo F p0_bytes_N 196 1 p0_size p0_bytes_f).bind fun x5 =>
  (mm_Cn_addTwo F p0_bytes_N 1 i1 x5.1 x5.2).bind fun x11 =>
  some (x11.1, x11.2) := rfl
def mm_Rw_addInt (F : Nat) (t_bytes_N : Nat) (i1 : Int32) (t_size : Int32) (t_bytes_f : Nat → Int32) : Option (Int32 × (Nat → Int32)) :=
  (if (Int32.ofNat t_bytes_N) < (t_size + 4) then
    some (t_size, t_bytes_f)
  else
    (if t_size < 0 ∨ t_bytes_N ≤ t_size.toNatClampNeg then none else
    (if (t_size + 1) < 0 ∨ t_bytes_N ≤ (t_size + 1).toNatClampNeg then none else
    (if (t_size + 2) < 0 ∨ t_bytes_N ≤ (t_size + 2).toNatClampNeg then none else
    (if (t_size + 3) < 0 ∨ t_bytes_N ≤ (t_size + 3).toNatClampNeg then none else
    some (t_size + 4, upd (upd (upd (upd t_bytes_f t_size.toNatClampNeg (bs_ushr i1 24)) ((t_size + 1).toNatClampNeg) ((bs_ushr i1 16) &&& 255)) ((t_size + 2).toNatClampNeg) ((bs_ushr i1 8) &&& 255)) ((t_size + 3).toNatClampNeg) (i1 &&& 255)))))))
theorem mq_Rw_addInt (F : Nat) (t_bytes_N : Nat) (i1 : Int32) (t_size : Int32) (t_bytes_f : Nat → Int32) : mm_Rw_addInt F t_bytes_N i1 t_size t_bytes_f =
  (if (Int32.ofNat t_bytes_N) < (t_size + 4) then
    some (t_size, t_bytes_f)
  else
    (if t_size < 0 ∨ t_bytes_N ≤ t_size.toNatClampNeg then none else
    (if (t_size + 1) < 0 ∨ t_bytes_N ≤ (t_size + 1).toNatClampNeg then none else
    (if (t_size + 2) < 0 ∨ t_bytes_N ≤ (t_size + 2).toNatClampNeg then none else
    (if (t_size + 3) < 0 ∨ t_bytes_N ≤ (t_size + 3).toNatClampNeg then none else
    some (t_size + 4, upd (upd (upd (upd t_bytes_f t_size.toNatClampNeg (bs_ushr i1 24)) ((t_size + 1).toNatClampNeg) ((bs_ushr i1 16) &&& 255)) ((t_size + 2).toNatClampNeg) ((bs_ushr i1 8) &&& 255)) ((t_size + 3).toNatClampNeg) (i1 &&& 255))))))) := rfl
def mm_Rw_addTagged (F : Nat) (t_bytes_N : Nat) (i1 : Int32) (i2 : Int32) (t_size : Int32) (t_bytes_f : Nat → Int32) : Option (Int32 × (Nat → Int32)) :=
  (mm_Rw_add F t_bytes_N i1 t_size t_bytes_f).bind fun x2 =>
  (mm_Rw_addInt F t_bytes_N i2 x2.1 x2.2).bind fun x7 =>
  some (x7.1, x7.2)
theorem mq_Rw_addTagged (F : Nat) (t_bytes_N : Nat) (i1 : Int32) (i2 : Int32) (t_size : Int32) (t_bytes_f : Nat → Int32) : mm_Rw_addTagged F t_bytes_N i1 i2 t_size t_bytes_f =
  (mm_Rw_add F t_bytes_N i1 t_size t_bytes_f).bind fun x2 =>
  (mm_Rw_addInt F t_bytes_N i2 x2.1 x2.2).bind fun x7 =>
  some (x7.1, x7.2) := rfl
def mm_Pf_start (F : Nat) (i1 : Int32) (t_first : Int32) : Option (Int32) :=
  some ((bs_rem (t_first + i1) 12) * 4)
theorem mq_Pf_start (F : Nat) (i1 : Int32) (t_first : Int32) : mm_Pf_start F i1 t_first =
  some ((bs_rem (t_first + i1) 12) * 4) := rfl
def mm_Pf_isWithin (F : Nat) (i0 : Int32) (i1 : Int32) (i2 : Int32) : Option (Int32) :=
  (if i1 < 0 then
    some 0
  else
    (if i0 < i1 then
      some 0
    else
      (if i2 < 0 then
        some 1
      else
        (if i2 < i0 then
          some 0
        else
          some 1))))
theorem mq_Pf_isWithin (F : Nat) (i0 : Int32) (i1 : Int32) (i2 : Int32) : mm_Pf_isWithin F i0 i1 i2 =
  (if i1 < 0 then
    some 0
  else
    (if i0 < i1 then
      some 0
    else
      (if i2 < 0 then
        some 1
      else
        (if i2 < i0 then
          some 0
        else
          some 1)))) := rfl
def mm_Pf_writeEntries_L67 (F : Nat) (p1_bytes_N : Nat) : Nat → (Int32) → (Int32) → (Int32) → (Nat → Int32) → (Int32) → (Nat → Int32) → Option (Int32 × (Nat → Int32))
  | 0, _, _, _, _, _, _ => none
  | k + 1, v6, v7, t_columnCount, t_ring_f, p1_size, p1_bytes_f =>
    (if t_columnCount < v7 then
      some (p1_size, p1_bytes_f)
    else
      (if v7 = 0 then
        (if (v6 + v7) < 0 ∨ 48 ≤ (v6 + v7).toNatClampNeg then none else
        (mm_Rw_addTagged F p1_bytes_N 6 (t_ring_f ((v6 + v7).toNatClampNeg)) p1_size p1_bytes_f).bind fun x98 =>
        mm_Pf_writeEntries_L67 F p1_bytes_N k v6 (v7 + 1) t_columnCount t_ring_f x98.1 x98.2)
      else
        (if (v6 + v7) < 0 ∨ 48 ≤ (v6 + v7).toNatClampNeg then none else
        (mm_Rw_addTagged F p1_bytes_N 5 (t_ring_f ((v6 + v7).toNatClampNeg)) p1_size p1_bytes_f).bind fun x98 =>
        mm_Pf_writeEntries_L67 F p1_bytes_N k v6 (v7 + 1) t_columnCount t_ring_f x98.1 x98.2)))
theorem mq_Pf_writeEntries_L67 (F : Nat) (p1_bytes_N : Nat) (k : Nat) (v6 : Int32) (v7 : Int32) (t_columnCount : Int32) (t_ring_f : Nat → Int32) (p1_size : Int32) (p1_bytes_f : Nat → Int32) : mm_Pf_writeEntries_L67 F p1_bytes_N (k + 1) v6 v7 t_columnCount t_ring_f p1_size p1_bytes_f =
    (if t_columnCount < v7 then
      some (p1_size, p1_bytes_f)
    else
      (if v7 = 0 then
        (if (v6 + v7) < 0 ∨ 48 ≤ (v6 + v7).toNatClampNeg then none else
        (mm_Rw_addTagged F p1_bytes_N 6 (t_ring_f ((v6 + v7).toNatClampNeg)) p1_size p1_bytes_f).bind fun x98 =>
        mm_Pf_writeEntries_L67 F p1_bytes_N k v6 (v7 + 1) t_columnCount t_ring_f x98.1 x98.2)
      else
        (if (v6 + v7) < 0 ∨ 48 ≤ (v6 + v7).toNatClampNeg then none else
        (mm_Rw_addTagged F p1_bytes_N 5 (t_ring_f ((v6 + v7).toNatClampNeg)) p1_size p1_bytes_f).bind fun x98 =>
        mm_Pf_writeEntries_L67 F p1_bytes_N k v6 (v7 + 1) t_columnCount t_ring_f x98.1 x98.2))) := rfl
def mm_Pf_writeEntries_L17 (F : Nat) (p1_bytes_N : Nat) : Nat → (Int32) → (Int32) → (Int32) → (Int32) → (Int32) → (Int32) → (Int32) → (Nat → Int32) → (Int32) → (Nat → Int32) → Option (Int32 × (Nat → Int32))
  | 0, _, _, _, _, _, _, _, _, _, _ => none
  | k + 1, v2, v3, v4, v5, t_columnCount, t_first, t_size, t_ring_f, p1_size, p1_bytes_f =>
    (if t_size ≤ v5 then
      (mm_Rw_change F p1_bytes_N 1 v4 p1_size p1_bytes_f).bind fun x120 =>
      some (p1_size, x120)
    else
      (mm_Pf_start F v5 t_first).bind fun x29 =>
      (if x29 < 0 ∨ 48 ≤ x29.toNatClampNeg then none else
      (mm_Pf_isWithin F (t_ring_f x29.toNatClampNeg) v2 v3).bind fun x43 =>
      (if x43 = 0 then
        mm_Pf_writeEntries_L17 F p1_bytes_N k v2 v3 v4 (v5 + 1) t_columnCount t_first t_size t_ring_f p1_size p1_bytes_f
      else
        (mm_Rw_add F p1_bytes_N 2 p1_size p1_bytes_f).bind fun x51 =>
        (mm_Rw_add F p1_bytes_N (t_columnCount + 1) x51.1 x51.2).bind fun x61 =>
        (mm_Pf_writeEntries_L67 F p1_bytes_N F x29 0 t_columnCount t_ring_f x61.1 x61.2).bind fun z67 =>
        mm_Pf_writeEntries_L17 F p1_bytes_N k v2 v3 (v4 + 1) (v5 + 1) t_columnCount t_first t_size t_ring_f z67.1 z67.2)))
theorem mq_Pf_writeEntries_L17 (F : Nat) (p1_bytes_N : Nat) (k : Nat) (v2 : Int32) (v3 : Int32) (v4 : Int32) (v5 : Int32) (t_columnCount : Int32) (t_first : Int32) (t_size : Int32) (t_ring_f : Nat → Int32) (p1_size : Int32) (p1_bytes_f : Nat → Int32) : mm_Pf_writeEntries_L17 F p1_bytes_N (k + 1) v2 v3 v4 v5 t_columnCount t_first t_size t_ring_f p1_size p1_bytes_f =
    (if t_size ≤ v5 then
      (mm_Rw_change F p1_bytes_N 1 v4 p1_size p1_bytes_f).bind fun x120 =>
      some (p1_size, x120)
    else
      (mm_Pf_start F v5 t_first).bind fun x29 =>
      (if x29 < 0 ∨ 48 ≤ x29.toNatClampNeg then none else
      (mm_Pf_isWithin F (t_ring_f x29.toNatClampNeg) v2 v3).bind fun x43 =>
      (if x43 = 0 then
        mm_Pf_writeEntries_L17 F p1_bytes_N k v2 v3 v4 (v5 + 1) t_columnCount t_first t_size t_ring_f p1_size p1_bytes_f
      else
        (mm_Rw_add F p1_bytes_N 2 p1_size p1_bytes_f).bind fun x51 =>
        (mm_Rw_add F p1_bytes_N (t_columnCount + 1) x51.1 x51.2).bind fun x61 =>
        (mm_Pf_writeEntries_L67 F p1_bytes_N F x29 0 t_columnCount t_ring_f x61.1 x61.2).bind fun z67 =>
        mm_Pf_writeEntries_L17 F p1_bytes_N k v2 v3 (v4 + 1) (v5 + 1) t_columnCount t_first t_size t_ring_f z67.1 z67.2))) := rfl
def mm_Pf_writeEntries (F : Nat) (p1_bytes_N : Nat) (i2 : Int32) (i3 : Int32) (t_columnCount : Int32) (t_first : Int32) (t_size : Int32) (t_ring_f : Nat → Int32) (p1_size : Int32) (p1_bytes_f : Nat → Int32) : Option (Int32 × (Nat → Int32)) :=
  (mm_Rw_add F p1_bytes_N 1 p1_size p1_bytes_f).bind fun x5 =>
  (mm_Rw_add F p1_bytes_N 0 x5.1 x5.2).bind fun x11 =>
  mm_Pf_writeEntries_L17 F p1_bytes_N F i2 i3 0 0 t_columnCount t_first t_size t_ring_f x11.1 x11.2
theorem mq_Pf_writeEntries (F : Nat) (p1_bytes_N : Nat) (i2 : Int32) (i3 : Int32) (t_columnCount : Int32) (t_first : Int32) (t_size : Int32) (t_ring_f : Nat → Int32) (p1_size : Int32) (p1_bytes_f : Nat → Int32) : mm_Pf_writeEntries F p1_bytes_N i2 i3 t_columnCount t_first t_size t_ring_f p1_size p1_bytes_f =
  (mm_Rw_add F p1_bytes_N 1 p1_size p1_bytes_f).bind fun x5 =>
  (mm_Rw_add F p1_bytes_N 0 x5.1 x5.2).bind fun x11 =>
  mm_Pf_writeEntries_L17 F p1_bytes_N F i2 i3 0 0 t_columnCount t_first t_size t_ring_f x11.1 x11.2 := rfl
def mm_Pf_writeColumns_L15 (F : Nat) (p1_bytes_N : Nat) : Nat → (Int32) → (Int32) → (Nat → Int32) → (Int32) → (Nat → Int32) → Option (Int32 × (Nat → Int32))
  | 0, _, _, _, _, _ => none
  | k + 1, v2, t_columnCount, t_columns_f, p1_size, p1_bytes_f =>
    (if t_columnCount ≤ v2 then
      some (p1_size, p1_bytes_f)
    else
      (mm_Rw_add F p1_bytes_N 17 p1_size p1_bytes_f).bind fun x26 =>
      (if v2 < 0 ∨ 3 ≤ v2.toNatClampNeg then none else
      (mm_Rw_add F p1_bytes_N (t_columns_f v2.toNatClampNeg) x26.1 x26.2).bind fun x36 =>
      mm_Pf_writeColumns_L15 F p1_bytes_N k (v2 + 1) t_columnCount t_columns_f x36.1 x36.2))
theorem mq_Pf_writeColumns_L15 (F : Nat) (p1_bytes_N : Nat) (k : Nat) (v2 : Int32) (t_columnCount : Int32) (t_columns_f : Nat → Int32) (p1_size : Int32) (p1_bytes_f : Nat → Int32) : mm_Pf_writeColumns_L15 F p1_bytes_N (k + 1) v2 t_columnCount t_columns_f p1_size p1_bytes_f =
    (if t_columnCount ≤ v2 then
      some (p1_size, p1_bytes_f)
    else
      (mm_Rw_add F p1_bytes_N 17 p1_size p1_bytes_f).bind fun x26 =>
      (if v2 < 0 ∨ 3 ≤ v2.toNatClampNeg then none else
      (mm_Rw_add F p1_bytes_N (t_columns_f v2.toNatClampNeg) x26.1 x26.2).bind fun x36 =>
      mm_Pf_writeColumns_L15 F p1_bytes_N k (v2 + 1) t_columnCount t_columns_f x36.1 x36.2)) := rfl
def mm_Pf_writeColumns (F : Nat) (p1_bytes_N : Nat) (t_columnCount : Int32) (t_columns_f : Nat → Int32) (p1_size : Int32) (p1_bytes_f : Nat → Int32) : Option (Int32 × (Nat → Int32)) :=
  (mm_Rw_add F p1_bytes_N 1 p1_size p1_bytes_f).bind fun x2 =>
  (mm_Rw_add F p1_bytes_N t_columnCount x2.1 x2.2).bind fun x10 =>
  mm_Pf_writeColumns_L15 F p1_bytes_N F 0 t_columnCount t_columns_f x10.1 x10.2
theorem mq_Pf_writeColumns (F : Nat) (p1_bytes_N : Nat) (t_columnCount : Int32) (t_columns_f : Nat → Int32) (p1_size : Int32) (p1_bytes_f : Nat → Int32) : mm_Pf_writeColumns F p1_bytes_N t_columnCount t_columns_f p1_size p1_bytes_f =
  (mm_Rw_add F p1_bytes_N 1 p1_size p1_bytes_f).bind fun x2 =>
  (mm_Rw_add F p1_bytes_N t_columnCount x2.1 x2.2).bind fun x10 =>
  mm_Pf_writeColumns_L15 F p1_bytes_N F 0 t_columnCount t_columns_f x10.1 x10.2 := rfl
def mm_Pf_writeSetting (F : Nat) (p1_bytes_N : Nat) (i2 : Int32) (t_columnCount : Int32) (t_capacity : Int32) (t_period : Int32) (t_size : Int32) (t_columns_f : Nat → Int32) (p1_size : Int32) (p1_bytes_f : Nat → Int32) : Option (Int32 × (Nat → Int32)) :=
  (if i2 = 3 then
    (mm_Pf_writeColumns F p1_bytes_N t_columnCount t_columns_f p1_size p1_bytes_f).bind fun x7 =>
    some (x7.1, x7.2)
  else
    (if i2 = 4 then
      (mm_Rw_addTagged F p1_bytes_N 6 t_period p1_size p1_bytes_f).bind fun x25 =>
      some (x25.1, x25.2)
    else
      (if i2 = 7 then
        (mm_Rw_addTagged F p1_bytes_N 6 t_size p1_size p1_bytes_f).bind fun x51 =>
        some (x51.1, x51.2)
      else
        (mm_Rw_addTagged F p1_bytes_N 6 t_capacity p1_size p1_bytes_f).bind fun x51 =>
        some (x51.1, x51.2))))
theorem mq_Pf_writeSetting (F : Nat) (p1_bytes_N : Nat) (i2 : Int32) (t_columnCount : Int32) (t_capacity : Int32) (t_period : Int32) (t_size : Int32) (t_columns_f : Nat → Int32) (p1_size : Int32) (p1_bytes_f : Nat → Int32) : mm_Pf_writeSetting F p1_bytes_N i2 t_columnCount t_capacity t_period t_size t_columns_f p1_size p1_bytes_f =
  (if i2 = 3 then
    (mm_Pf_writeColumns F p1_bytes_N t_columnCount t_columns_f p1_size p1_bytes_f).bind fun x7 =>
    some (x7.1, x7.2)
  else
    (if i2 = 4 then
      (mm_Rw_addTagged F p1_bytes_N 6 t_period p1_size p1_bytes_f).bind fun x25 =>
      some (x25.1, x25.2)
    else
      (if i2 = 7 then
        (mm_Rw_addTagged F p1_bytes_N 6 t_size p1_size p1_bytes_f).bind fun x51 =>
        some (x51.1, x51.2)
      else
        (mm_Rw_addTagged F p1_bytes_N 6 t_capacity p1_size p1_bytes_f).bind fun x51 =>
        some (x51.1, x51.2)))) := rfl
def mm_Mt_isRegister (F : Nat) (i0 : Int32) : Option (Int32) :=
  (if i0 < 1 then
    some 0
  else
    (if 3 < i0 then
      some 0
    else
      some 1))
theorem mq_Mt_isRegister (F : Nat) (i0 : Int32) : mm_Mt_isRegister F i0 =
  (if i0 < 1 then
    some 0
  else
    (if 3 < i0 then
      some 0
    else
      some 1)) := rfl
def mm_Mt_writeRegister (F : Nat) (p1_bytes_N : Nat) (i2 : Int32) (i3 : Int32) (t_registers_f : Nat → Int32) (p1_size : Int32) (p1_bytes_f : Nat → Int32) : Option (Int32 × (Nat → Int32)) :=
  (if i3 = 2 then
    (if (i2 - 1) < 0 ∨ 3 ≤ (i2 - 1).toNatClampNeg then none else
    (mm_Rw_addTagged F p1_bytes_N 5 (t_registers_f ((i2 - 1).toNatClampNeg)) p1_size p1_bytes_f).bind fun x15 =>
    some (x15.1, x15.2))
  else
    (mm_Rw_add F p1_bytes_N 2 p1_size p1_bytes_f).bind fun x23 =>
    (mm_Rw_add F p1_bytes_N 2 x23.1 x23.2).bind fun x28 =>
    (mm_Rw_add F p1_bytes_N 15 x28.1 x28.2).bind fun x34 =>
    (mm_Rw_add F p1_bytes_N ((i2 - 2) &&& 255) x34.1 x34.2).bind fun x45 =>
    (mm_Rw_add F p1_bytes_N 22 x45.1 x45.2).bind fun x51 =>
    (mm_Rw_add F p1_bytes_N (27 + i2) x51.1 x51.2).bind fun x59 =>
    some (x59.1, x59.2))
theorem mq_Mt_writeRegister (F : Nat) (p1_bytes_N : Nat) (i2 : Int32) (i3 : Int32) (t_registers_f : Nat → Int32) (p1_size : Int32) (p1_bytes_f : Nat → Int32) : mm_Mt_writeRegister F p1_bytes_N i2 i3 t_registers_f p1_size p1_bytes_f =
  (if i3 = 2 then
    (if (i2 - 1) < 0 ∨ 3 ≤ (i2 - 1).toNatClampNeg then none else
    (mm_Rw_addTagged F p1_bytes_N 5 (t_registers_f ((i2 - 1).toNatClampNeg)) p1_size p1_bytes_f).bind fun x15 =>
    some (x15.1, x15.2))
  else
    (mm_Rw_add F p1_bytes_N 2 p1_size p1_bytes_f).bind fun x23 =>
    (mm_Rw_add F p1_bytes_N 2 x23.1 x23.2).bind fun x28 =>
    (mm_Rw_add F p1_bytes_N 15 x28.1 x28.2).bind fun x34 =>
    (mm_Rw_add F p1_bytes_N ((i2 - 2) &&& 255) x34.1 x34.2).bind fun x45 =>
    (mm_Rw_add F p1_bytes_N 22 x45.1 x45.2).bind fun x51 =>
    (mm_Rw_add F p1_bytes_N (27 + i2) x51.1 x51.2).bind fun x59 =>
    some (x59.1, x59.2)) := rfl
def mm_Mt_write_J71 (F : Nat) (p1_bytes_N : Nat) (v2 : Int32) (v3 : Int32) (t_registers_f : Nat → Int32) (t_profile_columnCount : Int32) (t_profile_capacity : Int32) (t_profile_period : Int32) (t_profile_size : Int32) (t_profile_columns_f : Nat → Int32) (p1_size : Int32) (p1_bytes_f : Nat → Int32) : Option (Int32 × (Nat → Int32)) :=
  (if v2 = 4 then
    (mm_Pf_writeSetting F p1_bytes_N v3 t_profile_columnCount t_profile_capacity t_profile_period t_profile_size t_profile_columns_f p1_size p1_bytes_f).bind fun x82 =>
    some (x82.1, x82.2)
  else
    (mm_Mt_isRegister F v2).bind fun x89 =>
    (if x89 = 0 then
      some (p1_size, p1_bytes_f)
    else
      (mm_Mt_writeRegister F p1_bytes_N v2 v3 t_registers_f p1_size p1_bytes_f).bind fun x99 =>
      some (x99.1, x99.2)))
theorem mq_Mt_write_J71 (F : Nat) (p1_bytes_N : Nat) (v2 : Int32) (v3 : Int32) (t_registers_f : Nat → Int32) (t_profile_columnCount : Int32) (t_profile_capacity : Int32) (t_profile_period : Int32) (t_profile_size : Int32) (t_profile_columns_f : Nat → Int32) (p1_size : Int32) (p1_bytes_f : Nat → Int32) : mm_Mt_write_J71 F p1_bytes_N v2 v3 t_registers_f t_profile_columnCount t_profile_capacity t_profile_period t_profile_size t_profile_columns_f p1_size p1_bytes_f =
  (if v2 = 4 then
    (mm_Pf_writeSetting F p1_bytes_N v3 t_profile_columnCount t_profile_capacity t_profile_period t_profile_size t_profile_columns_f p1_size p1_bytes_f).bind fun x82 =>
    some (x82.1, x82.2)
  else
    (mm_Mt_isRegister F v2).bind fun x89 =>
    (if x89 = 0 then
      some (p1_size, p1_bytes_f)
    else
      (mm_Mt_writeRegister F p1_bytes_N v2 v3 t_registers_f p1_size p1_bytes_f).bind fun x99 =>
      some (x99.1, x99.2))) := rfl
def mm_Mt_write (F : Nat) (p1_bytes_N : Nat) (i2 : Int32) (i3 : Int32) (i4 : Int32) (i5 : Int32) (t_now : Int32) (t_registers_f : Nat → Int32) (t_profile_columnCount : Int32) (t_profile_capacity : Int32) (t_profile_period : Int32) (t_profile_first : Int32) (t_profile_size : Int32) (t_profile_columns_f : Nat → Int32) (t_profile_ring_f : Nat → Int32) (p1_size : Int32) (p1_bytes_f : Nat → Int32) : Option (Int32 × (Nat → Int32)) :=
  (if i3 = 1 then
    (mm_Rw_add F p1_bytes_N 9 p1_size p1_bytes_f).bind fun x8 =>
    (mm_Rw_add F p1_bytes_N 2 x8.1 x8.2).bind fun x13 =>
    (mm_Rw_add F p1_bytes_N 1 x13.1 x13.2).bind fun x18 =>
    (mm_Rw_add F p1_bytes_N i2 x18.1 x18.2).bind fun x23 =>
    some (x23.1, x23.2)
  else
    (if i2 = 0 then
      (mm_Rw_addTagged F p1_bytes_N 6 t_now p1_size p1_bytes_f).bind fun x40 =>
      some (x40.1, x40.2)
    else
      (if i2 = 4 then
        (if i3 = 2 then
          (mm_Pf_writeEntries F p1_bytes_N i4 i5 t_profile_columnCount t_profile_first t_profile_size t_profile_ring_f p1_size p1_bytes_f).bind fun x65 =>
          some (x65.1, x65.2)
        else
          mm_Mt_write_J71 F p1_bytes_N i2 i3 t_registers_f t_profile_columnCount t_profile_capacity t_profile_period t_profile_size t_profile_columns_f p1_size p1_bytes_f)
      else
        mm_Mt_write_J71 F p1_bytes_N i2 i3 t_registers_f t_profile_columnCount t_profile_capacity t_profile_period t_profile_size t_profile_columns_f p1_size p1_bytes_f)))
theorem mq_Mt_write (F : Nat) (p1_bytes_N : Nat) (i2 : Int32) (i3 : Int32) (i4 : Int32) (i5 : Int32) (t_now : Int32) (t_registers_f : Nat → Int32) (t_profile_columnCount : Int32) (t_profile_capacity : Int32) (t_profile_period : Int32) (t_profile_first : Int32) (t_profile_size : Int32) (t_profile_columns_f : Nat → Int32) (t_profile_ring_f : Nat → Int32) (p1_size : Int32) (p1_bytes_f : Nat → Int32) : mm_Mt_write F p1_bytes_N i2 i3 i4 i5 t_now t_registers_f t_profile_columnCount t_profile_capacity t_profile_period t_profile_first t_profile_size t_profile_columns_f t_profile_ring_f p1_size p1_bytes_f =
  (if i3 = 1 then
    (mm_Rw_add F p1_bytes_N 9 p1_size p1_bytes_f).bind fun x8 =>
    (mm_Rw_add F p1_bytes_N 2 x8.1 x8.2).bind fun x13 =>
    (mm_Rw_add F p1_bytes_N 1 x13.1 x13.2).bind fun x18 =>
    (mm_Rw_add F p1_bytes_N i2 x18.1 x18.2).bind fun x23 =>
    some (x23.1, x23.2)
  else
    (if i2 = 0 then
      (mm_Rw_addTagged F p1_bytes_N 6 t_now p1_size p1_bytes_f).bind fun x40 =>
      some (x40.1, x40.2)
    else
      (if i2 = 4 then
        (if i3 = 2 then
          (mm_Pf_writeEntries F p1_bytes_N i4 i5 t_profile_columnCount t_profile_first t_profile_size t_profile_ring_f p1_size p1_bytes_f).bind fun x65 =>
          some (x65.1, x65.2)
        else
          mm_Mt_write_J71 F p1_bytes_N i2 i3 t_registers_f t_profile_columnCount t_profile_capacity t_profile_period t_profile_size t_profile_columns_f p1_size p1_bytes_f)
      else
        mm_Mt_write_J71 F p1_bytes_N i2 i3 t_registers_f t_profile_columnCount t_profile_capacity t_profile_period t_profile_size t_profile_columns_f p1_size p1_bytes_f))) := rfl
def mm_Cn_sendBlock_J51 (F : Nat) (p1_bytes_N : Nat) (v2 : Int32) (v3 : Int32) (v4 : Int32) (v5 : Int32) (s0 : Int32) (t_blocksSent : Int32) (t_value_size : Int32) (t_value_bytes_f : Nat → Int32) (p1_size : Int32) (p1_bytes_f : Nat → Int32) : Option (Int32 × Int32 × (Nat → Int32)) :=
  (mm_Cn_addTwo F p1_bytes_N s0 v2 p1_size p1_bytes_f).bind fun x52 =>
  (if v5 = 0 then
    (mm_Rw_addPart F p1_bytes_N 266 v3 40 x52.1 x52.2 t_value_size t_value_bytes_f).bind fun x73 =>
    (if v5 = 0 then
      some (v2, x73.1, x73.2)
    else
      some (0, x73.1, x73.2))
  else
    (mm_Rw_addPart F p1_bytes_N 266 v3 v4 x52.1 x52.2 t_value_size t_value_bytes_f).bind fun x73 =>
    (if v5 = 0 then
      some (v2, x73.1, x73.2)
    else
      some (0, x73.1, x73.2)))
theorem mq_Cn_sendBlock_J51 (F : Nat) (p1_bytes_N : Nat) (v2 : Int32) (v3 : Int32) (v4 : Int32) (v5 : Int32) (s0 : Int32) (t_blocksSent : Int32) (t_value_size : Int32) (t_value_bytes_f : Nat → Int32) (p1_size : Int32) (p1_bytes_f : Nat → Int32) : mm_Cn_sendBlock_J51 F p1_bytes_N v2 v3 v4 v5 s0 t_blocksSent t_value_size t_value_bytes_f p1_size p1_bytes_f =
  (mm_Cn_addTwo F p1_bytes_N s0 v2 p1_size p1_bytes_f).bind fun x52 =>
  (if v5 = 0 then
    (mm_Rw_addPart F p1_bytes_N 266 v3 40 x52.1 x52.2 t_value_size t_value_bytes_f).bind fun x73 =>
    (if v5 = 0 then
      some (v2, x73.1, x73.2)
    else
      some (0, x73.1, x73.2))
  else
    (mm_Rw_addPart F p1_bytes_N 266 v3 v4 x52.1 x52.2 t_value_size t_value_bytes_f).bind fun x73 =>
    (if v5 = 0 then
      some (v2, x73.1, x73.2)
    else
      some (0, x73.1, x73.2))) := rfl
def mm_Cn_sendBlock_J30 (F : Nat) (p1_bytes_N : Nat) (v2 : Int32) (v3 : Int32) (v4 : Int32) (s0 : Int32) (t_blocksSent : Int32) (t_value_size : Int32) (t_value_bytes_f : Nat → Int32) (p1_size : Int32) (p1_bytes_f : Nat → Int32) : Option (Int32 × Int32 × (Nat → Int32)) :=
  (mm_Cn_addTwo F p1_bytes_N 196 2 p1_size p1_bytes_f).bind fun x37 =>
  (if s0 = 0 then
    mm_Cn_sendBlock_J51 F p1_bytes_N v2 v3 v4 s0 0 t_blocksSent t_value_size t_value_bytes_f x37.1 x37.2
  else
    mm_Cn_sendBlock_J51 F p1_bytes_N v2 v3 v4 s0 1 t_blocksSent t_value_size t_value_bytes_f x37.1 x37.2)
theorem mq_Cn_sendBlock_J30 (F : Nat) (p1_bytes_N : Nat) (v2 : Int32) (v3 : Int32) (v4 : Int32) (s0 : Int32) (t_blocksSent : Int32) (t_value_size : Int32) (t_value_bytes_f : Nat → Int32) (p1_size : Int32) (p1_bytes_f : Nat → Int32) : mm_Cn_sendBlock_J30 F p1_bytes_N v2 v3 v4 s0 t_blocksSent t_value_size t_value_bytes_f p1_size p1_bytes_f =
  (mm_Cn_addTwo F p1_bytes_N 196 2 p1_size p1_bytes_f).bind fun x37 =>
  (if s0 = 0 then
    mm_Cn_sendBlock_J51 F p1_bytes_N v2 v3 v4 s0 0 t_blocksSent t_value_size t_value_bytes_f x37.1 x37.2
  else
    mm_Cn_sendBlock_J51 F p1_bytes_N v2 v3 v4 s0 1 t_blocksSent t_value_size t_value_bytes_f x37.1 x37.2) := rfl
def mm_Cn_sendBlock (F : Nat) (p1_bytes_N : Nat) (i2 : Int32) (t_blocksSent : Int32) (t_value_size : Int32) (t_value_bytes_f : Nat → Int32) (p1_size : Int32) (p1_bytes_f : Nat → Int32) : Option (Int32 × Int32 × (Nat → Int32)) :=
  (if 40 < (t_value_size - (40 * (i2 - 1))) then
    mm_Cn_sendBlock_J30 F p1_bytes_N i2 (40 * (i2 - 1)) (t_value_size - (40 * (i2 - 1))) 0 t_blocksSent t_value_size t_value_bytes_f p1_size p1_bytes_f
  else
    mm_Cn_sendBlock_J30 F p1_bytes_N i2 (40 * (i2 - 1)) (t_value_size - (40 * (i2 - 1))) 1 t_blocksSent t_value_size t_value_bytes_f p1_size p1_bytes_f)
theorem mq_Cn_sendBlock (F : Nat) (p1_bytes_N : Nat) (i2 : Int32) (t_blocksSent : Int32) (t_value_size : Int32) (t_value_bytes_f : Nat → Int32) (p1_size : Int32) (p1_bytes_f : Nat → Int32) : mm_Cn_sendBlock F p1_bytes_N i2 t_blocksSent t_value_size t_value_bytes_f p1_size p1_bytes_f =
  (if 40 < (t_value_size - (40 * (i2 - 1))) then
    mm_Cn_sendBlock_J30 F p1_bytes_N i2 (40 * (i2 - 1)) (t_value_size - (40 * (i2 - 1))) 0 t_blocksSent t_value_size t_value_bytes_f p1_size p1_bytes_f
  else
    mm_Cn_sendBlock_J30 F p1_bytes_N i2 (40 * (i2 - 1)) (t_value_size - (40 * (i2 - 1))) 1 t_blocksSent t_value_size t_value_bytes_f p1_size p1_bytes_f) := rfl
def mm_Cn_answerGet (F : Nat) (p1_bytes_N : Nat) (i2 : Int32) (i3 : Int32) (i4 : Int32) (t_blocksSent : Int32) (t_meter_now : Int32) (t_meter_registers_f : Nat → Int32) (t_meter_profile_columnCount : Int32) (t_meter_profile_capacity : Int32) (t_meter_profile_period : Int32) (t_meter_profile_first : Int32) (t_meter_profile_size : Int32) (t_meter_profile_columns_f : Nat → Int32) (t_meter_profile_ring_f : Nat → Int32) (t_request_size : Int32) (t_request_bytes_f : Nat → Int32) (t_value_size : Int32) (t_value_bytes_f : Nat → Int32) (p1_size : Int32) (p1_bytes_f : Nat → Int32) : Option (Int32 × Int32 × (Nat → Int32) × Int32 × (Nat → Int32)) :=
  (mm_Rw_at F 60 2 t_request_size t_request_bytes_f).bind fun x5 =>
  (mm_Rw_at F 60 3 t_request_size t_request_bytes_f).bind fun x15 =>
  (mm_Mt_resultOfGetting F x5 x15 i2).bind fun x25 =>
  (if x25 = 0 then
    (mm_Rw_drop F t_value_size).bind fun x46 =>
    (mm_Mt_write F 266 x5 x15 i3 i4 t_meter_now t_meter_registers_f t_meter_profile_columnCount t_meter_profile_capacity t_meter_profile_period t_meter_profile_first t_meter_profile_size t_meter_profile_columns_f t_meter_profile_ring_f x46 t_value_bytes_f).bind fun x64 =>
    (if x64.1 ≤ 40 then
      (mm_Cn_addTwo F p1_bytes_N 196 1 p1_size p1_bytes_f).bind fun x93 =>
      (mm_Rw_add F p1_bytes_N 0 x93.1 x93.2).bind fun x98 =>
      (mm_Rw_addPart F p1_bytes_N 266 0 x64.1 x98.1 x98.2 x64.1 x64.2).bind fun x114 =>
      some (t_blocksSent, x64.1, x64.2, x114.1, x114.2)
    else
      (mm_Cn_sendBlock F p1_bytes_N 1 t_blocksSent x64.1 x64.2 p1_size p1_bytes_f).bind fun x82 =>
      some (x82.1, x64.1, x64.2, x82.2.1, x82.2.2))
  else
    (mm_Cn_addFailure F p1_bytes_N x25 p1_size p1_bytes_f).bind fun x38 =>
    some (t_blocksSent, t_value_size, t_value_bytes_f, x38.1, x38.2))
theorem mq_Cn_answerGet (F : Nat) (p1_bytes_N : Nat) (i2 : Int32) (i3 : Int32) (i4 : Int32) (t_blocksSent : Int32) (t_meter_now : Int32) (t_meter_registers_f : Nat → Int32) (t_meter_profile_columnCount : Int32) (t_meter_profile_capacity : Int32) (t_meter_profile_period : Int32) (t_meter_profile_first : Int32) (t_meter_profile_size : Int32) (t_meter_profile_columns_f : Nat → Int32) (t_meter_profile_ring_f : Nat → Int32) (t_request_size : Int32) (t_request_bytes_f : Nat → Int32) (t_value_size : Int32) (t_value_bytes_f : Nat → Int32) (p1_size : Int32) (p1_bytes_f : Nat → Int32) : mm_Cn_answerGet F p1_bytes_N i2 i3 i4 t_blocksSent t_meter_now t_meter_registers_f t_meter_profile_columnCount t_meter_profile_capacity t_meter_profile_period t_meter_profile_first t_meter_profile_size t_meter_profile_columns_f t_meter_profile_ring_f t_request_size t_request_bytes_f t_value_size t_value_bytes_f p1_size p1_bytes_f =
  (mm_Rw_at F 60 2 t_request_size t_request_bytes_f).bind fun x5 =>
  (mm_Rw_at F 60 3 t_request_size t_request_bytes_f).bind fun x15 =>
  (mm_Mt_resultOfGetting F x5 x15 i2).bind fun x25 =>
  (if x25 = 0 then
    (mm_Rw_drop F t_value_size).bind fun x46 =>
    (mm_Mt_write F 266 x5 x15 i3 i4 t_meter_now t_meter_registers_f t_meter_profile_columnCount t_meter_profile_capacity t_meter_profile_period t_meter_profile_first t_meter_profile_size t_meter_profile_columns_f t_meter_profile_ring_f x46 t_value_bytes_f).bind fun x64 =>
    (if x64.1 ≤ 40 then
      (mm_Cn_addTwo F p1_bytes_N 196 1 p1_size p1_bytes_f).bind fun x93 =>
      (mm_Rw_add F p1_bytes_N 0 x93.1 x93.2).bind fun x98 =>
      (mm_Rw_addPart F p1_bytes_N 266 0 x64.1 x98.1 x98.2 x64.1 x64.2).bind fun x114 =>
      some (t_blocksSent, x64.1, x64.2, x114.1, x114.2)
    else
      (mm_Cn_sendBlock F p1_bytes_N 1 t_blocksSent x64.1 x64.2 p1_size p1_bytes_f).bind fun x82 =>
      some (x82.1, x64.1, x64.2, x82.2.1, x82.2.2))
  else
    (mm_Cn_addFailure F p1_bytes_N x25 p1_size p1_bytes_f).bind fun x38 =>
    some (t_blocksSent, t_value_size, t_value_bytes_f, x38.1, x38.2)) := rfl
def mm_Cn_answerNextBlock (F : Nat) (p1_bytes_N : Nat) (i2 : Int32) (t_blocksSent : Int32) (t_request_size : Int32) (t_request_bytes_f : Nat → Int32) (t_value_size : Int32) (t_value_bytes_f : Nat → Int32) (p1_size : Int32) (p1_bytes_f : Nat → Int32) : Option (Int32 × Int32 × (Nat → Int32)) :=
  (if i2 = 0 then
    (mm_Cn_addFailure F p1_bytes_N 16 p1_size p1_bytes_f).bind fun x7 =>
    some (t_blocksSent, x7.1, x7.2)
  else
    (mm_Rw_at F 60 2 t_request_size t_request_bytes_f).bind fun x18 =>
    (if x18 = i2 then
      (mm_Cn_sendBlock F p1_bytes_N (i2 + 1) t_blocksSent t_value_size t_value_bytes_f p1_size p1_bytes_f).bind fun x39 =>
      some (x39.1, x39.2.1, x39.2.2)
    else
      (mm_Cn_addFailure F p1_bytes_N 19 p1_size p1_bytes_f).bind fun x28 =>
      some (t_blocksSent, x28.1, x28.2)))
theorem mq_Cn_answerNextBlock (F : Nat) (p1_bytes_N : Nat) (i2 : Int32) (t_blocksSent : Int32) (t_request_size : Int32) (t_request_bytes_f : Nat → Int32) (t_value_size : Int32) (t_value_bytes_f : Nat → Int32) (p1_size : Int32) (p1_bytes_f : Nat → Int32) : mm_Cn_answerNextBlock F p1_bytes_N i2 t_blocksSent t_request_size t_request_bytes_f t_value_size t_value_bytes_f p1_size p1_bytes_f =
  (if i2 = 0 then
    (mm_Cn_addFailure F p1_bytes_N 16 p1_size p1_bytes_f).bind fun x7 =>
    some (t_blocksSent, x7.1, x7.2)
  else
    (mm_Rw_at F 60 2 t_request_size t_request_bytes_f).bind fun x18 =>
    (if x18 = i2 then
      (mm_Cn_sendBlock F p1_bytes_N (i2 + 1) t_blocksSent t_value_size t_value_bytes_f p1_size p1_bytes_f).bind fun x39 =>
      some (x39.1, x39.2.1, x39.2.2)
    else
      (mm_Cn_addFailure F p1_bytes_N 19 p1_size p1_bytes_f).bind fun x28 =>
      some (t_blocksSent, x28.1, x28.2))) := rfl
def mm_Mt_isSettable (F : Nat) (i0 : Int32) (i1 : Int32) : Option (Int32) :=
  (if i0 = 4 then
    (if i1 = 3 then
      some 1
    else
      (if i1 = 4 then
        some 1
      else
        (if i1 = 8 then
          some 1
        else
          some 0)))
  else
    (if i1 = 2 then
      some 1
    else
      some 0))
theorem mq_Mt_isSettable (F : Nat) (i0 : Int32) (i1 : Int32) : mm_Mt_isSettable F i0 i1 =
  (if i0 = 4 then
    (if i1 = 3 then
      some 1
    else
      (if i1 = 4 then
        some 1
      else
        (if i1 = 8 then
          some 1
        else
          some 0)))
  else
    (if i1 = 2 then
      some 1
    else
      some 0)) := rfl
def mm_Pf_hasColumns_L43 (F : Nat) (p0_bytes_N : Nat) : Nat → (Int32) → (Int32) → (Int32) → (Int32) → (Nat → Int32) → Option (Int32)
  | 0, _, _, _, _, _ => none
  | k + 1, v1, v2, v3, p0_size, p0_bytes_f =>
    (if v1 ≤ v3 then
      some 1
    else
      (mm_Rw_at F p0_bytes_N (6 + (2 * v3)) p0_size p0_bytes_f).bind fun x55 =>
      (mm_Rw_at F p0_bytes_N (5 + (2 * v3)) p0_size p0_bytes_f).bind fun x66 =>
      (if x66 = 17 then
        (mm_Mt_isRegister F x55).bind fun x76 =>
        (if x76 = 0 then
          some 0
        else
          (if ((v2 >>> (x55 &&& 31)) &&& 1) = 1 then
            some 0
          else
            mm_Pf_hasColumns_L43 F p0_bytes_N k v1 (v2 ||| (1 <<< (x55 &&& 31))) (v3 + 1) p0_size p0_bytes_f))
      else
        some 0))
theorem mq_Pf_hasColumns_L43 (F : Nat) (p0_bytes_N : Nat) (k : Nat) (v1 : Int32) (v2 : Int32) (v3 : Int32) (p0_size : Int32) (p0_bytes_f : Nat → Int32) : mm_Pf_hasColumns_L43 F p0_bytes_N (k + 1) v1 v2 v3 p0_size p0_bytes_f =
    (if v1 ≤ v3 then
      some 1
    else
      (mm_Rw_at F p0_bytes_N (6 + (2 * v3)) p0_size p0_bytes_f).bind fun x55 =>
      (mm_Rw_at F p0_bytes_N (5 + (2 * v3)) p0_size p0_bytes_f).bind fun x66 =>
      (if x66 = 17 then
        (mm_Mt_isRegister F x55).bind fun x76 =>
        (if x76 = 0 then
          some 0
        else
          (if ((v2 >>> (x55 &&& 31)) &&& 1) = 1 then
            some 0
          else
            mm_Pf_hasColumns_L43 F p0_bytes_N k v1 (v2 ||| (1 <<< (x55 &&& 31))) (v3 + 1) p0_size p0_bytes_f))
      else
        some 0)) := rfl
def mm_Pf_hasColumns (F : Nat) (p0_bytes_N : Nat) (p0_size : Int32) (p0_bytes_f : Nat → Int32) : Option (Int32) :=
  (mm_Rw_at F p0_bytes_N 4 p0_size p0_bytes_f).bind fun x2 =>
  (mm_Rw_at F p0_bytes_N 3 p0_size p0_bytes_f).bind fun x8 =>
  (if x8 = 1 then
    (if x2 < 1 then
      some 0
    else
      (if 3 < x2 then
        some 0
      else
        (if p0_size = (5 + (2 * x2)) then
          mm_Pf_hasColumns_L43 F p0_bytes_N F x2 0 0 p0_size p0_bytes_f
        else
          some 0)))
  else
    some 0)
theorem mq_Pf_hasColumns (F : Nat) (p0_bytes_N : Nat) (p0_size : Int32) (p0_bytes_f : Nat → Int32) : mm_Pf_hasColumns F p0_bytes_N p0_size p0_bytes_f =
  (mm_Rw_at F p0_bytes_N 4 p0_size p0_bytes_f).bind fun x2 =>
  (mm_Rw_at F p0_bytes_N 3 p0_size p0_bytes_f).bind fun x8 =>
  (if x8 = 1 then
    (if x2 < 1 then
      some 0
    else
      (if 3 < x2 then
        some 0
      else
        (if p0_size = (5 + (2 * x2)) then
          mm_Pf_hasColumns_L43 F p0_bytes_N F x2 0 0 p0_size p0_bytes_f
        else
          some 0)))
  else
    some 0) := rfl
def mm_Pf_forget (F : Nat) (t_first : Int32) (t_size : Int32) : Option (Int32 × Int32) :=
  some (0, 0)
theorem mq_Pf_forget (F : Nat) (t_first : Int32) (t_size : Int32) : mm_Pf_forget F t_first t_size =
  some (0, 0) := rfl
def mm_Pf_takeColumns_L20 (F : Nat) (p1_bytes_N : Nat) : Nat → (Int32) → (Int32) → (Int32) → (Int32) → (Nat → Int32) → (Int32) → (Nat → Int32) → Option (Int32 × Int32 × Int32 × Int32 × (Nat → Int32))
  | 0, _, _, _, _, _, _, _ => none
  | k + 1, v2, t_columnCount, t_first, t_size, t_columns_f, p1_size, p1_bytes_f =>
    (if t_columnCount ≤ v2 then
      (mm_Pf_forget F t_first t_size).bind fun x51 =>
      some (1, t_columnCount, x51.1, x51.2, t_columns_f)
    else
      (mm_Rw_at F p1_bytes_N (6 + (2 * v2)) p1_size p1_bytes_f).bind fun x40 =>
      (if v2 < 0 ∨ 3 ≤ v2.toNatClampNeg then none else
      mm_Pf_takeColumns_L20 F p1_bytes_N k (v2 + 1) t_columnCount t_first t_size (upd t_columns_f v2.toNatClampNeg x40) p1_size p1_bytes_f))
theorem mq_Pf_takeColumns_L20 (F : Nat) (p1_bytes_N : Nat) (k : Nat) (v2 : Int32) (t_columnCount : Int32) (t_first : Int32) (t_size : Int32) (t_columns_f : Nat → Int32) (p1_size : Int32) (p1_bytes_f : Nat → Int32) : mm_Pf_takeColumns_L20 F p1_bytes_N (k + 1) v2 t_columnCount t_first t_size t_columns_f p1_size p1_bytes_f =
    (if t_columnCount ≤ v2 then
      (mm_Pf_forget F t_first t_size).bind fun x51 =>
      some (1, t_columnCount, x51.1, x51.2, t_columns_f)
    else
      (mm_Rw_at F p1_bytes_N (6 + (2 * v2)) p1_size p1_bytes_f).bind fun x40 =>
      (if v2 < 0 ∨ 3 ≤ v2.toNatClampNeg then none else
      mm_Pf_takeColumns_L20 F p1_bytes_N k (v2 + 1) t_columnCount t_first t_size (upd t_columns_f v2.toNatClampNeg x40) p1_size p1_bytes_f)) := rfl
def mm_Pf_takeColumns (F : Nat) (p1_bytes_N : Nat) (t_columnCount : Int32) (t_first : Int32) (t_size : Int32) (t_columns_f : Nat → Int32) (p1_size : Int32) (p1_bytes_f : Nat → Int32) : Option (Int32 × Int32 × Int32 × Int32 × (Nat → Int32)) :=
  (mm_Pf_hasColumns F p1_bytes_N p1_size p1_bytes_f).bind fun x1 =>
  (if x1 = 0 then
    some (0, t_columnCount, t_first, t_size, t_columns_f)
  else
    (mm_Rw_at F p1_bytes_N 4 p1_size p1_bytes_f).bind fun x12 =>
    mm_Pf_takeColumns_L20 F p1_bytes_N F 0 x12 t_first t_size t_columns_f p1_size p1_bytes_f)
theorem mq_Pf_takeColumns (F : Nat) (p1_bytes_N : Nat) (t_columnCount : Int32) (t_first : Int32) (t_size : Int32) (t_columns_f : Nat → Int32) (p1_size : Int32) (p1_bytes_f : Nat → Int32) : mm_Pf_takeColumns F p1_bytes_N t_columnCount t_first t_size t_columns_f p1_size p1_bytes_f =
  (mm_Pf_hasColumns F p1_bytes_N p1_size p1_bytes_f).bind fun x1 =>
  (if x1 = 0 then
    some (0, t_columnCount, t_first, t_size, t_columns_f)
  else
    (mm_Rw_at F p1_bytes_N 4 p1_size p1_bytes_f).bind fun x12 =>
    mm_Pf_takeColumns_L20 F p1_bytes_N F 0 x12 t_first t_size t_columns_f p1_size p1_bytes_f) := rfl
def mm_Pf_takePeriod (F : Nat) (i1 : Int32) (t_period : Int32) : Option (Int32 × Int32) :=
  (if 0 ≤ i1 then
    some (1, i1)
  else
    some (0, t_period))
theorem mq_Pf_takePeriod (F : Nat) (i1 : Int32) (t_period : Int32) : mm_Pf_takePeriod F i1 t_period =
  (if 0 ≤ i1 then
    some (1, i1)
  else
    some (0, t_period)) := rfl
def mm_Pf_takeCapacity (F : Nat) (i1 : Int32) (t_capacity : Int32) (t_first : Int32) (t_size : Int32) : Option (Int32 × Int32 × Int32 × Int32) :=
  (if i1 < 1 then
    some (0, t_capacity, t_first, t_size)
  else
    (if i1 ≤ 12 then
      (mm_Pf_forget F t_first t_size).bind fun x19 =>
      some (1, i1, x19.1, x19.2)
    else
      some (0, t_capacity, t_first, t_size)))
theorem mq_Pf_takeCapacity (F : Nat) (i1 : Int32) (t_capacity : Int32) (t_first : Int32) (t_size : Int32) : mm_Pf_takeCapacity F i1 t_capacity t_first t_size =
  (if i1 < 1 then
    some (0, t_capacity, t_first, t_size)
  else
    (if i1 ≤ 12 then
      (mm_Pf_forget F t_first t_size).bind fun x19 =>
      some (1, i1, x19.1, x19.2)
    else
      some (0, t_capacity, t_first, t_size))) := rfl
def mm_Mt_takeTime (F : Nat) (i1 : Int32) (t_now : Int32) : Option (Int32 × Int32) :=
  (if 0 ≤ i1 then
    some (1, i1)
  else
    some (0, t_now))
theorem mq_Mt_takeTime (F : Nat) (i1 : Int32) (t_now : Int32) : mm_Mt_takeTime F i1 t_now =
  (if 0 ≤ i1 then
    some (1, i1)
  else
    some (0, t_now)) := rfl
def mm_Mt_takeNumber_J13 (F : Nat) (p1_bytes_N : Nat) (v2 : Int32) (v3 : Int32) (s0 : Int32) (t_now : Int32) (t_registers_f : Nat → Int32) (t_profile_capacity : Int32) (t_profile_period : Int32) (t_profile_first : Int32) (t_profile_size : Int32) (p1_size : Int32) (p1_bytes_f : Nat → Int32) : Option (Int32 × Int32 × (Nat → Int32) × Int32 × Int32 × Int32 × Int32) :=
  (if p1_size = 8 then
    (mm_Rw_at F p1_bytes_N 3 p1_size p1_bytes_f).bind fun x26 =>
    (if x26 = s0 then
      (mm_Rw_intAt F p1_bytes_N 4 p1_size p1_bytes_f).bind fun x38 =>
      (mm_Mt_isRegister F v2).bind fun x44 =>
      (if x44 = 0 then
        (if v2 = 4 then
          (if v3 = 4 then
            (mm_Pf_takePeriod F x38 t_profile_period).bind fun x78 =>
            (if x78.1 = 0 ∨ x78.1 = 1 then some (x78.1, t_now, t_registers_f, t_profile_capacity, x78.2, t_profile_first, t_profile_size) else none)
          else
            (mm_Pf_takeCapacity F x38 t_profile_capacity t_profile_first t_profile_size).bind fun x90 =>
            (if x90.1 = 0 ∨ x90.1 = 1 then some (x90.1, t_now, t_registers_f, x90.2.1, t_profile_period, x90.2.2.1, x90.2.2.2) else none))
        else
          (mm_Mt_takeTime F x38 t_now).bind fun x97 =>
          (if x97.1 = 0 ∨ x97.1 = 1 then some (x97.1, x97.2, t_registers_f, t_profile_capacity, t_profile_period, t_profile_first, t_profile_size) else none))
      else
        (if (v2 - 1) < 0 ∨ 3 ≤ (v2 - 1).toNatClampNeg then none else
        some (1, t_now, upd t_registers_f ((v2 - 1).toNatClampNeg) x38, t_profile_capacity, t_profile_period, t_profile_first, t_profile_size)))
    else
      some (0, t_now, t_registers_f, t_profile_capacity, t_profile_period, t_profile_first, t_profile_size))
  else
    some (0, t_now, t_registers_f, t_profile_capacity, t_profile_period, t_profile_first, t_profile_size))
theorem mq_Mt_takeNumber_J13 (F : Nat) (p1_bytes_N : Nat) (v2 : Int32) (v3 : Int32) (s0 : Int32) (t_now : Int32) (t_registers_f : Nat → Int32) (t_profile_capacity : Int32) (t_profile_period : Int32) (t_profile_first : Int32) (t_profile_size : Int32) (p1_size : Int32) (p1_bytes_f : Nat → Int32) : mm_Mt_takeNumber_J13 F p1_bytes_N v2 v3 s0 t_now t_registers_f t_profile_capacity t_profile_period t_profile_first t_profile_size p1_size p1_bytes_f =
  (if p1_size = 8 then
    (mm_Rw_at F p1_bytes_N 3 p1_size p1_bytes_f).bind fun x26 =>
    (if x26 = s0 then
      (mm_Rw_intAt F p1_bytes_N 4 p1_size p1_bytes_f).bind fun x38 =>
      (mm_Mt_isRegister F v2).bind fun x44 =>
      (if x44 = 0 then
        (if v2 = 4 then
          (if v3 = 4 then
            (mm_Pf_takePeriod F x38 t_profile_period).bind fun x78 =>
            (if x78.1 = 0 ∨ x78.1 = 1 then some (x78.1, t_now, t_registers_f, t_profile_capacity, x78.2, t_profile_first, t_profile_size) else none)
          else
            (mm_Pf_takeCapacity F x38 t_profile_capacity t_profile_first t_profile_size).bind fun x90 =>
            (if x90.1 = 0 ∨ x90.1 = 1 then some (x90.1, t_now, t_registers_f, x90.2.1, t_profile_period, x90.2.2.1, x90.2.2.2) else none))
        else
          (mm_Mt_takeTime F x38 t_now).bind fun x97 =>
          (if x97.1 = 0 ∨ x97.1 = 1 then some (x97.1, x97.2, t_registers_f, t_profile_capacity, t_profile_period, t_profile_first, t_profile_size) else none))
      else
        (if (v2 - 1) < 0 ∨ 3 ≤ (v2 - 1).toNatClampNeg then none else
        some (1, t_now, upd t_registers_f ((v2 - 1).toNatClampNeg) x38, t_profile_capacity, t_profile_period, t_profile_first, t_profile_size)))
    else
      some (0, t_now, t_registers_f, t_profile_capacity, t_profile_period, t_profile_first, t_profile_size))
  else
    some (0, t_now, t_registers_f, t_profile_capacity, t_profile_period, t_profile_first, t_profile_size)) := rfl
def mm_Mt_takeNumber (F : Nat) (p1_bytes_N : Nat) (i2 : Int32) (i3 : Int32) (t_now : Int32) (t_registers_f : Nat → Int32) (t_profile_capacity : Int32) (t_profile_period : Int32) (t_profile_first : Int32) (t_profile_size : Int32) (p1_size : Int32) (p1_bytes_f : Nat → Int32) : Option (Int32 × Int32 × (Nat → Int32) × Int32 × Int32 × Int32 × Int32) :=
  (mm_Mt_isRegister F i2).bind fun x1 =>
  (if x1 = 0 then
    mm_Mt_takeNumber_J13 F p1_bytes_N i2 i3 6 t_now t_registers_f t_profile_capacity t_profile_period t_profile_first t_profile_size p1_size p1_bytes_f
  else
    mm_Mt_takeNumber_J13 F p1_bytes_N i2 i3 5 t_now t_registers_f t_profile_capacity t_profile_period t_profile_first t_profile_size p1_size p1_bytes_f)
theorem mq_Mt_takeNumber (F : Nat) (p1_bytes_N : Nat) (i2 : Int32) (i3 : Int32) (t_now : Int32) (t_registers_f : Nat → Int32) (t_profile_capacity : Int32) (t_profile_period : Int32) (t_profile_first : Int32) (t_profile_size : Int32) (p1_size : Int32) (p1_bytes_f : Nat → Int32) : mm_Mt_takeNumber F p1_bytes_N i2 i3 t_now t_registers_f t_profile_capacity t_profile_period t_profile_first t_profile_size p1_size p1_bytes_f =
  (mm_Mt_isRegister F i2).bind fun x1 =>
  (if x1 = 0 then
    mm_Mt_takeNumber_J13 F p1_bytes_N i2 i3 6 t_now t_registers_f t_profile_capacity t_profile_period t_profile_first t_profile_size p1_size p1_bytes_f
  else
    mm_Mt_takeNumber_J13 F p1_bytes_N i2 i3 5 t_now t_registers_f t_profile_capacity t_profile_period t_profile_first t_profile_size p1_size p1_bytes_f) := rfl
def mm_Mt_set_J71 (F : Nat) (p1_bytes_N : Nat) (v3 : Int32) (v4 : Int32) (t_now : Int32) (t_registers_f : Nat → Int32) (t_profile_columnCount : Int32) (t_profile_capacity : Int32) (t_profile_period : Int32) (t_profile_first : Int32) (t_profile_size : Int32) (t_profile_columns_f : Nat → Int32) (p1_size : Int32) (p1_bytes_f : Nat → Int32) : Option (Int32 × Int32 × (Nat → Int32) × Int32 × Int32 × Int32 × Int32 × Int32 × (Nat → Int32)) :=
  (mm_Mt_takeNumber F p1_bytes_N v3 v4 t_now t_registers_f t_profile_capacity t_profile_period t_profile_first t_profile_size p1_size p1_bytes_f).bind fun x76 =>
  (if x76.1 = 0 then
    some (12, x76.2.1, x76.2.2.1, t_profile_columnCount, x76.2.2.2.1, x76.2.2.2.2.1, x76.2.2.2.2.2.1, x76.2.2.2.2.2.2, t_profile_columns_f)
  else
    some (0, x76.2.1, x76.2.2.1, t_profile_columnCount, x76.2.2.2.1, x76.2.2.2.2.1, x76.2.2.2.2.2.1, x76.2.2.2.2.2.2, t_profile_columns_f))
theorem mq_Mt_set_J71 (F : Nat) (p1_bytes_N : Nat) (v3 : Int32) (v4 : Int32) (t_now : Int32) (t_registers_f : Nat → Int32) (t_profile_columnCount : Int32) (t_profile_capacity : Int32) (t_profile_period : Int32) (t_profile_first : Int32) (t_profile_size : Int32) (t_profile_columns_f : Nat → Int32) (p1_size : Int32) (p1_bytes_f : Nat → Int32) : mm_Mt_set_J71 F p1_bytes_N v3 v4 t_now t_registers_f t_profile_columnCount t_profile_capacity t_profile_period t_profile_first t_profile_size t_profile_columns_f p1_size p1_bytes_f =
  (mm_Mt_takeNumber F p1_bytes_N v3 v4 t_now t_registers_f t_profile_capacity t_profile_period t_profile_first t_profile_size p1_size p1_bytes_f).bind fun x76 =>
  (if x76.1 = 0 then
    some (12, x76.2.1, x76.2.2.1, t_profile_columnCount, x76.2.2.2.1, x76.2.2.2.2.1, x76.2.2.2.2.2.1, x76.2.2.2.2.2.2, t_profile_columns_f)
  else
    some (0, x76.2.1, x76.2.2.1, t_profile_columnCount, x76.2.2.2.1, x76.2.2.2.2.1, x76.2.2.2.2.2.1, x76.2.2.2.2.2.2, t_profile_columns_f)) := rfl
def mm_Mt_set (F : Nat) (p1_bytes_N : Nat) (i2 : Int32) (t_now : Int32) (t_registers_f : Nat → Int32) (t_profile_columnCount : Int32) (t_profile_capacity : Int32) (t_profile_period : Int32) (t_profile_first : Int32) (t_profile_size : Int32) (t_profile_columns_f : Nat → Int32) (p1_size : Int32) (p1_bytes_f : Nat → Int32) : Option (Int32 × Int32 × (Nat → Int32) × Int32 × Int32 × Int32 × Int32 × Int32 × (Nat → Int32)) :=
  (mm_Rw_at F p1_bytes_N 1 p1_size p1_bytes_f).bind fun x2 =>
  (mm_Rw_at F p1_bytes_N 2 p1_size p1_bytes_f).bind fun x8 =>
  (mm_Mt_isObject F x2).bind fun x14 =>
  (if x14 = 0 then
    some (4, t_now, t_registers_f, t_profile_columnCount, t_profile_capacity, t_profile_period, t_profile_first, t_profile_size, t_profile_columns_f)
  else
    (mm_Mt_isAttribute F x2 x8).bind fun x25 =>
    (if x25 = 0 then
      some (9, t_now, t_registers_f, t_profile_columnCount, t_profile_capacity, t_profile_period, t_profile_first, t_profile_size, t_profile_columns_f)
    else
      (if i2 = 0 then
        some (3, t_now, t_registers_f, t_profile_columnCount, t_profile_capacity, t_profile_period, t_profile_first, t_profile_size, t_profile_columns_f)
      else
        (mm_Mt_isSettable F x2 x8).bind fun x41 =>
        (if x41 = 0 then
          some (3, t_now, t_registers_f, t_profile_columnCount, t_profile_capacity, t_profile_period, t_profile_first, t_profile_size, t_profile_columns_f)
        else
          (if x2 = 4 then
            (if x8 = 3 then
              (mm_Pf_takeColumns F p1_bytes_N t_profile_columnCount t_profile_first t_profile_size t_profile_columns_f p1_size p1_bytes_f).bind fun x65 =>
              (if x65.1 = 0 then
                some (12, t_now, t_registers_f, x65.2.1, t_profile_capacity, t_profile_period, x65.2.2.1, x65.2.2.2.1, x65.2.2.2.2)
              else
                some (0, t_now, t_registers_f, x65.2.1, t_profile_capacity, t_profile_period, x65.2.2.1, x65.2.2.2.1, x65.2.2.2.2))
            else
              mm_Mt_set_J71 F p1_bytes_N x2 x8 t_now t_registers_f t_profile_columnCount t_profile_capacity t_profile_period t_profile_first t_profile_size t_profile_columns_f p1_size p1_bytes_f)
          else
            mm_Mt_set_J71 F p1_bytes_N x2 x8 t_now t_registers_f t_profile_columnCount t_profile_capacity t_profile_period t_profile_first t_profile_size t_profile_columns_f p1_size p1_bytes_f)))))
theorem mq_Mt_set (F : Nat) (p1_bytes_N : Nat) (i2 : Int32) (t_now : Int32) (t_registers_f : Nat → Int32) (t_profile_columnCount : Int32) (t_profile_capacity : Int32) (t_profile_period : Int32) (t_profile_first : Int32) (t_profile_size : Int32) (t_profile_columns_f : Nat → Int32) (p1_size : Int32) (p1_bytes_f : Nat → Int32) : mm_Mt_set F p1_bytes_N i2 t_now t_registers_f t_profile_columnCount t_profile_capacity t_profile_period t_profile_first t_profile_size t_profile_columns_f p1_size p1_bytes_f =
  (mm_Rw_at F p1_bytes_N 1 p1_size p1_bytes_f).bind fun x2 =>
  (mm_Rw_at F p1_bytes_N 2 p1_size p1_bytes_f).bind fun x8 =>
  (mm_Mt_isObject F x2).bind fun x14 =>
  (if x14 = 0 then
    some (4, t_now, t_registers_f, t_profile_columnCount, t_profile_capacity, t_profile_period, t_profile_first, t_profile_size, t_profile_columns_f)
  else
    (mm_Mt_isAttribute F x2 x8).bind fun x25 =>
    (if x25 = 0 then
      some (9, t_now, t_registers_f, t_profile_columnCount, t_profile_capacity, t_profile_period, t_profile_first, t_profile_size, t_profile_columns_f)
    else
      (if i2 = 0 then
        some (3, t_now, t_registers_f, t_profile_columnCount, t_profile_capacity, t_profile_period, t_profile_first, t_profile_size, t_profile_columns_f)
      else
        (mm_Mt_isSettable F x2 x8).bind fun x41 =>
        (if x41 = 0 then
          some (3, t_now, t_registers_f, t_profile_columnCount, t_profile_capacity, t_profile_period, t_profile_first, t_profile_size, t_profile_columns_f)
        else
          (if x2 = 4 then
            (if x8 = 3 then
              (mm_Pf_takeColumns F p1_bytes_N t_profile_columnCount t_profile_first t_profile_size t_profile_columns_f p1_size p1_bytes_f).bind fun x65 =>
              (if x65.1 = 0 then
                some (12, t_now, t_registers_f, x65.2.1, t_profile_capacity, t_profile_period, x65.2.2.1, x65.2.2.2.1, x65.2.2.2.2)
              else
                some (0, t_now, t_registers_f, x65.2.1, t_profile_capacity, t_profile_period, x65.2.2.1, x65.2.2.2.1, x65.2.2.2.2))
            else
              mm_Mt_set_J71 F p1_bytes_N x2 x8 t_now t_registers_f t_profile_columnCount t_profile_capacity t_profile_period t_profile_first t_profile_size t_profile_columns_f p1_size p1_bytes_f)
          else
            mm_Mt_set_J71 F p1_bytes_N x2 x8 t_now t_registers_f t_profile_columnCount t_profile_capacity t_profile_period t_profile_first t_profile_size t_profile_columns_f p1_size p1_bytes_f))))) := rfl
def mm_Mt_isMethod (F : Nat) (i0 : Int32) (i1 : Int32) : Option (Int32) :=
  (if i0 = 0 then
    (if i1 = 3 then
      some 1
    else
      some 0)
  else
    (if i0 = 4 then
      (if i1 = 1 then
        some 1
      else
        (if i1 = 2 then
          some 1
        else
          some 0))
    else
      (if i1 = 1 then
        some 1
      else
        some 0)))
theorem mq_Mt_isMethod (F : Nat) (i0 : Int32) (i1 : Int32) : mm_Mt_isMethod F i0 i1 =
  (if i0 = 0 then
    (if i1 = 3 then
      some 1
    else
      some 0)
  else
    (if i0 = 4 then
      (if i1 = 1 then
        some 1
      else
        (if i1 = 2 then
          some 1
        else
          some 0))
    else
      (if i1 = 1 then
        some 1
      else
        some 0))) := rfl
def mm_Mt_roundTime (F : Nat) (i1 : Int32) (t_now : Int32) : Option (Int32 × Int32) :=
  (if 0 < i1 then
    (if i1 = 0 then none else
    some (0, t_now - (bs_rem t_now i1)))
  else
    some (13, t_now))
theorem mq_Mt_roundTime (F : Nat) (i1 : Int32) (t_now : Int32) : mm_Mt_roundTime F i1 t_now =
  (if 0 < i1 then
    (if i1 = 0 then none else
    some (0, t_now - (bs_rem t_now i1)))
  else
    some (13, t_now)) := rfl
def mm_Pf_capture_L53 (F : Nat) (p2_N : Nat) : Nat → (Int32) → (Int32) → (Int32) → (Int32) → (Int32) → (Nat → Int32) → (Nat → Int32) → (Nat → Int32) → Option (Int32 × Int32 × (Nat → Int32))
  | 0, _, _, _, _, _, _, _, _ => none
  | k + 1, v3, v4, t_columnCount, t_first, t_size, t_columns_f, t_ring_f, p2_f =>
    (if t_columnCount < v4 then
      some (t_first, t_size + 1, t_ring_f)
    else
      (if (v4 - 1) < 0 ∨ 3 ≤ (v4 - 1).toNatClampNeg then none else
      (if ((t_columns_f ((v4 - 1).toNatClampNeg)) - 1) < 0 ∨ p2_N ≤ ((t_columns_f ((v4 - 1).toNatClampNeg)) - 1).toNatClampNeg then none else
      (if (v3 + v4) < 0 ∨ 48 ≤ (v3 + v4).toNatClampNeg then none else
      mm_Pf_capture_L53 F p2_N k v3 (v4 + 1) t_columnCount t_first t_size t_columns_f (upd t_ring_f ((v3 + v4).toNatClampNeg) (p2_f (((t_columns_f ((v4 - 1).toNatClampNeg)) - 1).toNatClampNeg))) p2_f))))
theorem mq_Pf_capture_L53 (F : Nat) (p2_N : Nat) (k : Nat) (v3 : Int32) (v4 : Int32) (t_columnCount : Int32) (t_first : Int32) (t_size : Int32) (t_columns_f : Nat → Int32) (t_ring_f : Nat → Int32) (p2_f : Nat → Int32) : mm_Pf_capture_L53 F p2_N (k + 1) v3 v4 t_columnCount t_first t_size t_columns_f t_ring_f p2_f =
    (if t_columnCount < v4 then
      some (t_first, t_size + 1, t_ring_f)
    else
      (if (v4 - 1) < 0 ∨ 3 ≤ (v4 - 1).toNatClampNeg then none else
      (if ((t_columns_f ((v4 - 1).toNatClampNeg)) - 1) < 0 ∨ p2_N ≤ ((t_columns_f ((v4 - 1).toNatClampNeg)) - 1).toNatClampNeg then none else
      (if (v3 + v4) < 0 ∨ 48 ≤ (v3 + v4).toNatClampNeg then none else
      mm_Pf_capture_L53 F p2_N k v3 (v4 + 1) t_columnCount t_first t_size t_columns_f (upd t_ring_f ((v3 + v4).toNatClampNeg) (p2_f (((t_columns_f ((v4 - 1).toNatClampNeg)) - 1).toNatClampNeg))) p2_f)))) := rfl
def mm_Pf_capture_J34 (F : Nat) (p2_N : Nat) (v1 : Int32) (t_columnCount : Int32) (t_first : Int32) (t_size : Int32) (t_columns_f : Nat → Int32) (t_ring_f : Nat → Int32) (p2_f : Nat → Int32) : Option (Int32 × Int32 × (Nat → Int32)) :=
  (mm_Pf_start F t_size t_first).bind fun x39 =>
  (if x39 < 0 ∨ 48 ≤ x39.toNatClampNeg then none else
  mm_Pf_capture_L53 F p2_N F x39 1 t_columnCount t_first t_size t_columns_f (upd t_ring_f x39.toNatClampNeg v1) p2_f)
theorem mq_Pf_capture_J34 (F : Nat) (p2_N : Nat) (v1 : Int32) (t_columnCount : Int32) (t_first : Int32) (t_size : Int32) (t_columns_f : Nat → Int32) (t_ring_f : Nat → Int32) (p2_f : Nat → Int32) : mm_Pf_capture_J34 F p2_N v1 t_columnCount t_first t_size t_columns_f t_ring_f p2_f =
  (mm_Pf_start F t_size t_first).bind fun x39 =>
  (if x39 < 0 ∨ 48 ≤ x39.toNatClampNeg then none else
  mm_Pf_capture_L53 F p2_N F x39 1 t_columnCount t_first t_size t_columns_f (upd t_ring_f x39.toNatClampNeg v1) p2_f) := rfl
def mm_Pf_capture (F : Nat) (p2_N : Nat) (i1 : Int32) (t_columnCount : Int32) (t_capacity : Int32) (t_first : Int32) (t_size : Int32) (t_columns_f : Nat → Int32) (t_ring_f : Nat → Int32) (p2_f : Nat → Int32) : Option (Int32 × Int32 × (Nat → Int32)) :=
  (if t_size < t_capacity then
    mm_Pf_capture_J34 F p2_N i1 t_columnCount t_first t_size t_columns_f t_ring_f p2_f
  else
    mm_Pf_capture_J34 F p2_N i1 t_columnCount (bs_rem (t_first + 1) 12) (t_size - 1) t_columns_f t_ring_f p2_f)
theorem mq_Pf_capture (F : Nat) (p2_N : Nat) (i1 : Int32) (t_columnCount : Int32) (t_capacity : Int32) (t_first : Int32) (t_size : Int32) (t_columns_f : Nat → Int32) (t_ring_f : Nat → Int32) (p2_f : Nat → Int32) : mm_Pf_capture F p2_N i1 t_columnCount t_capacity t_first t_size t_columns_f t_ring_f p2_f =
  (if t_size < t_capacity then
    mm_Pf_capture_J34 F p2_N i1 t_columnCount t_first t_size t_columns_f t_ring_f p2_f
  else
    mm_Pf_capture_J34 F p2_N i1 t_columnCount (bs_rem (t_first + 1) 12) (t_size - 1) t_columns_f t_ring_f p2_f) := rfl
def mm_Mt_act (F : Nat) (p1_bytes_N : Nat) (i2 : Int32) (t_now : Int32) (t_registers_f : Nat → Int32) (t_profile_columnCount : Int32) (t_profile_capacity : Int32) (t_profile_first : Int32) (t_profile_size : Int32) (t_profile_columns_f : Nat → Int32) (t_profile_ring_f : Nat → Int32) (p1_size : Int32) (p1_bytes_f : Nat → Int32) : Option (Int32 × Int32 × (Nat → Int32) × Int32 × Int32 × (Nat → Int32)) :=
  (mm_Rw_at F p1_bytes_N 1 p1_size p1_bytes_f).bind fun x2 =>
  (mm_Rw_at F p1_bytes_N 2 p1_size p1_bytes_f).bind fun x8 =>
  (mm_Rw_at F p1_bytes_N 3 p1_size p1_bytes_f).bind fun x15 =>
  (mm_Mt_isObject F x2).bind fun x21 =>
  (if x21 = 0 then
    some (4, t_now, t_registers_f, t_profile_first, t_profile_size, t_profile_ring_f)
  else
    (mm_Mt_isMethod F x2 x8).bind fun x32 =>
    (if x32 = 0 then
      some (9, t_now, t_registers_f, t_profile_first, t_profile_size, t_profile_ring_f)
    else
      (if i2 = 0 then
        some (3, t_now, t_registers_f, t_profile_first, t_profile_size, t_profile_ring_f)
      else
        (if x2 = 0 then
          (mm_Mt_roundTime F x15 t_now).bind fun x54 =>
          some (x54.1, x54.2, t_registers_f, t_profile_first, t_profile_size, t_profile_ring_f)
        else
          (mm_Mt_isRegister F x2).bind fun x59 =>
          (if x59 = 0 then
            (if x8 = 1 then
              (mm_Pf_forget F t_profile_first t_profile_size).bind fun x87 =>
              some (0, t_now, t_registers_f, x87.1, x87.2, t_profile_ring_f)
            else
              (mm_Pf_capture F 3 t_now t_profile_columnCount t_profile_capacity t_profile_first t_profile_size t_profile_columns_f t_profile_ring_f t_registers_f).bind fun x105 =>
              some (0, t_now, t_registers_f, x105.1, x105.2.1, x105.2.2))
          else
            (if (x2 - 1) < 0 ∨ 3 ≤ (x2 - 1).toNatClampNeg then none else
            some (0, t_now, upd t_registers_f ((x2 - 1).toNatClampNeg) 0, t_profile_first, t_profile_size, t_profile_ring_f)))))))
theorem mq_Mt_act (F : Nat) (p1_bytes_N : Nat) (i2 : Int32) (t_now : Int32) (t_registers_f : Nat → Int32) (t_profile_columnCount : Int32) (t_profile_capacity : Int32) (t_profile_first : Int32) (t_profile_size : Int32) (t_profile_columns_f : Nat → Int32) (t_profile_ring_f : Nat → Int32) (p1_size : Int32) (p1_bytes_f : Nat → Int32) : mm_Mt_act F p1_bytes_N i2 t_now t_registers_f t_profile_columnCount t_profile_capacity t_profile_first t_profile_size t_profile_columns_f t_profile_ring_f p1_size p1_bytes_f =
  (mm_Rw_at F p1_bytes_N 1 p1_size p1_bytes_f).bind fun x2 =>
  (mm_Rw_at F p1_bytes_N 2 p1_size p1_bytes_f).bind fun x8 =>
  (mm_Rw_at F p1_bytes_N 3 p1_size p1_bytes_f).bind fun x15 =>
  (mm_Mt_isObject F x2).bind fun x21 =>
  (if x21 = 0 then
    some (4, t_now, t_registers_f, t_profile_first, t_profile_size, t_profile_ring_f)
  else
    (mm_Mt_isMethod F x2 x8).bind fun x32 =>
    (if x32 = 0 then
      some (9, t_now, t_registers_f, t_profile_first, t_profile_size, t_profile_ring_f)
    else
      (if i2 = 0 then
        some (3, t_now, t_registers_f, t_profile_first, t_profile_size, t_profile_ring_f)
      else
        (if x2 = 0 then
          (mm_Mt_roundTime F x15 t_now).bind fun x54 =>
          some (x54.1, x54.2, t_registers_f, t_profile_first, t_profile_size, t_profile_ring_f)
        else
          (mm_Mt_isRegister F x2).bind fun x59 =>
          (if x59 = 0 then
            (if x8 = 1 then
              (mm_Pf_forget F t_profile_first t_profile_size).bind fun x87 =>
              some (0, t_now, t_registers_f, x87.1, x87.2, t_profile_ring_f)
            else
              (mm_Pf_capture F 3 t_now t_profile_columnCount t_profile_capacity t_profile_first t_profile_size t_profile_columns_f t_profile_ring_f t_registers_f).bind fun x105 =>
              some (0, t_now, t_registers_f, x105.1, x105.2.1, x105.2.2))
          else
            (if (x2 - 1) < 0 ∨ 3 ≤ (x2 - 1).toNatClampNeg then none else
            some (0, t_now, upd t_registers_f ((x2 - 1).toNatClampNeg) 0, t_profile_first, t_profile_size, t_profile_ring_f))))))) := rfl
def mm_Cn_answer_J276 (F : Nat) (p1_bytes_N : Nat) (t_association : Int32) (t_blocksSent : Int32) (t_meter_now : Int32) (t_meter_registers_f : Nat → Int32) (t_meter_profile_columnCount : Int32) (t_meter_profile_capacity : Int32) (t_meter_profile_period : Int32) (t_meter_profile_first : Int32) (t_meter_profile_size : Int32) (t_meter_profile_columns_f : Nat → Int32) (t_meter_profile_ring_f : Nat → Int32) (t_request_size : Int32) (t_request_bytes_f : Nat → Int32) (t_value_size : Int32) (t_value_bytes_f : Nat → Int32) (p1_size : Int32) (p1_bytes_f : Nat → Int32) : Option (Int32 × Int32 × Int32 × (Nat → Int32) × Int32 × Int32 × Int32 × Int32 × Int32 × (Nat → Int32) × (Nat → Int32) × Int32 × (Nat → Int32) × Int32 × (Nat → Int32)) :=
  (mm_Cn_begins F 195 4 t_request_size t_request_bytes_f).bind fun x281 =>
  (if x281 = 0 then
    (mm_Cn_addTwo F p1_bytes_N 216 2 p1_size p1_bytes_f).bind fun x326 =>
    some (t_association, t_blocksSent, t_meter_now, t_meter_registers_f, t_meter_profile_columnCount, t_meter_profile_capacity, t_meter_profile_period, t_meter_profile_first, t_meter_profile_size, t_meter_profile_columns_f, t_meter_profile_ring_f, t_value_size, t_value_bytes_f, x326.1, x326.2)
  else
    (if t_association = 2 then
      (mm_Mt_act F 60 1 t_meter_now t_meter_registers_f t_meter_profile_columnCount t_meter_profile_capacity t_meter_profile_first t_meter_profile_size t_meter_profile_columns_f t_meter_profile_ring_f t_request_size t_request_bytes_f).bind fun x312 =>
      (mm_Cn_addTwo F p1_bytes_N 199 x312.1 p1_size p1_bytes_f).bind fun x315 =>
      some (t_association, t_blocksSent, x312.2.1, x312.2.2.1, t_meter_profile_columnCount, t_meter_profile_capacity, t_meter_profile_period, x312.2.2.2.1, x312.2.2.2.2.1, t_meter_profile_columns_f, x312.2.2.2.2.2, t_value_size, t_value_bytes_f, x315.1, x315.2)
    else
      (mm_Mt_act F 60 0 t_meter_now t_meter_registers_f t_meter_profile_columnCount t_meter_profile_capacity t_meter_profile_first t_meter_profile_size t_meter_profile_columns_f t_meter_profile_ring_f t_request_size t_request_bytes_f).bind fun x312 =>
      (mm_Cn_addTwo F p1_bytes_N 199 x312.1 p1_size p1_bytes_f).bind fun x315 =>
      some (t_association, t_blocksSent, x312.2.1, x312.2.2.1, t_meter_profile_columnCount, t_meter_profile_capacity, t_meter_profile_period, x312.2.2.2.1, x312.2.2.2.2.1, t_meter_profile_columns_f, x312.2.2.2.2.2, t_value_size, t_value_bytes_f, x315.1, x315.2)))
theorem mq_Cn_answer_J276 (F : Nat) (p1_bytes_N : Nat) (t_association : Int32) (t_blocksSent : Int32) (t_meter_now : Int32) (t_meter_registers_f : Nat → Int32) (t_meter_profile_columnCount : Int32) (t_meter_profile_capacity : Int32) (t_meter_profile_period : Int32) (t_meter_profile_first : Int32) (t_meter_profile_size : Int32) (t_meter_profile_columns_f : Nat → Int32) (t_meter_profile_ring_f : Nat → Int32) (t_request_size : Int32) (t_request_bytes_f : Nat → Int32) (t_value_size : Int32) (t_value_bytes_f : Nat → Int32) (p1_size : Int32) (p1_bytes_f : Nat → Int32) : mm_Cn_answer_J276 F p1_bytes_N t_association t_blocksSent t_meter_now t_meter_registers_f t_meter_profile_columnCount t_meter_profile_capacity t_meter_profile_period t_meter_profile_first t_meter_profile_size t_meter_profile_columns_f t_meter_profile_ring_f t_request_size t_request_bytes_f t_value_size t_value_bytes_f p1_size p1_bytes_f =
  (mm_Cn_begins F 195 4 t_request_size t_request_bytes_f).bind fun x281 =>
  (if x281 = 0 then
    (mm_Cn_addTwo F p1_bytes_N 216 2 p1_size p1_bytes_f).bind fun x326 =>
    some (t_association, t_blocksSent, t_meter_now, t_meter_registers_f, t_meter_profile_columnCount, t_meter_profile_capacity, t_meter_profile_period, t_meter_profile_first, t_meter_profile_size, t_meter_profile_columns_f, t_meter_profile_ring_f, t_value_size, t_value_bytes_f, x326.1, x326.2)
  else
    (if t_association = 2 then
      (mm_Mt_act F 60 1 t_meter_now t_meter_registers_f t_meter_profile_columnCount t_meter_profile_capacity t_meter_profile_first t_meter_profile_size t_meter_profile_columns_f t_meter_profile_ring_f t_request_size t_request_bytes_f).bind fun x312 =>
      (mm_Cn_addTwo F p1_bytes_N 199 x312.1 p1_size p1_bytes_f).bind fun x315 =>
      some (t_association, t_blocksSent, x312.2.1, x312.2.2.1, t_meter_profile_columnCount, t_meter_profile_capacity, t_meter_profile_period, x312.2.2.2.1, x312.2.2.2.2.1, t_meter_profile_columns_f, x312.2.2.2.2.2, t_value_size, t_value_bytes_f, x315.1, x315.2)
    else
      (mm_Mt_act F 60 0 t_meter_now t_meter_registers_f t_meter_profile_columnCount t_meter_profile_capacity t_meter_profile_first t_meter_profile_size t_meter_profile_columns_f t_meter_profile_ring_f t_request_size t_request_bytes_f).bind fun x312 =>
      (mm_Cn_addTwo F p1_bytes_N 199 x312.1 p1_size p1_bytes_f).bind fun x315 =>
      some (t_association, t_blocksSent, x312.2.1, x312.2.2.1, t_meter_profile_columnCount, t_meter_profile_capacity, t_meter_profile_period, x312.2.2.2.1, x312.2.2.2.2.1, t_meter_profile_columns_f, x312.2.2.2.2.2, t_value_size, t_value_bytes_f, x315.1, x315.2))) := rfl
def mm_Cn_answer_J217 (F : Nat) (p1_bytes_N : Nat) (t_association : Int32) (t_blocksSent : Int32) (t_meter_now : Int32) (t_meter_registers_f : Nat → Int32) (t_meter_profile_columnCount : Int32) (t_meter_profile_capacity : Int32) (t_meter_profile_period : Int32) (t_meter_profile_first : Int32) (t_meter_profile_size : Int32) (t_meter_profile_columns_f : Nat → Int32) (t_meter_profile_ring_f : Nat → Int32) (t_request_size : Int32) (t_request_bytes_f : Nat → Int32) (t_value_size : Int32) (t_value_bytes_f : Nat → Int32) (p1_size : Int32) (p1_bytes_f : Nat → Int32) : Option (Int32 × Int32 × Int32 × (Nat → Int32) × Int32 × Int32 × Int32 × Int32 × Int32 × (Nat → Int32) × (Nat → Int32) × Int32 × (Nat → Int32) × Int32 × (Nat → Int32)) :=
  (mm_Rw_at F 60 0 t_request_size t_request_bytes_f).bind fun x222 =>
  (if x222 = 193 then
    (if t_request_size < 3 then
      mm_Cn_answer_J276 F p1_bytes_N t_association t_blocksSent t_meter_now t_meter_registers_f t_meter_profile_columnCount t_meter_profile_capacity t_meter_profile_period t_meter_profile_first t_meter_profile_size t_meter_profile_columns_f t_meter_profile_ring_f t_request_size t_request_bytes_f t_value_size t_value_bytes_f p1_size p1_bytes_f
    else
      (if t_association = 2 then
        (mm_Mt_set F 60 1 t_meter_now t_meter_registers_f t_meter_profile_columnCount t_meter_profile_capacity t_meter_profile_period t_meter_profile_first t_meter_profile_size t_meter_profile_columns_f t_request_size t_request_bytes_f).bind fun x267 =>
        (mm_Cn_addTwo F p1_bytes_N 197 x267.1 p1_size p1_bytes_f).bind fun x270 =>
        some (t_association, t_blocksSent, x267.2.1, x267.2.2.1, x267.2.2.2.1, x267.2.2.2.2.1, x267.2.2.2.2.2.1, x267.2.2.2.2.2.2.1, x267.2.2.2.2.2.2.2.1, x267.2.2.2.2.2.2.2.2, t_meter_profile_ring_f, t_value_size, t_value_bytes_f, x270.1, x270.2)
      else
        (mm_Mt_set F 60 0 t_meter_now t_meter_registers_f t_meter_profile_columnCount t_meter_profile_capacity t_meter_profile_period t_meter_profile_first t_meter_profile_size t_meter_profile_columns_f t_request_size t_request_bytes_f).bind fun x267 =>
        (mm_Cn_addTwo F p1_bytes_N 197 x267.1 p1_size p1_bytes_f).bind fun x270 =>
        some (t_association, t_blocksSent, x267.2.1, x267.2.2.1, x267.2.2.2.1, x267.2.2.2.2.1, x267.2.2.2.2.2.1, x267.2.2.2.2.2.2.1, x267.2.2.2.2.2.2.2.1, x267.2.2.2.2.2.2.2.2, t_meter_profile_ring_f, t_value_size, t_value_bytes_f, x270.1, x270.2)))
  else
    mm_Cn_answer_J276 F p1_bytes_N t_association t_blocksSent t_meter_now t_meter_registers_f t_meter_profile_columnCount t_meter_profile_capacity t_meter_profile_period t_meter_profile_first t_meter_profile_size t_meter_profile_columns_f t_meter_profile_ring_f t_request_size t_request_bytes_f t_value_size t_value_bytes_f p1_size p1_bytes_f)
theorem mq_Cn_answer_J217 (F : Nat) (p1_bytes_N : Nat) (t_association : Int32) (t_blocksSent : Int32) (t_meter_now : Int32) (t_meter_registers_f : Nat → Int32) (t_meter_profile_columnCount : Int32) (t_meter_profile_capacity : Int32) (t_meter_profile_period : Int32) (t_meter_profile_first : Int32) (t_meter_profile_size : Int32) (t_meter_profile_columns_f : Nat → Int32) (t_meter_profile_ring_f : Nat → Int32) (t_request_size : Int32) (t_request_bytes_f : Nat → Int32) (t_value_size : Int32) (t_value_bytes_f : Nat → Int32) (p1_size : Int32) (p1_bytes_f : Nat → Int32) : mm_Cn_answer_J217 F p1_bytes_N t_association t_blocksSent t_meter_now t_meter_registers_f t_meter_profile_columnCount t_meter_profile_capacity t_meter_profile_period t_meter_profile_first t_meter_profile_size t_meter_profile_columns_f t_meter_profile_ring_f t_request_size t_request_bytes_f t_value_size t_value_bytes_f p1_size p1_bytes_f =
  (mm_Rw_at F 60 0 t_request_size t_request_bytes_f).bind fun x222 =>
  (if x222 = 193 then
    (if t_request_size < 3 then
      mm_Cn_answer_J276 F p1_bytes_N t_association t_blocksSent t_meter_now t_meter_registers_f t_meter_profile_columnCount t_meter_profile_capacity t_meter_profile_period t_meter_profile_first t_meter_profile_size t_meter_profile_columns_f t_meter_profile_ring_f t_request_size t_request_bytes_f t_value_size t_value_bytes_f p1_size p1_bytes_f
    else
      (if t_association = 2 then
        (mm_Mt_set F 60 1 t_meter_now t_meter_registers_f t_meter_profile_columnCount t_meter_profile_capacity t_meter_profile_period t_meter_profile_first t_meter_profile_size t_meter_profile_columns_f t_request_size t_request_bytes_f).bind fun x267 =>
        (mm_Cn_addTwo F p1_bytes_N 197 x267.1 p1_size p1_bytes_f).bind fun x270 =>
        some (t_association, t_blocksSent, x267.2.1, x267.2.2.1, x267.2.2.2.1, x267.2.2.2.2.1, x267.2.2.2.2.2.1, x267.2.2.2.2.2.2.1, x267.2.2.2.2.2.2.2.1, x267.2.2.2.2.2.2.2.2, t_meter_profile_ring_f, t_value_size, t_value_bytes_f, x270.1, x270.2)
      else
        (mm_Mt_set F 60 0 t_meter_now t_meter_registers_f t_meter_profile_columnCount t_meter_profile_capacity t_meter_profile_period t_meter_profile_first t_meter_profile_size t_meter_profile_columns_f t_request_size t_request_bytes_f).bind fun x267 =>
        (mm_Cn_addTwo F p1_bytes_N 197 x267.1 p1_size p1_bytes_f).bind fun x270 =>
        some (t_association, t_blocksSent, x267.2.1, x267.2.2.1, x267.2.2.2.1, x267.2.2.2.2.1, x267.2.2.2.2.2.1, x267.2.2.2.2.2.2.1, x267.2.2.2.2.2.2.2.1, x267.2.2.2.2.2.2.2.2, t_meter_profile_ring_f, t_value_size, t_value_bytes_f, x270.1, x270.2)))
  else
    mm_Cn_answer_J276 F p1_bytes_N t_association t_blocksSent t_meter_now t_meter_registers_f t_meter_profile_columnCount t_meter_profile_capacity t_meter_profile_period t_meter_profile_first t_meter_profile_size t_meter_profile_columns_f t_meter_profile_ring_f t_request_size t_request_bytes_f t_value_size t_value_bytes_f p1_size p1_bytes_f) := rfl
def mm_Cn_answer_J185 (F : Nat) (p1_bytes_N : Nat) (v2 : Int32) (t_association : Int32) (t_blocksSent : Int32) (t_meter_now : Int32) (t_meter_registers_f : Nat → Int32) (t_meter_profile_columnCount : Int32) (t_meter_profile_capacity : Int32) (t_meter_profile_period : Int32) (t_meter_profile_first : Int32) (t_meter_profile_size : Int32) (t_meter_profile_columns_f : Nat → Int32) (t_meter_profile_ring_f : Nat → Int32) (t_request_size : Int32) (t_request_bytes_f : Nat → Int32) (t_value_size : Int32) (t_value_bytes_f : Nat → Int32) (p1_size : Int32) (p1_bytes_f : Nat → Int32) : Option (Int32 × Int32 × Int32 × (Nat → Int32) × Int32 × Int32 × Int32 × Int32 × Int32 × (Nat → Int32) × (Nat → Int32) × Int32 × (Nat → Int32) × Int32 × (Nat → Int32)) :=
  (mm_Cn_begins F 192 3 t_request_size t_request_bytes_f).bind fun x190 =>
  (if x190 = 0 then
    mm_Cn_answer_J217 F p1_bytes_N t_association t_blocksSent t_meter_now t_meter_registers_f t_meter_profile_columnCount t_meter_profile_capacity t_meter_profile_period t_meter_profile_first t_meter_profile_size t_meter_profile_columns_f t_meter_profile_ring_f t_request_size t_request_bytes_f t_value_size t_value_bytes_f p1_size p1_bytes_f
  else
    (mm_Rw_at F 60 1 t_request_size t_request_bytes_f).bind fun x201 =>
    (if x201 = 2 then
      (mm_Cn_answerNextBlock F p1_bytes_N v2 t_blocksSent t_request_size t_request_bytes_f t_value_size t_value_bytes_f p1_size p1_bytes_f).bind fun x211 =>
      some (t_association, x211.1, t_meter_now, t_meter_registers_f, t_meter_profile_columnCount, t_meter_profile_capacity, t_meter_profile_period, t_meter_profile_first, t_meter_profile_size, t_meter_profile_columns_f, t_meter_profile_ring_f, t_value_size, t_value_bytes_f, x211.2.1, x211.2.2)
    else
      mm_Cn_answer_J217 F p1_bytes_N t_association t_blocksSent t_meter_now t_meter_registers_f t_meter_profile_columnCount t_meter_profile_capacity t_meter_profile_period t_meter_profile_first t_meter_profile_size t_meter_profile_columns_f t_meter_profile_ring_f t_request_size t_request_bytes_f t_value_size t_value_bytes_f p1_size p1_bytes_f))
theorem mq_Cn_answer_J185 (F : Nat) (p1_bytes_N : Nat) (v2 : Int32) (t_association : Int32) (t_blocksSent : Int32) (t_meter_now : Int32) (t_meter_registers_f : Nat → Int32) (t_meter_profile_columnCount : Int32) (t_meter_profile_capacity : Int32) (t_meter_profile_period : Int32) (t_meter_profile_first : Int32) (t_meter_profile_size : Int32) (t_meter_profile_columns_f : Nat → Int32) (t_meter_profile_ring_f : Nat → Int32) (t_request_size : Int32) (t_request_bytes_f : Nat → Int32) (t_value_size : Int32) (t_value_bytes_f : Nat → Int32) (p1_size : Int32) (p1_bytes_f : Nat → Int32) : mm_Cn_answer_J185 F p1_bytes_N v2 t_association t_blocksSent t_meter_now t_meter_registers_f t_meter_profile_columnCount t_meter_profile_capacity t_meter_profile_period t_meter_profile_first t_meter_profile_size t_meter_profile_columns_f t_meter_profile_ring_f t_request_size t_request_bytes_f t_value_size t_value_bytes_f p1_size p1_bytes_f =
  (mm_Cn_begins F 192 3 t_request_size t_request_bytes_f).bind fun x190 =>
  (if x190 = 0 then
    mm_Cn_answer_J217 F p1_bytes_N t_association t_blocksSent t_meter_now t_meter_registers_f t_meter_profile_columnCount t_meter_profile_capacity t_meter_profile_period t_meter_profile_first t_meter_profile_size t_meter_profile_columns_f t_meter_profile_ring_f t_request_size t_request_bytes_f t_value_size t_value_bytes_f p1_size p1_bytes_f
  else
    (mm_Rw_at F 60 1 t_request_size t_request_bytes_f).bind fun x201 =>
    (if x201 = 2 then
      (mm_Cn_answerNextBlock F p1_bytes_N v2 t_blocksSent t_request_size t_request_bytes_f t_value_size t_value_bytes_f p1_size p1_bytes_f).bind fun x211 =>
      some (t_association, x211.1, t_meter_now, t_meter_registers_f, t_meter_profile_columnCount, t_meter_profile_capacity, t_meter_profile_period, t_meter_profile_first, t_meter_profile_size, t_meter_profile_columns_f, t_meter_profile_ring_f, t_value_size, t_value_bytes_f, x211.2.1, x211.2.2)
    else
      mm_Cn_answer_J217 F p1_bytes_N t_association t_blocksSent t_meter_now t_meter_registers_f t_meter_profile_columnCount t_meter_profile_capacity t_meter_profile_period t_meter_profile_first t_meter_profile_size t_meter_profile_columns_f t_meter_profile_ring_f t_request_size t_request_bytes_f t_value_size t_value_bytes_f p1_size p1_bytes_f)) := rfl
def mm_Cn_answer_J123 (F : Nat) (p1_bytes_N : Nat) (v2 : Int32) (t_association : Int32) (t_blocksSent : Int32) (t_meter_now : Int32) (t_meter_registers_f : Nat → Int32) (t_meter_profile_columnCount : Int32) (t_meter_profile_capacity : Int32) (t_meter_profile_period : Int32) (t_meter_profile_first : Int32) (t_meter_profile_size : Int32) (t_meter_profile_columns_f : Nat → Int32) (t_meter_profile_ring_f : Nat → Int32) (t_request_size : Int32) (t_request_bytes_f : Nat → Int32) (t_value_size : Int32) (t_value_bytes_f : Nat → Int32) (p1_size : Int32) (p1_bytes_f : Nat → Int32) : Option (Int32 × Int32 × Int32 × (Nat → Int32) × Int32 × Int32 × Int32 × Int32 × Int32 × (Nat → Int32) × (Nat → Int32) × Int32 × (Nat → Int32) × Int32 × (Nat → Int32)) :=
  (mm_Cn_begins F 192 13 t_request_size t_request_bytes_f).bind fun x129 =>
  (if x129 = 0 then
    mm_Cn_answer_J185 F p1_bytes_N v2 t_association t_blocksSent t_meter_now t_meter_registers_f t_meter_profile_columnCount t_meter_profile_capacity t_meter_profile_period t_meter_profile_first t_meter_profile_size t_meter_profile_columns_f t_meter_profile_ring_f t_request_size t_request_bytes_f t_value_size t_value_bytes_f p1_size p1_bytes_f
  else
    (mm_Rw_at F 60 1 t_request_size t_request_bytes_f).bind fun x140 =>
    (if x140 = 1 then
      (mm_Rw_at F 60 4 t_request_size t_request_bytes_f).bind fun x152 =>
      (if x152 = 1 then
        (mm_Rw_intAt F 60 5 t_request_size t_request_bytes_f).bind fun x167 =>
        (mm_Rw_intAt F 60 9 t_request_size t_request_bytes_f).bind fun x176 =>
        (mm_Cn_answerGet F p1_bytes_N 1 x167 x176 t_blocksSent t_meter_now t_meter_registers_f t_meter_profile_columnCount t_meter_profile_capacity t_meter_profile_period t_meter_profile_first t_meter_profile_size t_meter_profile_columns_f t_meter_profile_ring_f t_request_size t_request_bytes_f t_value_size t_value_bytes_f p1_size p1_bytes_f).bind fun x179 =>
        some (t_association, x179.1, t_meter_now, t_meter_registers_f, t_meter_profile_columnCount, t_meter_profile_capacity, t_meter_profile_period, t_meter_profile_first, t_meter_profile_size, t_meter_profile_columns_f, t_meter_profile_ring_f, x179.2.1, x179.2.2.1, x179.2.2.2.1, x179.2.2.2.2)
      else
        mm_Cn_answer_J185 F p1_bytes_N v2 t_association t_blocksSent t_meter_now t_meter_registers_f t_meter_profile_columnCount t_meter_profile_capacity t_meter_profile_period t_meter_profile_first t_meter_profile_size t_meter_profile_columns_f t_meter_profile_ring_f t_request_size t_request_bytes_f t_value_size t_value_bytes_f p1_size p1_bytes_f)
    else
      mm_Cn_answer_J185 F p1_bytes_N v2 t_association t_blocksSent t_meter_now t_meter_registers_f t_meter_profile_columnCount t_meter_profile_capacity t_meter_profile_period t_meter_profile_first t_meter_profile_size t_meter_profile_columns_f t_meter_profile_ring_f t_request_size t_request_bytes_f t_value_size t_value_bytes_f p1_size p1_bytes_f))
theorem mq_Cn_answer_J123 (F : Nat) (p1_bytes_N : Nat) (v2 : Int32) (t_association : Int32) (t_blocksSent : Int32) (t_meter_now : Int32) (t_meter_registers_f : Nat → Int32) (t_meter_profile_columnCount : Int32) (t_meter_profile_capacity : Int32) (t_meter_profile_period : Int32) (t_meter_profile_first : Int32) (t_meter_profile_size : Int32) (t_meter_profile_columns_f : Nat → Int32) (t_meter_profile_ring_f : Nat → Int32) (t_request_size : Int32) (t_request_bytes_f : Nat → Int32) (t_value_size : Int32) (t_value_bytes_f : Nat → Int32) (p1_size : Int32) (p1_bytes_f : Nat → Int32) : mm_Cn_answer_J123 F p1_bytes_N v2 t_association t_blocksSent t_meter_now t_meter_registers_f t_meter_profile_columnCount t_meter_profile_capacity t_meter_profile_period t_meter_profile_first t_meter_profile_size t_meter_profile_columns_f t_meter_profile_ring_f t_request_size t_request_bytes_f t_value_size t_value_bytes_f p1_size p1_bytes_f =
  (mm_Cn_begins F 192 13 t_request_size t_request_bytes_f).bind fun x129 =>
  (if x129 = 0 then
    mm_Cn_answer_J185 F p1_bytes_N v2 t_association t_blocksSent t_meter_now t_meter_registers_f t_meter_profile_columnCount t_meter_profile_capacity t_meter_profile_period t_meter_profile_first t_meter_profile_size t_meter_profile_columns_f t_meter_profile_ring_f t_request_size t_request_bytes_f t_value_size t_value_bytes_f p1_size p1_bytes_f
  else
    (mm_Rw_at F 60 1 t_request_size t_request_bytes_f).bind fun x140 =>
    (if x140 = 1 then
      (mm_Rw_at F 60 4 t_request_size t_request_bytes_f).bind fun x152 =>
      (if x152 = 1 then
        (mm_Rw_intAt F 60 5 t_request_size t_request_bytes_f).bind fun x167 =>
        (mm_Rw_intAt F 60 9 t_request_size t_request_bytes_f).bind fun x176 =>
        (mm_Cn_answerGet F p1_bytes_N 1 x167 x176 t_blocksSent t_meter_now t_meter_registers_f t_meter_profile_columnCount t_meter_profile_capacity t_meter_profile_period t_meter_profile_first t_meter_profile_size t_meter_profile_columns_f t_meter_profile_ring_f t_request_size t_request_bytes_f t_value_size t_value_bytes_f p1_size p1_bytes_f).bind fun x179 =>
        some (t_association, x179.1, t_meter_now, t_meter_registers_f, t_meter_profile_columnCount, t_meter_profile_capacity, t_meter_profile_period, t_meter_profile_first, t_meter_profile_size, t_meter_profile_columns_f, t_meter_profile_ring_f, x179.2.1, x179.2.2.1, x179.2.2.2.1, x179.2.2.2.2)
      else
        mm_Cn_answer_J185 F p1_bytes_N v2 t_association t_blocksSent t_meter_now t_meter_registers_f t_meter_profile_columnCount t_meter_profile_capacity t_meter_profile_period t_meter_profile_first t_meter_profile_size t_meter_profile_columns_f t_meter_profile_ring_f t_request_size t_request_bytes_f t_value_size t_value_bytes_f p1_size p1_bytes_f)
    else
      mm_Cn_answer_J185 F p1_bytes_N v2 t_association t_blocksSent t_meter_now t_meter_registers_f t_meter_profile_columnCount t_meter_profile_capacity t_meter_profile_period t_meter_profile_first t_meter_profile_size t_meter_profile_columns_f t_meter_profile_ring_f t_request_size t_request_bytes_f t_value_size t_value_bytes_f p1_size p1_bytes_f)) := rfl
def mm_Cn_answer_J78 (F : Nat) (p1_bytes_N : Nat) (v2 : Int32) (t_association : Int32) (t_blocksSent : Int32) (t_meter_now : Int32) (t_meter_registers_f : Nat → Int32) (t_meter_profile_columnCount : Int32) (t_meter_profile_capacity : Int32) (t_meter_profile_period : Int32) (t_meter_profile_first : Int32) (t_meter_profile_size : Int32) (t_meter_profile_columns_f : Nat → Int32) (t_meter_profile_ring_f : Nat → Int32) (t_request_size : Int32) (t_request_bytes_f : Nat → Int32) (t_value_size : Int32) (t_value_bytes_f : Nat → Int32) (p1_size : Int32) (p1_bytes_f : Nat → Int32) : Option (Int32 × Int32 × Int32 × (Nat → Int32) × Int32 × Int32 × Int32 × Int32 × Int32 × (Nat → Int32) × (Nat → Int32) × Int32 × (Nat → Int32) × Int32 × (Nat → Int32)) :=
  (mm_Cn_begins F 192 5 t_request_size t_request_bytes_f).bind fun x83 =>
  (if x83 = 0 then
    mm_Cn_answer_J123 F p1_bytes_N v2 t_association t_blocksSent t_meter_now t_meter_registers_f t_meter_profile_columnCount t_meter_profile_capacity t_meter_profile_period t_meter_profile_first t_meter_profile_size t_meter_profile_columns_f t_meter_profile_ring_f t_request_size t_request_bytes_f t_value_size t_value_bytes_f p1_size p1_bytes_f
  else
    (mm_Rw_at F 60 1 t_request_size t_request_bytes_f).bind fun x94 =>
    (if x94 = 1 then
      (mm_Rw_at F 60 4 t_request_size t_request_bytes_f).bind fun x106 =>
      (if x106 = 0 then
        (mm_Cn_answerGet F p1_bytes_N 0 0 (-1) t_blocksSent t_meter_now t_meter_registers_f t_meter_profile_columnCount t_meter_profile_capacity t_meter_profile_period t_meter_profile_first t_meter_profile_size t_meter_profile_columns_f t_meter_profile_ring_f t_request_size t_request_bytes_f t_value_size t_value_bytes_f p1_size p1_bytes_f).bind fun x117 =>
        some (t_association, x117.1, t_meter_now, t_meter_registers_f, t_meter_profile_columnCount, t_meter_profile_capacity, t_meter_profile_period, t_meter_profile_first, t_meter_profile_size, t_meter_profile_columns_f, t_meter_profile_ring_f, x117.2.1, x117.2.2.1, x117.2.2.2.1, x117.2.2.2.2)
      else
        mm_Cn_answer_J123 F p1_bytes_N v2 t_association t_blocksSent t_meter_now t_meter_registers_f t_meter_profile_columnCount t_meter_profile_capacity t_meter_profile_period t_meter_profile_first t_meter_profile_size t_meter_profile_columns_f t_meter_profile_ring_f t_request_size t_request_bytes_f t_value_size t_value_bytes_f p1_size p1_bytes_f)
    else
      mm_Cn_answer_J123 F p1_bytes_N v2 t_association t_blocksSent t_meter_now t_meter_registers_f t_meter_profile_columnCount t_meter_profile_capacity t_meter_profile_period t_meter_profile_first t_meter_profile_size t_meter_profile_columns_f t_meter_profile_ring_f t_request_size t_request_bytes_f t_value_size t_value_bytes_f p1_size p1_bytes_f))
theorem mq_Cn_answer_J78 (F : Nat) (p1_bytes_N : Nat) (v2 : Int32) (t_association : Int32) (t_blocksSent : Int32) (t_meter_now : Int32) (t_meter_registers_f : Nat → Int32) (t_meter_profile_columnCount : Int32) (t_meter_profile_capacity : Int32) (t_meter_profile_period : Int32) (t_meter_profile_first : Int32) (t_meter_profile_size : Int32) (t_meter_profile_columns_f : Nat → Int32) (t_meter_profile_ring_f : Nat → Int32) (t_request_size : Int32) (t_request_bytes_f : Nat → Int32) (t_value_size : Int32) (t_value_bytes_f : Nat → Int32) (p1_size : Int32) (p1_bytes_f : Nat → Int32) : mm_Cn_answer_J78 F p1_bytes_N v2 t_association t_blocksSent t_meter_now t_meter_registers_f t_meter_profile_columnCount t_meter_profile_capacity t_meter_profile_period t_meter_profile_first t_meter_profile_size t_meter_profile_columns_f t_meter_profile_ring_f t_request_size t_request_bytes_f t_value_size t_value_bytes_f p1_size p1_bytes_f =
  (mm_Cn_begins F 192 5 t_request_size t_request_bytes_f).bind fun x83 =>
  (if x83 = 0 then
    mm_Cn_answer_J123 F p1_bytes_N v2 t_association t_blocksSent t_meter_now t_meter_registers_f t_meter_profile_columnCount t_meter_profile_capacity t_meter_profile_period t_meter_profile_first t_meter_profile_size t_meter_profile_columns_f t_meter_profile_ring_f t_request_size t_request_bytes_f t_value_size t_value_bytes_f p1_size p1_bytes_f
  else
    (mm_Rw_at F 60 1 t_request_size t_request_bytes_f).bind fun x94 =>
    (if x94 = 1 then
      (mm_Rw_at F 60 4 t_request_size t_request_bytes_f).bind fun x106 =>
      (if x106 = 0 then
        (mm_Cn_answerGet F p1_bytes_N 0 0 (-1) t_blocksSent t_meter_now t_meter_registers_f t_meter_profile_columnCount t_meter_profile_capacity t_meter_profile_period t_meter_profile_first t_meter_profile_size t_meter_profile_columns_f t_meter_profile_ring_f t_request_size t_request_bytes_f t_value_size t_value_bytes_f p1_size p1_bytes_f).bind fun x117 =>
        some (t_association, x117.1, t_meter_now, t_meter_registers_f, t_meter_profile_columnCount, t_meter_profile_capacity, t_meter_profile_period, t_meter_profile_first, t_meter_profile_size, t_meter_profile_columns_f, t_meter_profile_ring_f, x117.2.1, x117.2.2.1, x117.2.2.2.1, x117.2.2.2.2)
      else
        mm_Cn_answer_J123 F p1_bytes_N v2 t_association t_blocksSent t_meter_now t_meter_registers_f t_meter_profile_columnCount t_meter_profile_capacity t_meter_profile_period t_meter_profile_first t_meter_profile_size t_meter_profile_columns_f t_meter_profile_ring_f t_request_size t_request_bytes_f t_value_size t_value_bytes_f p1_size p1_bytes_f)
    else
      mm_Cn_answer_J123 F p1_bytes_N v2 t_association t_blocksSent t_meter_now t_meter_registers_f t_meter_profile_columnCount t_meter_profile_capacity t_meter_profile_period t_meter_profile_first t_meter_profile_size t_meter_profile_columns_f t_meter_profile_ring_f t_request_size t_request_bytes_f t_value_size t_value_bytes_f p1_size p1_bytes_f)) := rfl
def mm_Cn_answer (F : Nat) (p1_bytes_N : Nat) (t_secret : Int32) (t_association : Int32) (t_blocksSent : Int32) (t_meter_now : Int32) (t_meter_registers_f : Nat → Int32) (t_meter_profile_columnCount : Int32) (t_meter_profile_capacity : Int32) (t_meter_profile_period : Int32) (t_meter_profile_first : Int32) (t_meter_profile_size : Int32) (t_meter_profile_columns_f : Nat → Int32) (t_meter_profile_ring_f : Nat → Int32) (t_request_size : Int32) (t_request_bytes_f : Nat → Int32) (t_value_size : Int32) (t_value_bytes_f : Nat → Int32) (p1_size : Int32) (p1_bytes_f : Nat → Int32) : Option (Int32 × Int32 × Int32 × (Nat → Int32) × Int32 × Int32 × Int32 × Int32 × Int32 × (Nat → Int32) × (Nat → Int32) × Int32 × (Nat → Int32) × Int32 × (Nat → Int32)) :=
  (mm_Cn_begins F 96 6 t_request_size t_request_bytes_f).bind fun x15 =>
  (if x15 = 0 then
    (mm_Cn_begins F 98 1 t_request_size t_request_bytes_f).bind fun x33 =>
    (if x33 = 0 then
      (if t_association = 0 then
        (mm_Cn_needsAssociation F t_request_size t_request_bytes_f).bind fun x61 =>
        (if x61 = 0 then
          mm_Cn_answer_J78 F p1_bytes_N t_blocksSent t_association 0 t_meter_now t_meter_registers_f t_meter_profile_columnCount t_meter_profile_capacity t_meter_profile_period t_meter_profile_first t_meter_profile_size t_meter_profile_columns_f t_meter_profile_ring_f t_request_size t_request_bytes_f t_value_size t_value_bytes_f p1_size p1_bytes_f
        else
          (mm_Cn_addTwo F p1_bytes_N 216 1 p1_size p1_bytes_f).bind fun x72 =>
          some (t_association, 0, t_meter_now, t_meter_registers_f, t_meter_profile_columnCount, t_meter_profile_capacity, t_meter_profile_period, t_meter_profile_first, t_meter_profile_size, t_meter_profile_columns_f, t_meter_profile_ring_f, t_value_size, t_value_bytes_f, x72.1, x72.2))
      else
        mm_Cn_answer_J78 F p1_bytes_N t_blocksSent t_association 0 t_meter_now t_meter_registers_f t_meter_profile_columnCount t_meter_profile_capacity t_meter_profile_period t_meter_profile_first t_meter_profile_size t_meter_profile_columns_f t_meter_profile_ring_f t_request_size t_request_bytes_f t_value_size t_value_bytes_f p1_size p1_bytes_f)
    else
      (mm_Rw_add F p1_bytes_N 99 p1_size p1_bytes_f).bind fun x47 =>
      some (0, 0, t_meter_now, t_meter_registers_f, t_meter_profile_columnCount, t_meter_profile_capacity, t_meter_profile_period, t_meter_profile_first, t_meter_profile_size, t_meter_profile_columns_f, t_meter_profile_ring_f, t_value_size, t_value_bytes_f, x47.1, x47.2))
  else
    (mm_Cn_associate F p1_bytes_N t_secret t_association t_request_size t_request_bytes_f p1_size p1_bytes_f).bind fun x23 =>
    some (x23.1, 0, t_meter_now, t_meter_registers_f, t_meter_profile_columnCount, t_meter_profile_capacity, t_meter_profile_period, t_meter_profile_first, t_meter_profile_size, t_meter_profile_columns_f, t_meter_profile_ring_f, t_value_size, t_value_bytes_f, x23.2.1, x23.2.2))
theorem mq_Cn_answer (F : Nat) (p1_bytes_N : Nat) (t_secret : Int32) (t_association : Int32) (t_blocksSent : Int32) (t_meter_now : Int32) (t_meter_registers_f : Nat → Int32) (t_meter_profile_columnCount : Int32) (t_meter_profile_capacity : Int32) (t_meter_profile_period : Int32) (t_meter_profile_first : Int32) (t_meter_profile_size : Int32) (t_meter_profile_columns_f : Nat → Int32) (t_meter_profile_ring_f : Nat → Int32) (t_request_size : Int32) (t_request_bytes_f : Nat → Int32) (t_value_size : Int32) (t_value_bytes_f : Nat → Int32) (p1_size : Int32) (p1_bytes_f : Nat → Int32) : mm_Cn_answer F p1_bytes_N t_secret t_association t_blocksSent t_meter_now t_meter_registers_f t_meter_profile_columnCount t_meter_profile_capacity t_meter_profile_period t_meter_profile_first t_meter_profile_size t_meter_profile_columns_f t_meter_profile_ring_f t_request_size t_request_bytes_f t_value_size t_value_bytes_f p1_size p1_bytes_f =
  (mm_Cn_begins F 96 6 t_request_size t_request_bytes_f).bind fun x15 =>
  (if x15 = 0 then
    (mm_Cn_begins F 98 1 t_request_size t_request_bytes_f).bind fun x33 =>
    (if x33 = 0 then
      (if t_association = 0 then
        (mm_Cn_needsAssociation F t_request_size t_request_bytes_f).bind fun x61 =>
        (if x61 = 0 then
          mm_Cn_answer_J78 F p1_bytes_N t_blocksSent t_association 0 t_meter_now t_meter_registers_f t_meter_profile_columnCount t_meter_profile_capacity t_meter_profile_period t_meter_profile_first t_meter_profile_size t_meter_profile_columns_f t_meter_profile_ring_f t_request_size t_request_bytes_f t_value_size t_value_bytes_f p1_size p1_bytes_f
        else
          (mm_Cn_addTwo F p1_bytes_N 216 1 p1_size p1_bytes_f).bind fun x72 =>
          some (t_association, 0, t_meter_now, t_meter_registers_f, t_meter_profile_columnCount, t_meter_profile_capacity, t_meter_profile_period, t_meter_profile_first, t_meter_profile_size, t_meter_profile_columns_f, t_meter_profile_ring_f, t_value_size, t_value_bytes_f, x72.1, x72.2))
      else
        mm_Cn_answer_J78 F p1_bytes_N t_blocksSent t_association 0 t_meter_now t_meter_registers_f t_meter_profile_columnCount t_meter_profile_capacity t_meter_profile_period t_meter_profile_first t_meter_profile_size t_meter_profile_columns_f t_meter_profile_ring_f t_request_size t_request_bytes_f t_value_size t_value_bytes_f p1_size p1_bytes_f)
    else
      (mm_Rw_add F p1_bytes_N 99 p1_size p1_bytes_f).bind fun x47 =>
      some (0, 0, t_meter_now, t_meter_registers_f, t_meter_profile_columnCount, t_meter_profile_capacity, t_meter_profile_period, t_meter_profile_first, t_meter_profile_size, t_meter_profile_columns_f, t_meter_profile_ring_f, t_value_size, t_value_bytes_f, x47.1, x47.2))
  else
    (mm_Cn_associate F p1_bytes_N t_secret t_association t_request_size t_request_bytes_f p1_size p1_bytes_f).bind fun x23 =>
    some (x23.1, 0, t_meter_now, t_meter_registers_f, t_meter_profile_columnCount, t_meter_profile_capacity, t_meter_profile_period, t_meter_profile_first, t_meter_profile_size, t_meter_profile_columns_f, t_meter_profile_ring_f, t_value_size, t_value_bytes_f, x23.2.1, x23.2.2)) := rfl
def mm_Fr_before (F : Nat) (i0 : Int32) : Option (Int32) :=
  some ((i0 + 7) &&& 7)
theorem mq_Fr_before (F : Nat) (i0 : Int32) : mm_Fr_before F i0 =
  some ((i0 + 7) &&& 7) := rfl
def mm_Cn_isLatestAgain (F : Nat) (i1 : Int32) (t_expected : Int32) (t_next : Int32) (t_latest_size : Int32) : Option (Int32) :=
  (if t_latest_size ≤ 0 then
    some 0
  else
    (mm_Fr_before F t_expected).bind fun x15 =>
    (mm_Fr_before F t_next).bind fun x22 =>
    (mm_Fr_information F x15 x22).bind fun x25 =>
    (if i1 = x25 then
      some 1
    else
      some 0))
theorem mq_Cn_isLatestAgain (F : Nat) (i1 : Int32) (t_expected : Int32) (t_next : Int32) (t_latest_size : Int32) : mm_Cn_isLatestAgain F i1 t_expected t_next t_latest_size =
  (if t_latest_size ≤ 0 then
    some 0
  else
    (mm_Fr_before F t_expected).bind fun x15 =>
    (mm_Fr_before F t_next).bind fun x22 =>
    (mm_Fr_information F x15 x22).bind fun x25 =>
    (if i1 = x25 then
      some 1
    else
      some 0)) := rfl
def mm_Cn_receive (F : Nat) (p1_bytes_N : Nat) (p2_bytes_N : Nat) (t_secret : Int32) (t_connected : Int32) (t_expected : Int32) (t_next : Int32) (t_association : Int32) (t_blocksSent : Int32) (t_meter_now : Int32) (t_meter_registers_f : Nat → Int32) (t_meter_profile_columnCount : Int32) (t_meter_profile_capacity : Int32) (t_meter_profile_period : Int32) (t_meter_profile_first : Int32) (t_meter_profile_size : Int32) (t_meter_profile_columns_f : Nat → Int32) (t_meter_profile_ring_f : Nat → Int32) (t_request_size : Int32) (t_request_bytes_f : Nat → Int32) (t_latest_size : Int32) (t_latest_bytes_f : Nat → Int32) (t_value_size : Int32) (t_value_bytes_f : Nat → Int32) (p1_size : Int32) (p1_bytes_f : Nat → Int32) (p2_size : Int32) (p2_bytes_f : Nat → Int32) : Option (Int32 × Int32 × Int32 × Int32 × Int32 × Int32 × (Nat → Int32) × Int32 × Int32 × Int32 × Int32 × Int32 × (Nat → Int32) × (Nat → Int32) × Int32 × (Nat → Int32) × Int32 × (Nat → Int32) × Int32 × (Nat → Int32) × Int32 × (Nat → Int32)) :=
  (mm_Rw_at F p1_bytes_N 3 p1_size p1_bytes_f).bind fun x2 =>
  (if p1_size = 7 then
    (mm_Cn_receiveBare F p2_bytes_N x2 t_connected t_expected t_next t_association t_blocksSent t_latest_size p2_size p2_bytes_f).bind fun x18 =>
    some (x18.1, x18.2.1, x18.2.2.1, x18.2.2.2.1, x18.2.2.2.2.1, t_meter_now, t_meter_registers_f, t_meter_profile_columnCount, t_meter_profile_capacity, t_meter_profile_period, t_meter_profile_first, t_meter_profile_size, t_meter_profile_columns_f, t_meter_profile_ring_f, t_request_size, t_request_bytes_f, x18.2.2.2.2.2.1, t_latest_bytes_f, t_value_size, t_value_bytes_f, x18.2.2.2.2.2.2.1, x18.2.2.2.2.2.2.2)
  else
    (if t_connected = 0 then
      (mm_Fr_isInformation F x2).bind fun x32 =>
      (if x32 = 0 then
        some (t_connected, t_expected, t_next, t_association, t_blocksSent, t_meter_now, t_meter_registers_f, t_meter_profile_columnCount, t_meter_profile_capacity, t_meter_profile_period, t_meter_profile_first, t_meter_profile_size, t_meter_profile_columns_f, t_meter_profile_ring_f, t_request_size, t_request_bytes_f, t_latest_size, t_latest_bytes_f, t_value_size, t_value_bytes_f, p2_size, p2_bytes_f)
      else
        (mm_Fr_wrap F p2_bytes_N 31 p2_size p2_bytes_f).bind fun x41 =>
        some (t_connected, t_expected, t_next, t_association, t_blocksSent, t_meter_now, t_meter_registers_f, t_meter_profile_columnCount, t_meter_profile_capacity, t_meter_profile_period, t_meter_profile_first, t_meter_profile_size, t_meter_profile_columns_f, t_meter_profile_ring_f, t_request_size, t_request_bytes_f, t_latest_size, t_latest_bytes_f, t_value_size, t_value_bytes_f, x41.1, x41.2))
    else
      (mm_Fr_information F t_expected t_next).bind fun x56 =>
      (if x2 = x56 then
        (mm_Rw_drop F t_request_size).bind fun x66 =>
        (mm_Fr_payloadSize F p1_size).bind fun x77 =>
        (mm_Rw_addPart F 60 p1_bytes_N 6 x77 x66 t_request_bytes_f p1_size p1_bytes_f).bind fun x80 =>
        (mm_Cn_answer F p2_bytes_N t_secret t_association t_blocksSent t_meter_now t_meter_registers_f t_meter_profile_columnCount t_meter_profile_capacity t_meter_profile_period t_meter_profile_first t_meter_profile_size t_meter_profile_columns_f t_meter_profile_ring_f x80.1 x80.2 t_value_size t_value_bytes_f p2_size p2_bytes_f).bind fun x85 =>
        (mm_Fr_after F t_expected).bind fun x93 =>
        (mm_Fr_information F t_next x93).bind fun x108 =>
        (mm_Fr_wrap F p2_bytes_N x108 x85.2.2.2.2.2.2.2.2.2.2.2.2.2.1 x85.2.2.2.2.2.2.2.2.2.2.2.2.2.2).bind fun x111 =>
        (mm_Fr_after F t_next).bind fun x119 =>
        (mm_Rw_drop F t_latest_size).bind fun x129 =>
        (mm_Rw_addPart F 80 p2_bytes_N 0 x111.1 x129 t_latest_bytes_f x111.1 x111.2).bind fun x142 =>
        some (t_connected, x93, x119, x85.1, x85.2.1, x85.2.2.1, x85.2.2.2.1, x85.2.2.2.2.1, x85.2.2.2.2.2.1, x85.2.2.2.2.2.2.1, x85.2.2.2.2.2.2.2.1, x85.2.2.2.2.2.2.2.2.1, x85.2.2.2.2.2.2.2.2.2.1, x85.2.2.2.2.2.2.2.2.2.2.1, x80.1, x80.2, x142.1, x142.2, x85.2.2.2.2.2.2.2.2.2.2.2.1, x85.2.2.2.2.2.2.2.2.2.2.2.2.1, x111.1, x111.2)
      else
        (mm_Cn_isLatestAgain F x2 t_expected t_next t_latest_size).bind fun x150 =>
        (if x150 = 0 then
          (mm_Fr_isInformation F x2).bind fun x176 =>
          (if x176 = 0 then
            some (t_connected, t_expected, t_next, t_association, t_blocksSent, t_meter_now, t_meter_registers_f, t_meter_profile_columnCount, t_meter_profile_capacity, t_meter_profile_period, t_meter_profile_first, t_meter_profile_size, t_meter_profile_columns_f, t_meter_profile_ring_f, t_request_size, t_request_bytes_f, t_latest_size, t_latest_bytes_f, t_value_size, t_value_bytes_f, p2_size, p2_bytes_f)
          else
            (mm_Fr_wrap F p2_bytes_N (17 + (32 * t_expected)) p2_size p2_bytes_f).bind fun x193 =>
            some (t_connected, t_expected, t_next, t_association, t_blocksSent, t_meter_now, t_meter_registers_f, t_meter_profile_columnCount, t_meter_profile_capacity, t_meter_profile_period, t_meter_profile_first, t_meter_profile_size, t_meter_profile_columns_f, t_meter_profile_ring_f, t_request_size, t_request_bytes_f, t_latest_size, t_latest_bytes_f, t_value_size, t_value_bytes_f, x193.1, x193.2))
        else
          (mm_Rw_addPart F p2_bytes_N 80 0 t_latest_size p2_size p2_bytes_f t_latest_size t_latest_bytes_f).bind fun x169 =>
          some (t_connected, t_expected, t_next, t_association, t_blocksSent, t_meter_now, t_meter_registers_f, t_meter_profile_columnCount, t_meter_profile_capacity, t_meter_profile_period, t_meter_profile_first, t_meter_profile_size, t_meter_profile_columns_f, t_meter_profile_ring_f, t_request_size, t_request_bytes_f, t_latest_size, t_latest_bytes_f, t_value_size, t_value_bytes_f, x169.1, x169.2)))))
theorem mq_Cn_receive (F : Nat) (p1_bytes_N : Nat) (p2_bytes_N : Nat) (t_secret : Int32) (t_connected : Int32) (t_expected : Int32) (t_next : Int32) (t_association : Int32) (t_blocksSent : Int32) (t_meter_now : Int32) (t_meter_registers_f : Nat → Int32) (t_meter_profile_columnCount : Int32) (t_meter_profile_capacity : Int32) (t_meter_profile_period : Int32) (t_meter_profile_first : Int32) (t_meter_profile_size : Int32) (t_meter_profile_columns_f : Nat → Int32) (t_meter_profile_ring_f : Nat → Int32) (t_request_size : Int32) (t_request_bytes_f : Nat → Int32) (t_latest_size : Int32) (t_latest_bytes_f : Nat → Int32) (t_value_size : Int32) (t_value_bytes_f : Nat → Int32) (p1_size : Int32) (p1_bytes_f : Nat → Int32) (p2_size : Int32) (p2_bytes_f : Nat → Int32) : mm_Cn_receive F p1_bytes_N p2_bytes_N t_secret t_connected t_expected t_next t_association t_blocksSent t_meter_now t_meter_registers_f t_meter_profile_columnCount t_meter_profile_capacity t_meter_profile_period t_meter_profile_first t_meter_profile_size t_meter_profile_columns_f t_meter_profile_ring_f t_request_size t_request_bytes_f t_latest_size t_latest_bytes_f t_value_size t_value_bytes_f p1_size p1_bytes_f p2_size p2_bytes_f =
  (mm_Rw_at F p1_bytes_N 3 p1_size p1_bytes_f).bind fun x2 =>
  (if p1_size = 7 then
    (mm_Cn_receiveBare F p2_bytes_N x2 t_connected t_expected t_next t_association t_blocksSent t_latest_size p2_size p2_bytes_f).bind fun x18 =>
    some (x18.1, x18.2.1, x18.2.2.1, x18.2.2.2.1, x18.2.2.2.2.1, t_meter_now, t_meter_registers_f, t_meter_profile_columnCount, t_meter_profile_capacity, t_meter_profile_period, t_meter_profile_first, t_meter_profile_size, t_meter_profile_columns_f, t_meter_profile_ring_f, t_request_size, t_request_bytes_f, x18.2.2.2.2.2.1, t_latest_bytes_f, t_value_size, t_value_bytes_f, x18.2.2.2.2.2.2.1, x18.2.2.2.2.2.2.2)
  else
    (if t_connected = 0 then
      (mm_Fr_isInformation F x2).bind fun x32 =>
      (if x32 = 0 then
        some (t_connected, t_expected, t_next, t_association, t_blocksSent, t_meter_now, t_meter_registers_f, t_meter_profile_columnCount, t_meter_profile_capacity, t_meter_profile_period, t_meter_profile_first, t_meter_profile_size, t_meter_profile_columns_f, t_meter_profile_ring_f, t_request_size, t_request_bytes_f, t_latest_size, t_latest_bytes_f, t_value_size, t_value_bytes_f, p2_size, p2_bytes_f)
      else
        (mm_Fr_wrap F p2_bytes_N 31 p2_size p2_bytes_f).bind fun x41 =>
        some (t_connected, t_expected, t_next, t_association, t_blocksSent, t_meter_now, t_meter_registers_f, t_meter_profile_columnCount, t_meter_profile_capacity, t_meter_profile_period, t_meter_profile_first, t_meter_profile_size, t_meter_profile_columns_f, t_meter_profile_ring_f, t_request_size, t_request_bytes_f, t_latest_size, t_latest_bytes_f, t_value_size, t_value_bytes_f, x41.1, x41.2))
    else
      (mm_Fr_information F t_expected t_next).bind fun x56 =>
      (if x2 = x56 then
        (mm_Rw_drop F t_request_size).bind fun x66 =>
        (mm_Fr_payloadSize F p1_size).bind fun x77 =>
        (mm_Rw_addPart F 60 p1_bytes_N 6 x77 x66 t_request_bytes_f p1_size p1_bytes_f).bind fun x80 =>
        (mm_Cn_answer F p2_bytes_N t_secret t_association t_blocksSent t_meter_now t_meter_registers_f t_meter_profile_columnCount t_meter_profile_capacity t_meter_profile_period t_meter_profile_first t_meter_profile_size t_meter_profile_columns_f t_meter_profile_ring_f x80.1 x80.2 t_value_size t_value_bytes_f p2_size p2_bytes_f).bind fun x85 =>
        (mm_Fr_after F t_expected).bind fun x93 =>
        (mm_Fr_information F t_next x93).bind fun x108 =>
        (mm_Fr_wrap F p2_bytes_N x108 x85.2.2.2.2.2.2.2.2.2.2.2.2.2.1 x85.2.2.2.2.2.2.2.2.2.2.2.2.2.2).bind fun x111 =>
        (mm_Fr_after F t_next).bind fun x119 =>
        (mm_Rw_drop F t_latest_size).bind fun x129 =>
        (mm_Rw_addPart F 80 p2_bytes_N 0 x111.1 x129 t_latest_bytes_f x111.1 x111.2).bind fun x142 =>
        some (t_connected, x93, x119, x85.1, x85.2.1, x85.2.2.1, x85.2.2.2.1, x85.2.2.2.2.1, x85.2.2.2.2.2.1, x85.2.2.2.2.2.2.1, x85.2.2.2.2.2.2.2.1, x85.2.2.2.2.2.2.2.2.1, x85.2.2.2.2.2.2.2.2.2.1, x85.2.2.2.2.2.2.2.2.2.2.1, x80.1, x80.2, x142.1, x142.2, x85.2.2.2.2.2.2.2.2.2.2.2.1, x85.2.2.2.2.2.2.2.2.2.2.2.2.1, x111.1, x111.2)
      else
        (mm_Cn_isLatestAgain F x2 t_expected t_next t_latest_size).bind fun x150 =>
        (if x150 = 0 then
          (mm_Fr_isInformation F x2).bind fun x176 =>
          (if x176 = 0 then
            some (t_connected, t_expected, t_next, t_association, t_blocksSent, t_meter_now, t_meter_registers_f, t_meter_profile_columnCount, t_meter_profile_capacity, t_meter_profile_period, t_meter_profile_first, t_meter_profile_size, t_meter_profile_columns_f, t_meter_profile_ring_f, t_request_size, t_request_bytes_f, t_latest_size, t_latest_bytes_f, t_value_size, t_value_bytes_f, p2_size, p2_bytes_f)
          else
            (mm_Fr_wrap F p2_bytes_N (17 + (32 * t_expected)) p2_size p2_bytes_f).bind fun x193 =>
            some (t_connected, t_expected, t_next, t_association, t_blocksSent, t_meter_now, t_meter_registers_f, t_meter_profile_columnCount, t_meter_profile_capacity, t_meter_profile_period, t_meter_profile_first, t_meter_profile_size, t_meter_profile_columns_f, t_meter_profile_ring_f, t_request_size, t_request_bytes_f, t_latest_size, t_latest_bytes_f, t_value_size, t_value_bytes_f, x193.1, x193.2))
        else
          (mm_Rw_addPart F p2_bytes_N 80 0 t_latest_size p2_size p2_bytes_f t_latest_size t_latest_bytes_f).bind fun x169 =>
          some (t_connected, t_expected, t_next, t_association, t_blocksSent, t_meter_now, t_meter_registers_f, t_meter_profile_columnCount, t_meter_profile_capacity, t_meter_profile_period, t_meter_profile_first, t_meter_profile_size, t_meter_profile_columns_f, t_meter_profile_ring_f, t_request_size, t_request_bytes_f, t_latest_size, t_latest_bytes_f, t_value_size, t_value_bytes_f, x169.1, x169.2))))) := rfl
def mm_Fr_isChecked (F : Nat) (p0_bytes_N : Nat) (i1 : Int32) (p0_size : Int32) (p0_bytes_f : Nat → Int32) : Option (Int32) :=
  (mm_Fr_check F p0_bytes_N i1 p0_size p0_bytes_f).bind fun x2 =>
  (mm_Rw_at F p0_bytes_N i1 p0_size p0_bytes_f).bind fun x8 =>
  (if x8 = (x2 &&& 255) then
    (mm_Rw_at F p0_bytes_N (i1 + 1) p0_size p0_bytes_f).bind fun x23 =>
    (if x23 = (x2 >>> (8 &&& 31)) then
      some 1
    else
      some 0)
  else
    some 0)
theorem mq_Fr_isChecked (F : Nat) (p0_bytes_N : Nat) (i1 : Int32) (p0_size : Int32) (p0_bytes_f : Nat → Int32) : mm_Fr_isChecked F p0_bytes_N i1 p0_size p0_bytes_f =
  (mm_Fr_check F p0_bytes_N i1 p0_size p0_bytes_f).bind fun x2 =>
  (mm_Rw_at F p0_bytes_N i1 p0_size p0_bytes_f).bind fun x8 =>
  (if x8 = (x2 &&& 255) then
    (mm_Rw_at F p0_bytes_N (i1 + 1) p0_size p0_bytes_f).bind fun x23 =>
    (if x23 = (x2 >>> (8 &&& 31)) then
      some 1
    else
      some 0)
  else
    some 0) := rfl
def mm_Fr_isFrame_J29 (F : Nat) (p0_bytes_N : Nat) (v1 : Int32) (p0_size : Int32) (p0_bytes_f : Nat → Int32) : Option (Int32) :=
  (mm_Rw_at F p0_bytes_N 0 p0_size p0_bytes_f).bind fun x31 =>
  (if x31 = 126 then
    (mm_Rw_at F p0_bytes_N 1 p0_size p0_bytes_f).bind fun x41 =>
    (if x41 = (v1 - 2) then
      (mm_Rw_at F p0_bytes_N 2 p0_size p0_bytes_f).bind fun x52 =>
      (if x52 = 17 then
        (mm_Rw_at F p0_bytes_N (v1 - 1) p0_size p0_bytes_f).bind fun x64 =>
        (if x64 = 126 then
          (mm_Fr_isChecked F p0_bytes_N 4 p0_size p0_bytes_f).bind fun x74 =>
          (if x74 = 0 then
            some 0
          else
            (if v1 = 7 then
              some 1
            else
              (mm_Fr_isChecked F p0_bytes_N (v1 - 3) p0_size p0_bytes_f).bind fun x90 =>
              (if x90 = 0 then
                some 0
              else
                some 1)))
        else
          some 0)
      else
        some 0)
    else
      some 0)
  else
    some 0)
theorem mq_Fr_isFrame_J29 (F : Nat) (p0_bytes_N : Nat) (v1 : Int32) (p0_size : Int32) (p0_bytes_f : Nat → Int32) : mm_Fr_isFrame_J29 F p0_bytes_N v1 p0_size p0_bytes_f =
  (mm_Rw_at F p0_bytes_N 0 p0_size p0_bytes_f).bind fun x31 =>
  (if x31 = 126 then
    (mm_Rw_at F p0_bytes_N 1 p0_size p0_bytes_f).bind fun x41 =>
    (if x41 = (v1 - 2) then
      (mm_Rw_at F p0_bytes_N 2 p0_size p0_bytes_f).bind fun x52 =>
      (if x52 = 17 then
        (mm_Rw_at F p0_bytes_N (v1 - 1) p0_size p0_bytes_f).bind fun x64 =>
        (if x64 = 126 then
          (mm_Fr_isChecked F p0_bytes_N 4 p0_size p0_bytes_f).bind fun x74 =>
          (if x74 = 0 then
            some 0
          else
            (if v1 = 7 then
              some 1
            else
              (mm_Fr_isChecked F p0_bytes_N (v1 - 3) p0_size p0_bytes_f).bind fun x90 =>
              (if x90 = 0 then
                some 0
              else
                some 1)))
        else
          some 0)
      else
        some 0)
    else
      some 0)
  else
    some 0) := rfl
def mm_Fr_isFrame (F : Nat) (p0_bytes_N : Nat) (p0_size : Int32) (p0_bytes_f : Nat → Int32) : Option (Int32) :=
  (mm_Fr_payloadSize F p0_size).bind fun x6 =>
  (if p0_size = 7 then
    mm_Fr_isFrame_J29 F p0_bytes_N p0_size p0_size p0_bytes_f
  else
    (if x6 < 1 then
      some 0
    else
      (if x6 ≤ 60 then
        mm_Fr_isFrame_J29 F p0_bytes_N p0_size p0_size p0_bytes_f
      else
        some 0)))
theorem mq_Fr_isFrame (F : Nat) (p0_bytes_N : Nat) (p0_size : Int32) (p0_bytes_f : Nat → Int32) : mm_Fr_isFrame F p0_bytes_N p0_size p0_bytes_f =
  (mm_Fr_payloadSize F p0_size).bind fun x6 =>
  (if p0_size = 7 then
    mm_Fr_isFrame_J29 F p0_bytes_N p0_size p0_size p0_bytes_f
  else
    (if x6 < 1 then
      some 0
    else
      (if x6 ≤ 60 then
        mm_Fr_isFrame_J29 F p0_bytes_N p0_size p0_size p0_bytes_f
      else
        some 0))) := rfl
def mm_Mt_passSecond_J20 (F : Nat) (s0 : Int32) (t_now : Int32) (t_registers_f : Nat → Int32) (t_profile_columnCount : Int32) (t_profile_capacity : Int32) (t_profile_period : Int32) (t_profile_first : Int32) (t_profile_size : Int32) (t_profile_columns_f : Nat → Int32) (t_profile_ring_f : Nat → Int32) : Option (Int32 × Int32 × Int32 × (Nat → Int32)) :=
  (if t_profile_period = 0 then
    some (s0, t_profile_first, t_profile_size, t_profile_ring_f)
  else
    (if t_profile_period = 0 then none else
    (if (bs_rem s0 t_profile_period) = 0 then
      (mm_Pf_capture F 3 s0 t_profile_columnCount t_profile_capacity t_profile_first t_profile_size t_profile_columns_f t_profile_ring_f t_registers_f).bind fun x60 =>
      some (s0, x60.1, x60.2.1, x60.2.2)
    else
      some (s0, t_profile_first, t_profile_size, t_profile_ring_f))))
theorem mq_Mt_passSecond_J20 (F : Nat) (s0 : Int32) (t_now : Int32) (t_registers_f : Nat → Int32) (t_profile_columnCount : Int32) (t_profile_capacity : Int32) (t_profile_period : Int32) (t_profile_first : Int32) (t_profile_size : Int32) (t_profile_columns_f : Nat → Int32) (t_profile_ring_f : Nat → Int32) : mm_Mt_passSecond_J20 F s0 t_now t_registers_f t_profile_columnCount t_profile_capacity t_profile_period t_profile_first t_profile_size t_profile_columns_f t_profile_ring_f =
  (if t_profile_period = 0 then
    some (s0, t_profile_first, t_profile_size, t_profile_ring_f)
  else
    (if t_profile_period = 0 then none else
    (if (bs_rem s0 t_profile_period) = 0 then
      (mm_Pf_capture F 3 s0 t_profile_columnCount t_profile_capacity t_profile_first t_profile_size t_profile_columns_f t_profile_ring_f t_registers_f).bind fun x60 =>
      some (s0, x60.1, x60.2.1, x60.2.2)
    else
      some (s0, t_profile_first, t_profile_size, t_profile_ring_f)))) := rfl
def mm_Mt_passSecond (F : Nat) (t_now : Int32) (t_registers_f : Nat → Int32) (t_profile_columnCount : Int32) (t_profile_capacity : Int32) (t_profile_period : Int32) (t_profile_first : Int32) (t_profile_size : Int32) (t_profile_columns_f : Nat → Int32) (t_profile_ring_f : Nat → Int32) : Option (Int32 × Int32 × Int32 × (Nat → Int32)) :=
  (if t_now = 2147483647 then
    mm_Mt_passSecond_J20 F 0 t_now t_registers_f t_profile_columnCount t_profile_capacity t_profile_period t_profile_first t_profile_size t_profile_columns_f t_profile_ring_f
  else
    mm_Mt_passSecond_J20 F (t_now + 1) t_now t_registers_f t_profile_columnCount t_profile_capacity t_profile_period t_profile_first t_profile_size t_profile_columns_f t_profile_ring_f)
theorem mq_Mt_passSecond (F : Nat) (t_now : Int32) (t_registers_f : Nat → Int32) (t_profile_columnCount : Int32) (t_profile_capacity : Int32) (t_profile_period : Int32) (t_profile_first : Int32) (t_profile_size : Int32) (t_profile_columns_f : Nat → Int32) (t_profile_ring_f : Nat → Int32) : mm_Mt_passSecond F t_now t_registers_f t_profile_columnCount t_profile_capacity t_profile_period t_profile_first t_profile_size t_profile_columns_f t_profile_ring_f =
  (if t_now = 2147483647 then
    mm_Mt_passSecond_J20 F 0 t_now t_registers_f t_profile_columnCount t_profile_capacity t_profile_period t_profile_first t_profile_size t_profile_columns_f t_profile_ring_f
  else
    mm_Mt_passSecond_J20 F (t_now + 1) t_now t_registers_f t_profile_columnCount t_profile_capacity t_profile_period t_profile_first t_profile_size t_profile_columns_f t_profile_ring_f) := rfl
def mm_Pf_at (F : Nat) (i1 : Int32) (i2 : Int32) (t_first : Int32) (t_ring_f : Nat → Int32) : Option (Int32) :=
  (mm_Pf_start F i1 t_first).bind fun x6 =>
  (if (x6 + i2) < 0 ∨ 48 ≤ (x6 + i2).toNatClampNeg then none else
  some (t_ring_f ((x6 + i2).toNatClampNeg)))
theorem mq_Pf_at (F : Nat) (i1 : Int32) (i2 : Int32) (t_first : Int32) (t_ring_f : Nat → Int32) : mm_Pf_at F i1 i2 t_first t_ring_f =
  (mm_Pf_start F i1 t_first).bind fun x6 =>
  (if (x6 + i2) < 0 ∨ 48 ≤ (x6 + i2).toNatClampNeg then none else
  some (t_ring_f ((x6 + i2).toNatClampNeg))) := rfl
def mm_Rw_isByte (F : Nat) (i0 : Int32) : Option (Int32) :=
  (if i0 < 0 then
    some 0
  else
    (if 255 < i0 then
      some 0
    else
      some 1))
theorem mq_Rw_isByte (F : Nat) (i0 : Int32) : mm_Rw_isByte F i0 =
  (if i0 < 0 then
    some 0
  else
    (if 255 < i0 then
      some 0
    else
      some 1)) := rfl
def mm_Lp_run_L21 (F : Nat) : Nat → (Int32) → (Int32) → (Int32) → (Nat → Int32) → (Int32) → (Int32) → (Int32) → (Int32) → (Int32) → (Nat → Int32) → (Nat → Int32) → Option (Nat × Int32 × Int32 × Int32 × (Nat → Int32))
  | 0, _, _, _, _, _, _, _, _, _, _, _ => none
  | k + 1, v1, v2, t_connection_meter_now, t_connection_meter_registers_f, t_connection_meter_profile_columnCount, t_connection_meter_profile_capacity, t_connection_meter_profile_period, t_connection_meter_profile_first, t_connection_meter_profile_size, t_connection_meter_profile_columns_f, t_connection_meter_profile_ring_f =>
    (if v1 ≤ v2 then
      some (0, t_connection_meter_now, t_connection_meter_profile_first, t_connection_meter_profile_size, t_connection_meter_profile_ring_f)
    else
      (mm_Mt_passSecond F t_connection_meter_now t_connection_meter_registers_f t_connection_meter_profile_columnCount t_connection_meter_profile_capacity t_connection_meter_profile_period t_connection_meter_profile_first t_connection_meter_profile_size t_connection_meter_profile_columns_f t_connection_meter_profile_ring_f).bind fun x30 =>
      mm_Lp_run_L21 F k v1 (v2 + 1) x30.1 t_connection_meter_registers_f t_connection_meter_profile_columnCount t_connection_meter_profile_capacity t_connection_meter_profile_period x30.2.1 x30.2.2.1 t_connection_meter_profile_columns_f x30.2.2.2)
theorem mq_Lp_run_L21 (F : Nat) (k : Nat) (v1 : Int32) (v2 : Int32) (t_connection_meter_now : Int32) (t_connection_meter_registers_f : Nat → Int32) (t_connection_meter_profile_columnCount : Int32) (t_connection_meter_profile_capacity : Int32) (t_connection_meter_profile_period : Int32) (t_connection_meter_profile_first : Int32) (t_connection_meter_profile_size : Int32) (t_connection_meter_profile_columns_f : Nat → Int32) (t_connection_meter_profile_ring_f : Nat → Int32) : mm_Lp_run_L21 F (k + 1) v1 v2 t_connection_meter_now t_connection_meter_registers_f t_connection_meter_profile_columnCount t_connection_meter_profile_capacity t_connection_meter_profile_period t_connection_meter_profile_first t_connection_meter_profile_size t_connection_meter_profile_columns_f t_connection_meter_profile_ring_f =
    (if v1 ≤ v2 then
      some (0, t_connection_meter_now, t_connection_meter_profile_first, t_connection_meter_profile_size, t_connection_meter_profile_ring_f)
    else
      (mm_Mt_passSecond F t_connection_meter_now t_connection_meter_registers_f t_connection_meter_profile_columnCount t_connection_meter_profile_capacity t_connection_meter_profile_period t_connection_meter_profile_first t_connection_meter_profile_size t_connection_meter_profile_columns_f t_connection_meter_profile_ring_f).bind fun x30 =>
      mm_Lp_run_L21 F k v1 (v2 + 1) x30.1 t_connection_meter_registers_f t_connection_meter_profile_columnCount t_connection_meter_profile_capacity t_connection_meter_profile_period x30.2.1 x30.2.2.1 t_connection_meter_profile_columns_f x30.2.2.2) := rfl
def mm_Lp_run (F : Nat) (i1 : Int32) (t_connection_meter_now : Int32) (t_connection_meter_registers_f : Nat → Int32) (t_connection_meter_profile_columnCount : Int32) (t_connection_meter_profile_capacity : Int32) (t_connection_meter_profile_period : Int32) (t_connection_meter_profile_first : Int32) (t_connection_meter_profile_size : Int32) (t_connection_meter_profile_columns_f : Nat → Int32) (t_connection_meter_profile_ring_f : Nat → Int32) : Option (Nat × Int32 × Int32 × Int32 × (Nat → Int32)) :=
  (if i1 < 0 then
    some (1, t_connection_meter_now, t_connection_meter_profile_first, t_connection_meter_profile_size, t_connection_meter_profile_ring_f)
  else
    (if i1 ≤ 1000 then
      mm_Lp_run_L21 F F i1 0 t_connection_meter_now t_connection_meter_registers_f t_connection_meter_profile_columnCount t_connection_meter_profile_capacity t_connection_meter_profile_period t_connection_meter_profile_first t_connection_meter_profile_size t_connection_meter_profile_columns_f t_connection_meter_profile_ring_f
    else
      some (1, t_connection_meter_now, t_connection_meter_profile_first, t_connection_meter_profile_size, t_connection_meter_profile_ring_f)))
theorem mq_Lp_run (F : Nat) (i1 : Int32) (t_connection_meter_now : Int32) (t_connection_meter_registers_f : Nat → Int32) (t_connection_meter_profile_columnCount : Int32) (t_connection_meter_profile_capacity : Int32) (t_connection_meter_profile_period : Int32) (t_connection_meter_profile_first : Int32) (t_connection_meter_profile_size : Int32) (t_connection_meter_profile_columns_f : Nat → Int32) (t_connection_meter_profile_ring_f : Nat → Int32) : mm_Lp_run F i1 t_connection_meter_now t_connection_meter_registers_f t_connection_meter_profile_columnCount t_connection_meter_profile_capacity t_connection_meter_profile_period t_connection_meter_profile_first t_connection_meter_profile_size t_connection_meter_profile_columns_f t_connection_meter_profile_ring_f =
  (if i1 < 0 then
    some (1, t_connection_meter_now, t_connection_meter_profile_first, t_connection_meter_profile_size, t_connection_meter_profile_ring_f)
  else
    (if i1 ≤ 1000 then
      mm_Lp_run_L21 F F i1 0 t_connection_meter_now t_connection_meter_registers_f t_connection_meter_profile_columnCount t_connection_meter_profile_capacity t_connection_meter_profile_period t_connection_meter_profile_first t_connection_meter_profile_size t_connection_meter_profile_columns_f t_connection_meter_profile_ring_f
    else
      some (1, t_connection_meter_now, t_connection_meter_profile_first, t_connection_meter_profile_size, t_connection_meter_profile_ring_f))) := rfl
def mm_Lp_count (F : Nat) (i1 : Int32) (i2 : Int32) (t_connection_meter_registers_f : Nat → Int32) : Option (Nat × Int32 × (Nat → Int32)) :=
  (mm_Mt_isRegister F i1).bind fun x1 =>
  (if x1 = 0 then
    some (3, 0, t_connection_meter_registers_f)
  else
    (if (i1 - 1) < 0 ∨ 3 ≤ (i1 - 1).toNatClampNeg then none else
    (if (i1 - 1) < 0 ∨ 3 ≤ (i1 - 1).toNatClampNeg then none else
    (if (i1 - 1) < 0 ∨ 3 ≤ (i1 - 1).toNatClampNeg then none else
    some (0, (upd t_connection_meter_registers_f ((i1 - 1).toNatClampNeg) ((t_connection_meter_registers_f ((i1 - 1).toNatClampNeg)) + i2)) ((i1 - 1).toNatClampNeg), upd t_connection_meter_registers_f ((i1 - 1).toNatClampNeg) ((t_connection_meter_registers_f ((i1 - 1).toNatClampNeg)) + i2))))))
theorem mq_Lp_count (F : Nat) (i1 : Int32) (i2 : Int32) (t_connection_meter_registers_f : Nat → Int32) : mm_Lp_count F i1 i2 t_connection_meter_registers_f =
  (mm_Mt_isRegister F i1).bind fun x1 =>
  (if x1 = 0 then
    some (3, 0, t_connection_meter_registers_f)
  else
    (if (i1 - 1) < 0 ∨ 3 ≤ (i1 - 1).toNatClampNeg then none else
    (if (i1 - 1) < 0 ∨ 3 ≤ (i1 - 1).toNatClampNeg then none else
    (if (i1 - 1) < 0 ∨ 3 ≤ (i1 - 1).toNatClampNeg then none else
    some (0, (upd t_connection_meter_registers_f ((i1 - 1).toNatClampNeg) ((t_connection_meter_registers_f ((i1 - 1).toNatClampNeg)) + i2)) ((i1 - 1).toNatClampNeg), upd t_connection_meter_registers_f ((i1 - 1).toNatClampNeg) ((t_connection_meter_registers_f ((i1 - 1).toNatClampNeg)) + i2)))))) := rfl
def mm_Lp_time (F : Nat) (t_connection_meter_now : Int32) : Option (Int32) :=
  some t_connection_meter_now
theorem mq_Lp_time (F : Nat) (t_connection_meter_now : Int32) : mm_Lp_time F t_connection_meter_now =
  some t_connection_meter_now := rfl
def mm_Lp_register (F : Nat) (i1 : Int32) (t_connection_meter_registers_f : Nat → Int32) : Option (Nat × Int32) :=
  (mm_Mt_isRegister F i1).bind fun x1 =>
  (if x1 = 0 then
    some (3, 0)
  else
    (if (i1 - 1) < 0 ∨ 3 ≤ (i1 - 1).toNatClampNeg then none else
    some (0, t_connection_meter_registers_f ((i1 - 1).toNatClampNeg))))
theorem mq_Lp_register (F : Nat) (i1 : Int32) (t_connection_meter_registers_f : Nat → Int32) : mm_Lp_register F i1 t_connection_meter_registers_f =
  (mm_Mt_isRegister F i1).bind fun x1 =>
  (if x1 = 0 then
    some (3, 0)
  else
    (if (i1 - 1) < 0 ∨ 3 ≤ (i1 - 1).toNatClampNeg then none else
    some (0, t_connection_meter_registers_f ((i1 - 1).toNatClampNeg)))) := rfl
def mm_Lp_entries (F : Nat) (t_connection_meter_profile_size : Int32) : Option (Int32) :=
  some t_connection_meter_profile_size
theorem mq_Lp_entries (F : Nat) (t_connection_meter_profile_size : Int32) : mm_Lp_entries F t_connection_meter_profile_size =
  some t_connection_meter_profile_size := rfl
def mm_Lp_entry (F : Nat) (i1 : Int32) (i2 : Int32) (t_connection_meter_profile_columnCount : Int32) (t_connection_meter_profile_first : Int32) (t_connection_meter_profile_size : Int32) (t_connection_meter_profile_ring_f : Nat → Int32) : Option (Nat × Int32) :=
  (if i1 < 0 then
    some (3, 0)
  else
    (if i1 < t_connection_meter_profile_size then
      (if i2 < 0 then
        some (4, 0)
      else
        (if i2 ≤ t_connection_meter_profile_columnCount then
          (mm_Pf_at F i1 i2 t_connection_meter_profile_first t_connection_meter_profile_ring_f).bind fun x61 =>
          some (0, x61)
        else
          some (4, 0)))
    else
      some (3, 0)))
theorem mq_Lp_entry (F : Nat) (i1 : Int32) (i2 : Int32) (t_connection_meter_profile_columnCount : Int32) (t_connection_meter_profile_first : Int32) (t_connection_meter_profile_size : Int32) (t_connection_meter_profile_ring_f : Nat → Int32) : mm_Lp_entry F i1 i2 t_connection_meter_profile_columnCount t_connection_meter_profile_first t_connection_meter_profile_size t_connection_meter_profile_ring_f =
  (if i1 < 0 then
    some (3, 0)
  else
    (if i1 < t_connection_meter_profile_size then
      (if i2 < 0 then
        some (4, 0)
      else
        (if i2 ≤ t_connection_meter_profile_columnCount then
          (mm_Pf_at F i1 i2 t_connection_meter_profile_first t_connection_meter_profile_ring_f).bind fun x61 =>
          some (0, x61)
        else
          some (4, 0)))
    else
      some (3, 0))) := rfl
def mm_Lp_link (F : Nat) (t_connection_connected : Int32) (t_connection_expected : Int32) (t_connection_next : Int32) (t_connection_association : Int32) : Option (Int32) :=
  (mm_Cn_state F t_connection_connected t_connection_expected t_connection_next t_connection_association).bind fun x4 =>
  some x4
theorem mq_Lp_link (F : Nat) (t_connection_connected : Int32) (t_connection_expected : Int32) (t_connection_next : Int32) (t_connection_association : Int32) : mm_Lp_link F t_connection_connected t_connection_expected t_connection_next t_connection_association =
  (mm_Cn_state F t_connection_connected t_connection_expected t_connection_next t_connection_association).bind fun x4 =>
  some x4 := rfl
def mm_Lp_put (F : Nat) (i1 : Int32) (t_line_size : Int32) (t_line_bytes_f : Nat → Int32) : Option (Nat × Int32 × Int32 × (Nat → Int32)) :=
  (mm_Rw_isByte F i1).bind fun x1 =>
  (if x1 = 0 then
    some (1, 0, t_line_size, t_line_bytes_f)
  else
    (if t_line_size < 80 then
      (mm_Rw_add F 80 i1 t_line_size t_line_bytes_f).bind fun x40 =>
      some (0, x40.1, x40.1, x40.2)
    else
      some (2, 0, t_line_size, t_line_bytes_f)))
theorem mq_Lp_put (F : Nat) (i1 : Int32) (t_line_size : Int32) (t_line_bytes_f : Nat → Int32) : mm_Lp_put F i1 t_line_size t_line_bytes_f =
  (mm_Rw_isByte F i1).bind fun x1 =>
  (if x1 = 0 then
    some (1, 0, t_line_size, t_line_bytes_f)
  else
    (if t_line_size < 80 then
      (mm_Rw_add F 80 i1 t_line_size t_line_bytes_f).bind fun x40 =>
      some (0, x40.1, x40.1, x40.2)
    else
      some (2, 0, t_line_size, t_line_bytes_f))) := rfl
def mm_Lp_putInt (F : Nat) (i1 : Int32) (t_line_size : Int32) (t_line_bytes_f : Nat → Int32) : Option (Nat × Int32 × Int32 × (Nat → Int32)) :=
  (if (t_line_size + 4) ≤ 80 then
    (mm_Rw_addInt F 80 i1 t_line_size t_line_bytes_f).bind fun x27 =>
    some (0, x27.1, x27.1, x27.2)
  else
    some (2, 0, t_line_size, t_line_bytes_f))
theorem mq_Lp_putInt (F : Nat) (i1 : Int32) (t_line_size : Int32) (t_line_bytes_f : Nat → Int32) : mm_Lp_putInt F i1 t_line_size t_line_bytes_f =
  (if (t_line_size + 4) ≤ 80 then
    (mm_Rw_addInt F 80 i1 t_line_size t_line_bytes_f).bind fun x27 =>
    some (0, x27.1, x27.1, x27.2)
  else
    some (2, 0, t_line_size, t_line_bytes_f)) := rfl
def mm_Lp_poke (F : Nat) (i1 : Int32) (i2 : Int32) (t_line_size : Int32) (t_line_bytes_f : Nat → Int32) : Option (Nat × (Nat → Int32)) :=
  (if i1 < 0 then
    some (3, t_line_bytes_f)
  else
    (if i1 < t_line_size then
      (mm_Rw_isByte F i2).bind fun x24 =>
      (if x24 = 0 then
        some (1, t_line_bytes_f)
      else
        (mm_Rw_change F 80 i1 i2 t_line_size t_line_bytes_f).bind fun x44 =>
        some (0, x44))
    else
      some (3, t_line_bytes_f)))
theorem mq_Lp_poke (F : Nat) (i1 : Int32) (i2 : Int32) (t_line_size : Int32) (t_line_bytes_f : Nat → Int32) : mm_Lp_poke F i1 i2 t_line_size t_line_bytes_f =
  (if i1 < 0 then
    some (3, t_line_bytes_f)
  else
    (if i1 < t_line_size then
      (mm_Rw_isByte F i2).bind fun x24 =>
      (if x24 = 0 then
        some (1, t_line_bytes_f)
      else
        (mm_Rw_change F 80 i1 i2 t_line_size t_line_bytes_f).bind fun x44 =>
        some (0, x44))
    else
      some (3, t_line_bytes_f))) := rfl
def mm_Lp_frame (F : Nat) (i1 : Int32) (t_line_size : Int32) (t_line_bytes_f : Nat → Int32) : Option (Nat × Int32 × Int32 × (Nat → Int32)) :=
  (mm_Rw_isByte F i1).bind fun x1 =>
  (if x1 = 0 then
    some (1, 0, t_line_size, t_line_bytes_f)
  else
    (if t_line_size ≤ 60 then
      (mm_Fr_wrap F 80 i1 t_line_size t_line_bytes_f).bind fun x40 =>
      some (0, x40.1, x40.1, x40.2)
    else
      some (2, 0, t_line_size, t_line_bytes_f)))
theorem mq_Lp_frame (F : Nat) (i1 : Int32) (t_line_size : Int32) (t_line_bytes_f : Nat → Int32) : mm_Lp_frame F i1 t_line_size t_line_bytes_f =
  (mm_Rw_isByte F i1).bind fun x1 =>
  (if x1 = 0 then
    some (1, 0, t_line_size, t_line_bytes_f)
  else
    (if t_line_size ≤ 60 then
      (mm_Fr_wrap F 80 i1 t_line_size t_line_bytes_f).bind fun x40 =>
      some (0, x40.1, x40.1, x40.2)
    else
      some (2, 0, t_line_size, t_line_bytes_f))) := rfl
def mm_Lp_ask (F : Nat) (t_line_size : Int32) (t_line_bytes_f : Nat → Int32) (t_asker_s : Int32) (t_asker_r : Int32) : Option (Nat × Int32 × Int32 × (Nat → Int32)) :=
  (if t_line_size = 0 then
    some (2, 0, t_line_size, t_line_bytes_f)
  else
    (if t_line_size ≤ 60 then
      (mm_Fr_information F t_asker_s t_asker_r).bind fun x48 =>
      (mm_Fr_wrap F 80 x48 t_line_size t_line_bytes_f).bind fun x51 =>
      some (0, x51.1, x51.1, x51.2)
    else
      some (2, 0, t_line_size, t_line_bytes_f)))
theorem mq_Lp_ask (F : Nat) (t_line_size : Int32) (t_line_bytes_f : Nat → Int32) (t_asker_s : Int32) (t_asker_r : Int32) : mm_Lp_ask F t_line_size t_line_bytes_f t_asker_s t_asker_r =
  (if t_line_size = 0 then
    some (2, 0, t_line_size, t_line_bytes_f)
  else
    (if t_line_size ≤ 60 then
      (mm_Fr_information F t_asker_s t_asker_r).bind fun x48 =>
      (mm_Fr_wrap F 80 x48 t_line_size t_line_bytes_f).bind fun x51 =>
      some (0, x51.1, x51.1, x51.2)
    else
      some (2, 0, t_line_size, t_line_bytes_f))) := rfl
def mm_Lp_clear (F : Nat) (t_line_size : Int32) : Option (Int32) :=
  (mm_Rw_drop F t_line_size).bind fun x4 =>
  some x4
theorem mq_Lp_clear (F : Nat) (t_line_size : Int32) : mm_Lp_clear F t_line_size =
  (mm_Rw_drop F t_line_size).bind fun x4 =>
  some x4 := rfl
def mm_Lp_deliver_J32 (F : Nat) (v1 : Int32) (t_line_size : Int32) (t_answered_size : Int32) (t_answered_bytes_f : Nat → Int32) (t_asker_s : Int32) (t_asker_r : Int32) (t_connection_connected : Int32) (t_connection_expected : Int32) (t_connection_next : Int32) (t_connection_association : Int32) (t_connection_blocksSent : Int32) (t_connection_meter_now : Int32) (t_connection_meter_registers_f : Nat → Int32) (t_connection_meter_profile_columnCount : Int32) (t_connection_meter_profile_capacity : Int32) (t_connection_meter_profile_period : Int32) (t_connection_meter_profile_first : Int32) (t_connection_meter_profile_size : Int32) (t_connection_meter_profile_columns_f : Nat → Int32) (t_connection_meter_profile_ring_f : Nat → Int32) (t_connection_request_size : Int32) (t_connection_request_bytes_f : Nat → Int32) (t_connection_latest_size : Int32) (t_connection_latest_bytes_f : Nat → Int32) (t_connection_value_size : Int32) (t_connection_value_bytes_f : Nat → Int32) : Option (Int32 × Int32 × Int32 × (Nat → Int32) × Int32 × Int32 × Int32 × Int32 × Int32 × Int32 × Int32 × Int32 × (Nat → Int32) × Int32 × Int32 × Int32 × Int32 × Int32 × (Nat → Int32) × (Nat → Int32) × Int32 × (Nat → Int32) × Int32 × (Nat → Int32) × Int32 × (Nat → Int32)) :=
  (mm_Rw_drop F t_line_size).bind fun x36 =>
  (if v1 = 0 then
    (mm_As_hear F 80 t_asker_s t_asker_r t_answered_size t_answered_bytes_f).bind fun x61 =>
    some (t_answered_size, x36, t_answered_size, t_answered_bytes_f, x61.1, x61.2, t_connection_connected, t_connection_expected, t_connection_next, t_connection_association, t_connection_blocksSent, t_connection_meter_now, t_connection_meter_registers_f, t_connection_meter_profile_columnCount, t_connection_meter_profile_capacity, t_connection_meter_profile_period, t_connection_meter_profile_first, t_connection_meter_profile_size, t_connection_meter_profile_columns_f, t_connection_meter_profile_ring_f, t_connection_request_size, t_connection_request_bytes_f, t_connection_latest_size, t_connection_latest_bytes_f, t_connection_value_size, t_connection_value_bytes_f)
  else
    (mm_Rw_drop F t_answered_size).bind fun x47 =>
    some (x47, x36, x47, t_answered_bytes_f, t_asker_s, t_asker_r, t_connection_connected, t_connection_expected, t_connection_next, t_connection_association, t_connection_blocksSent, t_connection_meter_now, t_connection_meter_registers_f, t_connection_meter_profile_columnCount, t_connection_meter_profile_capacity, t_connection_meter_profile_period, t_connection_meter_profile_first, t_connection_meter_profile_size, t_connection_meter_profile_columns_f, t_connection_meter_profile_ring_f, t_connection_request_size, t_connection_request_bytes_f, t_connection_latest_size, t_connection_latest_bytes_f, t_connection_value_size, t_connection_value_bytes_f))
theorem mq_Lp_deliver_J32 (F : Nat) (v1 : Int32) (t_line_size : Int32) (t_answered_size : Int32) (t_answered_bytes_f : Nat → Int32) (t_asker_s : Int32) (t_asker_r : Int32) (t_connection_connected : Int32) (t_connection_expected : Int32) (t_connection_next : Int32) (t_connection_association : Int32) (t_connection_blocksSent : Int32) (t_connection_meter_now : Int32) (t_connection_meter_registers_f : Nat → Int32) (t_connection_meter_profile_columnCount : Int32) (t_connection_meter_profile_capacity : Int32) (t_connection_meter_profile_period : Int32) (t_connection_meter_profile_first : Int32) (t_connection_meter_profile_size : Int32) (t_connection_meter_profile_columns_f : Nat → Int32) (t_connection_meter_profile_ring_f : Nat → Int32) (t_connection_request_size : Int32) (t_connection_request_bytes_f : Nat → Int32) (t_connection_latest_size : Int32) (t_connection_latest_bytes_f : Nat → Int32) (t_connection_value_size : Int32) (t_connection_value_bytes_f : Nat → Int32) : mm_Lp_deliver_J32 F v1 t_line_size t_answered_size t_answered_bytes_f t_asker_s t_asker_r t_connection_connected t_connection_expected t_connection_next t_connection_association t_connection_blocksSent t_connection_meter_now t_connection_meter_registers_f t_connection_meter_profile_columnCount t_connection_meter_profile_capacity t_connection_meter_profile_period t_connection_meter_profile_first t_connection_meter_profile_size t_connection_meter_profile_columns_f t_connection_meter_profile_ring_f t_connection_request_size t_connection_request_bytes_f t_connection_latest_size t_connection_latest_bytes_f t_connection_value_size t_connection_value_bytes_f =
  (mm_Rw_drop F t_line_size).bind fun x36 =>
  (if v1 = 0 then
    (mm_As_hear F 80 t_asker_s t_asker_r t_answered_size t_answered_bytes_f).bind fun x61 =>
    some (t_answered_size, x36, t_answered_size, t_answered_bytes_f, x61.1, x61.2, t_connection_connected, t_connection_expected, t_connection_next, t_connection_association, t_connection_blocksSent, t_connection_meter_now, t_connection_meter_registers_f, t_connection_meter_profile_columnCount, t_connection_meter_profile_capacity, t_connection_meter_profile_period, t_connection_meter_profile_first, t_connection_meter_profile_size, t_connection_meter_profile_columns_f, t_connection_meter_profile_ring_f, t_connection_request_size, t_connection_request_bytes_f, t_connection_latest_size, t_connection_latest_bytes_f, t_connection_value_size, t_connection_value_bytes_f)
  else
    (mm_Rw_drop F t_answered_size).bind fun x47 =>
    some (x47, x36, x47, t_answered_bytes_f, t_asker_s, t_asker_r, t_connection_connected, t_connection_expected, t_connection_next, t_connection_association, t_connection_blocksSent, t_connection_meter_now, t_connection_meter_registers_f, t_connection_meter_profile_columnCount, t_connection_meter_profile_capacity, t_connection_meter_profile_period, t_connection_meter_profile_first, t_connection_meter_profile_size, t_connection_meter_profile_columns_f, t_connection_meter_profile_ring_f, t_connection_request_size, t_connection_request_bytes_f, t_connection_latest_size, t_connection_latest_bytes_f, t_connection_value_size, t_connection_value_bytes_f)) := rfl
def mm_Lp_deliver (F : Nat) (i1 : Int32) (t_line_size : Int32) (t_line_bytes_f : Nat → Int32) (t_answered_size : Int32) (t_answered_bytes_f : Nat → Int32) (t_asker_s : Int32) (t_asker_r : Int32) (t_connection_secret : Int32) (t_connection_connected : Int32) (t_connection_expected : Int32) (t_connection_next : Int32) (t_connection_association : Int32) (t_connection_blocksSent : Int32) (t_connection_meter_now : Int32) (t_connection_meter_registers_f : Nat → Int32) (t_connection_meter_profile_columnCount : Int32) (t_connection_meter_profile_capacity : Int32) (t_connection_meter_profile_period : Int32) (t_connection_meter_profile_first : Int32) (t_connection_meter_profile_size : Int32) (t_connection_meter_profile_columns_f : Nat → Int32) (t_connection_meter_profile_ring_f : Nat → Int32) (t_connection_request_size : Int32) (t_connection_request_bytes_f : Nat → Int32) (t_connection_latest_size : Int32) (t_connection_latest_bytes_f : Nat → Int32) (t_connection_value_size : Int32) (t_connection_value_bytes_f : Nat → Int32) : Option (Int32 × Int32 × Int32 × (Nat → Int32) × Int32 × Int32 × Int32 × Int32 × Int32 × Int32 × Int32 × Int32 × (Nat → Int32) × Int32 × Int32 × Int32 × Int32 × Int32 × (Nat → Int32) × (Nat → Int32) × Int32 × (Nat → Int32) × Int32 × (Nat → Int32) × Int32 × (Nat → Int32)) :=
  (mm_Rw_drop F t_answered_size).bind fun x4 =>
  (mm_Fr_isFrame F 80 t_line_size t_line_bytes_f).bind fun x11 =>
  (if x11 = 0 then
    mm_Lp_deliver_J32 F i1 t_line_size x4 t_answered_bytes_f t_asker_s t_asker_r t_connection_connected t_connection_expected t_connection_next t_connection_association t_connection_blocksSent t_connection_meter_now t_connection_meter_registers_f t_connection_meter_profile_columnCount t_connection_meter_profile_capacity t_connection_meter_profile_period t_connection_meter_profile_first t_connection_meter_profile_size t_connection_meter_profile_columns_f t_connection_meter_profile_ring_f t_connection_request_size t_connection_request_bytes_f t_connection_latest_size t_connection_latest_bytes_f t_connection_value_size t_connection_value_bytes_f
  else
    (mm_Cn_receive F 80 80 t_connection_secret t_connection_connected t_connection_expected t_connection_next t_connection_association t_connection_blocksSent t_connection_meter_now t_connection_meter_registers_f t_connection_meter_profile_columnCount t_connection_meter_profile_capacity t_connection_meter_profile_period t_connection_meter_profile_first t_connection_meter_profile_size t_connection_meter_profile_columns_f t_connection_meter_profile_ring_f t_connection_request_size t_connection_request_bytes_f t_connection_latest_size t_connection_latest_bytes_f t_connection_value_size t_connection_value_bytes_f t_line_size t_line_bytes_f x4 t_answered_bytes_f).bind fun x29 =>
    mm_Lp_deliver_J32 F i1 t_line_size x29.2.2.2.2.2.2.2.2.2.2.2.2.2.2.2.2.2.2.2.2.1 x29.2.2.2.2.2.2.2.2.2.2.2.2.2.2.2.2.2.2.2.2.2 t_asker_s t_asker_r x29.1 x29.2.1 x29.2.2.1 x29.2.2.2.1 x29.2.2.2.2.1 x29.2.2.2.2.2.1 x29.2.2.2.2.2.2.1 x29.2.2.2.2.2.2.2.1 x29.2.2.2.2.2.2.2.2.1 x29.2.2.2.2.2.2.2.2.2.1 x29.2.2.2.2.2.2.2.2.2.2.1 x29.2.2.2.2.2.2.2.2.2.2.2.1 x29.2.2.2.2.2.2.2.2.2.2.2.2.1 x29.2.2.2.2.2.2.2.2.2.2.2.2.2.1 x29.2.2.2.2.2.2.2.2.2.2.2.2.2.2.1 x29.2.2.2.2.2.2.2.2.2.2.2.2.2.2.2.1 x29.2.2.2.2.2.2.2.2.2.2.2.2.2.2.2.2.1 x29.2.2.2.2.2.2.2.2.2.2.2.2.2.2.2.2.2.1 x29.2.2.2.2.2.2.2.2.2.2.2.2.2.2.2.2.2.2.1 x29.2.2.2.2.2.2.2.2.2.2.2.2.2.2.2.2.2.2.2.1)
theorem mq_Lp_deliver (F : Nat) (i1 : Int32) (t_line_size : Int32) (t_line_bytes_f : Nat → Int32) (t_answered_size : Int32) (t_answered_bytes_f : Nat → Int32) (t_asker_s : Int32) (t_asker_r : Int32) (t_connection_secret : Int32) (t_connection_connected : Int32) (t_connection_expected : Int32) (t_connection_next : Int32) (t_connection_association : Int32) (t_connection_blocksSent : Int32) (t_connection_meter_now : Int32) (t_connection_meter_registers_f : Nat → Int32) (t_connection_meter_profile_columnCount : Int32) (t_connection_meter_profile_capacity : Int32) (t_connection_meter_profile_period : Int32) (t_connection_meter_profile_first : Int32) (t_connection_meter_profile_size : Int32) (t_connection_meter_profile_columns_f : Nat → Int32) (t_connection_meter_profile_ring_f : Nat → Int32) (t_connection_request_size : Int32) (t_connection_request_bytes_f : Nat → Int32) (t_connection_latest_size : Int32) (t_connection_latest_bytes_f : Nat → Int32) (t_connection_value_size : Int32) (t_connection_value_bytes_f : Nat → Int32) : mm_Lp_deliver F i1 t_line_size t_line_bytes_f t_answered_size t_answered_bytes_f t_asker_s t_asker_r t_connection_secret t_connection_connected t_connection_expected t_connection_next t_connection_association t_connection_blocksSent t_connection_meter_now t_connection_meter_registers_f t_connection_meter_profile_columnCount t_connection_meter_profile_capacity t_connection_meter_profile_period t_connection_meter_profile_first t_connection_meter_profile_size t_connection_meter_profile_columns_f t_connection_meter_profile_ring_f t_connection_request_size t_connection_request_bytes_f t_connection_latest_size t_connection_latest_bytes_f t_connection_value_size t_connection_value_bytes_f =
  (mm_Rw_drop F t_answered_size).bind fun x4 =>
  (mm_Fr_isFrame F 80 t_line_size t_line_bytes_f).bind fun x11 =>
  (if x11 = 0 then
    mm_Lp_deliver_J32 F i1 t_line_size x4 t_answered_bytes_f t_asker_s t_asker_r t_connection_connected t_connection_expected t_connection_next t_connection_association t_connection_blocksSent t_connection_meter_now t_connection_meter_registers_f t_connection_meter_profile_columnCount t_connection_meter_profile_capacity t_connection_meter_profile_period t_connection_meter_profile_first t_connection_meter_profile_size t_connection_meter_profile_columns_f t_connection_meter_profile_ring_f t_connection_request_size t_connection_request_bytes_f t_connection_latest_size t_connection_latest_bytes_f t_connection_value_size t_connection_value_bytes_f
  else
    (mm_Cn_receive F 80 80 t_connection_secret t_connection_connected t_connection_expected t_connection_next t_connection_association t_connection_blocksSent t_connection_meter_now t_connection_meter_registers_f t_connection_meter_profile_columnCount t_connection_meter_profile_capacity t_connection_meter_profile_period t_connection_meter_profile_first t_connection_meter_profile_size t_connection_meter_profile_columns_f t_connection_meter_profile_ring_f t_connection_request_size t_connection_request_bytes_f t_connection_latest_size t_connection_latest_bytes_f t_connection_value_size t_connection_value_bytes_f t_line_size t_line_bytes_f x4 t_answered_bytes_f).bind fun x29 =>
    mm_Lp_deliver_J32 F i1 t_line_size x29.2.2.2.2.2.2.2.2.2.2.2.2.2.2.2.2.2.2.2.2.1 x29.2.2.2.2.2.2.2.2.2.2.2.2.2.2.2.2.2.2.2.2.2 t_asker_s t_asker_r x29.1 x29.2.1 x29.2.2.1 x29.2.2.2.1 x29.2.2.2.2.1 x29.2.2.2.2.2.1 x29.2.2.2.2.2.2.1 x29.2.2.2.2.2.2.2.1 x29.2.2.2.2.2.2.2.2.1 x29.2.2.2.2.2.2.2.2.2.1 x29.2.2.2.2.2.2.2.2.2.2.1 x29.2.2.2.2.2.2.2.2.2.2.2.1 x29.2.2.2.2.2.2.2.2.2.2.2.2.1 x29.2.2.2.2.2.2.2.2.2.2.2.2.2.1 x29.2.2.2.2.2.2.2.2.2.2.2.2.2.2.1 x29.2.2.2.2.2.2.2.2.2.2.2.2.2.2.2.1 x29.2.2.2.2.2.2.2.2.2.2.2.2.2.2.2.2.1 x29.2.2.2.2.2.2.2.2.2.2.2.2.2.2.2.2.2.1 x29.2.2.2.2.2.2.2.2.2.2.2.2.2.2.2.2.2.2.1 x29.2.2.2.2.2.2.2.2.2.2.2.2.2.2.2.2.2.2.2.1) := rfl
def mm_Lp_reply (F : Nat) (i1 : Int32) (t_answered_size : Int32) (t_answered_bytes_f : Nat → Int32) : Option (Nat × Int32) :=
  (if i1 < 0 then
    some (3, 0)
  else
    (if i1 < t_answered_size then
      (mm_Rw_at F 80 i1 t_answered_size t_answered_bytes_f).bind fun x28 =>
      some (0, x28)
    else
      some (3, 0)))
theorem mq_Lp_reply (F : Nat) (i1 : Int32) (t_answered_size : Int32) (t_answered_bytes_f : Nat → Int32) : mm_Lp_reply F i1 t_answered_size t_answered_bytes_f =
  (if i1 < 0 then
    some (3, 0)
  else
    (if i1 < t_answered_size then
      (mm_Rw_at F 80 i1 t_answered_size t_answered_bytes_f).bind fun x28 =>
      some (0, x28)
    else
      some (3, 0))) := rfl
def mm_Mo_thrown (F : Nat) (t_thrown : Int32) : Option (Int32) :=
  some t_thrown
theorem mq_Mo_thrown (F : Nat) (t_thrown : Int32) : mm_Mo_thrown F t_thrown =
  some t_thrown := rfl
def mm_Mo_capture_L103 (F : Nat) : Nat → (Int32) → (Int32) → (Nat → Int32) → Option (Nat → Int32)
  | 0, _, _, _ => none
  | k + 1, v1, v2, t_values_f =>
    (if 3 ≤ v2 then
      some t_values_f
    else
      (if (((3 * v1) + 3) + v2) < 0 ∨ 39 ≤ (((3 * v1) + 3) + v2).toNatClampNeg then none else
      (if ((3 * v1) + v2) < 0 ∨ 39 ≤ ((3 * v1) + v2).toNatClampNeg then none else
      mm_Mo_capture_L103 F k v1 (v2 + 1) (upd t_values_f (((3 * v1) + v2).toNatClampNeg) (t_values_f ((((3 * v1) + 3) + v2).toNatClampNeg))))))
theorem mq_Mo_capture_L103 (F : Nat) (k : Nat) (v1 : Int32) (v2 : Int32) (t_values_f : Nat → Int32) : mm_Mo_capture_L103 F (k + 1) v1 v2 t_values_f =
    (if 3 ≤ v2 then
      some t_values_f
    else
      (if (((3 * v1) + 3) + v2) < 0 ∨ 39 ≤ (((3 * v1) + 3) + v2).toNatClampNeg then none else
      (if ((3 * v1) + v2) < 0 ∨ 39 ≤ ((3 * v1) + v2).toNatClampNeg then none else
      mm_Mo_capture_L103 F k v1 (v2 + 1) (upd t_values_f (((3 * v1) + v2).toNatClampNeg) (t_values_f ((((3 * v1) + 3) + v2).toNatClampNeg)))))) := rfl
def mm_Mo_capture_L77 (F : Nat) : Nat → (Int32) → (Int32) → (Nat → Int32) → (Nat → Int32) → Option (Int32 × (Nat → Int32) × (Nat → Int32))
  | 0, _, _, _, _ => none
  | k + 1, v1, t_entries, t_times_f, t_values_f =>
    (if t_entries ≤ (v1 + 1) then
      some (t_entries - 1, t_times_f, t_values_f)
    else
      (if (v1 + 1) < 0 ∨ 13 ≤ (v1 + 1).toNatClampNeg then none else
      (if v1 < 0 ∨ 13 ≤ v1.toNatClampNeg then none else
      (mm_Mo_capture_L103 F F v1 0 t_values_f).bind fun z103 =>
      mm_Mo_capture_L77 F k (v1 + 1) t_entries (upd t_times_f v1.toNatClampNeg (t_times_f ((v1 + 1).toNatClampNeg))) z103)))
theorem mq_Mo_capture_L77 (F : Nat) (k : Nat) (v1 : Int32) (t_entries : Int32) (t_times_f : Nat → Int32) (t_values_f : Nat → Int32) : mm_Mo_capture_L77 F (k + 1) v1 t_entries t_times_f t_values_f =
    (if t_entries ≤ (v1 + 1) then
      some (t_entries - 1, t_times_f, t_values_f)
    else
      (if (v1 + 1) < 0 ∨ 13 ≤ (v1 + 1).toNatClampNeg then none else
      (if v1 < 0 ∨ 13 ≤ v1.toNatClampNeg then none else
      (mm_Mo_capture_L103 F F v1 0 t_values_f).bind fun z103 =>
      mm_Mo_capture_L77 F k (v1 + 1) t_entries (upd t_times_f v1.toNatClampNeg (t_times_f ((v1 + 1).toNatClampNeg))) z103))) := rfl
def mm_Mo_capture_L15 (F : Nat) : Nat → (Int32) → (Int32) → (Int32) → (Int32) → (Nat → Int32) → (Nat → Int32) → (Nat → Int32) → (Nat → Int32) → Option (Int32 × (Nat → Int32) × (Nat → Int32))
  | 0, _, _, _, _, _, _, _, _ => none
  | k + 1, v1, t_capacity, t_columns, t_entries, t_registers_f, t_column_f, t_times_f, t_values_f =>
    (if t_columns ≤ v1 then
      (if t_capacity < (t_entries + 1) then
        mm_Mo_capture_L77 F F 0 (t_entries + 1) t_times_f t_values_f
      else
        some (t_entries + 1, t_times_f, t_values_f))
    else
      (if v1 < 0 ∨ 3 ≤ v1.toNatClampNeg then none else
      (if (t_column_f v1.toNatClampNeg) < 0 ∨ 4 ≤ (t_column_f v1.toNatClampNeg).toNatClampNeg then none else
      (if ((3 * t_entries) + v1) < 0 ∨ 39 ≤ ((3 * t_entries) + v1).toNatClampNeg then none else
      mm_Mo_capture_L15 F k (v1 + 1) t_capacity t_columns t_entries t_registers_f t_column_f t_times_f (upd t_values_f (((3 * t_entries) + v1).toNatClampNeg) (t_registers_f ((t_column_f v1.toNatClampNeg).toNatClampNeg)))))))
theorem mq_Mo_capture_L15 (F : Nat) (k : Nat) (v1 : Int32) (t_capacity : Int32) (t_columns : Int32) (t_entries : Int32) (t_registers_f : Nat → Int32) (t_column_f : Nat → Int32) (t_times_f : Nat → Int32) (t_values_f : Nat → Int32) : mm_Mo_capture_L15 F (k + 1) v1 t_capacity t_columns t_entries t_registers_f t_column_f t_times_f t_values_f =
    (if t_columns ≤ v1 then
      (if t_capacity < (t_entries + 1) then
        mm_Mo_capture_L77 F F 0 (t_entries + 1) t_times_f t_values_f
      else
        some (t_entries + 1, t_times_f, t_values_f))
    else
      (if v1 < 0 ∨ 3 ≤ v1.toNatClampNeg then none else
      (if (t_column_f v1.toNatClampNeg) < 0 ∨ 4 ≤ (t_column_f v1.toNatClampNeg).toNatClampNeg then none else
      (if ((3 * t_entries) + v1) < 0 ∨ 39 ≤ ((3 * t_entries) + v1).toNatClampNeg then none else
      mm_Mo_capture_L15 F k (v1 + 1) t_capacity t_columns t_entries t_registers_f t_column_f t_times_f (upd t_values_f (((3 * t_entries) + v1).toNatClampNeg) (t_registers_f ((t_column_f v1.toNatClampNeg).toNatClampNeg))))))) := rfl
def mm_Mo_capture (F : Nat) (t_time : Int32) (t_capacity : Int32) (t_columns : Int32) (t_entries : Int32) (t_registers_f : Nat → Int32) (t_column_f : Nat → Int32) (t_times_f : Nat → Int32) (t_values_f : Nat → Int32) : Option (Int32 × (Nat → Int32) × (Nat → Int32)) :=
  (if t_entries < 0 ∨ 13 ≤ t_entries.toNatClampNeg then none else
  mm_Mo_capture_L15 F F 0 t_capacity t_columns t_entries t_registers_f t_column_f (upd t_times_f t_entries.toNatClampNeg t_time) t_values_f)
theorem mq_Mo_capture (F : Nat) (t_time : Int32) (t_capacity : Int32) (t_columns : Int32) (t_entries : Int32) (t_registers_f : Nat → Int32) (t_column_f : Nat → Int32) (t_times_f : Nat → Int32) (t_values_f : Nat → Int32) : mm_Mo_capture F t_time t_capacity t_columns t_entries t_registers_f t_column_f t_times_f t_values_f =
  (if t_entries < 0 ∨ 13 ≤ t_entries.toNatClampNeg then none else
  mm_Mo_capture_L15 F F 0 t_capacity t_columns t_entries t_registers_f t_column_f (upd t_times_f t_entries.toNatClampNeg t_time) t_values_f) := rfl
def mm_Mo_run_L22 (F : Nat) : Nat → (Int32) → (Int32) → (Int32) → (Int32) → (Int32) → (Int32) → (Int32) → (Int32) → (Nat → Int32) → (Nat → Int32) → (Nat → Int32) → (Nat → Int32) → Option (Int32 × Int32 × Int32 × (Nat → Int32) × (Nat → Int32))
  | 0, _, _, _, _, _, _, _, _, _, _, _, _ => none
  | k + 1, v1, v2, t_thrown, t_time, t_capacity, t_period, t_columns, t_entries, t_registers_f, t_column_f, t_times_f, t_values_f =>
    (if v1 ≤ v2 then
      some (t_thrown, t_time, t_entries, t_times_f, t_values_f)
    else
      (if t_thrown = 0 then
        (if t_time = 2147483647 then
          (if t_period ≤ 0 then
            mm_Mo_run_L22 F k v1 (v2 + 1) t_thrown 0 t_capacity t_period t_columns t_entries t_registers_f t_column_f t_times_f t_values_f
          else
            (if t_period = 0 then none else
            (if (bs_rem 0 t_period) = 0 then
              (mm_Mo_capture F 0 t_capacity t_columns t_entries t_registers_f t_column_f t_times_f t_values_f).bind fun x77 =>
              mm_Mo_run_L22 F k v1 (v2 + 1) t_thrown 0 t_capacity t_period t_columns x77.1 t_registers_f t_column_f x77.2.1 x77.2.2
            else
              mm_Mo_run_L22 F k v1 (v2 + 1) t_thrown 0 t_capacity t_period t_columns t_entries t_registers_f t_column_f t_times_f t_values_f)))
        else
          (if t_period ≤ 0 then
            mm_Mo_run_L22 F k v1 (v2 + 1) t_thrown (t_time + 1) t_capacity t_period t_columns t_entries t_registers_f t_column_f t_times_f t_values_f
          else
            (if t_period = 0 then none else
            (if (bs_rem (t_time + 1) t_period) = 0 then
              (mm_Mo_capture F (t_time + 1) t_capacity t_columns t_entries t_registers_f t_column_f t_times_f t_values_f).bind fun x77 =>
              mm_Mo_run_L22 F k v1 (v2 + 1) t_thrown (t_time + 1) t_capacity t_period t_columns x77.1 t_registers_f t_column_f x77.2.1 x77.2.2
            else
              mm_Mo_run_L22 F k v1 (v2 + 1) t_thrown (t_time + 1) t_capacity t_period t_columns t_entries t_registers_f t_column_f t_times_f t_values_f))))
      else
        some (t_thrown, t_time, t_entries, t_times_f, t_values_f)))
theorem mq_Mo_run_L22 (F : Nat) (k : Nat) (v1 : Int32) (v2 : Int32) (t_thrown : Int32) (t_time : Int32) (t_capacity : Int32) (t_period : Int32) (t_columns : Int32) (t_entries : Int32) (t_registers_f : Nat → Int32) (t_column_f : Nat → Int32) (t_times_f : Nat → Int32) (t_values_f : Nat → Int32) : mm_Mo_run_L22 F (k + 1) v1 v2 t_thrown t_time t_capacity t_period t_columns t_entries t_registers_f t_column_f t_times_f t_values_f =
    (if v1 ≤ v2 then
      some (t_thrown, t_time, t_entries, t_times_f, t_values_f)
    else
      (if t_thrown = 0 then
        (if t_time = 2147483647 then
          (if t_period ≤ 0 then
            mm_Mo_run_L22 F k v1 (v2 + 1) t_thrown 0 t_capacity t_period t_columns t_entries t_registers_f t_column_f t_times_f t_values_f
          else
            (if t_period = 0 then none else
            (if (bs_rem 0 t_period) = 0 then
              (mm_Mo_capture F 0 t_capacity t_columns t_entries t_registers_f t_column_f t_times_f t_values_f).bind fun x77 =>
              mm_Mo_run_L22 F k v1 (v2 + 1) t_thrown 0 t_capacity t_period t_columns x77.1 t_registers_f t_column_f x77.2.1 x77.2.2
            else
              mm_Mo_run_L22 F k v1 (v2 + 1) t_thrown 0 t_capacity t_period t_columns t_entries t_registers_f t_column_f t_times_f t_values_f)))
        else
          (if t_period ≤ 0 then
            mm_Mo_run_L22 F k v1 (v2 + 1) t_thrown (t_time + 1) t_capacity t_period t_columns t_entries t_registers_f t_column_f t_times_f t_values_f
          else
            (if t_period = 0 then none else
            (if (bs_rem (t_time + 1) t_period) = 0 then
              (mm_Mo_capture F (t_time + 1) t_capacity t_columns t_entries t_registers_f t_column_f t_times_f t_values_f).bind fun x77 =>
              mm_Mo_run_L22 F k v1 (v2 + 1) t_thrown (t_time + 1) t_capacity t_period t_columns x77.1 t_registers_f t_column_f x77.2.1 x77.2.2
            else
              mm_Mo_run_L22 F k v1 (v2 + 1) t_thrown (t_time + 1) t_capacity t_period t_columns t_entries t_registers_f t_column_f t_times_f t_values_f))))
      else
        some (t_thrown, t_time, t_entries, t_times_f, t_values_f))) := rfl
def mm_Mo_run (F : Nat) (i1 : Int32) (t_thrown : Int32) (t_time : Int32) (t_capacity : Int32) (t_period : Int32) (t_columns : Int32) (t_entries : Int32) (t_registers_f : Nat → Int32) (t_column_f : Nat → Int32) (t_times_f : Nat → Int32) (t_values_f : Nat → Int32) : Option (Int32 × Int32 × Int32 × (Nat → Int32) × (Nat → Int32)) :=
  (if i1 < 0 then
    mm_Mo_run_L22 F F i1 0 1 t_time t_capacity t_period t_columns t_entries t_registers_f t_column_f t_times_f t_values_f
  else
    (if i1 ≤ 1000 then
      mm_Mo_run_L22 F F i1 0 0 t_time t_capacity t_period t_columns t_entries t_registers_f t_column_f t_times_f t_values_f
    else
      mm_Mo_run_L22 F F i1 0 1 t_time t_capacity t_period t_columns t_entries t_registers_f t_column_f t_times_f t_values_f))
theorem mq_Mo_run (F : Nat) (i1 : Int32) (t_thrown : Int32) (t_time : Int32) (t_capacity : Int32) (t_period : Int32) (t_columns : Int32) (t_entries : Int32) (t_registers_f : Nat → Int32) (t_column_f : Nat → Int32) (t_times_f : Nat → Int32) (t_values_f : Nat → Int32) : mm_Mo_run F i1 t_thrown t_time t_capacity t_period t_columns t_entries t_registers_f t_column_f t_times_f t_values_f =
  (if i1 < 0 then
    mm_Mo_run_L22 F F i1 0 1 t_time t_capacity t_period t_columns t_entries t_registers_f t_column_f t_times_f t_values_f
  else
    (if i1 ≤ 1000 then
      mm_Mo_run_L22 F F i1 0 0 t_time t_capacity t_period t_columns t_entries t_registers_f t_column_f t_times_f t_values_f
    else
      mm_Mo_run_L22 F F i1 0 1 t_time t_capacity t_period t_columns t_entries t_registers_f t_column_f t_times_f t_values_f)) := rfl
def mm_Mo_isRegister (F : Nat) (i0 : Int32) : Option (Int32) :=
  (if i0 < 1 then
    some 0
  else
    (if 3 < i0 then
      some 0
    else
      some 1))
theorem mq_Mo_isRegister (F : Nat) (i0 : Int32) : mm_Mo_isRegister F i0 =
  (if i0 < 1 then
    some 0
  else
    (if 3 < i0 then
      some 0
    else
      some 1)) := rfl
def mm_Mo_count_J13 (F : Nat) (v1 : Int32) (v2 : Int32) (s0 : Int32) (t_thrown : Int32) (t_registers_f : Nat → Int32) : Option (Int32 × Int32 × (Nat → Int32)) :=
  (if s0 ≤ 0 then
    (if v1 < 0 ∨ 4 ≤ v1.toNatClampNeg then none else
    (if v1 < 0 ∨ 4 ≤ v1.toNatClampNeg then none else
    (if v1 < 0 ∨ 4 ≤ v1.toNatClampNeg then none else
    some ((upd t_registers_f v1.toNatClampNeg ((t_registers_f v1.toNatClampNeg) + v2)) v1.toNatClampNeg, s0, upd t_registers_f v1.toNatClampNeg ((t_registers_f v1.toNatClampNeg) + v2)))))
  else
    some (0, s0, t_registers_f))
theorem mq_Mo_count_J13 (F : Nat) (v1 : Int32) (v2 : Int32) (s0 : Int32) (t_thrown : Int32) (t_registers_f : Nat → Int32) : mm_Mo_count_J13 F v1 v2 s0 t_thrown t_registers_f =
  (if s0 ≤ 0 then
    (if v1 < 0 ∨ 4 ≤ v1.toNatClampNeg then none else
    (if v1 < 0 ∨ 4 ≤ v1.toNatClampNeg then none else
    (if v1 < 0 ∨ 4 ≤ v1.toNatClampNeg then none else
    some ((upd t_registers_f v1.toNatClampNeg ((t_registers_f v1.toNatClampNeg) + v2)) v1.toNatClampNeg, s0, upd t_registers_f v1.toNatClampNeg ((t_registers_f v1.toNatClampNeg) + v2)))))
  else
    some (0, s0, t_registers_f)) := rfl
def mm_Mo_count (F : Nat) (i1 : Int32) (i2 : Int32) (t_thrown : Int32) (t_registers_f : Nat → Int32) : Option (Int32 × Int32 × (Nat → Int32)) :=
  (mm_Mo_isRegister F i1).bind fun x2 =>
  (if x2 = 0 then
    mm_Mo_count_J13 F i1 i2 1 t_thrown t_registers_f
  else
    mm_Mo_count_J13 F i1 i2 0 t_thrown t_registers_f)
theorem mq_Mo_count (F : Nat) (i1 : Int32) (i2 : Int32) (t_thrown : Int32) (t_registers_f : Nat → Int32) : mm_Mo_count F i1 i2 t_thrown t_registers_f =
  (mm_Mo_isRegister F i1).bind fun x2 =>
  (if x2 = 0 then
    mm_Mo_count_J13 F i1 i2 1 t_thrown t_registers_f
  else
    mm_Mo_count_J13 F i1 i2 0 t_thrown t_registers_f) := rfl
def mm_Mo_time (F : Nat) (t_thrown : Int32) (t_time : Int32) : Option (Int32 × Int32) :=
  some (t_time, 0)
theorem mq_Mo_time (F : Nat) (t_thrown : Int32) (t_time : Int32) : mm_Mo_time F t_thrown t_time =
  some (t_time, 0) := rfl
def mm_Mo_register_J13 (F : Nat) (v1 : Int32) (s0 : Int32) (t_thrown : Int32) (t_registers_f : Nat → Int32) : Option (Int32 × Int32) :=
  (if s0 ≤ 0 then
    (if v1 < 0 ∨ 4 ≤ v1.toNatClampNeg then none else
    some (t_registers_f v1.toNatClampNeg, s0))
  else
    some (0, s0))
theorem mq_Mo_register_J13 (F : Nat) (v1 : Int32) (s0 : Int32) (t_thrown : Int32) (t_registers_f : Nat → Int32) : mm_Mo_register_J13 F v1 s0 t_thrown t_registers_f =
  (if s0 ≤ 0 then
    (if v1 < 0 ∨ 4 ≤ v1.toNatClampNeg then none else
    some (t_registers_f v1.toNatClampNeg, s0))
  else
    some (0, s0)) := rfl
def mm_Mo_register (F : Nat) (i1 : Int32) (t_thrown : Int32) (t_registers_f : Nat → Int32) : Option (Int32 × Int32) :=
  (mm_Mo_isRegister F i1).bind fun x2 =>
  (if x2 = 0 then
    mm_Mo_register_J13 F i1 1 t_thrown t_registers_f
  else
    mm_Mo_register_J13 F i1 0 t_thrown t_registers_f)
theorem mq_Mo_register (F : Nat) (i1 : Int32) (t_thrown : Int32) (t_registers_f : Nat → Int32) : mm_Mo_register F i1 t_thrown t_registers_f =
  (mm_Mo_isRegister F i1).bind fun x2 =>
  (if x2 = 0 then
    mm_Mo_register_J13 F i1 1 t_thrown t_registers_f
  else
    mm_Mo_register_J13 F i1 0 t_thrown t_registers_f) := rfl
def mm_Mo_entries (F : Nat) (t_thrown : Int32) (t_entries : Int32) : Option (Int32 × Int32) :=
  some (t_entries, 0)
theorem mq_Mo_entries (F : Nat) (t_thrown : Int32) (t_entries : Int32) : mm_Mo_entries F t_thrown t_entries =
  some (t_entries, 0) := rfl
def mm_Mo_entry_J34 (F : Nat) (v1 : Int32) (v2 : Int32) (s0 : Int32) (t_thrown : Int32) (t_times_f : Nat → Int32) (t_values_f : Nat → Int32) : Option (Int32 × Int32) :=
  (if s0 ≤ 0 then
    (if v2 = 0 then
      (if v1 < 0 ∨ 13 ≤ v1.toNatClampNeg then none else
      some (t_times_f v1.toNatClampNeg, s0))
    else
      (if (((3 * v1) + v2) - 1) < 0 ∨ 39 ≤ (((3 * v1) + v2) - 1).toNatClampNeg then none else
      some (t_values_f ((((3 * v1) + v2) - 1).toNatClampNeg), s0)))
  else
    some (0, s0))
theorem mq_Mo_entry_J34 (F : Nat) (v1 : Int32) (v2 : Int32) (s0 : Int32) (t_thrown : Int32) (t_times_f : Nat → Int32) (t_values_f : Nat → Int32) : mm_Mo_entry_J34 F v1 v2 s0 t_thrown t_times_f t_values_f =
  (if s0 ≤ 0 then
    (if v2 = 0 then
      (if v1 < 0 ∨ 13 ≤ v1.toNatClampNeg then none else
      some (t_times_f v1.toNatClampNeg, s0))
    else
      (if (((3 * v1) + v2) - 1) < 0 ∨ 39 ≤ (((3 * v1) + v2) - 1).toNatClampNeg then none else
      some (t_values_f ((((3 * v1) + v2) - 1).toNatClampNeg), s0)))
  else
    some (0, s0)) := rfl
def mm_Mo_entry_J29 (F : Nat) (v1 : Int32) (v2 : Int32) (t_thrown : Int32) (t_times_f : Nat → Int32) (t_values_f : Nat → Int32) : Option (Int32 × Int32) :=
  mm_Mo_entry_J34 F v1 v2 2 t_thrown t_times_f t_values_f
theorem mq_Mo_entry_J29 (F : Nat) (v1 : Int32) (v2 : Int32) (t_thrown : Int32) (t_times_f : Nat → Int32) (t_values_f : Nat → Int32) : mm_Mo_entry_J29 F v1 v2 t_thrown t_times_f t_values_f =
  mm_Mo_entry_J34 F v1 v2 2 t_thrown t_times_f t_values_f := rfl
def mm_Mo_entry_J13 (F : Nat) (v1 : Int32) (v2 : Int32) (t_thrown : Int32) (t_times_f : Nat → Int32) (t_values_f : Nat → Int32) : Option (Int32 × Int32) :=
  mm_Mo_entry_J34 F v1 v2 1 t_thrown t_times_f t_values_f
theorem mq_Mo_entry_J13 (F : Nat) (v1 : Int32) (v2 : Int32) (t_thrown : Int32) (t_times_f : Nat → Int32) (t_values_f : Nat → Int32) : mm_Mo_entry_J13 F v1 v2 t_thrown t_times_f t_values_f =
  mm_Mo_entry_J34 F v1 v2 1 t_thrown t_times_f t_values_f := rfl
def mm_Mo_entry (F : Nat) (i1 : Int32) (i2 : Int32) (t_thrown : Int32) (t_columns : Int32) (t_entries : Int32) (t_times_f : Nat → Int32) (t_values_f : Nat → Int32) : Option (Int32 × Int32) :=
  (if i1 < 0 then
    mm_Mo_entry_J13 F i1 i2 t_thrown t_times_f t_values_f
  else
    (if i1 < t_entries then
      (if i2 < 0 then
        mm_Mo_entry_J29 F i1 i2 t_thrown t_times_f t_values_f
      else
        (if i2 ≤ t_columns then
          mm_Mo_entry_J34 F i1 i2 0 t_thrown t_times_f t_values_f
        else
          mm_Mo_entry_J29 F i1 i2 t_thrown t_times_f t_values_f))
    else
      mm_Mo_entry_J13 F i1 i2 t_thrown t_times_f t_values_f))
theorem mq_Mo_entry (F : Nat) (i1 : Int32) (i2 : Int32) (t_thrown : Int32) (t_columns : Int32) (t_entries : Int32) (t_times_f : Nat → Int32) (t_values_f : Nat → Int32) : mm_Mo_entry F i1 i2 t_thrown t_columns t_entries t_times_f t_values_f =
  (if i1 < 0 then
    mm_Mo_entry_J13 F i1 i2 t_thrown t_times_f t_values_f
  else
    (if i1 < t_entries then
      (if i2 < 0 then
        mm_Mo_entry_J29 F i1 i2 t_thrown t_times_f t_values_f
      else
        (if i2 ≤ t_columns then
          mm_Mo_entry_J34 F i1 i2 0 t_thrown t_times_f t_values_f
        else
          mm_Mo_entry_J29 F i1 i2 t_thrown t_times_f t_values_f))
    else
      mm_Mo_entry_J13 F i1 i2 t_thrown t_times_f t_values_f)) := rfl
def mm_Mo_link (F : Nat) (t_thrown : Int32) (t_connected : Int32) (t_expected : Int32) (t_next : Int32) (t_association : Int32) : Option (Int32 × Int32) :=
  (if t_connected = 0 then
    some (0, 0)
  else
    some (((1 + (4 * t_association)) + (16 * t_expected)) + (128 * t_next), 0))
theorem mq_Mo_link (F : Nat) (t_thrown : Int32) (t_connected : Int32) (t_expected : Int32) (t_next : Int32) (t_association : Int32) : mm_Mo_link F t_thrown t_connected t_expected t_next t_association =
  (if t_connected = 0 then
    some (0, 0)
  else
    some (((1 + (4 * t_association)) + (16 * t_expected)) + (128 * t_next), 0)) := rfl
def mm_Mo_put_J30 (F : Nat) (v1 : Int32) (s0 : Int32) (t_thrown : Int32) (t_count : Int32) (t_line_f : Nat → Int32) : Option (Int32 × Int32 × Int32 × (Nat → Int32)) :=
  (if s0 ≤ 0 then
    (if t_count < 0 ∨ 80 ≤ t_count.toNatClampNeg then none else
    some (t_count + 1, s0, t_count + 1, upd t_line_f t_count.toNatClampNeg v1))
  else
    some (0, s0, t_count, t_line_f))
theorem mq_Mo_put_J30 (F : Nat) (v1 : Int32) (s0 : Int32) (t_thrown : Int32) (t_count : Int32) (t_line_f : Nat → Int32) : mm_Mo_put_J30 F v1 s0 t_thrown t_count t_line_f =
  (if s0 ≤ 0 then
    (if t_count < 0 ∨ 80 ≤ t_count.toNatClampNeg then none else
    some (t_count + 1, s0, t_count + 1, upd t_line_f t_count.toNatClampNeg v1))
  else
    some (0, s0, t_count, t_line_f)) := rfl
def mm_Mo_put_J12 (F : Nat) (v1 : Int32) (t_thrown : Int32) (t_count : Int32) (t_line_f : Nat → Int32) : Option (Int32 × Int32 × Int32 × (Nat → Int32)) :=
  mm_Mo_put_J30 F v1 1 t_thrown t_count t_line_f
theorem mq_Mo_put_J12 (F : Nat) (v1 : Int32) (t_thrown : Int32) (t_count : Int32) (t_line_f : Nat → Int32) : mm_Mo_put_J12 F v1 t_thrown t_count t_line_f =
  mm_Mo_put_J30 F v1 1 t_thrown t_count t_line_f := rfl
def mm_Mo_put (F : Nat) (i1 : Int32) (t_thrown : Int32) (t_count : Int32) (t_line_f : Nat → Int32) : Option (Int32 × Int32 × Int32 × (Nat → Int32)) :=
  (if i1 < 0 then
    mm_Mo_put_J12 F i1 t_thrown t_count t_line_f
  else
    (if i1 ≤ 255 then
      (if t_count = 80 then
        mm_Mo_put_J30 F i1 2 t_thrown t_count t_line_f
      else
        mm_Mo_put_J30 F i1 0 t_thrown t_count t_line_f)
    else
      mm_Mo_put_J12 F i1 t_thrown t_count t_line_f))
theorem mq_Mo_put (F : Nat) (i1 : Int32) (t_thrown : Int32) (t_count : Int32) (t_line_f : Nat → Int32) : mm_Mo_put F i1 t_thrown t_count t_line_f =
  (if i1 < 0 then
    mm_Mo_put_J12 F i1 t_thrown t_count t_line_f
  else
    (if i1 ≤ 255 then
      (if t_count = 80 then
        mm_Mo_put_J30 F i1 2 t_thrown t_count t_line_f
      else
        mm_Mo_put_J30 F i1 0 t_thrown t_count t_line_f)
    else
      mm_Mo_put_J12 F i1 t_thrown t_count t_line_f)) := rfl
def mm_Mo_putInt_L29 (F : Nat) : Nat → (Int32) → (Int32) → (Int32) → (Int32) → (Nat → Int32) → Option (Int32 × Int32 × Int32 × (Nat → Int32))
  | 0, _, _, _, _, _ => none
  | k + 1, v1, v2, t_thrown, t_count, t_line_f =>
    (if v2 < 0 then
      some (t_count, t_thrown, t_count, t_line_f)
    else
      (if t_count < 0 ∨ 80 ≤ t_count.toNatClampNeg then none else
      mm_Mo_putInt_L29 F k v1 (v2 + (-1)) t_thrown (t_count + 1) (upd t_line_f t_count.toNatClampNeg ((bs_ushr v1 (8 * v2)) &&& 255))))
theorem mq_Mo_putInt_L29 (F : Nat) (k : Nat) (v1 : Int32) (v2 : Int32) (t_thrown : Int32) (t_count : Int32) (t_line_f : Nat → Int32) : mm_Mo_putInt_L29 F (k + 1) v1 v2 t_thrown t_count t_line_f =
    (if v2 < 0 then
      some (t_count, t_thrown, t_count, t_line_f)
    else
      (if t_count < 0 ∨ 80 ≤ t_count.toNatClampNeg then none else
      mm_Mo_putInt_L29 F k v1 (v2 + (-1)) t_thrown (t_count + 1) (upd t_line_f t_count.toNatClampNeg ((bs_ushr v1 (8 * v2)) &&& 255)))) := rfl
def mm_Mo_putInt (F : Nat) (i1 : Int32) (t_thrown : Int32) (t_count : Int32) (t_line_f : Nat → Int32) : Option (Int32 × Int32 × Int32 × (Nat → Int32)) :=
  (if t_count ≤ 76 then
    mm_Mo_putInt_L29 F F i1 3 0 t_count t_line_f
  else
    some (0, 1, t_count, t_line_f))
theorem mq_Mo_putInt (F : Nat) (i1 : Int32) (t_thrown : Int32) (t_count : Int32) (t_line_f : Nat → Int32) : mm_Mo_putInt F i1 t_thrown t_count t_line_f =
  (if t_count ≤ 76 then
    mm_Mo_putInt_L29 F F i1 3 0 t_count t_line_f
  else
    some (0, 1, t_count, t_line_f)) := rfl
def mm_Mo_poke_J28 (F : Nat) (v1 : Int32) (v2 : Int32) (t_thrown : Int32) (t_line_f : Nat → Int32) : Option (Int32 × (Nat → Int32)) :=
  some (2, t_line_f)
theorem mq_Mo_poke_J28 (F : Nat) (v1 : Int32) (v2 : Int32) (t_thrown : Int32) (t_line_f : Nat → Int32) : mm_Mo_poke_J28 F v1 v2 t_thrown t_line_f =
  some (2, t_line_f) := rfl
def mm_Mo_poke_J13 (F : Nat) (v1 : Int32) (v2 : Int32) (t_thrown : Int32) (t_line_f : Nat → Int32) : Option (Int32 × (Nat → Int32)) :=
  some (1, t_line_f)
theorem mq_Mo_poke_J13 (F : Nat) (v1 : Int32) (v2 : Int32) (t_thrown : Int32) (t_line_f : Nat → Int32) : mm_Mo_poke_J13 F v1 v2 t_thrown t_line_f =
  some (1, t_line_f) := rfl
def mm_Mo_poke (F : Nat) (i1 : Int32) (i2 : Int32) (t_thrown : Int32) (t_count : Int32) (t_line_f : Nat → Int32) : Option (Int32 × (Nat → Int32)) :=
  (if i1 < 0 then
    mm_Mo_poke_J13 F i1 i2 t_thrown t_line_f
  else
    (if i1 < t_count then
      (if i2 < 0 then
        mm_Mo_poke_J28 F i1 i2 t_thrown t_line_f
      else
        (if i2 ≤ 255 then
          (if i1 < 0 ∨ 80 ≤ i1.toNatClampNeg then none else
          some (0, upd t_line_f i1.toNatClampNeg i2))
        else
          mm_Mo_poke_J28 F i1 i2 t_thrown t_line_f))
    else
      mm_Mo_poke_J13 F i1 i2 t_thrown t_line_f))
theorem mq_Mo_poke (F : Nat) (i1 : Int32) (i2 : Int32) (t_thrown : Int32) (t_count : Int32) (t_line_f : Nat → Int32) : mm_Mo_poke F i1 i2 t_thrown t_count t_line_f =
  (if i1 < 0 then
    mm_Mo_poke_J13 F i1 i2 t_thrown t_line_f
  else
    (if i1 < t_count then
      (if i2 < 0 then
        mm_Mo_poke_J28 F i1 i2 t_thrown t_line_f
      else
        (if i2 ≤ 255 then
          (if i1 < 0 ∨ 80 ≤ i1.toNatClampNeg then none else
          some (0, upd t_line_f i1.toNatClampNeg i2))
        else
          mm_Mo_poke_J28 F i1 i2 t_thrown t_line_f))
    else
      mm_Mo_poke_J13 F i1 i2 t_thrown t_line_f)) := rfl
def mm_Mo_clear (F : Nat) (t_thrown : Int32) (t_count : Int32) : Option (Int32 × Int32) :=
  some (0, 0)
theorem mq_Mo_clear (F : Nat) (t_thrown : Int32) (t_count : Int32) : mm_Mo_clear F t_thrown t_count =
  some (0, 0) := rfl
def mm_Mo_check_L19 (F : Nat) (p0_N : Nat) : Nat → (Int32) → (Int32) → Option (Int32)
  | 0, _, _ => none
  | k + 1, v2, v4 =>
    (if 8 ≤ v4 then
      some v2
    else
      (if (bs_rem v2 2) = 1 then
        mm_Mo_check_L19 F p0_N k ((v2 / 2) ^^^ 33800) (v4 + 1)
      else
        mm_Mo_check_L19 F p0_N k (v2 / 2) (v4 + 1)))
theorem mq_Mo_check_L19 (F : Nat) (p0_N : Nat) (k : Nat) (v2 : Int32) (v4 : Int32) : mm_Mo_check_L19 F p0_N (k + 1) v2 v4 =
    (if 8 ≤ v4 then
      some v2
    else
      (if (bs_rem v2 2) = 1 then
        mm_Mo_check_L19 F p0_N k ((v2 / 2) ^^^ 33800) (v4 + 1)
      else
        mm_Mo_check_L19 F p0_N k (v2 / 2) (v4 + 1))) := rfl
def mm_Mo_check_L5 (F : Nat) (p0_N : Nat) : Nat → (Int32) → (Int32) → (Int32) → (Nat → Int32) → Option (Int32)
  | 0, _, _, _, _ => none
  | k + 1, v1, v2, v3, p0_f =>
    (if v1 ≤ v3 then
      some (65535 - v2)
    else
      (if v3 < 0 ∨ p0_N ≤ v3.toNatClampNeg then none else
      (mm_Mo_check_L19 F p0_N F (v2 ^^^ (p0_f v3.toNatClampNeg)) 0).bind fun z19 =>
      mm_Mo_check_L5 F p0_N k v1 z19 (v3 + 1) p0_f))
theorem mq_Mo_check_L5 (F : Nat) (p0_N : Nat) (k : Nat) (v1 : Int32) (v2 : Int32) (v3 : Int32) (p0_f : Nat → Int32) : mm_Mo_check_L5 F p0_N (k + 1) v1 v2 v3 p0_f =
    (if v1 ≤ v3 then
      some (65535 - v2)
    else
      (if v3 < 0 ∨ p0_N ≤ v3.toNatClampNeg then none else
      (mm_Mo_check_L19 F p0_N F (v2 ^^^ (p0_f v3.toNatClampNeg)) 0).bind fun z19 =>
      mm_Mo_check_L5 F p0_N k v1 z19 (v3 + 1) p0_f)) := rfl
def mm_Mo_check (F : Nat) (p0_N : Nat) (i1 : Int32) (p0_f : Nat → Int32) : Option (Int32) :=
  mm_Mo_check_L5 F p0_N F i1 65535 1 p0_f
theorem mq_Mo_check (F : Nat) (p0_N : Nat) (i1 : Int32) (p0_f : Nat → Int32) : mm_Mo_check F p0_N i1 p0_f =
  mm_Mo_check_L5 F p0_N F i1 65535 1 p0_f := rfl
def mm_Mo_wrap_J12 (F : Nat) (p0_N : Nat) (v1 : Int32) (v2 : Int32) (s0 : Int32) (p0_f : Nat → Int32) : Option (Int32 × (Nat → Int32)) :=
  (if (0 : Int32) < 0 ∨ p0_N ≤ (0 : Int32).toNatClampNeg then none else
  (if (1 : Int32) < 0 ∨ p0_N ≤ (1 : Int32).toNatClampNeg then none else
  (if (2 : Int32) < 0 ∨ p0_N ≤ (2 : Int32).toNatClampNeg then none else
  (if (3 : Int32) < 0 ∨ p0_N ≤ (3 : Int32).toNatClampNeg then none else
  (mm_Mo_check F p0_N 4 (upd (upd (upd (upd p0_f ((0 : Int32).toNatClampNeg) 126) ((1 : Int32).toNatClampNeg) s0) ((2 : Int32).toNatClampNeg) 17) ((3 : Int32).toNatClampNeg) v1)).bind fun x33 =>
  (if (4 : Int32) < 0 ∨ p0_N ≤ (4 : Int32).toNatClampNeg then none else
  (if (5 : Int32) < 0 ∨ p0_N ≤ (5 : Int32).toNatClampNeg then none else
  (if v2 ≤ 0 then
    (if (s0 + 1) < 0 ∨ p0_N ≤ (s0 + 1).toNatClampNeg then none else
    some (s0 + 2, upd (upd (upd (upd (upd (upd (upd p0_f ((0 : Int32).toNatClampNeg) 126) ((1 : Int32).toNatClampNeg) s0) ((2 : Int32).toNatClampNeg) 17) ((3 : Int32).toNatClampNeg) v1) ((4 : Int32).toNatClampNeg) (bs_rem x33 256)) ((5 : Int32).toNatClampNeg) (x33 / 256)) ((s0 + 1).toNatClampNeg) 126))
  else
    (mm_Mo_check F p0_N (6 + v2) (upd (upd (upd (upd (upd (upd p0_f ((0 : Int32).toNatClampNeg) 126) ((1 : Int32).toNatClampNeg) s0) ((2 : Int32).toNatClampNeg) 17) ((3 : Int32).toNatClampNeg) v1) ((4 : Int32).toNatClampNeg) (bs_rem x33 256)) ((5 : Int32).toNatClampNeg) (x33 / 256))).bind fun x65 =>
    (if (6 + v2) < 0 ∨ p0_N ≤ (6 + v2).toNatClampNeg then none else
    (if (7 + v2) < 0 ∨ p0_N ≤ (7 + v2).toNatClampNeg then none else
    (if (s0 + 1) < 0 ∨ p0_N ≤ (s0 + 1).toNatClampNeg then none else
    some (s0 + 2, upd (upd (upd (upd (upd (upd (upd (upd (upd p0_f ((0 : Int32).toNatClampNeg) 126) ((1 : Int32).toNatClampNeg) s0) ((2 : Int32).toNatClampNeg) 17) ((3 : Int32).toNatClampNeg) v1) ((4 : Int32).toNatClampNeg) (bs_rem x33 256)) ((5 : Int32).toNatClampNeg) (x33 / 256)) ((6 + v2).toNatClampNeg) (bs_rem x65 256)) ((7 + v2).toNatClampNeg) (x65 / 256)) ((s0 + 1).toNatClampNeg) 126)))))))))))
theorem mq_Mo_wrap_J12 (F : Nat) (p0_N : Nat) (v1 : Int32) (v2 : Int32) (s0 : Int32) (p0_f : Nat → Int32) : mm_Mo_wrap_J12 F p0_N v1 v2 s0 p0_f =
  (if (0 : Int32) < 0 ∨ p0_N ≤ (0 : Int32).toNatClampNeg then none else
  (if (1 : Int32) < 0 ∨ p0_N ≤ (1 : Int32).toNatClampNeg then none else
  (if (2 : Int32) < 0 ∨ p0_N ≤ (2 : Int32).toNatClampNeg then none else
  (if (3 : Int32) < 0 ∨ p0_N ≤ (3 : Int32).toNatClampNeg then none else
  (mm_Mo_check F p0_N 4 (upd (upd (upd (upd p0_f ((0 : Int32).toNatClampNeg) 126) ((1 : Int32).toNatClampNeg) s0) ((2 : Int32).toNatClampNeg) 17) ((3 : Int32).toNatClampNeg) v1)).bind fun x33 =>
  (if (4 : Int32) < 0 ∨ p0_N ≤ (4 : Int32).toNatClampNeg then none else
  (if (5 : Int32) < 0 ∨ p0_N ≤ (5 : Int32).toNatClampNeg then none else
  (if v2 ≤ 0 then
    (if (s0 + 1) < 0 ∨ p0_N ≤ (s0 + 1).toNatClampNeg then none else
    some (s0 + 2, upd (upd (upd (upd (upd (upd (upd p0_f ((0 : Int32).toNatClampNeg) 126) ((1 : Int32).toNatClampNeg) s0) ((2 : Int32).toNatClampNeg) 17) ((3 : Int32).toNatClampNeg) v1) ((4 : Int32).toNatClampNeg) (bs_rem x33 256)) ((5 : Int32).toNatClampNeg) (x33 / 256)) ((s0 + 1).toNatClampNeg) 126))
  else
    (mm_Mo_check F p0_N (6 + v2) (upd (upd (upd (upd (upd (upd p0_f ((0 : Int32).toNatClampNeg) 126) ((1 : Int32).toNatClampNeg) s0) ((2 : Int32).toNatClampNeg) 17) ((3 : Int32).toNatClampNeg) v1) ((4 : Int32).toNatClampNeg) (bs_rem x33 256)) ((5 : Int32).toNatClampNeg) (x33 / 256))).bind fun x65 =>
    (if (6 + v2) < 0 ∨ p0_N ≤ (6 + v2).toNatClampNeg then none else
    (if (7 + v2) < 0 ∨ p0_N ≤ (7 + v2).toNatClampNeg then none else
    (if (s0 + 1) < 0 ∨ p0_N ≤ (s0 + 1).toNatClampNeg then none else
    some (s0 + 2, upd (upd (upd (upd (upd (upd (upd (upd (upd p0_f ((0 : Int32).toNatClampNeg) 126) ((1 : Int32).toNatClampNeg) s0) ((2 : Int32).toNatClampNeg) 17) ((3 : Int32).toNatClampNeg) v1) ((4 : Int32).toNatClampNeg) (bs_rem x33 256)) ((5 : Int32).toNatClampNeg) (x33 / 256)) ((6 + v2).toNatClampNeg) (bs_rem x65 256)) ((7 + v2).toNatClampNeg) (x65 / 256)) ((s0 + 1).toNatClampNeg) 126))))))))))) := rfl
def mm_Mo_wrap (F : Nat) (p0_N : Nat) (i1 : Int32) (i2 : Int32) (p0_f : Nat → Int32) : Option (Int32 × (Nat → Int32)) :=
  (if i2 ≤ 0 then
    mm_Mo_wrap_J12 F p0_N i1 i2 5 p0_f
  else
    mm_Mo_wrap_J12 F p0_N i1 i2 (7 + i2) p0_f)
theorem mq_Mo_wrap (F : Nat) (p0_N : Nat) (i1 : Int32) (i2 : Int32) (p0_f : Nat → Int32) : mm_Mo_wrap F p0_N i1 i2 p0_f =
  (if i2 ≤ 0 then
    mm_Mo_wrap_J12 F p0_N i1 i2 5 p0_f
  else
    mm_Mo_wrap_J12 F p0_N i1 i2 (7 + i2) p0_f) := rfl
def mm_Mo_wrapLine_L7 (F : Nat) : Nat → (Int32) → (Int32) → (Int32) → (Nat → Int32) → Option (Int32 × Int32 × (Nat → Int32))
  | 0, _, _, _, _ => none
  | k + 1, v1, v2, t_count, t_line_f =>
    (if v2 < 0 then
      (mm_Mo_wrap F 80 v1 t_count t_line_f).bind fun x42 =>
      some (x42.1, x42.1, x42.2)
    else
      (if v2 < 0 ∨ 80 ≤ v2.toNatClampNeg then none else
      (if (6 + v2) < 0 ∨ 80 ≤ (6 + v2).toNatClampNeg then none else
      mm_Mo_wrapLine_L7 F k v1 (v2 + (-1)) t_count (upd t_line_f ((6 + v2).toNatClampNeg) (t_line_f v2.toNatClampNeg)))))
theorem mq_Mo_wrapLine_L7 (F : Nat) (k : Nat) (v1 : Int32) (v2 : Int32) (t_count : Int32) (t_line_f : Nat → Int32) : mm_Mo_wrapLine_L7 F (k + 1) v1 v2 t_count t_line_f =
    (if v2 < 0 then
      (mm_Mo_wrap F 80 v1 t_count t_line_f).bind fun x42 =>
      some (x42.1, x42.1, x42.2)
    else
      (if v2 < 0 ∨ 80 ≤ v2.toNatClampNeg then none else
      (if (6 + v2) < 0 ∨ 80 ≤ (6 + v2).toNatClampNeg then none else
      mm_Mo_wrapLine_L7 F k v1 (v2 + (-1)) t_count (upd t_line_f ((6 + v2).toNatClampNeg) (t_line_f v2.toNatClampNeg))))) := rfl
def mm_Mo_wrapLine (F : Nat) (i1 : Int32) (t_count : Int32) (t_line_f : Nat → Int32) : Option (Int32 × Int32 × (Nat → Int32)) :=
  mm_Mo_wrapLine_L7 F F i1 (t_count - 1) t_count t_line_f
theorem mq_Mo_wrapLine (F : Nat) (i1 : Int32) (t_count : Int32) (t_line_f : Nat → Int32) : mm_Mo_wrapLine F i1 t_count t_line_f =
  mm_Mo_wrapLine_L7 F F i1 (t_count - 1) t_count t_line_f := rfl
def mm_Mo_frame_J12 (F : Nat) (v1 : Int32) (t_thrown : Int32) (t_count : Int32) (t_line_f : Nat → Int32) : Option (Int32 × Int32 × Int32 × (Nat → Int32)) :=
  some (0, 1, t_count, t_line_f)
theorem mq_Mo_frame_J12 (F : Nat) (v1 : Int32) (t_thrown : Int32) (t_count : Int32) (t_line_f : Nat → Int32) : mm_Mo_frame_J12 F v1 t_thrown t_count t_line_f =
  some (0, 1, t_count, t_line_f) := rfl
def mm_Mo_frame (F : Nat) (i1 : Int32) (t_thrown : Int32) (t_count : Int32) (t_line_f : Nat → Int32) : Option (Int32 × Int32 × Int32 × (Nat → Int32)) :=
  (if i1 < 0 then
    mm_Mo_frame_J12 F i1 t_thrown t_count t_line_f
  else
    (if i1 ≤ 255 then
      (if t_count ≤ 60 then
        (mm_Mo_wrapLine F i1 t_count t_line_f).bind fun x46 =>
        some (x46.1, 0, x46.2.1, x46.2.2)
      else
        some (0, 2, t_count, t_line_f))
    else
      mm_Mo_frame_J12 F i1 t_thrown t_count t_line_f))
theorem mq_Mo_frame (F : Nat) (i1 : Int32) (t_thrown : Int32) (t_count : Int32) (t_line_f : Nat → Int32) : mm_Mo_frame F i1 t_thrown t_count t_line_f =
  (if i1 < 0 then
    mm_Mo_frame_J12 F i1 t_thrown t_count t_line_f
  else
    (if i1 ≤ 255 then
      (if t_count ≤ 60 then
        (mm_Mo_wrapLine F i1 t_count t_line_f).bind fun x46 =>
        some (x46.1, 0, x46.2.1, x46.2.2)
      else
        some (0, 2, t_count, t_line_f))
    else
      mm_Mo_frame_J12 F i1 t_thrown t_count t_line_f)) := rfl
def mm_Mo_ask_J22 (F : Nat) (s0 : Int32) (t_thrown : Int32) (t_count : Int32) (t_askS : Int32) (t_askR : Int32) (t_line_f : Nat → Int32) : Option (Int32 × Int32 × Int32 × (Nat → Int32)) :=
  (if s0 ≤ 0 then
    (mm_Mo_wrapLine F ((16 + (2 * t_askS)) + (32 * t_askR)) t_count t_line_f).bind fun x54 =>
    some (x54.1, s0, x54.2.1, x54.2.2)
  else
    some (0, s0, t_count, t_line_f))
theorem mq_Mo_ask_J22 (F : Nat) (s0 : Int32) (t_thrown : Int32) (t_count : Int32) (t_askS : Int32) (t_askR : Int32) (t_line_f : Nat → Int32) : mm_Mo_ask_J22 F s0 t_thrown t_count t_askS t_askR t_line_f =
  (if s0 ≤ 0 then
    (mm_Mo_wrapLine F ((16 + (2 * t_askS)) + (32 * t_askR)) t_count t_line_f).bind fun x54 =>
    some (x54.1, s0, x54.2.1, x54.2.2)
  else
    some (0, s0, t_count, t_line_f)) := rfl
def mm_Mo_ask_J17 (F : Nat) (t_thrown : Int32) (t_count : Int32) (t_askS : Int32) (t_askR : Int32) (t_line_f : Nat → Int32) : Option (Int32 × Int32 × Int32 × (Nat → Int32)) :=
  mm_Mo_ask_J22 F 1 t_thrown t_count t_askS t_askR t_line_f
theorem mq_Mo_ask_J17 (F : Nat) (t_thrown : Int32) (t_count : Int32) (t_askS : Int32) (t_askR : Int32) (t_line_f : Nat → Int32) : mm_Mo_ask_J17 F t_thrown t_count t_askS t_askR t_line_f =
  mm_Mo_ask_J22 F 1 t_thrown t_count t_askS t_askR t_line_f := rfl
def mm_Mo_ask (F : Nat) (t_thrown : Int32) (t_count : Int32) (t_askS : Int32) (t_askR : Int32) (t_line_f : Nat → Int32) : Option (Int32 × Int32 × Int32 × (Nat → Int32)) :=
  (if t_count = 0 then
    mm_Mo_ask_J17 F t_thrown t_count t_askS t_askR t_line_f
  else
    (if t_count ≤ 60 then
      mm_Mo_ask_J22 F 0 t_thrown t_count t_askS t_askR t_line_f
    else
      mm_Mo_ask_J17 F t_thrown t_count t_askS t_askR t_line_f))
theorem mq_Mo_ask (F : Nat) (t_thrown : Int32) (t_count : Int32) (t_askS : Int32) (t_askR : Int32) (t_line_f : Nat → Int32) : mm_Mo_ask F t_thrown t_count t_askS t_askR t_line_f =
  (if t_count = 0 then
    mm_Mo_ask_J17 F t_thrown t_count t_askS t_askR t_line_f
  else
    (if t_count ≤ 60 then
      mm_Mo_ask_J22 F 0 t_thrown t_count t_askS t_askR t_line_f
    else
      mm_Mo_ask_J17 F t_thrown t_count t_askS t_askR t_line_f)) := rfl
def mm_Mo_payloadOf (F : Nat) (t_count : Int32) (t_line_f : Nat → Int32) : Option (Int32) :=
  (if t_count < 7 then
    some (-1)
  else
    (if (t_line_f ((0 : Int32).toNatClampNeg)) = 126 then
      (if (t_count - 1) < 0 ∨ 80 ≤ (t_count - 1).toNatClampNeg then none else
      (if (t_line_f ((t_count - 1).toNatClampNeg)) = 126 then
        (if (t_line_f ((1 : Int32).toNatClampNeg)) = (t_count - 2) then
          (if (t_line_f ((2 : Int32).toNatClampNeg)) = 17 then
            (mm_Mo_check F 80 4 t_line_f).bind fun x69 =>
            (if (t_line_f ((4 : Int32).toNatClampNeg)) = (bs_rem x69 256) then
              (if (t_line_f ((5 : Int32).toNatClampNeg)) = (x69 / 256) then
                (if t_count = 7 then
                  some 0
                else
                  (if (t_count - 9) < 1 then
                    some (-1)
                  else
                    (if (t_count - 9) ≤ 60 then
                      (mm_Mo_check F 80 (6 + (t_count - 9)) t_line_f).bind fun x143 =>
                      (if (6 + (t_count - 9)) < 0 ∨ 80 ≤ (6 + (t_count - 9)).toNatClampNeg then none else
                      (if (t_line_f ((6 + (t_count - 9)).toNatClampNeg)) = (bs_rem x143 256) then
                        (if (7 + (t_count - 9)) < 0 ∨ 80 ≤ (7 + (t_count - 9)).toNatClampNeg then none else
                        (if (t_line_f ((7 + (t_count - 9)).toNatClampNeg)) = (x143 / 256) then
                          some (t_count - 9)
                        else
                          some (-1)))
                      else
                        some (-1)))
                    else
                      some (-1))))
              else
                some (-1))
            else
              some (-1))
          else
            some (-1))
        else
          some (-1))
      else
        some (-1)))
    else
      some (-1)))
theorem mq_Mo_payloadOf (F : Nat) (t_count : Int32) (t_line_f : Nat → Int32) : mm_Mo_payloadOf F t_count t_line_f =
  (if t_count < 7 then
    some (-1)
  else
    (if (t_line_f ((0 : Int32).toNatClampNeg)) = 126 then
      (if (t_count - 1) < 0 ∨ 80 ≤ (t_count - 1).toNatClampNeg then none else
      (if (t_line_f ((t_count - 1).toNatClampNeg)) = 126 then
        (if (t_line_f ((1 : Int32).toNatClampNeg)) = (t_count - 2) then
          (if (t_line_f ((2 : Int32).toNatClampNeg)) = 17 then
            (mm_Mo_check F 80 4 t_line_f).bind fun x69 =>
            (if (t_line_f ((4 : Int32).toNatClampNeg)) = (bs_rem x69 256) then
              (if (t_line_f ((5 : Int32).toNatClampNeg)) = (x69 / 256) then
                (if t_count = 7 then
                  some 0
                else
                  (if (t_count - 9) < 1 then
                    some (-1)
                  else
                    (if (t_count - 9) ≤ 60 then
                      (mm_Mo_check F 80 (6 + (t_count - 9)) t_line_f).bind fun x143 =>
                      (if (6 + (t_count - 9)) < 0 ∨ 80 ≤ (6 + (t_count - 9)).toNatClampNeg then none else
                      (if (t_line_f ((6 + (t_count - 9)).toNatClampNeg)) = (bs_rem x143 256) then
                        (if (7 + (t_count - 9)) < 0 ∨ 80 ≤ (7 + (t_count - 9)).toNatClampNeg then none else
                        (if (t_line_f ((7 + (t_count - 9)).toNatClampNeg)) = (x143 / 256) then
                          some (t_count - 9)
                        else
                          some (-1)))
                      else
                        some (-1)))
                    else
                      some (-1))))
              else
                some (-1))
            else
              some (-1))
          else
            some (-1))
        else
          some (-1))
      else
        some (-1)))
    else
      some (-1))) := rfl
def mm_Mo_replyControl (F : Nat) (i1 : Int32) (t_told : Int32) (t_reply_f : Nat → Int32) : Option (Int32 × (Nat → Int32)) :=
  (mm_Mo_wrap F 80 i1 0 t_reply_f).bind fun x7 =>
  some (x7.1, x7.2)
theorem mq_Mo_replyControl (F : Nat) (i1 : Int32) (t_told : Int32) (t_reply_f : Nat → Int32) : mm_Mo_replyControl F i1 t_told t_reply_f =
  (mm_Mo_wrap F 80 i1 0 t_reply_f).bind fun x7 =>
  some (x7.1, x7.2) := rfl
def mm_Mo_replyLatest_L2 (F : Nat) : Nat → (Int32) → (Int32) → (Int32) → (Nat → Int32) → (Nat → Int32) → Option (Int32 × (Nat → Int32))
  | 0, _, _, _, _, _ => none
  | k + 1, v1, t_told, t_latestSize, t_reply_f, t_latest_f =>
    (if t_latestSize ≤ v1 then
      some (t_latestSize, t_reply_f)
    else
      (if v1 < 0 ∨ 80 ≤ v1.toNatClampNeg then none else
      (if v1 < 0 ∨ 80 ≤ v1.toNatClampNeg then none else
      mm_Mo_replyLatest_L2 F k (v1 + 1) t_told t_latestSize (upd t_reply_f v1.toNatClampNeg (t_latest_f v1.toNatClampNeg)) t_latest_f)))
theorem mq_Mo_replyLatest_L2 (F : Nat) (k : Nat) (v1 : Int32) (t_told : Int32) (t_latestSize : Int32) (t_reply_f : Nat → Int32) (t_latest_f : Nat → Int32) : mm_Mo_replyLatest_L2 F (k + 1) v1 t_told t_latestSize t_reply_f t_latest_f =
    (if t_latestSize ≤ v1 then
      some (t_latestSize, t_reply_f)
    else
      (if v1 < 0 ∨ 80 ≤ v1.toNatClampNeg then none else
      (if v1 < 0 ∨ 80 ≤ v1.toNatClampNeg then none else
      mm_Mo_replyLatest_L2 F k (v1 + 1) t_told t_latestSize (upd t_reply_f v1.toNatClampNeg (t_latest_f v1.toNatClampNeg)) t_latest_f))) := rfl
def mm_Mo_replyLatest (F : Nat) (t_told : Int32) (t_latestSize : Int32) (t_reply_f : Nat → Int32) (t_latest_f : Nat → Int32) : Option (Int32 × (Nat → Int32)) :=
  mm_Mo_replyLatest_L2 F F 0 t_told t_latestSize t_reply_f t_latest_f
theorem mq_Mo_replyLatest (F : Nat) (t_told : Int32) (t_latestSize : Int32) (t_reply_f : Nat → Int32) (t_latest_f : Nat → Int32) : mm_Mo_replyLatest F t_told t_latestSize t_reply_f t_latest_f =
  mm_Mo_replyLatest_L2 F F 0 t_told t_latestSize t_reply_f t_latest_f := rfl
def mm_Mo_at (F : Nat) (i1 : Int32) (t_line_f : Nat → Int32) : Option (Int32) :=
  (if (6 + i1) < 0 ∨ 80 ≤ (6 + i1).toNatClampNeg then none else
  some (t_line_f ((6 + i1).toNatClampNeg)))
theorem mq_Mo_at (F : Nat) (i1 : Int32) (t_line_f : Nat → Int32) : mm_Mo_at F i1 t_line_f =
  (if (6 + i1) < 0 ∨ 80 ≤ (6 + i1).toNatClampNeg then none else
  some (t_line_f ((6 + i1).toNatClampNeg))) := rfl
def mm_Mo_intAt (F : Nat) (i1 : Int32) (t_line_f : Nat → Int32) : Option (Int32) :=
  (mm_Mo_at F i1 t_line_f).bind fun x2 =>
  (mm_Mo_at F (i1 + 1) t_line_f).bind fun x12 =>
  (mm_Mo_at F (i1 + 2) t_line_f).bind fun x23 =>
  (mm_Mo_at F (i1 + 3) t_line_f).bind fun x34 =>
  some ((((x2 <<< (24 &&& 31)) ||| (x12 <<< (16 &&& 31))) ||| (x23 <<< (8 &&& 31))) ||| x34)
theorem mq_Mo_intAt (F : Nat) (i1 : Int32) (t_line_f : Nat → Int32) : mm_Mo_intAt F i1 t_line_f =
  (mm_Mo_at F i1 t_line_f).bind fun x2 =>
  (mm_Mo_at F (i1 + 1) t_line_f).bind fun x12 =>
  (mm_Mo_at F (i1 + 2) t_line_f).bind fun x23 =>
  (mm_Mo_at F (i1 + 3) t_line_f).bind fun x34 =>
  some ((((x2 <<< (24 &&& 31)) ||| (x12 <<< (16 &&& 31))) ||| (x23 <<< (8 &&& 31))) ||| x34) := rfl
def mm_Mo_emit (F : Nat) (i1 : Int32) (t_many : Int32) (t_made_f : Nat → Int32) : Option (Int32 × (Nat → Int32)) :=
  (if t_many < 0 ∨ 300 ≤ t_many.toNatClampNeg then none else
  some (t_many + 1, upd t_made_f t_many.toNatClampNeg (i1 &&& 255)))
theorem mq_Mo_emit (F : Nat) (i1 : Int32) (t_many : Int32) (t_made_f : Nat → Int32) : mm_Mo_emit F i1 t_many t_made_f =
  (if t_many < 0 ∨ 300 ≤ t_many.toNatClampNeg then none else
  some (t_many + 1, upd t_made_f t_many.toNatClampNeg (i1 &&& 255))) := rfl
def mm_Mo_say (F : Nat) (i1 : Int32) (i2 : Int32) (t_many : Int32) (t_made_f : Nat → Int32) : Option (Int32 × (Nat → Int32)) :=
  (mm_Mo_emit F i1 0 t_made_f).bind fun x7 =>
  (mm_Mo_emit F i2 x7.1 x7.2).bind fun x12 =>
  some (x12.1, x12.2)
theorem mq_Mo_say (F : Nat) (i1 : Int32) (i2 : Int32) (t_many : Int32) (t_made_f : Nat → Int32) : mm_Mo_say F i1 i2 t_many t_made_f =
  (mm_Mo_emit F i1 0 t_made_f).bind fun x7 =>
  (mm_Mo_emit F i2 x7.1 x7.2).bind fun x12 =>
  some (x12.1, x12.2) := rfl
def mm_Mo_refuse (F : Nat) (i1 : Int32) (t_many : Int32) (t_made_f : Nat → Int32) : Option (Int32 × (Nat → Int32)) :=
  (mm_Mo_say F 196 1 t_many t_made_f).bind fun x5 =>
  (mm_Mo_emit F 1 x5.1 x5.2).bind fun x10 =>
  (mm_Mo_emit F i1 x10.1 x10.2).bind fun x15 =>
  some (x15.1, x15.2)
theorem mq_Mo_refuse (F : Nat) (i1 : Int32) (t_many : Int32) (t_made_f : Nat → Int32) : mm_Mo_refuse F i1 t_many t_made_f =
  (mm_Mo_say F 196 1 t_many t_made_f).bind fun x5 =>
  (mm_Mo_emit F 1 x5.1 x5.2).bind fun x10 =>
  (mm_Mo_emit F i1 x10.1 x10.2).bind fun x15 =>
  some (x15.1, x15.2) := rfl
def mm_Mo_block_L68 (F : Nat) : Nat → (Int32) → (Int32) → (Int32) → (Int32) → (Int32) → (Int32) → (Nat → Int32) → (Nat → Int32) → Option (Int32 × Int32 × Int32 × (Nat → Int32))
  | 0, _, _, _, _, _, _, _, _ => none
  | k + 1, v1, v3, v4, t_size, t_sent, t_many, t_bytes_f, t_made_f =>
    (if v3 ≤ v4 then
      (if v3 = v1 then
        some (0, t_sent, t_many, t_made_f)
      else
        some (v1, t_sent, t_many, t_made_f))
    else
      (if v4 < 0 ∨ 280 ≤ v4.toNatClampNeg then none else
      (mm_Mo_emit F (t_bytes_f v4.toNatClampNeg) t_many t_made_f).bind fun x82 =>
      mm_Mo_block_L68 F k v1 v3 (v4 + 1) t_size t_sent x82.1 t_bytes_f x82.2))
theorem mq_Mo_block_L68 (F : Nat) (k : Nat) (v1 : Int32) (v3 : Int32) (v4 : Int32) (t_size : Int32) (t_sent : Int32) (t_many : Int32) (t_bytes_f : Nat → Int32) (t_made_f : Nat → Int32) : mm_Mo_block_L68 F (k + 1) v1 v3 v4 t_size t_sent t_many t_bytes_f t_made_f =
    (if v3 ≤ v4 then
      (if v3 = v1 then
        some (0, t_sent, t_many, t_made_f)
      else
        some (v1, t_sent, t_many, t_made_f))
    else
      (if v4 < 0 ∨ 280 ≤ v4.toNatClampNeg then none else
      (mm_Mo_emit F (t_bytes_f v4.toNatClampNeg) t_many t_made_f).bind fun x82 =>
      mm_Mo_block_L68 F k v1 v3 (v4 + 1) t_size t_sent x82.1 t_bytes_f x82.2)) := rfl
def mm_Mo_block_J24 (F : Nat) (v1 : Int32) (v2 : Int32) (s0 : Int32) (t_size : Int32) (t_sent : Int32) (t_many : Int32) (t_bytes_f : Nat → Int32) (t_made_f : Nat → Int32) : Option (Int32 × Int32 × Int32 × (Nat → Int32)) :=
  (mm_Mo_say F 196 2 t_many t_made_f).bind fun x40 =>
  (if s0 = v1 then
    (mm_Mo_emit F 1 x40.1 x40.2).bind fun x54 =>
    (mm_Mo_emit F (t_sent + 1) x54.1 x54.2).bind fun x62 =>
    mm_Mo_block_L68 F F v1 s0 v2 t_size (t_sent + 1) x62.1 t_bytes_f x62.2
  else
    (mm_Mo_emit F 0 x40.1 x40.2).bind fun x54 =>
    (mm_Mo_emit F (t_sent + 1) x54.1 x54.2).bind fun x62 =>
    mm_Mo_block_L68 F F v1 s0 v2 t_size (t_sent + 1) x62.1 t_bytes_f x62.2)
theorem mq_Mo_block_J24 (F : Nat) (v1 : Int32) (v2 : Int32) (s0 : Int32) (t_size : Int32) (t_sent : Int32) (t_many : Int32) (t_bytes_f : Nat → Int32) (t_made_f : Nat → Int32) : mm_Mo_block_J24 F v1 v2 s0 t_size t_sent t_many t_bytes_f t_made_f =
  (mm_Mo_say F 196 2 t_many t_made_f).bind fun x40 =>
  (if s0 = v1 then
    (mm_Mo_emit F 1 x40.1 x40.2).bind fun x54 =>
    (mm_Mo_emit F (t_sent + 1) x54.1 x54.2).bind fun x62 =>
    mm_Mo_block_L68 F F v1 s0 v2 t_size (t_sent + 1) x62.1 t_bytes_f x62.2
  else
    (mm_Mo_emit F 0 x40.1 x40.2).bind fun x54 =>
    (mm_Mo_emit F (t_sent + 1) x54.1 x54.2).bind fun x62 =>
    mm_Mo_block_L68 F F v1 s0 v2 t_size (t_sent + 1) x62.1 t_bytes_f x62.2) := rfl
def mm_Mo_block (F : Nat) (i1 : Int32) (t_size : Int32) (t_sent : Int32) (t_many : Int32) (t_bytes_f : Nat → Int32) (t_made_f : Nat → Int32) : Option (Int32 × Int32 × Int32 × (Nat → Int32)) :=
  (if (i1 - (40 * t_sent)) ≤ 40 then
    mm_Mo_block_J24 F i1 (40 * t_sent) i1 t_size t_sent t_many t_bytes_f t_made_f
  else
    mm_Mo_block_J24 F i1 (40 * t_sent) ((40 * t_sent) + 40) t_size t_sent t_many t_bytes_f t_made_f)
theorem mq_Mo_block (F : Nat) (i1 : Int32) (t_size : Int32) (t_sent : Int32) (t_many : Int32) (t_bytes_f : Nat → Int32) (t_made_f : Nat → Int32) : mm_Mo_block F i1 t_size t_sent t_many t_bytes_f t_made_f =
  (if (i1 - (40 * t_sent)) ≤ 40 then
    mm_Mo_block_J24 F i1 (40 * t_sent) i1 t_size t_sent t_many t_bytes_f t_made_f
  else
    mm_Mo_block_J24 F i1 (40 * t_sent) ((40 * t_sent) + 40) t_size t_sent t_many t_bytes_f t_made_f) := rfl
def mm_Mo_more (F : Nat) (i1 : Int32) (t_size : Int32) (t_sent : Int32) (t_many : Int32) (t_bytes_f : Nat → Int32) (t_line_f : Nat → Int32) (t_made_f : Nat → Int32) : Option (Int32 × Int32 × Int32 × (Nat → Int32)) :=
  (if i1 = 0 then
    (mm_Mo_refuse F 16 t_many t_made_f).bind fun x7 =>
    some (t_size, t_sent, x7.1, x7.2)
  else
    (mm_Mo_at F 2 t_line_f).bind fun x15 =>
    (if x15 = t_sent then
      (mm_Mo_block F i1 t_size t_sent t_many t_bytes_f t_made_f).bind fun x36 =>
      some (x36.1, x36.2.1, x36.2.2.1, x36.2.2.2)
    else
      (mm_Mo_refuse F 19 t_many t_made_f).bind fun x28 =>
      some (t_size, t_sent, x28.1, x28.2)))
theorem mq_Mo_more (F : Nat) (i1 : Int32) (t_size : Int32) (t_sent : Int32) (t_many : Int32) (t_bytes_f : Nat → Int32) (t_line_f : Nat → Int32) (t_made_f : Nat → Int32) : mm_Mo_more F i1 t_size t_sent t_many t_bytes_f t_line_f t_made_f =
  (if i1 = 0 then
    (mm_Mo_refuse F 16 t_many t_made_f).bind fun x7 =>
    some (t_size, t_sent, x7.1, x7.2)
  else
    (mm_Mo_at F 2 t_line_f).bind fun x15 =>
    (if x15 = t_sent then
      (mm_Mo_block F i1 t_size t_sent t_many t_bytes_f t_made_f).bind fun x36 =>
      some (x36.1, x36.2.1, x36.2.2.1, x36.2.2.2)
    else
      (mm_Mo_refuse F 19 t_many t_made_f).bind fun x28 =>
      some (t_size, t_sent, x28.1, x28.2))) := rfl
def mm_Mo_isAttribute_J19 (F : Nat) (v0 : Int32) (v1 : Int32) : Option (Int32) :=
  (if v0 = 4 then
    (if v1 = 4 then
      some 1
    else
      (if v1 = 7 then
        some 1
      else
        (if v1 = 8 then
          some 1
        else
          some 0)))
  else
    some 0)
theorem mq_Mo_isAttribute_J19 (F : Nat) (v0 : Int32) (v1 : Int32) : mm_Mo_isAttribute_J19 F v0 v1 =
  (if v0 = 4 then
    (if v1 = 4 then
      some 1
    else
      (if v1 = 7 then
        some 1
      else
        (if v1 = 8 then
          some 1
        else
          some 0)))
  else
    some 0) := rfl
def mm_Mo_isAttribute (F : Nat) (i0 : Int32) (i1 : Int32) : Option (Int32) :=
  (if i1 = 1 then
    some 1
  else
    (if i1 = 2 then
      some 1
    else
      (if i1 = 3 then
        (if 0 < i0 then
          some 1
        else
          mm_Mo_isAttribute_J19 F i0 i1)
      else
        mm_Mo_isAttribute_J19 F i0 i1)))
theorem mq_Mo_isAttribute (F : Nat) (i0 : Int32) (i1 : Int32) : mm_Mo_isAttribute F i0 i1 =
  (if i1 = 1 then
    some 1
  else
    (if i1 = 2 then
      some 1
    else
      (if i1 = 3 then
        (if 0 < i0 then
          some 1
        else
          mm_Mo_isAttribute_J19 F i0 i1)
      else
        mm_Mo_isAttribute_J19 F i0 i1))) := rfl
def mm_Mo_emitInt_L7 (F : Nat) : Nat → (Int32) → (Int32) → (Int32) → (Nat → Int32) → Option (Int32 × (Nat → Int32))
  | 0, _, _, _, _ => none
  | k + 1, v2, v3, t_many, t_made_f =>
    (if v3 < 0 then
      some (t_many, t_made_f)
    else
      (mm_Mo_emit F (bs_ushr v2 (8 * v3)) t_many t_made_f).bind fun x18 =>
      mm_Mo_emitInt_L7 F k v2 (v3 + (-1)) x18.1 x18.2)
theorem mq_Mo_emitInt_L7 (F : Nat) (k : Nat) (v2 : Int32) (v3 : Int32) (t_many : Int32) (t_made_f : Nat → Int32) : mm_Mo_emitInt_L7 F (k + 1) v2 v3 t_many t_made_f =
    (if v3 < 0 then
      some (t_many, t_made_f)
    else
      (mm_Mo_emit F (bs_ushr v2 (8 * v3)) t_many t_made_f).bind fun x18 =>
      mm_Mo_emitInt_L7 F k v2 (v3 + (-1)) x18.1 x18.2) := rfl
def mm_Mo_emitInt (F : Nat) (i1 : Int32) (i2 : Int32) (t_many : Int32) (t_made_f : Nat → Int32) : Option (Int32 × (Nat → Int32)) :=
  (mm_Mo_emit F i1 t_many t_made_f).bind fun x2 =>
  mm_Mo_emitInt_L7 F F i2 3 x2.1 x2.2
theorem mq_Mo_emitInt (F : Nat) (i1 : Int32) (i2 : Int32) (t_many : Int32) (t_made_f : Nat → Int32) : mm_Mo_emitInt F i1 i2 t_many t_made_f =
  (mm_Mo_emit F i1 t_many t_made_f).bind fun x2 =>
  mm_Mo_emitInt_L7 F F i2 3 x2.1 x2.2 := rfl
def mm_Mo_isIn (F : Nat) (i1 : Int32) (i2 : Int32) (t_times_f : Nat → Int32) (t_line_f : Nat → Int32) : Option (Int32) :=
  (if i2 = 0 then
    some 1
  else
    (if i1 < 0 ∨ 13 ≤ i1.toNatClampNeg then none else
    (mm_Mo_intAt F 5 t_line_f).bind fun x17 =>
    (if (lg_cmp ((t_times_f i1.toNatClampNeg).toInt64) (x17.toInt64 &&& 4294967295)) < 0 then
      some 0
    else
      (mm_Mo_intAt F 9 t_line_f).bind fun x33 =>
      (if 0 < (lg_cmp ((t_times_f i1.toNatClampNeg).toInt64) (x33.toInt64 &&& 4294967295)) then
        some 0
      else
        some 1))))
theorem mq_Mo_isIn (F : Nat) (i1 : Int32) (i2 : Int32) (t_times_f : Nat → Int32) (t_line_f : Nat → Int32) : mm_Mo_isIn F i1 i2 t_times_f t_line_f =
  (if i2 = 0 then
    some 1
  else
    (if i1 < 0 ∨ 13 ≤ i1.toNatClampNeg then none else
    (mm_Mo_intAt F 5 t_line_f).bind fun x17 =>
    (if (lg_cmp ((t_times_f i1.toNatClampNeg).toInt64) (x17.toInt64 &&& 4294967295)) < 0 then
      some 0
    else
      (mm_Mo_intAt F 9 t_line_f).bind fun x33 =>
      (if 0 < (lg_cmp ((t_times_f i1.toNatClampNeg).toInt64) (x33.toInt64 &&& 4294967295)) then
        some 0
      else
        some 1)))) := rfl
def mm_Mo_emitEntries_L94 (F : Nat) : Nat → (Int32) → (Int32) → (Int32) → (Int32) → (Nat → Int32) → (Nat → Int32) → Option (Int32 × (Nat → Int32))
  | 0, _, _, _, _, _, _ => none
  | k + 1, v3, v4, t_columns, t_many, t_values_f, t_made_f =>
    (if t_columns ≤ v4 then
      some (t_many, t_made_f)
    else
      (if ((3 * v3) + v4) < 0 ∨ 39 ≤ ((3 * v3) + v4).toNatClampNeg then none else
      (mm_Mo_emitInt F 5 (t_values_f (((3 * v3) + v4).toNatClampNeg)) t_many t_made_f).bind fun x116 =>
      mm_Mo_emitEntries_L94 F k v3 (v4 + 1) t_columns x116.1 t_values_f x116.2))
theorem mq_Mo_emitEntries_L94 (F : Nat) (k : Nat) (v3 : Int32) (v4 : Int32) (t_columns : Int32) (t_many : Int32) (t_values_f : Nat → Int32) (t_made_f : Nat → Int32) : mm_Mo_emitEntries_L94 F (k + 1) v3 v4 t_columns t_many t_values_f t_made_f =
    (if t_columns ≤ v4 then
      some (t_many, t_made_f)
    else
      (if ((3 * v3) + v4) < 0 ∨ 39 ≤ ((3 * v3) + v4).toNatClampNeg then none else
      (mm_Mo_emitInt F 5 (t_values_f (((3 * v3) + v4).toNatClampNeg)) t_many t_made_f).bind fun x116 =>
      mm_Mo_emitEntries_L94 F k v3 (v4 + 1) t_columns x116.1 t_values_f x116.2)) := rfl
def mm_Mo_emitEntries_L47 (F : Nat) : Nat → (Int32) → (Int32) → (Int32) → (Int32) → (Int32) → (Nat → Int32) → (Nat → Int32) → (Nat → Int32) → (Nat → Int32) → Option (Int32 × (Nat → Int32))
  | 0, _, _, _, _, _, _, _, _, _ => none
  | k + 1, v1, v3, t_columns, t_entries, t_many, t_times_f, t_values_f, t_line_f, t_made_f =>
    (if t_entries ≤ v3 then
      some (t_many, t_made_f)
    else
      (mm_Mo_isIn F v3 v1 t_times_f t_line_f).bind fun x58 =>
      (if x58 = 0 then
        mm_Mo_emitEntries_L47 F k v1 (v3 + 1) t_columns t_entries t_many t_times_f t_values_f t_line_f t_made_f
      else
        (mm_Mo_emit F 2 t_many t_made_f).bind fun x66 =>
        (mm_Mo_emit F (t_columns + 1) x66.1 x66.2).bind fun x76 =>
        (if v3 < 0 ∨ 13 ≤ v3.toNatClampNeg then none else
        (mm_Mo_emitInt F 6 (t_times_f v3.toNatClampNeg) x76.1 x76.2).bind fun x88 =>
        (mm_Mo_emitEntries_L94 F F v3 0 t_columns x88.1 t_values_f x88.2).bind fun z94 =>
        mm_Mo_emitEntries_L47 F k v1 (v3 + 1) t_columns t_entries z94.1 t_times_f t_values_f t_line_f z94.2)))
theorem mq_Mo_emitEntries_L47 (F : Nat) (k : Nat) (v1 : Int32) (v3 : Int32) (t_columns : Int32) (t_entries : Int32) (t_many : Int32) (t_times_f : Nat → Int32) (t_values_f : Nat → Int32) (t_line_f : Nat → Int32) (t_made_f : Nat → Int32) : mm_Mo_emitEntries_L47 F (k + 1) v1 v3 t_columns t_entries t_many t_times_f t_values_f t_line_f t_made_f =
    (if t_entries ≤ v3 then
      some (t_many, t_made_f)
    else
      (mm_Mo_isIn F v3 v1 t_times_f t_line_f).bind fun x58 =>
      (if x58 = 0 then
        mm_Mo_emitEntries_L47 F k v1 (v3 + 1) t_columns t_entries t_many t_times_f t_values_f t_line_f t_made_f
      else
        (mm_Mo_emit F 2 t_many t_made_f).bind fun x66 =>
        (mm_Mo_emit F (t_columns + 1) x66.1 x66.2).bind fun x76 =>
        (if v3 < 0 ∨ 13 ≤ v3.toNatClampNeg then none else
        (mm_Mo_emitInt F 6 (t_times_f v3.toNatClampNeg) x76.1 x76.2).bind fun x88 =>
        (mm_Mo_emitEntries_L94 F F v3 0 t_columns x88.1 t_values_f x88.2).bind fun z94 =>
        mm_Mo_emitEntries_L47 F k v1 (v3 + 1) t_columns t_entries z94.1 t_times_f t_values_f t_line_f z94.2))) := rfl
def mm_Mo_emitEntries_L4 (F : Nat) : Nat → (Int32) → (Int32) → (Int32) → (Int32) → (Int32) → (Int32) → (Nat → Int32) → (Nat → Int32) → (Nat → Int32) → (Nat → Int32) → Option (Int32 × (Nat → Int32))
  | 0, _, _, _, _, _, _, _, _, _, _ => none
  | k + 1, v1, v2, v3, t_columns, t_entries, t_many, t_times_f, t_values_f, t_line_f, t_made_f =>
    (if t_entries ≤ v3 then
      (mm_Mo_emit F 1 t_many t_made_f).bind fun x37 =>
      (mm_Mo_emit F v2 x37.1 x37.2).bind fun x42 =>
      mm_Mo_emitEntries_L47 F F v1 0 t_columns t_entries x42.1 t_times_f t_values_f t_line_f x42.2
    else
      (mm_Mo_isIn F v3 v1 t_times_f t_line_f).bind fun x16 =>
      (if x16 = 0 then
        mm_Mo_emitEntries_L4 F k v1 (v2 + 0) (v3 + 1) t_columns t_entries t_many t_times_f t_values_f t_line_f t_made_f
      else
        mm_Mo_emitEntries_L4 F k v1 (v2 + 1) (v3 + 1) t_columns t_entries t_many t_times_f t_values_f t_line_f t_made_f))
theorem mq_Mo_emitEntries_L4 (F : Nat) (k : Nat) (v1 : Int32) (v2 : Int32) (v3 : Int32) (t_columns : Int32) (t_entries : Int32) (t_many : Int32) (t_times_f : Nat → Int32) (t_values_f : Nat → Int32) (t_line_f : Nat → Int32) (t_made_f : Nat → Int32) : mm_Mo_emitEntries_L4 F (k + 1) v1 v2 v3 t_columns t_entries t_many t_times_f t_values_f t_line_f t_made_f =
    (if t_entries ≤ v3 then
      (mm_Mo_emit F 1 t_many t_made_f).bind fun x37 =>
      (mm_Mo_emit F v2 x37.1 x37.2).bind fun x42 =>
      mm_Mo_emitEntries_L47 F F v1 0 t_columns t_entries x42.1 t_times_f t_values_f t_line_f x42.2
    else
      (mm_Mo_isIn F v3 v1 t_times_f t_line_f).bind fun x16 =>
      (if x16 = 0 then
        mm_Mo_emitEntries_L4 F k v1 (v2 + 0) (v3 + 1) t_columns t_entries t_many t_times_f t_values_f t_line_f t_made_f
      else
        mm_Mo_emitEntries_L4 F k v1 (v2 + 1) (v3 + 1) t_columns t_entries t_many t_times_f t_values_f t_line_f t_made_f)) := rfl
def mm_Mo_emitEntries (F : Nat) (i1 : Int32) (t_columns : Int32) (t_entries : Int32) (t_many : Int32) (t_times_f : Nat → Int32) (t_values_f : Nat → Int32) (t_line_f : Nat → Int32) (t_made_f : Nat → Int32) : Option (Int32 × (Nat → Int32)) :=
  mm_Mo_emitEntries_L4 F F i1 0 0 t_columns t_entries t_many t_times_f t_values_f t_line_f t_made_f
theorem mq_Mo_emitEntries (F : Nat) (i1 : Int32) (t_columns : Int32) (t_entries : Int32) (t_many : Int32) (t_times_f : Nat → Int32) (t_values_f : Nat → Int32) (t_line_f : Nat → Int32) (t_made_f : Nat → Int32) : mm_Mo_emitEntries F i1 t_columns t_entries t_many t_times_f t_values_f t_line_f t_made_f =
  mm_Mo_emitEntries_L4 F F i1 0 0 t_columns t_entries t_many t_times_f t_values_f t_line_f t_made_f := rfl
def mm_Mo_emitValue_L149 (F : Nat) : Nat → (Int32) → (Int32) → (Int32) → (Nat → Int32) → (Nat → Int32) → Option (Int32 × (Nat → Int32))
  | 0, _, _, _, _, _ => none
  | k + 1, v4, t_columns, t_many, t_column_f, t_made_f =>
    (if t_columns ≤ v4 then
      some (t_many, t_made_f)
    else
      (mm_Mo_emit F 17 t_many t_made_f).bind fun x161 =>
      (if v4 < 0 ∨ 3 ≤ v4.toNatClampNeg then none else
      (mm_Mo_emit F (t_column_f v4.toNatClampNeg) x161.1 x161.2).bind fun x172 =>
      mm_Mo_emitValue_L149 F k (v4 + 1) t_columns x172.1 t_column_f x172.2))
theorem mq_Mo_emitValue_L149 (F : Nat) (k : Nat) (v4 : Int32) (t_columns : Int32) (t_many : Int32) (t_column_f : Nat → Int32) (t_made_f : Nat → Int32) : mm_Mo_emitValue_L149 F (k + 1) v4 t_columns t_many t_column_f t_made_f =
    (if t_columns ≤ v4 then
      some (t_many, t_made_f)
    else
      (mm_Mo_emit F 17 t_many t_made_f).bind fun x161 =>
      (if v4 < 0 ∨ 3 ≤ v4.toNatClampNeg then none else
      (mm_Mo_emit F (t_column_f v4.toNatClampNeg) x161.1 x161.2).bind fun x172 =>
      mm_Mo_emitValue_L149 F k (v4 + 1) t_columns x172.1 t_column_f x172.2)) := rfl
def mm_Mo_emitValue_J70 (F : Nat) (v1 : Int32) (v2 : Int32) (v3 : Int32) (t_capacity : Int32) (t_period : Int32) (t_columns : Int32) (t_entries : Int32) (t_many : Int32) (t_column_f : Nat → Int32) (t_times_f : Nat → Int32) (t_values_f : Nat → Int32) (t_line_f : Nat → Int32) (t_made_f : Nat → Int32) : Option (Int32 × (Nat → Int32)) :=
  (if 4 ≤ v1 then
    (if v2 = 2 then
      (mm_Mo_emitEntries F v3 t_columns t_entries t_many t_times_f t_values_f t_line_f t_made_f).bind fun x122 =>
      some (x122.1, x122.2)
    else
      (if v2 = 3 then
        (mm_Mo_emit F 1 t_many t_made_f).bind fun x135 =>
        (mm_Mo_emit F t_columns x135.1 x135.2).bind fun x143 =>
        mm_Mo_emitValue_L149 F F 0 t_columns x143.1 t_column_f x143.2
      else
        (if v2 = 4 then
          (mm_Mo_emitInt F 6 t_period t_many t_made_f).bind fun x216 =>
          some (x216.1, x216.2)
        else
          (if v2 = 7 then
            (mm_Mo_emitInt F 6 t_entries t_many t_made_f).bind fun x216 =>
            some (x216.1, x216.2)
          else
            (mm_Mo_emitInt F 6 t_capacity t_many t_made_f).bind fun x216 =>
            some (x216.1, x216.2)))))
  else
    (mm_Mo_emit F 2 t_many t_made_f).bind fun x77 =>
    (mm_Mo_emit F 2 x77.1 x77.2).bind fun x82 =>
    (mm_Mo_emit F 15 x82.1 x82.2).bind fun x88 =>
    (mm_Mo_emit F (v1 - 2) x88.1 x88.2).bind fun x95 =>
    (mm_Mo_emit F 22 x95.1 x95.2).bind fun x101 =>
    (mm_Mo_emit F (27 + v1) x101.1 x101.2).bind fun x109 =>
    some (x109.1, x109.2))
theorem mq_Mo_emitValue_J70 (F : Nat) (v1 : Int32) (v2 : Int32) (v3 : Int32) (t_capacity : Int32) (t_period : Int32) (t_columns : Int32) (t_entries : Int32) (t_many : Int32) (t_column_f : Nat → Int32) (t_times_f : Nat → Int32) (t_values_f : Nat → Int32) (t_line_f : Nat → Int32) (t_made_f : Nat → Int32) : mm_Mo_emitValue_J70 F v1 v2 v3 t_capacity t_period t_columns t_entries t_many t_column_f t_times_f t_values_f t_line_f t_made_f =
  (if 4 ≤ v1 then
    (if v2 = 2 then
      (mm_Mo_emitEntries F v3 t_columns t_entries t_many t_times_f t_values_f t_line_f t_made_f).bind fun x122 =>
      some (x122.1, x122.2)
    else
      (if v2 = 3 then
        (mm_Mo_emit F 1 t_many t_made_f).bind fun x135 =>
        (mm_Mo_emit F t_columns x135.1 x135.2).bind fun x143 =>
        mm_Mo_emitValue_L149 F F 0 t_columns x143.1 t_column_f x143.2
      else
        (if v2 = 4 then
          (mm_Mo_emitInt F 6 t_period t_many t_made_f).bind fun x216 =>
          some (x216.1, x216.2)
        else
          (if v2 = 7 then
            (mm_Mo_emitInt F 6 t_entries t_many t_made_f).bind fun x216 =>
            some (x216.1, x216.2)
          else
            (mm_Mo_emitInt F 6 t_capacity t_many t_made_f).bind fun x216 =>
            some (x216.1, x216.2)))))
  else
    (mm_Mo_emit F 2 t_many t_made_f).bind fun x77 =>
    (mm_Mo_emit F 2 x77.1 x77.2).bind fun x82 =>
    (mm_Mo_emit F 15 x82.1 x82.2).bind fun x88 =>
    (mm_Mo_emit F (v1 - 2) x88.1 x88.2).bind fun x95 =>
    (mm_Mo_emit F 22 x95.1 x95.2).bind fun x101 =>
    (mm_Mo_emit F (27 + v1) x101.1 x101.2).bind fun x109 =>
    some (x109.1, x109.2)) := rfl
def mm_Mo_emitValue (F : Nat) (i1 : Int32) (i2 : Int32) (i3 : Int32) (t_time : Int32) (t_capacity : Int32) (t_period : Int32) (t_columns : Int32) (t_entries : Int32) (t_many : Int32) (t_registers_f : Nat → Int32) (t_column_f : Nat → Int32) (t_times_f : Nat → Int32) (t_values_f : Nat → Int32) (t_line_f : Nat → Int32) (t_made_f : Nat → Int32) : Option (Int32 × (Nat → Int32)) :=
  (if i2 = 1 then
    (mm_Mo_emit F 9 t_many t_made_f).bind fun x8 =>
    (mm_Mo_emit F 2 x8.1 x8.2).bind fun x13 =>
    (mm_Mo_emit F 1 x13.1 x13.2).bind fun x18 =>
    (mm_Mo_emit F i1 x18.1 x18.2).bind fun x23 =>
    some (x23.1, x23.2)
  else
    (if i1 = 0 then
      (mm_Mo_emitInt F 6 t_time t_many t_made_f).bind fun x40 =>
      some (x40.1, x40.2)
    else
      (if 4 ≤ i1 then
        mm_Mo_emitValue_J70 F i1 i2 i3 t_capacity t_period t_columns t_entries t_many t_column_f t_times_f t_values_f t_line_f t_made_f
      else
        (if i2 = 2 then
          (if i1 < 0 ∨ 4 ≤ i1.toNatClampNeg then none else
          (mm_Mo_emitInt F 5 (t_registers_f i1.toNatClampNeg) t_many t_made_f).bind fun x64 =>
          some (x64.1, x64.2))
        else
          mm_Mo_emitValue_J70 F i1 i2 i3 t_capacity t_period t_columns t_entries t_many t_column_f t_times_f t_values_f t_line_f t_made_f))))
theorem mq_Mo_emitValue (F : Nat) (i1 : Int32) (i2 : Int32) (i3 : Int32) (t_time : Int32) (t_capacity : Int32) (t_period : Int32) (t_columns : Int32) (t_entries : Int32) (t_many : Int32) (t_registers_f : Nat → Int32) (t_column_f : Nat → Int32) (t_times_f : Nat → Int32) (t_values_f : Nat → Int32) (t_line_f : Nat → Int32) (t_made_f : Nat → Int32) : mm_Mo_emitValue F i1 i2 i3 t_time t_capacity t_period t_columns t_entries t_many t_registers_f t_column_f t_times_f t_values_f t_line_f t_made_f =
  (if i2 = 1 then
    (mm_Mo_emit F 9 t_many t_made_f).bind fun x8 =>
    (mm_Mo_emit F 2 x8.1 x8.2).bind fun x13 =>
    (mm_Mo_emit F 1 x13.1 x13.2).bind fun x18 =>
    (mm_Mo_emit F i1 x18.1 x18.2).bind fun x23 =>
    some (x23.1, x23.2)
  else
    (if i1 = 0 then
      (mm_Mo_emitInt F 6 t_time t_many t_made_f).bind fun x40 =>
      some (x40.1, x40.2)
    else
      (if 4 ≤ i1 then
        mm_Mo_emitValue_J70 F i1 i2 i3 t_capacity t_period t_columns t_entries t_many t_column_f t_times_f t_values_f t_line_f t_made_f
      else
        (if i2 = 2 then
          (if i1 < 0 ∨ 4 ≤ i1.toNatClampNeg then none else
          (mm_Mo_emitInt F 5 (t_registers_f i1.toNatClampNeg) t_many t_made_f).bind fun x64 =>
          some (x64.1, x64.2))
        else
          mm_Mo_emitValue_J70 F i1 i2 i3 t_capacity t_period t_columns t_entries t_many t_column_f t_times_f t_values_f t_line_f t_made_f)))) := rfl
def mm_Mo_get_L139 (F : Nat) : Nat → (Int32) → (Int32) → (Int32) → (Int32) → (Int32) → (Nat → Int32) → (Nat → Int32) → Option (Int32 × Int32 × Int32 × (Nat → Int32) × (Nat → Int32))
  | 0, _, _, _, _, _, _, _ => none
  | k + 1, v5, v6, t_size, t_sent, t_many, t_bytes_f, t_made_f =>
    (if v5 ≤ v6 then
      some (t_size, t_sent, t_many, t_bytes_f, t_made_f)
    else
      (if v6 < 0 ∨ 280 ≤ v6.toNatClampNeg then none else
      (mm_Mo_emit F (t_bytes_f v6.toNatClampNeg) t_many t_made_f).bind fun x154 =>
      mm_Mo_get_L139 F k v5 (v6 + 1) t_size t_sent x154.1 t_bytes_f x154.2))
theorem mq_Mo_get_L139 (F : Nat) (k : Nat) (v5 : Int32) (v6 : Int32) (t_size : Int32) (t_sent : Int32) (t_many : Int32) (t_bytes_f : Nat → Int32) (t_made_f : Nat → Int32) : mm_Mo_get_L139 F (k + 1) v5 v6 t_size t_sent t_many t_bytes_f t_made_f =
    (if v5 ≤ v6 then
      some (t_size, t_sent, t_many, t_bytes_f, t_made_f)
    else
      (if v6 < 0 ∨ 280 ≤ v6.toNatClampNeg then none else
      (mm_Mo_emit F (t_bytes_f v6.toNatClampNeg) t_many t_made_f).bind fun x154 =>
      mm_Mo_get_L139 F k v5 (v6 + 1) t_size t_sent x154.1 t_bytes_f x154.2)) := rfl
def mm_Mo_get_L77 (F : Nat) : Nat → (Int32) → (Int32) → (Int32) → (Int32) → (Int32) → (Nat → Int32) → (Nat → Int32) → Option (Int32 × Int32 × Int32 × (Nat → Int32) × (Nat → Int32))
  | 0, _, _, _, _, _, _, _ => none
  | k + 1, v5, v6, t_size, t_sent, t_many, t_bytes_f, t_made_f =>
    (if v5 ≤ v6 then
      (if v5 ≤ 40 then
        (mm_Mo_say F 196 1 t_many t_made_f).bind fun x128 =>
        (mm_Mo_emit F 0 x128.1 x128.2).bind fun x133 =>
        mm_Mo_get_L139 F F v5 0 t_size 0 x133.1 t_bytes_f x133.2
      else
        (mm_Mo_block F v5 t_size 0 t_many t_bytes_f t_made_f).bind fun x119 =>
        some (x119.1, x119.2.1, x119.2.2.1, t_bytes_f, x119.2.2.2))
    else
      (if v6 < 0 ∨ 300 ≤ v6.toNatClampNeg then none else
      (if v6 < 0 ∨ 280 ≤ v6.toNatClampNeg then none else
      mm_Mo_get_L77 F k v5 (v6 + 1) t_size t_sent t_many (upd t_bytes_f v6.toNatClampNeg (t_made_f v6.toNatClampNeg)) t_made_f)))
theorem mq_Mo_get_L77 (F : Nat) (k : Nat) (v5 : Int32) (v6 : Int32) (t_size : Int32) (t_sent : Int32) (t_many : Int32) (t_bytes_f : Nat → Int32) (t_made_f : Nat → Int32) : mm_Mo_get_L77 F (k + 1) v5 v6 t_size t_sent t_many t_bytes_f t_made_f =
    (if v5 ≤ v6 then
      (if v5 ≤ 40 then
        (mm_Mo_say F 196 1 t_many t_made_f).bind fun x128 =>
        (mm_Mo_emit F 0 x128.1 x128.2).bind fun x133 =>
        mm_Mo_get_L139 F F v5 0 t_size 0 x133.1 t_bytes_f x133.2
      else
        (mm_Mo_block F v5 t_size 0 t_many t_bytes_f t_made_f).bind fun x119 =>
        some (x119.1, x119.2.1, x119.2.2.1, t_bytes_f, x119.2.2.2))
    else
      (if v6 < 0 ∨ 300 ≤ v6.toNatClampNeg then none else
      (if v6 < 0 ∨ 280 ≤ v6.toNatClampNeg then none else
      mm_Mo_get_L77 F k v5 (v6 + 1) t_size t_sent t_many (upd t_bytes_f v6.toNatClampNeg (t_made_f v6.toNatClampNeg)) t_made_f))) := rfl
def mm_Mo_get_J42 (F : Nat) (v1 : Int32) (v2 : Int32) (v3 : Int32) (s0 : Int32) (t_time : Int32) (t_capacity : Int32) (t_period : Int32) (t_columns : Int32) (t_entries : Int32) (t_size : Int32) (t_sent : Int32) (t_many : Int32) (t_registers_f : Nat → Int32) (t_column_f : Nat → Int32) (t_times_f : Nat → Int32) (t_values_f : Nat → Int32) (t_bytes_f : Nat → Int32) (t_line_f : Nat → Int32) (t_made_f : Nat → Int32) : Option (Int32 × Int32 × Int32 × (Nat → Int32) × (Nat → Int32)) :=
  (if s0 ≤ 0 then
    (mm_Mo_emitValue F v1 v2 v3 t_time t_capacity t_period t_columns t_entries 0 t_registers_f t_column_f t_times_f t_values_f t_line_f t_made_f).bind fun x65 =>
    mm_Mo_get_L77 F F x65.1 0 t_size t_sent x65.1 t_bytes_f x65.2
  else
    (mm_Mo_refuse F s0 t_many t_made_f).bind fun x52 =>
    some (t_size, t_sent, x52.1, t_bytes_f, x52.2))
theorem mq_Mo_get_J42 (F : Nat) (v1 : Int32) (v2 : Int32) (v3 : Int32) (s0 : Int32) (t_time : Int32) (t_capacity : Int32) (t_period : Int32) (t_columns : Int32) (t_entries : Int32) (t_size : Int32) (t_sent : Int32) (t_many : Int32) (t_registers_f : Nat → Int32) (t_column_f : Nat → Int32) (t_times_f : Nat → Int32) (t_values_f : Nat → Int32) (t_bytes_f : Nat → Int32) (t_line_f : Nat → Int32) (t_made_f : Nat → Int32) : mm_Mo_get_J42 F v1 v2 v3 s0 t_time t_capacity t_period t_columns t_entries t_size t_sent t_many t_registers_f t_column_f t_times_f t_values_f t_bytes_f t_line_f t_made_f =
  (if s0 ≤ 0 then
    (mm_Mo_emitValue F v1 v2 v3 t_time t_capacity t_period t_columns t_entries 0 t_registers_f t_column_f t_times_f t_values_f t_line_f t_made_f).bind fun x65 =>
    mm_Mo_get_L77 F F x65.1 0 t_size t_sent x65.1 t_bytes_f x65.2
  else
    (mm_Mo_refuse F s0 t_many t_made_f).bind fun x52 =>
    some (t_size, t_sent, x52.1, t_bytes_f, x52.2)) := rfl
def mm_Mo_get_J41 (F : Nat) (v1 : Int32) (v2 : Int32) (v3 : Int32) (t_time : Int32) (t_capacity : Int32) (t_period : Int32) (t_columns : Int32) (t_entries : Int32) (t_size : Int32) (t_sent : Int32) (t_many : Int32) (t_registers_f : Nat → Int32) (t_column_f : Nat → Int32) (t_times_f : Nat → Int32) (t_values_f : Nat → Int32) (t_bytes_f : Nat → Int32) (t_line_f : Nat → Int32) (t_made_f : Nat → Int32) : Option (Int32 × Int32 × Int32 × (Nat → Int32) × (Nat → Int32)) :=
  mm_Mo_get_J42 F v1 v2 v3 0 t_time t_capacity t_period t_columns t_entries t_size t_sent t_many t_registers_f t_column_f t_times_f t_values_f t_bytes_f t_line_f t_made_f
theorem mq_Mo_get_J41 (F : Nat) (v1 : Int32) (v2 : Int32) (v3 : Int32) (t_time : Int32) (t_capacity : Int32) (t_period : Int32) (t_columns : Int32) (t_entries : Int32) (t_size : Int32) (t_sent : Int32) (t_many : Int32) (t_registers_f : Nat → Int32) (t_column_f : Nat → Int32) (t_times_f : Nat → Int32) (t_values_f : Nat → Int32) (t_bytes_f : Nat → Int32) (t_line_f : Nat → Int32) (t_made_f : Nat → Int32) : mm_Mo_get_J41 F v1 v2 v3 t_time t_capacity t_period t_columns t_entries t_size t_sent t_many t_registers_f t_column_f t_times_f t_values_f t_bytes_f t_line_f t_made_f =
  mm_Mo_get_J42 F v1 v2 v3 0 t_time t_capacity t_period t_columns t_entries t_size t_sent t_many t_registers_f t_column_f t_times_f t_values_f t_bytes_f t_line_f t_made_f := rfl
def mm_Mo_get_J36 (F : Nat) (v1 : Int32) (v2 : Int32) (v3 : Int32) (t_time : Int32) (t_capacity : Int32) (t_period : Int32) (t_columns : Int32) (t_entries : Int32) (t_size : Int32) (t_sent : Int32) (t_many : Int32) (t_registers_f : Nat → Int32) (t_column_f : Nat → Int32) (t_times_f : Nat → Int32) (t_values_f : Nat → Int32) (t_bytes_f : Nat → Int32) (t_line_f : Nat → Int32) (t_made_f : Nat → Int32) : Option (Int32 × Int32 × Int32 × (Nat → Int32) × (Nat → Int32)) :=
  mm_Mo_get_J42 F v1 v2 v3 13 t_time t_capacity t_period t_columns t_entries t_size t_sent t_many t_registers_f t_column_f t_times_f t_values_f t_bytes_f t_line_f t_made_f
theorem mq_Mo_get_J36 (F : Nat) (v1 : Int32) (v2 : Int32) (v3 : Int32) (t_time : Int32) (t_capacity : Int32) (t_period : Int32) (t_columns : Int32) (t_entries : Int32) (t_size : Int32) (t_sent : Int32) (t_many : Int32) (t_registers_f : Nat → Int32) (t_column_f : Nat → Int32) (t_times_f : Nat → Int32) (t_values_f : Nat → Int32) (t_bytes_f : Nat → Int32) (t_line_f : Nat → Int32) (t_made_f : Nat → Int32) : mm_Mo_get_J36 F v1 v2 v3 t_time t_capacity t_period t_columns t_entries t_size t_sent t_many t_registers_f t_column_f t_times_f t_values_f t_bytes_f t_line_f t_made_f =
  mm_Mo_get_J42 F v1 v2 v3 13 t_time t_capacity t_period t_columns t_entries t_size t_sent t_many t_registers_f t_column_f t_times_f t_values_f t_bytes_f t_line_f t_made_f := rfl
def mm_Mo_get (F : Nat) (i1 : Int32) (i2 : Int32) (i3 : Int32) (t_time : Int32) (t_capacity : Int32) (t_period : Int32) (t_columns : Int32) (t_entries : Int32) (t_size : Int32) (t_sent : Int32) (t_many : Int32) (t_registers_f : Nat → Int32) (t_column_f : Nat → Int32) (t_times_f : Nat → Int32) (t_values_f : Nat → Int32) (t_bytes_f : Nat → Int32) (t_line_f : Nat → Int32) (t_made_f : Nat → Int32) : Option (Int32 × Int32 × Int32 × (Nat → Int32) × (Nat → Int32)) :=
  (if i1 ≤ 4 then
    (mm_Mo_isAttribute F i1 i2).bind fun x11 =>
    (if x11 = 0 then
      mm_Mo_get_J42 F i1 i2 i3 9 t_time t_capacity t_period t_columns t_entries t_size t_sent t_many t_registers_f t_column_f t_times_f t_values_f t_bytes_f t_line_f t_made_f
    else
      (if i3 = 0 then
        mm_Mo_get_J41 F i1 i2 i3 t_time t_capacity t_period t_columns t_entries t_size t_sent t_many t_registers_f t_column_f t_times_f t_values_f t_bytes_f t_line_f t_made_f
      else
        (if i1 = 4 then
          (if i2 = 2 then
            mm_Mo_get_J41 F i1 i2 i3 t_time t_capacity t_period t_columns t_entries t_size t_sent t_many t_registers_f t_column_f t_times_f t_values_f t_bytes_f t_line_f t_made_f
          else
            mm_Mo_get_J36 F i1 i2 i3 t_time t_capacity t_period t_columns t_entries t_size t_sent t_many t_registers_f t_column_f t_times_f t_values_f t_bytes_f t_line_f t_made_f)
        else
          mm_Mo_get_J36 F i1 i2 i3 t_time t_capacity t_period t_columns t_entries t_size t_sent t_many t_registers_f t_column_f t_times_f t_values_f t_bytes_f t_line_f t_made_f)))
  else
    mm_Mo_get_J42 F i1 i2 i3 4 t_time t_capacity t_period t_columns t_entries t_size t_sent t_many t_registers_f t_column_f t_times_f t_values_f t_bytes_f t_line_f t_made_f)
theorem mq_Mo_get (F : Nat) (i1 : Int32) (i2 : Int32) (i3 : Int32) (t_time : Int32) (t_capacity : Int32) (t_period : Int32) (t_columns : Int32) (t_entries : Int32) (t_size : Int32) (t_sent : Int32) (t_many : Int32) (t_registers_f : Nat → Int32) (t_column_f : Nat → Int32) (t_times_f : Nat → Int32) (t_values_f : Nat → Int32) (t_bytes_f : Nat → Int32) (t_line_f : Nat → Int32) (t_made_f : Nat → Int32) : mm_Mo_get F i1 i2 i3 t_time t_capacity t_period t_columns t_entries t_size t_sent t_many t_registers_f t_column_f t_times_f t_values_f t_bytes_f t_line_f t_made_f =
  (if i1 ≤ 4 then
    (mm_Mo_isAttribute F i1 i2).bind fun x11 =>
    (if x11 = 0 then
      mm_Mo_get_J42 F i1 i2 i3 9 t_time t_capacity t_period t_columns t_entries t_size t_sent t_many t_registers_f t_column_f t_times_f t_values_f t_bytes_f t_line_f t_made_f
    else
      (if i3 = 0 then
        mm_Mo_get_J41 F i1 i2 i3 t_time t_capacity t_period t_columns t_entries t_size t_sent t_many t_registers_f t_column_f t_times_f t_values_f t_bytes_f t_line_f t_made_f
      else
        (if i1 = 4 then
          (if i2 = 2 then
            mm_Mo_get_J41 F i1 i2 i3 t_time t_capacity t_period t_columns t_entries t_size t_sent t_many t_registers_f t_column_f t_times_f t_values_f t_bytes_f t_line_f t_made_f
          else
            mm_Mo_get_J36 F i1 i2 i3 t_time t_capacity t_period t_columns t_entries t_size t_sent t_many t_registers_f t_column_f t_times_f t_values_f t_bytes_f t_line_f t_made_f)
        else
          mm_Mo_get_J36 F i1 i2 i3 t_time t_capacity t_period t_columns t_entries t_size t_sent t_many t_registers_f t_column_f t_times_f t_values_f t_bytes_f t_line_f t_made_f)))
  else
    mm_Mo_get_J42 F i1 i2 i3 4 t_time t_capacity t_period t_columns t_entries t_size t_sent t_many t_registers_f t_column_f t_times_f t_values_f t_bytes_f t_line_f t_made_f) := rfl
def mm_Mo_setColumns_L127 (F : Nat) : Nat → (Int32) → (Int32) → (Int32) → (Int32) → (Nat → Int32) → (Nat → Int32) → Option (Int32 × Int32 × Int32 × (Nat → Int32))
  | 0, _, _, _, _, _, _ => none
  | k + 1, v2, v4, t_columns, t_entries, t_column_f, t_line_f =>
    (if v2 ≤ v4 then
      some (0, v2, 0, t_column_f)
    else
      (mm_Mo_at F (6 + (2 * v4)) t_line_f).bind fun x147 =>
      (if v4 < 0 ∨ 3 ≤ v4.toNatClampNeg then none else
      mm_Mo_setColumns_L127 F k v2 (v4 + 1) t_columns t_entries (upd t_column_f v4.toNatClampNeg x147) t_line_f))
theorem mq_Mo_setColumns_L127 (F : Nat) (k : Nat) (v2 : Int32) (v4 : Int32) (t_columns : Int32) (t_entries : Int32) (t_column_f : Nat → Int32) (t_line_f : Nat → Int32) : mm_Mo_setColumns_L127 F (k + 1) v2 v4 t_columns t_entries t_column_f t_line_f =
    (if v2 ≤ v4 then
      some (0, v2, 0, t_column_f)
    else
      (mm_Mo_at F (6 + (2 * v4)) t_line_f).bind fun x147 =>
      (if v4 < 0 ∨ 3 ≤ v4.toNatClampNeg then none else
      mm_Mo_setColumns_L127 F k v2 (v4 + 1) t_columns t_entries (upd t_column_f v4.toNatClampNeg x147) t_line_f)) := rfl
def mm_Mo_setColumns_L56 (F : Nat) : Nat → (Int32) → (Int32) → (Int32) → (Int32) → (Int32) → (Nat → Int32) → (Nat → Int32) → Option (Int32 × Int32 × Int32 × (Nat → Int32))
  | 0, _, _, _, _, _, _, _ => none
  | k + 1, v2, v3, v4, t_columns, t_entries, t_column_f, t_line_f =>
    (if v2 ≤ v4 then
      mm_Mo_setColumns_L127 F F v2 0 t_columns t_entries t_column_f t_line_f
    else
      (mm_Mo_at F (6 + (2 * v4)) t_line_f).bind fun x70 =>
      (mm_Mo_at F (5 + (2 * v4)) t_line_f).bind fun x82 =>
      (if x82 = 17 then
        (mm_Mo_isRegister F x70).bind fun x92 =>
        (if x92 = 0 then
          some (12, t_columns, t_entries, t_column_f)
        else
          (if ((v3 >>> (x70 &&& 31)) &&& 1) = 1 then
            some (12, t_columns, t_entries, t_column_f)
          else
            mm_Mo_setColumns_L56 F k v2 (v3 ||| (1 <<< (x70 &&& 31))) (v4 + 1) t_columns t_entries t_column_f t_line_f))
      else
        some (12, t_columns, t_entries, t_column_f)))
theorem mq_Mo_setColumns_L56 (F : Nat) (k : Nat) (v2 : Int32) (v3 : Int32) (v4 : Int32) (t_columns : Int32) (t_entries : Int32) (t_column_f : Nat → Int32) (t_line_f : Nat → Int32) : mm_Mo_setColumns_L56 F (k + 1) v2 v3 v4 t_columns t_entries t_column_f t_line_f =
    (if v2 ≤ v4 then
      mm_Mo_setColumns_L127 F F v2 0 t_columns t_entries t_column_f t_line_f
    else
      (mm_Mo_at F (6 + (2 * v4)) t_line_f).bind fun x70 =>
      (mm_Mo_at F (5 + (2 * v4)) t_line_f).bind fun x82 =>
      (if x82 = 17 then
        (mm_Mo_isRegister F x70).bind fun x92 =>
        (if x92 = 0 then
          some (12, t_columns, t_entries, t_column_f)
        else
          (if ((v3 >>> (x70 &&& 31)) &&& 1) = 1 then
            some (12, t_columns, t_entries, t_column_f)
          else
            mm_Mo_setColumns_L56 F k v2 (v3 ||| (1 <<< (x70 &&& 31))) (v4 + 1) t_columns t_entries t_column_f t_line_f))
      else
        some (12, t_columns, t_entries, t_column_f))) := rfl
def mm_Mo_setColumns_J14 (F : Nat) (v1 : Int32) (s0 : Int32) (t_columns : Int32) (t_entries : Int32) (t_column_f : Nat → Int32) (t_line_f : Nat → Int32) : Option (Int32 × Int32 × Int32 × (Nat → Int32)) :=
  (if v1 < 2 then
    some (12, t_columns, t_entries, t_column_f)
  else
    (mm_Mo_at F 3 t_line_f).bind fun x22 =>
    (if x22 = 1 then
      (if s0 < 1 then
        some (12, t_columns, t_entries, t_column_f)
      else
        (if 3 < s0 then
          some (12, t_columns, t_entries, t_column_f)
        else
          (if v1 = (2 + (2 * s0)) then
            mm_Mo_setColumns_L56 F F s0 0 0 t_columns t_entries t_column_f t_line_f
          else
            some (12, t_columns, t_entries, t_column_f))))
    else
      some (12, t_columns, t_entries, t_column_f)))
theorem mq_Mo_setColumns_J14 (F : Nat) (v1 : Int32) (s0 : Int32) (t_columns : Int32) (t_entries : Int32) (t_column_f : Nat → Int32) (t_line_f : Nat → Int32) : mm_Mo_setColumns_J14 F v1 s0 t_columns t_entries t_column_f t_line_f =
  (if v1 < 2 then
    some (12, t_columns, t_entries, t_column_f)
  else
    (mm_Mo_at F 3 t_line_f).bind fun x22 =>
    (if x22 = 1 then
      (if s0 < 1 then
        some (12, t_columns, t_entries, t_column_f)
      else
        (if 3 < s0 then
          some (12, t_columns, t_entries, t_column_f)
        else
          (if v1 = (2 + (2 * s0)) then
            mm_Mo_setColumns_L56 F F s0 0 0 t_columns t_entries t_column_f t_line_f
          else
            some (12, t_columns, t_entries, t_column_f))))
    else
      some (12, t_columns, t_entries, t_column_f))) := rfl
def mm_Mo_setColumns (F : Nat) (i1 : Int32) (t_columns : Int32) (t_entries : Int32) (t_column_f : Nat → Int32) (t_line_f : Nat → Int32) : Option (Int32 × Int32 × Int32 × (Nat → Int32)) :=
  (if 2 ≤ i1 then
    (mm_Mo_at F 4 t_line_f).bind fun x11 =>
    mm_Mo_setColumns_J14 F i1 x11 t_columns t_entries t_column_f t_line_f
  else
    mm_Mo_setColumns_J14 F i1 0 t_columns t_entries t_column_f t_line_f)
theorem mq_Mo_setColumns (F : Nat) (i1 : Int32) (t_columns : Int32) (t_entries : Int32) (t_column_f : Nat → Int32) (t_line_f : Nat → Int32) : mm_Mo_setColumns F i1 t_columns t_entries t_column_f t_line_f =
  (if 2 ≤ i1 then
    (mm_Mo_at F 4 t_line_f).bind fun x11 =>
    mm_Mo_setColumns_J14 F i1 x11 t_columns t_entries t_column_f t_line_f
  else
    mm_Mo_setColumns_J14 F i1 0 t_columns t_entries t_column_f t_line_f) := rfl
def mm_Mo_set_J207 (F : Nat) (v1 : Int32) (v2 : Int32) (t_time : Int32) (t_capacity : Int32) (t_period : Int32) (t_columns : Int32) (t_entries : Int32) (t_registers_f : Nat → Int32) (t_column_f : Nat → Int32) : Option (Int32 × Int32 × Int32 × Int32 × Int32 × Int32 × (Nat → Int32) × (Nat → Int32)) :=
  (if v1 = 4 then
    (if v2 = 8 then
      some (0, t_time, t_capacity, t_period, t_columns, 0, t_registers_f, t_column_f)
    else
      some (0, t_time, t_capacity, t_period, t_columns, t_entries, t_registers_f, t_column_f))
  else
    some (0, t_time, t_capacity, t_period, t_columns, t_entries, t_registers_f, t_column_f))
theorem mq_Mo_set_J207 (F : Nat) (v1 : Int32) (v2 : Int32) (t_time : Int32) (t_capacity : Int32) (t_period : Int32) (t_columns : Int32) (t_entries : Int32) (t_registers_f : Nat → Int32) (t_column_f : Nat → Int32) : mm_Mo_set_J207 F v1 v2 t_time t_capacity t_period t_columns t_entries t_registers_f t_column_f =
  (if v1 = 4 then
    (if v2 = 8 then
      some (0, t_time, t_capacity, t_period, t_columns, 0, t_registers_f, t_column_f)
    else
      some (0, t_time, t_capacity, t_period, t_columns, t_entries, t_registers_f, t_column_f))
  else
    some (0, t_time, t_capacity, t_period, t_columns, t_entries, t_registers_f, t_column_f)) := rfl
def mm_Mo_set_J174 (F : Nat) (v1 : Int32) (v2 : Int32) (v5 : Int32) (t_time : Int32) (t_capacity : Int32) (t_period : Int32) (t_columns : Int32) (t_entries : Int32) (t_registers_f : Nat → Int32) (t_column_f : Nat → Int32) : Option (Int32 × Int32 × Int32 × Int32 × Int32 × Int32 × (Nat → Int32) × (Nat → Int32)) :=
  (if v1 = 0 then
    mm_Mo_set_J207 F v1 v2 v5 t_capacity t_period t_columns t_entries t_registers_f t_column_f
  else
    (if v2 = 4 then
      mm_Mo_set_J207 F v1 v2 t_time t_capacity v5 t_columns t_entries t_registers_f t_column_f
    else
      mm_Mo_set_J207 F v1 v2 t_time v5 t_period t_columns t_entries t_registers_f t_column_f))
theorem mq_Mo_set_J174 (F : Nat) (v1 : Int32) (v2 : Int32) (v5 : Int32) (t_time : Int32) (t_capacity : Int32) (t_period : Int32) (t_columns : Int32) (t_entries : Int32) (t_registers_f : Nat → Int32) (t_column_f : Nat → Int32) : mm_Mo_set_J174 F v1 v2 v5 t_time t_capacity t_period t_columns t_entries t_registers_f t_column_f =
  (if v1 = 0 then
    mm_Mo_set_J207 F v1 v2 v5 t_capacity t_period t_columns t_entries t_registers_f t_column_f
  else
    (if v2 = 4 then
      mm_Mo_set_J207 F v1 v2 t_time t_capacity v5 t_columns t_entries t_registers_f t_column_f
    else
      mm_Mo_set_J207 F v1 v2 t_time v5 t_period t_columns t_entries t_registers_f t_column_f)) := rfl
def mm_Mo_set_J147 (F : Nat) (v1 : Int32) (v2 : Int32) (v5 : Int32) (t_time : Int32) (t_capacity : Int32) (t_period : Int32) (t_columns : Int32) (t_entries : Int32) (t_registers_f : Nat → Int32) (t_column_f : Nat → Int32) : Option (Int32 × Int32 × Int32 × Int32 × Int32 × Int32 × (Nat → Int32) × (Nat → Int32)) :=
  (if v5 < 0 then
    some (12, t_time, t_capacity, t_period, t_columns, t_entries, t_registers_f, t_column_f)
  else
    (if v2 = 8 then
      (if v5 < 1 then
        some (12, t_time, t_capacity, t_period, t_columns, t_entries, t_registers_f, t_column_f)
      else
        (if v5 ≤ 12 then
          mm_Mo_set_J174 F v1 v2 v5 t_time t_capacity t_period t_columns t_entries t_registers_f t_column_f
        else
          some (12, t_time, t_capacity, t_period, t_columns, t_entries, t_registers_f, t_column_f)))
    else
      mm_Mo_set_J174 F v1 v2 v5 t_time t_capacity t_period t_columns t_entries t_registers_f t_column_f))
theorem mq_Mo_set_J147 (F : Nat) (v1 : Int32) (v2 : Int32) (v5 : Int32) (t_time : Int32) (t_capacity : Int32) (t_period : Int32) (t_columns : Int32) (t_entries : Int32) (t_registers_f : Nat → Int32) (t_column_f : Nat → Int32) : mm_Mo_set_J147 F v1 v2 v5 t_time t_capacity t_period t_columns t_entries t_registers_f t_column_f =
  (if v5 < 0 then
    some (12, t_time, t_capacity, t_period, t_columns, t_entries, t_registers_f, t_column_f)
  else
    (if v2 = 8 then
      (if v5 < 1 then
        some (12, t_time, t_capacity, t_period, t_columns, t_entries, t_registers_f, t_column_f)
      else
        (if v5 ≤ 12 then
          mm_Mo_set_J174 F v1 v2 v5 t_time t_capacity t_period t_columns t_entries t_registers_f t_column_f
        else
          some (12, t_time, t_capacity, t_period, t_columns, t_entries, t_registers_f, t_column_f)))
    else
      mm_Mo_set_J174 F v1 v2 v5 t_time t_capacity t_period t_columns t_entries t_registers_f t_column_f)) := rfl
def mm_Mo_set_J115 (F : Nat) (v1 : Int32) (v2 : Int32) (s0 : Int32) (s1 : Int32) (t_time : Int32) (t_capacity : Int32) (t_period : Int32) (t_columns : Int32) (t_entries : Int32) (t_registers_f : Nat → Int32) (t_column_f : Nat → Int32) (t_line_f : Nat → Int32) : Option (Int32 × Int32 × Int32 × Int32 × Int32 × Int32 × (Nat → Int32) × (Nat → Int32)) :=
  (if s1 = s0 then
    (mm_Mo_intAt F 4 t_line_f).bind fun x123 =>
    (if v1 ≤ 0 then
      mm_Mo_set_J147 F v1 v2 x123 t_time t_capacity t_period t_columns t_entries t_registers_f t_column_f
    else
      (if 4 ≤ v1 then
        mm_Mo_set_J147 F v1 v2 x123 t_time t_capacity t_period t_columns t_entries t_registers_f t_column_f
      else
        (if v1 < 0 ∨ 4 ≤ v1.toNatClampNeg then none else
        some (0, t_time, t_capacity, t_period, t_columns, t_entries, upd t_registers_f v1.toNatClampNeg x123, t_column_f))))
  else
    some (12, t_time, t_capacity, t_period, t_columns, t_entries, t_registers_f, t_column_f))
theorem mq_Mo_set_J115 (F : Nat) (v1 : Int32) (v2 : Int32) (s0 : Int32) (s1 : Int32) (t_time : Int32) (t_capacity : Int32) (t_period : Int32) (t_columns : Int32) (t_entries : Int32) (t_registers_f : Nat → Int32) (t_column_f : Nat → Int32) (t_line_f : Nat → Int32) : mm_Mo_set_J115 F v1 v2 s0 s1 t_time t_capacity t_period t_columns t_entries t_registers_f t_column_f t_line_f =
  (if s1 = s0 then
    (mm_Mo_intAt F 4 t_line_f).bind fun x123 =>
    (if v1 ≤ 0 then
      mm_Mo_set_J147 F v1 v2 x123 t_time t_capacity t_period t_columns t_entries t_registers_f t_column_f
    else
      (if 4 ≤ v1 then
        mm_Mo_set_J147 F v1 v2 x123 t_time t_capacity t_period t_columns t_entries t_registers_f t_column_f
      else
        (if v1 < 0 ∨ 4 ≤ v1.toNatClampNeg then none else
        some (0, t_time, t_capacity, t_period, t_columns, t_entries, upd t_registers_f v1.toNatClampNeg x123, t_column_f))))
  else
    some (12, t_time, t_capacity, t_period, t_columns, t_entries, t_registers_f, t_column_f)) := rfl
def mm_Mo_set_J113 (F : Nat) (v1 : Int32) (v2 : Int32) (s0 : Int32) (t_time : Int32) (t_capacity : Int32) (t_period : Int32) (t_columns : Int32) (t_entries : Int32) (t_registers_f : Nat → Int32) (t_column_f : Nat → Int32) (t_line_f : Nat → Int32) : Option (Int32 × Int32 × Int32 × Int32 × Int32 × Int32 × (Nat → Int32) × (Nat → Int32)) :=
  mm_Mo_set_J115 F v1 v2 6 s0 t_time t_capacity t_period t_columns t_entries t_registers_f t_column_f t_line_f
theorem mq_Mo_set_J113 (F : Nat) (v1 : Int32) (v2 : Int32) (s0 : Int32) (t_time : Int32) (t_capacity : Int32) (t_period : Int32) (t_columns : Int32) (t_entries : Int32) (t_registers_f : Nat → Int32) (t_column_f : Nat → Int32) (t_line_f : Nat → Int32) : mm_Mo_set_J113 F v1 v2 s0 t_time t_capacity t_period t_columns t_entries t_registers_f t_column_f t_line_f =
  mm_Mo_set_J115 F v1 v2 6 s0 t_time t_capacity t_period t_columns t_entries t_registers_f t_column_f t_line_f := rfl
def mm_Mo_set_J90 (F : Nat) (v1 : Int32) (v2 : Int32) (v3 : Int32) (t_time : Int32) (t_capacity : Int32) (t_period : Int32) (t_columns : Int32) (t_entries : Int32) (t_registers_f : Nat → Int32) (t_column_f : Nat → Int32) (t_line_f : Nat → Int32) : Option (Int32 × Int32 × Int32 × Int32 × Int32 × Int32 × (Nat → Int32) × (Nat → Int32)) :=
  (if v3 = 5 then
    (mm_Mo_at F 3 t_line_f).bind fun x97 =>
    (if v1 ≤ 0 then
      mm_Mo_set_J113 F v1 v2 x97 t_time t_capacity t_period t_columns t_entries t_registers_f t_column_f t_line_f
    else
      (if 4 ≤ v1 then
        mm_Mo_set_J113 F v1 v2 x97 t_time t_capacity t_period t_columns t_entries t_registers_f t_column_f t_line_f
      else
        mm_Mo_set_J115 F v1 v2 5 x97 t_time t_capacity t_period t_columns t_entries t_registers_f t_column_f t_line_f))
  else
    some (12, t_time, t_capacity, t_period, t_columns, t_entries, t_registers_f, t_column_f))
theorem mq_Mo_set_J90 (F : Nat) (v1 : Int32) (v2 : Int32) (v3 : Int32) (t_time : Int32) (t_capacity : Int32) (t_period : Int32) (t_columns : Int32) (t_entries : Int32) (t_registers_f : Nat → Int32) (t_column_f : Nat → Int32) (t_line_f : Nat → Int32) : mm_Mo_set_J90 F v1 v2 v3 t_time t_capacity t_period t_columns t_entries t_registers_f t_column_f t_line_f =
  (if v3 = 5 then
    (mm_Mo_at F 3 t_line_f).bind fun x97 =>
    (if v1 ≤ 0 then
      mm_Mo_set_J113 F v1 v2 x97 t_time t_capacity t_period t_columns t_entries t_registers_f t_column_f t_line_f
    else
      (if 4 ≤ v1 then
        mm_Mo_set_J113 F v1 v2 x97 t_time t_capacity t_period t_columns t_entries t_registers_f t_column_f t_line_f
      else
        mm_Mo_set_J115 F v1 v2 5 x97 t_time t_capacity t_period t_columns t_entries t_registers_f t_column_f t_line_f))
  else
    some (12, t_time, t_capacity, t_period, t_columns, t_entries, t_registers_f, t_column_f)) := rfl
def mm_Mo_set_J57 (F : Nat) (v1 : Int32) (v2 : Int32) (v3 : Int32) (s0 : Int32) (t_time : Int32) (t_capacity : Int32) (t_period : Int32) (t_columns : Int32) (t_entries : Int32) (t_association : Int32) (t_registers_f : Nat → Int32) (t_column_f : Nat → Int32) (t_line_f : Nat → Int32) : Option (Int32 × Int32 × Int32 × Int32 × Int32 × Int32 × (Nat → Int32) × (Nat → Int32)) :=
  (if t_association = 2 then
    (if s0 = 0 then
      some (3, t_time, t_capacity, t_period, t_columns, t_entries, t_registers_f, t_column_f)
    else
      (if v1 = 4 then
        (if v2 = 3 then
          (mm_Mo_setColumns F v3 t_columns t_entries t_column_f t_line_f).bind fun x86 =>
          some (x86.1, t_time, t_capacity, t_period, x86.2.1, x86.2.2.1, t_registers_f, x86.2.2.2)
        else
          mm_Mo_set_J90 F v1 v2 v3 t_time t_capacity t_period t_columns t_entries t_registers_f t_column_f t_line_f)
      else
        mm_Mo_set_J90 F v1 v2 v3 t_time t_capacity t_period t_columns t_entries t_registers_f t_column_f t_line_f))
  else
    some (3, t_time, t_capacity, t_period, t_columns, t_entries, t_registers_f, t_column_f))
theorem mq_Mo_set_J57 (F : Nat) (v1 : Int32) (v2 : Int32) (v3 : Int32) (s0 : Int32) (t_time : Int32) (t_capacity : Int32) (t_period : Int32) (t_columns : Int32) (t_entries : Int32) (t_association : Int32) (t_registers_f : Nat → Int32) (t_column_f : Nat → Int32) (t_line_f : Nat → Int32) : mm_Mo_set_J57 F v1 v2 v3 s0 t_time t_capacity t_period t_columns t_entries t_association t_registers_f t_column_f t_line_f =
  (if t_association = 2 then
    (if s0 = 0 then
      some (3, t_time, t_capacity, t_period, t_columns, t_entries, t_registers_f, t_column_f)
    else
      (if v1 = 4 then
        (if v2 = 3 then
          (mm_Mo_setColumns F v3 t_columns t_entries t_column_f t_line_f).bind fun x86 =>
          some (x86.1, t_time, t_capacity, t_period, x86.2.1, x86.2.2.1, t_registers_f, x86.2.2.2)
        else
          mm_Mo_set_J90 F v1 v2 v3 t_time t_capacity t_period t_columns t_entries t_registers_f t_column_f t_line_f)
      else
        mm_Mo_set_J90 F v1 v2 v3 t_time t_capacity t_period t_columns t_entries t_registers_f t_column_f t_line_f))
  else
    some (3, t_time, t_capacity, t_period, t_columns, t_entries, t_registers_f, t_column_f)) := rfl
def mm_Mo_set_J52 (F : Nat) (v1 : Int32) (v2 : Int32) (v3 : Int32) (t_time : Int32) (t_capacity : Int32) (t_period : Int32) (t_columns : Int32) (t_entries : Int32) (t_association : Int32) (t_registers_f : Nat → Int32) (t_column_f : Nat → Int32) (t_line_f : Nat → Int32) : Option (Int32 × Int32 × Int32 × Int32 × Int32 × Int32 × (Nat → Int32) × (Nat → Int32)) :=
  mm_Mo_set_J57 F v1 v2 v3 1 t_time t_capacity t_period t_columns t_entries t_association t_registers_f t_column_f t_line_f
theorem mq_Mo_set_J52 (F : Nat) (v1 : Int32) (v2 : Int32) (v3 : Int32) (t_time : Int32) (t_capacity : Int32) (t_period : Int32) (t_columns : Int32) (t_entries : Int32) (t_association : Int32) (t_registers_f : Nat → Int32) (t_column_f : Nat → Int32) (t_line_f : Nat → Int32) : mm_Mo_set_J52 F v1 v2 v3 t_time t_capacity t_period t_columns t_entries t_association t_registers_f t_column_f t_line_f =
  mm_Mo_set_J57 F v1 v2 v3 1 t_time t_capacity t_period t_columns t_entries t_association t_registers_f t_column_f t_line_f := rfl
def mm_Mo_set (F : Nat) (i1 : Int32) (i2 : Int32) (i3 : Int32) (t_time : Int32) (t_capacity : Int32) (t_period : Int32) (t_columns : Int32) (t_entries : Int32) (t_association : Int32) (t_registers_f : Nat → Int32) (t_column_f : Nat → Int32) (t_line_f : Nat → Int32) : Option (Int32 × Int32 × Int32 × Int32 × Int32 × Int32 × (Nat → Int32) × (Nat → Int32)) :=
  (if i1 ≤ 4 then
    (mm_Mo_isAttribute F i1 i2).bind fun x9 =>
    (if x9 = 0 then
      some (9, t_time, t_capacity, t_period, t_columns, t_entries, t_registers_f, t_column_f)
    else
      (if 4 ≤ i1 then
        (if i2 = 3 then
          mm_Mo_set_J52 F i1 i2 i3 t_time t_capacity t_period t_columns t_entries t_association t_registers_f t_column_f t_line_f
        else
          (if i2 = 4 then
            mm_Mo_set_J52 F i1 i2 i3 t_time t_capacity t_period t_columns t_entries t_association t_registers_f t_column_f t_line_f
          else
            (if i2 = 8 then
              mm_Mo_set_J52 F i1 i2 i3 t_time t_capacity t_period t_columns t_entries t_association t_registers_f t_column_f t_line_f
            else
              mm_Mo_set_J57 F i1 i2 i3 0 t_time t_capacity t_period t_columns t_entries t_association t_registers_f t_column_f t_line_f)))
      else
        (if i2 = 2 then
          mm_Mo_set_J57 F i1 i2 i3 1 t_time t_capacity t_period t_columns t_entries t_association t_registers_f t_column_f t_line_f
        else
          mm_Mo_set_J57 F i1 i2 i3 0 t_time t_capacity t_period t_columns t_entries t_association t_registers_f t_column_f t_line_f)))
  else
    some (4, t_time, t_capacity, t_period, t_columns, t_entries, t_registers_f, t_column_f))
theorem mq_Mo_set (F : Nat) (i1 : Int32) (i2 : Int32) (i3 : Int32) (t_time : Int32) (t_capacity : Int32) (t_period : Int32) (t_columns : Int32) (t_entries : Int32) (t_association : Int32) (t_registers_f : Nat → Int32) (t_column_f : Nat → Int32) (t_line_f : Nat → Int32) : mm_Mo_set F i1 i2 i3 t_time t_capacity t_period t_columns t_entries t_association t_registers_f t_column_f t_line_f =
  (if i1 ≤ 4 then
    (mm_Mo_isAttribute F i1 i2).bind fun x9 =>
    (if x9 = 0 then
      some (9, t_time, t_capacity, t_period, t_columns, t_entries, t_registers_f, t_column_f)
    else
      (if 4 ≤ i1 then
        (if i2 = 3 then
          mm_Mo_set_J52 F i1 i2 i3 t_time t_capacity t_period t_columns t_entries t_association t_registers_f t_column_f t_line_f
        else
          (if i2 = 4 then
            mm_Mo_set_J52 F i1 i2 i3 t_time t_capacity t_period t_columns t_entries t_association t_registers_f t_column_f t_line_f
          else
            (if i2 = 8 then
              mm_Mo_set_J52 F i1 i2 i3 t_time t_capacity t_period t_columns t_entries t_association t_registers_f t_column_f t_line_f
            else
              mm_Mo_set_J57 F i1 i2 i3 0 t_time t_capacity t_period t_columns t_entries t_association t_registers_f t_column_f t_line_f)))
      else
        (if i2 = 2 then
          mm_Mo_set_J57 F i1 i2 i3 1 t_time t_capacity t_period t_columns t_entries t_association t_registers_f t_column_f t_line_f
        else
          mm_Mo_set_J57 F i1 i2 i3 0 t_time t_capacity t_period t_columns t_entries t_association t_registers_f t_column_f t_line_f)))
  else
    some (4, t_time, t_capacity, t_period, t_columns, t_entries, t_registers_f, t_column_f)) := rfl
def mm_Mo_act_J88 (F : Nat) (v1 : Int32) (v2 : Int32) (v3 : Int32) (t_time : Int32) (t_capacity : Int32) (t_columns : Int32) (t_entries : Int32) (t_registers_f : Nat → Int32) (t_column_f : Nat → Int32) (t_times_f : Nat → Int32) (t_values_f : Nat → Int32) : Option (Int32 × Int32 × Int32 × (Nat → Int32) × (Nat → Int32) × (Nat → Int32)) :=
  (if v1 = 0 then
    (if v3 = 0 then none else
    some (0, (t_time / v3) * v3, t_entries, t_registers_f, t_times_f, t_values_f))
  else
    (if 4 ≤ v1 then
      (if v2 = 1 then
        some (0, t_time, 0, t_registers_f, t_times_f, t_values_f)
      else
        (mm_Mo_capture F t_time t_capacity t_columns t_entries t_registers_f t_column_f t_times_f t_values_f).bind fun x136 =>
        some (0, t_time, x136.1, t_registers_f, x136.2.1, x136.2.2))
    else
      (if v1 < 0 ∨ 4 ≤ v1.toNatClampNeg then none else
      some (0, t_time, t_entries, upd t_registers_f v1.toNatClampNeg 0, t_times_f, t_values_f))))
theorem mq_Mo_act_J88 (F : Nat) (v1 : Int32) (v2 : Int32) (v3 : Int32) (t_time : Int32) (t_capacity : Int32) (t_columns : Int32) (t_entries : Int32) (t_registers_f : Nat → Int32) (t_column_f : Nat → Int32) (t_times_f : Nat → Int32) (t_values_f : Nat → Int32) : mm_Mo_act_J88 F v1 v2 v3 t_time t_capacity t_columns t_entries t_registers_f t_column_f t_times_f t_values_f =
  (if v1 = 0 then
    (if v3 = 0 then none else
    some (0, (t_time / v3) * v3, t_entries, t_registers_f, t_times_f, t_values_f))
  else
    (if 4 ≤ v1 then
      (if v2 = 1 then
        some (0, t_time, 0, t_registers_f, t_times_f, t_values_f)
      else
        (mm_Mo_capture F t_time t_capacity t_columns t_entries t_registers_f t_column_f t_times_f t_values_f).bind fun x136 =>
        some (0, t_time, x136.1, t_registers_f, x136.2.1, x136.2.2))
    else
      (if v1 < 0 ∨ 4 ≤ v1.toNatClampNeg then none else
      some (0, t_time, t_entries, upd t_registers_f v1.toNatClampNeg 0, t_times_f, t_values_f)))) := rfl
def mm_Mo_act_J57 (F : Nat) (v1 : Int32) (v2 : Int32) (v3 : Int32) (s0 : Int32) (t_time : Int32) (t_capacity : Int32) (t_columns : Int32) (t_entries : Int32) (t_association : Int32) (t_registers_f : Nat → Int32) (t_column_f : Nat → Int32) (t_times_f : Nat → Int32) (t_values_f : Nat → Int32) : Option (Int32 × Int32 × Int32 × (Nat → Int32) × (Nat → Int32) × (Nat → Int32)) :=
  (if s0 = 0 then
    some (9, t_time, t_entries, t_registers_f, t_times_f, t_values_f)
  else
    (if t_association = 2 then
      (if v1 = 0 then
        (if v3 = 0 then
          some (13, t_time, t_entries, t_registers_f, t_times_f, t_values_f)
        else
          mm_Mo_act_J88 F v1 v2 v3 t_time t_capacity t_columns t_entries t_registers_f t_column_f t_times_f t_values_f)
      else
        mm_Mo_act_J88 F v1 v2 v3 t_time t_capacity t_columns t_entries t_registers_f t_column_f t_times_f t_values_f)
    else
      some (3, t_time, t_entries, t_registers_f, t_times_f, t_values_f)))
theorem mq_Mo_act_J57 (F : Nat) (v1 : Int32) (v2 : Int32) (v3 : Int32) (s0 : Int32) (t_time : Int32) (t_capacity : Int32) (t_columns : Int32) (t_entries : Int32) (t_association : Int32) (t_registers_f : Nat → Int32) (t_column_f : Nat → Int32) (t_times_f : Nat → Int32) (t_values_f : Nat → Int32) : mm_Mo_act_J57 F v1 v2 v3 s0 t_time t_capacity t_columns t_entries t_association t_registers_f t_column_f t_times_f t_values_f =
  (if s0 = 0 then
    some (9, t_time, t_entries, t_registers_f, t_times_f, t_values_f)
  else
    (if t_association = 2 then
      (if v1 = 0 then
        (if v3 = 0 then
          some (13, t_time, t_entries, t_registers_f, t_times_f, t_values_f)
        else
          mm_Mo_act_J88 F v1 v2 v3 t_time t_capacity t_columns t_entries t_registers_f t_column_f t_times_f t_values_f)
      else
        mm_Mo_act_J88 F v1 v2 v3 t_time t_capacity t_columns t_entries t_registers_f t_column_f t_times_f t_values_f)
    else
      some (3, t_time, t_entries, t_registers_f, t_times_f, t_values_f))) := rfl
def mm_Mo_act_J52 (F : Nat) (v1 : Int32) (v2 : Int32) (v3 : Int32) (t_time : Int32) (t_capacity : Int32) (t_columns : Int32) (t_entries : Int32) (t_association : Int32) (t_registers_f : Nat → Int32) (t_column_f : Nat → Int32) (t_times_f : Nat → Int32) (t_values_f : Nat → Int32) : Option (Int32 × Int32 × Int32 × (Nat → Int32) × (Nat → Int32) × (Nat → Int32)) :=
  mm_Mo_act_J57 F v1 v2 v3 1 t_time t_capacity t_columns t_entries t_association t_registers_f t_column_f t_times_f t_values_f
theorem mq_Mo_act_J52 (F : Nat) (v1 : Int32) (v2 : Int32) (v3 : Int32) (t_time : Int32) (t_capacity : Int32) (t_columns : Int32) (t_entries : Int32) (t_association : Int32) (t_registers_f : Nat → Int32) (t_column_f : Nat → Int32) (t_times_f : Nat → Int32) (t_values_f : Nat → Int32) : mm_Mo_act_J52 F v1 v2 v3 t_time t_capacity t_columns t_entries t_association t_registers_f t_column_f t_times_f t_values_f =
  mm_Mo_act_J57 F v1 v2 v3 1 t_time t_capacity t_columns t_entries t_association t_registers_f t_column_f t_times_f t_values_f := rfl
def mm_Mo_act (F : Nat) (i1 : Int32) (i2 : Int32) (i3 : Int32) (t_time : Int32) (t_capacity : Int32) (t_columns : Int32) (t_entries : Int32) (t_association : Int32) (t_registers_f : Nat → Int32) (t_column_f : Nat → Int32) (t_times_f : Nat → Int32) (t_values_f : Nat → Int32) : Option (Int32 × Int32 × Int32 × (Nat → Int32) × (Nat → Int32) × (Nat → Int32)) :=
  (if i1 ≤ 4 then
    (if i1 = 0 then
      (if i2 = 3 then
        mm_Mo_act_J57 F i1 i2 i3 1 t_time t_capacity t_columns t_entries t_association t_registers_f t_column_f t_times_f t_values_f
      else
        mm_Mo_act_J57 F i1 i2 i3 0 t_time t_capacity t_columns t_entries t_association t_registers_f t_column_f t_times_f t_values_f)
    else
      (if 4 ≤ i1 then
        (if i2 = 1 then
          mm_Mo_act_J52 F i1 i2 i3 t_time t_capacity t_columns t_entries t_association t_registers_f t_column_f t_times_f t_values_f
        else
          (if i2 = 2 then
            mm_Mo_act_J52 F i1 i2 i3 t_time t_capacity t_columns t_entries t_association t_registers_f t_column_f t_times_f t_values_f
          else
            mm_Mo_act_J57 F i1 i2 i3 0 t_time t_capacity t_columns t_entries t_association t_registers_f t_column_f t_times_f t_values_f))
      else
        (if i2 = 1 then
          mm_Mo_act_J57 F i1 i2 i3 1 t_time t_capacity t_columns t_entries t_association t_registers_f t_column_f t_times_f t_values_f
        else
          mm_Mo_act_J57 F i1 i2 i3 0 t_time t_capacity t_columns t_entries t_association t_registers_f t_column_f t_times_f t_values_f)))
  else
    some (4, t_time, t_entries, t_registers_f, t_times_f, t_values_f))
theorem mq_Mo_act (F : Nat) (i1 : Int32) (i2 : Int32) (i3 : Int32) (t_time : Int32) (t_capacity : Int32) (t_columns : Int32) (t_entries : Int32) (t_association : Int32) (t_registers_f : Nat → Int32) (t_column_f : Nat → Int32) (t_times_f : Nat → Int32) (t_values_f : Nat → Int32) : mm_Mo_act F i1 i2 i3 t_time t_capacity t_columns t_entries t_association t_registers_f t_column_f t_times_f t_values_f =
  (if i1 ≤ 4 then
    (if i1 = 0 then
      (if i2 = 3 then
        mm_Mo_act_J57 F i1 i2 i3 1 t_time t_capacity t_columns t_entries t_association t_registers_f t_column_f t_times_f t_values_f
      else
        mm_Mo_act_J57 F i1 i2 i3 0 t_time t_capacity t_columns t_entries t_association t_registers_f t_column_f t_times_f t_values_f)
    else
      (if 4 ≤ i1 then
        (if i2 = 1 then
          mm_Mo_act_J52 F i1 i2 i3 t_time t_capacity t_columns t_entries t_association t_registers_f t_column_f t_times_f t_values_f
        else
          (if i2 = 2 then
            mm_Mo_act_J52 F i1 i2 i3 t_time t_capacity t_columns t_entries t_association t_registers_f t_column_f t_times_f t_values_f
          else
            mm_Mo_act_J57 F i1 i2 i3 0 t_time t_capacity t_columns t_entries t_association t_registers_f t_column_f t_times_f t_values_f))
      else
        (if i2 = 1 then
          mm_Mo_act_J57 F i1 i2 i3 1 t_time t_capacity t_columns t_entries t_association t_registers_f t_column_f t_times_f t_values_f
        else
          mm_Mo_act_J57 F i1 i2 i3 0 t_time t_capacity t_columns t_entries t_association t_registers_f t_column_f t_times_f t_values_f)))
  else
    some (4, t_time, t_entries, t_registers_f, t_times_f, t_values_f)) := rfl
def mm_Mo_answer_J301 (F : Nat) (v1 : Int32) (v2 : Int32) (t_time : Int32) (t_capacity : Int32) (t_period : Int32) (t_columns : Int32) (t_entries : Int32) (t_association : Int32) (t_size : Int32) (t_sent : Int32) (t_many : Int32) (t_registers_f : Nat → Int32) (t_column_f : Nat → Int32) (t_times_f : Nat → Int32) (t_values_f : Nat → Int32) (t_bytes_f : Nat → Int32) (t_line_f : Nat → Int32) (t_made_f : Nat → Int32) : Option (Int32 × Int32 × Int32 × Int32 × Int32 × Int32 × Int32 × Int32 × Int32 × (Nat → Int32) × (Nat → Int32) × (Nat → Int32) × (Nat → Int32) × (Nat → Int32) × (Nat → Int32)) :=
  (if v2 = 195 then
    (if v1 = 4 then
      (mm_Mo_at F 1 t_line_f).bind fun x320 =>
      (mm_Mo_at F 2 t_line_f).bind fun x325 =>
      (mm_Mo_at F 3 t_line_f).bind fun x330 =>
      (mm_Mo_act F x320 x325 x330 t_time t_capacity t_columns t_entries t_association t_registers_f t_column_f t_times_f t_values_f).bind fun x333 =>
      (mm_Mo_say F 199 x333.1 t_many t_made_f).bind fun x336 =>
      some (x333.2.1, t_capacity, t_period, t_columns, x333.2.2.1, t_association, t_size, t_sent, x336.1, x333.2.2.2.1, t_column_f, x333.2.2.2.2.1, x333.2.2.2.2.2, t_bytes_f, x336.2)
    else
      (mm_Mo_say F 216 2 t_many t_made_f).bind fun x347 =>
      some (t_time, t_capacity, t_period, t_columns, t_entries, t_association, t_size, t_sent, x347.1, t_registers_f, t_column_f, t_times_f, t_values_f, t_bytes_f, x347.2))
  else
    (mm_Mo_say F 216 2 t_many t_made_f).bind fun x347 =>
    some (t_time, t_capacity, t_period, t_columns, t_entries, t_association, t_size, t_sent, x347.1, t_registers_f, t_column_f, t_times_f, t_values_f, t_bytes_f, x347.2))
theorem mq_Mo_answer_J301 (F : Nat) (v1 : Int32) (v2 : Int32) (t_time : Int32) (t_capacity : Int32) (t_period : Int32) (t_columns : Int32) (t_entries : Int32) (t_association : Int32) (t_size : Int32) (t_sent : Int32) (t_many : Int32) (t_registers_f : Nat → Int32) (t_column_f : Nat → Int32) (t_times_f : Nat → Int32) (t_values_f : Nat → Int32) (t_bytes_f : Nat → Int32) (t_line_f : Nat → Int32) (t_made_f : Nat → Int32) : mm_Mo_answer_J301 F v1 v2 t_time t_capacity t_period t_columns t_entries t_association t_size t_sent t_many t_registers_f t_column_f t_times_f t_values_f t_bytes_f t_line_f t_made_f =
  (if v2 = 195 then
    (if v1 = 4 then
      (mm_Mo_at F 1 t_line_f).bind fun x320 =>
      (mm_Mo_at F 2 t_line_f).bind fun x325 =>
      (mm_Mo_at F 3 t_line_f).bind fun x330 =>
      (mm_Mo_act F x320 x325 x330 t_time t_capacity t_columns t_entries t_association t_registers_f t_column_f t_times_f t_values_f).bind fun x333 =>
      (mm_Mo_say F 199 x333.1 t_many t_made_f).bind fun x336 =>
      some (x333.2.1, t_capacity, t_period, t_columns, x333.2.2.1, t_association, t_size, t_sent, x336.1, x333.2.2.2.1, t_column_f, x333.2.2.2.2.1, x333.2.2.2.2.2, t_bytes_f, x336.2)
    else
      (mm_Mo_say F 216 2 t_many t_made_f).bind fun x347 =>
      some (t_time, t_capacity, t_period, t_columns, t_entries, t_association, t_size, t_sent, x347.1, t_registers_f, t_column_f, t_times_f, t_values_f, t_bytes_f, x347.2))
  else
    (mm_Mo_say F 216 2 t_many t_made_f).bind fun x347 =>
    some (t_time, t_capacity, t_period, t_columns, t_entries, t_association, t_size, t_sent, x347.1, t_registers_f, t_column_f, t_times_f, t_values_f, t_bytes_f, x347.2)) := rfl
def mm_Mo_answer_J262 (F : Nat) (v1 : Int32) (v2 : Int32) (t_time : Int32) (t_capacity : Int32) (t_period : Int32) (t_columns : Int32) (t_entries : Int32) (t_association : Int32) (t_size : Int32) (t_sent : Int32) (t_many : Int32) (t_registers_f : Nat → Int32) (t_column_f : Nat → Int32) (t_times_f : Nat → Int32) (t_values_f : Nat → Int32) (t_bytes_f : Nat → Int32) (t_line_f : Nat → Int32) (t_made_f : Nat → Int32) : Option (Int32 × Int32 × Int32 × Int32 × Int32 × Int32 × Int32 × Int32 × Int32 × (Nat → Int32) × (Nat → Int32) × (Nat → Int32) × (Nat → Int32) × (Nat → Int32) × (Nat → Int32)) :=
  (if v2 = 193 then
    (if v1 < 3 then
      mm_Mo_answer_J301 F v1 v2 t_time t_capacity t_period t_columns t_entries t_association t_size t_sent t_many t_registers_f t_column_f t_times_f t_values_f t_bytes_f t_line_f t_made_f
    else
      (mm_Mo_at F 1 t_line_f).bind fun x281 =>
      (mm_Mo_at F 2 t_line_f).bind fun x286 =>
      (mm_Mo_set F x281 x286 (v1 - 3) t_time t_capacity t_period t_columns t_entries t_association t_registers_f t_column_f t_line_f).bind fun x292 =>
      (mm_Mo_say F 197 x292.1 t_many t_made_f).bind fun x295 =>
      some (x292.2.1, x292.2.2.1, x292.2.2.2.1, x292.2.2.2.2.1, x292.2.2.2.2.2.1, t_association, t_size, t_sent, x295.1, x292.2.2.2.2.2.2.1, x292.2.2.2.2.2.2.2, t_times_f, t_values_f, t_bytes_f, x295.2))
  else
    mm_Mo_answer_J301 F v1 v2 t_time t_capacity t_period t_columns t_entries t_association t_size t_sent t_many t_registers_f t_column_f t_times_f t_values_f t_bytes_f t_line_f t_made_f)
theorem mq_Mo_answer_J262 (F : Nat) (v1 : Int32) (v2 : Int32) (t_time : Int32) (t_capacity : Int32) (t_period : Int32) (t_columns : Int32) (t_entries : Int32) (t_association : Int32) (t_size : Int32) (t_sent : Int32) (t_many : Int32) (t_registers_f : Nat → Int32) (t_column_f : Nat → Int32) (t_times_f : Nat → Int32) (t_values_f : Nat → Int32) (t_bytes_f : Nat → Int32) (t_line_f : Nat → Int32) (t_made_f : Nat → Int32) : mm_Mo_answer_J262 F v1 v2 t_time t_capacity t_period t_columns t_entries t_association t_size t_sent t_many t_registers_f t_column_f t_times_f t_values_f t_bytes_f t_line_f t_made_f =
  (if v2 = 193 then
    (if v1 < 3 then
      mm_Mo_answer_J301 F v1 v2 t_time t_capacity t_period t_columns t_entries t_association t_size t_sent t_many t_registers_f t_column_f t_times_f t_values_f t_bytes_f t_line_f t_made_f
    else
      (mm_Mo_at F 1 t_line_f).bind fun x281 =>
      (mm_Mo_at F 2 t_line_f).bind fun x286 =>
      (mm_Mo_set F x281 x286 (v1 - 3) t_time t_capacity t_period t_columns t_entries t_association t_registers_f t_column_f t_line_f).bind fun x292 =>
      (mm_Mo_say F 197 x292.1 t_many t_made_f).bind fun x295 =>
      some (x292.2.1, x292.2.2.1, x292.2.2.2.1, x292.2.2.2.2.1, x292.2.2.2.2.2.1, t_association, t_size, t_sent, x295.1, x292.2.2.2.2.2.2.1, x292.2.2.2.2.2.2.2, t_times_f, t_values_f, t_bytes_f, x295.2))
  else
    mm_Mo_answer_J301 F v1 v2 t_time t_capacity t_period t_columns t_entries t_association t_size t_sent t_many t_registers_f t_column_f t_times_f t_values_f t_bytes_f t_line_f t_made_f) := rfl
def mm_Mo_answer_J234 (F : Nat) (v1 : Int32) (t_time : Int32) (t_capacity : Int32) (t_period : Int32) (t_columns : Int32) (t_entries : Int32) (t_association : Int32) (t_size : Int32) (t_sent : Int32) (t_many : Int32) (t_registers_f : Nat → Int32) (t_column_f : Nat → Int32) (t_times_f : Nat → Int32) (t_values_f : Nat → Int32) (t_bytes_f : Nat → Int32) (t_line_f : Nat → Int32) (t_made_f : Nat → Int32) : Option (Int32 × Int32 × Int32 × Int32 × Int32 × Int32 × Int32 × Int32 × Int32 × (Nat → Int32) × (Nat → Int32) × (Nat → Int32) × (Nat → Int32) × (Nat → Int32) × (Nat → Int32)) :=
  (mm_Mo_at F 2 t_line_f).bind fun x237 =>
  (mm_Mo_at F 3 t_line_f).bind fun x242 =>
  (if v1 = 13 then
    (mm_Mo_get F x237 x242 1 t_time t_capacity t_period t_columns t_entries t_size t_sent t_many t_registers_f t_column_f t_times_f t_values_f t_bytes_f t_line_f t_made_f).bind fun x256 =>
    some (t_time, t_capacity, t_period, t_columns, t_entries, t_association, x256.1, x256.2.1, x256.2.2.1, t_registers_f, t_column_f, t_times_f, t_values_f, x256.2.2.2.1, x256.2.2.2.2)
  else
    (mm_Mo_get F x237 x242 0 t_time t_capacity t_period t_columns t_entries t_size t_sent t_many t_registers_f t_column_f t_times_f t_values_f t_bytes_f t_line_f t_made_f).bind fun x256 =>
    some (t_time, t_capacity, t_period, t_columns, t_entries, t_association, x256.1, x256.2.1, x256.2.2.1, t_registers_f, t_column_f, t_times_f, t_values_f, x256.2.2.2.1, x256.2.2.2.2))
theorem mq_Mo_answer_J234 (F : Nat) (v1 : Int32) (t_time : Int32) (t_capacity : Int32) (t_period : Int32) (t_columns : Int32) (t_entries : Int32) (t_association : Int32) (t_size : Int32) (t_sent : Int32) (t_many : Int32) (t_registers_f : Nat → Int32) (t_column_f : Nat → Int32) (t_times_f : Nat → Int32) (t_values_f : Nat → Int32) (t_bytes_f : Nat → Int32) (t_line_f : Nat → Int32) (t_made_f : Nat → Int32) : mm_Mo_answer_J234 F v1 t_time t_capacity t_period t_columns t_entries t_association t_size t_sent t_many t_registers_f t_column_f t_times_f t_values_f t_bytes_f t_line_f t_made_f =
  (mm_Mo_at F 2 t_line_f).bind fun x237 =>
  (mm_Mo_at F 3 t_line_f).bind fun x242 =>
  (if v1 = 13 then
    (mm_Mo_get F x237 x242 1 t_time t_capacity t_period t_columns t_entries t_size t_sent t_many t_registers_f t_column_f t_times_f t_values_f t_bytes_f t_line_f t_made_f).bind fun x256 =>
    some (t_time, t_capacity, t_period, t_columns, t_entries, t_association, x256.1, x256.2.1, x256.2.2.1, t_registers_f, t_column_f, t_times_f, t_values_f, x256.2.2.2.1, x256.2.2.2.2)
  else
    (mm_Mo_get F x237 x242 0 t_time t_capacity t_period t_columns t_entries t_size t_sent t_many t_registers_f t_column_f t_times_f t_values_f t_bytes_f t_line_f t_made_f).bind fun x256 =>
    some (t_time, t_capacity, t_period, t_columns, t_entries, t_association, x256.1, x256.2.1, x256.2.2.1, t_registers_f, t_column_f, t_times_f, t_values_f, x256.2.2.2.1, x256.2.2.2.2)) := rfl
def mm_Mo_answer_J219 (F : Nat) (v1 : Int32) (v2 : Int32) (t_time : Int32) (t_capacity : Int32) (t_period : Int32) (t_columns : Int32) (t_entries : Int32) (t_association : Int32) (t_size : Int32) (t_sent : Int32) (t_many : Int32) (t_registers_f : Nat → Int32) (t_column_f : Nat → Int32) (t_times_f : Nat → Int32) (t_values_f : Nat → Int32) (t_bytes_f : Nat → Int32) (t_line_f : Nat → Int32) (t_made_f : Nat → Int32) : Option (Int32 × Int32 × Int32 × Int32 × Int32 × Int32 × Int32 × Int32 × Int32 × (Nat → Int32) × (Nat → Int32) × (Nat → Int32) × (Nat → Int32) × (Nat → Int32) × (Nat → Int32)) :=
  (if v1 = 13 then
    (mm_Mo_at F 4 t_line_f).bind fun x227 =>
    (if x227 = 1 then
      mm_Mo_answer_J234 F v1 t_time t_capacity t_period t_columns t_entries t_association t_size t_sent t_many t_registers_f t_column_f t_times_f t_values_f t_bytes_f t_line_f t_made_f
    else
      mm_Mo_answer_J262 F v1 v2 t_time t_capacity t_period t_columns t_entries t_association t_size t_sent t_many t_registers_f t_column_f t_times_f t_values_f t_bytes_f t_line_f t_made_f)
  else
    mm_Mo_answer_J262 F v1 v2 t_time t_capacity t_period t_columns t_entries t_association t_size t_sent t_many t_registers_f t_column_f t_times_f t_values_f t_bytes_f t_line_f t_made_f)
theorem mq_Mo_answer_J219 (F : Nat) (v1 : Int32) (v2 : Int32) (t_time : Int32) (t_capacity : Int32) (t_period : Int32) (t_columns : Int32) (t_entries : Int32) (t_association : Int32) (t_size : Int32) (t_sent : Int32) (t_many : Int32) (t_registers_f : Nat → Int32) (t_column_f : Nat → Int32) (t_times_f : Nat → Int32) (t_values_f : Nat → Int32) (t_bytes_f : Nat → Int32) (t_line_f : Nat → Int32) (t_made_f : Nat → Int32) : mm_Mo_answer_J219 F v1 v2 t_time t_capacity t_period t_columns t_entries t_association t_size t_sent t_many t_registers_f t_column_f t_times_f t_values_f t_bytes_f t_line_f t_made_f =
  (if v1 = 13 then
    (mm_Mo_at F 4 t_line_f).bind fun x227 =>
    (if x227 = 1 then
      mm_Mo_answer_J234 F v1 t_time t_capacity t_period t_columns t_entries t_association t_size t_sent t_many t_registers_f t_column_f t_times_f t_values_f t_bytes_f t_line_f t_made_f
    else
      mm_Mo_answer_J262 F v1 v2 t_time t_capacity t_period t_columns t_entries t_association t_size t_sent t_many t_registers_f t_column_f t_times_f t_values_f t_bytes_f t_line_f t_made_f)
  else
    mm_Mo_answer_J262 F v1 v2 t_time t_capacity t_period t_columns t_entries t_association t_size t_sent t_many t_registers_f t_column_f t_times_f t_values_f t_bytes_f t_line_f t_made_f) := rfl
def mm_Mo_answer_J190 (F : Nat) (v1 : Int32) (v2 : Int32) (t_time : Int32) (t_capacity : Int32) (t_period : Int32) (t_columns : Int32) (t_entries : Int32) (t_association : Int32) (t_size : Int32) (t_sent : Int32) (t_many : Int32) (t_registers_f : Nat → Int32) (t_column_f : Nat → Int32) (t_times_f : Nat → Int32) (t_values_f : Nat → Int32) (t_bytes_f : Nat → Int32) (t_line_f : Nat → Int32) (t_made_f : Nat → Int32) : Option (Int32 × Int32 × Int32 × Int32 × Int32 × Int32 × Int32 × Int32 × Int32 × (Nat → Int32) × (Nat → Int32) × (Nat → Int32) × (Nat → Int32) × (Nat → Int32) × (Nat → Int32)) :=
  (if v2 = 192 then
    (mm_Mo_at F 1 t_line_f).bind fun x199 =>
    (if x199 = 1 then
      (if v1 = 5 then
        (mm_Mo_at F 4 t_line_f).bind fun x213 =>
        (if x213 = 0 then
          mm_Mo_answer_J234 F v1 t_time t_capacity t_period t_columns t_entries t_association t_size t_sent t_many t_registers_f t_column_f t_times_f t_values_f t_bytes_f t_line_f t_made_f
        else
          mm_Mo_answer_J219 F v1 v2 t_time t_capacity t_period t_columns t_entries t_association t_size t_sent t_many t_registers_f t_column_f t_times_f t_values_f t_bytes_f t_line_f t_made_f)
      else
        mm_Mo_answer_J219 F v1 v2 t_time t_capacity t_period t_columns t_entries t_association t_size t_sent t_many t_registers_f t_column_f t_times_f t_values_f t_bytes_f t_line_f t_made_f)
    else
      mm_Mo_answer_J262 F v1 v2 t_time t_capacity t_period t_columns t_entries t_association t_size t_sent t_many t_registers_f t_column_f t_times_f t_values_f t_bytes_f t_line_f t_made_f)
  else
    mm_Mo_answer_J262 F v1 v2 t_time t_capacity t_period t_columns t_entries t_association t_size t_sent t_many t_registers_f t_column_f t_times_f t_values_f t_bytes_f t_line_f t_made_f)
theorem mq_Mo_answer_J190 (F : Nat) (v1 : Int32) (v2 : Int32) (t_time : Int32) (t_capacity : Int32) (t_period : Int32) (t_columns : Int32) (t_entries : Int32) (t_association : Int32) (t_size : Int32) (t_sent : Int32) (t_many : Int32) (t_registers_f : Nat → Int32) (t_column_f : Nat → Int32) (t_times_f : Nat → Int32) (t_values_f : Nat → Int32) (t_bytes_f : Nat → Int32) (t_line_f : Nat → Int32) (t_made_f : Nat → Int32) : mm_Mo_answer_J190 F v1 v2 t_time t_capacity t_period t_columns t_entries t_association t_size t_sent t_many t_registers_f t_column_f t_times_f t_values_f t_bytes_f t_line_f t_made_f =
  (if v2 = 192 then
    (mm_Mo_at F 1 t_line_f).bind fun x199 =>
    (if x199 = 1 then
      (if v1 = 5 then
        (mm_Mo_at F 4 t_line_f).bind fun x213 =>
        (if x213 = 0 then
          mm_Mo_answer_J234 F v1 t_time t_capacity t_period t_columns t_entries t_association t_size t_sent t_many t_registers_f t_column_f t_times_f t_values_f t_bytes_f t_line_f t_made_f
        else
          mm_Mo_answer_J219 F v1 v2 t_time t_capacity t_period t_columns t_entries t_association t_size t_sent t_many t_registers_f t_column_f t_times_f t_values_f t_bytes_f t_line_f t_made_f)
      else
        mm_Mo_answer_J219 F v1 v2 t_time t_capacity t_period t_columns t_entries t_association t_size t_sent t_many t_registers_f t_column_f t_times_f t_values_f t_bytes_f t_line_f t_made_f)
    else
      mm_Mo_answer_J262 F v1 v2 t_time t_capacity t_period t_columns t_entries t_association t_size t_sent t_many t_registers_f t_column_f t_times_f t_values_f t_bytes_f t_line_f t_made_f)
  else
    mm_Mo_answer_J262 F v1 v2 t_time t_capacity t_period t_columns t_entries t_association t_size t_sent t_many t_registers_f t_column_f t_times_f t_values_f t_bytes_f t_line_f t_made_f) := rfl
def mm_Mo_answer_J161 (F : Nat) (v1 : Int32) (v2 : Int32) (v3 : Int32) (t_time : Int32) (t_capacity : Int32) (t_period : Int32) (t_columns : Int32) (t_entries : Int32) (t_association : Int32) (t_size : Int32) (t_sent : Int32) (t_many : Int32) (t_registers_f : Nat → Int32) (t_column_f : Nat → Int32) (t_times_f : Nat → Int32) (t_values_f : Nat → Int32) (t_bytes_f : Nat → Int32) (t_line_f : Nat → Int32) (t_made_f : Nat → Int32) : Option (Int32 × Int32 × Int32 × Int32 × Int32 × Int32 × Int32 × Int32 × Int32 × (Nat → Int32) × (Nat → Int32) × (Nat → Int32) × (Nat → Int32) × (Nat → Int32) × (Nat → Int32)) :=
  (if v2 = 192 then
    (if v1 = 3 then
      (mm_Mo_at F 1 t_line_f).bind fun x175 =>
      (if x175 = 2 then
        (mm_Mo_more F v3 t_size t_sent t_many t_bytes_f t_line_f t_made_f).bind fun x184 =>
        some (t_time, t_capacity, t_period, t_columns, t_entries, t_association, x184.1, x184.2.1, x184.2.2.1, t_registers_f, t_column_f, t_times_f, t_values_f, t_bytes_f, x184.2.2.2)
      else
        mm_Mo_answer_J190 F v1 v2 t_time t_capacity t_period t_columns t_entries t_association t_size t_sent t_many t_registers_f t_column_f t_times_f t_values_f t_bytes_f t_line_f t_made_f)
    else
      mm_Mo_answer_J190 F v1 v2 t_time t_capacity t_period t_columns t_entries t_association t_size t_sent t_many t_registers_f t_column_f t_times_f t_values_f t_bytes_f t_line_f t_made_f)
  else
    mm_Mo_answer_J190 F v1 v2 t_time t_capacity t_period t_columns t_entries t_association t_size t_sent t_many t_registers_f t_column_f t_times_f t_values_f t_bytes_f t_line_f t_made_f)
theorem mq_Mo_answer_J161 (F : Nat) (v1 : Int32) (v2 : Int32) (v3 : Int32) (t_time : Int32) (t_capacity : Int32) (t_period : Int32) (t_columns : Int32) (t_entries : Int32) (t_association : Int32) (t_size : Int32) (t_sent : Int32) (t_many : Int32) (t_registers_f : Nat → Int32) (t_column_f : Nat → Int32) (t_times_f : Nat → Int32) (t_values_f : Nat → Int32) (t_bytes_f : Nat → Int32) (t_line_f : Nat → Int32) (t_made_f : Nat → Int32) : mm_Mo_answer_J161 F v1 v2 v3 t_time t_capacity t_period t_columns t_entries t_association t_size t_sent t_many t_registers_f t_column_f t_times_f t_values_f t_bytes_f t_line_f t_made_f =
  (if v2 = 192 then
    (if v1 = 3 then
      (mm_Mo_at F 1 t_line_f).bind fun x175 =>
      (if x175 = 2 then
        (mm_Mo_more F v3 t_size t_sent t_many t_bytes_f t_line_f t_made_f).bind fun x184 =>
        some (t_time, t_capacity, t_period, t_columns, t_entries, t_association, x184.1, x184.2.1, x184.2.2.1, t_registers_f, t_column_f, t_times_f, t_values_f, t_bytes_f, x184.2.2.2)
      else
        mm_Mo_answer_J190 F v1 v2 t_time t_capacity t_period t_columns t_entries t_association t_size t_sent t_many t_registers_f t_column_f t_times_f t_values_f t_bytes_f t_line_f t_made_f)
    else
      mm_Mo_answer_J190 F v1 v2 t_time t_capacity t_period t_columns t_entries t_association t_size t_sent t_many t_registers_f t_column_f t_times_f t_values_f t_bytes_f t_line_f t_made_f)
  else
    mm_Mo_answer_J190 F v1 v2 t_time t_capacity t_period t_columns t_entries t_association t_size t_sent t_many t_registers_f t_column_f t_times_f t_values_f t_bytes_f t_line_f t_made_f) := rfl
def mm_Mo_answer_J122 (F : Nat) (v1 : Int32) (v2 : Int32) (v3 : Int32) (t_time : Int32) (t_capacity : Int32) (t_period : Int32) (t_columns : Int32) (t_entries : Int32) (t_association : Int32) (t_size : Int32) (t_sent : Int32) (t_many : Int32) (t_registers_f : Nat → Int32) (t_column_f : Nat → Int32) (t_times_f : Nat → Int32) (t_values_f : Nat → Int32) (t_bytes_f : Nat → Int32) (t_line_f : Nat → Int32) (t_made_f : Nat → Int32) : Option (Int32 × Int32 × Int32 × Int32 × Int32 × Int32 × Int32 × Int32 × Int32 × (Nat → Int32) × (Nat → Int32) × (Nat → Int32) × (Nat → Int32) × (Nat → Int32) × (Nat → Int32)) :=
  (if t_association = 0 then
    (if v2 = 192 then
      (mm_Mo_say F 216 1 t_many t_made_f).bind fun x155 =>
      some (t_time, t_capacity, t_period, t_columns, t_entries, t_association, t_size, t_sent, x155.1, t_registers_f, t_column_f, t_times_f, t_values_f, t_bytes_f, x155.2)
    else
      (if v2 = 193 then
        (mm_Mo_say F 216 1 t_many t_made_f).bind fun x155 =>
        some (t_time, t_capacity, t_period, t_columns, t_entries, t_association, t_size, t_sent, x155.1, t_registers_f, t_column_f, t_times_f, t_values_f, t_bytes_f, x155.2)
      else
        (if v2 = 195 then
          (mm_Mo_say F 216 1 t_many t_made_f).bind fun x155 =>
          some (t_time, t_capacity, t_period, t_columns, t_entries, t_association, t_size, t_sent, x155.1, t_registers_f, t_column_f, t_times_f, t_values_f, t_bytes_f, x155.2)
        else
          mm_Mo_answer_J161 F v1 v2 v3 t_time t_capacity t_period t_columns t_entries t_association t_size t_sent t_many t_registers_f t_column_f t_times_f t_values_f t_bytes_f t_line_f t_made_f)))
  else
    mm_Mo_answer_J161 F v1 v2 v3 t_time t_capacity t_period t_columns t_entries t_association t_size t_sent t_many t_registers_f t_column_f t_times_f t_values_f t_bytes_f t_line_f t_made_f)
theorem mq_Mo_answer_J122 (F : Nat) (v1 : Int32) (v2 : Int32) (v3 : Int32) (t_time : Int32) (t_capacity : Int32) (t_period : Int32) (t_columns : Int32) (t_entries : Int32) (t_association : Int32) (t_size : Int32) (t_sent : Int32) (t_many : Int32) (t_registers_f : Nat → Int32) (t_column_f : Nat → Int32) (t_times_f : Nat → Int32) (t_values_f : Nat → Int32) (t_bytes_f : Nat → Int32) (t_line_f : Nat → Int32) (t_made_f : Nat → Int32) : mm_Mo_answer_J122 F v1 v2 v3 t_time t_capacity t_period t_columns t_entries t_association t_size t_sent t_many t_registers_f t_column_f t_times_f t_values_f t_bytes_f t_line_f t_made_f =
  (if t_association = 0 then
    (if v2 = 192 then
      (mm_Mo_say F 216 1 t_many t_made_f).bind fun x155 =>
      some (t_time, t_capacity, t_period, t_columns, t_entries, t_association, t_size, t_sent, x155.1, t_registers_f, t_column_f, t_times_f, t_values_f, t_bytes_f, x155.2)
    else
      (if v2 = 193 then
        (mm_Mo_say F 216 1 t_many t_made_f).bind fun x155 =>
        some (t_time, t_capacity, t_period, t_columns, t_entries, t_association, t_size, t_sent, x155.1, t_registers_f, t_column_f, t_times_f, t_values_f, t_bytes_f, x155.2)
      else
        (if v2 = 195 then
          (mm_Mo_say F 216 1 t_many t_made_f).bind fun x155 =>
          some (t_time, t_capacity, t_period, t_columns, t_entries, t_association, t_size, t_sent, x155.1, t_registers_f, t_column_f, t_times_f, t_values_f, t_bytes_f, x155.2)
        else
          mm_Mo_answer_J161 F v1 v2 v3 t_time t_capacity t_period t_columns t_entries t_association t_size t_sent t_many t_registers_f t_column_f t_times_f t_values_f t_bytes_f t_line_f t_made_f)))
  else
    mm_Mo_answer_J161 F v1 v2 v3 t_time t_capacity t_period t_columns t_entries t_association t_size t_sent t_many t_registers_f t_column_f t_times_f t_values_f t_bytes_f t_line_f t_made_f) := rfl
def mm_Mo_answer_J92 (F : Nat) (v1 : Int32) (v2 : Int32) (v3 : Int32) (t_time : Int32) (t_capacity : Int32) (t_period : Int32) (t_columns : Int32) (t_entries : Int32) (t_association : Int32) (t_size : Int32) (t_sent : Int32) (t_many : Int32) (t_registers_f : Nat → Int32) (t_column_f : Nat → Int32) (t_times_f : Nat → Int32) (t_values_f : Nat → Int32) (t_bytes_f : Nat → Int32) (t_line_f : Nat → Int32) (t_made_f : Nat → Int32) : Option (Int32 × Int32 × Int32 × Int32 × Int32 × Int32 × Int32 × Int32 × Int32 × (Nat → Int32) × (Nat → Int32) × (Nat → Int32) × (Nat → Int32) × (Nat → Int32) × (Nat → Int32)) :=
  (if v2 = 98 then
    (if v1 = 1 then
      (mm_Mo_emit F 99 0 t_made_f).bind fun x116 =>
      some (t_time, t_capacity, t_period, t_columns, t_entries, 0, t_size, t_sent, x116.1, t_registers_f, t_column_f, t_times_f, t_values_f, t_bytes_f, x116.2)
    else
      mm_Mo_answer_J122 F v1 v2 v3 t_time t_capacity t_period t_columns t_entries t_association t_size t_sent t_many t_registers_f t_column_f t_times_f t_values_f t_bytes_f t_line_f t_made_f)
  else
    mm_Mo_answer_J122 F v1 v2 v3 t_time t_capacity t_period t_columns t_entries t_association t_size t_sent t_many t_registers_f t_column_f t_times_f t_values_f t_bytes_f t_line_f t_made_f)
theorem mq_Mo_answer_J92 (F : Nat) (v1 : Int32) (v2 : Int32) (v3 : Int32) (t_time : Int32) (t_capacity : Int32) (t_period : Int32) (t_columns : Int32) (t_entries : Int32) (t_association : Int32) (t_size : Int32) (t_sent : Int32) (t_many : Int32) (t_registers_f : Nat → Int32) (t_column_f : Nat → Int32) (t_times_f : Nat → Int32) (t_values_f : Nat → Int32) (t_bytes_f : Nat → Int32) (t_line_f : Nat → Int32) (t_made_f : Nat → Int32) : mm_Mo_answer_J92 F v1 v2 v3 t_time t_capacity t_period t_columns t_entries t_association t_size t_sent t_many t_registers_f t_column_f t_times_f t_values_f t_bytes_f t_line_f t_made_f =
  (if v2 = 98 then
    (if v1 = 1 then
      (mm_Mo_emit F 99 0 t_made_f).bind fun x116 =>
      some (t_time, t_capacity, t_period, t_columns, t_entries, 0, t_size, t_sent, x116.1, t_registers_f, t_column_f, t_times_f, t_values_f, t_bytes_f, x116.2)
    else
      mm_Mo_answer_J122 F v1 v2 v3 t_time t_capacity t_period t_columns t_entries t_association t_size t_sent t_many t_registers_f t_column_f t_times_f t_values_f t_bytes_f t_line_f t_made_f)
  else
    mm_Mo_answer_J122 F v1 v2 v3 t_time t_capacity t_period t_columns t_entries t_association t_size t_sent t_many t_registers_f t_column_f t_times_f t_values_f t_bytes_f t_line_f t_made_f) := rfl
def mm_Mo_answer_J68 (F : Nat) (s0 : Int32) (t_time : Int32) (t_capacity : Int32) (t_period : Int32) (t_columns : Int32) (t_entries : Int32) (t_association : Int32) (t_size : Int32) (t_sent : Int32) (t_many : Int32) (t_registers_f : Nat → Int32) (t_column_f : Nat → Int32) (t_times_f : Nat → Int32) (t_values_f : Nat → Int32) (t_bytes_f : Nat → Int32) (t_made_f : Nat → Int32) : Option (Int32 × Int32 × Int32 × Int32 × Int32 × Int32 × Int32 × Int32 × Int32 × (Nat → Int32) × (Nat → Int32) × (Nat → Int32) × (Nat → Int32) × (Nat → Int32) × (Nat → Int32)) :=
  (if s0 ≤ 0 then
    (mm_Mo_say F 97 1 t_many t_made_f).bind fun x86 =>
    some (t_time, t_capacity, t_period, t_columns, t_entries, s0, t_size, t_sent, x86.1, t_registers_f, t_column_f, t_times_f, t_values_f, t_bytes_f, x86.2)
  else
    (mm_Mo_say F 97 0 t_many t_made_f).bind fun x86 =>
    some (t_time, t_capacity, t_period, t_columns, t_entries, s0, t_size, t_sent, x86.1, t_registers_f, t_column_f, t_times_f, t_values_f, t_bytes_f, x86.2))
theorem mq_Mo_answer_J68 (F : Nat) (s0 : Int32) (t_time : Int32) (t_capacity : Int32) (t_period : Int32) (t_columns : Int32) (t_entries : Int32) (t_association : Int32) (t_size : Int32) (t_sent : Int32) (t_many : Int32) (t_registers_f : Nat → Int32) (t_column_f : Nat → Int32) (t_times_f : Nat → Int32) (t_values_f : Nat → Int32) (t_bytes_f : Nat → Int32) (t_made_f : Nat → Int32) : mm_Mo_answer_J68 F s0 t_time t_capacity t_period t_columns t_entries t_association t_size t_sent t_many t_registers_f t_column_f t_times_f t_values_f t_bytes_f t_made_f =
  (if s0 ≤ 0 then
    (mm_Mo_say F 97 1 t_many t_made_f).bind fun x86 =>
    some (t_time, t_capacity, t_period, t_columns, t_entries, s0, t_size, t_sent, x86.1, t_registers_f, t_column_f, t_times_f, t_values_f, t_bytes_f, x86.2)
  else
    (mm_Mo_say F 97 0 t_many t_made_f).bind fun x86 =>
    some (t_time, t_capacity, t_period, t_columns, t_entries, s0, t_size, t_sent, x86.1, t_registers_f, t_column_f, t_times_f, t_values_f, t_bytes_f, x86.2)) := rfl
def mm_Mo_answer_J67 (F : Nat) (t_time : Int32) (t_capacity : Int32) (t_period : Int32) (t_columns : Int32) (t_entries : Int32) (t_association : Int32) (t_size : Int32) (t_sent : Int32) (t_many : Int32) (t_registers_f : Nat → Int32) (t_column_f : Nat → Int32) (t_times_f : Nat → Int32) (t_values_f : Nat → Int32) (t_bytes_f : Nat → Int32) (t_made_f : Nat → Int32) : Option (Int32 × Int32 × Int32 × Int32 × Int32 × Int32 × Int32 × Int32 × Int32 × (Nat → Int32) × (Nat → Int32) × (Nat → Int32) × (Nat → Int32) × (Nat → Int32) × (Nat → Int32)) :=
  mm_Mo_answer_J68 F 0 t_time t_capacity t_period t_columns t_entries t_association t_size t_sent t_many t_registers_f t_column_f t_times_f t_values_f t_bytes_f t_made_f
theorem mq_Mo_answer_J67 (F : Nat) (t_time : Int32) (t_capacity : Int32) (t_period : Int32) (t_columns : Int32) (t_entries : Int32) (t_association : Int32) (t_size : Int32) (t_sent : Int32) (t_many : Int32) (t_registers_f : Nat → Int32) (t_column_f : Nat → Int32) (t_times_f : Nat → Int32) (t_values_f : Nat → Int32) (t_bytes_f : Nat → Int32) (t_made_f : Nat → Int32) : mm_Mo_answer_J67 F t_time t_capacity t_period t_columns t_entries t_association t_size t_sent t_many t_registers_f t_column_f t_times_f t_values_f t_bytes_f t_made_f =
  mm_Mo_answer_J68 F 0 t_time t_capacity t_period t_columns t_entries t_association t_size t_sent t_many t_registers_f t_column_f t_times_f t_values_f t_bytes_f t_made_f := rfl
def mm_Mo_answer (F : Nat) (i1 : Int32) (t_secret : Int32) (t_time : Int32) (t_capacity : Int32) (t_period : Int32) (t_columns : Int32) (t_entries : Int32) (t_association : Int32) (t_size : Int32) (t_sent : Int32) (t_many : Int32) (t_registers_f : Nat → Int32) (t_column_f : Nat → Int32) (t_times_f : Nat → Int32) (t_values_f : Nat → Int32) (t_bytes_f : Nat → Int32) (t_line_f : Nat → Int32) (t_made_f : Nat → Int32) : Option (Int32 × Int32 × Int32 × Int32 × Int32 × Int32 × Int32 × Int32 × Int32 × (Nat → Int32) × (Nat → Int32) × (Nat → Int32) × (Nat → Int32) × (Nat → Int32) × (Nat → Int32)) :=
  (mm_Mo_at F 0 t_line_f).bind fun x2 =>
  (if x2 = 96 then
    (if i1 = 6 then
      (mm_Mo_at F 1 t_line_f).bind fun x31 =>
      (if x31 = 1 then
        mm_Mo_answer_J68 F 1 t_time t_capacity t_period t_columns t_entries t_association 0 t_sent t_many t_registers_f t_column_f t_times_f t_values_f t_bytes_f t_made_f
      else
        (mm_Mo_at F 1 t_line_f).bind fun x44 =>
        (if x44 = 2 then
          (mm_Mo_intAt F 2 t_line_f).bind fun x53 =>
          (if x53 = t_secret then
            mm_Mo_answer_J68 F 2 t_time t_capacity t_period t_columns t_entries t_association 0 t_sent t_many t_registers_f t_column_f t_times_f t_values_f t_bytes_f t_made_f
          else
            mm_Mo_answer_J67 F t_time t_capacity t_period t_columns t_entries t_association 0 t_sent t_many t_registers_f t_column_f t_times_f t_values_f t_bytes_f t_made_f)
        else
          mm_Mo_answer_J67 F t_time t_capacity t_period t_columns t_entries t_association 0 t_sent t_many t_registers_f t_column_f t_times_f t_values_f t_bytes_f t_made_f))
    else
      mm_Mo_answer_J92 F i1 x2 t_size t_time t_capacity t_period t_columns t_entries t_association 0 t_sent t_many t_registers_f t_column_f t_times_f t_values_f t_bytes_f t_line_f t_made_f)
  else
    mm_Mo_answer_J92 F i1 x2 t_size t_time t_capacity t_period t_columns t_entries t_association 0 t_sent t_many t_registers_f t_column_f t_times_f t_values_f t_bytes_f t_line_f t_made_f)
theorem mq_Mo_answer (F : Nat) (i1 : Int32) (t_secret : Int32) (t_time : Int32) (t_capacity : Int32) (t_period : Int32) (t_columns : Int32) (t_entries : Int32) (t_association : Int32) (t_size : Int32) (t_sent : Int32) (t_many : Int32) (t_registers_f : Nat → Int32) (t_column_f : Nat → Int32) (t_times_f : Nat → Int32) (t_values_f : Nat → Int32) (t_bytes_f : Nat → Int32) (t_line_f : Nat → Int32) (t_made_f : Nat → Int32) : mm_Mo_answer F i1 t_secret t_time t_capacity t_period t_columns t_entries t_association t_size t_sent t_many t_registers_f t_column_f t_times_f t_values_f t_bytes_f t_line_f t_made_f =
  (mm_Mo_at F 0 t_line_f).bind fun x2 =>
  (if x2 = 96 then
    (if i1 = 6 then
      (mm_Mo_at F 1 t_line_f).bind fun x31 =>
      (if x31 = 1 then
        mm_Mo_answer_J68 F 1 t_time t_capacity t_period t_columns t_entries t_association 0 t_sent t_many t_registers_f t_column_f t_times_f t_values_f t_bytes_f t_made_f
      else
        (mm_Mo_at F 1 t_line_f).bind fun x44 =>
        (if x44 = 2 then
          (mm_Mo_intAt F 2 t_line_f).bind fun x53 =>
          (if x53 = t_secret then
            mm_Mo_answer_J68 F 2 t_time t_capacity t_period t_columns t_entries t_association 0 t_sent t_many t_registers_f t_column_f t_times_f t_values_f t_bytes_f t_made_f
          else
            mm_Mo_answer_J67 F t_time t_capacity t_period t_columns t_entries t_association 0 t_sent t_many t_registers_f t_column_f t_times_f t_values_f t_bytes_f t_made_f)
        else
          mm_Mo_answer_J67 F t_time t_capacity t_period t_columns t_entries t_association 0 t_sent t_many t_registers_f t_column_f t_times_f t_values_f t_bytes_f t_made_f))
    else
      mm_Mo_answer_J92 F i1 x2 t_size t_time t_capacity t_period t_columns t_entries t_association 0 t_sent t_many t_registers_f t_column_f t_times_f t_values_f t_bytes_f t_line_f t_made_f)
  else
    mm_Mo_answer_J92 F i1 x2 t_size t_time t_capacity t_period t_columns t_entries t_association 0 t_sent t_many t_registers_f t_column_f t_times_f t_values_f t_bytes_f t_line_f t_made_f) := rfl
def mm_Mo_inform_J141 (F : Nat) (v1 : Int32) (v2 : Int32) (t_time : Int32) (t_capacity : Int32) (t_period : Int32) (t_columns : Int32) (t_entries : Int32) (t_expected : Int32) (t_next : Int32) (t_association : Int32) (t_size : Int32) (t_sent : Int32) (t_told : Int32) (t_latestSize : Int32) (t_many : Int32) (t_registers_f : Nat → Int32) (t_column_f : Nat → Int32) (t_times_f : Nat → Int32) (t_values_f : Nat → Int32) (t_bytes_f : Nat → Int32) (t_reply_f : Nat → Int32) (t_latest_f : Nat → Int32) (t_made_f : Nat → Int32) : Option (Int32 × Int32 × Int32 × Int32 × Int32 × Int32 × Int32 × Int32 × Int32 × Int32 × Int32 × Int32 × Int32 × (Nat → Int32) × (Nat → Int32) × (Nat → Int32) × (Nat → Int32) × (Nat → Int32) × (Nat → Int32) × (Nat → Int32) × (Nat → Int32)) :=
  (if v1 = (bs_rem (t_expected + 7) 8) then
    (if v2 = (bs_rem (t_next + 7) 8) then
      (if t_latestSize ≤ 0 then
        (mm_Mo_replyControl F (17 + (32 * t_expected)) t_told t_reply_f).bind fun x194 =>
        some (t_time, t_capacity, t_period, t_columns, t_entries, t_expected, t_next, t_association, t_size, t_sent, x194.1, t_latestSize, t_many, t_registers_f, t_column_f, t_times_f, t_values_f, t_bytes_f, x194.2, t_latest_f, t_made_f)
      else
        (mm_Mo_replyLatest F t_told t_latestSize t_reply_f t_latest_f).bind fun x177 =>
        some (t_time, t_capacity, t_period, t_columns, t_entries, t_expected, t_next, t_association, t_size, t_sent, x177.1, t_latestSize, t_many, t_registers_f, t_column_f, t_times_f, t_values_f, t_bytes_f, x177.2, t_latest_f, t_made_f))
    else
      (mm_Mo_replyControl F (17 + (32 * t_expected)) t_told t_reply_f).bind fun x194 =>
      some (t_time, t_capacity, t_period, t_columns, t_entries, t_expected, t_next, t_association, t_size, t_sent, x194.1, t_latestSize, t_many, t_registers_f, t_column_f, t_times_f, t_values_f, t_bytes_f, x194.2, t_latest_f, t_made_f))
  else
    (mm_Mo_replyControl F (17 + (32 * t_expected)) t_told t_reply_f).bind fun x194 =>
    some (t_time, t_capacity, t_period, t_columns, t_entries, t_expected, t_next, t_association, t_size, t_sent, x194.1, t_latestSize, t_many, t_registers_f, t_column_f, t_times_f, t_values_f, t_bytes_f, x194.2, t_latest_f, t_made_f))
theorem mq_Mo_inform_J141 (F : Nat) (v1 : Int32) (v2 : Int32) (t_time : Int32) (t_capacity : Int32) (t_period : Int32) (t_columns : Int32) (t_entries : Int32) (t_expected : Int32) (t_next : Int32) (t_association : Int32) (t_size : Int32) (t_sent : Int32) (t_told : Int32) (t_latestSize : Int32) (t_many : Int32) (t_registers_f : Nat → Int32) (t_column_f : Nat → Int32) (t_times_f : Nat → Int32) (t_values_f : Nat → Int32) (t_bytes_f : Nat → Int32) (t_reply_f : Nat → Int32) (t_latest_f : Nat → Int32) (t_made_f : Nat → Int32) : mm_Mo_inform_J141 F v1 v2 t_time t_capacity t_period t_columns t_entries t_expected t_next t_association t_size t_sent t_told t_latestSize t_many t_registers_f t_column_f t_times_f t_values_f t_bytes_f t_reply_f t_latest_f t_made_f =
  (if v1 = (bs_rem (t_expected + 7) 8) then
    (if v2 = (bs_rem (t_next + 7) 8) then
      (if t_latestSize ≤ 0 then
        (mm_Mo_replyControl F (17 + (32 * t_expected)) t_told t_reply_f).bind fun x194 =>
        some (t_time, t_capacity, t_period, t_columns, t_entries, t_expected, t_next, t_association, t_size, t_sent, x194.1, t_latestSize, t_many, t_registers_f, t_column_f, t_times_f, t_values_f, t_bytes_f, x194.2, t_latest_f, t_made_f)
      else
        (mm_Mo_replyLatest F t_told t_latestSize t_reply_f t_latest_f).bind fun x177 =>
        some (t_time, t_capacity, t_period, t_columns, t_entries, t_expected, t_next, t_association, t_size, t_sent, x177.1, t_latestSize, t_many, t_registers_f, t_column_f, t_times_f, t_values_f, t_bytes_f, x177.2, t_latest_f, t_made_f))
    else
      (mm_Mo_replyControl F (17 + (32 * t_expected)) t_told t_reply_f).bind fun x194 =>
      some (t_time, t_capacity, t_period, t_columns, t_entries, t_expected, t_next, t_association, t_size, t_sent, x194.1, t_latestSize, t_many, t_registers_f, t_column_f, t_times_f, t_values_f, t_bytes_f, x194.2, t_latest_f, t_made_f))
  else
    (mm_Mo_replyControl F (17 + (32 * t_expected)) t_told t_reply_f).bind fun x194 =>
    some (t_time, t_capacity, t_period, t_columns, t_entries, t_expected, t_next, t_association, t_size, t_sent, x194.1, t_latestSize, t_many, t_registers_f, t_column_f, t_times_f, t_values_f, t_bytes_f, x194.2, t_latest_f, t_made_f)) := rfl
def mm_Mo_inform_L72 (F : Nat) : Nat → (Int32) → (Int32) → (Int32) → (Int32) → (Int32) → (Int32) → (Int32) → (Int32) → (Int32) → (Int32) → (Int32) → (Int32) → (Int32) → (Int32) → (Int32) → (Nat → Int32) → (Nat → Int32) → (Nat → Int32) → (Nat → Int32) → (Nat → Int32) → (Nat → Int32) → (Nat → Int32) → (Nat → Int32) → Option (Int32 × Int32 × Int32 × Int32 × Int32 × Int32 × Int32 × Int32 × Int32 × Int32 × Int32 × Int32 × Int32 × (Nat → Int32) × (Nat → Int32) × (Nat → Int32) × (Nat → Int32) × (Nat → Int32) × (Nat → Int32) × (Nat → Int32) × (Nat → Int32))
  | 0, _, _, _, _, _, _, _, _, _, _, _, _, _, _, _, _, _, _, _, _, _, _, _ => none
  | k + 1, v4, v5, t_time, t_capacity, t_period, t_columns, t_entries, t_expected, t_next, t_association, t_size, t_sent, t_told, t_latestSize, t_many, t_registers_f, t_column_f, t_times_f, t_values_f, t_bytes_f, t_reply_f, t_latest_f, t_made_f =>
    (if t_many ≤ v5 then
      (mm_Mo_wrap F 80 ((16 + (2 * v4)) + (32 * t_expected)) t_many t_latest_f).bind fun x128 =>
      (mm_Mo_replyLatest F t_told x128.1 t_reply_f x128.2).bind fun x135 =>
      some (t_time, t_capacity, t_period, t_columns, t_entries, t_expected, t_next, t_association, t_size, t_sent, x135.1, x128.1, t_many, t_registers_f, t_column_f, t_times_f, t_values_f, t_bytes_f, x135.2, x128.2, t_made_f)
    else
      (if v5 < 0 ∨ 300 ≤ v5.toNatClampNeg then none else
      (if (6 + v5) < 0 ∨ 80 ≤ (6 + v5).toNatClampNeg then none else
      mm_Mo_inform_L72 F k v4 (v5 + 1) t_time t_capacity t_period t_columns t_entries t_expected t_next t_association t_size t_sent t_told t_latestSize t_many t_registers_f t_column_f t_times_f t_values_f t_bytes_f t_reply_f (upd t_latest_f ((6 + v5).toNatClampNeg) (t_made_f v5.toNatClampNeg)) t_made_f)))
theorem mq_Mo_inform_L72 (F : Nat) (k : Nat) (v4 : Int32) (v5 : Int32) (t_time : Int32) (t_capacity : Int32) (t_period : Int32) (t_columns : Int32) (t_entries : Int32) (t_expected : Int32) (t_next : Int32) (t_association : Int32) (t_size : Int32) (t_sent : Int32) (t_told : Int32) (t_latestSize : Int32) (t_many : Int32) (t_registers_f : Nat → Int32) (t_column_f : Nat → Int32) (t_times_f : Nat → Int32) (t_values_f : Nat → Int32) (t_bytes_f : Nat → Int32) (t_reply_f : Nat → Int32) (t_latest_f : Nat → Int32) (t_made_f : Nat → Int32) : mm_Mo_inform_L72 F (k + 1) v4 v5 t_time t_capacity t_period t_columns t_entries t_expected t_next t_association t_size t_sent t_told t_latestSize t_many t_registers_f t_column_f t_times_f t_values_f t_bytes_f t_reply_f t_latest_f t_made_f =
    (if t_many ≤ v5 then
      (mm_Mo_wrap F 80 ((16 + (2 * v4)) + (32 * t_expected)) t_many t_latest_f).bind fun x128 =>
      (mm_Mo_replyLatest F t_told x128.1 t_reply_f x128.2).bind fun x135 =>
      some (t_time, t_capacity, t_period, t_columns, t_entries, t_expected, t_next, t_association, t_size, t_sent, x135.1, x128.1, t_many, t_registers_f, t_column_f, t_times_f, t_values_f, t_bytes_f, x135.2, x128.2, t_made_f)
    else
      (if v5 < 0 ∨ 300 ≤ v5.toNatClampNeg then none else
      (if (6 + v5) < 0 ∨ 80 ≤ (6 + v5).toNatClampNeg then none else
      mm_Mo_inform_L72 F k v4 (v5 + 1) t_time t_capacity t_period t_columns t_entries t_expected t_next t_association t_size t_sent t_told t_latestSize t_many t_registers_f t_column_f t_times_f t_values_f t_bytes_f t_reply_f (upd t_latest_f ((6 + v5).toNatClampNeg) (t_made_f v5.toNatClampNeg)) t_made_f))) := rfl
def mm_Mo_inform (F : Nat) (i1 : Int32) (i2 : Int32) (i3 : Int32) (t_secret : Int32) (t_time : Int32) (t_capacity : Int32) (t_period : Int32) (t_columns : Int32) (t_entries : Int32) (t_connected : Int32) (t_expected : Int32) (t_next : Int32) (t_association : Int32) (t_size : Int32) (t_sent : Int32) (t_told : Int32) (t_latestSize : Int32) (t_many : Int32) (t_registers_f : Nat → Int32) (t_column_f : Nat → Int32) (t_times_f : Nat → Int32) (t_values_f : Nat → Int32) (t_bytes_f : Nat → Int32) (t_line_f : Nat → Int32) (t_reply_f : Nat → Int32) (t_latest_f : Nat → Int32) (t_made_f : Nat → Int32) : Option (Int32 × Int32 × Int32 × Int32 × Int32 × Int32 × Int32 × Int32 × Int32 × Int32 × Int32 × Int32 × Int32 × (Nat → Int32) × (Nat → Int32) × (Nat → Int32) × (Nat → Int32) × (Nat → Int32) × (Nat → Int32) × (Nat → Int32) × (Nat → Int32)) :=
  (if t_connected = 0 then
    (mm_Mo_replyControl F 31 t_told t_reply_f).bind fun x10 =>
    some (t_time, t_capacity, t_period, t_columns, t_entries, t_expected, t_next, t_association, t_size, t_sent, x10.1, t_latestSize, t_many, t_registers_f, t_column_f, t_times_f, t_values_f, t_bytes_f, x10.2, t_latest_f, t_made_f)
  else
    (if i1 = t_expected then
      (if i2 = t_next then
        (mm_Mo_answer F i3 t_secret t_time t_capacity t_period t_columns t_entries t_association t_size t_sent t_many t_registers_f t_column_f t_times_f t_values_f t_bytes_f t_line_f t_made_f).bind fun x66 =>
        mm_Mo_inform_L72 F F t_next 0 x66.1 x66.2.1 x66.2.2.1 x66.2.2.2.1 x66.2.2.2.2.1 (bs_rem (t_expected + 1) 8) (bs_rem (t_next + 1) 8) x66.2.2.2.2.2.1 x66.2.2.2.2.2.2.1 x66.2.2.2.2.2.2.2.1 t_told t_latestSize x66.2.2.2.2.2.2.2.2.1 x66.2.2.2.2.2.2.2.2.2.1 x66.2.2.2.2.2.2.2.2.2.2.1 x66.2.2.2.2.2.2.2.2.2.2.2.1 x66.2.2.2.2.2.2.2.2.2.2.2.2.1 x66.2.2.2.2.2.2.2.2.2.2.2.2.2.1 t_reply_f t_latest_f x66.2.2.2.2.2.2.2.2.2.2.2.2.2.2
      else
        mm_Mo_inform_J141 F i1 i2 t_time t_capacity t_period t_columns t_entries t_expected t_next t_association t_size t_sent t_told t_latestSize t_many t_registers_f t_column_f t_times_f t_values_f t_bytes_f t_reply_f t_latest_f t_made_f)
    else
      mm_Mo_inform_J141 F i1 i2 t_time t_capacity t_period t_columns t_entries t_expected t_next t_association t_size t_sent t_told t_latestSize t_many t_registers_f t_column_f t_times_f t_values_f t_bytes_f t_reply_f t_latest_f t_made_f))
theorem mq_Mo_inform (F : Nat) (i1 : Int32) (i2 : Int32) (i3 : Int32) (t_secret : Int32) (t_time : Int32) (t_capacity : Int32) (t_period : Int32) (t_columns : Int32) (t_entries : Int32) (t_connected : Int32) (t_expected : Int32) (t_next : Int32) (t_association : Int32) (t_size : Int32) (t_sent : Int32) (t_told : Int32) (t_latestSize : Int32) (t_many : Int32) (t_registers_f : Nat → Int32) (t_column_f : Nat → Int32) (t_times_f : Nat → Int32) (t_values_f : Nat → Int32) (t_bytes_f : Nat → Int32) (t_line_f : Nat → Int32) (t_reply_f : Nat → Int32) (t_latest_f : Nat → Int32) (t_made_f : Nat → Int32) : mm_Mo_inform F i1 i2 i3 t_secret t_time t_capacity t_period t_columns t_entries t_connected t_expected t_next t_association t_size t_sent t_told t_latestSize t_many t_registers_f t_column_f t_times_f t_values_f t_bytes_f t_line_f t_reply_f t_latest_f t_made_f =
  (if t_connected = 0 then
    (mm_Mo_replyControl F 31 t_told t_reply_f).bind fun x10 =>
    some (t_time, t_capacity, t_period, t_columns, t_entries, t_expected, t_next, t_association, t_size, t_sent, x10.1, t_latestSize, t_many, t_registers_f, t_column_f, t_times_f, t_values_f, t_bytes_f, x10.2, t_latest_f, t_made_f)
  else
    (if i1 = t_expected then
      (if i2 = t_next then
        (mm_Mo_answer F i3 t_secret t_time t_capacity t_period t_columns t_entries t_association t_size t_sent t_many t_registers_f t_column_f t_times_f t_values_f t_bytes_f t_line_f t_made_f).bind fun x66 =>
        mm_Mo_inform_L72 F F t_next 0 x66.1 x66.2.1 x66.2.2.1 x66.2.2.2.1 x66.2.2.2.2.1 (bs_rem (t_expected + 1) 8) (bs_rem (t_next + 1) 8) x66.2.2.2.2.2.1 x66.2.2.2.2.2.2.1 x66.2.2.2.2.2.2.2.1 t_told t_latestSize x66.2.2.2.2.2.2.2.2.1 x66.2.2.2.2.2.2.2.2.2.1 x66.2.2.2.2.2.2.2.2.2.2.1 x66.2.2.2.2.2.2.2.2.2.2.2.1 x66.2.2.2.2.2.2.2.2.2.2.2.2.1 x66.2.2.2.2.2.2.2.2.2.2.2.2.2.1 t_reply_f t_latest_f x66.2.2.2.2.2.2.2.2.2.2.2.2.2.2
      else
        mm_Mo_inform_J141 F i1 i2 t_time t_capacity t_period t_columns t_entries t_expected t_next t_association t_size t_sent t_told t_latestSize t_many t_registers_f t_column_f t_times_f t_values_f t_bytes_f t_reply_f t_latest_f t_made_f)
    else
      mm_Mo_inform_J141 F i1 i2 t_time t_capacity t_period t_columns t_entries t_expected t_next t_association t_size t_sent t_told t_latestSize t_many t_registers_f t_column_f t_times_f t_values_f t_bytes_f t_reply_f t_latest_f t_made_f)) := rfl
def mm_Mo_look_J93 (F : Nat) (v1 : Int32) (v2 : Int32) (t_secret : Int32) (t_time : Int32) (t_capacity : Int32) (t_period : Int32) (t_columns : Int32) (t_entries : Int32) (t_connected : Int32) (t_expected : Int32) (t_next : Int32) (t_association : Int32) (t_size : Int32) (t_sent : Int32) (t_told : Int32) (t_latestSize : Int32) (t_many : Int32) (t_registers_f : Nat → Int32) (t_column_f : Nat → Int32) (t_times_f : Nat → Int32) (t_values_f : Nat → Int32) (t_bytes_f : Nat → Int32) (t_line_f : Nat → Int32) (t_reply_f : Nat → Int32) (t_latest_f : Nat → Int32) (t_made_f : Nat → Int32) : Option (Int32 × Int32 × Int32 × Int32 × Int32 × Int32 × Int32 × Int32 × Int32 × Int32 × Int32 × Int32 × Int32 × Int32 × (Nat → Int32) × (Nat → Int32) × (Nat → Int32) × (Nat → Int32) × (Nat → Int32) × (Nat → Int32) × (Nat → Int32) × (Nat → Int32)) :=
  (if v1 ≤ 0 then
    some (t_time, t_capacity, t_period, t_columns, t_entries, t_connected, t_expected, t_next, t_association, t_size, t_sent, t_told, t_latestSize, t_many, t_registers_f, t_column_f, t_times_f, t_values_f, t_bytes_f, t_reply_f, t_latest_f, t_made_f)
  else
    (if (bs_rem v2 2) = 0 then
      (if (bs_rem (v2 / 16) 2) = 1 then
        (mm_Mo_inform F (bs_rem (v2 / 2) 8) (v2 / 32) v1 t_secret t_time t_capacity t_period t_columns t_entries t_connected t_expected t_next t_association t_size t_sent t_told t_latestSize t_many t_registers_f t_column_f t_times_f t_values_f t_bytes_f t_line_f t_reply_f t_latest_f t_made_f).bind fun x125 =>
        some (x125.1, x125.2.1, x125.2.2.1, x125.2.2.2.1, x125.2.2.2.2.1, t_connected, x125.2.2.2.2.2.1, x125.2.2.2.2.2.2.1, x125.2.2.2.2.2.2.2.1, x125.2.2.2.2.2.2.2.2.1, x125.2.2.2.2.2.2.2.2.2.1, x125.2.2.2.2.2.2.2.2.2.2.1, x125.2.2.2.2.2.2.2.2.2.2.2.1, x125.2.2.2.2.2.2.2.2.2.2.2.2.1, x125.2.2.2.2.2.2.2.2.2.2.2.2.2.1, x125.2.2.2.2.2.2.2.2.2.2.2.2.2.2.1, x125.2.2.2.2.2.2.2.2.2.2.2.2.2.2.2.1, x125.2.2.2.2.2.2.2.2.2.2.2.2.2.2.2.2.1, x125.2.2.2.2.2.2.2.2.2.2.2.2.2.2.2.2.2.1, x125.2.2.2.2.2.2.2.2.2.2.2.2.2.2.2.2.2.2.1, x125.2.2.2.2.2.2.2.2.2.2.2.2.2.2.2.2.2.2.2.1, x125.2.2.2.2.2.2.2.2.2.2.2.2.2.2.2.2.2.2.2.2)
      else
        some (t_time, t_capacity, t_period, t_columns, t_entries, t_connected, t_expected, t_next, t_association, t_size, t_sent, t_told, t_latestSize, t_many, t_registers_f, t_column_f, t_times_f, t_values_f, t_bytes_f, t_reply_f, t_latest_f, t_made_f))
    else
      some (t_time, t_capacity, t_period, t_columns, t_entries, t_connected, t_expected, t_next, t_association, t_size, t_sent, t_told, t_latestSize, t_many, t_registers_f, t_column_f, t_times_f, t_values_f, t_bytes_f, t_reply_f, t_latest_f, t_made_f)))
theorem mq_Mo_look_J93 (F : Nat) (v1 : Int32) (v2 : Int32) (t_secret : Int32) (t_time : Int32) (t_capacity : Int32) (t_period : Int32) (t_columns : Int32) (t_entries : Int32) (t_connected : Int32) (t_expected : Int32) (t_next : Int32) (t_association : Int32) (t_size : Int32) (t_sent : Int32) (t_told : Int32) (t_latestSize : Int32) (t_many : Int32) (t_registers_f : Nat → Int32) (t_column_f : Nat → Int32) (t_times_f : Nat → Int32) (t_values_f : Nat → Int32) (t_bytes_f : Nat → Int32) (t_line_f : Nat → Int32) (t_reply_f : Nat → Int32) (t_latest_f : Nat → Int32) (t_made_f : Nat → Int32) : mm_Mo_look_J93 F v1 v2 t_secret t_time t_capacity t_period t_columns t_entries t_connected t_expected t_next t_association t_size t_sent t_told t_latestSize t_many t_registers_f t_column_f t_times_f t_values_f t_bytes_f t_line_f t_reply_f t_latest_f t_made_f =
  (if v1 ≤ 0 then
    some (t_time, t_capacity, t_period, t_columns, t_entries, t_connected, t_expected, t_next, t_association, t_size, t_sent, t_told, t_latestSize, t_many, t_registers_f, t_column_f, t_times_f, t_values_f, t_bytes_f, t_reply_f, t_latest_f, t_made_f)
  else
    (if (bs_rem v2 2) = 0 then
      (if (bs_rem (v2 / 16) 2) = 1 then
        (mm_Mo_inform F (bs_rem (v2 / 2) 8) (v2 / 32) v1 t_secret t_time t_capacity t_period t_columns t_entries t_connected t_expected t_next t_association t_size t_sent t_told t_latestSize t_many t_registers_f t_column_f t_times_f t_values_f t_bytes_f t_line_f t_reply_f t_latest_f t_made_f).bind fun x125 =>
        some (x125.1, x125.2.1, x125.2.2.1, x125.2.2.2.1, x125.2.2.2.2.1, t_connected, x125.2.2.2.2.2.1, x125.2.2.2.2.2.2.1, x125.2.2.2.2.2.2.2.1, x125.2.2.2.2.2.2.2.2.1, x125.2.2.2.2.2.2.2.2.2.1, x125.2.2.2.2.2.2.2.2.2.2.1, x125.2.2.2.2.2.2.2.2.2.2.2.1, x125.2.2.2.2.2.2.2.2.2.2.2.2.1, x125.2.2.2.2.2.2.2.2.2.2.2.2.2.1, x125.2.2.2.2.2.2.2.2.2.2.2.2.2.2.1, x125.2.2.2.2.2.2.2.2.2.2.2.2.2.2.2.1, x125.2.2.2.2.2.2.2.2.2.2.2.2.2.2.2.2.1, x125.2.2.2.2.2.2.2.2.2.2.2.2.2.2.2.2.2.1, x125.2.2.2.2.2.2.2.2.2.2.2.2.2.2.2.2.2.2.1, x125.2.2.2.2.2.2.2.2.2.2.2.2.2.2.2.2.2.2.2.1, x125.2.2.2.2.2.2.2.2.2.2.2.2.2.2.2.2.2.2.2.2)
      else
        some (t_time, t_capacity, t_period, t_columns, t_entries, t_connected, t_expected, t_next, t_association, t_size, t_sent, t_told, t_latestSize, t_many, t_registers_f, t_column_f, t_times_f, t_values_f, t_bytes_f, t_reply_f, t_latest_f, t_made_f))
    else
      some (t_time, t_capacity, t_period, t_columns, t_entries, t_connected, t_expected, t_next, t_association, t_size, t_sent, t_told, t_latestSize, t_many, t_registers_f, t_column_f, t_times_f, t_values_f, t_bytes_f, t_reply_f, t_latest_f, t_made_f))) := rfl
def mm_Mo_look_J57 (F : Nat) (v1 : Int32) (v2 : Int32) (t_secret : Int32) (t_time : Int32) (t_capacity : Int32) (t_period : Int32) (t_columns : Int32) (t_entries : Int32) (t_connected : Int32) (t_expected : Int32) (t_next : Int32) (t_association : Int32) (t_size : Int32) (t_sent : Int32) (t_told : Int32) (t_latestSize : Int32) (t_many : Int32) (t_registers_f : Nat → Int32) (t_column_f : Nat → Int32) (t_times_f : Nat → Int32) (t_values_f : Nat → Int32) (t_bytes_f : Nat → Int32) (t_line_f : Nat → Int32) (t_reply_f : Nat → Int32) (t_latest_f : Nat → Int32) (t_made_f : Nat → Int32) : Option (Int32 × Int32 × Int32 × Int32 × Int32 × Int32 × Int32 × Int32 × Int32 × Int32 × Int32 × Int32 × Int32 × Int32 × (Nat → Int32) × (Nat → Int32) × (Nat → Int32) × (Nat → Int32) × (Nat → Int32) × (Nat → Int32) × (Nat → Int32) × (Nat → Int32)) :=
  (if v2 = 83 then
    (if v1 = 0 then
      (if t_connected = 0 then
        (mm_Mo_replyControl F 31 t_told t_reply_f).bind fun x82 =>
        some (t_time, t_capacity, t_period, t_columns, t_entries, 0, t_expected, t_next, t_association, t_size, t_sent, x82.1, t_latestSize, t_many, t_registers_f, t_column_f, t_times_f, t_values_f, t_bytes_f, x82.2, t_latest_f, t_made_f)
      else
        (mm_Mo_replyControl F 115 t_told t_reply_f).bind fun x82 =>
        some (t_time, t_capacity, t_period, t_columns, t_entries, 0, t_expected, t_next, t_association, t_size, t_sent, x82.1, t_latestSize, t_many, t_registers_f, t_column_f, t_times_f, t_values_f, t_bytes_f, x82.2, t_latest_f, t_made_f))
    else
      mm_Mo_look_J93 F v1 v2 t_secret t_time t_capacity t_period t_columns t_entries t_connected t_expected t_next t_association t_size t_sent t_told t_latestSize t_many t_registers_f t_column_f t_times_f t_values_f t_bytes_f t_line_f t_reply_f t_latest_f t_made_f)
  else
    mm_Mo_look_J93 F v1 v2 t_secret t_time t_capacity t_period t_columns t_entries t_connected t_expected t_next t_association t_size t_sent t_told t_latestSize t_many t_registers_f t_column_f t_times_f t_values_f t_bytes_f t_line_f t_reply_f t_latest_f t_made_f)
theorem mq_Mo_look_J57 (F : Nat) (v1 : Int32) (v2 : Int32) (t_secret : Int32) (t_time : Int32) (t_capacity : Int32) (t_period : Int32) (t_columns : Int32) (t_entries : Int32) (t_connected : Int32) (t_expected : Int32) (t_next : Int32) (t_association : Int32) (t_size : Int32) (t_sent : Int32) (t_told : Int32) (t_latestSize : Int32) (t_many : Int32) (t_registers_f : Nat → Int32) (t_column_f : Nat → Int32) (t_times_f : Nat → Int32) (t_values_f : Nat → Int32) (t_bytes_f : Nat → Int32) (t_line_f : Nat → Int32) (t_reply_f : Nat → Int32) (t_latest_f : Nat → Int32) (t_made_f : Nat → Int32) : mm_Mo_look_J57 F v1 v2 t_secret t_time t_capacity t_period t_columns t_entries t_connected t_expected t_next t_association t_size t_sent t_told t_latestSize t_many t_registers_f t_column_f t_times_f t_values_f t_bytes_f t_line_f t_reply_f t_latest_f t_made_f =
  (if v2 = 83 then
    (if v1 = 0 then
      (if t_connected = 0 then
        (mm_Mo_replyControl F 31 t_told t_reply_f).bind fun x82 =>
        some (t_time, t_capacity, t_period, t_columns, t_entries, 0, t_expected, t_next, t_association, t_size, t_sent, x82.1, t_latestSize, t_many, t_registers_f, t_column_f, t_times_f, t_values_f, t_bytes_f, x82.2, t_latest_f, t_made_f)
      else
        (mm_Mo_replyControl F 115 t_told t_reply_f).bind fun x82 =>
        some (t_time, t_capacity, t_period, t_columns, t_entries, 0, t_expected, t_next, t_association, t_size, t_sent, x82.1, t_latestSize, t_many, t_registers_f, t_column_f, t_times_f, t_values_f, t_bytes_f, x82.2, t_latest_f, t_made_f))
    else
      mm_Mo_look_J93 F v1 v2 t_secret t_time t_capacity t_period t_columns t_entries t_connected t_expected t_next t_association t_size t_sent t_told t_latestSize t_many t_registers_f t_column_f t_times_f t_values_f t_bytes_f t_line_f t_reply_f t_latest_f t_made_f)
  else
    mm_Mo_look_J93 F v1 v2 t_secret t_time t_capacity t_period t_columns t_entries t_connected t_expected t_next t_association t_size t_sent t_told t_latestSize t_many t_registers_f t_column_f t_times_f t_values_f t_bytes_f t_line_f t_reply_f t_latest_f t_made_f) := rfl
def mm_Mo_look (F : Nat) (i1 : Int32) (t_secret : Int32) (t_time : Int32) (t_capacity : Int32) (t_period : Int32) (t_columns : Int32) (t_entries : Int32) (t_connected : Int32) (t_expected : Int32) (t_next : Int32) (t_association : Int32) (t_size : Int32) (t_sent : Int32) (t_told : Int32) (t_latestSize : Int32) (t_many : Int32) (t_registers_f : Nat → Int32) (t_column_f : Nat → Int32) (t_times_f : Nat → Int32) (t_values_f : Nat → Int32) (t_bytes_f : Nat → Int32) (t_line_f : Nat → Int32) (t_reply_f : Nat → Int32) (t_latest_f : Nat → Int32) (t_made_f : Nat → Int32) : Option (Int32 × Int32 × Int32 × Int32 × Int32 × Int32 × Int32 × Int32 × Int32 × Int32 × Int32 × Int32 × Int32 × Int32 × (Nat → Int32) × (Nat → Int32) × (Nat → Int32) × (Nat → Int32) × (Nat → Int32) × (Nat → Int32) × (Nat → Int32) × (Nat → Int32)) :=
  (if (t_line_f ((3 : Int32).toNatClampNeg)) = 147 then
    (if i1 = 0 then
      (mm_Mo_replyControl F 115 t_told t_reply_f).bind fun x51 =>
      some (t_time, t_capacity, t_period, t_columns, t_entries, 1, 0, 0, 0, 0, t_sent, x51.1, 0, t_many, t_registers_f, t_column_f, t_times_f, t_values_f, t_bytes_f, x51.2, t_latest_f, t_made_f)
    else
      mm_Mo_look_J57 F i1 (t_line_f ((3 : Int32).toNatClampNeg)) t_secret t_time t_capacity t_period t_columns t_entries t_connected t_expected t_next t_association t_size t_sent t_told t_latestSize t_many t_registers_f t_column_f t_times_f t_values_f t_bytes_f t_line_f t_reply_f t_latest_f t_made_f)
  else
    mm_Mo_look_J57 F i1 (t_line_f ((3 : Int32).toNatClampNeg)) t_secret t_time t_capacity t_period t_columns t_entries t_connected t_expected t_next t_association t_size t_sent t_told t_latestSize t_many t_registers_f t_column_f t_times_f t_values_f t_bytes_f t_line_f t_reply_f t_latest_f t_made_f)
theorem mq_Mo_look (F : Nat) (i1 : Int32) (t_secret : Int32) (t_time : Int32) (t_capacity : Int32) (t_period : Int32) (t_columns : Int32) (t_entries : Int32) (t_connected : Int32) (t_expected : Int32) (t_next : Int32) (t_association : Int32) (t_size : Int32) (t_sent : Int32) (t_told : Int32) (t_latestSize : Int32) (t_many : Int32) (t_registers_f : Nat → Int32) (t_column_f : Nat → Int32) (t_times_f : Nat → Int32) (t_values_f : Nat → Int32) (t_bytes_f : Nat → Int32) (t_line_f : Nat → Int32) (t_reply_f : Nat → Int32) (t_latest_f : Nat → Int32) (t_made_f : Nat → Int32) : mm_Mo_look F i1 t_secret t_time t_capacity t_period t_columns t_entries t_connected t_expected t_next t_association t_size t_sent t_told t_latestSize t_many t_registers_f t_column_f t_times_f t_values_f t_bytes_f t_line_f t_reply_f t_latest_f t_made_f =
  (if (t_line_f ((3 : Int32).toNatClampNeg)) = 147 then
    (if i1 = 0 then
      (mm_Mo_replyControl F 115 t_told t_reply_f).bind fun x51 =>
      some (t_time, t_capacity, t_period, t_columns, t_entries, 1, 0, 0, 0, 0, t_sent, x51.1, 0, t_many, t_registers_f, t_column_f, t_times_f, t_values_f, t_bytes_f, x51.2, t_latest_f, t_made_f)
    else
      mm_Mo_look_J57 F i1 (t_line_f ((3 : Int32).toNatClampNeg)) t_secret t_time t_capacity t_period t_columns t_entries t_connected t_expected t_next t_association t_size t_sent t_told t_latestSize t_many t_registers_f t_column_f t_times_f t_values_f t_bytes_f t_line_f t_reply_f t_latest_f t_made_f)
  else
    mm_Mo_look_J57 F i1 (t_line_f ((3 : Int32).toNatClampNeg)) t_secret t_time t_capacity t_period t_columns t_entries t_connected t_expected t_next t_association t_size t_sent t_told t_latestSize t_many t_registers_f t_column_f t_times_f t_values_f t_bytes_f t_line_f t_reply_f t_latest_f t_made_f) := rfl
def mm_Mo_hear (F : Nat) (i1 : Int32) (t_askS : Int32) (t_askR : Int32) : Option (Int32 × Int32) :=
  (if i1 = 115 then
    some (0, 0)
  else
    (if (bs_rem i1 2) = 0 then
      (if (bs_rem (i1 / 16) 2) = 1 then
        (if (bs_rem (i1 / 2) 8) = t_askR then
          (if (i1 / 32) = (bs_rem (t_askS + 1) 8) then
            some (bs_rem (t_askS + 1) 8, bs_rem (t_askR + 1) 8)
          else
            some (t_askS, t_askR))
        else
          some (t_askS, t_askR))
      else
        some (t_askS, t_askR))
    else
      some (t_askS, t_askR)))
theorem mq_Mo_hear (F : Nat) (i1 : Int32) (t_askS : Int32) (t_askR : Int32) : mm_Mo_hear F i1 t_askS t_askR =
  (if i1 = 115 then
    some (0, 0)
  else
    (if (bs_rem i1 2) = 0 then
      (if (bs_rem (i1 / 16) 2) = 1 then
        (if (bs_rem (i1 / 2) 8) = t_askR then
          (if (i1 / 32) = (bs_rem (t_askS + 1) 8) then
            some (bs_rem (t_askS + 1) 8, bs_rem (t_askR + 1) 8)
          else
            some (t_askS, t_askR))
        else
          some (t_askS, t_askR))
      else
        some (t_askS, t_askR))
    else
      some (t_askS, t_askR))) := rfl
def mm_Mo_deliver_J24 (F : Nat) (v1 : Int32) (t_thrown : Int32) (t_time : Int32) (t_capacity : Int32) (t_period : Int32) (t_columns : Int32) (t_entries : Int32) (t_connected : Int32) (t_expected : Int32) (t_next : Int32) (t_association : Int32) (t_size : Int32) (t_sent : Int32) (t_count : Int32) (t_told : Int32) (t_latestSize : Int32) (t_many : Int32) (t_askS : Int32) (t_askR : Int32) (t_registers_f : Nat → Int32) (t_column_f : Nat → Int32) (t_times_f : Nat → Int32) (t_values_f : Nat → Int32) (t_bytes_f : Nat → Int32) (t_reply_f : Nat → Int32) (t_latest_f : Nat → Int32) (t_made_f : Nat → Int32) : Option (Int32 × Int32 × Int32 × Int32 × Int32 × Int32 × Int32 × Int32 × Int32 × Int32 × Int32 × Int32 × Int32 × Int32 × Int32 × Int32 × Int32 × Int32 × Int32 × (Nat → Int32) × (Nat → Int32) × (Nat → Int32) × (Nat → Int32) × (Nat → Int32) × (Nat → Int32) × (Nat → Int32) × (Nat → Int32)) :=
  (if v1 = 0 then
    (if t_told ≤ 0 then
      some (t_told, t_thrown, t_time, t_capacity, t_period, t_columns, t_entries, t_connected, t_expected, t_next, t_association, t_size, t_sent, 0, t_told, t_latestSize, t_many, t_askS, t_askR, t_registers_f, t_column_f, t_times_f, t_values_f, t_bytes_f, t_reply_f, t_latest_f, t_made_f)
    else
      (mm_Mo_hear F (t_reply_f ((3 : Int32).toNatClampNeg)) t_askS t_askR).bind fun x55 =>
      some (t_told, t_thrown, t_time, t_capacity, t_period, t_columns, t_entries, t_connected, t_expected, t_next, t_association, t_size, t_sent, 0, t_told, t_latestSize, t_many, x55.1, x55.2, t_registers_f, t_column_f, t_times_f, t_values_f, t_bytes_f, t_reply_f, t_latest_f, t_made_f))
  else
    some (0, t_thrown, t_time, t_capacity, t_period, t_columns, t_entries, t_connected, t_expected, t_next, t_association, t_size, t_sent, 0, 0, t_latestSize, t_many, t_askS, t_askR, t_registers_f, t_column_f, t_times_f, t_values_f, t_bytes_f, t_reply_f, t_latest_f, t_made_f))
theorem mq_Mo_deliver_J24 (F : Nat) (v1 : Int32) (t_thrown : Int32) (t_time : Int32) (t_capacity : Int32) (t_period : Int32) (t_columns : Int32) (t_entries : Int32) (t_connected : Int32) (t_expected : Int32) (t_next : Int32) (t_association : Int32) (t_size : Int32) (t_sent : Int32) (t_count : Int32) (t_told : Int32) (t_latestSize : Int32) (t_many : Int32) (t_askS : Int32) (t_askR : Int32) (t_registers_f : Nat → Int32) (t_column_f : Nat → Int32) (t_times_f : Nat → Int32) (t_values_f : Nat → Int32) (t_bytes_f : Nat → Int32) (t_reply_f : Nat → Int32) (t_latest_f : Nat → Int32) (t_made_f : Nat → Int32) : mm_Mo_deliver_J24 F v1 t_thrown t_time t_capacity t_period t_columns t_entries t_connected t_expected t_next t_association t_size t_sent t_count t_told t_latestSize t_many t_askS t_askR t_registers_f t_column_f t_times_f t_values_f t_bytes_f t_reply_f t_latest_f t_made_f =
  (if v1 = 0 then
    (if t_told ≤ 0 then
      some (t_told, t_thrown, t_time, t_capacity, t_period, t_columns, t_entries, t_connected, t_expected, t_next, t_association, t_size, t_sent, 0, t_told, t_latestSize, t_many, t_askS, t_askR, t_registers_f, t_column_f, t_times_f, t_values_f, t_bytes_f, t_reply_f, t_latest_f, t_made_f)
    else
      (mm_Mo_hear F (t_reply_f ((3 : Int32).toNatClampNeg)) t_askS t_askR).bind fun x55 =>
      some (t_told, t_thrown, t_time, t_capacity, t_period, t_columns, t_entries, t_connected, t_expected, t_next, t_association, t_size, t_sent, 0, t_told, t_latestSize, t_many, x55.1, x55.2, t_registers_f, t_column_f, t_times_f, t_values_f, t_bytes_f, t_reply_f, t_latest_f, t_made_f))
  else
    some (0, t_thrown, t_time, t_capacity, t_period, t_columns, t_entries, t_connected, t_expected, t_next, t_association, t_size, t_sent, 0, 0, t_latestSize, t_many, t_askS, t_askR, t_registers_f, t_column_f, t_times_f, t_values_f, t_bytes_f, t_reply_f, t_latest_f, t_made_f)) := rfl
def mm_Mo_deliver (F : Nat) (i1 : Int32) (t_secret : Int32) (t_thrown : Int32) (t_time : Int32) (t_capacity : Int32) (t_period : Int32) (t_columns : Int32) (t_entries : Int32) (t_connected : Int32) (t_expected : Int32) (t_next : Int32) (t_association : Int32) (t_size : Int32) (t_sent : Int32) (t_count : Int32) (t_told : Int32) (t_latestSize : Int32) (t_many : Int32) (t_askS : Int32) (t_askR : Int32) (t_registers_f : Nat → Int32) (t_column_f : Nat → Int32) (t_times_f : Nat → Int32) (t_values_f : Nat → Int32) (t_bytes_f : Nat → Int32) (t_line_f : Nat → Int32) (t_reply_f : Nat → Int32) (t_latest_f : Nat → Int32) (t_made_f : Nat → Int32) : Option (Int32 × Int32 × Int32 × Int32 × Int32 × Int32 × Int32 × Int32 × Int32 × Int32 × Int32 × Int32 × Int32 × Int32 × Int32 × Int32 × Int32 × Int32 × Int32 × (Nat → Int32) × (Nat → Int32) × (Nat → Int32) × (Nat → Int32) × (Nat → Int32) × (Nat → Int32) × (Nat → Int32) × (Nat → Int32)) :=
  (mm_Mo_payloadOf F t_count t_line_f).bind fun x11 =>
  (if x11 < 0 then
    mm_Mo_deliver_J24 F i1 0 t_time t_capacity t_period t_columns t_entries t_connected t_expected t_next t_association t_size t_sent t_count 0 t_latestSize t_many t_askS t_askR t_registers_f t_column_f t_times_f t_values_f t_bytes_f t_reply_f t_latest_f t_made_f
  else
    (mm_Mo_look F x11 t_secret t_time t_capacity t_period t_columns t_entries t_connected t_expected t_next t_association t_size t_sent 0 t_latestSize t_many t_registers_f t_column_f t_times_f t_values_f t_bytes_f t_line_f t_reply_f t_latest_f t_made_f).bind fun x21 =>
    mm_Mo_deliver_J24 F i1 0 x21.1 x21.2.1 x21.2.2.1 x21.2.2.2.1 x21.2.2.2.2.1 x21.2.2.2.2.2.1 x21.2.2.2.2.2.2.1 x21.2.2.2.2.2.2.2.1 x21.2.2.2.2.2.2.2.2.1 x21.2.2.2.2.2.2.2.2.2.1 x21.2.2.2.2.2.2.2.2.2.2.1 t_count x21.2.2.2.2.2.2.2.2.2.2.2.1 x21.2.2.2.2.2.2.2.2.2.2.2.2.1 x21.2.2.2.2.2.2.2.2.2.2.2.2.2.1 t_askS t_askR x21.2.2.2.2.2.2.2.2.2.2.2.2.2.2.1 x21.2.2.2.2.2.2.2.2.2.2.2.2.2.2.2.1 x21.2.2.2.2.2.2.2.2.2.2.2.2.2.2.2.2.1 x21.2.2.2.2.2.2.2.2.2.2.2.2.2.2.2.2.2.1 x21.2.2.2.2.2.2.2.2.2.2.2.2.2.2.2.2.2.2.1 x21.2.2.2.2.2.2.2.2.2.2.2.2.2.2.2.2.2.2.2.1 x21.2.2.2.2.2.2.2.2.2.2.2.2.2.2.2.2.2.2.2.2.1 x21.2.2.2.2.2.2.2.2.2.2.2.2.2.2.2.2.2.2.2.2.2)
theorem mq_Mo_deliver (F : Nat) (i1 : Int32) (t_secret : Int32) (t_thrown : Int32) (t_time : Int32) (t_capacity : Int32) (t_period : Int32) (t_columns : Int32) (t_entries : Int32) (t_connected : Int32) (t_expected : Int32) (t_next : Int32) (t_association : Int32) (t_size : Int32) (t_sent : Int32) (t_count : Int32) (t_told : Int32) (t_latestSize : Int32) (t_many : Int32) (t_askS : Int32) (t_askR : Int32) (t_registers_f : Nat → Int32) (t_column_f : Nat → Int32) (t_times_f : Nat → Int32) (t_values_f : Nat → Int32) (t_bytes_f : Nat → Int32) (t_line_f : Nat → Int32) (t_reply_f : Nat → Int32) (t_latest_f : Nat → Int32) (t_made_f : Nat → Int32) : mm_Mo_deliver F i1 t_secret t_thrown t_time t_capacity t_period t_columns t_entries t_connected t_expected t_next t_association t_size t_sent t_count t_told t_latestSize t_many t_askS t_askR t_registers_f t_column_f t_times_f t_values_f t_bytes_f t_line_f t_reply_f t_latest_f t_made_f =
  (mm_Mo_payloadOf F t_count t_line_f).bind fun x11 =>
  (if x11 < 0 then
    mm_Mo_deliver_J24 F i1 0 t_time t_capacity t_period t_columns t_entries t_connected t_expected t_next t_association t_size t_sent t_count 0 t_latestSize t_many t_askS t_askR t_registers_f t_column_f t_times_f t_values_f t_bytes_f t_reply_f t_latest_f t_made_f
  else
    (mm_Mo_look F x11 t_secret t_time t_capacity t_period t_columns t_entries t_connected t_expected t_next t_association t_size t_sent 0 t_latestSize t_many t_registers_f t_column_f t_times_f t_values_f t_bytes_f t_line_f t_reply_f t_latest_f t_made_f).bind fun x21 =>
    mm_Mo_deliver_J24 F i1 0 x21.1 x21.2.1 x21.2.2.1 x21.2.2.2.1 x21.2.2.2.2.1 x21.2.2.2.2.2.1 x21.2.2.2.2.2.2.1 x21.2.2.2.2.2.2.2.1 x21.2.2.2.2.2.2.2.2.1 x21.2.2.2.2.2.2.2.2.2.1 x21.2.2.2.2.2.2.2.2.2.2.1 t_count x21.2.2.2.2.2.2.2.2.2.2.2.1 x21.2.2.2.2.2.2.2.2.2.2.2.2.1 x21.2.2.2.2.2.2.2.2.2.2.2.2.2.1 t_askS t_askR x21.2.2.2.2.2.2.2.2.2.2.2.2.2.2.1 x21.2.2.2.2.2.2.2.2.2.2.2.2.2.2.2.1 x21.2.2.2.2.2.2.2.2.2.2.2.2.2.2.2.2.1 x21.2.2.2.2.2.2.2.2.2.2.2.2.2.2.2.2.2.1 x21.2.2.2.2.2.2.2.2.2.2.2.2.2.2.2.2.2.2.1 x21.2.2.2.2.2.2.2.2.2.2.2.2.2.2.2.2.2.2.2.1 x21.2.2.2.2.2.2.2.2.2.2.2.2.2.2.2.2.2.2.2.2.1 x21.2.2.2.2.2.2.2.2.2.2.2.2.2.2.2.2.2.2.2.2.2) := rfl
def mm_Mo_reply_J18 (F : Nat) (v1 : Int32) (s0 : Int32) (t_thrown : Int32) (t_reply_f : Nat → Int32) : Option (Int32 × Int32) :=
  (if s0 ≤ 0 then
    (if v1 < 0 ∨ 80 ≤ v1.toNatClampNeg then none else
    some (t_reply_f v1.toNatClampNeg, s0))
  else
    some (0, s0))
theorem mq_Mo_reply_J18 (F : Nat) (v1 : Int32) (s0 : Int32) (t_thrown : Int32) (t_reply_f : Nat → Int32) : mm_Mo_reply_J18 F v1 s0 t_thrown t_reply_f =
  (if s0 ≤ 0 then
    (if v1 < 0 ∨ 80 ≤ v1.toNatClampNeg then none else
    some (t_reply_f v1.toNatClampNeg, s0))
  else
    some (0, s0)) := rfl
def mm_Mo_reply_J13 (F : Nat) (v1 : Int32) (t_thrown : Int32) (t_reply_f : Nat → Int32) : Option (Int32 × Int32) :=
  mm_Mo_reply_J18 F v1 1 t_thrown t_reply_f
theorem mq_Mo_reply_J13 (F : Nat) (v1 : Int32) (t_thrown : Int32) (t_reply_f : Nat → Int32) : mm_Mo_reply_J13 F v1 t_thrown t_reply_f =
  mm_Mo_reply_J18 F v1 1 t_thrown t_reply_f := rfl
def mm_Mo_reply (F : Nat) (i1 : Int32) (t_thrown : Int32) (t_told : Int32) (t_reply_f : Nat → Int32) : Option (Int32 × Int32) :=
  (if i1 < 0 then
    mm_Mo_reply_J13 F i1 t_thrown t_reply_f
  else
    (if i1 < t_told then
      mm_Mo_reply_J18 F i1 0 t_thrown t_reply_f
    else
      mm_Mo_reply_J13 F i1 t_thrown t_reply_f))
theorem mq_Mo_reply (F : Nat) (i1 : Int32) (t_thrown : Int32) (t_told : Int32) (t_reply_f : Nat → Int32) : mm_Mo_reply F i1 t_thrown t_told t_reply_f =
  (if i1 < 0 then
    mm_Mo_reply_J13 F i1 t_thrown t_reply_f
  else
    (if i1 < t_told then
      mm_Mo_reply_J18 F i1 0 t_thrown t_reply_f
    else
      mm_Mo_reply_J13 F i1 t_thrown t_reply_f)) := rfl
def mm_La_cell (F : Nat) (p0_N : Nat) (i1 : Int32) (p0_f : Nat → Int32) : Option (Int32) :=
  (if (Int32.ofNat p0_N) ≤ i1 then
    some 0
  else
    (if i1 < 0 ∨ p0_N ≤ i1.toNatClampNeg then none else
    some (p0_f i1.toNatClampNeg)))
theorem mq_La_cell (F : Nat) (p0_N : Nat) (i1 : Int32) (p0_f : Nat → Int32) : mm_La_cell F p0_N i1 p0_f =
  (if (Int32.ofNat p0_N) ≤ i1 then
    some 0
  else
    (if i1 < 0 ∨ p0_N ≤ i1.toNatClampNeg then none else
    some (p0_f i1.toNatClampNeg))) := rfl
def mm_La_run (F : Nat) (i1 : Int32) (p0_connection_meter_now : Int32) (p0_connection_meter_registers_f : Nat → Int32) (p0_connection_meter_profile_columnCount : Int32) (p0_connection_meter_profile_capacity : Int32) (p0_connection_meter_profile_period : Int32) (p0_connection_meter_profile_first : Int32) (p0_connection_meter_profile_size : Int32) (p0_connection_meter_profile_columns_f : Nat → Int32) (p0_connection_meter_profile_ring_f : Nat → Int32) : Option (Int32 × Int32 × Int32 × Int32 × (Nat → Int32)) :=
  (mm_Lp_run F i1 p0_connection_meter_now p0_connection_meter_registers_f p0_connection_meter_profile_columnCount p0_connection_meter_profile_capacity p0_connection_meter_profile_period p0_connection_meter_profile_first p0_connection_meter_profile_size p0_connection_meter_profile_columns_f p0_connection_meter_profile_ring_f).bind fun x2 =>
  (if x2.1 = 0 then
    some (0, x2.2.1, x2.2.2.1, x2.2.2.2.1, x2.2.2.2.2)
  else
    (if x2.1 = 1 then
      some (1, x2.2.1, x2.2.2.1, x2.2.2.2.1, x2.2.2.2.2)
    else
      none))
theorem mq_La_run (F : Nat) (i1 : Int32) (p0_connection_meter_now : Int32) (p0_connection_meter_registers_f : Nat → Int32) (p0_connection_meter_profile_columnCount : Int32) (p0_connection_meter_profile_capacity : Int32) (p0_connection_meter_profile_period : Int32) (p0_connection_meter_profile_first : Int32) (p0_connection_meter_profile_size : Int32) (p0_connection_meter_profile_columns_f : Nat → Int32) (p0_connection_meter_profile_ring_f : Nat → Int32) : mm_La_run F i1 p0_connection_meter_now p0_connection_meter_registers_f p0_connection_meter_profile_columnCount p0_connection_meter_profile_capacity p0_connection_meter_profile_period p0_connection_meter_profile_first p0_connection_meter_profile_size p0_connection_meter_profile_columns_f p0_connection_meter_profile_ring_f =
  (mm_Lp_run F i1 p0_connection_meter_now p0_connection_meter_registers_f p0_connection_meter_profile_columnCount p0_connection_meter_profile_capacity p0_connection_meter_profile_period p0_connection_meter_profile_first p0_connection_meter_profile_size p0_connection_meter_profile_columns_f p0_connection_meter_profile_ring_f).bind fun x2 =>
  (if x2.1 = 0 then
    some (0, x2.2.1, x2.2.2.1, x2.2.2.2.1, x2.2.2.2.2)
  else
    (if x2.1 = 1 then
      some (1, x2.2.1, x2.2.2.1, x2.2.2.2.1, x2.2.2.2.2)
    else
      none)) := rfl
def mm_La_count (F : Nat) (p3_N : Nat) (i1 : Int32) (i2 : Int32) (p0_connection_meter_registers_f : Nat → Int32) (p3_f : Nat → Int64) : Option (Int32 × (Nat → Int32) × (Nat → Int64)) :=
  (mm_Lp_count F i1 i2 p0_connection_meter_registers_f).bind fun x5 =>
  (if x5.1 = 0 then
    (if (0 : Int32) < 0 ∨ p3_N ≤ (0 : Int32).toNatClampNeg then none else
    some (0, x5.2.2, vp_updL p3_f ((0 : Int32).toNatClampNeg) x5.2.1.toInt64))
  else
    (if x5.1 = 3 then
      some (1, x5.2.2, p3_f)
    else
      none))
theorem mq_La_count (F : Nat) (p3_N : Nat) (i1 : Int32) (i2 : Int32) (p0_connection_meter_registers_f : Nat → Int32) (p3_f : Nat → Int64) : mm_La_count F p3_N i1 i2 p0_connection_meter_registers_f p3_f =
  (mm_Lp_count F i1 i2 p0_connection_meter_registers_f).bind fun x5 =>
  (if x5.1 = 0 then
    (if (0 : Int32) < 0 ∨ p3_N ≤ (0 : Int32).toNatClampNeg then none else
    some (0, x5.2.2, vp_updL p3_f ((0 : Int32).toNatClampNeg) x5.2.1.toInt64))
  else
    (if x5.1 = 3 then
      some (1, x5.2.2, p3_f)
    else
      none)) := rfl
def mm_La_register (F : Nat) (p2_N : Nat) (i1 : Int32) (p0_connection_meter_registers_f : Nat → Int32) (p2_f : Nat → Int64) : Option (Int32 × (Nat → Int64)) :=
  (mm_Lp_register F i1 p0_connection_meter_registers_f).bind fun x4 =>
  (if x4.1 = 0 then
    (if (0 : Int32) < 0 ∨ p2_N ≤ (0 : Int32).toNatClampNeg then none else
    some (0, vp_updL p2_f ((0 : Int32).toNatClampNeg) x4.2.toInt64))
  else
    (if x4.1 = 3 then
      some (1, p2_f)
    else
      none))
theorem mq_La_register (F : Nat) (p2_N : Nat) (i1 : Int32) (p0_connection_meter_registers_f : Nat → Int32) (p2_f : Nat → Int64) : mm_La_register F p2_N i1 p0_connection_meter_registers_f p2_f =
  (mm_Lp_register F i1 p0_connection_meter_registers_f).bind fun x4 =>
  (if x4.1 = 0 then
    (if (0 : Int32) < 0 ∨ p2_N ≤ (0 : Int32).toNatClampNeg then none else
    some (0, vp_updL p2_f ((0 : Int32).toNatClampNeg) x4.2.toInt64))
  else
    (if x4.1 = 3 then
      some (1, p2_f)
    else
      none)) := rfl
def mm_La_entry (F : Nat) (p3_N : Nat) (i1 : Int32) (i2 : Int32) (p0_connection_meter_profile_columnCount : Int32) (p0_connection_meter_profile_first : Int32) (p0_connection_meter_profile_size : Int32) (p0_connection_meter_profile_ring_f : Nat → Int32) (p3_f : Nat → Int64) : Option (Int32 × (Nat → Int64)) :=
  (mm_Lp_entry F i1 i2 p0_connection_meter_profile_columnCount p0_connection_meter_profile_first p0_connection_meter_profile_size p0_connection_meter_profile_ring_f).bind fun x5 =>
  (if x5.1 = 0 then
    (if (0 : Int32) < 0 ∨ p3_N ≤ (0 : Int32).toNatClampNeg then none else
    some (0, vp_updL p3_f ((0 : Int32).toNatClampNeg) x5.2.toInt64))
  else
    (if x5.1 = 3 then
      some (1, p3_f)
    else
      (if x5.1 = 4 then
      some (2, p3_f)
    else
      none)))
theorem mq_La_entry (F : Nat) (p3_N : Nat) (i1 : Int32) (i2 : Int32) (p0_connection_meter_profile_columnCount : Int32) (p0_connection_meter_profile_first : Int32) (p0_connection_meter_profile_size : Int32) (p0_connection_meter_profile_ring_f : Nat → Int32) (p3_f : Nat → Int64) : mm_La_entry F p3_N i1 i2 p0_connection_meter_profile_columnCount p0_connection_meter_profile_first p0_connection_meter_profile_size p0_connection_meter_profile_ring_f p3_f =
  (mm_Lp_entry F i1 i2 p0_connection_meter_profile_columnCount p0_connection_meter_profile_first p0_connection_meter_profile_size p0_connection_meter_profile_ring_f).bind fun x5 =>
  (if x5.1 = 0 then
    (if (0 : Int32) < 0 ∨ p3_N ≤ (0 : Int32).toNatClampNeg then none else
    some (0, vp_updL p3_f ((0 : Int32).toNatClampNeg) x5.2.toInt64))
  else
    (if x5.1 = 3 then
      some (1, p3_f)
    else
      (if x5.1 = 4 then
      some (2, p3_f)
    else
      none))) := rfl
def mm_La_put (F : Nat) (p2_N : Nat) (i1 : Int32) (p0_line_size : Int32) (p0_line_bytes_f : Nat → Int32) (p2_f : Nat → Int64) : Option (Int32 × Int32 × (Nat → Int32) × (Nat → Int64)) :=
  (mm_Lp_put F i1 p0_line_size p0_line_bytes_f).bind fun x4 =>
  (if x4.1 = 0 then
    (if (0 : Int32) < 0 ∨ p2_N ≤ (0 : Int32).toNatClampNeg then none else
    some (0, x4.2.2.1, x4.2.2.2, vp_updL p2_f ((0 : Int32).toNatClampNeg) x4.2.1.toInt64))
  else
    (if x4.1 = 1 then
      some (1, x4.2.2.1, x4.2.2.2, p2_f)
    else
      (if x4.1 = 2 then
      some (2, x4.2.2.1, x4.2.2.2, p2_f)
    else
      none)))
theorem mq_La_put (F : Nat) (p2_N : Nat) (i1 : Int32) (p0_line_size : Int32) (p0_line_bytes_f : Nat → Int32) (p2_f : Nat → Int64) : mm_La_put F p2_N i1 p0_line_size p0_line_bytes_f p2_f =
  (mm_Lp_put F i1 p0_line_size p0_line_bytes_f).bind fun x4 =>
  (if x4.1 = 0 then
    (if (0 : Int32) < 0 ∨ p2_N ≤ (0 : Int32).toNatClampNeg then none else
    some (0, x4.2.2.1, x4.2.2.2, vp_updL p2_f ((0 : Int32).toNatClampNeg) x4.2.1.toInt64))
  else
    (if x4.1 = 1 then
      some (1, x4.2.2.1, x4.2.2.2, p2_f)
    else
      (if x4.1 = 2 then
      some (2, x4.2.2.1, x4.2.2.2, p2_f)
    else
      none))) := rfl
def mm_La_putInt (F : Nat) (p2_N : Nat) (i1 : Int32) (p0_line_size : Int32) (p0_line_bytes_f : Nat → Int32) (p2_f : Nat → Int64) : Option (Int32 × Int32 × (Nat → Int32) × (Nat → Int64)) :=
  (mm_Lp_putInt F i1 p0_line_size p0_line_bytes_f).bind fun x4 =>
  (if x4.1 = 0 then
    (if (0 : Int32) < 0 ∨ p2_N ≤ (0 : Int32).toNatClampNeg then none else
    some (0, x4.2.2.1, x4.2.2.2, vp_updL p2_f ((0 : Int32).toNatClampNeg) x4.2.1.toInt64))
  else
    (if x4.1 = 2 then
      some (1, x4.2.2.1, x4.2.2.2, p2_f)
    else
      none))
theorem mq_La_putInt (F : Nat) (p2_N : Nat) (i1 : Int32) (p0_line_size : Int32) (p0_line_bytes_f : Nat → Int32) (p2_f : Nat → Int64) : mm_La_putInt F p2_N i1 p0_line_size p0_line_bytes_f p2_f =
  (mm_Lp_putInt F i1 p0_line_size p0_line_bytes_f).bind fun x4 =>
  (if x4.1 = 0 then
    (if (0 : Int32) < 0 ∨ p2_N ≤ (0 : Int32).toNatClampNeg then none else
    some (0, x4.2.2.1, x4.2.2.2, vp_updL p2_f ((0 : Int32).toNatClampNeg) x4.2.1.toInt64))
  else
    (if x4.1 = 2 then
      some (1, x4.2.2.1, x4.2.2.2, p2_f)
    else
      none)) := rfl
def mm_La_poke (F : Nat) (i1 : Int32) (i2 : Int32) (p0_line_size : Int32) (p0_line_bytes_f : Nat → Int32) : Option (Int32 × (Nat → Int32)) :=
  (mm_Lp_poke F i1 i2 p0_line_size p0_line_bytes_f).bind fun x3 =>
  (if x3.1 = 0 then
    some (0, x3.2)
  else
    (if x3.1 = 3 then
      some (1, x3.2)
    else
      (if x3.1 = 1 then
      some (2, x3.2)
    else
      none)))
theorem mq_La_poke (F : Nat) (i1 : Int32) (i2 : Int32) (p0_line_size : Int32) (p0_line_bytes_f : Nat → Int32) : mm_La_poke F i1 i2 p0_line_size p0_line_bytes_f =
  (mm_Lp_poke F i1 i2 p0_line_size p0_line_bytes_f).bind fun x3 =>
  (if x3.1 = 0 then
    some (0, x3.2)
  else
    (if x3.1 = 3 then
      some (1, x3.2)
    else
      (if x3.1 = 1 then
      some (2, x3.2)
    else
      none))) := rfl
def mm_La_frame (F : Nat) (p2_N : Nat) (i1 : Int32) (p0_line_size : Int32) (p0_line_bytes_f : Nat → Int32) (p2_f : Nat → Int64) : Option (Int32 × Int32 × (Nat → Int32) × (Nat → Int64)) :=
  (mm_Lp_frame F i1 p0_line_size p0_line_bytes_f).bind fun x4 =>
  (if x4.1 = 0 then
    (if (0 : Int32) < 0 ∨ p2_N ≤ (0 : Int32).toNatClampNeg then none else
    some (0, x4.2.2.1, x4.2.2.2, vp_updL p2_f ((0 : Int32).toNatClampNeg) x4.2.1.toInt64))
  else
    (if x4.1 = 1 then
      some (1, x4.2.2.1, x4.2.2.2, p2_f)
    else
      (if x4.1 = 2 then
      some (2, x4.2.2.1, x4.2.2.2, p2_f)
    else
      none)))
theorem mq_La_frame (F : Nat) (p2_N : Nat) (i1 : Int32) (p0_line_size : Int32) (p0_line_bytes_f : Nat → Int32) (p2_f : Nat → Int64) : mm_La_frame F p2_N i1 p0_line_size p0_line_bytes_f p2_f =
  (mm_Lp_frame F i1 p0_line_size p0_line_bytes_f).bind fun x4 =>
  (if x4.1 = 0 then
    (if (0 : Int32) < 0 ∨ p2_N ≤ (0 : Int32).toNatClampNeg then none else
    some (0, x4.2.2.1, x4.2.2.2, vp_updL p2_f ((0 : Int32).toNatClampNeg) x4.2.1.toInt64))
  else
    (if x4.1 = 1 then
      some (1, x4.2.2.1, x4.2.2.2, p2_f)
    else
      (if x4.1 = 2 then
      some (2, x4.2.2.1, x4.2.2.2, p2_f)
    else
      none))) := rfl
def mm_La_ask (F : Nat) (p1_N : Nat) (p0_line_size : Int32) (p0_line_bytes_f : Nat → Int32) (p0_asker_s : Int32) (p0_asker_r : Int32) (p1_f : Nat → Int64) : Option (Int32 × Int32 × (Nat → Int32) × (Nat → Int64)) :=
  (mm_Lp_ask F p0_line_size p0_line_bytes_f p0_asker_s p0_asker_r).bind fun x3 =>
  (if x3.1 = 0 then
    (if (0 : Int32) < 0 ∨ p1_N ≤ (0 : Int32).toNatClampNeg then none else
    some (0, x3.2.2.1, x3.2.2.2, vp_updL p1_f ((0 : Int32).toNatClampNeg) x3.2.1.toInt64))
  else
    (if x3.1 = 2 then
      some (1, x3.2.2.1, x3.2.2.2, p1_f)
    else
      none))
theorem mq_La_ask (F : Nat) (p1_N : Nat) (p0_line_size : Int32) (p0_line_bytes_f : Nat → Int32) (p0_asker_s : Int32) (p0_asker_r : Int32) (p1_f : Nat → Int64) : mm_La_ask F p1_N p0_line_size p0_line_bytes_f p0_asker_s p0_asker_r p1_f =
  (mm_Lp_ask F p0_line_size p0_line_bytes_f p0_asker_s p0_asker_r).bind fun x3 =>
  (if x3.1 = 0 then
    (if (0 : Int32) < 0 ∨ p1_N ≤ (0 : Int32).toNatClampNeg then none else
    some (0, x3.2.2.1, x3.2.2.2, vp_updL p1_f ((0 : Int32).toNatClampNeg) x3.2.1.toInt64))
  else
    (if x3.1 = 2 then
      some (1, x3.2.2.1, x3.2.2.2, p1_f)
    else
      none)) := rfl
def mm_La_reply (F : Nat) (p2_N : Nat) (i1 : Int32) (p0_answered_size : Int32) (p0_answered_bytes_f : Nat → Int32) (p2_f : Nat → Int64) : Option (Int32 × (Nat → Int64)) :=
  (mm_Lp_reply F i1 p0_answered_size p0_answered_bytes_f).bind fun x4 =>
  (if x4.1 = 0 then
    (if (0 : Int32) < 0 ∨ p2_N ≤ (0 : Int32).toNatClampNeg then none else
    some (0, vp_updL p2_f ((0 : Int32).toNatClampNeg) x4.2.toInt64))
  else
    (if x4.1 = 3 then
      some (1, p2_f)
    else
      none))
theorem mq_La_reply (F : Nat) (p2_N : Nat) (i1 : Int32) (p0_answered_size : Int32) (p0_answered_bytes_f : Nat → Int32) (p2_f : Nat → Int64) : mm_La_reply F p2_N i1 p0_answered_size p0_answered_bytes_f p2_f =
  (mm_Lp_reply F i1 p0_answered_size p0_answered_bytes_f).bind fun x4 =>
  (if x4.1 = 0 then
    (if (0 : Int32) < 0 ∨ p2_N ≤ (0 : Int32).toNatClampNeg then none else
    some (0, vp_updL p2_f ((0 : Int32).toNatClampNeg) x4.2.toInt64))
  else
    (if x4.1 = 3 then
      some (1, p2_f)
    else
      none)) := rfl
