set_option maxHeartbeats 2000000 in
set_option maxRecDepth 100000 in
theorem ct_Mo_wrap (l : Launch) (D : va_G) (F : Nat) (p0 : Nat) (p0_c : ClassId) (p0_N : Nat) (p0_f : Nat → Int32) (i1 : Int32) (i2 : Int32) (r : Int32 × (Nat → Int32)) (hm : mm_Mo_wrap F p0_N i1 i2 p0_f = some r) :
    bs_CI l my_Mo_wrap mb_Mo_wrap 6 .int (bs_rm 1) D [.ref p0, .int i1, .int i2] [(p0_c, .int)] [(p0, .inl (p0_c, p0_N, .inl p0_f))] (S := Unit) (fun v (_ : Unit) => v = r.1) (fun _ => [(p0, .inl (p0_c, p0_N, .inl r.2))]) := by
  refine bs_CI.mk (by decide +kernel) (bs_ler rfl) ?_
  intro p e s m below meth c ls A hx hb hr hml hlk hown hB hN hP hK hD hS hA hl
  refine bs_genQ (fun Q hQ => ?_)
  have hJ12 : ∀ (v1 : Int32) (v2 : Int32) (s0 : Int32) (p0_f : Nat → Int32) (ls : Array Slot) (H : Heap) (locs : List Loc), mm_Mo_wrap_J12 F p0_N v1 v2 s0 p0_f = some r → lv_has ls 6 [(0, .ref p0), (1, .int v1), (2, .int v2)] → va_P D bs_cl [(p0, .inl (p0_c, p0_N, .inl p0_f))] H → va_D A [(p0, .inl (p0_c, p0_N, .inl p0_f))] → va_S A s.heap H locs → W p l e (bs_rm 1) s m [.ref p0, .int i1, .int i2].toArray below meth c H locs 0 0 Q (F0 m 12 ls [.int s0]) := by
    intro v1 v2 s0 p0_f ls H locs hm hl hP hD hS
    have hm := (mq_Mo_wrap_J12 F p0_N v1 v2 s0 p0_f).symm.trans hm
    refine lv_istore_n hx hb dc_Mo_wrap_12 rfl hl (by decide) rfl (fun ls hl => ?_)
    have hl : lv_has ls 6 [(3, .int s0), (0, .ref p0), (1, .int v1), (2, .int v2)] := hl
    refine lv_aload_n hx hb dc_Mo_wrap_13 rfl (lv_at hl 1 rfl) ?_
    refine lv_iconst (v := 0) hx hb dc_Mo_wrap_14 (by decide +kernel) ?_
    refine lv_bipush (v := 126) hx hb dc_Mo_wrap_15 (by decide +kernel) ?_
    obtain ⟨hz17, hm⟩ := bs_nn hm
    refine va_iast hx hb hK hP hD hS 0 0 rfl rfl hz17 dc_Mo_wrap_17 (fun H locs hP hD hS => ?_)
    obtain ⟨hP, hD⟩ := bs_say [(p0, .inl (p0_c, p0_N, .inl (upd p0_f ((0 : Int32).toNatClampNeg) 126)))] hP hD
    refine lv_aload_n hx hb dc_Mo_wrap_18 rfl (lv_at hl 1 rfl) ?_
    refine lv_iconst (v := 1) hx hb dc_Mo_wrap_19 (by decide +kernel) ?_
    refine lv_iload_n hx hb dc_Mo_wrap_20 rfl (lv_at hl 0 rfl) ?_
    obtain ⟨hz21, hm⟩ := bs_nn hm
    refine va_iast hx hb hK hP hD hS 0 0 rfl rfl hz21 dc_Mo_wrap_21 (fun H locs hP hD hS => ?_)
    obtain ⟨hP, hD⟩ := bs_say [(p0, .inl (p0_c, p0_N, .inl (upd (upd p0_f ((0 : Int32).toNatClampNeg) 126) ((1 : Int32).toNatClampNeg) s0)))] hP hD
    refine lv_aload_n hx hb dc_Mo_wrap_22 rfl (lv_at hl 1 rfl) ?_
    refine lv_iconst (v := 2) hx hb dc_Mo_wrap_23 (by decide +kernel) ?_
    refine lv_bipush (v := 17) hx hb dc_Mo_wrap_24 (by decide +kernel) ?_
    obtain ⟨hz26, hm⟩ := bs_nn hm
    refine va_iast hx hb hK hP hD hS 0 0 rfl rfl hz26 dc_Mo_wrap_26 (fun H locs hP hD hS => ?_)
    obtain ⟨hP, hD⟩ := bs_say [(p0, .inl (p0_c, p0_N, .inl (upd (upd (upd p0_f ((0 : Int32).toNatClampNeg) 126) ((1 : Int32).toNatClampNeg) s0) ((2 : Int32).toNatClampNeg) 17)))] hP hD
    refine lv_aload_n hx hb dc_Mo_wrap_27 rfl (lv_at hl 1 rfl) ?_
    refine lv_iconst (v := 3) hx hb dc_Mo_wrap_28 (by decide +kernel) ?_
    refine lv_iload_n hx hb dc_Mo_wrap_29 rfl (lv_at hl 2 rfl) ?_
    obtain ⟨hz30, hm⟩ := bs_nn hm
    refine va_iast hx hb hK hP hD hS 0 0 rfl rfl hz30 dc_Mo_wrap_30 (fun H locs hP hD hS => ?_)
    obtain ⟨hP, hD⟩ := bs_say [(p0, .inl (p0_c, p0_N, .inl (upd (upd (upd (upd p0_f ((0 : Int32).toNatClampNeg) 126) ((1 : Int32).toNatClampNeg) s0) ((2 : Int32).toNatClampNeg) 17) ((3 : Int32).toNatClampNeg) v1)))] hP hD
    refine lv_aload_n hx hb dc_Mo_wrap_31 rfl (lv_at hl 1 rfl) ?_
    refine lv_iconst (v := 4) hx hb dc_Mo_wrap_32 (by decide +kernel) ?_
    obtain ⟨x33, hx33, hm⟩ := bs_bind hm
    refine bs_callSi 2 [] (fun _ => [(p0, .inl (p0_c, p0_N, .inl (upd (upd (upd (upd p0_f ((0 : Int32).toNatClampNeg) 126) ((1 : Int32).toNatClampNeg) s0) ((2 : Int32).toNatClampNeg) 17) ((3 : Int32).toNatClampNeg) v1)))]) [] hx hb hml hown hB hN hK hP hD hS hA (ct_Mo_check l D F p0 p0_c p0_N (upd (upd (upd (upd p0_f ((0 : Int32).toNatClampNeg) 126) ((1 : Int32).toNatClampNeg) s0) ((2 : Int32).toNatClampNeg) 17) ((3 : Int32).toNatClampNeg) v1) 4 x33 hx33) kw_cd_Mo_check kw_ml_Mo_85 kw_st_Mo_check kw_in_Mo kd_Mo_check (by decide) [0] [] rfl rfl (by decide) [0] rfl [0] (by decide) (fun _ => rfl) rfl hl.1 (bs_ler rfl) (by decide) dc_Mo_wrap_33 rfl (fun v33q _ H locs hq33 hP hD hS => ?_)
    have hq33 := hq33.symm
    subst hq33
    refine lv_istore hx hb dc_Mo_wrap_36 hl (by decide) rfl (fun ls hl => ?_)
    have hl : lv_has ls 6 [(4, .int x33), (3, .int s0), (0, .ref p0), (1, .int v1), (2, .int v2)] := hl
    refine lv_aload_n hx hb dc_Mo_wrap_38 rfl (lv_at hl 2 rfl) ?_
    refine lv_iconst (v := 4) hx hb dc_Mo_wrap_39 (by decide +kernel) ?_
    refine lv_iload hx hb dc_Mo_wrap_40 (lv_at hl 0 rfl) ?_
    refine lv_sipush (v := 256) hx hb dc_Mo_wrap_42 (by decide +kernel) ?_
    refine bs_irem (v := bs_rem x33 256) hx hb dc_Mo_wrap_45 (by decide +kernel) rfl ?_
    obtain ⟨hz46, hm⟩ := bs_nn hm
    refine va_iast hx hb hK hP hD hS 0 0 rfl rfl hz46 dc_Mo_wrap_46 (fun H locs hP hD hS => ?_)
    obtain ⟨hP, hD⟩ := bs_say [(p0, .inl (p0_c, p0_N, .inl (upd (upd (upd (upd (upd p0_f ((0 : Int32).toNatClampNeg) 126) ((1 : Int32).toNatClampNeg) s0) ((2 : Int32).toNatClampNeg) 17) ((3 : Int32).toNatClampNeg) v1) ((4 : Int32).toNatClampNeg) (bs_rem x33 256))))] hP hD
    refine lv_aload_n hx hb dc_Mo_wrap_47 rfl (lv_at hl 2 rfl) ?_
    refine lv_iconst (v := 5) hx hb dc_Mo_wrap_48 (by decide +kernel) ?_
    refine lv_iload hx hb dc_Mo_wrap_49 (lv_at hl 0 rfl) ?_
    refine lv_sipush (v := 256) hx hb dc_Mo_wrap_51 (by decide +kernel) ?_
    refine bs_idiv (v := x33 / 256) hx hb dc_Mo_wrap_54 (by decide +kernel) rfl ?_
    obtain ⟨hz55, hm⟩ := bs_nn hm
    refine va_iast hx hb hK hP hD hS 0 0 rfl rfl hz55 dc_Mo_wrap_55 (fun H locs hP hD hS => ?_)
    obtain ⟨hP, hD⟩ := bs_say [(p0, .inl (p0_c, p0_N, .inl (upd (upd (upd (upd (upd (upd p0_f ((0 : Int32).toNatClampNeg) 126) ((1 : Int32).toNatClampNeg) s0) ((2 : Int32).toNatClampNeg) 17) ((3 : Int32).toNatClampNeg) v1) ((4 : Int32).toNatClampNeg) (bs_rem x33 256)) ((5 : Int32).toNatClampNeg) (x33 / 256))))] hP hD
    refine lv_iload_n hx hb dc_Mo_wrap_56 rfl (lv_at hl 4 rfl) ?_
    refine lv_if_le (tgt := 94) hx hb dc_Mo_wrap_57 (by decide) (fun h57 => ?_) (fun h57 => ?_)
    · have hm := bs_pos h57 hm
      refine lv_aload_n hx hb dc_Mo_wrap_94 rfl (lv_at hl 2 rfl) ?_
      refine lv_iload_n hx hb dc_Mo_wrap_95 rfl (lv_at hl 1 rfl) ?_
      refine lv_iconst (v := 1) hx hb dc_Mo_wrap_96 (by decide +kernel) ?_
      refine lv_iadd hx hb dc_Mo_wrap_97 ?_
      refine lv_bipush (v := 126) hx hb dc_Mo_wrap_98 (by decide +kernel) ?_
      obtain ⟨hz100, hm⟩ := bs_nn hm
      refine va_iast hx hb hK hP hD hS 0 0 rfl rfl hz100 dc_Mo_wrap_100 (fun H locs hP hD hS => ?_)
      obtain ⟨hP, hD⟩ := bs_say [(p0, .inl (p0_c, p0_N, .inl (upd (upd (upd (upd (upd (upd (upd p0_f ((0 : Int32).toNatClampNeg) 126) ((1 : Int32).toNatClampNeg) s0) ((2 : Int32).toNatClampNeg) 17) ((3 : Int32).toNatClampNeg) v1) ((4 : Int32).toNatClampNeg) (bs_rem x33 256)) ((5 : Int32).toNatClampNeg) (x33 / 256)) ((s0 + 1).toNatClampNeg) 126)))] hP hD
      refine lv_iload_n hx hb dc_Mo_wrap_101 rfl (lv_at hl 1 rfl) ?_
      refine lv_iconst (v := 2) hx hb dc_Mo_wrap_102 (by decide +kernel) ?_
      refine lv_iadd hx hb dc_Mo_wrap_103 ?_
      cases hm
      subst hQ
      exact bs_retI hx hb hr hlk () rfl hP hD hS dc_Mo_wrap_104
    · have hm := bs_neg h57 hm
      refine lv_aload_n hx hb dc_Mo_wrap_60 rfl (lv_at hl 2 rfl) ?_
      refine lv_bipush (v := 6) hx hb dc_Mo_wrap_61 (by decide +kernel) ?_
      refine lv_iload_n hx hb dc_Mo_wrap_63 rfl (lv_at hl 4 rfl) ?_
      refine lv_iadd hx hb dc_Mo_wrap_64 ?_
      obtain ⟨x65, hx65, hm⟩ := bs_bind hm
      refine bs_callSi 2 [] (fun _ => [(p0, .inl (p0_c, p0_N, .inl (upd (upd (upd (upd (upd (upd p0_f ((0 : Int32).toNatClampNeg) 126) ((1 : Int32).toNatClampNeg) s0) ((2 : Int32).toNatClampNeg) 17) ((3 : Int32).toNatClampNeg) v1) ((4 : Int32).toNatClampNeg) (bs_rem x33 256)) ((5 : Int32).toNatClampNeg) (x33 / 256))))]) [] hx hb hml hown hB hN hK hP hD hS hA (ct_Mo_check l D F p0 p0_c p0_N (upd (upd (upd (upd (upd (upd p0_f ((0 : Int32).toNatClampNeg) 126) ((1 : Int32).toNatClampNeg) s0) ((2 : Int32).toNatClampNeg) 17) ((3 : Int32).toNatClampNeg) v1) ((4 : Int32).toNatClampNeg) (bs_rem x33 256)) ((5 : Int32).toNatClampNeg) (x33 / 256)) (6 + v2) x65 hx65) kw_cd_Mo_check kw_ml_Mo_85 kw_st_Mo_check kw_in_Mo kd_Mo_check (by decide) [0] [] rfl rfl (by decide) [0] rfl [0] (by decide) (fun _ => rfl) rfl hl.1 (bs_ler rfl) (by decide) dc_Mo_wrap_65 rfl (fun v65q _ H locs hq65 hP hD hS => ?_)
      have hq65 := hq65.symm
      subst hq65
      refine lv_istore hx hb dc_Mo_wrap_68 hl (by decide) rfl (fun ls hl => ?_)
      have hl : lv_has ls 6 [(5, .int x65), (4, .int x33), (3, .int s0), (0, .ref p0), (1, .int v1), (2, .int v2)] := hl
      refine lv_aload_n hx hb dc_Mo_wrap_70 rfl (lv_at hl 3 rfl) ?_
      refine lv_bipush (v := 6) hx hb dc_Mo_wrap_71 (by decide +kernel) ?_
      refine lv_iload_n hx hb dc_Mo_wrap_73 rfl (lv_at hl 5 rfl) ?_
      refine lv_iadd hx hb dc_Mo_wrap_74 ?_
      refine lv_iload hx hb dc_Mo_wrap_75 (lv_at hl 0 rfl) ?_
      refine lv_sipush (v := 256) hx hb dc_Mo_wrap_77 (by decide +kernel) ?_
      refine bs_irem (v := bs_rem x65 256) hx hb dc_Mo_wrap_80 (by decide +kernel) rfl ?_
      obtain ⟨hz81, hm⟩ := bs_nn hm
      refine va_iast hx hb hK hP hD hS 0 0 rfl rfl hz81 dc_Mo_wrap_81 (fun H locs hP hD hS => ?_)
      obtain ⟨hP, hD⟩ := bs_say [(p0, .inl (p0_c, p0_N, .inl (upd (upd (upd (upd (upd (upd (upd p0_f ((0 : Int32).toNatClampNeg) 126) ((1 : Int32).toNatClampNeg) s0) ((2 : Int32).toNatClampNeg) 17) ((3 : Int32).toNatClampNeg) v1) ((4 : Int32).toNatClampNeg) (bs_rem x33 256)) ((5 : Int32).toNatClampNeg) (x33 / 256)) ((6 + v2).toNatClampNeg) (bs_rem x65 256))))] hP hD
      refine lv_aload_n hx hb dc_Mo_wrap_82 rfl (lv_at hl 3 rfl) ?_
      refine lv_bipush (v := 7) hx hb dc_Mo_wrap_83 (by decide +kernel) ?_
      refine lv_iload_n hx hb dc_Mo_wrap_85 rfl (lv_at hl 5 rfl) ?_
      refine lv_iadd hx hb dc_Mo_wrap_86 ?_
      refine lv_iload hx hb dc_Mo_wrap_87 (lv_at hl 0 rfl) ?_
      refine lv_sipush (v := 256) hx hb dc_Mo_wrap_89 (by decide +kernel) ?_
      refine bs_idiv (v := x65 / 256) hx hb dc_Mo_wrap_92 (by decide +kernel) rfl ?_
      obtain ⟨hz93, hm⟩ := bs_nn hm
      refine va_iast hx hb hK hP hD hS 0 0 rfl rfl hz93 dc_Mo_wrap_93 (fun H locs hP hD hS => ?_)
      obtain ⟨hP, hD⟩ := bs_say [(p0, .inl (p0_c, p0_N, .inl (upd (upd (upd (upd (upd (upd (upd (upd p0_f ((0 : Int32).toNatClampNeg) 126) ((1 : Int32).toNatClampNeg) s0) ((2 : Int32).toNatClampNeg) 17) ((3 : Int32).toNatClampNeg) v1) ((4 : Int32).toNatClampNeg) (bs_rem x33 256)) ((5 : Int32).toNatClampNeg) (x33 / 256)) ((6 + v2).toNatClampNeg) (bs_rem x65 256)) ((7 + v2).toNatClampNeg) (x65 / 256))))] hP hD
      refine lv_aload_n hx hb dc_Mo_wrap_94 rfl (lv_at hl 3 rfl) ?_
      refine lv_iload_n hx hb dc_Mo_wrap_95 rfl (lv_at hl 2 rfl) ?_
      refine lv_iconst (v := 1) hx hb dc_Mo_wrap_96 (by decide +kernel) ?_
      refine lv_iadd hx hb dc_Mo_wrap_97 ?_
      refine lv_bipush (v := 126) hx hb dc_Mo_wrap_98 (by decide +kernel) ?_
      obtain ⟨hz100, hm⟩ := bs_nn hm
      refine va_iast hx hb hK hP hD hS 0 0 rfl rfl hz100 dc_Mo_wrap_100 (fun H locs hP hD hS => ?_)
      obtain ⟨hP, hD⟩ := bs_say [(p0, .inl (p0_c, p0_N, .inl (upd (upd (upd (upd (upd (upd (upd (upd (upd p0_f ((0 : Int32).toNatClampNeg) 126) ((1 : Int32).toNatClampNeg) s0) ((2 : Int32).toNatClampNeg) 17) ((3 : Int32).toNatClampNeg) v1) ((4 : Int32).toNatClampNeg) (bs_rem x33 256)) ((5 : Int32).toNatClampNeg) (x33 / 256)) ((6 + v2).toNatClampNeg) (bs_rem x65 256)) ((7 + v2).toNatClampNeg) (x65 / 256)) ((s0 + 1).toNatClampNeg) 126)))] hP hD
      refine lv_iload_n hx hb dc_Mo_wrap_101 rfl (lv_at hl 2 rfl) ?_
      refine lv_iconst (v := 2) hx hb dc_Mo_wrap_102 (by decide +kernel) ?_
      refine lv_iadd hx hb dc_Mo_wrap_103 ?_
      cases hm
      subst hQ
      exact bs_retI hx hb hr hlk () rfl hP hD hS dc_Mo_wrap_104
  have hl : lv_has ls 6 [(0, .ref p0), (1, .int i1), (2, .int i2)] := hl
  have hm := (mq_Mo_wrap F p0_N i1 i2 p0_f).symm.trans hm
  refine lv_iload_n hx hb dc_Mo_wrap_0 rfl (lv_at hl 2 rfl) ?_
  refine lv_if_le (tgt := 11) hx hb dc_Mo_wrap_1 (by decide) (fun h1 => ?_) (fun h1 => ?_)
  · have hm := bs_pos h1 hm
    refine lv_iconst (v := 5) hx hb dc_Mo_wrap_11 (by decide +kernel) ?_
    exact hJ12 i1 i2 5 p0_f ls _ _ hm hl hP hD hS
  · have hm := bs_neg h1 hm
    refine lv_bipush (v := 7) hx hb dc_Mo_wrap_4 (by decide +kernel) ?_
    refine lv_iload_n hx hb dc_Mo_wrap_6 rfl (lv_at hl 2 rfl) ?_
    refine lv_iadd hx hb dc_Mo_wrap_7 ?_
    refine lv_goto (tgt := 12) hx hb dc_Mo_wrap_8 (by decide) ?_
    exact hJ12 i1 i2 (7 + i2) p0_f ls _ _ hm hl hP hD hS
set_option maxHeartbeats 2000000 in
set_option maxRecDepth 100000 in
theorem ct_Mo_wrapLine (l : Launch) (D : va_G) (F : Nat) (t : Nat) (t_registers : Nat) (t_column : Nat) (t_times : Nat) (t_values : Nat) (t_bytes : Nat) (t_line : Nat) (t_reply : Nat) (t_latest : Nat) (t_made : Nat) (t_registers_c : ClassId) (t_column_c : ClassId) (t_times_c : ClassId) (t_values_c : ClassId) (t_bytes_c : ClassId) (t_line_c : ClassId) (t_reply_c : ClassId) (t_latest_c : ClassId) (t_made_c : ClassId) (t_secret : Int32) (t_thrown : Int32) (t_time : Int32) (t_capacity : Int32) (t_period : Int32) (t_columns : Int32) (t_entries : Int32) (t_connected : Int32) (t_expected : Int32) (t_next : Int32) (t_association : Int32) (t_size : Int32) (t_sent : Int32) (t_count : Int32) (t_told : Int32) (t_latestSize : Int32) (t_many : Int32) (t_askS : Int32) (t_askR : Int32) (t_registers_f : Nat → Int32) (t_column_f : Nat → Int32) (t_times_f : Nat → Int32) (t_values_f : Nat → Int32) (t_bytes_f : Nat → Int32) (t_line_f : Nat → Int32) (t_reply_f : Nat → Int32) (t_latest_f : Nat → Int32) (t_made_f : Nat → Int32) (i1 : Int32) (r : Int32 × Int32 × (Nat → Int32)) (hm : mm_Mo_wrapLine F i1 t_count t_line_f = some r) :
    bs_CI l my_Mo_wrapLine mb_Mo_wrapLine 3 .int (bs_rm 2) D [.ref t, .int i1] [(t_registers_c, .int), (t_column_c, .int), (t_times_c, .int), (t_values_c, .int), (t_bytes_c, .int), (t_line_c, .int), (t_reply_c, .int), (t_latest_c, .int), (t_made_c, .int)] [(t, .inr (6, [.int t_secret, .int t_thrown, .int t_time, .ref t_registers, .int t_capacity, .int t_period, .int t_columns, .ref t_column, .int t_entries, .ref t_times, .ref t_values, .int t_connected, .int t_expected, .int t_next, .int t_association, .ref t_bytes, .int t_size, .int t_sent, .ref t_line, .int t_count, .ref t_reply, .int t_told, .ref t_latest, .int t_latestSize, .ref t_made, .int t_many, .int t_askS, .int t_askR])), (t_registers, .inl (t_registers_c, 4, .inl t_registers_f)), (t_column, .inl (t_column_c, 3, .inl t_column_f)), (t_times, .inl (t_times_c, 13, .inl t_times_f)), (t_values, .inl (t_values_c, 39, .inl t_values_f)), (t_bytes, .inl (t_bytes_c, 280, .inl t_bytes_f)), (t_line, .inl (t_line_c, 80, .inl t_line_f)), (t_reply, .inl (t_reply_c, 80, .inl t_reply_f)), (t_latest, .inl (t_latest_c, 80, .inl t_latest_f)), (t_made, .inl (t_made_c, 300, .inl t_made_f))] (S := Unit) (fun v (_ : Unit) => v = r.1) (fun _ => [(t, .inr (6, [.int t_secret, .int t_thrown, .int t_time, .ref t_registers, .int t_capacity, .int t_period, .int t_columns, .ref t_column, .int t_entries, .ref t_times, .ref t_values, .int t_connected, .int t_expected, .int t_next, .int t_association, .ref t_bytes, .int t_size, .int t_sent, .ref t_line, .int r.2.1, .ref t_reply, .int t_told, .ref t_latest, .int t_latestSize, .ref t_made, .int t_many, .int t_askS, .int t_askR])), (t_registers, .inl (t_registers_c, 4, .inl t_registers_f)), (t_column, .inl (t_column_c, 3, .inl t_column_f)), (t_times, .inl (t_times_c, 13, .inl t_times_f)), (t_values, .inl (t_values_c, 39, .inl t_values_f)), (t_bytes, .inl (t_bytes_c, 280, .inl t_bytes_f)), (t_line, .inl (t_line_c, 80, .inl r.2.2)), (t_reply, .inl (t_reply_c, 80, .inl t_reply_f)), (t_latest, .inl (t_latest_c, 80, .inl t_latest_f)), (t_made, .inl (t_made_c, 300, .inl t_made_f))]) := by
  refine bs_CI.mk (by decide +kernel) (bs_ler rfl) ?_
  intro p e s m below meth c ls A hx hb hr hml hlk hown hB hN hP hK hD hS hA hl
  refine bs_genQ (fun Q hQ => ?_)
  have hL7 : ∀ (k : Nat) (v1 : Int32) (v2 : Int32) (t_count : Int32) (t_line_f : Nat → Int32) (ls : Array Slot) (H : Heap) (locs : List Loc), mm_Mo_wrapLine_L7 F k v1 v2 t_count t_line_f = some r → lv_has ls 3 [(0, .ref t), (1, .int v1), (2, .int v2)] → va_P D bs_cl [(t, .inr (6, [.int t_secret, .int t_thrown, .int t_time, .ref t_registers, .int t_capacity, .int t_period, .int t_columns, .ref t_column, .int t_entries, .ref t_times, .ref t_values, .int t_connected, .int t_expected, .int t_next, .int t_association, .ref t_bytes, .int t_size, .int t_sent, .ref t_line, .int t_count, .ref t_reply, .int t_told, .ref t_latest, .int t_latestSize, .ref t_made, .int t_many, .int t_askS, .int t_askR])), (t_registers, .inl (t_registers_c, 4, .inl t_registers_f)), (t_column, .inl (t_column_c, 3, .inl t_column_f)), (t_times, .inl (t_times_c, 13, .inl t_times_f)), (t_values, .inl (t_values_c, 39, .inl t_values_f)), (t_bytes, .inl (t_bytes_c, 280, .inl t_bytes_f)), (t_line, .inl (t_line_c, 80, .inl t_line_f)), (t_reply, .inl (t_reply_c, 80, .inl t_reply_f)), (t_latest, .inl (t_latest_c, 80, .inl t_latest_f)), (t_made, .inl (t_made_c, 300, .inl t_made_f))] H → va_D A [(t, .inr (6, [.int t_secret, .int t_thrown, .int t_time, .ref t_registers, .int t_capacity, .int t_period, .int t_columns, .ref t_column, .int t_entries, .ref t_times, .ref t_values, .int t_connected, .int t_expected, .int t_next, .int t_association, .ref t_bytes, .int t_size, .int t_sent, .ref t_line, .int t_count, .ref t_reply, .int t_told, .ref t_latest, .int t_latestSize, .ref t_made, .int t_many, .int t_askS, .int t_askR])), (t_registers, .inl (t_registers_c, 4, .inl t_registers_f)), (t_column, .inl (t_column_c, 3, .inl t_column_f)), (t_times, .inl (t_times_c, 13, .inl t_times_f)), (t_values, .inl (t_values_c, 39, .inl t_values_f)), (t_bytes, .inl (t_bytes_c, 280, .inl t_bytes_f)), (t_line, .inl (t_line_c, 80, .inl t_line_f)), (t_reply, .inl (t_reply_c, 80, .inl t_reply_f)), (t_latest, .inl (t_latest_c, 80, .inl t_latest_f)), (t_made, .inl (t_made_c, 300, .inl t_made_f))] → va_S A s.heap H locs → W p l e (bs_rm 2) s m [.ref t, .int i1].toArray below meth c H locs 0 0 Q (F0 m 7 ls []) := by
    intro k
    induction k with
    | zero => intro v1 v2 t_count t_line_f ls H locs hm hl hP hD hS; exact (bs_no hm).elim
    | succ k ih =>
      intro v1 v2 t_count t_line_f ls H locs hm hl hP hD hS
      have hm := (mq_Mo_wrapLine_L7 F k v1 v2 t_count t_line_f).symm.trans hm
      refine lv_iload_n hx hb dc_Mo_wrapLine_7 rfl (lv_at hl 2 rfl) ?_
      refine lv_if_lt (tgt := 32) hx hb dc_Mo_wrapLine_8 (by decide) (fun h8 => ?_) (fun h8 => ?_)
      · have hm := bs_pos h8 hm
        refine lv_aload_n hx hb dc_Mo_wrapLine_32 rfl (lv_at hl 0 rfl) ?_
        refine lv_aload_n hx hb dc_Mo_wrapLine_33 rfl (lv_at hl 0 rfl) ?_
        refine va_get (ci := 6) (v := .ref t_line) (C := cn_Mo) (T := cf_Mo) (N := 28) hx hb hB ki_Mo hown hK hP 0 rfl rfl 18 (by decide) (hB _ kw_fl_Mo_29) (fun _ h => h) rfl dc_Mo_wrapLine_34 ?_
        refine lv_iload_n hx hb dc_Mo_wrapLine_37 rfl (lv_at hl 1 rfl) ?_
        refine lv_aload_n hx hb dc_Mo_wrapLine_38 rfl (lv_at hl 0 rfl) ?_
        refine va_get (ci := 6) (v := .int t_count) (C := cn_Mo) (T := cf_Mo) (N := 28) hx hb hB ki_Mo hown hK hP 0 rfl rfl 19 (by decide) (hB _ kw_fl_Mo_80) (fun _ h => h) rfl dc_Mo_wrapLine_39 ?_
        obtain ⟨x42, hx42, hm⟩ := bs_bind hm
        refine bs_callSi 3 [(t, .inr (6, [.int t_secret, .int t_thrown, .int t_time, .ref t_registers, .int t_capacity, .int t_period, .int t_columns, .ref t_column, .int t_entries, .ref t_times, .ref t_values, .int t_connected, .int t_expected, .int t_next, .int t_association, .ref t_bytes, .int t_size, .int t_sent, .ref t_line, .int t_count, .ref t_reply, .int t_told, .ref t_latest, .int t_latestSize, .ref t_made, .int t_many, .int t_askS, .int t_askR])), (t_registers, .inl (t_registers_c, 4, .inl t_registers_f)), (t_column, .inl (t_column_c, 3, .inl t_column_f)), (t_times, .inl (t_times_c, 13, .inl t_times_f)), (t_values, .inl (t_values_c, 39, .inl t_values_f)), (t_bytes, .inl (t_bytes_c, 280, .inl t_bytes_f)), (t_reply, .inl (t_reply_c, 80, .inl t_reply_f)), (t_latest, .inl (t_latest_c, 80, .inl t_latest_f)), (t_made, .inl (t_made_c, 300, .inl t_made_f))] (fun _ => [(t, .inr (6, [.int t_secret, .int t_thrown, .int t_time, .ref t_registers, .int t_capacity, .int t_period, .int t_columns, .ref t_column, .int t_entries, .ref t_times, .ref t_values, .int t_connected, .int t_expected, .int t_next, .int t_association, .ref t_bytes, .int t_size, .int t_sent, .ref t_line, .int t_count, .ref t_reply, .int t_told, .ref t_latest, .int t_latestSize, .ref t_made, .int t_many, .int t_askS, .int t_askR])), (t_registers, .inl (t_registers_c, 4, .inl t_registers_f)), (t_column, .inl (t_column_c, 3, .inl t_column_f)), (t_times, .inl (t_times_c, 13, .inl t_times_f)), (t_values, .inl (t_values_c, 39, .inl t_values_f)), (t_bytes, .inl (t_bytes_c, 280, .inl t_bytes_f)), (t_line, .inl (t_line_c, 80, .inl x42.2)), (t_reply, .inl (t_reply_c, 80, .inl t_reply_f)), (t_latest, .inl (t_latest_c, 80, .inl t_latest_f)), (t_made, .inl (t_made_c, 300, .inl t_made_f))]) [.ref t] hx hb hml hown hB hN hK hP hD hS hA (ct_Mo_wrap l D F t_line t_line_c 80 t_line_f v1 t_count x42 hx42) kw_cd_Mo_wrap kw_ml_Mo_89 kw_st_Mo_wrap kw_in_Mo kd_Mo_wrap (by decide) [6] [0, 1, 2, 3, 4, 5, 7, 8, 9] rfl rfl (by decide) [5] rfl [0, 1, 2, 3, 4, 5, 9, 6, 7, 8] (by decide) (fun _ => rfl) rfl hl.1 (bs_ler rfl) (by decide) dc_Mo_wrapLine_42 rfl (fun v42q _ H locs hq42 hP hD hS => ?_)
        have hq42 := hq42.symm
        subst hq42
        refine va_put (ci := 6) (v := .int x42.1) (ty := .int) (C := cn_Mo) (T := cf_Mo) (N := 28) hx hb hB ki_Mo ct_Mo cp_Mo cd_Mo hown hK hP hD hS 0 rfl rfl 19 (by decide) (hB _ kw_fl_Mo_80) (fun _ h => h) rfl (by decide +kernel) rfl rfl (bs_ltr rfl) dc_Mo_wrapLine_45 (fun H locs hP hD hS => ?_)
        obtain ⟨hP, hD⟩ := bs_say [(t, .inr (6, [.int t_secret, .int t_thrown, .int t_time, .ref t_registers, .int t_capacity, .int t_period, .int t_columns, .ref t_column, .int t_entries, .ref t_times, .ref t_values, .int t_connected, .int t_expected, .int t_next, .int t_association, .ref t_bytes, .int t_size, .int t_sent, .ref t_line, .int x42.1, .ref t_reply, .int t_told, .ref t_latest, .int t_latestSize, .ref t_made, .int t_many, .int t_askS, .int t_askR])), (t_registers, .inl (t_registers_c, 4, .inl t_registers_f)), (t_column, .inl (t_column_c, 3, .inl t_column_f)), (t_times, .inl (t_times_c, 13, .inl t_times_f)), (t_values, .inl (t_values_c, 39, .inl t_values_f)), (t_bytes, .inl (t_bytes_c, 280, .inl t_bytes_f)), (t_line, .inl (t_line_c, 80, .inl x42.2)), (t_reply, .inl (t_reply_c, 80, .inl t_reply_f)), (t_latest, .inl (t_latest_c, 80, .inl t_latest_f)), (t_made, .inl (t_made_c, 300, .inl t_made_f))] hP hD
        refine lv_aload_n hx hb dc_Mo_wrapLine_48 rfl (lv_at hl 0 rfl) ?_
        refine va_get (ci := 6) (v := .int x42.1) (C := cn_Mo) (T := cf_Mo) (N := 28) hx hb hB ki_Mo hown hK hP 0 rfl rfl 19 (by decide) (hB _ kw_fl_Mo_80) (fun _ h => h) rfl dc_Mo_wrapLine_49 ?_
        clear ih
        cases hm
        subst hQ
        exact bs_retI hx hb hr hlk () rfl hP hD hS dc_Mo_wrapLine_52
      · have hm := bs_neg h8 hm
        refine lv_aload_n hx hb dc_Mo_wrapLine_11 rfl (lv_at hl 0 rfl) ?_
        refine va_get (ci := 6) (v := .ref t_line) (C := cn_Mo) (T := cf_Mo) (N := 28) hx hb hB ki_Mo hown hK hP 0 rfl rfl 18 (by decide) (hB _ kw_fl_Mo_29) (fun _ h => h) rfl dc_Mo_wrapLine_12 ?_
        refine lv_bipush (v := 6) hx hb dc_Mo_wrapLine_15 (by decide +kernel) ?_
        refine lv_iload_n hx hb dc_Mo_wrapLine_17 rfl (lv_at hl 2 rfl) ?_
        refine lv_iadd hx hb dc_Mo_wrapLine_18 ?_
        refine lv_aload_n hx hb dc_Mo_wrapLine_19 rfl (lv_at hl 0 rfl) ?_
        refine va_get (ci := 6) (v := .ref t_line) (C := cn_Mo) (T := cf_Mo) (N := 28) hx hb hB ki_Mo hown hK hP 0 rfl rfl 18 (by decide) (hB _ kw_fl_Mo_29) (fun _ h => h) rfl dc_Mo_wrapLine_20 ?_
        refine lv_iload_n hx hb dc_Mo_wrapLine_23 rfl (lv_at hl 2 rfl) ?_
        obtain ⟨hz24, hm⟩ := bs_nn hm
        refine va_iald hx hb hK hP 6 5 rfl rfl hz24 dc_Mo_wrapLine_24 ?_
        obtain ⟨hz25, hm⟩ := bs_nn hm
        refine va_iast hx hb hK hP hD hS 6 5 rfl rfl hz25 dc_Mo_wrapLine_25 (fun H locs hP hD hS => ?_)
        obtain ⟨hP, hD⟩ := bs_say [(t, .inr (6, [.int t_secret, .int t_thrown, .int t_time, .ref t_registers, .int t_capacity, .int t_period, .int t_columns, .ref t_column, .int t_entries, .ref t_times, .ref t_values, .int t_connected, .int t_expected, .int t_next, .int t_association, .ref t_bytes, .int t_size, .int t_sent, .ref t_line, .int t_count, .ref t_reply, .int t_told, .ref t_latest, .int t_latestSize, .ref t_made, .int t_many, .int t_askS, .int t_askR])), (t_registers, .inl (t_registers_c, 4, .inl t_registers_f)), (t_column, .inl (t_column_c, 3, .inl t_column_f)), (t_times, .inl (t_times_c, 13, .inl t_times_f)), (t_values, .inl (t_values_c, 39, .inl t_values_f)), (t_bytes, .inl (t_bytes_c, 280, .inl t_bytes_f)), (t_line, .inl (t_line_c, 80, .inl (upd t_line_f ((6 + v2).toNatClampNeg) (t_line_f v2.toNatClampNeg)))), (t_reply, .inl (t_reply_c, 80, .inl t_reply_f)), (t_latest, .inl (t_latest_c, 80, .inl t_latest_f)), (t_made, .inl (t_made_c, 300, .inl t_made_f))] hP hD
        refine lv_iinc (k := 2) (v := v2 + (-1)) hx hb dc_Mo_wrapLine_26 hl rfl (bs_incm1 _) (by decide) rfl (fun ls hl => ?_)
        have hl : lv_has ls 3 [(2, .int (v2 + (-1))), (0, .ref t), (1, .int v1)] := hl
        refine lv_goto (tgt := 7) hx hb dc_Mo_wrapLine_29 (by decide) ?_
        exact ih v1 (v2 + (-1)) t_count (upd t_line_f ((6 + v2).toNatClampNeg) (t_line_f v2.toNatClampNeg)) ls _ _ hm (lv_sub hl [1, 2, 0] rfl) hP hD hS
  have hl : lv_has ls 3 [(0, .ref t), (1, .int i1)] := hl
  have hm := (mq_Mo_wrapLine F i1 t_count t_line_f).symm.trans hm
  refine lv_aload_n hx hb dc_Mo_wrapLine_0 rfl (lv_at hl 0 rfl) ?_
  refine va_get (ci := 6) (v := .int t_count) (C := cn_Mo) (T := cf_Mo) (N := 28) hx hb hB ki_Mo hown hK hP 0 rfl rfl 19 (by decide) (hB _ kw_fl_Mo_80) (fun _ h => h) rfl dc_Mo_wrapLine_1 ?_
  refine lv_iconst (v := 1) hx hb dc_Mo_wrapLine_4 (by decide +kernel) ?_
  refine lv_isub hx hb dc_Mo_wrapLine_5 ?_
  refine lv_istore_n hx hb dc_Mo_wrapLine_6 rfl hl (by decide) rfl (fun ls hl => ?_)
  have hl : lv_has ls 3 [(2, .int (t_count - 1)), (0, .ref t), (1, .int i1)] := hl
  exact hL7 F i1 (t_count - 1) t_count t_line_f ls _ _ hm (lv_sub hl [1, 2, 0] rfl) hP hD hS
set_option maxHeartbeats 2000000 in
set_option maxRecDepth 100000 in
theorem ct_Mo_frame (l : Launch) (D : va_G) (F : Nat) (t : Nat) (t_registers : Nat) (t_column : Nat) (t_times : Nat) (t_values : Nat) (t_bytes : Nat) (t_line : Nat) (t_reply : Nat) (t_latest : Nat) (t_made : Nat) (t_registers_c : ClassId) (t_column_c : ClassId) (t_times_c : ClassId) (t_values_c : ClassId) (t_bytes_c : ClassId) (t_line_c : ClassId) (t_reply_c : ClassId) (t_latest_c : ClassId) (t_made_c : ClassId) (t_secret : Int32) (t_thrown : Int32) (t_time : Int32) (t_capacity : Int32) (t_period : Int32) (t_columns : Int32) (t_entries : Int32) (t_connected : Int32) (t_expected : Int32) (t_next : Int32) (t_association : Int32) (t_size : Int32) (t_sent : Int32) (t_count : Int32) (t_told : Int32) (t_latestSize : Int32) (t_many : Int32) (t_askS : Int32) (t_askR : Int32) (t_registers_f : Nat → Int32) (t_column_f : Nat → Int32) (t_times_f : Nat → Int32) (t_values_f : Nat → Int32) (t_bytes_f : Nat → Int32) (t_line_f : Nat → Int32) (t_reply_f : Nat → Int32) (t_latest_f : Nat → Int32) (t_made_f : Nat → Int32) (i1 : Int32) (r : Int32 × Int32 × Int32 × (Nat → Int32)) (hm : mm_Mo_frame F i1 t_thrown t_count t_line_f = some r) :
    bs_CI l my_Mo_frame mb_Mo_frame 2 .int (bs_rm 3) D [.ref t, .int i1] [(t_registers_c, .int), (t_column_c, .int), (t_times_c, .int), (t_values_c, .int), (t_bytes_c, .int), (t_line_c, .int), (t_reply_c, .int), (t_latest_c, .int), (t_made_c, .int)] [(t, .inr (6, [.int t_secret, .int t_thrown, .int t_time, .ref t_registers, .int t_capacity, .int t_period, .int t_columns, .ref t_column, .int t_entries, .ref t_times, .ref t_values, .int t_connected, .int t_expected, .int t_next, .int t_association, .ref t_bytes, .int t_size, .int t_sent, .ref t_line, .int t_count, .ref t_reply, .int t_told, .ref t_latest, .int t_latestSize, .ref t_made, .int t_many, .int t_askS, .int t_askR])), (t_registers, .inl (t_registers_c, 4, .inl t_registers_f)), (t_column, .inl (t_column_c, 3, .inl t_column_f)), (t_times, .inl (t_times_c, 13, .inl t_times_f)), (t_values, .inl (t_values_c, 39, .inl t_values_f)), (t_bytes, .inl (t_bytes_c, 280, .inl t_bytes_f)), (t_line, .inl (t_line_c, 80, .inl t_line_f)), (t_reply, .inl (t_reply_c, 80, .inl t_reply_f)), (t_latest, .inl (t_latest_c, 80, .inl t_latest_f)), (t_made, .inl (t_made_c, 300, .inl t_made_f))] (S := Unit) (fun v (_ : Unit) => v = r.1) (fun _ => [(t, .inr (6, [.int t_secret, .int r.2.1, .int t_time, .ref t_registers, .int t_capacity, .int t_period, .int t_columns, .ref t_column, .int t_entries, .ref t_times, .ref t_values, .int t_connected, .int t_expected, .int t_next, .int t_association, .ref t_bytes, .int t_size, .int t_sent, .ref t_line, .int r.2.2.1, .ref t_reply, .int t_told, .ref t_latest, .int t_latestSize, .ref t_made, .int t_many, .int t_askS, .int t_askR])), (t_registers, .inl (t_registers_c, 4, .inl t_registers_f)), (t_column, .inl (t_column_c, 3, .inl t_column_f)), (t_times, .inl (t_times_c, 13, .inl t_times_f)), (t_values, .inl (t_values_c, 39, .inl t_values_f)), (t_bytes, .inl (t_bytes_c, 280, .inl t_bytes_f)), (t_line, .inl (t_line_c, 80, .inl r.2.2.2)), (t_reply, .inl (t_reply_c, 80, .inl t_reply_f)), (t_latest, .inl (t_latest_c, 80, .inl t_latest_f)), (t_made, .inl (t_made_c, 300, .inl t_made_f))]) := by
  refine bs_CI.mk (by decide +kernel) (bs_ler rfl) ?_
  intro p e s m below meth c ls A hx hb hr hml hlk hown hB hN hP hK hD hS hA hl
  refine bs_genQ (fun Q hQ => ?_)
  have hJ12 : ∀ (v1 : Int32) (t_thrown : Int32) (t_count : Int32) (t_line_f : Nat → Int32) (ls : Array Slot) (H : Heap) (locs : List Loc), mm_Mo_frame_J12 F v1 t_thrown t_count t_line_f = some r → lv_has ls 2 [(0, .ref t), (1, .int v1)] → va_P D bs_cl [(t, .inr (6, [.int t_secret, .int t_thrown, .int t_time, .ref t_registers, .int t_capacity, .int t_period, .int t_columns, .ref t_column, .int t_entries, .ref t_times, .ref t_values, .int t_connected, .int t_expected, .int t_next, .int t_association, .ref t_bytes, .int t_size, .int t_sent, .ref t_line, .int t_count, .ref t_reply, .int t_told, .ref t_latest, .int t_latestSize, .ref t_made, .int t_many, .int t_askS, .int t_askR])), (t_registers, .inl (t_registers_c, 4, .inl t_registers_f)), (t_column, .inl (t_column_c, 3, .inl t_column_f)), (t_times, .inl (t_times_c, 13, .inl t_times_f)), (t_values, .inl (t_values_c, 39, .inl t_values_f)), (t_bytes, .inl (t_bytes_c, 280, .inl t_bytes_f)), (t_line, .inl (t_line_c, 80, .inl t_line_f)), (t_reply, .inl (t_reply_c, 80, .inl t_reply_f)), (t_latest, .inl (t_latest_c, 80, .inl t_latest_f)), (t_made, .inl (t_made_c, 300, .inl t_made_f))] H → va_D A [(t, .inr (6, [.int t_secret, .int t_thrown, .int t_time, .ref t_registers, .int t_capacity, .int t_period, .int t_columns, .ref t_column, .int t_entries, .ref t_times, .ref t_values, .int t_connected, .int t_expected, .int t_next, .int t_association, .ref t_bytes, .int t_size, .int t_sent, .ref t_line, .int t_count, .ref t_reply, .int t_told, .ref t_latest, .int t_latestSize, .ref t_made, .int t_many, .int t_askS, .int t_askR])), (t_registers, .inl (t_registers_c, 4, .inl t_registers_f)), (t_column, .inl (t_column_c, 3, .inl t_column_f)), (t_times, .inl (t_times_c, 13, .inl t_times_f)), (t_values, .inl (t_values_c, 39, .inl t_values_f)), (t_bytes, .inl (t_bytes_c, 280, .inl t_bytes_f)), (t_line, .inl (t_line_c, 80, .inl t_line_f)), (t_reply, .inl (t_reply_c, 80, .inl t_reply_f)), (t_latest, .inl (t_latest_c, 80, .inl t_latest_f)), (t_made, .inl (t_made_c, 300, .inl t_made_f))] → va_S A s.heap H locs → W p l e (bs_rm 3) s m [.ref t, .int i1].toArray below meth c H locs 0 0 Q (F0 m 12 ls [.ref t]) := by
    intro v1 t_thrown t_count t_line_f ls H locs hm hl hP hD hS
    have hm := (mq_Mo_frame_J12 F v1 t_thrown t_count t_line_f).symm.trans hm
    refine lv_iconst (v := 1) hx hb dc_Mo_frame_12 (by decide +kernel) ?_
    refine lv_goto (tgt := 30) hx hb dc_Mo_frame_13 (by decide) ?_
    refine va_put (ci := 6) (v := .int 1) (ty := .int) (C := cn_Mo) (T := cf_Mo) (N := 28) hx hb hB ki_Mo ct_Mo cp_Mo cd_Mo hown hK hP hD hS 0 rfl rfl 1 (by decide) (hB _ kw_fl_Mo_47) (fun _ h => h) rfl (by decide +kernel) rfl rfl (bs_ltr rfl) dc_Mo_frame_30 (fun H locs hP hD hS => ?_)
    obtain ⟨hP, hD⟩ := bs_say [(t, .inr (6, [.int t_secret, .int 1, .int t_time, .ref t_registers, .int t_capacity, .int t_period, .int t_columns, .ref t_column, .int t_entries, .ref t_times, .ref t_values, .int t_connected, .int t_expected, .int t_next, .int t_association, .ref t_bytes, .int t_size, .int t_sent, .ref t_line, .int t_count, .ref t_reply, .int t_told, .ref t_latest, .int t_latestSize, .ref t_made, .int t_many, .int t_askS, .int t_askR])), (t_registers, .inl (t_registers_c, 4, .inl t_registers_f)), (t_column, .inl (t_column_c, 3, .inl t_column_f)), (t_times, .inl (t_times_c, 13, .inl t_times_f)), (t_values, .inl (t_values_c, 39, .inl t_values_f)), (t_bytes, .inl (t_bytes_c, 280, .inl t_bytes_f)), (t_line, .inl (t_line_c, 80, .inl t_line_f)), (t_reply, .inl (t_reply_c, 80, .inl t_reply_f)), (t_latest, .inl (t_latest_c, 80, .inl t_latest_f)), (t_made, .inl (t_made_c, 300, .inl t_made_f))] hP hD
    refine lv_aload_n hx hb dc_Mo_frame_33 rfl (lv_at hl 0 rfl) ?_
    refine va_get (ci := 6) (v := .int 1) (C := cn_Mo) (T := cf_Mo) (N := 28) hx hb hB ki_Mo hown hK hP 0 rfl rfl 1 (by decide) (hB _ kw_fl_Mo_47) (fun _ h => h) rfl dc_Mo_frame_34 ?_
    refine lv_if_le (tgt := 44) hx hb dc_Mo_frame_37 (by decide) (fun h37 => ?_) (fun h37 => ?_)
    · exact absurd h37 (by decide +kernel)
    · refine lv_iconst (v := 0) hx hb dc_Mo_frame_40 (by decide +kernel) ?_
      refine lv_goto (tgt := 49) hx hb dc_Mo_frame_41 (by decide) ?_
      cases hm
      subst hQ
      exact bs_retI hx hb hr hlk () rfl hP hD hS dc_Mo_frame_49
  have hl : lv_has ls 2 [(0, .ref t), (1, .int i1)] := hl
  have hm := (mq_Mo_frame F i1 t_thrown t_count t_line_f).symm.trans hm
  refine lv_aload_n hx hb dc_Mo_frame_0 rfl (lv_at hl 0 rfl) ?_
  refine lv_iload_n hx hb dc_Mo_frame_1 rfl (lv_at hl 1 rfl) ?_
  refine lv_if_lt (tgt := 12) hx hb dc_Mo_frame_2 (by decide) (fun h2 => ?_) (fun h2 => ?_)
  · have hm := bs_pos h2 hm
    exact hJ12 i1 t_thrown t_count t_line_f ls _ _ hm hl hP hD hS
  · have hm := bs_neg h2 hm
    refine lv_iload_n hx hb dc_Mo_frame_5 rfl (lv_at hl 1 rfl) ?_
    refine lv_sipush (v := 255) hx hb dc_Mo_frame_6 (by decide +kernel) ?_
    refine lv_icmp_le (tgt := 16) hx hb dc_Mo_frame_9 (by decide) (fun h9 => ?_) (fun h9 => ?_)
    · have hm := bs_pos h9 hm
      refine lv_aload_n hx hb dc_Mo_frame_16 rfl (lv_at hl 0 rfl) ?_
      refine va_get (ci := 6) (v := .int t_count) (C := cn_Mo) (T := cf_Mo) (N := 28) hx hb hB ki_Mo hown hK hP 0 rfl rfl 19 (by decide) (hB _ kw_fl_Mo_80) (fun _ h => h) rfl dc_Mo_frame_17 ?_
      refine lv_bipush (v := 60) hx hb dc_Mo_frame_20 (by decide +kernel) ?_
      refine lv_icmp_le (tgt := 29) hx hb dc_Mo_frame_22 (by decide) (fun h22 => ?_) (fun h22 => ?_)
      · have hm := bs_pos h22 hm
        refine lv_iconst (v := 0) hx hb dc_Mo_frame_29 (by decide +kernel) ?_
        refine va_put (ci := 6) (v := .int 0) (ty := .int) (C := cn_Mo) (T := cf_Mo) (N := 28) hx hb hB ki_Mo ct_Mo cp_Mo cd_Mo hown hK hP hD hS 0 rfl rfl 1 (by decide) (hB _ kw_fl_Mo_47) (fun _ h => h) rfl (by decide +kernel) rfl rfl (bs_ltr rfl) dc_Mo_frame_30 (fun H locs hP hD hS => ?_)
        obtain ⟨hP, hD⟩ := bs_say [(t, .inr (6, [.int t_secret, .int 0, .int t_time, .ref t_registers, .int t_capacity, .int t_period, .int t_columns, .ref t_column, .int t_entries, .ref t_times, .ref t_values, .int t_connected, .int t_expected, .int t_next, .int t_association, .ref t_bytes, .int t_size, .int t_sent, .ref t_line, .int t_count, .ref t_reply, .int t_told, .ref t_latest, .int t_latestSize, .ref t_made, .int t_many, .int t_askS, .int t_askR])), (t_registers, .inl (t_registers_c, 4, .inl t_registers_f)), (t_column, .inl (t_column_c, 3, .inl t_column_f)), (t_times, .inl (t_times_c, 13, .inl t_times_f)), (t_values, .inl (t_values_c, 39, .inl t_values_f)), (t_bytes, .inl (t_bytes_c, 280, .inl t_bytes_f)), (t_line, .inl (t_line_c, 80, .inl t_line_f)), (t_reply, .inl (t_reply_c, 80, .inl t_reply_f)), (t_latest, .inl (t_latest_c, 80, .inl t_latest_f)), (t_made, .inl (t_made_c, 300, .inl t_made_f))] hP hD
        refine lv_aload_n hx hb dc_Mo_frame_33 rfl (lv_at hl 0 rfl) ?_
        refine va_get (ci := 6) (v := .int 0) (C := cn_Mo) (T := cf_Mo) (N := 28) hx hb hB ki_Mo hown hK hP 0 rfl rfl 1 (by decide) (hB _ kw_fl_Mo_47) (fun _ h => h) rfl dc_Mo_frame_34 ?_
        refine lv_if_le (tgt := 44) hx hb dc_Mo_frame_37 (by decide) (fun h37 => ?_) (fun h37 => ?_)
        · refine lv_aload_n hx hb dc_Mo_frame_44 rfl (lv_at hl 0 rfl) ?_
          refine lv_iload_n hx hb dc_Mo_frame_45 rfl (lv_at hl 1 rfl) ?_
          obtain ⟨x46, hx46, hm⟩ := bs_bind hm
          refine bs_callVi 1 [] (fun _ => [(t, .inr (6, [.int t_secret, .int 0, .int t_time, .ref t_registers, .int t_capacity, .int t_period, .int t_columns, .ref t_column, .int t_entries, .ref t_times, .ref t_values, .int t_connected, .int t_expected, .int t_next, .int t_association, .ref t_bytes, .int t_size, .int t_sent, .ref t_line, .int x46.2.1, .ref t_reply, .int t_told, .ref t_latest, .int t_latestSize, .ref t_made, .int t_many, .int t_askS, .int t_askR])), (t_registers, .inl (t_registers_c, 4, .inl t_registers_f)), (t_column, .inl (t_column_c, 3, .inl t_column_f)), (t_times, .inl (t_times_c, 13, .inl t_times_f)), (t_values, .inl (t_values_c, 39, .inl t_values_f)), (t_bytes, .inl (t_bytes_c, 280, .inl t_bytes_f)), (t_line, .inl (t_line_c, 80, .inl x46.2.2)), (t_reply, .inl (t_reply_c, 80, .inl t_reply_f)), (t_latest, .inl (t_latest_c, 80, .inl t_latest_f)), (t_made, .inl (t_made_c, 300, .inl t_made_f))]) [] hx hb hml hown hB hN hK hP hD hS hA (ct_Mo_wrapLine l D F t t_registers t_column t_times t_values t_bytes t_line t_reply t_latest t_made t_registers_c t_column_c t_times_c t_values_c t_bytes_c t_line_c t_reply_c t_latest_c t_made_c t_secret 0 t_time t_capacity t_period t_columns t_entries t_connected t_expected t_next t_association t_size t_sent t_count t_told t_latestSize t_many t_askS t_askR t_registers_f t_column_f t_times_f t_values_f t_bytes_f t_line_f t_reply_f t_latest_f t_made_f i1 x46 hx46) kw_cd_Mo_wrapLine kw_ml_Mo_93 kw_im_Mo_wrapLine kw_se_Mo_wrapLine kw_in_Mo kd_Mo_wrapLine (by decide) ⟨_, _, _, rfl, rfl, rfl⟩ [0, 1, 2, 3, 4, 5, 6, 7, 8, 9] [] rfl rfl (by decide) [0, 1, 2, 3, 4, 5, 6, 7, 8] rfl [0, 1, 2, 3, 4, 5, 6, 7, 8, 9] (by decide) (fun _ => rfl) rfl hl.1 (bs_ler rfl) (by decide) dc_Mo_frame_46 rfl (fun v46q _ H locs hq46 hP hD hS => ?_)
          have hq46 := hq46.symm
          subst hq46
          clear hJ12
          cases hm
          subst hQ
          exact bs_retI hx hb hr hlk () rfl hP hD hS dc_Mo_frame_49
        · exact absurd h37 (by decide +kernel)
      · have hm := bs_neg h22 hm
        refine lv_iconst (v := 2) hx hb dc_Mo_frame_25 (by decide +kernel) ?_
        refine lv_goto (tgt := 30) hx hb dc_Mo_frame_26 (by decide) ?_
        refine va_put (ci := 6) (v := .int 2) (ty := .int) (C := cn_Mo) (T := cf_Mo) (N := 28) hx hb hB ki_Mo ct_Mo cp_Mo cd_Mo hown hK hP hD hS 0 rfl rfl 1 (by decide) (hB _ kw_fl_Mo_47) (fun _ h => h) rfl (by decide +kernel) rfl rfl (bs_ltr rfl) dc_Mo_frame_30 (fun H locs hP hD hS => ?_)
        obtain ⟨hP, hD⟩ := bs_say [(t, .inr (6, [.int t_secret, .int 2, .int t_time, .ref t_registers, .int t_capacity, .int t_period, .int t_columns, .ref t_column, .int t_entries, .ref t_times, .ref t_values, .int t_connected, .int t_expected, .int t_next, .int t_association, .ref t_bytes, .int t_size, .int t_sent, .ref t_line, .int t_count, .ref t_reply, .int t_told, .ref t_latest, .int t_latestSize, .ref t_made, .int t_many, .int t_askS, .int t_askR])), (t_registers, .inl (t_registers_c, 4, .inl t_registers_f)), (t_column, .inl (t_column_c, 3, .inl t_column_f)), (t_times, .inl (t_times_c, 13, .inl t_times_f)), (t_values, .inl (t_values_c, 39, .inl t_values_f)), (t_bytes, .inl (t_bytes_c, 280, .inl t_bytes_f)), (t_line, .inl (t_line_c, 80, .inl t_line_f)), (t_reply, .inl (t_reply_c, 80, .inl t_reply_f)), (t_latest, .inl (t_latest_c, 80, .inl t_latest_f)), (t_made, .inl (t_made_c, 300, .inl t_made_f))] hP hD
        refine lv_aload_n hx hb dc_Mo_frame_33 rfl (lv_at hl 0 rfl) ?_
        refine va_get (ci := 6) (v := .int 2) (C := cn_Mo) (T := cf_Mo) (N := 28) hx hb hB ki_Mo hown hK hP 0 rfl rfl 1 (by decide) (hB _ kw_fl_Mo_47) (fun _ h => h) rfl dc_Mo_frame_34 ?_
        refine lv_if_le (tgt := 44) hx hb dc_Mo_frame_37 (by decide) (fun h37 => ?_) (fun h37 => ?_)
        · exact absurd h37 (by decide +kernel)
        · refine lv_iconst (v := 0) hx hb dc_Mo_frame_40 (by decide +kernel) ?_
          refine lv_goto (tgt := 49) hx hb dc_Mo_frame_41 (by decide) ?_
          clear hJ12
          cases hm
          subst hQ
          exact bs_retI hx hb hr hlk () rfl hP hD hS dc_Mo_frame_49
    · have hm := bs_neg h9 hm
      exact hJ12 i1 t_thrown t_count t_line_f ls _ _ hm hl hP hD hS
set_option maxHeartbeats 2000000 in
set_option maxRecDepth 100000 in
theorem ct_Mo_ask (l : Launch) (D : va_G) (F : Nat) (t : Nat) (t_registers : Nat) (t_column : Nat) (t_times : Nat) (t_values : Nat) (t_bytes : Nat) (t_line : Nat) (t_reply : Nat) (t_latest : Nat) (t_made : Nat) (t_registers_c : ClassId) (t_column_c : ClassId) (t_times_c : ClassId) (t_values_c : ClassId) (t_bytes_c : ClassId) (t_line_c : ClassId) (t_reply_c : ClassId) (t_latest_c : ClassId) (t_made_c : ClassId) (t_secret : Int32) (t_thrown : Int32) (t_time : Int32) (t_capacity : Int32) (t_period : Int32) (t_columns : Int32) (t_entries : Int32) (t_connected : Int32) (t_expected : Int32) (t_next : Int32) (t_association : Int32) (t_size : Int32) (t_sent : Int32) (t_count : Int32) (t_told : Int32) (t_latestSize : Int32) (t_many : Int32) (t_askS : Int32) (t_askR : Int32) (t_registers_f : Nat → Int32) (t_column_f : Nat → Int32) (t_times_f : Nat → Int32) (t_values_f : Nat → Int32) (t_bytes_f : Nat → Int32) (t_line_f : Nat → Int32) (t_reply_f : Nat → Int32) (t_latest_f : Nat → Int32) (t_made_f : Nat → Int32) (r : Int32 × Int32 × Int32 × (Nat → Int32)) (hm : mm_Mo_ask F t_thrown t_count t_askS t_askR t_line_f = some r) :
    bs_CI l my_Mo_ask mb_Mo_ask 1 .int (bs_rm 3) D [.ref t] [(t_registers_c, .int), (t_column_c, .int), (t_times_c, .int), (t_values_c, .int), (t_bytes_c, .int), (t_line_c, .int), (t_reply_c, .int), (t_latest_c, .int), (t_made_c, .int)] [(t, .inr (6, [.int t_secret, .int t_thrown, .int t_time, .ref t_registers, .int t_capacity, .int t_period, .int t_columns, .ref t_column, .int t_entries, .ref t_times, .ref t_values, .int t_connected, .int t_expected, .int t_next, .int t_association, .ref t_bytes, .int t_size, .int t_sent, .ref t_line, .int t_count, .ref t_reply, .int t_told, .ref t_latest, .int t_latestSize, .ref t_made, .int t_many, .int t_askS, .int t_askR])), (t_registers, .inl (t_registers_c, 4, .inl t_registers_f)), (t_column, .inl (t_column_c, 3, .inl t_column_f)), (t_times, .inl (t_times_c, 13, .inl t_times_f)), (t_values, .inl (t_values_c, 39, .inl t_values_f)), (t_bytes, .inl (t_bytes_c, 280, .inl t_bytes_f)), (t_line, .inl (t_line_c, 80, .inl t_line_f)), (t_reply, .inl (t_reply_c, 80, .inl t_reply_f)), (t_latest, .inl (t_latest_c, 80, .inl t_latest_f)), (t_made, .inl (t_made_c, 300, .inl t_made_f))] (S := Unit) (fun v (_ : Unit) => v = r.1) (fun _ => [(t, .inr (6, [.int t_secret, .int r.2.1, .int t_time, .ref t_registers, .int t_capacity, .int t_period, .int t_columns, .ref t_column, .int t_entries, .ref t_times, .ref t_values, .int t_connected, .int t_expected, .int t_next, .int t_association, .ref t_bytes, .int t_size, .int t_sent, .ref t_line, .int r.2.2.1, .ref t_reply, .int t_told, .ref t_latest, .int t_latestSize, .ref t_made, .int t_many, .int t_askS, .int t_askR])), (t_registers, .inl (t_registers_c, 4, .inl t_registers_f)), (t_column, .inl (t_column_c, 3, .inl t_column_f)), (t_times, .inl (t_times_c, 13, .inl t_times_f)), (t_values, .inl (t_values_c, 39, .inl t_values_f)), (t_bytes, .inl (t_bytes_c, 280, .inl t_bytes_f)), (t_line, .inl (t_line_c, 80, .inl r.2.2.2)), (t_reply, .inl (t_reply_c, 80, .inl t_reply_f)), (t_latest, .inl (t_latest_c, 80, .inl t_latest_f)), (t_made, .inl (t_made_c, 300, .inl t_made_f))]) := by
  refine bs_CI.mk (by decide +kernel) (bs_ler rfl) ?_
  intro p e s m below meth c ls A hx hb hr hml hlk hown hB hN hP hK hD hS hA hl
  refine bs_genQ (fun Q hQ => ?_)
  have hJ22 : ∀ (s0 : Int32) (t_thrown : Int32) (t_count : Int32) (t_line_f : Nat → Int32) (ls : Array Slot) (H : Heap) (locs : List Loc), mm_Mo_ask_J22 F s0 t_thrown t_count t_askS t_askR t_line_f = some r → lv_has ls 1 [(0, .ref t)] → va_P D bs_cl [(t, .inr (6, [.int t_secret, .int t_thrown, .int t_time, .ref t_registers, .int t_capacity, .int t_period, .int t_columns, .ref t_column, .int t_entries, .ref t_times, .ref t_values, .int t_connected, .int t_expected, .int t_next, .int t_association, .ref t_bytes, .int t_size, .int t_sent, .ref t_line, .int t_count, .ref t_reply, .int t_told, .ref t_latest, .int t_latestSize, .ref t_made, .int t_many, .int t_askS, .int t_askR])), (t_registers, .inl (t_registers_c, 4, .inl t_registers_f)), (t_column, .inl (t_column_c, 3, .inl t_column_f)), (t_times, .inl (t_times_c, 13, .inl t_times_f)), (t_values, .inl (t_values_c, 39, .inl t_values_f)), (t_bytes, .inl (t_bytes_c, 280, .inl t_bytes_f)), (t_line, .inl (t_line_c, 80, .inl t_line_f)), (t_reply, .inl (t_reply_c, 80, .inl t_reply_f)), (t_latest, .inl (t_latest_c, 80, .inl t_latest_f)), (t_made, .inl (t_made_c, 300, .inl t_made_f))] H → va_D A [(t, .inr (6, [.int t_secret, .int t_thrown, .int t_time, .ref t_registers, .int t_capacity, .int t_period, .int t_columns, .ref t_column, .int t_entries, .ref t_times, .ref t_values, .int t_connected, .int t_expected, .int t_next, .int t_association, .ref t_bytes, .int t_size, .int t_sent, .ref t_line, .int t_count, .ref t_reply, .int t_told, .ref t_latest, .int t_latestSize, .ref t_made, .int t_many, .int t_askS, .int t_askR])), (t_registers, .inl (t_registers_c, 4, .inl t_registers_f)), (t_column, .inl (t_column_c, 3, .inl t_column_f)), (t_times, .inl (t_times_c, 13, .inl t_times_f)), (t_values, .inl (t_values_c, 39, .inl t_values_f)), (t_bytes, .inl (t_bytes_c, 280, .inl t_bytes_f)), (t_line, .inl (t_line_c, 80, .inl t_line_f)), (t_reply, .inl (t_reply_c, 80, .inl t_reply_f)), (t_latest, .inl (t_latest_c, 80, .inl t_latest_f)), (t_made, .inl (t_made_c, 300, .inl t_made_f))] → va_S A s.heap H locs → W p l e (bs_rm 3) s m [.ref t].toArray below meth c H locs 0 0 Q (F0 m 22 ls [.int s0, .ref t]) := by
    intro s0 t_thrown t_count t_line_f ls H locs hm hl hP hD hS
    have hm := (mq_Mo_ask_J22 F s0 t_thrown t_count t_askS t_askR t_line_f).symm.trans hm
    refine va_put (ci := 6) (v := .int s0) (ty := .int) (C := cn_Mo) (T := cf_Mo) (N := 28) hx hb hB ki_Mo ct_Mo cp_Mo cd_Mo hown hK hP hD hS 0 rfl rfl 1 (by decide) (hB _ kw_fl_Mo_47) (fun _ h => h) rfl (by decide +kernel) rfl rfl (bs_ltr rfl) dc_Mo_ask_22 (fun H locs hP hD hS => ?_)
    obtain ⟨hP, hD⟩ := bs_say [(t, .inr (6, [.int t_secret, .int s0, .int t_time, .ref t_registers, .int t_capacity, .int t_period, .int t_columns, .ref t_column, .int t_entries, .ref t_times, .ref t_values, .int t_connected, .int t_expected, .int t_next, .int t_association, .ref t_bytes, .int t_size, .int t_sent, .ref t_line, .int t_count, .ref t_reply, .int t_told, .ref t_latest, .int t_latestSize, .ref t_made, .int t_many, .int t_askS, .int t_askR])), (t_registers, .inl (t_registers_c, 4, .inl t_registers_f)), (t_column, .inl (t_column_c, 3, .inl t_column_f)), (t_times, .inl (t_times_c, 13, .inl t_times_f)), (t_values, .inl (t_values_c, 39, .inl t_values_f)), (t_bytes, .inl (t_bytes_c, 280, .inl t_bytes_f)), (t_line, .inl (t_line_c, 80, .inl t_line_f)), (t_reply, .inl (t_reply_c, 80, .inl t_reply_f)), (t_latest, .inl (t_latest_c, 80, .inl t_latest_f)), (t_made, .inl (t_made_c, 300, .inl t_made_f))] hP hD
    refine lv_aload_n hx hb dc_Mo_ask_25 rfl (lv_at hl 0 rfl) ?_
    refine va_get (ci := 6) (v := .int s0) (C := cn_Mo) (T := cf_Mo) (N := 28) hx hb hB ki_Mo hown hK hP 0 rfl rfl 1 (by decide) (hB _ kw_fl_Mo_47) (fun _ h => h) rfl dc_Mo_ask_26 ?_
    refine lv_if_le (tgt := 36) hx hb dc_Mo_ask_29 (by decide) (fun h29 => ?_) (fun h29 => ?_)
    · have hm := bs_pos h29 hm
      refine lv_aload_n hx hb dc_Mo_ask_36 rfl (lv_at hl 0 rfl) ?_
      refine lv_bipush (v := 16) hx hb dc_Mo_ask_37 (by decide +kernel) ?_
      refine lv_iconst (v := 2) hx hb dc_Mo_ask_39 (by decide +kernel) ?_
      refine lv_aload_n hx hb dc_Mo_ask_40 rfl (lv_at hl 0 rfl) ?_
      refine va_get (ci := 6) (v := .int t_askS) (C := cn_Mo) (T := cf_Mo) (N := 28) hx hb hB ki_Mo hown hK hP 0 rfl rfl 26 (by decide) (hB _ kw_fl_Mo_97) (fun _ h => h) rfl dc_Mo_ask_41 ?_
      refine lv_imul hx hb dc_Mo_ask_44 ?_
      refine lv_iadd hx hb dc_Mo_ask_45 ?_
      refine lv_bipush (v := 32) hx hb dc_Mo_ask_46 (by decide +kernel) ?_
      refine lv_aload_n hx hb dc_Mo_ask_48 rfl (lv_at hl 0 rfl) ?_
      refine va_get (ci := 6) (v := .int t_askR) (C := cn_Mo) (T := cf_Mo) (N := 28) hx hb hB ki_Mo hown hK hP 0 rfl rfl 27 (by decide) (hB _ kw_fl_Mo_100) (fun _ h => h) rfl dc_Mo_ask_49 ?_
      refine lv_imul hx hb dc_Mo_ask_52 ?_
      refine lv_iadd hx hb dc_Mo_ask_53 ?_
      obtain ⟨x54, hx54, hm⟩ := bs_bind hm
      refine bs_callVi 1 [] (fun _ => [(t, .inr (6, [.int t_secret, .int s0, .int t_time, .ref t_registers, .int t_capacity, .int t_period, .int t_columns, .ref t_column, .int t_entries, .ref t_times, .ref t_values, .int t_connected, .int t_expected, .int t_next, .int t_association, .ref t_bytes, .int t_size, .int t_sent, .ref t_line, .int x54.2.1, .ref t_reply, .int t_told, .ref t_latest, .int t_latestSize, .ref t_made, .int t_many, .int t_askS, .int t_askR])), (t_registers, .inl (t_registers_c, 4, .inl t_registers_f)), (t_column, .inl (t_column_c, 3, .inl t_column_f)), (t_times, .inl (t_times_c, 13, .inl t_times_f)), (t_values, .inl (t_values_c, 39, .inl t_values_f)), (t_bytes, .inl (t_bytes_c, 280, .inl t_bytes_f)), (t_line, .inl (t_line_c, 80, .inl x54.2.2)), (t_reply, .inl (t_reply_c, 80, .inl t_reply_f)), (t_latest, .inl (t_latest_c, 80, .inl t_latest_f)), (t_made, .inl (t_made_c, 300, .inl t_made_f))]) [] hx hb hml hown hB hN hK hP hD hS hA (ct_Mo_wrapLine l D F t t_registers t_column t_times t_values t_bytes t_line t_reply t_latest t_made t_registers_c t_column_c t_times_c t_values_c t_bytes_c t_line_c t_reply_c t_latest_c t_made_c t_secret s0 t_time t_capacity t_period t_columns t_entries t_connected t_expected t_next t_association t_size t_sent t_count t_told t_latestSize t_many t_askS t_askR t_registers_f t_column_f t_times_f t_values_f t_bytes_f t_line_f t_reply_f t_latest_f t_made_f ((16 + (2 * t_askS)) + (32 * t_askR)) x54 hx54) kw_cd_Mo_wrapLine kw_ml_Mo_93 kw_im_Mo_wrapLine kw_se_Mo_wrapLine kw_in_Mo kd_Mo_wrapLine (by decide) ⟨_, _, _, rfl, rfl, rfl⟩ [0, 1, 2, 3, 4, 5, 6, 7, 8, 9] [] rfl rfl (by decide) [0, 1, 2, 3, 4, 5, 6, 7, 8] rfl [0, 1, 2, 3, 4, 5, 6, 7, 8, 9] (by decide) (fun _ => rfl) rfl hl.1 (bs_ler rfl) (by decide) dc_Mo_ask_54 rfl (fun v54q _ H locs hq54 hP hD hS => ?_)
      have hq54 := hq54.symm
      subst hq54
      cases hm
      subst hQ
      exact bs_retI hx hb hr hlk () rfl hP hD hS dc_Mo_ask_57
    · have hm := bs_neg h29 hm
      refine lv_iconst (v := 0) hx hb dc_Mo_ask_32 (by decide +kernel) ?_
      refine lv_goto (tgt := 57) hx hb dc_Mo_ask_33 (by decide) ?_
      cases hm
      subst hQ
      exact bs_retI hx hb hr hlk () rfl hP hD hS dc_Mo_ask_57
  have hJ17 : ∀ (t_thrown : Int32) (t_count : Int32) (t_line_f : Nat → Int32) (ls : Array Slot) (H : Heap) (locs : List Loc), mm_Mo_ask_J17 F t_thrown t_count t_askS t_askR t_line_f = some r → lv_has ls 1 [(0, .ref t)] → va_P D bs_cl [(t, .inr (6, [.int t_secret, .int t_thrown, .int t_time, .ref t_registers, .int t_capacity, .int t_period, .int t_columns, .ref t_column, .int t_entries, .ref t_times, .ref t_values, .int t_connected, .int t_expected, .int t_next, .int t_association, .ref t_bytes, .int t_size, .int t_sent, .ref t_line, .int t_count, .ref t_reply, .int t_told, .ref t_latest, .int t_latestSize, .ref t_made, .int t_many, .int t_askS, .int t_askR])), (t_registers, .inl (t_registers_c, 4, .inl t_registers_f)), (t_column, .inl (t_column_c, 3, .inl t_column_f)), (t_times, .inl (t_times_c, 13, .inl t_times_f)), (t_values, .inl (t_values_c, 39, .inl t_values_f)), (t_bytes, .inl (t_bytes_c, 280, .inl t_bytes_f)), (t_line, .inl (t_line_c, 80, .inl t_line_f)), (t_reply, .inl (t_reply_c, 80, .inl t_reply_f)), (t_latest, .inl (t_latest_c, 80, .inl t_latest_f)), (t_made, .inl (t_made_c, 300, .inl t_made_f))] H → va_D A [(t, .inr (6, [.int t_secret, .int t_thrown, .int t_time, .ref t_registers, .int t_capacity, .int t_period, .int t_columns, .ref t_column, .int t_entries, .ref t_times, .ref t_values, .int t_connected, .int t_expected, .int t_next, .int t_association, .ref t_bytes, .int t_size, .int t_sent, .ref t_line, .int t_count, .ref t_reply, .int t_told, .ref t_latest, .int t_latestSize, .ref t_made, .int t_many, .int t_askS, .int t_askR])), (t_registers, .inl (t_registers_c, 4, .inl t_registers_f)), (t_column, .inl (t_column_c, 3, .inl t_column_f)), (t_times, .inl (t_times_c, 13, .inl t_times_f)), (t_values, .inl (t_values_c, 39, .inl t_values_f)), (t_bytes, .inl (t_bytes_c, 280, .inl t_bytes_f)), (t_line, .inl (t_line_c, 80, .inl t_line_f)), (t_reply, .inl (t_reply_c, 80, .inl t_reply_f)), (t_latest, .inl (t_latest_c, 80, .inl t_latest_f)), (t_made, .inl (t_made_c, 300, .inl t_made_f))] → va_S A s.heap H locs → W p l e (bs_rm 3) s m [.ref t].toArray below meth c H locs 0 0 Q (F0 m 17 ls [.ref t]) := by
    intro t_thrown t_count t_line_f ls H locs hm hl hP hD hS
    have hm := (mq_Mo_ask_J17 F t_thrown t_count t_askS t_askR t_line_f).symm.trans hm
    refine lv_iconst (v := 1) hx hb dc_Mo_ask_17 (by decide +kernel) ?_
    refine lv_goto (tgt := 22) hx hb dc_Mo_ask_18 (by decide) ?_
    exact hJ22 1 t_thrown t_count t_line_f ls _ _ hm hl hP hD hS
  have hl : lv_has ls 1 [(0, .ref t)] := hl
  have hm := (mq_Mo_ask F t_thrown t_count t_askS t_askR t_line_f).symm.trans hm
  refine lv_aload_n hx hb dc_Mo_ask_0 rfl (lv_at hl 0 rfl) ?_
  refine lv_aload_n hx hb dc_Mo_ask_1 rfl (lv_at hl 0 rfl) ?_
  refine va_get (ci := 6) (v := .int t_count) (C := cn_Mo) (T := cf_Mo) (N := 28) hx hb hB ki_Mo hown hK hP 0 rfl rfl 19 (by decide) (hB _ kw_fl_Mo_80) (fun _ h => h) rfl dc_Mo_ask_2 ?_
  refine lv_if_eq (tgt := 17) hx hb dc_Mo_ask_5 (by decide) (fun h5 => ?_) (fun h5 => ?_)
  · have hm := bs_pos h5 hm
    exact hJ17 t_thrown t_count t_line_f ls _ _ hm hl hP hD hS
  · have hm := bs_neg h5 hm
    refine lv_aload_n hx hb dc_Mo_ask_8 rfl (lv_at hl 0 rfl) ?_
    refine va_get (ci := 6) (v := .int t_count) (C := cn_Mo) (T := cf_Mo) (N := 28) hx hb hB ki_Mo hown hK hP 0 rfl rfl 19 (by decide) (hB _ kw_fl_Mo_80) (fun _ h => h) rfl dc_Mo_ask_9 ?_
    refine lv_bipush (v := 60) hx hb dc_Mo_ask_12 (by decide +kernel) ?_
    refine lv_icmp_le (tgt := 21) hx hb dc_Mo_ask_14 (by decide) (fun h14 => ?_) (fun h14 => ?_)
    · have hm := bs_pos h14 hm
      refine lv_iconst (v := 0) hx hb dc_Mo_ask_21 (by decide +kernel) ?_
      exact hJ22 0 t_thrown t_count t_line_f ls _ _ hm hl hP hD hS
    · have hm := bs_neg h14 hm
      exact hJ17 t_thrown t_count t_line_f ls _ _ hm hl hP hD hS
