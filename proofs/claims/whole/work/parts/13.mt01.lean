set_option maxHeartbeats 2000000 in
set_option maxRecDepth 100000 in
theorem ct_Mt_isObject (l : Launch) (D : va_G) (F : Nat) (i0 : Int32) (r : Int32) (hm : mm_Mt_isObject F i0 = some r) :
    bs_CI l my_Mt_isObject mb_Mt_isObject 1 .boolean (bs_rm 0) D [.int i0] [] [] (S := Unit) (fun v (_ : Unit) => v = r) (fun _ => []) := by
  refine bs_CI.mk (by decide +kernel) (bs_ler rfl) ?_
  intro p e s m below meth c ls A hx hb hr hml hlk hown hB hN hP hK hD hS hA hl
  refine bs_genQ (fun Q hQ => ?_)
  have hl : lv_has ls 1 [(0, .int i0)] := hl
  have hm := (mq_Mt_isObject F i0).symm.trans hm
  refine lv_iload_n hx hb dc_Mt_isObject_0 rfl (lv_at hl 0 rfl) ?_
  refine lv_if_lt (tgt := 13) hx hb dc_Mt_isObject_1 (by decide) (fun h1 => ?_) (fun h1 => ?_)
  · have hm := bs_pos h1 hm
    refine lv_iconst (v := 0) hx hb dc_Mt_isObject_13 (by decide +kernel) ?_
    cases hm
    subst hQ
    exact bs_retZ hx hb hr hlk (by decide +kernel) () rfl hP hD hS dc_Mt_isObject_14
  · have hm := bs_neg h1 hm
    refine lv_iload_n hx hb dc_Mt_isObject_4 rfl (lv_at hl 0 rfl) ?_
    refine lv_iconst (v := 4) hx hb dc_Mt_isObject_5 (by decide +kernel) ?_
    refine lv_icmp_gt (tgt := 13) hx hb dc_Mt_isObject_6 (by decide) (fun h6 => ?_) (fun h6 => ?_)
    · have hm := bs_pos h6 hm
      refine lv_iconst (v := 0) hx hb dc_Mt_isObject_13 (by decide +kernel) ?_
      cases hm
      subst hQ
      exact bs_retZ hx hb hr hlk (by decide +kernel) () rfl hP hD hS dc_Mt_isObject_14
    · have hm := bs_neg h6 hm
      refine lv_iconst (v := 1) hx hb dc_Mt_isObject_9 (by decide +kernel) ?_
      refine lv_goto (tgt := 14) hx hb dc_Mt_isObject_10 (by decide) ?_
      cases hm
      subst hQ
      exact bs_retZ hx hb hr hlk (by decide +kernel) () rfl hP hD hS dc_Mt_isObject_14
set_option maxHeartbeats 2000000 in
set_option maxRecDepth 100000 in
theorem ct_Mt_isAttribute (l : Launch) (D : va_G) (F : Nat) (i0 : Int32) (i1 : Int32) (r : Int32) (hm : mm_Mt_isAttribute F i0 i1 = some r) :
    bs_CI l my_Mt_isAttribute mb_Mt_isAttribute 2 .boolean (bs_rm 0) D [.int i0, .int i1] [] [] (S := Unit) (fun v (_ : Unit) => v = r) (fun _ => []) := by
  refine bs_CI.mk (by decide +kernel) (bs_ler rfl) ?_
  intro p e s m below meth c ls A hx hb hr hml hlk hown hB hN hP hK hD hS hA hl
  refine bs_genQ (fun Q hQ => ?_)
  have hl : lv_has ls 2 [(0, .int i0), (1, .int i1)] := hl
  have hm := (mq_Mt_isAttribute F i0 i1).symm.trans hm
  refine lv_iload_n hx hb dc_Mt_isAttribute_0 rfl (lv_at hl 0 rfl) ?_
  refine lv_if_ne (tgt := 20) hx hb dc_Mt_isAttribute_1 (by decide) (fun h1 => ?_) (fun h1 => ?_)
  · have hm := bs_neg h1 hm
    refine lv_iload_n hx hb dc_Mt_isAttribute_20 rfl (lv_at hl 0 rfl) ?_
    refine lv_iconst (v := 4) hx hb dc_Mt_isAttribute_21 (by decide +kernel) ?_
    refine lv_icmp_ne (tgt := 53) hx hb dc_Mt_isAttribute_22 (by decide) (fun h22 => ?_) (fun h22 => ?_)
    · have hm := bs_neg h22 hm
      refine lv_iload_n hx hb dc_Mt_isAttribute_53 rfl (lv_at hl 1 rfl) ?_
      refine lv_iconst (v := 1) hx hb dc_Mt_isAttribute_54 (by decide +kernel) ?_
      refine lv_icmp_lt (tgt := 67) hx hb dc_Mt_isAttribute_55 (by decide) (fun h55 => ?_) (fun h55 => ?_)
      · have hm := bs_pos h55 hm
        refine lv_iconst (v := 0) hx hb dc_Mt_isAttribute_67 (by decide +kernel) ?_
        cases hm
        subst hQ
        exact bs_retZ hx hb hr hlk (by decide +kernel) () rfl hP hD hS dc_Mt_isAttribute_68
      · have hm := bs_neg h55 hm
        refine lv_iload_n hx hb dc_Mt_isAttribute_58 rfl (lv_at hl 1 rfl) ?_
        refine lv_iconst (v := 3) hx hb dc_Mt_isAttribute_59 (by decide +kernel) ?_
        refine lv_icmp_gt (tgt := 67) hx hb dc_Mt_isAttribute_60 (by decide) (fun h60 => ?_) (fun h60 => ?_)
        · have hm := bs_pos h60 hm
          refine lv_iconst (v := 0) hx hb dc_Mt_isAttribute_67 (by decide +kernel) ?_
          cases hm
          subst hQ
          exact bs_retZ hx hb hr hlk (by decide +kernel) () rfl hP hD hS dc_Mt_isAttribute_68
        · have hm := bs_neg h60 hm
          refine lv_iconst (v := 1) hx hb dc_Mt_isAttribute_63 (by decide +kernel) ?_
          refine lv_goto (tgt := 68) hx hb dc_Mt_isAttribute_64 (by decide) ?_
          cases hm
          subst hQ
          exact bs_retZ hx hb hr hlk (by decide +kernel) () rfl hP hD hS dc_Mt_isAttribute_68
    · have hm := bs_pos h22 hm
      refine lv_iload_n hx hb dc_Mt_isAttribute_25 rfl (lv_at hl 1 rfl) ?_
      refine lv_iconst (v := 1) hx hb dc_Mt_isAttribute_26 (by decide +kernel) ?_
      refine lv_icmp_lt (tgt := 35) hx hb dc_Mt_isAttribute_27 (by decide) (fun h27 => ?_) (fun h27 => ?_)
      · have hm := bs_pos h27 hm
        refine lv_iload_n hx hb dc_Mt_isAttribute_35 rfl (lv_at hl 1 rfl) ?_
        refine lv_bipush (v := 7) hx hb dc_Mt_isAttribute_36 (by decide +kernel) ?_
        refine lv_icmp_eq (tgt := 47) hx hb dc_Mt_isAttribute_38 (by decide) (fun h38 => ?_) (fun h38 => ?_)
        · have hm := bs_pos h38 hm
          refine lv_iconst (v := 1) hx hb dc_Mt_isAttribute_47 (by decide +kernel) ?_
          refine lv_goto (tgt := 52) hx hb dc_Mt_isAttribute_48 (by decide) ?_
          cases hm
          subst hQ
          exact bs_retZ hx hb hr hlk (by decide +kernel) () rfl hP hD hS dc_Mt_isAttribute_52
        · have hm := bs_neg h38 hm
          refine lv_iload_n hx hb dc_Mt_isAttribute_41 rfl (lv_at hl 1 rfl) ?_
          refine lv_bipush (v := 8) hx hb dc_Mt_isAttribute_42 (by decide +kernel) ?_
          refine lv_icmp_ne (tgt := 51) hx hb dc_Mt_isAttribute_44 (by decide) (fun h44 => ?_) (fun h44 => ?_)
          · have hm := bs_neg h44 hm
            refine lv_iconst (v := 0) hx hb dc_Mt_isAttribute_51 (by decide +kernel) ?_
            cases hm
            subst hQ
            exact bs_retZ hx hb hr hlk (by decide +kernel) () rfl hP hD hS dc_Mt_isAttribute_52
          · have hm := bs_pos h44 hm
            refine lv_iconst (v := 1) hx hb dc_Mt_isAttribute_47 (by decide +kernel) ?_
            refine lv_goto (tgt := 52) hx hb dc_Mt_isAttribute_48 (by decide) ?_
            cases hm
            subst hQ
            exact bs_retZ hx hb hr hlk (by decide +kernel) () rfl hP hD hS dc_Mt_isAttribute_52
      · have hm := bs_neg h27 hm
        refine lv_iload_n hx hb dc_Mt_isAttribute_30 rfl (lv_at hl 1 rfl) ?_
        refine lv_iconst (v := 4) hx hb dc_Mt_isAttribute_31 (by decide +kernel) ?_
        refine lv_icmp_le (tgt := 47) hx hb dc_Mt_isAttribute_32 (by decide) (fun h32 => ?_) (fun h32 => ?_)
        · have hm := bs_pos h32 hm
          refine lv_iconst (v := 1) hx hb dc_Mt_isAttribute_47 (by decide +kernel) ?_
          refine lv_goto (tgt := 52) hx hb dc_Mt_isAttribute_48 (by decide) ?_
          cases hm
          subst hQ
          exact bs_retZ hx hb hr hlk (by decide +kernel) () rfl hP hD hS dc_Mt_isAttribute_52
        · have hm := bs_neg h32 hm
          refine lv_iload_n hx hb dc_Mt_isAttribute_35 rfl (lv_at hl 1 rfl) ?_
          refine lv_bipush (v := 7) hx hb dc_Mt_isAttribute_36 (by decide +kernel) ?_
          refine lv_icmp_eq (tgt := 47) hx hb dc_Mt_isAttribute_38 (by decide) (fun h38 => ?_) (fun h38 => ?_)
          · have hm := bs_pos h38 hm
            refine lv_iconst (v := 1) hx hb dc_Mt_isAttribute_47 (by decide +kernel) ?_
            refine lv_goto (tgt := 52) hx hb dc_Mt_isAttribute_48 (by decide) ?_
            cases hm
            subst hQ
            exact bs_retZ hx hb hr hlk (by decide +kernel) () rfl hP hD hS dc_Mt_isAttribute_52
          · have hm := bs_neg h38 hm
            refine lv_iload_n hx hb dc_Mt_isAttribute_41 rfl (lv_at hl 1 rfl) ?_
            refine lv_bipush (v := 8) hx hb dc_Mt_isAttribute_42 (by decide +kernel) ?_
            refine lv_icmp_ne (tgt := 51) hx hb dc_Mt_isAttribute_44 (by decide) (fun h44 => ?_) (fun h44 => ?_)
            · have hm := bs_neg h44 hm
              refine lv_iconst (v := 0) hx hb dc_Mt_isAttribute_51 (by decide +kernel) ?_
              cases hm
              subst hQ
              exact bs_retZ hx hb hr hlk (by decide +kernel) () rfl hP hD hS dc_Mt_isAttribute_52
            · have hm := bs_pos h44 hm
              refine lv_iconst (v := 1) hx hb dc_Mt_isAttribute_47 (by decide +kernel) ?_
              refine lv_goto (tgt := 52) hx hb dc_Mt_isAttribute_48 (by decide) ?_
              cases hm
              subst hQ
              exact bs_retZ hx hb hr hlk (by decide +kernel) () rfl hP hD hS dc_Mt_isAttribute_52
  · have hm := bs_pos h1 hm
    refine lv_iload_n hx hb dc_Mt_isAttribute_4 rfl (lv_at hl 1 rfl) ?_
    refine lv_iconst (v := 1) hx hb dc_Mt_isAttribute_5 (by decide +kernel) ?_
    refine lv_icmp_eq (tgt := 14) hx hb dc_Mt_isAttribute_6 (by decide) (fun h6 => ?_) (fun h6 => ?_)
    · have hm := bs_pos h6 hm
      refine lv_iconst (v := 1) hx hb dc_Mt_isAttribute_14 (by decide +kernel) ?_
      refine lv_goto (tgt := 19) hx hb dc_Mt_isAttribute_15 (by decide) ?_
      cases hm
      subst hQ
      exact bs_retZ hx hb hr hlk (by decide +kernel) () rfl hP hD hS dc_Mt_isAttribute_19
    · have hm := bs_neg h6 hm
      refine lv_iload_n hx hb dc_Mt_isAttribute_9 rfl (lv_at hl 1 rfl) ?_
      refine lv_iconst (v := 2) hx hb dc_Mt_isAttribute_10 (by decide +kernel) ?_
      refine lv_icmp_ne (tgt := 18) hx hb dc_Mt_isAttribute_11 (by decide) (fun h11 => ?_) (fun h11 => ?_)
      · have hm := bs_neg h11 hm
        refine lv_iconst (v := 0) hx hb dc_Mt_isAttribute_18 (by decide +kernel) ?_
        cases hm
        subst hQ
        exact bs_retZ hx hb hr hlk (by decide +kernel) () rfl hP hD hS dc_Mt_isAttribute_19
      · have hm := bs_pos h11 hm
        refine lv_iconst (v := 1) hx hb dc_Mt_isAttribute_14 (by decide +kernel) ?_
        refine lv_goto (tgt := 19) hx hb dc_Mt_isAttribute_15 (by decide) ?_
        cases hm
        subst hQ
        exact bs_retZ hx hb hr hlk (by decide +kernel) () rfl hP hD hS dc_Mt_isAttribute_19
set_option maxHeartbeats 2000000 in
set_option maxRecDepth 100000 in
theorem ct_Mt_resultOfGetting (l : Launch) (D : va_G) (F : Nat) (i0 : Int32) (i1 : Int32) (i2 : Int32) (r : Int32) (hm : mm_Mt_resultOfGetting F i0 i1 i2 = some r) :
    bs_CI l my_Mt_resultOfGetting mb_Mt_resultOfGetting 3 .int (bs_rm 1) D [.int i0, .int i1, .int i2] [] [] (S := Unit) (fun v (_ : Unit) => v = r) (fun _ => []) := by
  refine bs_CI.mk (by decide +kernel) (bs_ler rfl) ?_
  intro p e s m below meth c ls A hx hb hr hml hlk hown hB hN hP hK hD hS hA hl
  refine bs_genQ (fun Q hQ => ?_)
  have hl : lv_has ls 3 [(0, .int i0), (1, .int i1), (2, .int i2)] := hl
  have hm := (mq_Mt_resultOfGetting F i0 i1 i2).symm.trans hm
  refine lv_iload_n hx hb dc_Mt_resultOfGetting_0 rfl (lv_at hl 0 rfl) ?_
  obtain ⟨x1, hx1, hm⟩ := bs_bind hm
  refine bs_callSi 1 [] (fun _ => []) [] hx hb hml hown hB hN hK hP hD hS hA (ct_Mt_isObject l D F i0 x1 hx1) kw_cd_Mt_isObject kw_ml_Mt_34 kw_st_Mt_isObject kw_in_Mt kd_Mt_isObject (by decide) [] [] rfl rfl (by decide) [] rfl [] (by decide) (fun _ => rfl) rfl hl.1 (bs_ler rfl) (by decide) dc_Mt_resultOfGetting_1 rfl (fun v1q _ H locs hq1 hP hD hS => ?_)
  have hq1 := hq1.symm
  subst hq1
  refine lv_if_ne (tgt := 9) hx hb dc_Mt_resultOfGetting_4 (by decide) (fun h4 => ?_) (fun h4 => ?_)
  · have hm := bs_neg h4 hm
    refine lv_iload_n hx hb dc_Mt_resultOfGetting_9 rfl (lv_at hl 0 rfl) ?_
    refine lv_iload_n hx hb dc_Mt_resultOfGetting_10 rfl (lv_at hl 1 rfl) ?_
    obtain ⟨x11, hx11, hm⟩ := bs_bind hm
    refine bs_callSi 2 [] (fun _ => []) [] hx hb hml hown hB hN hK hP hD hS hA (ct_Mt_isAttribute l D F i0 i1 x11 hx11) kw_cd_Mt_isAttribute kw_ml_Mt_38 kw_st_Mt_isAttribute kw_in_Mt kd_Mt_isAttribute (by decide) [] [] rfl rfl (by decide) [] rfl [] (by decide) (fun _ => rfl) rfl hl.1 (bs_ler rfl) (by decide) dc_Mt_resultOfGetting_11 rfl (fun v11q _ H locs hq11 hP hD hS => ?_)
    have hq11 := hq11.symm
    subst hq11
    refine lv_if_ne (tgt := 20) hx hb dc_Mt_resultOfGetting_14 (by decide) (fun h14 => ?_) (fun h14 => ?_)
    · have hm := bs_neg h14 hm
      refine lv_iload_n hx hb dc_Mt_resultOfGetting_20 rfl (lv_at hl 2 rfl) ?_
      refine lv_if_eq (tgt := 39) hx hb dc_Mt_resultOfGetting_21 (by decide) (fun h21 => ?_) (fun h21 => ?_)
      · have hm := bs_pos h21 hm
        refine lv_iconst (v := 0) hx hb dc_Mt_resultOfGetting_39 (by decide +kernel) ?_
        cases hm
        subst hQ
        exact bs_retI hx hb hr hlk () rfl hP hD hS dc_Mt_resultOfGetting_40
      · have hm := bs_neg h21 hm
        refine lv_iload_n hx hb dc_Mt_resultOfGetting_24 rfl (lv_at hl 0 rfl) ?_
        refine lv_iconst (v := 4) hx hb dc_Mt_resultOfGetting_25 (by decide +kernel) ?_
        refine lv_icmp_ne (tgt := 34) hx hb dc_Mt_resultOfGetting_26 (by decide) (fun h26 => ?_) (fun h26 => ?_)
        · have hm := bs_neg h26 hm
          refine lv_bipush (v := 13) hx hb dc_Mt_resultOfGetting_34 (by decide +kernel) ?_
          refine lv_goto (tgt := 40) hx hb dc_Mt_resultOfGetting_36 (by decide) ?_
          cases hm
          subst hQ
          exact bs_retI hx hb hr hlk () rfl hP hD hS dc_Mt_resultOfGetting_40
        · have hm := bs_pos h26 hm
          refine lv_iload_n hx hb dc_Mt_resultOfGetting_29 rfl (lv_at hl 1 rfl) ?_
          refine lv_iconst (v := 2) hx hb dc_Mt_resultOfGetting_30 (by decide +kernel) ?_
          refine lv_icmp_eq (tgt := 39) hx hb dc_Mt_resultOfGetting_31 (by decide) (fun h31 => ?_) (fun h31 => ?_)
          · have hm := bs_pos h31 hm
            refine lv_iconst (v := 0) hx hb dc_Mt_resultOfGetting_39 (by decide +kernel) ?_
            cases hm
            subst hQ
            exact bs_retI hx hb hr hlk () rfl hP hD hS dc_Mt_resultOfGetting_40
          · have hm := bs_neg h31 hm
            refine lv_bipush (v := 13) hx hb dc_Mt_resultOfGetting_34 (by decide +kernel) ?_
            refine lv_goto (tgt := 40) hx hb dc_Mt_resultOfGetting_36 (by decide) ?_
            cases hm
            subst hQ
            exact bs_retI hx hb hr hlk () rfl hP hD hS dc_Mt_resultOfGetting_40
    · have hm := bs_pos h14 hm
      refine lv_bipush (v := 9) hx hb dc_Mt_resultOfGetting_17 (by decide +kernel) ?_
      cases hm
      subst hQ
      exact bs_retI hx hb hr hlk () rfl hP hD hS dc_Mt_resultOfGetting_19
  · have hm := bs_pos h4 hm
    refine lv_iconst (v := 4) hx hb dc_Mt_resultOfGetting_7 (by decide +kernel) ?_
    cases hm
    subst hQ
    exact bs_retI hx hb hr hlk () rfl hP hD hS dc_Mt_resultOfGetting_8
set_option maxHeartbeats 2000000 in
set_option maxRecDepth 100000 in
theorem ct_Mt_writeRegister (l : Launch) (D : va_G) (F : Nat) (t : Nat) (t_registers : Nat) (t_profile : Nat) (t_profile_columns : Nat) (t_profile_ring : Nat) (p1 : Nat) (p1_bytes : Nat) (t_registers_c : ClassId) (t_profile_columns_c : ClassId) (t_profile_ring_c : ClassId) (p1_bytes_c : ClassId) (p1_bytes_N : Nat) (t_now : Int32) (t_registers_f : Nat → Int32) (t_profile_columnCount : Int32) (t_profile_capacity : Int32) (t_profile_period : Int32) (t_profile_first : Int32) (t_profile_size : Int32) (t_profile_columns_f : Nat → Int32) (t_profile_ring_f : Nat → Int32) (p1_size : Int32) (p1_bytes_f : Nat → Int32) (i2 : Int32) (i3 : Int32) (r : Int32 × (Nat → Int32)) (hm : mm_Mt_writeRegister F p1_bytes_N i2 i3 t_registers_f p1_size p1_bytes_f = some r) :
    bs_CV l my_Mt_writeRegister mb_Mt_writeRegister 4 (bs_rm 2) D [.ref t, .ref p1, .int i2, .int i3] [(t_registers_c, .int), (t_profile_columns_c, .int), (t_profile_ring_c, .int), (p1_bytes_c, .int)] [(t, .inr (2, [.ref t_registers, .ref t_profile, .int t_now])), (t_registers, .inl (t_registers_c, 3, .inl t_registers_f)), (t_profile, .inr (3, [.ref t_profile_columns, .ref t_profile_ring, .int t_profile_columnCount, .int t_profile_capacity, .int t_profile_period, .int t_profile_first, .int t_profile_size])), (t_profile_columns, .inl (t_profile_columns_c, 3, .inl t_profile_columns_f)), (t_profile_ring, .inl (t_profile_ring_c, 48, .inl t_profile_ring_f)), (p1, .inr (4, [.ref p1_bytes, .int p1_size])), (p1_bytes, .inl (p1_bytes_c, p1_bytes_N, .inl p1_bytes_f))] (S := Unit) (fun (_ : Unit) => True) (fun _ => [(t, .inr (2, [.ref t_registers, .ref t_profile, .int t_now])), (t_registers, .inl (t_registers_c, 3, .inl t_registers_f)), (t_profile, .inr (3, [.ref t_profile_columns, .ref t_profile_ring, .int t_profile_columnCount, .int t_profile_capacity, .int t_profile_period, .int t_profile_first, .int t_profile_size])), (t_profile_columns, .inl (t_profile_columns_c, 3, .inl t_profile_columns_f)), (t_profile_ring, .inl (t_profile_ring_c, 48, .inl t_profile_ring_f)), (p1, .inr (4, [.ref p1_bytes, .int r.1])), (p1_bytes, .inl (p1_bytes_c, p1_bytes_N, .inl r.2))]) := by
  refine bs_CV.mk (by decide +kernel) (bs_ler rfl) ?_
  intro p e s m below meth c ls A hx hb hr hml hlk hown hB hN hP hK hD hS hA hl
  refine bs_genQ (fun Q hQ => ?_)
  have hl : lv_has ls 4 [(0, .ref t), (1, .ref p1), (2, .int i2), (3, .int i3)] := hl
  have hm := (mq_Mt_writeRegister F p1_bytes_N i2 i3 t_registers_f p1_size p1_bytes_f).symm.trans hm
  refine lv_iload_n hx hb dc_Mt_writeRegister_0 rfl (lv_at hl 3 rfl) ?_
  refine lv_iconst (v := 2) hx hb dc_Mt_writeRegister_1 (by decide +kernel) ?_
  refine lv_icmp_ne (tgt := 21) hx hb dc_Mt_writeRegister_2 (by decide) (fun h2 => ?_) (fun h2 => ?_)
  · have hm := bs_neg h2 hm
    refine lv_aload_n hx hb dc_Mt_writeRegister_21 rfl (lv_at hl 1 rfl) ?_
    refine lv_iconst (v := 2) hx hb dc_Mt_writeRegister_22 (by decide +kernel) ?_
    obtain ⟨x23, hx23, hm⟩ := bs_bind hm
    refine bs_callVv 1 [(t, .inr (2, [.ref t_registers, .ref t_profile, .int t_now])), (t_registers, .inl (t_registers_c, 3, .inl t_registers_f)), (t_profile, .inr (3, [.ref t_profile_columns, .ref t_profile_ring, .int t_profile_columnCount, .int t_profile_capacity, .int t_profile_period, .int t_profile_first, .int t_profile_size])), (t_profile_columns, .inl (t_profile_columns_c, 3, .inl t_profile_columns_f)), (t_profile_ring, .inl (t_profile_ring_c, 48, .inl t_profile_ring_f))] (fun _ => [(t, .inr (2, [.ref t_registers, .ref t_profile, .int t_now])), (t_registers, .inl (t_registers_c, 3, .inl t_registers_f)), (t_profile, .inr (3, [.ref t_profile_columns, .ref t_profile_ring, .int t_profile_columnCount, .int t_profile_capacity, .int t_profile_period, .int t_profile_first, .int t_profile_size])), (t_profile_columns, .inl (t_profile_columns_c, 3, .inl t_profile_columns_f)), (t_profile_ring, .inl (t_profile_ring_c, 48, .inl t_profile_ring_f)), (p1, .inr (4, [.ref p1_bytes, .int x23.1])), (p1_bytes, .inl (p1_bytes_c, p1_bytes_N, .inl x23.2))]) [] hx hb hml hown hB hN hK hP hD hS hA (ct_Rw_add l D F p1 p1_bytes p1_bytes_c p1_bytes_N p1_size p1_bytes_f 2 x23 hx23) kw_cd_Rw_add kw_ml_Mt_42 kw_im_Rw_add kw_se_Rw_add kw_in_Rw kd_Rw_add (by decide) ⟨_, _, _, rfl, rfl, rfl⟩ [5, 6] [0, 1, 2, 3, 4] rfl rfl (by decide) [3] rfl [0, 1, 2, 3, 4, 5, 6] (by decide) (fun _ => rfl) rfl hl.1 (bs_ler rfl) (by decide) dc_Mt_writeRegister_23 rfl (fun _ H locs hq23 hP hD hS => ?_)
    refine lv_aload_n hx hb dc_Mt_writeRegister_26 rfl (lv_at hl 1 rfl) ?_
    refine lv_iconst (v := 2) hx hb dc_Mt_writeRegister_27 (by decide +kernel) ?_
    obtain ⟨x28, hx28, hm⟩ := bs_bind hm
    refine bs_callVv 1 [(t, .inr (2, [.ref t_registers, .ref t_profile, .int t_now])), (t_registers, .inl (t_registers_c, 3, .inl t_registers_f)), (t_profile, .inr (3, [.ref t_profile_columns, .ref t_profile_ring, .int t_profile_columnCount, .int t_profile_capacity, .int t_profile_period, .int t_profile_first, .int t_profile_size])), (t_profile_columns, .inl (t_profile_columns_c, 3, .inl t_profile_columns_f)), (t_profile_ring, .inl (t_profile_ring_c, 48, .inl t_profile_ring_f))] (fun _ => [(t, .inr (2, [.ref t_registers, .ref t_profile, .int t_now])), (t_registers, .inl (t_registers_c, 3, .inl t_registers_f)), (t_profile, .inr (3, [.ref t_profile_columns, .ref t_profile_ring, .int t_profile_columnCount, .int t_profile_capacity, .int t_profile_period, .int t_profile_first, .int t_profile_size])), (t_profile_columns, .inl (t_profile_columns_c, 3, .inl t_profile_columns_f)), (t_profile_ring, .inl (t_profile_ring_c, 48, .inl t_profile_ring_f)), (p1, .inr (4, [.ref p1_bytes, .int x28.1])), (p1_bytes, .inl (p1_bytes_c, p1_bytes_N, .inl x28.2))]) [] hx hb hml hown hB hN hK hP hD hS hA (ct_Rw_add l D F p1 p1_bytes p1_bytes_c p1_bytes_N x23.1 x23.2 2 x28 hx28) kw_cd_Rw_add kw_ml_Mt_42 kw_im_Rw_add kw_se_Rw_add kw_in_Rw kd_Rw_add (by decide) ⟨_, _, _, rfl, rfl, rfl⟩ [5, 6] [0, 1, 2, 3, 4] rfl rfl (by decide) [3] rfl [0, 1, 2, 3, 4, 5, 6] (by decide) (fun _ => rfl) rfl hl.1 (bs_ler rfl) (by decide) dc_Mt_writeRegister_28 rfl (fun _ H locs hq28 hP hD hS => ?_)
    refine lv_aload_n hx hb dc_Mt_writeRegister_31 rfl (lv_at hl 1 rfl) ?_
    refine lv_bipush (v := 15) hx hb dc_Mt_writeRegister_32 (by decide +kernel) ?_
    obtain ⟨x34, hx34, hm⟩ := bs_bind hm
    refine bs_callVv 1 [(t, .inr (2, [.ref t_registers, .ref t_profile, .int t_now])), (t_registers, .inl (t_registers_c, 3, .inl t_registers_f)), (t_profile, .inr (3, [.ref t_profile_columns, .ref t_profile_ring, .int t_profile_columnCount, .int t_profile_capacity, .int t_profile_period, .int t_profile_first, .int t_profile_size])), (t_profile_columns, .inl (t_profile_columns_c, 3, .inl t_profile_columns_f)), (t_profile_ring, .inl (t_profile_ring_c, 48, .inl t_profile_ring_f))] (fun _ => [(t, .inr (2, [.ref t_registers, .ref t_profile, .int t_now])), (t_registers, .inl (t_registers_c, 3, .inl t_registers_f)), (t_profile, .inr (3, [.ref t_profile_columns, .ref t_profile_ring, .int t_profile_columnCount, .int t_profile_capacity, .int t_profile_period, .int t_profile_first, .int t_profile_size])), (t_profile_columns, .inl (t_profile_columns_c, 3, .inl t_profile_columns_f)), (t_profile_ring, .inl (t_profile_ring_c, 48, .inl t_profile_ring_f)), (p1, .inr (4, [.ref p1_bytes, .int x34.1])), (p1_bytes, .inl (p1_bytes_c, p1_bytes_N, .inl x34.2))]) [] hx hb hml hown hB hN hK hP hD hS hA (ct_Rw_add l D F p1 p1_bytes p1_bytes_c p1_bytes_N x28.1 x28.2 15 x34 hx34) kw_cd_Rw_add kw_ml_Mt_42 kw_im_Rw_add kw_se_Rw_add kw_in_Rw kd_Rw_add (by decide) ⟨_, _, _, rfl, rfl, rfl⟩ [5, 6] [0, 1, 2, 3, 4] rfl rfl (by decide) [3] rfl [0, 1, 2, 3, 4, 5, 6] (by decide) (fun _ => rfl) rfl hl.1 (bs_ler rfl) (by decide) dc_Mt_writeRegister_34 rfl (fun _ H locs hq34 hP hD hS => ?_)
    refine lv_aload_n hx hb dc_Mt_writeRegister_37 rfl (lv_at hl 1 rfl) ?_
    refine lv_iload_n hx hb dc_Mt_writeRegister_38 rfl (lv_at hl 2 rfl) ?_
    refine lv_iconst (v := 2) hx hb dc_Mt_writeRegister_39 (by decide +kernel) ?_
    refine lv_isub hx hb dc_Mt_writeRegister_40 ?_
    refine lv_sipush (v := 255) hx hb dc_Mt_writeRegister_41 (by decide +kernel) ?_
    refine lv_iand hx hb dc_Mt_writeRegister_44 ?_
    obtain ⟨x45, hx45, hm⟩ := bs_bind hm
    refine bs_callVv 1 [(t, .inr (2, [.ref t_registers, .ref t_profile, .int t_now])), (t_registers, .inl (t_registers_c, 3, .inl t_registers_f)), (t_profile, .inr (3, [.ref t_profile_columns, .ref t_profile_ring, .int t_profile_columnCount, .int t_profile_capacity, .int t_profile_period, .int t_profile_first, .int t_profile_size])), (t_profile_columns, .inl (t_profile_columns_c, 3, .inl t_profile_columns_f)), (t_profile_ring, .inl (t_profile_ring_c, 48, .inl t_profile_ring_f))] (fun _ => [(t, .inr (2, [.ref t_registers, .ref t_profile, .int t_now])), (t_registers, .inl (t_registers_c, 3, .inl t_registers_f)), (t_profile, .inr (3, [.ref t_profile_columns, .ref t_profile_ring, .int t_profile_columnCount, .int t_profile_capacity, .int t_profile_period, .int t_profile_first, .int t_profile_size])), (t_profile_columns, .inl (t_profile_columns_c, 3, .inl t_profile_columns_f)), (t_profile_ring, .inl (t_profile_ring_c, 48, .inl t_profile_ring_f)), (p1, .inr (4, [.ref p1_bytes, .int x45.1])), (p1_bytes, .inl (p1_bytes_c, p1_bytes_N, .inl x45.2))]) [] hx hb hml hown hB hN hK hP hD hS hA (ct_Rw_add l D F p1 p1_bytes p1_bytes_c p1_bytes_N x34.1 x34.2 ((i2 - 2) &&& 255) x45 hx45) kw_cd_Rw_add kw_ml_Mt_42 kw_im_Rw_add kw_se_Rw_add kw_in_Rw kd_Rw_add (by decide) ⟨_, _, _, rfl, rfl, rfl⟩ [5, 6] [0, 1, 2, 3, 4] rfl rfl (by decide) [3] rfl [0, 1, 2, 3, 4, 5, 6] (by decide) (fun _ => rfl) rfl hl.1 (bs_ler rfl) (by decide) dc_Mt_writeRegister_45 rfl (fun _ H locs hq45 hP hD hS => ?_)
    refine lv_aload_n hx hb dc_Mt_writeRegister_48 rfl (lv_at hl 1 rfl) ?_
    refine lv_bipush (v := 22) hx hb dc_Mt_writeRegister_49 (by decide +kernel) ?_
    obtain ⟨x51, hx51, hm⟩ := bs_bind hm
    refine bs_callVv 1 [(t, .inr (2, [.ref t_registers, .ref t_profile, .int t_now])), (t_registers, .inl (t_registers_c, 3, .inl t_registers_f)), (t_profile, .inr (3, [.ref t_profile_columns, .ref t_profile_ring, .int t_profile_columnCount, .int t_profile_capacity, .int t_profile_period, .int t_profile_first, .int t_profile_size])), (t_profile_columns, .inl (t_profile_columns_c, 3, .inl t_profile_columns_f)), (t_profile_ring, .inl (t_profile_ring_c, 48, .inl t_profile_ring_f))] (fun _ => [(t, .inr (2, [.ref t_registers, .ref t_profile, .int t_now])), (t_registers, .inl (t_registers_c, 3, .inl t_registers_f)), (t_profile, .inr (3, [.ref t_profile_columns, .ref t_profile_ring, .int t_profile_columnCount, .int t_profile_capacity, .int t_profile_period, .int t_profile_first, .int t_profile_size])), (t_profile_columns, .inl (t_profile_columns_c, 3, .inl t_profile_columns_f)), (t_profile_ring, .inl (t_profile_ring_c, 48, .inl t_profile_ring_f)), (p1, .inr (4, [.ref p1_bytes, .int x51.1])), (p1_bytes, .inl (p1_bytes_c, p1_bytes_N, .inl x51.2))]) [] hx hb hml hown hB hN hK hP hD hS hA (ct_Rw_add l D F p1 p1_bytes p1_bytes_c p1_bytes_N x45.1 x45.2 22 x51 hx51) kw_cd_Rw_add kw_ml_Mt_42 kw_im_Rw_add kw_se_Rw_add kw_in_Rw kd_Rw_add (by decide) ⟨_, _, _, rfl, rfl, rfl⟩ [5, 6] [0, 1, 2, 3, 4] rfl rfl (by decide) [3] rfl [0, 1, 2, 3, 4, 5, 6] (by decide) (fun _ => rfl) rfl hl.1 (bs_ler rfl) (by decide) dc_Mt_writeRegister_51 rfl (fun _ H locs hq51 hP hD hS => ?_)
    refine lv_aload_n hx hb dc_Mt_writeRegister_54 rfl (lv_at hl 1 rfl) ?_
    refine lv_bipush (v := 27) hx hb dc_Mt_writeRegister_55 (by decide +kernel) ?_
    refine lv_iload_n hx hb dc_Mt_writeRegister_57 rfl (lv_at hl 2 rfl) ?_
    refine lv_iadd hx hb dc_Mt_writeRegister_58 ?_
    obtain ⟨x59, hx59, hm⟩ := bs_bind hm
    refine bs_callVv 1 [(t, .inr (2, [.ref t_registers, .ref t_profile, .int t_now])), (t_registers, .inl (t_registers_c, 3, .inl t_registers_f)), (t_profile, .inr (3, [.ref t_profile_columns, .ref t_profile_ring, .int t_profile_columnCount, .int t_profile_capacity, .int t_profile_period, .int t_profile_first, .int t_profile_size])), (t_profile_columns, .inl (t_profile_columns_c, 3, .inl t_profile_columns_f)), (t_profile_ring, .inl (t_profile_ring_c, 48, .inl t_profile_ring_f))] (fun _ => [(t, .inr (2, [.ref t_registers, .ref t_profile, .int t_now])), (t_registers, .inl (t_registers_c, 3, .inl t_registers_f)), (t_profile, .inr (3, [.ref t_profile_columns, .ref t_profile_ring, .int t_profile_columnCount, .int t_profile_capacity, .int t_profile_period, .int t_profile_first, .int t_profile_size])), (t_profile_columns, .inl (t_profile_columns_c, 3, .inl t_profile_columns_f)), (t_profile_ring, .inl (t_profile_ring_c, 48, .inl t_profile_ring_f)), (p1, .inr (4, [.ref p1_bytes, .int x59.1])), (p1_bytes, .inl (p1_bytes_c, p1_bytes_N, .inl x59.2))]) [] hx hb hml hown hB hN hK hP hD hS hA (ct_Rw_add l D F p1 p1_bytes p1_bytes_c p1_bytes_N x51.1 x51.2 (27 + i2) x59 hx59) kw_cd_Rw_add kw_ml_Mt_42 kw_im_Rw_add kw_se_Rw_add kw_in_Rw kd_Rw_add (by decide) ⟨_, _, _, rfl, rfl, rfl⟩ [5, 6] [0, 1, 2, 3, 4] rfl rfl (by decide) [3] rfl [0, 1, 2, 3, 4, 5, 6] (by decide) (fun _ => rfl) rfl hl.1 (bs_ler rfl) (by decide) dc_Mt_writeRegister_59 rfl (fun _ H locs hq59 hP hD hS => ?_)
    cases hm
    subst hQ
    exact bs_retV hx hb hr hlk () trivial hP hD hS dc_Mt_writeRegister_62
  · have hm := bs_pos h2 hm
    refine lv_aload_n hx hb dc_Mt_writeRegister_5 rfl (lv_at hl 1 rfl) ?_
    refine lv_iconst (v := 5) hx hb dc_Mt_writeRegister_6 (by decide +kernel) ?_
    refine lv_aload_n hx hb dc_Mt_writeRegister_7 rfl (lv_at hl 0 rfl) ?_
    refine va_get (ci := 2) (v := .ref t_registers) (C := cn_Mt) (T := cf_Mt) (N := 3) hx hb hB ki_Mt hown hK hP 0 rfl rfl 0 (by decide) (hB _ kw_fl_Mt_9) (fun _ h => h) rfl dc_Mt_writeRegister_8 ?_
    refine lv_iload_n hx hb dc_Mt_writeRegister_11 rfl (lv_at hl 2 rfl) ?_
    refine lv_iconst (v := 1) hx hb dc_Mt_writeRegister_12 (by decide +kernel) ?_
    refine lv_isub hx hb dc_Mt_writeRegister_13 ?_
    obtain ⟨hz14, hm⟩ := bs_nn hm
    refine va_iald hx hb hK hP 1 0 rfl rfl hz14 dc_Mt_writeRegister_14 ?_
    obtain ⟨x15, hx15, hm⟩ := bs_bind hm
    refine bs_callVv 2 [(t, .inr (2, [.ref t_registers, .ref t_profile, .int t_now])), (t_registers, .inl (t_registers_c, 3, .inl t_registers_f)), (t_profile, .inr (3, [.ref t_profile_columns, .ref t_profile_ring, .int t_profile_columnCount, .int t_profile_capacity, .int t_profile_period, .int t_profile_first, .int t_profile_size])), (t_profile_columns, .inl (t_profile_columns_c, 3, .inl t_profile_columns_f)), (t_profile_ring, .inl (t_profile_ring_c, 48, .inl t_profile_ring_f))] (fun _ => [(t, .inr (2, [.ref t_registers, .ref t_profile, .int t_now])), (t_registers, .inl (t_registers_c, 3, .inl t_registers_f)), (t_profile, .inr (3, [.ref t_profile_columns, .ref t_profile_ring, .int t_profile_columnCount, .int t_profile_capacity, .int t_profile_period, .int t_profile_first, .int t_profile_size])), (t_profile_columns, .inl (t_profile_columns_c, 3, .inl t_profile_columns_f)), (t_profile_ring, .inl (t_profile_ring_c, 48, .inl t_profile_ring_f)), (p1, .inr (4, [.ref p1_bytes, .int x15.1])), (p1_bytes, .inl (p1_bytes_c, p1_bytes_N, .inl x15.2))]) [] hx hb hml hown hB hN hK hP hD hS hA (ct_Rw_addTagged l D F p1 p1_bytes p1_bytes_c p1_bytes_N p1_size p1_bytes_f 5 (t_registers_f ((i2 - 1).toNatClampNeg)) x15 hx15) kw_cd_Rw_addTagged kw_ml_Mt_47 kw_im_Rw_addTagged kw_se_Rw_addTagged kw_in_Rw kd_Rw_addTagged (by decide) ⟨_, _, _, rfl, rfl, rfl⟩ [5, 6] [0, 1, 2, 3, 4] rfl rfl (by decide) [3] rfl [0, 1, 2, 3, 4, 5, 6] (by decide) (fun _ => rfl) rfl hl.1 (bs_ler rfl) (by decide) dc_Mt_writeRegister_15 rfl (fun _ H locs hq15 hP hD hS => ?_)
    refine lv_goto (tgt := 62) hx hb dc_Mt_writeRegister_18 (by decide) ?_
    cases hm
    subst hQ
    exact bs_retV hx hb hr hlk () trivial hP hD hS dc_Mt_writeRegister_62
set_option maxHeartbeats 2000000 in
set_option maxRecDepth 100000 in
theorem ct_Mt_write (l : Launch) (D : va_G) (F : Nat) (t : Nat) (t_registers : Nat) (t_profile : Nat) (t_profile_columns : Nat) (t_profile_ring : Nat) (p1 : Nat) (p1_bytes : Nat) (t_registers_c : ClassId) (t_profile_columns_c : ClassId) (t_profile_ring_c : ClassId) (p1_bytes_c : ClassId) (p1_bytes_N : Nat) (t_now : Int32) (t_registers_f : Nat → Int32) (t_profile_columnCount : Int32) (t_profile_capacity : Int32) (t_profile_period : Int32) (t_profile_first : Int32) (t_profile_size : Int32) (t_profile_columns_f : Nat → Int32) (t_profile_ring_f : Nat → Int32) (p1_size : Int32) (p1_bytes_f : Nat → Int32) (i2 : Int32) (i3 : Int32) (i4 : Int32) (i5 : Int32) (r : Int32 × (Nat → Int32)) (hm : mm_Mt_write F p1_bytes_N i2 i3 i4 i5 t_now t_registers_f t_profile_columnCount t_profile_capacity t_profile_period t_profile_first t_profile_size t_profile_columns_f t_profile_ring_f p1_size p1_bytes_f = some r) :
    bs_CV l my_Mt_write mb_Mt_write 6 (bs_rm 3) D [.ref t, .ref p1, .int i2, .int i3, .int i4, .int i5] [(t_registers_c, .int), (t_profile_columns_c, .int), (t_profile_ring_c, .int), (p1_bytes_c, .int)] [(t, .inr (2, [.ref t_registers, .ref t_profile, .int t_now])), (t_registers, .inl (t_registers_c, 3, .inl t_registers_f)), (t_profile, .inr (3, [.ref t_profile_columns, .ref t_profile_ring, .int t_profile_columnCount, .int t_profile_capacity, .int t_profile_period, .int t_profile_first, .int t_profile_size])), (t_profile_columns, .inl (t_profile_columns_c, 3, .inl t_profile_columns_f)), (t_profile_ring, .inl (t_profile_ring_c, 48, .inl t_profile_ring_f)), (p1, .inr (4, [.ref p1_bytes, .int p1_size])), (p1_bytes, .inl (p1_bytes_c, p1_bytes_N, .inl p1_bytes_f))] (S := Unit) (fun (_ : Unit) => True) (fun _ => [(t, .inr (2, [.ref t_registers, .ref t_profile, .int t_now])), (t_registers, .inl (t_registers_c, 3, .inl t_registers_f)), (t_profile, .inr (3, [.ref t_profile_columns, .ref t_profile_ring, .int t_profile_columnCount, .int t_profile_capacity, .int t_profile_period, .int t_profile_first, .int t_profile_size])), (t_profile_columns, .inl (t_profile_columns_c, 3, .inl t_profile_columns_f)), (t_profile_ring, .inl (t_profile_ring_c, 48, .inl t_profile_ring_f)), (p1, .inr (4, [.ref p1_bytes, .int r.1])), (p1_bytes, .inl (p1_bytes_c, p1_bytes_N, .inl r.2))]) := by
  refine bs_CV.mk (by decide +kernel) (bs_ler rfl) ?_
  intro p e s m below meth c ls A hx hb hr hml hlk hown hB hN hP hK hD hS hA hl
  refine bs_genQ (fun Q hQ => ?_)
  have hJ71 : ∀ (v2 : Int32) (v3 : Int32) (p1_size : Int32) (p1_bytes_f : Nat → Int32) (ls : Array Slot) (H : Heap) (locs : List Loc), mm_Mt_write_J71 F p1_bytes_N v2 v3 t_registers_f t_profile_columnCount t_profile_capacity t_profile_period t_profile_size t_profile_columns_f p1_size p1_bytes_f = some r → lv_has ls 6 [(0, .ref t), (1, .ref p1), (2, .int v2), (3, .int v3)] → va_P D bs_cl [(t, .inr (2, [.ref t_registers, .ref t_profile, .int t_now])), (t_registers, .inl (t_registers_c, 3, .inl t_registers_f)), (t_profile, .inr (3, [.ref t_profile_columns, .ref t_profile_ring, .int t_profile_columnCount, .int t_profile_capacity, .int t_profile_period, .int t_profile_first, .int t_profile_size])), (t_profile_columns, .inl (t_profile_columns_c, 3, .inl t_profile_columns_f)), (t_profile_ring, .inl (t_profile_ring_c, 48, .inl t_profile_ring_f)), (p1, .inr (4, [.ref p1_bytes, .int p1_size])), (p1_bytes, .inl (p1_bytes_c, p1_bytes_N, .inl p1_bytes_f))] H → va_D A [(t, .inr (2, [.ref t_registers, .ref t_profile, .int t_now])), (t_registers, .inl (t_registers_c, 3, .inl t_registers_f)), (t_profile, .inr (3, [.ref t_profile_columns, .ref t_profile_ring, .int t_profile_columnCount, .int t_profile_capacity, .int t_profile_period, .int t_profile_first, .int t_profile_size])), (t_profile_columns, .inl (t_profile_columns_c, 3, .inl t_profile_columns_f)), (t_profile_ring, .inl (t_profile_ring_c, 48, .inl t_profile_ring_f)), (p1, .inr (4, [.ref p1_bytes, .int p1_size])), (p1_bytes, .inl (p1_bytes_c, p1_bytes_N, .inl p1_bytes_f))] → va_S A s.heap H locs → W p l e (bs_rm 3) s m [.ref t, .ref p1, .int i2, .int i3, .int i4, .int i5].toArray below meth c H locs 0 0 Q (F0 m 71 ls []) := by
    intro v2 v3 p1_size p1_bytes_f ls H locs hm hl hP hD hS
    have hm := (mq_Mt_write_J71 F p1_bytes_N v2 v3 t_registers_f t_profile_columnCount t_profile_capacity t_profile_period t_profile_size t_profile_columns_f p1_size p1_bytes_f).symm.trans hm
    refine lv_iload_n hx hb dc_Mt_write_71 rfl (lv_at hl 2 rfl) ?_
    refine lv_iconst (v := 4) hx hb dc_Mt_write_72 (by decide +kernel) ?_
    refine lv_icmp_ne (tgt := 88) hx hb dc_Mt_write_73 (by decide) (fun h73 => ?_) (fun h73 => ?_)
    · have hm := bs_neg h73 hm
      refine lv_iload_n hx hb dc_Mt_write_88 rfl (lv_at hl 2 rfl) ?_
      obtain ⟨x89, hx89, hm⟩ := bs_bind hm
      refine bs_callSi 1 [(t, .inr (2, [.ref t_registers, .ref t_profile, .int t_now])), (t_registers, .inl (t_registers_c, 3, .inl t_registers_f)), (t_profile, .inr (3, [.ref t_profile_columns, .ref t_profile_ring, .int t_profile_columnCount, .int t_profile_capacity, .int t_profile_period, .int t_profile_first, .int t_profile_size])), (t_profile_columns, .inl (t_profile_columns_c, 3, .inl t_profile_columns_f)), (t_profile_ring, .inl (t_profile_ring_c, 48, .inl t_profile_ring_f)), (p1, .inr (4, [.ref p1_bytes, .int p1_size])), (p1_bytes, .inl (p1_bytes_c, p1_bytes_N, .inl p1_bytes_f))] (fun _ => [(t, .inr (2, [.ref t_registers, .ref t_profile, .int t_now])), (t_registers, .inl (t_registers_c, 3, .inl t_registers_f)), (t_profile, .inr (3, [.ref t_profile_columns, .ref t_profile_ring, .int t_profile_columnCount, .int t_profile_capacity, .int t_profile_period, .int t_profile_first, .int t_profile_size])), (t_profile_columns, .inl (t_profile_columns_c, 3, .inl t_profile_columns_f)), (t_profile_ring, .inl (t_profile_ring_c, 48, .inl t_profile_ring_f)), (p1, .inr (4, [.ref p1_bytes, .int p1_size])), (p1_bytes, .inl (p1_bytes_c, p1_bytes_N, .inl p1_bytes_f))]) [] hx hb hml hown hB hN hK hP hD hS hA (ct_Mt_isRegister l D F v2 x89 hx89) kw_cd_Mt_isRegister kw_ml_Mt_59 kw_st_Mt_isRegister kw_in_Mt kd_Mt_isRegister (by decide) [] [0, 1, 2, 3, 4, 5, 6] rfl rfl (by decide) [] rfl [0, 1, 2, 3, 4, 5, 6] (by decide) (fun _ => rfl) rfl hl.1 (bs_ler rfl) (by decide) dc_Mt_write_89 rfl (fun v89q _ H locs hq89 hP hD hS => ?_)
      have hq89 := hq89.symm
      subst hq89
      refine lv_if_eq (tgt := 102) hx hb dc_Mt_write_92 (by decide) (fun h92 => ?_) (fun h92 => ?_)
      · have hm := bs_pos h92 hm
        cases hm
        subst hQ
        exact bs_retV hx hb hr hlk () trivial hP hD hS dc_Mt_write_102
      · have hm := bs_neg h92 hm
        refine lv_aload_n hx hb dc_Mt_write_95 rfl (lv_at hl 0 rfl) ?_
        refine lv_aload_n hx hb dc_Mt_write_96 rfl (lv_at hl 1 rfl) ?_
        refine lv_iload_n hx hb dc_Mt_write_97 rfl (lv_at hl 2 rfl) ?_
        refine lv_iload_n hx hb dc_Mt_write_98 rfl (lv_at hl 3 rfl) ?_
        obtain ⟨x99, hx99, hm⟩ := bs_bind hm
        refine bs_callVv 3 [] (fun _ => [(t, .inr (2, [.ref t_registers, .ref t_profile, .int t_now])), (t_registers, .inl (t_registers_c, 3, .inl t_registers_f)), (t_profile, .inr (3, [.ref t_profile_columns, .ref t_profile_ring, .int t_profile_columnCount, .int t_profile_capacity, .int t_profile_period, .int t_profile_first, .int t_profile_size])), (t_profile_columns, .inl (t_profile_columns_c, 3, .inl t_profile_columns_f)), (t_profile_ring, .inl (t_profile_ring_c, 48, .inl t_profile_ring_f)), (p1, .inr (4, [.ref p1_bytes, .int x99.1])), (p1_bytes, .inl (p1_bytes_c, p1_bytes_N, .inl x99.2))]) [] hx hb hml hown hB hN hK hP hD hS hA (ct_Mt_writeRegister l D F t t_registers t_profile t_profile_columns t_profile_ring p1 p1_bytes t_registers_c t_profile_columns_c t_profile_ring_c p1_bytes_c p1_bytes_N t_now t_registers_f t_profile_columnCount t_profile_capacity t_profile_period t_profile_first t_profile_size t_profile_columns_f t_profile_ring_f p1_size p1_bytes_f v2 v3 x99 hx99) kw_cd_Mt_writeRegister kw_ml_Mt_62 kw_im_Mt_writeRegister kw_se_Mt_writeRegister kw_in_Mt kd_Mt_writeRegister (by decide) ⟨_, _, _, rfl, rfl, rfl⟩ [0, 1, 2, 3, 4, 5, 6] [] rfl rfl (by decide) [0, 1, 2, 3] rfl [0, 1, 2, 3, 4, 5, 6] (by decide) (fun _ => rfl) rfl hl.1 (bs_ler rfl) (by decide) dc_Mt_write_99 rfl (fun _ H locs hq99 hP hD hS => ?_)
        cases hm
        subst hQ
        exact bs_retV hx hb hr hlk () trivial hP hD hS dc_Mt_write_102
    · have hm := bs_pos h73 hm
      refine lv_aload_n hx hb dc_Mt_write_76 rfl (lv_at hl 0 rfl) ?_
      refine va_get (ci := 2) (v := .ref t_profile) (C := cn_Mt) (T := cf_Mt) (N := 3) hx hb hB ki_Mt hown hK hP 0 rfl rfl 1 (by decide) (hB _ kw_fl_Mt_22) (fun _ h => h) rfl dc_Mt_write_77 ?_
      refine lv_aload_n hx hb dc_Mt_write_80 rfl (lv_at hl 1 rfl) ?_
      refine lv_iload_n hx hb dc_Mt_write_81 rfl (lv_at hl 3 rfl) ?_
      obtain ⟨x82, hx82, hm⟩ := bs_bind hm
      refine bs_callVv 2 [(t, .inr (2, [.ref t_registers, .ref t_profile, .int t_now])), (t_registers, .inl (t_registers_c, 3, .inl t_registers_f))] (fun _ => [(t, .inr (2, [.ref t_registers, .ref t_profile, .int t_now])), (t_registers, .inl (t_registers_c, 3, .inl t_registers_f)), (t_profile, .inr (3, [.ref t_profile_columns, .ref t_profile_ring, .int t_profile_columnCount, .int t_profile_capacity, .int t_profile_period, .int t_profile_first, .int t_profile_size])), (t_profile_columns, .inl (t_profile_columns_c, 3, .inl t_profile_columns_f)), (t_profile_ring, .inl (t_profile_ring_c, 48, .inl t_profile_ring_f)), (p1, .inr (4, [.ref p1_bytes, .int x82.1])), (p1_bytes, .inl (p1_bytes_c, p1_bytes_N, .inl x82.2))]) [] hx hb hml hown hB hN hK hP hD hS hA (ct_Pf_writeSetting l D F t_profile t_profile_columns t_profile_ring p1 p1_bytes t_profile_columns_c t_profile_ring_c p1_bytes_c p1_bytes_N t_profile_columnCount t_profile_capacity t_profile_period t_profile_first t_profile_size t_profile_columns_f t_profile_ring_f p1_size p1_bytes_f v3 x82 hx82) kw_cd_Pf_writeSetting kw_ml_Mt_55 kw_im_Pf_writeSetting kw_se_Pf_writeSetting kw_in_Pf kd_Pf_writeSetting (by decide) ⟨_, _, _, rfl, rfl, rfl⟩ [2, 3, 4, 5, 6] [0, 1] rfl rfl (by decide) [1, 2, 3] rfl [0, 1, 2, 3, 4, 5, 6] (by decide) (fun _ => rfl) rfl hl.1 (bs_ler rfl) (by decide) dc_Mt_write_82 rfl (fun _ H locs hq82 hP hD hS => ?_)
      refine lv_goto (tgt := 102) hx hb dc_Mt_write_85 (by decide) ?_
      cases hm
      subst hQ
      exact bs_retV hx hb hr hlk () trivial hP hD hS dc_Mt_write_102
  have hl : lv_has ls 6 [(0, .ref t), (1, .ref p1), (2, .int i2), (3, .int i3), (4, .int i4), (5, .int i5)] := hl
  have hm := (mq_Mt_write F p1_bytes_N i2 i3 i4 i5 t_now t_registers_f t_profile_columnCount t_profile_capacity t_profile_period t_profile_first t_profile_size t_profile_columns_f t_profile_ring_f p1_size p1_bytes_f).symm.trans hm
  refine lv_iload_n hx hb dc_Mt_write_0 rfl (lv_at hl 3 rfl) ?_
  refine lv_iconst (v := 1) hx hb dc_Mt_write_1 (by decide +kernel) ?_
  refine lv_icmp_ne (tgt := 29) hx hb dc_Mt_write_2 (by decide) (fun h2 => ?_) (fun h2 => ?_)
  · have hm := bs_neg h2 hm
    refine lv_iload_n hx hb dc_Mt_write_29 rfl (lv_at hl 2 rfl) ?_
    refine lv_if_ne (tgt := 46) hx hb dc_Mt_write_30 (by decide) (fun h30 => ?_) (fun h30 => ?_)
    · have hm := bs_neg h30 hm
      refine lv_iload_n hx hb dc_Mt_write_46 rfl (lv_at hl 2 rfl) ?_
      refine lv_iconst (v := 4) hx hb dc_Mt_write_47 (by decide +kernel) ?_
      refine lv_icmp_ne (tgt := 71) hx hb dc_Mt_write_48 (by decide) (fun h48 => ?_) (fun h48 => ?_)
      · have hm := bs_neg h48 hm
        exact hJ71 i2 i3 p1_size p1_bytes_f ls _ _ hm (lv_sub hl [0, 1, 2, 3] rfl) hP hD hS
      · have hm := bs_pos h48 hm
        refine lv_iload_n hx hb dc_Mt_write_51 rfl (lv_at hl 3 rfl) ?_
        refine lv_iconst (v := 2) hx hb dc_Mt_write_52 (by decide +kernel) ?_
        refine lv_icmp_ne (tgt := 71) hx hb dc_Mt_write_53 (by decide) (fun h53 => ?_) (fun h53 => ?_)
        · have hm := bs_neg h53 hm
          exact hJ71 i2 i3 p1_size p1_bytes_f ls _ _ hm (lv_sub hl [0, 1, 2, 3] rfl) hP hD hS
        · have hm := bs_pos h53 hm
          refine lv_aload_n hx hb dc_Mt_write_56 rfl (lv_at hl 0 rfl) ?_
          refine va_get (ci := 2) (v := .ref t_profile) (C := cn_Mt) (T := cf_Mt) (N := 3) hx hb hB ki_Mt hown hK hP 0 rfl rfl 1 (by decide) (hB _ kw_fl_Mt_22) (fun _ h => h) rfl dc_Mt_write_57 ?_
          refine lv_aload_n hx hb dc_Mt_write_60 rfl (lv_at hl 1 rfl) ?_
          refine lv_iload hx hb dc_Mt_write_61 (lv_at hl 4 rfl) ?_
          refine lv_iload hx hb dc_Mt_write_63 (lv_at hl 5 rfl) ?_
          obtain ⟨x65, hx65, hm⟩ := bs_bind hm
          refine bs_callVv 3 [(t, .inr (2, [.ref t_registers, .ref t_profile, .int t_now])), (t_registers, .inl (t_registers_c, 3, .inl t_registers_f))] (fun _ => [(t, .inr (2, [.ref t_registers, .ref t_profile, .int t_now])), (t_registers, .inl (t_registers_c, 3, .inl t_registers_f)), (t_profile, .inr (3, [.ref t_profile_columns, .ref t_profile_ring, .int t_profile_columnCount, .int t_profile_capacity, .int t_profile_period, .int t_profile_first, .int t_profile_size])), (t_profile_columns, .inl (t_profile_columns_c, 3, .inl t_profile_columns_f)), (t_profile_ring, .inl (t_profile_ring_c, 48, .inl t_profile_ring_f)), (p1, .inr (4, [.ref p1_bytes, .int x65.1])), (p1_bytes, .inl (p1_bytes_c, p1_bytes_N, .inl x65.2))]) [] hx hb hml hown hB hN hK hP hD hS hA (ct_Pf_writeEntries l D F t_profile t_profile_columns t_profile_ring p1 p1_bytes t_profile_columns_c t_profile_ring_c p1_bytes_c p1_bytes_N t_profile_columnCount t_profile_capacity t_profile_period t_profile_first t_profile_size t_profile_columns_f t_profile_ring_f p1_size p1_bytes_f i4 i5 x65 hx65) kw_cd_Pf_writeEntries kw_ml_Mt_51 kw_im_Pf_writeEntries kw_se_Pf_writeEntries kw_in_Pf kd_Pf_writeEntries (by decide) ⟨_, _, _, rfl, rfl, rfl⟩ [2, 3, 4, 5, 6] [0, 1] rfl rfl (by decide) [1, 2, 3] rfl [0, 1, 2, 3, 4, 5, 6] (by decide) (fun _ => rfl) rfl hl.1 (bs_ler rfl) (by decide) dc_Mt_write_65 rfl (fun _ H locs hq65 hP hD hS => ?_)
          refine lv_goto (tgt := 102) hx hb dc_Mt_write_68 (by decide) ?_
          clear hJ71
          cases hm
          subst hQ
          exact bs_retV hx hb hr hlk () trivial hP hD hS dc_Mt_write_102
    · have hm := bs_pos h30 hm
      refine lv_aload_n hx hb dc_Mt_write_33 rfl (lv_at hl 1 rfl) ?_
      refine lv_bipush (v := 6) hx hb dc_Mt_write_34 (by decide +kernel) ?_
      refine lv_aload_n hx hb dc_Mt_write_36 rfl (lv_at hl 0 rfl) ?_
      refine va_get (ci := 2) (v := .int t_now) (C := cn_Mt) (T := cf_Mt) (N := 3) hx hb hB ki_Mt hown hK hP 0 rfl rfl 2 (by decide) (hB _ kw_fl_Mt_13) (fun _ h => h) rfl dc_Mt_write_37 ?_
      obtain ⟨x40, hx40, hm⟩ := bs_bind hm
      refine bs_callVv 2 [(t, .inr (2, [.ref t_registers, .ref t_profile, .int t_now])), (t_registers, .inl (t_registers_c, 3, .inl t_registers_f)), (t_profile, .inr (3, [.ref t_profile_columns, .ref t_profile_ring, .int t_profile_columnCount, .int t_profile_capacity, .int t_profile_period, .int t_profile_first, .int t_profile_size])), (t_profile_columns, .inl (t_profile_columns_c, 3, .inl t_profile_columns_f)), (t_profile_ring, .inl (t_profile_ring_c, 48, .inl t_profile_ring_f))] (fun _ => [(t, .inr (2, [.ref t_registers, .ref t_profile, .int t_now])), (t_registers, .inl (t_registers_c, 3, .inl t_registers_f)), (t_profile, .inr (3, [.ref t_profile_columns, .ref t_profile_ring, .int t_profile_columnCount, .int t_profile_capacity, .int t_profile_period, .int t_profile_first, .int t_profile_size])), (t_profile_columns, .inl (t_profile_columns_c, 3, .inl t_profile_columns_f)), (t_profile_ring, .inl (t_profile_ring_c, 48, .inl t_profile_ring_f)), (p1, .inr (4, [.ref p1_bytes, .int x40.1])), (p1_bytes, .inl (p1_bytes_c, p1_bytes_N, .inl x40.2))]) [] hx hb hml hown hB hN hK hP hD hS hA (ct_Rw_addTagged l D F p1 p1_bytes p1_bytes_c p1_bytes_N p1_size p1_bytes_f 6 t_now x40 hx40) kw_cd_Rw_addTagged kw_ml_Mt_47 kw_im_Rw_addTagged kw_se_Rw_addTagged kw_in_Rw kd_Rw_addTagged (by decide) ⟨_, _, _, rfl, rfl, rfl⟩ [5, 6] [0, 1, 2, 3, 4] rfl rfl (by decide) [3] rfl [0, 1, 2, 3, 4, 5, 6] (by decide) (fun _ => rfl) rfl hl.1 (bs_ler rfl) (by decide) dc_Mt_write_40 rfl (fun _ H locs hq40 hP hD hS => ?_)
      refine lv_goto (tgt := 102) hx hb dc_Mt_write_43 (by decide) ?_
      clear hJ71
      cases hm
      subst hQ
      exact bs_retV hx hb hr hlk () trivial hP hD hS dc_Mt_write_102
  · have hm := bs_pos h2 hm
    refine lv_aload_n hx hb dc_Mt_write_5 rfl (lv_at hl 1 rfl) ?_
    refine lv_bipush (v := 9) hx hb dc_Mt_write_6 (by decide +kernel) ?_
    obtain ⟨x8, hx8, hm⟩ := bs_bind hm
    refine bs_callVv 1 [(t, .inr (2, [.ref t_registers, .ref t_profile, .int t_now])), (t_registers, .inl (t_registers_c, 3, .inl t_registers_f)), (t_profile, .inr (3, [.ref t_profile_columns, .ref t_profile_ring, .int t_profile_columnCount, .int t_profile_capacity, .int t_profile_period, .int t_profile_first, .int t_profile_size])), (t_profile_columns, .inl (t_profile_columns_c, 3, .inl t_profile_columns_f)), (t_profile_ring, .inl (t_profile_ring_c, 48, .inl t_profile_ring_f))] (fun _ => [(t, .inr (2, [.ref t_registers, .ref t_profile, .int t_now])), (t_registers, .inl (t_registers_c, 3, .inl t_registers_f)), (t_profile, .inr (3, [.ref t_profile_columns, .ref t_profile_ring, .int t_profile_columnCount, .int t_profile_capacity, .int t_profile_period, .int t_profile_first, .int t_profile_size])), (t_profile_columns, .inl (t_profile_columns_c, 3, .inl t_profile_columns_f)), (t_profile_ring, .inl (t_profile_ring_c, 48, .inl t_profile_ring_f)), (p1, .inr (4, [.ref p1_bytes, .int x8.1])), (p1_bytes, .inl (p1_bytes_c, p1_bytes_N, .inl x8.2))]) [] hx hb hml hown hB hN hK hP hD hS hA (ct_Rw_add l D F p1 p1_bytes p1_bytes_c p1_bytes_N p1_size p1_bytes_f 9 x8 hx8) kw_cd_Rw_add kw_ml_Mt_42 kw_im_Rw_add kw_se_Rw_add kw_in_Rw kd_Rw_add (by decide) ⟨_, _, _, rfl, rfl, rfl⟩ [5, 6] [0, 1, 2, 3, 4] rfl rfl (by decide) [3] rfl [0, 1, 2, 3, 4, 5, 6] (by decide) (fun _ => rfl) rfl hl.1 (bs_ler rfl) (by decide) dc_Mt_write_8 rfl (fun _ H locs hq8 hP hD hS => ?_)
    refine lv_aload_n hx hb dc_Mt_write_11 rfl (lv_at hl 1 rfl) ?_
    refine lv_iconst (v := 2) hx hb dc_Mt_write_12 (by decide +kernel) ?_
    obtain ⟨x13, hx13, hm⟩ := bs_bind hm
    refine bs_callVv 1 [(t, .inr (2, [.ref t_registers, .ref t_profile, .int t_now])), (t_registers, .inl (t_registers_c, 3, .inl t_registers_f)), (t_profile, .inr (3, [.ref t_profile_columns, .ref t_profile_ring, .int t_profile_columnCount, .int t_profile_capacity, .int t_profile_period, .int t_profile_first, .int t_profile_size])), (t_profile_columns, .inl (t_profile_columns_c, 3, .inl t_profile_columns_f)), (t_profile_ring, .inl (t_profile_ring_c, 48, .inl t_profile_ring_f))] (fun _ => [(t, .inr (2, [.ref t_registers, .ref t_profile, .int t_now])), (t_registers, .inl (t_registers_c, 3, .inl t_registers_f)), (t_profile, .inr (3, [.ref t_profile_columns, .ref t_profile_ring, .int t_profile_columnCount, .int t_profile_capacity, .int t_profile_period, .int t_profile_first, .int t_profile_size])), (t_profile_columns, .inl (t_profile_columns_c, 3, .inl t_profile_columns_f)), (t_profile_ring, .inl (t_profile_ring_c, 48, .inl t_profile_ring_f)), (p1, .inr (4, [.ref p1_bytes, .int x13.1])), (p1_bytes, .inl (p1_bytes_c, p1_bytes_N, .inl x13.2))]) [] hx hb hml hown hB hN hK hP hD hS hA (ct_Rw_add l D F p1 p1_bytes p1_bytes_c p1_bytes_N x8.1 x8.2 2 x13 hx13) kw_cd_Rw_add kw_ml_Mt_42 kw_im_Rw_add kw_se_Rw_add kw_in_Rw kd_Rw_add (by decide) ⟨_, _, _, rfl, rfl, rfl⟩ [5, 6] [0, 1, 2, 3, 4] rfl rfl (by decide) [3] rfl [0, 1, 2, 3, 4, 5, 6] (by decide) (fun _ => rfl) rfl hl.1 (bs_ler rfl) (by decide) dc_Mt_write_13 rfl (fun _ H locs hq13 hP hD hS => ?_)
    refine lv_aload_n hx hb dc_Mt_write_16 rfl (lv_at hl 1 rfl) ?_
    refine lv_iconst (v := 1) hx hb dc_Mt_write_17 (by decide +kernel) ?_
    obtain ⟨x18, hx18, hm⟩ := bs_bind hm
    refine bs_callVv 1 [(t, .inr (2, [.ref t_registers, .ref t_profile, .int t_now])), (t_registers, .inl (t_registers_c, 3, .inl t_registers_f)), (t_profile, .inr (3, [.ref t_profile_columns, .ref t_profile_ring, .int t_profile_columnCount, .int t_profile_capacity, .int t_profile_period, .int t_profile_first, .int t_profile_size])), (t_profile_columns, .inl (t_profile_columns_c, 3, .inl t_profile_columns_f)), (t_profile_ring, .inl (t_profile_ring_c, 48, .inl t_profile_ring_f))] (fun _ => [(t, .inr (2, [.ref t_registers, .ref t_profile, .int t_now])), (t_registers, .inl (t_registers_c, 3, .inl t_registers_f)), (t_profile, .inr (3, [.ref t_profile_columns, .ref t_profile_ring, .int t_profile_columnCount, .int t_profile_capacity, .int t_profile_period, .int t_profile_first, .int t_profile_size])), (t_profile_columns, .inl (t_profile_columns_c, 3, .inl t_profile_columns_f)), (t_profile_ring, .inl (t_profile_ring_c, 48, .inl t_profile_ring_f)), (p1, .inr (4, [.ref p1_bytes, .int x18.1])), (p1_bytes, .inl (p1_bytes_c, p1_bytes_N, .inl x18.2))]) [] hx hb hml hown hB hN hK hP hD hS hA (ct_Rw_add l D F p1 p1_bytes p1_bytes_c p1_bytes_N x13.1 x13.2 1 x18 hx18) kw_cd_Rw_add kw_ml_Mt_42 kw_im_Rw_add kw_se_Rw_add kw_in_Rw kd_Rw_add (by decide) ⟨_, _, _, rfl, rfl, rfl⟩ [5, 6] [0, 1, 2, 3, 4] rfl rfl (by decide) [3] rfl [0, 1, 2, 3, 4, 5, 6] (by decide) (fun _ => rfl) rfl hl.1 (bs_ler rfl) (by decide) dc_Mt_write_18 rfl (fun _ H locs hq18 hP hD hS => ?_)
    refine lv_aload_n hx hb dc_Mt_write_21 rfl (lv_at hl 1 rfl) ?_
    refine lv_iload_n hx hb dc_Mt_write_22 rfl (lv_at hl 2 rfl) ?_
    obtain ⟨x23, hx23, hm⟩ := bs_bind hm
    refine bs_callVv 1 [(t, .inr (2, [.ref t_registers, .ref t_profile, .int t_now])), (t_registers, .inl (t_registers_c, 3, .inl t_registers_f)), (t_profile, .inr (3, [.ref t_profile_columns, .ref t_profile_ring, .int t_profile_columnCount, .int t_profile_capacity, .int t_profile_period, .int t_profile_first, .int t_profile_size])), (t_profile_columns, .inl (t_profile_columns_c, 3, .inl t_profile_columns_f)), (t_profile_ring, .inl (t_profile_ring_c, 48, .inl t_profile_ring_f))] (fun _ => [(t, .inr (2, [.ref t_registers, .ref t_profile, .int t_now])), (t_registers, .inl (t_registers_c, 3, .inl t_registers_f)), (t_profile, .inr (3, [.ref t_profile_columns, .ref t_profile_ring, .int t_profile_columnCount, .int t_profile_capacity, .int t_profile_period, .int t_profile_first, .int t_profile_size])), (t_profile_columns, .inl (t_profile_columns_c, 3, .inl t_profile_columns_f)), (t_profile_ring, .inl (t_profile_ring_c, 48, .inl t_profile_ring_f)), (p1, .inr (4, [.ref p1_bytes, .int x23.1])), (p1_bytes, .inl (p1_bytes_c, p1_bytes_N, .inl x23.2))]) [] hx hb hml hown hB hN hK hP hD hS hA (ct_Rw_add l D F p1 p1_bytes p1_bytes_c p1_bytes_N x18.1 x18.2 i2 x23 hx23) kw_cd_Rw_add kw_ml_Mt_42 kw_im_Rw_add kw_se_Rw_add kw_in_Rw kd_Rw_add (by decide) ⟨_, _, _, rfl, rfl, rfl⟩ [5, 6] [0, 1, 2, 3, 4] rfl rfl (by decide) [3] rfl [0, 1, 2, 3, 4, 5, 6] (by decide) (fun _ => rfl) rfl hl.1 (bs_ler rfl) (by decide) dc_Mt_write_23 rfl (fun _ H locs hq23 hP hD hS => ?_)
    refine lv_goto (tgt := 102) hx hb dc_Mt_write_26 (by decide) ?_
    clear hJ71
    cases hm
    subst hQ
    exact bs_retV hx hb hr hlk () trivial hP hD hS dc_Mt_write_102
set_option maxHeartbeats 2000000 in
set_option maxRecDepth 100000 in
theorem ct_Mt_isSettable (l : Launch) (D : va_G) (F : Nat) (i0 : Int32) (i1 : Int32) (r : Int32) (hm : mm_Mt_isSettable F i0 i1 = some r) :
    bs_CI l my_Mt_isSettable mb_Mt_isSettable 2 .boolean (bs_rm 0) D [.int i0, .int i1] [] [] (S := Unit) (fun v (_ : Unit) => v = r) (fun _ => []) := by
  refine bs_CI.mk (by decide +kernel) (bs_ler rfl) ?_
  intro p e s m below meth c ls A hx hb hr hml hlk hown hB hN hP hK hD hS hA hl
  refine bs_genQ (fun Q hQ => ?_)
  have hl : lv_has ls 2 [(0, .int i0), (1, .int i1)] := hl
  have hm := (mq_Mt_isSettable F i0 i1).symm.trans hm
  refine lv_iload_n hx hb dc_Mt_isSettable_0 rfl (lv_at hl 0 rfl) ?_
  refine lv_iconst (v := 4) hx hb dc_Mt_isSettable_1 (by decide +kernel) ?_
  refine lv_icmp_ne (tgt := 29) hx hb dc_Mt_isSettable_2 (by decide) (fun h2 => ?_) (fun h2 => ?_)
  · have hm := bs_neg h2 hm
    refine lv_iload_n hx hb dc_Mt_isSettable_29 rfl (lv_at hl 1 rfl) ?_
    refine lv_iconst (v := 2) hx hb dc_Mt_isSettable_30 (by decide +kernel) ?_
    refine lv_icmp_ne (tgt := 38) hx hb dc_Mt_isSettable_31 (by decide) (fun h31 => ?_) (fun h31 => ?_)
    · have hm := bs_neg h31 hm
      refine lv_iconst (v := 0) hx hb dc_Mt_isSettable_38 (by decide +kernel) ?_
      cases hm
      subst hQ
      exact bs_retZ hx hb hr hlk (by decide +kernel) () rfl hP hD hS dc_Mt_isSettable_39
    · have hm := bs_pos h31 hm
      refine lv_iconst (v := 1) hx hb dc_Mt_isSettable_34 (by decide +kernel) ?_
      refine lv_goto (tgt := 39) hx hb dc_Mt_isSettable_35 (by decide) ?_
      cases hm
      subst hQ
      exact bs_retZ hx hb hr hlk (by decide +kernel) () rfl hP hD hS dc_Mt_isSettable_39
  · have hm := bs_pos h2 hm
    refine lv_iload_n hx hb dc_Mt_isSettable_5 rfl (lv_at hl 1 rfl) ?_
    refine lv_iconst (v := 3) hx hb dc_Mt_isSettable_6 (by decide +kernel) ?_
    refine lv_icmp_eq (tgt := 21) hx hb dc_Mt_isSettable_7 (by decide) (fun h7 => ?_) (fun h7 => ?_)
    · have hm := bs_pos h7 hm
      refine lv_iconst (v := 1) hx hb dc_Mt_isSettable_21 (by decide +kernel) ?_
      refine lv_goto (tgt := 39) hx hb dc_Mt_isSettable_22 (by decide) ?_
      cases hm
      subst hQ
      exact bs_retZ hx hb hr hlk (by decide +kernel) () rfl hP hD hS dc_Mt_isSettable_39
    · have hm := bs_neg h7 hm
      refine lv_iload_n hx hb dc_Mt_isSettable_10 rfl (lv_at hl 1 rfl) ?_
      refine lv_iconst (v := 4) hx hb dc_Mt_isSettable_11 (by decide +kernel) ?_
      refine lv_icmp_eq (tgt := 21) hx hb dc_Mt_isSettable_12 (by decide) (fun h12 => ?_) (fun h12 => ?_)
      · have hm := bs_pos h12 hm
        refine lv_iconst (v := 1) hx hb dc_Mt_isSettable_21 (by decide +kernel) ?_
        refine lv_goto (tgt := 39) hx hb dc_Mt_isSettable_22 (by decide) ?_
        cases hm
        subst hQ
        exact bs_retZ hx hb hr hlk (by decide +kernel) () rfl hP hD hS dc_Mt_isSettable_39
      · have hm := bs_neg h12 hm
        refine lv_iload_n hx hb dc_Mt_isSettable_15 rfl (lv_at hl 1 rfl) ?_
        refine lv_bipush (v := 8) hx hb dc_Mt_isSettable_16 (by decide +kernel) ?_
        refine lv_icmp_ne (tgt := 25) hx hb dc_Mt_isSettable_18 (by decide) (fun h18 => ?_) (fun h18 => ?_)
        · have hm := bs_neg h18 hm
          refine lv_iconst (v := 0) hx hb dc_Mt_isSettable_25 (by decide +kernel) ?_
          refine lv_goto (tgt := 39) hx hb dc_Mt_isSettable_26 (by decide) ?_
          cases hm
          subst hQ
          exact bs_retZ hx hb hr hlk (by decide +kernel) () rfl hP hD hS dc_Mt_isSettable_39
        · have hm := bs_pos h18 hm
          refine lv_iconst (v := 1) hx hb dc_Mt_isSettable_21 (by decide +kernel) ?_
          refine lv_goto (tgt := 39) hx hb dc_Mt_isSettable_22 (by decide) ?_
          cases hm
          subst hQ
          exact bs_retZ hx hb hr hlk (by decide +kernel) () rfl hP hD hS dc_Mt_isSettable_39
set_option maxHeartbeats 2000000 in
set_option maxRecDepth 100000 in
theorem ct_Mt_takeTime (l : Launch) (D : va_G) (F : Nat) (t : Nat) (t_registers : Nat) (t_profile : Nat) (t_profile_columns : Nat) (t_profile_ring : Nat) (t_registers_c : ClassId) (t_profile_columns_c : ClassId) (t_profile_ring_c : ClassId) (t_now : Int32) (t_registers_f : Nat → Int32) (t_profile_columnCount : Int32) (t_profile_capacity : Int32) (t_profile_period : Int32) (t_profile_first : Int32) (t_profile_size : Int32) (t_profile_columns_f : Nat → Int32) (t_profile_ring_f : Nat → Int32) (i1 : Int32) (r : Int32 × Int32) (hm : mm_Mt_takeTime F i1 t_now = some r) :
    bs_CI l my_Mt_takeTime mb_Mt_takeTime 2 .boolean (bs_rm 0) D [.ref t, .int i1] [(t_registers_c, .int), (t_profile_columns_c, .int), (t_profile_ring_c, .int)] [(t, .inr (2, [.ref t_registers, .ref t_profile, .int t_now])), (t_registers, .inl (t_registers_c, 3, .inl t_registers_f)), (t_profile, .inr (3, [.ref t_profile_columns, .ref t_profile_ring, .int t_profile_columnCount, .int t_profile_capacity, .int t_profile_period, .int t_profile_first, .int t_profile_size])), (t_profile_columns, .inl (t_profile_columns_c, 3, .inl t_profile_columns_f)), (t_profile_ring, .inl (t_profile_ring_c, 48, .inl t_profile_ring_f))] (S := Unit) (fun v (_ : Unit) => v = r.1) (fun _ => [(t, .inr (2, [.ref t_registers, .ref t_profile, .int r.2])), (t_registers, .inl (t_registers_c, 3, .inl t_registers_f)), (t_profile, .inr (3, [.ref t_profile_columns, .ref t_profile_ring, .int t_profile_columnCount, .int t_profile_capacity, .int t_profile_period, .int t_profile_first, .int t_profile_size])), (t_profile_columns, .inl (t_profile_columns_c, 3, .inl t_profile_columns_f)), (t_profile_ring, .inl (t_profile_ring_c, 48, .inl t_profile_ring_f))]) := by
  refine bs_CI.mk (by decide +kernel) (bs_ler rfl) ?_
  intro p e s m below meth c ls A hx hb hr hml hlk hown hB hN hP hK hD hS hA hl
  refine bs_genQ (fun Q hQ => ?_)
  have hl : lv_has ls 2 [(0, .ref t), (1, .int i1)] := hl
  have hm := (mq_Mt_takeTime F i1 t_now).symm.trans hm
  refine lv_iload_n hx hb dc_Mt_takeTime_0 rfl (lv_at hl 1 rfl) ?_
  refine lv_if_ge (tgt := 6) hx hb dc_Mt_takeTime_1 (by decide) (fun h1 => ?_) (fun h1 => ?_)
  · have hm := bs_pos h1 hm
    refine lv_aload_n hx hb dc_Mt_takeTime_6 rfl (lv_at hl 0 rfl) ?_
    refine lv_iload_n hx hb dc_Mt_takeTime_7 rfl (lv_at hl 1 rfl) ?_
    refine va_put (ci := 2) (v := .int i1) (ty := .int) (C := cn_Mt) (T := cf_Mt) (N := 3) hx hb hB ki_Mt ct_Mt cp_Mt cd_Mt hown hK hP hD hS 0 rfl rfl 2 (by decide) (hB _ kw_fl_Mt_13) (fun _ h => h) rfl (by decide +kernel) rfl rfl (bs_ltr rfl) dc_Mt_takeTime_8 (fun H locs hP hD hS => ?_)
    obtain ⟨hP, hD⟩ := bs_say [(t, .inr (2, [.ref t_registers, .ref t_profile, .int i1])), (t_registers, .inl (t_registers_c, 3, .inl t_registers_f)), (t_profile, .inr (3, [.ref t_profile_columns, .ref t_profile_ring, .int t_profile_columnCount, .int t_profile_capacity, .int t_profile_period, .int t_profile_first, .int t_profile_size])), (t_profile_columns, .inl (t_profile_columns_c, 3, .inl t_profile_columns_f)), (t_profile_ring, .inl (t_profile_ring_c, 48, .inl t_profile_ring_f))] hP hD
    refine lv_iconst (v := 1) hx hb dc_Mt_takeTime_11 (by decide +kernel) ?_
    cases hm
    subst hQ
    exact bs_retZ hx hb hr hlk (by decide +kernel) () rfl hP hD hS dc_Mt_takeTime_12
  · have hm := bs_neg h1 hm
    refine lv_iconst (v := 0) hx hb dc_Mt_takeTime_4 (by decide +kernel) ?_
    cases hm
    subst hQ
    exact bs_retZ hx hb hr hlk (by decide +kernel) () rfl hP hD hS dc_Mt_takeTime_5
