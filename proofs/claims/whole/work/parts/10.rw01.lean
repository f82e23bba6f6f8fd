set_option maxHeartbeats 2000000 in
set_option maxRecDepth 100000 in
theorem ct_Rw_at (l : Launch) (D : va_G) (F : Nat) (t : Nat) (t_bytes : Nat) (t_bytes_c : ClassId) (t_bytes_N : Nat) (t_size : Int32) (t_bytes_f : Nat → Int32) (i1 : Int32) (r : Int32) (hm : mm_Rw_at F t_bytes_N i1 t_size t_bytes_f = some r) :
    bs_CI l my_Rw_at mb_Rw_at 2 .int (bs_rm 0) D [.ref t, .int i1] [(t_bytes_c, .int)] [(t, .inr (4, [.ref t_bytes, .int t_size])), (t_bytes, .inl (t_bytes_c, t_bytes_N, .inl t_bytes_f))] (S := Unit) (fun v (_ : Unit) => v = r) (fun _ => [(t, .inr (4, [.ref t_bytes, .int t_size])), (t_bytes, .inl (t_bytes_c, t_bytes_N, .inl t_bytes_f))]) := by
  refine bs_CI.mk (by decide +kernel) (bs_ler rfl) ?_
  intro p e s m below meth c ls A hx hb hr hml hlk hown hB hN hP hK hD hS hA hl
  refine bs_genQ (fun Q hQ => ?_)
  have hl : lv_has ls 2 [(0, .ref t), (1, .int i1)] := hl
  have hm := (mq_Rw_at F t_bytes_N i1 t_size t_bytes_f).symm.trans hm
  refine lv_iload_n hx hb dc_Rw_at_0 rfl (lv_at hl 1 rfl) ?_
  refine lv_if_lt (tgt := 21) hx hb dc_Rw_at_1 (by decide) (fun h1 => ?_) (fun h1 => ?_)
  · have hm := bs_pos h1 hm
    refine lv_iconst (v := (-1)) hx hb dc_Rw_at_21 (by decide +kernel) ?_
    cases hm
    subst hQ
    exact bs_retI hx hb hr hlk () rfl hP hD hS dc_Rw_at_22
  · have hm := bs_neg h1 hm
    refine lv_iload_n hx hb dc_Rw_at_4 rfl (lv_at hl 1 rfl) ?_
    refine lv_aload_n hx hb dc_Rw_at_5 rfl (lv_at hl 0 rfl) ?_
    refine va_get (ci := 4) (v := .int t_size) (C := cn_Rw) (T := cf_Rw) (N := 2) hx hb hB ki_Rw hown hK hP 0 rfl rfl 1 (by decide) (hB _ kw_fl_Rw_7) (fun _ h => h) rfl dc_Rw_at_6 ?_
    refine lv_icmp_ge (tgt := 21) hx hb dc_Rw_at_9 (by decide) (fun h9 => ?_) (fun h9 => ?_)
    · have hm := bs_pos h9 hm
      refine lv_iconst (v := (-1)) hx hb dc_Rw_at_21 (by decide +kernel) ?_
      cases hm
      subst hQ
      exact bs_retI hx hb hr hlk () rfl hP hD hS dc_Rw_at_22
    · have hm := bs_neg h9 hm
      refine lv_aload_n hx hb dc_Rw_at_12 rfl (lv_at hl 0 rfl) ?_
      refine va_get (ci := 4) (v := .ref t_bytes) (C := cn_Rw) (T := cf_Rw) (N := 2) hx hb hB ki_Rw hown hK hP 0 rfl rfl 0 (by decide) (hB _ kw_fl_Rw_13) (fun _ h => h) rfl dc_Rw_at_13 ?_
      refine lv_iload_n hx hb dc_Rw_at_16 rfl (lv_at hl 1 rfl) ?_
      obtain ⟨hz17, hm⟩ := bs_nn hm
      refine va_iald hx hb hK hP 1 0 rfl rfl hz17 dc_Rw_at_17 ?_
      refine lv_goto (tgt := 22) hx hb dc_Rw_at_18 (by decide) ?_
      cases hm
      subst hQ
      exact bs_retI hx hb hr hlk () rfl hP hD hS dc_Rw_at_22
set_option maxHeartbeats 2000000 in
set_option maxRecDepth 100000 in
theorem ct_Rw_drop (l : Launch) (D : va_G) (F : Nat) (t : Nat) (t_bytes : Nat) (t_bytes_c : ClassId) (t_bytes_N : Nat) (t_size : Int32) (t_bytes_f : Nat → Int32) (r : Int32) (hm : mm_Rw_drop F t_size = some r) :
    bs_CV l my_Rw_drop mb_Rw_drop 1 (bs_rm 0) D [.ref t] [(t_bytes_c, .int)] [(t, .inr (4, [.ref t_bytes, .int t_size])), (t_bytes, .inl (t_bytes_c, t_bytes_N, .inl t_bytes_f))] (S := Unit) (fun (_ : Unit) => True) (fun _ => [(t, .inr (4, [.ref t_bytes, .int r])), (t_bytes, .inl (t_bytes_c, t_bytes_N, .inl t_bytes_f))]) := by
  refine bs_CV.mk (by decide +kernel) (bs_ler rfl) ?_
  intro p e s m below meth c ls A hx hb hr hml hlk hown hB hN hP hK hD hS hA hl
  refine bs_genQ (fun Q hQ => ?_)
  have hl : lv_has ls 1 [(0, .ref t)] := hl
  have hm := (mq_Rw_drop F t_size).symm.trans hm
  refine lv_aload_n hx hb dc_Rw_drop_0 rfl (lv_at hl 0 rfl) ?_
  refine lv_iconst (v := 0) hx hb dc_Rw_drop_1 (by decide +kernel) ?_
  refine va_put (ci := 4) (v := .int 0) (ty := .int) (C := cn_Rw) (T := cf_Rw) (N := 2) hx hb hB ki_Rw ct_Rw cp_Rw cd_Rw hown hK hP hD hS 0 rfl rfl 1 (by decide) (hB _ kw_fl_Rw_7) (fun _ h => h) rfl (by decide +kernel) rfl rfl (bs_ltr rfl) dc_Rw_drop_2 (fun H locs hP hD hS => ?_)
  obtain ⟨hP, hD⟩ := bs_say [(t, .inr (4, [.ref t_bytes, .int 0])), (t_bytes, .inl (t_bytes_c, t_bytes_N, .inl t_bytes_f))] hP hD
  cases hm
  subst hQ
  exact bs_retV hx hb hr hlk () trivial hP hD hS dc_Rw_drop_5
set_option maxHeartbeats 2000000 in
set_option maxRecDepth 100000 in
theorem ct_Rw_moveBack (l : Launch) (D : va_G) (F : Nat) (t : Nat) (t_bytes : Nat) (t_bytes_c : ClassId) (t_bytes_N : Nat) (t_size : Int32) (t_bytes_f : Nat → Int32) (i1 : Int32) (r : Int32 × (Nat → Int32)) (hm : mm_Rw_moveBack F t_bytes_N i1 t_size t_bytes_f = some r) :
    bs_CV l my_Rw_moveBack mb_Rw_moveBack 2 (bs_rm 1) D [.ref t, .int i1] [(t_bytes_c, .int)] [(t, .inr (4, [.ref t_bytes, .int t_size])), (t_bytes, .inl (t_bytes_c, t_bytes_N, .inl t_bytes_f))] (S := Unit) (fun (_ : Unit) => True) (fun _ => [(t, .inr (4, [.ref t_bytes, .int r.1])), (t_bytes, .inl (t_bytes_c, t_bytes_N, .inl r.2))]) := by
  refine bs_CV.mk (by decide +kernel) (bs_ler rfl) ?_
  intro p e s m below meth c ls A hx hb hr hml hlk hown hB hN hP hK hD hS hA hl
  refine bs_genQ (fun Q hQ => ?_)
  have hl : lv_has ls 2 [(0, .ref t), (1, .int i1)] := hl
  have hm := (mq_Rw_moveBack F t_bytes_N i1 t_size t_bytes_f).symm.trans hm
  refine lv_iload_n hx hb dc_Rw_moveBack_0 rfl (lv_at hl 1 rfl) ?_
  refine lv_if_lt (tgt := 45) hx hb dc_Rw_moveBack_1 (by decide) (fun h1 => ?_) (fun h1 => ?_)
  · have hm := bs_pos h1 hm
    cases hm
    subst hQ
    exact bs_retV hx hb hr hlk () trivial hP hD hS dc_Rw_moveBack_45
  · have hm := bs_neg h1 hm
    refine lv_aload_n hx hb dc_Rw_moveBack_4 rfl (lv_at hl 0 rfl) ?_
    refine va_get (ci := 4) (v := .int t_size) (C := cn_Rw) (T := cf_Rw) (N := 2) hx hb hB ki_Rw hown hK hP 0 rfl rfl 1 (by decide) (hB _ kw_fl_Rw_7) (fun _ h => h) rfl dc_Rw_moveBack_5 ?_
    refine lv_iload_n hx hb dc_Rw_moveBack_8 rfl (lv_at hl 1 rfl) ?_
    refine lv_iadd hx hb dc_Rw_moveBack_9 ?_
    refine lv_aload_n hx hb dc_Rw_moveBack_10 rfl (lv_at hl 0 rfl) ?_
    refine va_get (ci := 4) (v := .ref t_bytes) (C := cn_Rw) (T := cf_Rw) (N := 2) hx hb hB ki_Rw hown hK hP 0 rfl rfl 0 (by decide) (hB _ kw_fl_Rw_13) (fun _ h => h) rfl dc_Rw_moveBack_11 ?_
    refine va_alen hx hb hK hP 1 0 rfl rfl (v := Int32.ofNat t_bytes_N) rfl dc_Rw_moveBack_14 ?_
    refine lv_icmp_gt (tgt := 45) hx hb dc_Rw_moveBack_15 (by decide) (fun h15 => ?_) (fun h15 => ?_)
    · have hm := bs_pos h15 hm
      cases hm
      subst hQ
      exact bs_retV hx hb hr hlk () trivial hP hD hS dc_Rw_moveBack_45
    · have hm := bs_neg h15 hm
      refine lv_aload_n hx hb dc_Rw_moveBack_18 rfl (lv_at hl 0 rfl) ?_
      refine va_get (ci := 4) (v := .ref t_bytes) (C := cn_Rw) (T := cf_Rw) (N := 2) hx hb hB ki_Rw hown hK hP 0 rfl rfl 0 (by decide) (hB _ kw_fl_Rw_13) (fun _ h => h) rfl dc_Rw_moveBack_19 ?_
      refine lv_iconst (v := 0) hx hb dc_Rw_moveBack_22 (by decide +kernel) ?_
      refine lv_aload_n hx hb dc_Rw_moveBack_23 rfl (lv_at hl 0 rfl) ?_
      refine va_get (ci := 4) (v := .ref t_bytes) (C := cn_Rw) (T := cf_Rw) (N := 2) hx hb hB ki_Rw hown hK hP 0 rfl rfl 0 (by decide) (hB _ kw_fl_Rw_13) (fun _ h => h) rfl dc_Rw_moveBack_24 ?_
      refine lv_iload_n hx hb dc_Rw_moveBack_27 rfl (lv_at hl 1 rfl) ?_
      refine lv_aload_n hx hb dc_Rw_moveBack_28 rfl (lv_at hl 0 rfl) ?_
      refine va_get (ci := 4) (v := .int t_size) (C := cn_Rw) (T := cf_Rw) (N := 2) hx hb hB ki_Rw hown hK hP 0 rfl rfl 1 (by decide) (hB _ kw_fl_Rw_7) (fun _ h => h) rfl dc_Rw_moveBack_29 ?_
      obtain ⟨hz32, hm⟩ := bs_nn hm
      refine va_copyi hx hb (hml.trans hl.1.symm) hown (hB _ kw_ml_Rw_28) (hB _ kw_nv_copy) (hB _ kw_st_copy) (hB _ kw_in_System) hK hP hD hS 1 1 0 0 rfl rfl rfl rfl rfl (bs_cp hz32).1 (bs_cp hz32).2.1 (bs_cp hz32).2.2.1 (bs_cp hz32).2.2.2.1 (bs_cp hz32).2.2.2.2 (fun _ _ => rfl) (by decide) (bs_ler rfl) dc_Rw_moveBack_32 (fun H locs hP hD hS => ?_)
      obtain ⟨hP, hD⟩ := bs_say [(t, .inr (4, [.ref t_bytes, .int t_size])), (t_bytes, .inl (t_bytes_c, t_bytes_N, .inl (va_cpy t_bytes_f t_bytes_f ((0 : Int32).toNatClampNeg) i1.toNatClampNeg t_size.toNatClampNeg)))] hP hD
      refine lv_aload_n hx hb dc_Rw_moveBack_35 rfl (lv_at hl 0 rfl) ?_
      refine lv_dup hx hb dc_Rw_moveBack_36 rfl ?_
      refine va_get (ci := 4) (v := .int t_size) (C := cn_Rw) (T := cf_Rw) (N := 2) hx hb hB ki_Rw hown hK hP 0 rfl rfl 1 (by decide) (hB _ kw_fl_Rw_7) (fun _ h => h) rfl dc_Rw_moveBack_37 ?_
      refine lv_iload_n hx hb dc_Rw_moveBack_40 rfl (lv_at hl 1 rfl) ?_
      refine lv_iadd hx hb dc_Rw_moveBack_41 ?_
      refine va_put (ci := 4) (v := .int (t_size + i1)) (ty := .int) (C := cn_Rw) (T := cf_Rw) (N := 2) hx hb hB ki_Rw ct_Rw cp_Rw cd_Rw hown hK hP hD hS 0 rfl rfl 1 (by decide) (hB _ kw_fl_Rw_7) (fun _ h => h) rfl (by decide +kernel) rfl rfl (bs_ltr rfl) dc_Rw_moveBack_42 (fun H locs hP hD hS => ?_)
      obtain ⟨hP, hD⟩ := bs_say [(t, .inr (4, [.ref t_bytes, .int (t_size + i1)])), (t_bytes, .inl (t_bytes_c, t_bytes_N, .inl (va_cpy t_bytes_f t_bytes_f ((0 : Int32).toNatClampNeg) i1.toNatClampNeg t_size.toNatClampNeg)))] hP hD
      cases hm
      subst hQ
      exact bs_retV hx hb hr hlk () trivial hP hD hS dc_Rw_moveBack_45
set_option maxHeartbeats 2000000 in
set_option maxRecDepth 100000 in
theorem ct_Rw_change (l : Launch) (D : va_G) (F : Nat) (t : Nat) (t_bytes : Nat) (t_bytes_c : ClassId) (t_bytes_N : Nat) (t_size : Int32) (t_bytes_f : Nat → Int32) (i1 : Int32) (i2 : Int32) (r : Nat → Int32) (hm : mm_Rw_change F t_bytes_N i1 i2 t_size t_bytes_f = some r) :
    bs_CV l my_Rw_change mb_Rw_change 3 (bs_rm 0) D [.ref t, .int i1, .int i2] [(t_bytes_c, .int)] [(t, .inr (4, [.ref t_bytes, .int t_size])), (t_bytes, .inl (t_bytes_c, t_bytes_N, .inl t_bytes_f))] (S := Unit) (fun (_ : Unit) => True) (fun _ => [(t, .inr (4, [.ref t_bytes, .int t_size])), (t_bytes, .inl (t_bytes_c, t_bytes_N, .inl r))]) := by
  refine bs_CV.mk (by decide +kernel) (bs_ler rfl) ?_
  intro p e s m below meth c ls A hx hb hr hml hlk hown hB hN hP hK hD hS hA hl
  refine bs_genQ (fun Q hQ => ?_)
  have hl : lv_has ls 3 [(0, .ref t), (1, .int i1), (2, .int i2)] := hl
  have hm := (mq_Rw_change F t_bytes_N i1 i2 t_size t_bytes_f).symm.trans hm
  refine lv_iload_n hx hb dc_Rw_change_0 rfl (lv_at hl 1 rfl) ?_
  refine lv_if_lt (tgt := 19) hx hb dc_Rw_change_1 (by decide) (fun h1 => ?_) (fun h1 => ?_)
  · have hm := bs_pos h1 hm
    cases hm
    subst hQ
    exact bs_retV hx hb hr hlk () trivial hP hD hS dc_Rw_change_19
  · have hm := bs_neg h1 hm
    refine lv_iload_n hx hb dc_Rw_change_4 rfl (lv_at hl 1 rfl) ?_
    refine lv_aload_n hx hb dc_Rw_change_5 rfl (lv_at hl 0 rfl) ?_
    refine va_get (ci := 4) (v := .int t_size) (C := cn_Rw) (T := cf_Rw) (N := 2) hx hb hB ki_Rw hown hK hP 0 rfl rfl 1 (by decide) (hB _ kw_fl_Rw_7) (fun _ h => h) rfl dc_Rw_change_6 ?_
    refine lv_icmp_ge (tgt := 19) hx hb dc_Rw_change_9 (by decide) (fun h9 => ?_) (fun h9 => ?_)
    · have hm := bs_pos h9 hm
      cases hm
      subst hQ
      exact bs_retV hx hb hr hlk () trivial hP hD hS dc_Rw_change_19
    · have hm := bs_neg h9 hm
      refine lv_aload_n hx hb dc_Rw_change_12 rfl (lv_at hl 0 rfl) ?_
      refine va_get (ci := 4) (v := .ref t_bytes) (C := cn_Rw) (T := cf_Rw) (N := 2) hx hb hB ki_Rw hown hK hP 0 rfl rfl 0 (by decide) (hB _ kw_fl_Rw_13) (fun _ h => h) rfl dc_Rw_change_13 ?_
      refine lv_iload_n hx hb dc_Rw_change_16 rfl (lv_at hl 1 rfl) ?_
      refine lv_iload_n hx hb dc_Rw_change_17 rfl (lv_at hl 2 rfl) ?_
      obtain ⟨hz18, hm⟩ := bs_nn hm
      refine va_iast hx hb hK hP hD hS 1 0 rfl rfl hz18 dc_Rw_change_18 (fun H locs hP hD hS => ?_)
      obtain ⟨hP, hD⟩ := bs_say [(t, .inr (4, [.ref t_bytes, .int t_size])), (t_bytes, .inl (t_bytes_c, t_bytes_N, .inl (upd t_bytes_f i1.toNatClampNeg i2)))] hP hD
      cases hm
      subst hQ
      exact bs_retV hx hb hr hlk () trivial hP hD hS dc_Rw_change_19
set_option maxHeartbeats 2000000 in
set_option maxRecDepth 100000 in
theorem ct_Rw_add (l : Launch) (D : va_G) (F : Nat) (t : Nat) (t_bytes : Nat) (t_bytes_c : ClassId) (t_bytes_N : Nat) (t_size : Int32) (t_bytes_f : Nat → Int32) (i1 : Int32) (r : Int32 × (Nat → Int32)) (hm : mm_Rw_add F t_bytes_N i1 t_size t_bytes_f = some r) :
    bs_CV l my_Rw_add mb_Rw_add 2 (bs_rm 0) D [.ref t, .int i1] [(t_bytes_c, .int)] [(t, .inr (4, [.ref t_bytes, .int t_size])), (t_bytes, .inl (t_bytes_c, t_bytes_N, .inl t_bytes_f))] (S := Unit) (fun (_ : Unit) => True) (fun _ => [(t, .inr (4, [.ref t_bytes, .int r.1])), (t_bytes, .inl (t_bytes_c, t_bytes_N, .inl r.2))]) := by
  refine bs_CV.mk (by decide +kernel) (bs_ler rfl) ?_
  intro p e s m below meth c ls A hx hb hr hml hlk hown hB hN hP hK hD hS hA hl
  refine bs_genQ (fun Q hQ => ?_)
  have hl : lv_has ls 2 [(0, .ref t), (1, .int i1)] := hl
  have hm := (mq_Rw_add F t_bytes_N i1 t_size t_bytes_f).symm.trans hm
  refine lv_aload_n hx hb dc_Rw_add_0 rfl (lv_at hl 0 rfl) ?_
  refine va_get (ci := 4) (v := .int t_size) (C := cn_Rw) (T := cf_Rw) (N := 2) hx hb hB ki_Rw hown hK hP 0 rfl rfl 1 (by decide) (hB _ kw_fl_Rw_7) (fun _ h => h) rfl dc_Rw_add_1 ?_
  refine lv_aload_n hx hb dc_Rw_add_4 rfl (lv_at hl 0 rfl) ?_
  refine va_get (ci := 4) (v := .ref t_bytes) (C := cn_Rw) (T := cf_Rw) (N := 2) hx hb hB ki_Rw hown hK hP 0 rfl rfl 0 (by decide) (hB _ kw_fl_Rw_13) (fun _ h => h) rfl dc_Rw_add_5 ?_
  refine va_alen hx hb hK hP 1 0 rfl rfl (v := Int32.ofNat t_bytes_N) rfl dc_Rw_add_8 ?_
  refine lv_icmp_ge (tgt := 32) hx hb dc_Rw_add_9 (by decide) (fun h9 => ?_) (fun h9 => ?_)
  · have hm := bs_pos h9 hm
    cases hm
    subst hQ
    exact bs_retV hx hb hr hlk () trivial hP hD hS dc_Rw_add_32
  · have hm := bs_neg h9 hm
    refine lv_aload_n hx hb dc_Rw_add_12 rfl (lv_at hl 0 rfl) ?_
    refine va_get (ci := 4) (v := .ref t_bytes) (C := cn_Rw) (T := cf_Rw) (N := 2) hx hb hB ki_Rw hown hK hP 0 rfl rfl 0 (by decide) (hB _ kw_fl_Rw_13) (fun _ h => h) rfl dc_Rw_add_13 ?_
    refine lv_aload_n hx hb dc_Rw_add_16 rfl (lv_at hl 0 rfl) ?_
    refine va_get (ci := 4) (v := .int t_size) (C := cn_Rw) (T := cf_Rw) (N := 2) hx hb hB ki_Rw hown hK hP 0 rfl rfl 1 (by decide) (hB _ kw_fl_Rw_7) (fun _ h => h) rfl dc_Rw_add_17 ?_
    refine lv_iload_n hx hb dc_Rw_add_20 rfl (lv_at hl 1 rfl) ?_
    obtain ⟨hz21, hm⟩ := bs_nn hm
    refine va_iast hx hb hK hP hD hS 1 0 rfl rfl hz21 dc_Rw_add_21 (fun H locs hP hD hS => ?_)
    obtain ⟨hP, hD⟩ := bs_say [(t, .inr (4, [.ref t_bytes, .int t_size])), (t_bytes, .inl (t_bytes_c, t_bytes_N, .inl (upd t_bytes_f t_size.toNatClampNeg i1)))] hP hD
    refine lv_aload_n hx hb dc_Rw_add_22 rfl (lv_at hl 0 rfl) ?_
    refine lv_dup hx hb dc_Rw_add_23 rfl ?_
    refine va_get (ci := 4) (v := .int t_size) (C := cn_Rw) (T := cf_Rw) (N := 2) hx hb hB ki_Rw hown hK hP 0 rfl rfl 1 (by decide) (hB _ kw_fl_Rw_7) (fun _ h => h) rfl dc_Rw_add_24 ?_
    refine lv_iconst (v := 1) hx hb dc_Rw_add_27 (by decide +kernel) ?_
    refine lv_iadd hx hb dc_Rw_add_28 ?_
    refine va_put (ci := 4) (v := .int (t_size + 1)) (ty := .int) (C := cn_Rw) (T := cf_Rw) (N := 2) hx hb hB ki_Rw ct_Rw cp_Rw cd_Rw hown hK hP hD hS 0 rfl rfl 1 (by decide) (hB _ kw_fl_Rw_7) (fun _ h => h) rfl (by decide +kernel) rfl rfl (bs_ltr rfl) dc_Rw_add_29 (fun H locs hP hD hS => ?_)
    obtain ⟨hP, hD⟩ := bs_say [(t, .inr (4, [.ref t_bytes, .int (t_size + 1)])), (t_bytes, .inl (t_bytes_c, t_bytes_N, .inl (upd t_bytes_f t_size.toNatClampNeg i1)))] hP hD
    cases hm
    subst hQ
    exact bs_retV hx hb hr hlk () trivial hP hD hS dc_Rw_add_32
set_option maxHeartbeats 2000000 in
set_option maxRecDepth 100000 in
theorem ct_Rw_addPart (l : Launch) (D : va_G) (F : Nat) (t : Nat) (t_bytes : Nat) (p1 : Nat) (p1_bytes : Nat) (t_bytes_c : ClassId) (p1_bytes_c : ClassId) (t_bytes_N : Nat) (p1_bytes_N : Nat) (t_size : Int32) (t_bytes_f : Nat → Int32) (p1_size : Int32) (p1_bytes_f : Nat → Int32) (i2 : Int32) (i3 : Int32) (r : Int32 × (Nat → Int32)) (hm : mm_Rw_addPart F t_bytes_N p1_bytes_N i2 i3 t_size t_bytes_f p1_size p1_bytes_f = some r) :
    bs_CV l my_Rw_addPart mb_Rw_addPart 5 (bs_rm 1) D [.ref t, .ref p1, .int i2, .int i3] [(t_bytes_c, .int), (p1_bytes_c, .int)] [(t, .inr (4, [.ref t_bytes, .int t_size])), (t_bytes, .inl (t_bytes_c, t_bytes_N, .inl t_bytes_f)), (p1, .inr (4, [.ref p1_bytes, .int p1_size])), (p1_bytes, .inl (p1_bytes_c, p1_bytes_N, .inl p1_bytes_f))] (S := Unit) (fun (_ : Unit) => True) (fun _ => [(t, .inr (4, [.ref t_bytes, .int r.1])), (t_bytes, .inl (t_bytes_c, t_bytes_N, .inl r.2)), (p1, .inr (4, [.ref p1_bytes, .int p1_size])), (p1_bytes, .inl (p1_bytes_c, p1_bytes_N, .inl p1_bytes_f))]) := by
  refine bs_CV.mk (by decide +kernel) (bs_ler rfl) ?_
  intro p e s m below meth c ls A hx hb hr hml hlk hown hB hN hP hK hD hS hA hl
  refine bs_genQ (fun Q hQ => ?_)
  have hL3 : ∀ (k : Nat) (v2 : Int32) (v3 : Int32) (v4 : Int32) (t_size : Int32) (t_bytes_f : Nat → Int32) (ls : Array Slot) (H : Heap) (locs : List Loc), mm_Rw_addPart_L3 F t_bytes_N p1_bytes_N k v2 v3 v4 t_size t_bytes_f p1_size p1_bytes_f = some r → lv_has ls 5 [(0, .ref t), (1, .ref p1), (2, .int v2), (3, .int v3), (4, .int v4)] → va_P D bs_cl [(t, .inr (4, [.ref t_bytes, .int t_size])), (t_bytes, .inl (t_bytes_c, t_bytes_N, .inl t_bytes_f)), (p1, .inr (4, [.ref p1_bytes, .int p1_size])), (p1_bytes, .inl (p1_bytes_c, p1_bytes_N, .inl p1_bytes_f))] H → va_D A [(t, .inr (4, [.ref t_bytes, .int t_size])), (t_bytes, .inl (t_bytes_c, t_bytes_N, .inl t_bytes_f)), (p1, .inr (4, [.ref p1_bytes, .int p1_size])), (p1_bytes, .inl (p1_bytes_c, p1_bytes_N, .inl p1_bytes_f))] → va_S A s.heap H locs → W p l e (bs_rm 1) s m [.ref t, .ref p1, .int i2, .int i3].toArray below meth c H locs 0 0 Q (F0 m 3 ls []) := by
    intro k
    induction k with
    | zero => intro v2 v3 v4 t_size t_bytes_f ls H locs hm hl hP hD hS; exact (bs_no hm).elim
    | succ k ih =>
      intro v2 v3 v4 t_size t_bytes_f ls H locs hm hl hP hD hS
      have hm := (mq_Rw_addPart_L3 F t_bytes_N p1_bytes_N k v2 v3 v4 t_size t_bytes_f p1_size p1_bytes_f).symm.trans hm
      refine lv_iload hx hb dc_Rw_addPart_3 (lv_at hl 4 rfl) ?_
      refine lv_iload_n hx hb dc_Rw_addPart_5 rfl (lv_at hl 3 rfl) ?_
      refine lv_icmp_ge (tgt := 27) hx hb dc_Rw_addPart_6 (by decide) (fun h6 => ?_) (fun h6 => ?_)
      · have hm := bs_pos h6 hm
        clear ih
        cases hm
        subst hQ
        exact bs_retV hx hb hr hlk () trivial hP hD hS dc_Rw_addPart_27
      · have hm := bs_neg h6 hm
        refine lv_aload_n hx hb dc_Rw_addPart_9 rfl (lv_at hl 0 rfl) ?_
        refine lv_aload_n hx hb dc_Rw_addPart_10 rfl (lv_at hl 1 rfl) ?_
        refine lv_iload_n hx hb dc_Rw_addPart_11 rfl (lv_at hl 2 rfl) ?_
        refine lv_iload hx hb dc_Rw_addPart_12 (lv_at hl 4 rfl) ?_
        refine lv_iadd hx hb dc_Rw_addPart_14 ?_
        obtain ⟨x15, hx15, hm⟩ := bs_bind hm
        refine bs_callVi 1 [(t, .inr (4, [.ref t_bytes, .int t_size])), (t_bytes, .inl (t_bytes_c, t_bytes_N, .inl t_bytes_f))] (fun _ => [(t, .inr (4, [.ref t_bytes, .int t_size])), (t_bytes, .inl (t_bytes_c, t_bytes_N, .inl t_bytes_f)), (p1, .inr (4, [.ref p1_bytes, .int p1_size])), (p1_bytes, .inl (p1_bytes_c, p1_bytes_N, .inl p1_bytes_f))]) [.ref t] hx hb hml hown hB hN hK hP hD hS hA (ct_Rw_at l D F p1 p1_bytes p1_bytes_c p1_bytes_N p1_size p1_bytes_f (v2 + v4) x15 hx15) kw_cd_Rw_at kw_ml_Rw_24 kw_im_Rw_at kw_se_Rw_at kw_in_Rw kd_Rw_at (by decide) ⟨_, _, _, rfl, rfl, rfl⟩ [2, 3] [0, 1] rfl rfl (by decide) [1] rfl [0, 1, 2, 3] (by decide) (fun _ => rfl) rfl hl.1 (bs_ler rfl) (by decide) dc_Rw_addPart_15 rfl (fun v15q _ H locs hq15 hP hD hS => ?_)
        have hq15 := hq15.symm
        subst hq15
        obtain ⟨x18, hx18, hm⟩ := bs_bind hm
        refine bs_callVv 1 [(p1, .inr (4, [.ref p1_bytes, .int p1_size])), (p1_bytes, .inl (p1_bytes_c, p1_bytes_N, .inl p1_bytes_f))] (fun _ => [(t, .inr (4, [.ref t_bytes, .int x18.1])), (t_bytes, .inl (t_bytes_c, t_bytes_N, .inl x18.2)), (p1, .inr (4, [.ref p1_bytes, .int p1_size])), (p1_bytes, .inl (p1_bytes_c, p1_bytes_N, .inl p1_bytes_f))]) [] hx hb hml hown hB hN hK hP hD hS hA (ct_Rw_add l D F t t_bytes t_bytes_c t_bytes_N t_size t_bytes_f x15 x18 hx18) kw_cd_Rw_add kw_ml_Rw_17 kw_im_Rw_add kw_se_Rw_add kw_in_Rw kd_Rw_add (by decide) ⟨_, _, _, rfl, rfl, rfl⟩ [0, 1] [2, 3] rfl rfl (by decide) [0] rfl [2, 3, 0, 1] (by decide) (fun _ => rfl) rfl hl.1 (bs_ler rfl) (by decide) dc_Rw_addPart_18 rfl (fun _ H locs hq18 hP hD hS => ?_)
        refine lv_iinc (k := 4) (v := v4 + 1) hx hb dc_Rw_addPart_21 hl rfl (bs_inc1 _) (by decide) rfl (fun ls hl => ?_)
        have hl : lv_has ls 5 [(4, .int (v4 + 1)), (0, .ref t), (1, .ref p1), (2, .int v2), (3, .int v3)] := hl
        refine lv_goto (tgt := 3) hx hb dc_Rw_addPart_24 (by decide) ?_
        exact ih v2 v3 (v4 + 1) x18.1 x18.2 ls _ _ hm (lv_sub hl [1, 2, 3, 4, 0] rfl) hP hD hS
  have hl : lv_has ls 5 [(0, .ref t), (1, .ref p1), (2, .int i2), (3, .int i3)] := hl
  have hm := (mq_Rw_addPart F t_bytes_N p1_bytes_N i2 i3 t_size t_bytes_f p1_size p1_bytes_f).symm.trans hm
  refine lv_iconst (v := 0) hx hb dc_Rw_addPart_0 (by decide +kernel) ?_
  refine lv_istore hx hb dc_Rw_addPart_1 hl (by decide) rfl (fun ls hl => ?_)
  have hl : lv_has ls 5 [(4, .int 0), (0, .ref t), (1, .ref p1), (2, .int i2), (3, .int i3)] := hl
  exact hL3 F i2 i3 0 t_size t_bytes_f ls _ _ hm (lv_sub hl [1, 2, 3, 4, 0] rfl) hP hD hS
set_option maxHeartbeats 2000000 in
set_option maxRecDepth 100000 in
theorem ct_Rw_intAt (l : Launch) (D : va_G) (F : Nat) (t : Nat) (t_bytes : Nat) (t_bytes_c : ClassId) (t_bytes_N : Nat) (t_size : Int32) (t_bytes_f : Nat → Int32) (i1 : Int32) (r : Int32) (hm : mm_Rw_intAt F t_bytes_N i1 t_size t_bytes_f = some r) :
    bs_CI l my_Rw_intAt mb_Rw_intAt 2 .int (bs_rm 1) D [.ref t, .int i1] [(t_bytes_c, .int)] [(t, .inr (4, [.ref t_bytes, .int t_size])), (t_bytes, .inl (t_bytes_c, t_bytes_N, .inl t_bytes_f))] (S := Unit) (fun v (_ : Unit) => v = r) (fun _ => [(t, .inr (4, [.ref t_bytes, .int t_size])), (t_bytes, .inl (t_bytes_c, t_bytes_N, .inl t_bytes_f))]) := by
  refine bs_CI.mk (by decide +kernel) (bs_ler rfl) ?_
  intro p e s m below meth c ls A hx hb hr hml hlk hown hB hN hP hK hD hS hA hl
  refine bs_genQ (fun Q hQ => ?_)
  have hl : lv_has ls 2 [(0, .ref t), (1, .int i1)] := hl
  have hm := (mq_Rw_intAt F t_bytes_N i1 t_size t_bytes_f).symm.trans hm
  refine lv_aload_n hx hb dc_Rw_intAt_0 rfl (lv_at hl 0 rfl) ?_
  refine lv_iload_n hx hb dc_Rw_intAt_1 rfl (lv_at hl 1 rfl) ?_
  obtain ⟨x2, hx2, hm⟩ := bs_bind hm
  refine bs_callVi 1 [] (fun _ => [(t, .inr (4, [.ref t_bytes, .int t_size])), (t_bytes, .inl (t_bytes_c, t_bytes_N, .inl t_bytes_f))]) [] hx hb hml hown hB hN hK hP hD hS hA (ct_Rw_at l D F t t_bytes t_bytes_c t_bytes_N t_size t_bytes_f i1 x2 hx2) kw_cd_Rw_at kw_ml_Rw_24 kw_im_Rw_at kw_se_Rw_at kw_in_Rw kd_Rw_at (by decide) ⟨_, _, _, rfl, rfl, rfl⟩ [0, 1] [] rfl rfl (by decide) [0] rfl [0, 1] (by decide) (fun _ => rfl) rfl hl.1 (bs_ler rfl) (by decide) dc_Rw_intAt_2 rfl (fun v2q _ H locs hq2 hP hD hS => ?_)
  have hq2 := hq2.symm
  subst hq2
  refine lv_bipush (v := 24) hx hb dc_Rw_intAt_5 (by decide +kernel) ?_
  refine lv_ishl hx hb dc_Rw_intAt_7 ?_
  refine lv_aload_n hx hb dc_Rw_intAt_8 rfl (lv_at hl 0 rfl) ?_
  refine lv_iload_n hx hb dc_Rw_intAt_9 rfl (lv_at hl 1 rfl) ?_
  refine lv_iconst (v := 1) hx hb dc_Rw_intAt_10 (by decide +kernel) ?_
  refine lv_iadd hx hb dc_Rw_intAt_11 ?_
  obtain ⟨x12, hx12, hm⟩ := bs_bind hm
  refine bs_callVi 1 [] (fun _ => [(t, .inr (4, [.ref t_bytes, .int t_size])), (t_bytes, .inl (t_bytes_c, t_bytes_N, .inl t_bytes_f))]) [.int (x2 <<< (24 &&& 31))] hx hb hml hown hB hN hK hP hD hS hA (ct_Rw_at l D F t t_bytes t_bytes_c t_bytes_N t_size t_bytes_f (i1 + 1) x12 hx12) kw_cd_Rw_at kw_ml_Rw_24 kw_im_Rw_at kw_se_Rw_at kw_in_Rw kd_Rw_at (by decide) ⟨_, _, _, rfl, rfl, rfl⟩ [0, 1] [] rfl rfl (by decide) [0] rfl [0, 1] (by decide) (fun _ => rfl) rfl hl.1 (bs_ler rfl) (by decide) dc_Rw_intAt_12 rfl (fun v12q _ H locs hq12 hP hD hS => ?_)
  have hq12 := hq12.symm
  subst hq12
  refine lv_bipush (v := 16) hx hb dc_Rw_intAt_15 (by decide +kernel) ?_
  refine lv_ishl hx hb dc_Rw_intAt_17 ?_
  refine lv_ior hx hb dc_Rw_intAt_18 ?_
  refine lv_aload_n hx hb dc_Rw_intAt_19 rfl (lv_at hl 0 rfl) ?_
  refine lv_iload_n hx hb dc_Rw_intAt_20 rfl (lv_at hl 1 rfl) ?_
  refine lv_iconst (v := 2) hx hb dc_Rw_intAt_21 (by decide +kernel) ?_
  refine lv_iadd hx hb dc_Rw_intAt_22 ?_
  obtain ⟨x23, hx23, hm⟩ := bs_bind hm
  refine bs_callVi 1 [] (fun _ => [(t, .inr (4, [.ref t_bytes, .int t_size])), (t_bytes, .inl (t_bytes_c, t_bytes_N, .inl t_bytes_f))]) [.int ((x2 <<< (24 &&& 31)) ||| (x12 <<< (16 &&& 31)))] hx hb hml hown hB hN hK hP hD hS hA (ct_Rw_at l D F t t_bytes t_bytes_c t_bytes_N t_size t_bytes_f (i1 + 2) x23 hx23) kw_cd_Rw_at kw_ml_Rw_24 kw_im_Rw_at kw_se_Rw_at kw_in_Rw kd_Rw_at (by decide) ⟨_, _, _, rfl, rfl, rfl⟩ [0, 1] [] rfl rfl (by decide) [0] rfl [0, 1] (by decide) (fun _ => rfl) rfl hl.1 (bs_ler rfl) (by decide) dc_Rw_intAt_23 rfl (fun v23q _ H locs hq23 hP hD hS => ?_)
  have hq23 := hq23.symm
  subst hq23
  refine lv_bipush (v := 8) hx hb dc_Rw_intAt_26 (by decide +kernel) ?_
  refine lv_ishl hx hb dc_Rw_intAt_28 ?_
  refine lv_ior hx hb dc_Rw_intAt_29 ?_
  refine lv_aload_n hx hb dc_Rw_intAt_30 rfl (lv_at hl 0 rfl) ?_
  refine lv_iload_n hx hb dc_Rw_intAt_31 rfl (lv_at hl 1 rfl) ?_
  refine lv_iconst (v := 3) hx hb dc_Rw_intAt_32 (by decide +kernel) ?_
  refine lv_iadd hx hb dc_Rw_intAt_33 ?_
  obtain ⟨x34, hx34, hm⟩ := bs_bind hm
  refine bs_callVi 1 [] (fun _ => [(t, .inr (4, [.ref t_bytes, .int t_size])), (t_bytes, .inl (t_bytes_c, t_bytes_N, .inl t_bytes_f))]) [.int (((x2 <<< (24 &&& 31)) ||| (x12 <<< (16 &&& 31))) ||| (x23 <<< (8 &&& 31)))] hx hb hml hown hB hN hK hP hD hS hA (ct_Rw_at l D F t t_bytes t_bytes_c t_bytes_N t_size t_bytes_f (i1 + 3) x34 hx34) kw_cd_Rw_at kw_ml_Rw_24 kw_im_Rw_at kw_se_Rw_at kw_in_Rw kd_Rw_at (by decide) ⟨_, _, _, rfl, rfl, rfl⟩ [0, 1] [] rfl rfl (by decide) [0] rfl [0, 1] (by decide) (fun _ => rfl) rfl hl.1 (bs_ler rfl) (by decide) dc_Rw_intAt_34 rfl (fun v34q _ H locs hq34 hP hD hS => ?_)
  have hq34 := hq34.symm
  subst hq34
  refine lv_ior hx hb dc_Rw_intAt_37 ?_
  cases hm
  subst hQ
  exact bs_retI hx hb hr hlk () rfl hP hD hS dc_Rw_intAt_38
set_option maxHeartbeats 2000000 in
set_option maxRecDepth 100000 in
theorem ct_Rw_addInt (l : Launch) (D : va_G) (F : Nat) (t : Nat) (t_bytes : Nat) (t_bytes_c : ClassId) (t_bytes_N : Nat) (t_size : Int32) (t_bytes_f : Nat → Int32) (i1 : Int32) (r : Int32 × (Nat → Int32)) (hm : mm_Rw_addInt F t_bytes_N i1 t_size t_bytes_f = some r) :
    bs_CV l my_Rw_addInt mb_Rw_addInt 2 (bs_rm 0) D [.ref t, .int i1] [(t_bytes_c, .int)] [(t, .inr (4, [.ref t_bytes, .int t_size])), (t_bytes, .inl (t_bytes_c, t_bytes_N, .inl t_bytes_f))] (S := Unit) (fun (_ : Unit) => True) (fun _ => [(t, .inr (4, [.ref t_bytes, .int r.1])), (t_bytes, .inl (t_bytes_c, t_bytes_N, .inl r.2))]) := by
  refine bs_CV.mk (by decide +kernel) (bs_ler rfl) ?_
  intro p e s m below meth c ls A hx hb hr hml hlk hown hB hN hP hK hD hS hA hl
  refine bs_genQ (fun Q hQ => ?_)
  have hl : lv_has ls 2 [(0, .ref t), (1, .int i1)] := hl
  have hm := (mq_Rw_addInt F t_bytes_N i1 t_size t_bytes_f).symm.trans hm
  refine lv_aload_n hx hb dc_Rw_addInt_0 rfl (lv_at hl 0 rfl) ?_
  refine va_get (ci := 4) (v := .int t_size) (C := cn_Rw) (T := cf_Rw) (N := 2) hx hb hB ki_Rw hown hK hP 0 rfl rfl 1 (by decide) (hB _ kw_fl_Rw_7) (fun _ h => h) rfl dc_Rw_addInt_1 ?_
  refine lv_iconst (v := 4) hx hb dc_Rw_addInt_4 (by decide +kernel) ?_
  refine lv_iadd hx hb dc_Rw_addInt_5 ?_
  refine lv_aload_n hx hb dc_Rw_addInt_6 rfl (lv_at hl 0 rfl) ?_
  refine va_get (ci := 4) (v := .ref t_bytes) (C := cn_Rw) (T := cf_Rw) (N := 2) hx hb hB ki_Rw hown hK hP 0 rfl rfl 0 (by decide) (hB _ kw_fl_Rw_13) (fun _ h => h) rfl dc_Rw_addInt_7 ?_
  refine va_alen hx hb hK hP 1 0 rfl rfl (v := Int32.ofNat t_bytes_N) rfl dc_Rw_addInt_10 ?_
  refine lv_icmp_gt (tgt := 91) hx hb dc_Rw_addInt_11 (by decide) (fun h11 => ?_) (fun h11 => ?_)
  · have hm := bs_pos h11 hm
    cases hm
    subst hQ
    exact bs_retV hx hb hr hlk () trivial hP hD hS dc_Rw_addInt_91
  · have hm := bs_neg h11 hm
    refine lv_aload_n hx hb dc_Rw_addInt_14 rfl (lv_at hl 0 rfl) ?_
    refine va_get (ci := 4) (v := .ref t_bytes) (C := cn_Rw) (T := cf_Rw) (N := 2) hx hb hB ki_Rw hown hK hP 0 rfl rfl 0 (by decide) (hB _ kw_fl_Rw_13) (fun _ h => h) rfl dc_Rw_addInt_15 ?_
    refine lv_aload_n hx hb dc_Rw_addInt_18 rfl (lv_at hl 0 rfl) ?_
    refine va_get (ci := 4) (v := .int t_size) (C := cn_Rw) (T := cf_Rw) (N := 2) hx hb hB ki_Rw hown hK hP 0 rfl rfl 1 (by decide) (hB _ kw_fl_Rw_7) (fun _ h => h) rfl dc_Rw_addInt_19 ?_
    refine lv_iload_n hx hb dc_Rw_addInt_22 rfl (lv_at hl 1 rfl) ?_
    refine lv_bipush (v := 24) hx hb dc_Rw_addInt_23 (by decide +kernel) ?_
    refine lv_iushr (v := bs_ushr i1 24) hx hb dc_Rw_addInt_25 rfl ?_
    obtain ⟨hz26, hm⟩ := bs_nn hm
    refine va_iast hx hb hK hP hD hS 1 0 rfl rfl hz26 dc_Rw_addInt_26 (fun H locs hP hD hS => ?_)
    obtain ⟨hP, hD⟩ := bs_say [(t, .inr (4, [.ref t_bytes, .int t_size])), (t_bytes, .inl (t_bytes_c, t_bytes_N, .inl (upd t_bytes_f t_size.toNatClampNeg (bs_ushr i1 24))))] hP hD
    refine lv_aload_n hx hb dc_Rw_addInt_27 rfl (lv_at hl 0 rfl) ?_
    refine va_get (ci := 4) (v := .ref t_bytes) (C := cn_Rw) (T := cf_Rw) (N := 2) hx hb hB ki_Rw hown hK hP 0 rfl rfl 0 (by decide) (hB _ kw_fl_Rw_13) (fun _ h => h) rfl dc_Rw_addInt_28 ?_
    refine lv_aload_n hx hb dc_Rw_addInt_31 rfl (lv_at hl 0 rfl) ?_
    refine va_get (ci := 4) (v := .int t_size) (C := cn_Rw) (T := cf_Rw) (N := 2) hx hb hB ki_Rw hown hK hP 0 rfl rfl 1 (by decide) (hB _ kw_fl_Rw_7) (fun _ h => h) rfl dc_Rw_addInt_32 ?_
    refine lv_iconst (v := 1) hx hb dc_Rw_addInt_35 (by decide +kernel) ?_
    refine lv_iadd hx hb dc_Rw_addInt_36 ?_
    refine lv_iload_n hx hb dc_Rw_addInt_37 rfl (lv_at hl 1 rfl) ?_
    refine lv_bipush (v := 16) hx hb dc_Rw_addInt_38 (by decide +kernel) ?_
    refine lv_iushr (v := bs_ushr i1 16) hx hb dc_Rw_addInt_40 rfl ?_
    refine lv_sipush (v := 255) hx hb dc_Rw_addInt_41 (by decide +kernel) ?_
    refine lv_iand hx hb dc_Rw_addInt_44 ?_
    obtain ⟨hz45, hm⟩ := bs_nn hm
    refine va_iast hx hb hK hP hD hS 1 0 rfl rfl hz45 dc_Rw_addInt_45 (fun H locs hP hD hS => ?_)
    obtain ⟨hP, hD⟩ := bs_say [(t, .inr (4, [.ref t_bytes, .int t_size])), (t_bytes, .inl (t_bytes_c, t_bytes_N, .inl (upd (upd t_bytes_f t_size.toNatClampNeg (bs_ushr i1 24)) ((t_size + 1).toNatClampNeg) ((bs_ushr i1 16) &&& 255))))] hP hD
    refine lv_aload_n hx hb dc_Rw_addInt_46 rfl (lv_at hl 0 rfl) ?_
    refine va_get (ci := 4) (v := .ref t_bytes) (C := cn_Rw) (T := cf_Rw) (N := 2) hx hb hB ki_Rw hown hK hP 0 rfl rfl 0 (by decide) (hB _ kw_fl_Rw_13) (fun _ h => h) rfl dc_Rw_addInt_47 ?_
    refine lv_aload_n hx hb dc_Rw_addInt_50 rfl (lv_at hl 0 rfl) ?_
    refine va_get (ci := 4) (v := .int t_size) (C := cn_Rw) (T := cf_Rw) (N := 2) hx hb hB ki_Rw hown hK hP 0 rfl rfl 1 (by decide) (hB _ kw_fl_Rw_7) (fun _ h => h) rfl dc_Rw_addInt_51 ?_
    refine lv_iconst (v := 2) hx hb dc_Rw_addInt_54 (by decide +kernel) ?_
    refine lv_iadd hx hb dc_Rw_addInt_55 ?_
    refine lv_iload_n hx hb dc_Rw_addInt_56 rfl (lv_at hl 1 rfl) ?_
    refine lv_bipush (v := 8) hx hb dc_Rw_addInt_57 (by decide +kernel) ?_
    refine lv_iushr (v := bs_ushr i1 8) hx hb dc_Rw_addInt_59 rfl ?_
    refine lv_sipush (v := 255) hx hb dc_Rw_addInt_60 (by decide +kernel) ?_
    refine lv_iand hx hb dc_Rw_addInt_63 ?_
    obtain ⟨hz64, hm⟩ := bs_nn hm
    refine va_iast hx hb hK hP hD hS 1 0 rfl rfl hz64 dc_Rw_addInt_64 (fun H locs hP hD hS => ?_)
    obtain ⟨hP, hD⟩ := bs_say [(t, .inr (4, [.ref t_bytes, .int t_size])), (t_bytes, .inl (t_bytes_c, t_bytes_N, .inl (upd (upd (upd t_bytes_f t_size.toNatClampNeg (bs_ushr i1 24)) ((t_size + 1).toNatClampNeg) ((bs_ushr i1 16) &&& 255)) ((t_size + 2).toNatClampNeg) ((bs_ushr i1 8) &&& 255))))] hP hD
    refine lv_aload_n hx hb dc_Rw_addInt_65 rfl (lv_at hl 0 rfl) ?_
    refine va_get (ci := 4) (v := .ref t_bytes) (C := cn_Rw) (T := cf_Rw) (N := 2) hx hb hB ki_Rw hown hK hP 0 rfl rfl 0 (by decide) (hB _ kw_fl_Rw_13) (fun _ h => h) rfl dc_Rw_addInt_66 ?_
    refine lv_aload_n hx hb dc_Rw_addInt_69 rfl (lv_at hl 0 rfl) ?_
    refine va_get (ci := 4) (v := .int t_size) (C := cn_Rw) (T := cf_Rw) (N := 2) hx hb hB ki_Rw hown hK hP 0 rfl rfl 1 (by decide) (hB _ kw_fl_Rw_7) (fun _ h => h) rfl dc_Rw_addInt_70 ?_
    refine lv_iconst (v := 3) hx hb dc_Rw_addInt_73 (by decide +kernel) ?_
    refine lv_iadd hx hb dc_Rw_addInt_74 ?_
    refine lv_iload_n hx hb dc_Rw_addInt_75 rfl (lv_at hl 1 rfl) ?_
    refine lv_sipush (v := 255) hx hb dc_Rw_addInt_76 (by decide +kernel) ?_
    refine lv_iand hx hb dc_Rw_addInt_79 ?_
    obtain ⟨hz80, hm⟩ := bs_nn hm
    refine va_iast hx hb hK hP hD hS 1 0 rfl rfl hz80 dc_Rw_addInt_80 (fun H locs hP hD hS => ?_)
    obtain ⟨hP, hD⟩ := bs_say [(t, .inr (4, [.ref t_bytes, .int t_size])), (t_bytes, .inl (t_bytes_c, t_bytes_N, .inl (upd (upd (upd (upd t_bytes_f t_size.toNatClampNeg (bs_ushr i1 24)) ((t_size + 1).toNatClampNeg) ((bs_ushr i1 16) &&& 255)) ((t_size + 2).toNatClampNeg) ((bs_ushr i1 8) &&& 255)) ((t_size + 3).toNatClampNeg) (i1 &&& 255))))] hP hD
    refine lv_aload_n hx hb dc_Rw_addInt_81 rfl (lv_at hl 0 rfl) ?_
    refine lv_dup hx hb dc_Rw_addInt_82 rfl ?_
    refine va_get (ci := 4) (v := .int t_size) (C := cn_Rw) (T := cf_Rw) (N := 2) hx hb hB ki_Rw hown hK hP 0 rfl rfl 1 (by decide) (hB _ kw_fl_Rw_7) (fun _ h => h) rfl dc_Rw_addInt_83 ?_
    refine lv_iconst (v := 4) hx hb dc_Rw_addInt_86 (by decide +kernel) ?_
    refine lv_iadd hx hb dc_Rw_addInt_87 ?_
    refine va_put (ci := 4) (v := .int (t_size + 4)) (ty := .int) (C := cn_Rw) (T := cf_Rw) (N := 2) hx hb hB ki_Rw ct_Rw cp_Rw cd_Rw hown hK hP hD hS 0 rfl rfl 1 (by decide) (hB _ kw_fl_Rw_7) (fun _ h => h) rfl (by decide +kernel) rfl rfl (bs_ltr rfl) dc_Rw_addInt_88 (fun H locs hP hD hS => ?_)
    obtain ⟨hP, hD⟩ := bs_say [(t, .inr (4, [.ref t_bytes, .int (t_size + 4)])), (t_bytes, .inl (t_bytes_c, t_bytes_N, .inl (upd (upd (upd (upd t_bytes_f t_size.toNatClampNeg (bs_ushr i1 24)) ((t_size + 1).toNatClampNeg) ((bs_ushr i1 16) &&& 255)) ((t_size + 2).toNatClampNeg) ((bs_ushr i1 8) &&& 255)) ((t_size + 3).toNatClampNeg) (i1 &&& 255))))] hP hD
    cases hm
    subst hQ
    exact bs_retV hx hb hr hlk () trivial hP hD hS dc_Rw_addInt_91
set_option maxHeartbeats 2000000 in
set_option maxRecDepth 100000 in
theorem ct_Rw_addTagged (l : Launch) (D : va_G) (F : Nat) (t : Nat) (t_bytes : Nat) (t_bytes_c : ClassId) (t_bytes_N : Nat) (t_size : Int32) (t_bytes_f : Nat → Int32) (i1 : Int32) (i2 : Int32) (r : Int32 × (Nat → Int32)) (hm : mm_Rw_addTagged F t_bytes_N i1 i2 t_size t_bytes_f = some r) :
    bs_CV l my_Rw_addTagged mb_Rw_addTagged 3 (bs_rm 1) D [.ref t, .int i1, .int i2] [(t_bytes_c, .int)] [(t, .inr (4, [.ref t_bytes, .int t_size])), (t_bytes, .inl (t_bytes_c, t_bytes_N, .inl t_bytes_f))] (S := Unit) (fun (_ : Unit) => True) (fun _ => [(t, .inr (4, [.ref t_bytes, .int r.1])), (t_bytes, .inl (t_bytes_c, t_bytes_N, .inl r.2))]) := by
  refine bs_CV.mk (by decide +kernel) (bs_ler rfl) ?_
  intro p e s m below meth c ls A hx hb hr hml hlk hown hB hN hP hK hD hS hA hl
  refine bs_genQ (fun Q hQ => ?_)
  have hl : lv_has ls 3 [(0, .ref t), (1, .int i1), (2, .int i2)] := hl
  have hm := (mq_Rw_addTagged F t_bytes_N i1 i2 t_size t_bytes_f).symm.trans hm
  refine lv_aload_n hx hb dc_Rw_addTagged_0 rfl (lv_at hl 0 rfl) ?_
  refine lv_iload_n hx hb dc_Rw_addTagged_1 rfl (lv_at hl 1 rfl) ?_
  obtain ⟨x2, hx2, hm⟩ := bs_bind hm
  refine bs_callVv 1 [] (fun _ => [(t, .inr (4, [.ref t_bytes, .int x2.1])), (t_bytes, .inl (t_bytes_c, t_bytes_N, .inl x2.2))]) [] hx hb hml hown hB hN hK hP hD hS hA (ct_Rw_add l D F t t_bytes t_bytes_c t_bytes_N t_size t_bytes_f i1 x2 hx2) kw_cd_Rw_add kw_ml_Rw_17 kw_im_Rw_add kw_se_Rw_add kw_in_Rw kd_Rw_add (by decide) ⟨_, _, _, rfl, rfl, rfl⟩ [0, 1] [] rfl rfl (by decide) [0] rfl [0, 1] (by decide) (fun _ => rfl) rfl hl.1 (bs_ler rfl) (by decide) dc_Rw_addTagged_2 rfl (fun _ H locs hq2 hP hD hS => ?_)
  refine lv_aload_n hx hb dc_Rw_addTagged_5 rfl (lv_at hl 0 rfl) ?_
  refine lv_iload_n hx hb dc_Rw_addTagged_6 rfl (lv_at hl 2 rfl) ?_
  obtain ⟨x7, hx7, hm⟩ := bs_bind hm
  refine bs_callVv 1 [] (fun _ => [(t, .inr (4, [.ref t_bytes, .int x7.1])), (t_bytes, .inl (t_bytes_c, t_bytes_N, .inl x7.2))]) [] hx hb hml hown hB hN hK hP hD hS hA (ct_Rw_addInt l D F t t_bytes t_bytes_c t_bytes_N x2.1 x2.2 i2 x7 hx7) kw_cd_Rw_addInt kw_ml_Rw_21 kw_im_Rw_addInt kw_se_Rw_addInt kw_in_Rw kd_Rw_addInt (by decide) ⟨_, _, _, rfl, rfl, rfl⟩ [0, 1] [] rfl rfl (by decide) [0] rfl [0, 1] (by decide) (fun _ => rfl) rfl hl.1 (bs_ler rfl) (by decide) dc_Rw_addTagged_7 rfl (fun _ H locs hq7 hP hD hS => ?_)
  cases hm
  subst hQ
  exact bs_retV hx hb hr hlk () trivial hP hD hS dc_Rw_addTagged_10
set_option maxHeartbeats 2000000 in
set_option maxRecDepth 100000 in
theorem ct_Mt_isRegister (l : Launch) (D : va_G) (F : Nat) (i0 : Int32) (r : Int32) (hm : mm_Mt_isRegister F i0 = some r) :
    bs_CI l my_Mt_isRegister mb_Mt_isRegister 1 .boolean (bs_rm 0) D [.int i0] [] [] (S := Unit) (fun v (_ : Unit) => v = r) (fun _ => []) := by
  refine bs_CI.mk (by decide +kernel) (bs_ler rfl) ?_
  intro p e s m below meth c ls A hx hb hr hml hlk hown hB hN hP hK hD hS hA hl
  refine bs_genQ (fun Q hQ => ?_)
  have hl : lv_has ls 1 [(0, .int i0)] := hl
  have hm := (mq_Mt_isRegister F i0).symm.trans hm
  refine lv_iload_n hx hb dc_Mt_isRegister_0 rfl (lv_at hl 0 rfl) ?_
  refine lv_iconst (v := 1) hx hb dc_Mt_isRegister_1 (by decide +kernel) ?_
  refine lv_icmp_lt (tgt := 14) hx hb dc_Mt_isRegister_2 (by decide) (fun h2 => ?_) (fun h2 => ?_)
  · have hm := bs_pos h2 hm
    refine lv_iconst (v := 0) hx hb dc_Mt_isRegister_14 (by decide +kernel) ?_
    cases hm
    subst hQ
    exact bs_retZ hx hb hr hlk (by decide +kernel) () rfl hP hD hS dc_Mt_isRegister_15
  · have hm := bs_neg h2 hm
    refine lv_iload_n hx hb dc_Mt_isRegister_5 rfl (lv_at hl 0 rfl) ?_
    refine lv_iconst (v := 3) hx hb dc_Mt_isRegister_6 (by decide +kernel) ?_
    refine lv_icmp_gt (tgt := 14) hx hb dc_Mt_isRegister_7 (by decide) (fun h7 => ?_) (fun h7 => ?_)
    · have hm := bs_pos h7 hm
      refine lv_iconst (v := 0) hx hb dc_Mt_isRegister_14 (by decide +kernel) ?_
      cases hm
      subst hQ
      exact bs_retZ hx hb hr hlk (by decide +kernel) () rfl hP hD hS dc_Mt_isRegister_15
    · have hm := bs_neg h7 hm
      refine lv_iconst (v := 1) hx hb dc_Mt_isRegister_10 (by decide +kernel) ?_
      refine lv_goto (tgt := 15) hx hb dc_Mt_isRegister_11 (by decide) ?_
      cases hm
      subst hQ
      exact bs_retZ hx hb hr hlk (by decide +kernel) () rfl hP hD hS dc_Mt_isRegister_15
set_option maxHeartbeats 2000000 in
set_option maxRecDepth 100000 in
theorem ct_Rw_isByte (l : Launch) (D : va_G) (F : Nat) (i0 : Int32) (r : Int32) (hm : mm_Rw_isByte F i0 = some r) :
    bs_CI l my_Rw_isByte mb_Rw_isByte 1 .boolean (bs_rm 0) D [.int i0] [] [] (S := Unit) (fun v (_ : Unit) => v = r) (fun _ => []) := by
  refine bs_CI.mk (by decide +kernel) (bs_ler rfl) ?_
  intro p e s m below meth c ls A hx hb hr hml hlk hown hB hN hP hK hD hS hA hl
  refine bs_genQ (fun Q hQ => ?_)
  have hl : lv_has ls 1 [(0, .int i0)] := hl
  have hm := (mq_Rw_isByte F i0).symm.trans hm
  refine lv_iload_n hx hb dc_Rw_isByte_0 rfl (lv_at hl 0 rfl) ?_
  refine lv_if_lt (tgt := 15) hx hb dc_Rw_isByte_1 (by decide) (fun h1 => ?_) (fun h1 => ?_)
  · have hm := bs_pos h1 hm
    refine lv_iconst (v := 0) hx hb dc_Rw_isByte_15 (by decide +kernel) ?_
    cases hm
    subst hQ
    exact bs_retZ hx hb hr hlk (by decide +kernel) () rfl hP hD hS dc_Rw_isByte_16
  · have hm := bs_neg h1 hm
    refine lv_iload_n hx hb dc_Rw_isByte_4 rfl (lv_at hl 0 rfl) ?_
    refine lv_sipush (v := 255) hx hb dc_Rw_isByte_5 (by decide +kernel) ?_
    refine lv_icmp_gt (tgt := 15) hx hb dc_Rw_isByte_8 (by decide) (fun h8 => ?_) (fun h8 => ?_)
    · have hm := bs_pos h8 hm
      refine lv_iconst (v := 0) hx hb dc_Rw_isByte_15 (by decide +kernel) ?_
      cases hm
      subst hQ
      exact bs_retZ hx hb hr hlk (by decide +kernel) () rfl hP hD hS dc_Rw_isByte_16
    · have hm := bs_neg h8 hm
      refine lv_iconst (v := 1) hx hb dc_Rw_isByte_11 (by decide +kernel) ?_
      refine lv_goto (tgt := 16) hx hb dc_Rw_isByte_12 (by decide) ?_
      cases hm
      subst hQ
      exact bs_retZ hx hb hr hlk (by decide +kernel) () rfl hP hD hS dc_Rw_isByte_16
