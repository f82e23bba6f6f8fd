set_option maxHeartbeats 2000000 in
set_option maxRecDepth 100000 in
theorem ct_Mt_passSecond (l : Launch) (D : va_G) (F : Nat) (t : Nat) (t_registers : Nat) (t_profile : Nat) (t_profile_columns : Nat) (t_profile_ring : Nat) (t_registers_c : ClassId) (t_profile_columns_c : ClassId) (t_profile_ring_c : ClassId) (t_now : Int32) (t_registers_f : Nat → Int32) (t_profile_columnCount : Int32) (t_profile_capacity : Int32) (t_profile_period : Int32) (t_profile_first : Int32) (t_profile_size : Int32) (t_profile_columns_f : Nat → Int32) (t_profile_ring_f : Nat → Int32) (r : Int32 × Int32 × Int32 × (Nat → Int32)) (hm : mm_Mt_passSecond F t_now t_registers_f t_profile_columnCount t_profile_capacity t_profile_period t_profile_first t_profile_size t_profile_columns_f t_profile_ring_f = some r) :
    bs_CV l my_Mt_passSecond mb_Mt_passSecond 1 (bs_rm 2) D [.ref t] [(t_registers_c, .int), (t_profile_columns_c, .int), (t_profile_ring_c, .int)] [(t, .inr (2, [.ref t_registers, .ref t_profile, .int t_now])), (t_registers, .inl (t_registers_c, 3, .inl t_registers_f)), (t_profile, .inr (3, [.ref t_profile_columns, .ref t_profile_ring, .int t_profile_columnCount, .int t_profile_capacity, .int t_profile_period, .int t_profile_first, .int t_profile_size])), (t_profile_columns, .inl (t_profile_columns_c, 3, .inl t_profile_columns_f)), (t_profile_ring, .inl (t_profile_ring_c, 48, .inl t_profile_ring_f))] (S := Unit) (fun (_ : Unit) => True) (fun _ => [(t, .inr (2, [.ref t_registers, .ref t_profile, .int r.1])), (t_registers, .inl (t_registers_c, 3, .inl t_registers_f)), (t_profile, .inr (3, [.ref t_profile_columns, .ref t_profile_ring, .int t_profile_columnCount, .int t_profile_capacity, .int t_profile_period, .int r.2.1, .int r.2.2.1])), (t_profile_columns, .inl (t_profile_columns_c, 3, .inl t_profile_columns_f)), (t_profile_ring, .inl (t_profile_ring_c, 48, .inl r.2.2.2))]) := by
  refine bs_CV.mk (by decide +kernel) (bs_ler rfl) ?_
  intro p e s m below meth c ls A hx hb hr hml hlk hown hB hN hP hK hD hS hA hl
  refine bs_genQ (fun Q hQ => ?_)
  have hJ20 : ∀ (s0 : Int32) (t_now : Int32) (t_profile_first : Int32) (t_profile_size : Int32) (t_profile_ring_f : Nat → Int32) (ls : Array Slot) (H : Heap) (locs : List Loc), mm_Mt_passSecond_J20 F s0 t_now t_registers_f t_profile_columnCount t_profile_capacity t_profile_period t_profile_first t_profile_size t_profile_columns_f t_profile_ring_f = some r → lv_has ls 1 [(0, .ref t)] → va_P D bs_cl [(t, .inr (2, [.ref t_registers, .ref t_profile, .int t_now])), (t_registers, .inl (t_registers_c, 3, .inl t_registers_f)), (t_profile, .inr (3, [.ref t_profile_columns, .ref t_profile_ring, .int t_profile_columnCount, .int t_profile_capacity, .int t_profile_period, .int t_profile_first, .int t_profile_size])), (t_profile_columns, .inl (t_profile_columns_c, 3, .inl t_profile_columns_f)), (t_profile_ring, .inl (t_profile_ring_c, 48, .inl t_profile_ring_f))] H → va_D A [(t, .inr (2, [.ref t_registers, .ref t_profile, .int t_now])), (t_registers, .inl (t_registers_c, 3, .inl t_registers_f)), (t_profile, .inr (3, [.ref t_profile_columns, .ref t_profile_ring, .int t_profile_columnCount, .int t_profile_capacity, .int t_profile_period, .int t_profile_first, .int t_profile_size])), (t_profile_columns, .inl (t_profile_columns_c, 3, .inl t_profile_columns_f)), (t_profile_ring, .inl (t_profile_ring_c, 48, .inl t_profile_ring_f))] → va_S A s.heap H locs → W p l e (bs_rm 2) s m [.ref t].toArray below meth c H locs 0 0 Q (F0 m 20 ls [.int s0, .ref t]) := by
    intro s0 t_now t_profile_first t_profile_size t_profile_ring_f ls H locs hm hl hP hD hS
    have hm := (mq_Mt_passSecond_J20 F s0 t_now t_registers_f t_profile_columnCount t_profile_capacity t_profile_period t_profile_first t_profile_size t_profile_columns_f t_profile_ring_f).symm.trans hm
    refine va_put (ci := 2) (v := .int s0) (ty := .int) (C := cn_Mt) (T := cf_Mt) (N := 3) hx hb hB ki_Mt ct_Mt cp_Mt cd_Mt hown hK hP hD hS 0 rfl rfl 2 (by decide) (hB _ kw_fl_Mt_13) (fun _ h => h) rfl (by decide +kernel) rfl rfl (bs_ltr rfl) dc_Mt_passSecond_20 (fun H locs hP hD hS => ?_)
    obtain ⟨hP, hD⟩ := bs_say [(t, .inr (2, [.ref t_registers, .ref t_profile, .int s0])), (t_registers, .inl (t_registers_c, 3, .inl t_registers_f)), (t_profile, .inr (3, [.ref t_profile_columns, .ref t_profile_ring, .int t_profile_columnCount, .int t_profile_capacity, .int t_profile_period, .int t_profile_first, .int t_profile_size])), (t_profile_columns, .inl (t_profile_columns_c, 3, .inl t_profile_columns_f)), (t_profile_ring, .inl (t_profile_ring_c, 48, .inl t_profile_ring_f))] hP hD
    refine lv_aload_n hx hb dc_Mt_passSecond_23 rfl (lv_at hl 0 rfl) ?_
    refine va_get (ci := 2) (v := .ref t_profile) (C := cn_Mt) (T := cf_Mt) (N := 3) hx hb hB ki_Mt hown hK hP 0 rfl rfl 1 (by decide) (hB _ kw_fl_Mt_22) (fun _ h => h) rfl dc_Mt_passSecond_24 ?_
    refine va_getN (ci := 3) (v := .int t_profile_period) (C := cn_Pf) (T := cf_Pf) (N := 7) hx hb hB ki_Pf hown hK hP 2 rfl rfl 4 (by decide) (hN.use kn_Mt_27) (fun _ h => h) rfl dc_Mt_passSecond_27 ?_
    refine lv_if_eq (tgt := 63) hx hb dc_Mt_passSecond_30 (by decide) (fun h30 => ?_) (fun h30 => ?_)
    · have hm := bs_pos h30 hm
      cases hm
      subst hQ
      exact bs_retV hx hb hr hlk () trivial hP hD hS dc_Mt_passSecond_63
    · have hm := bs_neg h30 hm
      refine lv_aload_n hx hb dc_Mt_passSecond_33 rfl (lv_at hl 0 rfl) ?_
      refine va_get (ci := 2) (v := .int s0) (C := cn_Mt) (T := cf_Mt) (N := 3) hx hb hB ki_Mt hown hK hP 0 rfl rfl 2 (by decide) (hB _ kw_fl_Mt_13) (fun _ h => h) rfl dc_Mt_passSecond_34 ?_
      refine lv_aload_n hx hb dc_Mt_passSecond_37 rfl (lv_at hl 0 rfl) ?_
      refine va_get (ci := 2) (v := .ref t_profile) (C := cn_Mt) (T := cf_Mt) (N := 3) hx hb hB ki_Mt hown hK hP 0 rfl rfl 1 (by decide) (hB _ kw_fl_Mt_22) (fun _ h => h) rfl dc_Mt_passSecond_38 ?_
      refine va_getN (ci := 3) (v := .int t_profile_period) (C := cn_Pf) (T := cf_Pf) (N := 7) hx hb hB ki_Pf hown hK hP 2 rfl rfl 4 (by decide) (hN.use kn_Mt_27) (fun _ h => h) rfl dc_Mt_passSecond_41 ?_
      obtain ⟨hz44, hm⟩ := bs_nn hm
      refine bs_irem (v := bs_rem s0 t_profile_period) hx hb dc_Mt_passSecond_44 hz44 rfl ?_
      refine lv_if_ne (tgt := 63) hx hb dc_Mt_passSecond_45 (by decide) (fun h45 => ?_) (fun h45 => ?_)
      · have hm := bs_neg h45 hm
        cases hm
        subst hQ
        exact bs_retV hx hb hr hlk () trivial hP hD hS dc_Mt_passSecond_63
      · have hm := bs_pos h45 hm
        refine lv_aload_n hx hb dc_Mt_passSecond_48 rfl (lv_at hl 0 rfl) ?_
        refine va_get (ci := 2) (v := .ref t_profile) (C := cn_Mt) (T := cf_Mt) (N := 3) hx hb hB ki_Mt hown hK hP 0 rfl rfl 1 (by decide) (hB _ kw_fl_Mt_22) (fun _ h => h) rfl dc_Mt_passSecond_49 ?_
        refine lv_aload_n hx hb dc_Mt_passSecond_52 rfl (lv_at hl 0 rfl) ?_
        refine va_get (ci := 2) (v := .int s0) (C := cn_Mt) (T := cf_Mt) (N := 3) hx hb hB ki_Mt hown hK hP 0 rfl rfl 2 (by decide) (hB _ kw_fl_Mt_13) (fun _ h => h) rfl dc_Mt_passSecond_53 ?_
        refine lv_aload_n hx hb dc_Mt_passSecond_56 rfl (lv_at hl 0 rfl) ?_
        refine va_get (ci := 2) (v := .ref t_registers) (C := cn_Mt) (T := cf_Mt) (N := 3) hx hb hB ki_Mt hown hK hP 0 rfl rfl 0 (by decide) (hB _ kw_fl_Mt_9) (fun _ h => h) rfl dc_Mt_passSecond_57 ?_
        obtain ⟨x60, hx60, hm⟩ := bs_bind hm
        refine bs_callVv 2 [(t, .inr (2, [.ref t_registers, .ref t_profile, .int s0]))] (fun _ => [(t, .inr (2, [.ref t_registers, .ref t_profile, .int s0])), (t_registers, .inl (t_registers_c, 3, .inl t_registers_f)), (t_profile, .inr (3, [.ref t_profile_columns, .ref t_profile_ring, .int t_profile_columnCount, .int t_profile_capacity, .int t_profile_period, .int x60.1, .int x60.2.1])), (t_profile_columns, .inl (t_profile_columns_c, 3, .inl t_profile_columns_f)), (t_profile_ring, .inl (t_profile_ring_c, 48, .inl x60.2.2))]) [] hx hb hml hown hB hN hK hP hD hS hA (ct_Pf_capture l D F t_profile t_profile_columns t_profile_ring t_registers t_profile_columns_c t_profile_ring_c t_registers_c 3 t_profile_columnCount t_profile_capacity t_profile_period t_profile_first t_profile_size t_profile_columns_f t_profile_ring_f t_registers_f s0 x60 hx60) kw_cd_Pf_capture kw_ml_Mt_30 kw_im_Pf_capture kw_se_Pf_capture kw_in_Pf kd_Pf_capture (by decide) ⟨_, _, _, rfl, rfl, rfl⟩ [2, 3, 4, 1] [0] rfl rfl (by decide) [1, 2, 0] rfl [0, 4, 1, 2, 3] (by decide) (fun _ => rfl) rfl hl.1 (bs_ler rfl) (by decide) dc_Mt_passSecond_60 rfl (fun _ H locs hq60 hP hD hS => ?_)
        cases hm
        subst hQ
        exact bs_retV hx hb hr hlk () trivial hP hD hS dc_Mt_passSecond_63
  have hl : lv_has ls 1 [(0, .ref t)] := hl
  have hm := (mq_Mt_passSecond F t_now t_registers_f t_profile_columnCount t_profile_capacity t_profile_period t_profile_first t_profile_size t_profile_columns_f t_profile_ring_f).symm.trans hm
  refine lv_aload_n hx hb dc_Mt_passSecond_0 rfl (lv_at hl 0 rfl) ?_
  refine lv_aload_n hx hb dc_Mt_passSecond_1 rfl (lv_at hl 0 rfl) ?_
  refine va_get (ci := 2) (v := .int t_now) (C := cn_Mt) (T := cf_Mt) (N := 3) hx hb hB ki_Mt hown hK hP 0 rfl rfl 2 (by decide) (hB _ kw_fl_Mt_13) (fun _ h => h) rfl dc_Mt_passSecond_2 ?_
  refine bs_ldc (v := 2147483647) hx hb hown (hB _ kw_co_Mt_26) (by decide +kernel) dc_Mt_passSecond_5 ?_
  refine lv_icmp_ne (tgt := 14) hx hb dc_Mt_passSecond_7 (by decide) (fun h7 => ?_) (fun h7 => ?_)
  · have hm := bs_neg h7 hm
    refine lv_aload_n hx hb dc_Mt_passSecond_14 rfl (lv_at hl 0 rfl) ?_
    refine va_get (ci := 2) (v := .int t_now) (C := cn_Mt) (T := cf_Mt) (N := 3) hx hb hB ki_Mt hown hK hP 0 rfl rfl 2 (by decide) (hB _ kw_fl_Mt_13) (fun _ h => h) rfl dc_Mt_passSecond_15 ?_
    refine lv_iconst (v := 1) hx hb dc_Mt_passSecond_18 (by decide +kernel) ?_
    refine lv_iadd hx hb dc_Mt_passSecond_19 ?_
    exact hJ20 (t_now + 1) t_now t_profile_first t_profile_size t_profile_ring_f ls _ _ hm hl hP hD hS
  · have hm := bs_pos h7 hm
    refine lv_iconst (v := 0) hx hb dc_Mt_passSecond_10 (by decide +kernel) ?_
    refine lv_goto (tgt := 20) hx hb dc_Mt_passSecond_11 (by decide) ?_
    exact hJ20 0 t_now t_profile_first t_profile_size t_profile_ring_f ls _ _ hm hl hP hD hS
