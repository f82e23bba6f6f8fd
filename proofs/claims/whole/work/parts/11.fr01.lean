set_option maxHeartbeats 2000000 in
set_option maxRecDepth 100000 in
theorem ct_Fr_after (l : Launch) (D : va_G) (F : Nat) (i0 : Int32) (r : Int32) (hm : mm_Fr_after F i0 = some r) :
    bs_CI l my_Fr_after mb_Fr_after 1 .int (bs_rm 0) D [.int i0] [] [] (S := Unit) (fun v (_ : Unit) => v = r) (fun _ => []) := by
  refine bs_CI.mk (by decide +kernel) (bs_ler rfl) ?_
  intro p e s m below meth c ls A hx hb hr hml hlk hown hB hN hP hK hD hS hA hl
  refine bs_genQ (fun Q hQ => ?_)
  have hl : lv_has ls 1 [(0, .int i0)] := hl
  have hm := (mq_Fr_after F i0).symm.trans hm
  refine lv_iload_n hx hb dc_Fr_after_0 rfl (lv_at hl 0 rfl) ?_
  refine lv_iconst (v := 1) hx hb dc_Fr_after_1 (by decide +kernel) ?_
  refine lv_iadd hx hb dc_Fr_after_2 ?_
  refine lv_bipush (v := 7) hx hb dc_Fr_after_3 (by decide +kernel) ?_
  refine lv_iand hx hb dc_Fr_after_5 ?_
  cases hm
  subst hQ
  exact bs_retI hx hb hr hlk () rfl hP hD hS dc_Fr_after_6
set_option maxHeartbeats 2000000 in
set_option maxRecDepth 100000 in
theorem ct_Fr_information (l : Launch) (D : va_G) (F : Nat) (i0 : Int32) (i1 : Int32) (r : Int32) (hm : mm_Fr_information F i0 i1 = some r) :
    bs_CI l my_Fr_information mb_Fr_information 2 .int (bs_rm 0) D [.int i0, .int i1] [] [] (S := Unit) (fun v (_ : Unit) => v = r) (fun _ => []) := by
  refine bs_CI.mk (by decide +kernel) (bs_ler rfl) ?_
  intro p e s m below meth c ls A hx hb hr hml hlk hown hB hN hP hK hD hS hA hl
  refine bs_genQ (fun Q hQ => ?_)
  have hl : lv_has ls 2 [(0, .int i0), (1, .int i1)] := hl
  have hm := (mq_Fr_information F i0 i1).symm.trans hm
  refine lv_bipush (v := 16) hx hb dc_Fr_information_0 (by decide +kernel) ?_
  refine lv_iconst (v := 2) hx hb dc_Fr_information_2 (by decide +kernel) ?_
  refine lv_iload_n hx hb dc_Fr_information_3 rfl (lv_at hl 0 rfl) ?_
  refine lv_imul hx hb dc_Fr_information_4 ?_
  refine lv_iadd hx hb dc_Fr_information_5 ?_
  refine lv_bipush (v := 32) hx hb dc_Fr_information_6 (by decide +kernel) ?_
  refine lv_iload_n hx hb dc_Fr_information_8 rfl (lv_at hl 1 rfl) ?_
  refine lv_imul hx hb dc_Fr_information_9 ?_
  refine lv_iadd hx hb dc_Fr_information_10 ?_
  cases hm
  subst hQ
  exact bs_retI hx hb hr hlk () rfl hP hD hS dc_Fr_information_11
set_option maxHeartbeats 2000000 in
set_option maxRecDepth 100000 in
theorem ct_As_hear (l : Launch) (D : va_G) (F : Nat) (t : Nat) (p1 : Nat) (p1_bytes : Nat) (p1_bytes_c : ClassId) (p1_bytes_N : Nat) (t_s : Int32) (t_r : Int32) (p1_size : Int32) (p1_bytes_f : Nat → Int32) (r : Int32 × Int32) (hm : mm_As_hear F p1_bytes_N t_s t_r p1_size p1_bytes_f = some r) :
    bs_CV l my_As_hear mb_As_hear 3 (bs_rm 1) D [.ref t, .ref p1] [(p1_bytes_c, .int)] [(t, .inr (0, [.int t_s, .int t_r])), (p1, .inr (4, [.ref p1_bytes, .int p1_size])), (p1_bytes, .inl (p1_bytes_c, p1_bytes_N, .inl p1_bytes_f))] (S := Unit) (fun (_ : Unit) => True) (fun _ => [(t, .inr (0, [.int r.1, .int r.2])), (p1, .inr (4, [.ref p1_bytes, .int p1_size])), (p1_bytes, .inl (p1_bytes_c, p1_bytes_N, .inl p1_bytes_f))]) := by
  refine bs_CV.mk (by decide +kernel) (bs_ler rfl) ?_
  intro p e s m below meth c ls A hx hb hr hml hlk hown hB hN hP hK hD hS hA hl
  refine bs_genQ (fun Q hQ => ?_)
  have hl : lv_has ls 3 [(0, .ref t), (1, .ref p1)] := hl
  have hm := (mq_As_hear F p1_bytes_N t_s t_r p1_size p1_bytes_f).symm.trans hm
  refine lv_aload_n hx hb dc_As_hear_0 rfl (lv_at hl 1 rfl) ?_
  refine lv_iconst (v := 3) hx hb dc_As_hear_1 (by decide +kernel) ?_
  obtain ⟨x2, hx2, hm⟩ := bs_bind hm
  refine bs_callVi 1 [(t, .inr (0, [.int t_s, .int t_r]))] (fun _ => [(t, .inr (0, [.int t_s, .int t_r])), (p1, .inr (4, [.ref p1_bytes, .int p1_size])), (p1_bytes, .inl (p1_bytes_c, p1_bytes_N, .inl p1_bytes_f))]) [] hx hb hml hown hB hN hK hP hD hS hA (ct_Rw_at l D F p1 p1_bytes p1_bytes_c p1_bytes_N p1_size p1_bytes_f 3 x2 hx2) kw_cd_Rw_at kw_ml_As_16 kw_im_Rw_at kw_se_Rw_at kw_in_Rw kd_Rw_at (by decide) ⟨_, _, _, rfl, rfl, rfl⟩ [1, 2] [0] rfl rfl (by decide) [0] rfl [0, 1, 2] (by decide) (fun _ => rfl) rfl hl.1 (bs_ler rfl) (by decide) dc_As_hear_2 rfl (fun v2q _ H locs hq2 hP hD hS => ?_)
  have hq2 := hq2.symm
  subst hq2
  refine lv_istore_n hx hb dc_As_hear_5 rfl hl (by decide) rfl (fun ls hl => ?_)
  have hl : lv_has ls 3 [(2, .int x2), (0, .ref t), (1, .ref p1)] := hl
  refine lv_iload_n hx hb dc_As_hear_6 rfl (lv_at hl 0 rfl) ?_
  refine lv_bipush (v := 115) hx hb dc_As_hear_7 (by decide +kernel) ?_
  refine lv_icmp_ne (tgt := 25) hx hb dc_As_hear_9 (by decide) (fun h9 => ?_) (fun h9 => ?_)
  · have hm := bs_neg h9 hm
    refine lv_iload_n hx hb dc_As_hear_25 rfl (lv_at hl 0 rfl) ?_
    refine lv_aload_n hx hb dc_As_hear_26 rfl (lv_at hl 1 rfl) ?_
    refine va_get (ci := 0) (v := .int t_r) (C := cn_As) (T := cf_As) (N := 2) hx hb hB ki_As hown hK hP 0 rfl rfl 1 (by decide) (hB _ kw_fl_As_13) (fun _ h => h) rfl dc_As_hear_27 ?_
    refine lv_aload_n hx hb dc_As_hear_30 rfl (lv_at hl 1 rfl) ?_
    refine va_get (ci := 0) (v := .int t_s) (C := cn_As) (T := cf_As) (N := 2) hx hb hB ki_As hown hK hP 0 rfl rfl 0 (by decide) (hB _ kw_fl_As_7) (fun _ h => h) rfl dc_As_hear_31 ?_
    obtain ⟨x34, hx34, hm⟩ := bs_bind hm
    refine bs_callSi 1 [(t, .inr (0, [.int t_s, .int t_r])), (p1, .inr (4, [.ref p1_bytes, .int p1_size])), (p1_bytes, .inl (p1_bytes_c, p1_bytes_N, .inl p1_bytes_f))] (fun _ => [(t, .inr (0, [.int t_s, .int t_r])), (p1, .inr (4, [.ref p1_bytes, .int p1_size])), (p1_bytes, .inl (p1_bytes_c, p1_bytes_N, .inl p1_bytes_f))]) [.int t_r, .int x2] hx hb hml hown hB hN hK hP hD hS hA (ct_Fr_after l D F t_s x34 hx34) kw_cd_Fr_after kw_ml_As_24 kw_st_Fr_after kw_in_Fr kd_Fr_after (by decide) [] [0, 1, 2] rfl rfl (by decide) [] rfl [0, 1, 2] (by decide) (fun _ => rfl) rfl hl.1 (bs_ler rfl) (by decide) dc_As_hear_34 rfl (fun v34q _ H locs hq34 hP hD hS => ?_)
    have hq34 := hq34.symm
    subst hq34
    obtain ⟨x37, hx37, hm⟩ := bs_bind hm
    refine bs_callSi 2 [(t, .inr (0, [.int t_s, .int t_r])), (p1, .inr (4, [.ref p1_bytes, .int p1_size])), (p1_bytes, .inl (p1_bytes_c, p1_bytes_N, .inl p1_bytes_f))] (fun _ => [(t, .inr (0, [.int t_s, .int t_r])), (p1, .inr (4, [.ref p1_bytes, .int p1_size])), (p1_bytes, .inl (p1_bytes_c, p1_bytes_N, .inl p1_bytes_f))]) [.int x2] hx hb hml hown hB hN hK hP hD hS hA (ct_Fr_information l D F t_r x34 x37 hx37) kw_cd_Fr_information kw_ml_As_27 kw_st_Fr_information kw_in_Fr kd_Fr_information (by decide) [] [0, 1, 2] rfl rfl (by decide) [] rfl [0, 1, 2] (by decide) (fun _ => rfl) rfl hl.1 (bs_ler rfl) (by decide) dc_As_hear_37 rfl (fun v37q _ H locs hq37 hP hD hS => ?_)
    have hq37 := hq37.symm
    subst hq37
    refine lv_icmp_ne (tgt := 65) hx hb dc_As_hear_40 (by decide) (fun h40 => ?_) (fun h40 => ?_)
    · have hm := bs_neg h40 hm
      cases hm
      subst hQ
      exact bs_retV hx hb hr hlk () trivial hP hD hS dc_As_hear_65
    · have hm := bs_pos h40 hm
      refine lv_aload_n hx hb dc_As_hear_43 rfl (lv_at hl 1 rfl) ?_
      refine lv_aload_n hx hb dc_As_hear_44 rfl (lv_at hl 1 rfl) ?_
      refine va_get (ci := 0) (v := .int t_s) (C := cn_As) (T := cf_As) (N := 2) hx hb hB ki_As hown hK hP 0 rfl rfl 0 (by decide) (hB _ kw_fl_As_7) (fun _ h => h) rfl dc_As_hear_45 ?_
      obtain ⟨x48, hx48, hm⟩ := bs_bind hm
      refine bs_callSi 1 [(t, .inr (0, [.int t_s, .int t_r])), (p1, .inr (4, [.ref p1_bytes, .int p1_size])), (p1_bytes, .inl (p1_bytes_c, p1_bytes_N, .inl p1_bytes_f))] (fun _ => [(t, .inr (0, [.int t_s, .int t_r])), (p1, .inr (4, [.ref p1_bytes, .int p1_size])), (p1_bytes, .inl (p1_bytes_c, p1_bytes_N, .inl p1_bytes_f))]) [.ref t] hx hb hml hown hB hN hK hP hD hS hA (ct_Fr_after l D F t_s x48 hx48) kw_cd_Fr_after kw_ml_As_24 kw_st_Fr_after kw_in_Fr kd_Fr_after (by decide) [] [0, 1, 2] rfl rfl (by decide) [] rfl [0, 1, 2] (by decide) (fun _ => rfl) rfl hl.1 (bs_ler rfl) (by decide) dc_As_hear_48 rfl (fun v48q _ H locs hq48 hP hD hS => ?_)
      have hq48 := hq48.symm
      subst hq48
      refine va_put (ci := 0) (v := .int x48) (ty := .int) (C := cn_As) (T := cf_As) (N := 2) hx hb hB ki_As ct_As cp_As cd_As hown hK hP hD hS 0 rfl rfl 0 (by decide) (hB _ kw_fl_As_7) (fun _ h => h) rfl (by decide +kernel) rfl rfl (bs_ltr rfl) dc_As_hear_51 (fun H locs hP hD hS => ?_)
      obtain ⟨hP, hD⟩ := bs_say [(t, .inr (0, [.int x48, .int t_r])), (p1, .inr (4, [.ref p1_bytes, .int p1_size])), (p1_bytes, .inl (p1_bytes_c, p1_bytes_N, .inl p1_bytes_f))] hP hD
      refine lv_aload_n hx hb dc_As_hear_54 rfl (lv_at hl 1 rfl) ?_
      refine lv_aload_n hx hb dc_As_hear_55 rfl (lv_at hl 1 rfl) ?_
      refine va_get (ci := 0) (v := .int t_r) (C := cn_As) (T := cf_As) (N := 2) hx hb hB ki_As hown hK hP 0 rfl rfl 1 (by decide) (hB _ kw_fl_As_13) (fun _ h => h) rfl dc_As_hear_56 ?_
      obtain ⟨x59, hx59, hm⟩ := bs_bind hm
      refine bs_callSi 1 [(t, .inr (0, [.int x48, .int t_r])), (p1, .inr (4, [.ref p1_bytes, .int p1_size])), (p1_bytes, .inl (p1_bytes_c, p1_bytes_N, .inl p1_bytes_f))] (fun _ => [(t, .inr (0, [.int x48, .int t_r])), (p1, .inr (4, [.ref p1_bytes, .int p1_size])), (p1_bytes, .inl (p1_bytes_c, p1_bytes_N, .inl p1_bytes_f))]) [.ref t] hx hb hml hown hB hN hK hP hD hS hA (ct_Fr_after l D F t_r x59 hx59) kw_cd_Fr_after kw_ml_As_24 kw_st_Fr_after kw_in_Fr kd_Fr_after (by decide) [] [0, 1, 2] rfl rfl (by decide) [] rfl [0, 1, 2] (by decide) (fun _ => rfl) rfl hl.1 (bs_ler rfl) (by decide) dc_As_hear_59 rfl (fun v59q _ H locs hq59 hP hD hS => ?_)
      have hq59 := hq59.symm
      subst hq59
      refine va_put (ci := 0) (v := .int x59) (ty := .int) (C := cn_As) (T := cf_As) (N := 2) hx hb hB ki_As ct_As cp_As cd_As hown hK hP hD hS 0 rfl rfl 1 (by decide) (hB _ kw_fl_As_13) (fun _ h => h) rfl (by decide +kernel) rfl rfl (bs_ltr rfl) dc_As_hear_62 (fun H locs hP hD hS => ?_)
      obtain ⟨hP, hD⟩ := bs_say [(t, .inr (0, [.int x48, .int x59])), (p1, .inr (4, [.ref p1_bytes, .int p1_size])), (p1_bytes, .inl (p1_bytes_c, p1_bytes_N, .inl p1_bytes_f))] hP hD
      cases hm
      subst hQ
      exact bs_retV hx hb hr hlk () trivial hP hD hS dc_As_hear_65
  · have hm := bs_pos h9 hm
    refine lv_aload_n hx hb dc_As_hear_12 rfl (lv_at hl 1 rfl) ?_
    refine lv_iconst (v := 0) hx hb dc_As_hear_13 (by decide +kernel) ?_
    refine va_put (ci := 0) (v := .int 0) (ty := .int) (C := cn_As) (T := cf_As) (N := 2) hx hb hB ki_As ct_As cp_As cd_As hown hK hP hD hS 0 rfl rfl 0 (by decide) (hB _ kw_fl_As_7) (fun _ h => h) rfl (by decide +kernel) rfl rfl (bs_ltr rfl) dc_As_hear_14 (fun H locs hP hD hS => ?_)
    obtain ⟨hP, hD⟩ := bs_say [(t, .inr (0, [.int 0, .int t_r])), (p1, .inr (4, [.ref p1_bytes, .int p1_size])), (p1_bytes, .inl (p1_bytes_c, p1_bytes_N, .inl p1_bytes_f))] hP hD
    refine lv_aload_n hx hb dc_As_hear_17 rfl (lv_at hl 1 rfl) ?_
    refine lv_iconst (v := 0) hx hb dc_As_hear_18 (by decide +kernel) ?_
    refine va_put (ci := 0) (v := .int 0) (ty := .int) (C := cn_As) (T := cf_As) (N := 2) hx hb hB ki_As ct_As cp_As cd_As hown hK hP hD hS 0 rfl rfl 1 (by decide) (hB _ kw_fl_As_13) (fun _ h => h) rfl (by decide +kernel) rfl rfl (bs_ltr rfl) dc_As_hear_19 (fun H locs hP hD hS => ?_)
    obtain ⟨hP, hD⟩ := bs_say [(t, .inr (0, [.int 0, .int 0])), (p1, .inr (4, [.ref p1_bytes, .int p1_size])), (p1_bytes, .inl (p1_bytes_c, p1_bytes_N, .inl p1_bytes_f))] hP hD
    refine lv_goto (tgt := 65) hx hb dc_As_hear_22 (by decide) ?_
    cases hm
    subst hQ
    exact bs_retV hx hb hr hlk () trivial hP hD hS dc_As_hear_65
set_option maxHeartbeats 2000000 in
set_option maxRecDepth 100000 in
theorem ct_Fr_check (l : Launch) (D : va_G) (F : Nat) (p0 : Nat) (p0_bytes : Nat) (p0_bytes_c : ClassId) (p0_bytes_N : Nat) (p0_size : Int32) (p0_bytes_f : Nat → Int32) (i1 : Int32) (r : Int32) (hm : mm_Fr_check F p0_bytes_N i1 p0_size p0_bytes_f = some r) :
    bs_CI l my_Fr_check mb_Fr_check 5 .int (bs_rm 1) D [.ref p0, .int i1] [(p0_bytes_c, .int)] [(p0, .inr (4, [.ref p0_bytes, .int p0_size])), (p0_bytes, .inl (p0_bytes_c, p0_bytes_N, .inl p0_bytes_f))] (S := Unit) (fun v (_ : Unit) => v = r) (fun _ => [(p0, .inr (4, [.ref p0_bytes, .int p0_size])), (p0_bytes, .inl (p0_bytes_c, p0_bytes_N, .inl p0_bytes_f))]) := by
  refine bs_CI.mk (by decide +kernel) (bs_ler rfl) ?_
  intro p e s m below meth c ls A hx hb hr hml hlk hown hB hN hP hK hD hS hA hl
  refine bs_genQ (fun Q hQ => ?_)
  have hL21 : ∀ (k : Nat) (v1 : Int32) (v2 : Int32) (v3 : Int32) (v4 : Int32) (z : Int32) (ls : Array Slot) (H : Heap) (locs : List Loc), mm_Fr_check_L21 F p0_bytes_N k v2 v4 = some z → lv_has ls 5 [(0, .ref p0), (1, .int v1), (2, .int v2), (3, .int v3), (4, .int v4)] → va_P D bs_cl [(p0, .inr (4, [.ref p0_bytes, .int p0_size])), (p0_bytes, .inl (p0_bytes_c, p0_bytes_N, .inl p0_bytes_f))] H → va_D A [(p0, .inr (4, [.ref p0_bytes, .int p0_size])), (p0_bytes, .inl (p0_bytes_c, p0_bytes_N, .inl p0_bytes_f))] → va_S A s.heap H locs → (∀ (ls : Array Slot) (H : Heap) (locs : List Loc), lv_has ls 5 [(0, .ref p0), (1, .int v1), (2, .int z), (3, .int v3)] → va_P D bs_cl [(p0, .inr (4, [.ref p0_bytes, .int p0_size])), (p0_bytes, .inl (p0_bytes_c, p0_bytes_N, .inl p0_bytes_f))] H → va_D A [(p0, .inr (4, [.ref p0_bytes, .int p0_size])), (p0_bytes, .inl (p0_bytes_c, p0_bytes_N, .inl p0_bytes_f))] → va_S A s.heap H locs → W p l e (bs_rm 1) s m [.ref p0, .int i1].toArray below meth c H locs 0 0 Q (F0 m 54 ls [])) → W p l e (bs_rm 1) s m [.ref p0, .int i1].toArray below meth c H locs 0 0 Q (F0 m 21 ls []) := by
    intro k
    induction k with
    | zero => intro v1 v2 v3 v4 z ls H locs hm hl hP hD hS kE; exact (bs_no hm).elim
    | succ k ih =>
      intro v1 v2 v3 v4 z ls H locs hm hl hP hD hS kE
      have hm := (mq_Fr_check_L21 F p0_bytes_N k v2 v4).symm.trans hm
      refine lv_iload hx hb dc_Fr_check_21 (lv_at hl 4 rfl) ?_
      refine lv_bipush (v := 8) hx hb dc_Fr_check_23 (by decide +kernel) ?_
      refine lv_icmp_ge (tgt := 54) hx hb dc_Fr_check_25 (by decide) (fun h25 => ?_) (fun h25 => ?_)
      · have hm := bs_pos h25 hm
        cases hm
        exact kE ls _ _ (lv_sub hl [0, 1, 2, 3] rfl) hP hD hS
      · have hm := bs_neg h25 hm
        refine lv_iload_n hx hb dc_Fr_check_28 rfl (lv_at hl 2 rfl) ?_
        refine lv_iconst (v := 1) hx hb dc_Fr_check_29 (by decide +kernel) ?_
        refine lv_iand hx hb dc_Fr_check_30 ?_
        refine lv_iconst (v := 1) hx hb dc_Fr_check_31 (by decide +kernel) ?_
        refine lv_icmp_ne (tgt := 44) hx hb dc_Fr_check_32 (by decide) (fun h32 => ?_) (fun h32 => ?_)
        · have hm := bs_neg h32 hm
          refine lv_iload_n hx hb dc_Fr_check_44 rfl (lv_at hl 2 rfl) ?_
          refine lv_iconst (v := 1) hx hb dc_Fr_check_45 (by decide +kernel) ?_
          refine lv_iushr (v := bs_ushr v2 1) hx hb dc_Fr_check_46 rfl ?_
          refine lv_istore_n hx hb dc_Fr_check_47 rfl hl (by decide) rfl (fun ls hl => ?_)
          have hl : lv_has ls 5 [(2, .int (bs_ushr v2 1)), (0, .ref p0), (1, .int v1), (3, .int v3), (4, .int v4)] := hl
          refine lv_iinc (k := 4) (v := v4 + 1) hx hb dc_Fr_check_48 hl rfl (bs_inc1 _) (by decide) rfl (fun ls hl => ?_)
          have hl : lv_has ls 5 [(4, .int (v4 + 1)), (2, .int (bs_ushr v2 1)), (0, .ref p0), (1, .int v1), (3, .int v3)] := hl
          refine lv_goto (tgt := 21) hx hb dc_Fr_check_51 (by decide) ?_
          exact ih v1 (bs_ushr v2 1) v3 (v4 + 1) _ ls _ _ hm (lv_sub hl [2, 3, 1, 4, 0] rfl) hP hD hS kE
        · have hm := bs_pos h32 hm
          refine lv_iload_n hx hb dc_Fr_check_35 rfl (lv_at hl 2 rfl) ?_
          refine lv_iconst (v := 1) hx hb dc_Fr_check_36 (by decide +kernel) ?_
          refine lv_iushr (v := bs_ushr v2 1) hx hb dc_Fr_check_37 rfl ?_
          refine bs_ldc (v := 33800) hx hb hown (hB _ kw_co_Fr_43) (by decide +kernel) dc_Fr_check_38 ?_
          refine lv_ixor hx hb dc_Fr_check_40 ?_
          refine lv_goto (tgt := 47) hx hb dc_Fr_check_41 (by decide) ?_
          refine lv_istore_n hx hb dc_Fr_check_47 rfl hl (by decide) rfl (fun ls hl => ?_)
          have hl : lv_has ls 5 [(2, .int ((bs_ushr v2 1) ^^^ 33800)), (0, .ref p0), (1, .int v1), (3, .int v3), (4, .int v4)] := hl
          refine lv_iinc (k := 4) (v := v4 + 1) hx hb dc_Fr_check_48 hl rfl (bs_inc1 _) (by decide) rfl (fun ls hl => ?_)
          have hl : lv_has ls 5 [(4, .int (v4 + 1)), (2, .int ((bs_ushr v2 1) ^^^ 33800)), (0, .ref p0), (1, .int v1), (3, .int v3)] := hl
          refine lv_goto (tgt := 21) hx hb dc_Fr_check_51 (by decide) ?_
          exact ih v1 ((bs_ushr v2 1) ^^^ 33800) v3 (v4 + 1) _ ls _ _ hm (lv_sub hl [2, 3, 1, 4, 0] rfl) hP hD hS kE
  have hL5 : ∀ (k : Nat) (v1 : Int32) (v2 : Int32) (v3 : Int32) (ls : Array Slot) (H : Heap) (locs : List Loc), mm_Fr_check_L5 F p0_bytes_N k v1 v2 v3 p0_size p0_bytes_f = some r → lv_has ls 5 [(0, .ref p0), (1, .int v1), (2, .int v2), (3, .int v3)] → va_P D bs_cl [(p0, .inr (4, [.ref p0_bytes, .int p0_size])), (p0_bytes, .inl (p0_bytes_c, p0_bytes_N, .inl p0_bytes_f))] H → va_D A [(p0, .inr (4, [.ref p0_bytes, .int p0_size])), (p0_bytes, .inl (p0_bytes_c, p0_bytes_N, .inl p0_bytes_f))] → va_S A s.heap H locs → W p l e (bs_rm 1) s m [.ref p0, .int i1].toArray below meth c H locs 0 0 Q (F0 m 5 ls []) := by
    intro k
    induction k with
    | zero => intro v1 v2 v3 ls H locs hm hl hP hD hS; exact (bs_no hm).elim
    | succ k ih =>
      intro v1 v2 v3 ls H locs hm hl hP hD hS
      have hm := (mq_Fr_check_L5 F p0_bytes_N k v1 v2 v3 p0_size p0_bytes_f).symm.trans hm
      refine lv_iload_n hx hb dc_Fr_check_5 rfl (lv_at hl 3 rfl) ?_
      refine lv_iload_n hx hb dc_Fr_check_6 rfl (lv_at hl 1 rfl) ?_
      refine lv_icmp_ge (tgt := 60) hx hb dc_Fr_check_7 (by decide) (fun h7 => ?_) (fun h7 => ?_)
      · have hm := bs_pos h7 hm
        refine bs_ldc (v := 65535) hx hb hown (hB _ kw_co_Fr_42) (by decide +kernel) dc_Fr_check_60 ?_
        refine lv_iload_n hx hb dc_Fr_check_62 rfl (lv_at hl 2 rfl) ?_
        refine lv_isub hx hb dc_Fr_check_63 ?_
        clear hL21 ih
        cases hm
        subst hQ
        exact bs_retI hx hb hr hlk () rfl hP hD hS dc_Fr_check_64
      · have hm := bs_neg h7 hm
        refine lv_iload_n hx hb dc_Fr_check_10 rfl (lv_at hl 2 rfl) ?_
        refine lv_aload_n hx hb dc_Fr_check_11 rfl (lv_at hl 0 rfl) ?_
        refine lv_iload_n hx hb dc_Fr_check_12 rfl (lv_at hl 3 rfl) ?_
        obtain ⟨x13, hx13, hm⟩ := bs_bind hm
        refine bs_callVi 1 [] (fun _ => [(p0, .inr (4, [.ref p0_bytes, .int p0_size])), (p0_bytes, .inl (p0_bytes_c, p0_bytes_N, .inl p0_bytes_f))]) [.int v2] hx hb hml hown hB hN hK hP hD hS hA (ct_Rw_at l D F p0 p0_bytes p0_bytes_c p0_bytes_N p0_size p0_bytes_f v3 x13 hx13) kw_cd_Rw_at kw_ml_Fr_34 kw_im_Rw_at kw_se_Rw_at kw_in_Rw kd_Rw_at (by decide) ⟨_, _, _, rfl, rfl, rfl⟩ [0, 1] [] rfl rfl (by decide) [0] rfl [0, 1] (by decide) (fun _ => rfl) rfl hl.1 (bs_ler rfl) (by decide) dc_Fr_check_13 rfl (fun v13q _ H locs hq13 hP hD hS => ?_)
        have hq13 := hq13.symm
        subst hq13
        refine lv_ixor hx hb dc_Fr_check_16 ?_
        refine lv_istore_n hx hb dc_Fr_check_17 rfl hl (by decide) rfl (fun ls hl => ?_)
        have hl : lv_has ls 5 [(2, .int (v2 ^^^ x13)), (0, .ref p0), (1, .int v1), (3, .int v3)] := hl
        refine lv_iconst (v := 0) hx hb dc_Fr_check_18 (by decide +kernel) ?_
        refine lv_istore hx hb dc_Fr_check_19 hl (by decide) rfl (fun ls hl => ?_)
        have hl : lv_has ls 5 [(4, .int 0), (2, .int (v2 ^^^ x13)), (0, .ref p0), (1, .int v1), (3, .int v3)] := hl
        obtain ⟨z21, hz21, hm⟩ := bs_bind hm
        refine hL21 F v1 (v2 ^^^ x13) v3 0 z21 ls _ _ hz21 (lv_sub hl [2, 3, 1, 4, 0] rfl) hP hD hS (fun ls H locs hl hP hD hS => ?_)
        have hl : lv_has ls 5 [(0, .ref p0), (1, .int v1), (2, .int z21), (3, .int v3)] := hl
        obtain ⟨hP, hD⟩ := bs_say [(p0, .inr (4, [.ref p0_bytes, .int p0_size])), (p0_bytes, .inl (p0_bytes_c, p0_bytes_N, .inl p0_bytes_f))] hP hD
        refine lv_iinc (k := 3) (v := v3 + 1) hx hb dc_Fr_check_54 hl rfl (bs_inc1 _) (by decide) rfl (fun ls hl => ?_)
        have hl : lv_has ls 5 [(3, .int (v3 + 1)), (0, .ref p0), (1, .int v1), (2, .int z21)] := hl
        refine lv_goto (tgt := 5) hx hb dc_Fr_check_57 (by decide) ?_
        exact ih v1 z21 (v3 + 1) ls _ _ hm (lv_sub hl [1, 2, 3, 0] rfl) hP hD hS
  have hl : lv_has ls 5 [(0, .ref p0), (1, .int i1)] := hl
  have hm := (mq_Fr_check F p0_bytes_N i1 p0_size p0_bytes_f).symm.trans hm
  refine bs_ldc (v := 65535) hx hb hown (hB _ kw_co_Fr_42) (by decide +kernel) dc_Fr_check_0 ?_
  refine lv_istore_n hx hb dc_Fr_check_2 rfl hl (by decide) rfl (fun ls hl => ?_)
  have hl : lv_has ls 5 [(2, .int 65535), (0, .ref p0), (1, .int i1)] := hl
  refine lv_iconst (v := 1) hx hb dc_Fr_check_3 (by decide +kernel) ?_
  refine lv_istore_n hx hb dc_Fr_check_4 rfl hl (by decide) rfl (fun ls hl => ?_)
  have hl : lv_has ls 5 [(3, .int 1), (2, .int 65535), (0, .ref p0), (1, .int i1)] := hl
  exact hL5 F i1 65535 1 ls _ _ hm (lv_sub hl [2, 3, 1, 0] rfl) hP hD hS
set_option maxHeartbeats 2000000 in
set_option maxRecDepth 100000 in
theorem ct_Fr_wrap (l : Launch) (D : va_G) (F : Nat) (p0 : Nat) (p0_bytes : Nat) (p0_bytes_c : ClassId) (p0_bytes_N : Nat) (p0_size : Int32) (p0_bytes_f : Nat → Int32) (i1 : Int32) (r : Int32 × (Nat → Int32)) (hm : mm_Fr_wrap F p0_bytes_N i1 p0_size p0_bytes_f = some r) :
    bs_CV l my_Fr_wrap mb_Fr_wrap 5 (bs_rm 2) D [.ref p0, .int i1] [(p0_bytes_c, .int)] [(p0, .inr (4, [.ref p0_bytes, .int p0_size])), (p0_bytes, .inl (p0_bytes_c, p0_bytes_N, .inl p0_bytes_f))] (S := Unit) (fun (_ : Unit) => True) (fun _ => [(p0, .inr (4, [.ref p0_bytes, .int r.1])), (p0_bytes, .inl (p0_bytes_c, p0_bytes_N, .inl r.2))]) := by
  refine bs_CV.mk (by decide +kernel) (bs_ler rfl) ?_
  intro p e s m below meth c ls A hx hb hr hml hlk hown hB hN hP hK hD hS hA hl
  refine bs_genQ (fun Q hQ => ?_)
  have hJ36 : ∀ (v1 : Int32) (v2 : Int32) (s0 : Int32) (s1 : Int32) (p0_size : Int32) (p0_bytes_f : Nat → Int32) (ls : Array Slot) (H : Heap) (locs : List Loc), mm_Fr_wrap_J36 F p0_bytes_N v1 v2 s0 s1 p0_size p0_bytes_f = some r → lv_has ls 5 [(0, .ref p0), (1, .int v1), (2, .int v2)] → va_P D bs_cl [(p0, .inr (4, [.ref p0_bytes, .int p0_size])), (p0_bytes, .inl (p0_bytes_c, p0_bytes_N, .inl p0_bytes_f))] H → va_D A [(p0, .inr (4, [.ref p0_bytes, .int p0_size])), (p0_bytes, .inl (p0_bytes_c, p0_bytes_N, .inl p0_bytes_f))] → va_S A s.heap H locs → W p l e (bs_rm 2) s m [.ref p0, .int i1].toArray below meth c H locs 0 0 Q (F0 m 36 ls [.int s0, .int s1, .ref p0]) := by
    intro v1 v2 s0 s1 p0_size p0_bytes_f ls H locs hm hl hP hD hS
    have hm := (mq_Fr_wrap_J36 F p0_bytes_N v1 v2 s0 s1 p0_size p0_bytes_f).symm.trans hm
    obtain ⟨x36, hx36, hm⟩ := bs_bind hm
    refine bs_callVv 2 [] (fun _ => [(p0, .inr (4, [.ref p0_bytes, .int p0_size])), (p0_bytes, .inl (p0_bytes_c, p0_bytes_N, .inl x36))]) [] hx hb hml hown hB hN hK hP hD hS hA (ct_Rw_change l D F p0 p0_bytes p0_bytes_c p0_bytes_N p0_size p0_bytes_f s1 s0 x36 hx36) kw_cd_Rw_change kw_ml_Fr_19 kw_im_Rw_change kw_se_Rw_change kw_in_Rw kd_Rw_change (by decide) ⟨_, _, _, rfl, rfl, rfl⟩ [0, 1] [] rfl rfl (by decide) [0] rfl [0, 1] (by decide) (fun _ => rfl) rfl hl.1 (bs_ler rfl) (by decide) dc_Fr_wrap_36 rfl (fun _ H locs hq36 hP hD hS => ?_)
    refine lv_aload_n hx hb dc_Fr_wrap_39 rfl (lv_at hl 0 rfl) ?_
    refine lv_iconst (v := 2) hx hb dc_Fr_wrap_40 (by decide +kernel) ?_
    refine lv_bipush (v := 17) hx hb dc_Fr_wrap_41 (by decide +kernel) ?_
    obtain ⟨x43, hx43, hm⟩ := bs_bind hm
    refine bs_callVv 2 [] (fun _ => [(p0, .inr (4, [.ref p0_bytes, .int p0_size])), (p0_bytes, .inl (p0_bytes_c, p0_bytes_N, .inl x43))]) [] hx hb hml hown hB hN hK hP hD hS hA (ct_Rw_change l D F p0 p0_bytes p0_bytes_c p0_bytes_N p0_size x36 2 17 x43 hx43) kw_cd_Rw_change kw_ml_Fr_19 kw_im_Rw_change kw_se_Rw_change kw_in_Rw kd_Rw_change (by decide) ⟨_, _, _, rfl, rfl, rfl⟩ [0, 1] [] rfl rfl (by decide) [0] rfl [0, 1] (by decide) (fun _ => rfl) rfl hl.1 (bs_ler rfl) (by decide) dc_Fr_wrap_43 rfl (fun _ H locs hq43 hP hD hS => ?_)
    refine lv_aload_n hx hb dc_Fr_wrap_46 rfl (lv_at hl 0 rfl) ?_
    refine lv_iconst (v := 3) hx hb dc_Fr_wrap_47 (by decide +kernel) ?_
    refine lv_iload_n hx hb dc_Fr_wrap_48 rfl (lv_at hl 1 rfl) ?_
    obtain ⟨x49, hx49, hm⟩ := bs_bind hm
    refine bs_callVv 2 [] (fun _ => [(p0, .inr (4, [.ref p0_bytes, .int p0_size])), (p0_bytes, .inl (p0_bytes_c, p0_bytes_N, .inl x49))]) [] hx hb hml hown hB hN hK hP hD hS hA (ct_Rw_change l D F p0 p0_bytes p0_bytes_c p0_bytes_N p0_size x43 3 v1 x49 hx49) kw_cd_Rw_change kw_ml_Fr_19 kw_im_Rw_change kw_se_Rw_change kw_in_Rw kd_Rw_change (by decide) ⟨_, _, _, rfl, rfl, rfl⟩ [0, 1] [] rfl rfl (by decide) [0] rfl [0, 1] (by decide) (fun _ => rfl) rfl hl.1 (bs_ler rfl) (by decide) dc_Fr_wrap_49 rfl (fun _ H locs hq49 hP hD hS => ?_)
    refine lv_aload_n hx hb dc_Fr_wrap_52 rfl (lv_at hl 0 rfl) ?_
    refine lv_iconst (v := 4) hx hb dc_Fr_wrap_53 (by decide +kernel) ?_
    obtain ⟨x54, hx54, hm⟩ := bs_bind hm
    refine bs_callSi 2 [] (fun _ => [(p0, .inr (4, [.ref p0_bytes, .int p0_size])), (p0_bytes, .inl (p0_bytes_c, p0_bytes_N, .inl x49))]) [] hx hb hml hown hB hN hK hP hD hS hA (ct_Fr_check l D F p0 p0_bytes p0_bytes_c p0_bytes_N p0_size x49 4 x54 hx54) kw_cd_Fr_check kw_ml_Fr_23 kw_st_Fr_check kw_in_Fr kd_Fr_check (by decide) [0, 1] [] rfl rfl (by decide) [0] rfl [0, 1] (by decide) (fun _ => rfl) rfl hl.1 (bs_ler rfl) (by decide) dc_Fr_wrap_54 rfl (fun v54q _ H locs hq54 hP hD hS => ?_)
    have hq54 := hq54.symm
    subst hq54
    refine lv_istore_n hx hb dc_Fr_wrap_57 rfl hl (by decide) rfl (fun ls hl => ?_)
    have hl : lv_has ls 5 [(3, .int x54), (0, .ref p0), (1, .int v1), (2, .int v2)] := hl
    refine lv_aload_n hx hb dc_Fr_wrap_58 rfl (lv_at hl 1 rfl) ?_
    refine lv_iconst (v := 4) hx hb dc_Fr_wrap_59 (by decide +kernel) ?_
    refine lv_iload_n hx hb dc_Fr_wrap_60 rfl (lv_at hl 0 rfl) ?_
    refine lv_sipush (v := 255) hx hb dc_Fr_wrap_61 (by decide +kernel) ?_
    refine lv_iand hx hb dc_Fr_wrap_64 ?_
    obtain ⟨x65, hx65, hm⟩ := bs_bind hm
    refine bs_callVv 2 [] (fun _ => [(p0, .inr (4, [.ref p0_bytes, .int p0_size])), (p0_bytes, .inl (p0_bytes_c, p0_bytes_N, .inl x65))]) [] hx hb hml hown hB hN hK hP hD hS hA (ct_Rw_change l D F p0 p0_bytes p0_bytes_c p0_bytes_N p0_size x49 4 (x54 &&& 255) x65 hx65) kw_cd_Rw_change kw_ml_Fr_19 kw_im_Rw_change kw_se_Rw_change kw_in_Rw kd_Rw_change (by decide) ⟨_, _, _, rfl, rfl, rfl⟩ [0, 1] [] rfl rfl (by decide) [0] rfl [0, 1] (by decide) (fun _ => rfl) rfl hl.1 (bs_ler rfl) (by decide) dc_Fr_wrap_65 rfl (fun _ H locs hq65 hP hD hS => ?_)
    refine lv_aload_n hx hb dc_Fr_wrap_68 rfl (lv_at hl 1 rfl) ?_
    refine lv_iconst (v := 5) hx hb dc_Fr_wrap_69 (by decide +kernel) ?_
    refine lv_iload_n hx hb dc_Fr_wrap_70 rfl (lv_at hl 0 rfl) ?_
    refine lv_bipush (v := 8) hx hb dc_Fr_wrap_71 (by decide +kernel) ?_
    refine lv_ishr hx hb dc_Fr_wrap_73 ?_
    obtain ⟨x74, hx74, hm⟩ := bs_bind hm
    refine bs_callVv 2 [] (fun _ => [(p0, .inr (4, [.ref p0_bytes, .int p0_size])), (p0_bytes, .inl (p0_bytes_c, p0_bytes_N, .inl x74))]) [] hx hb hml hown hB hN hK hP hD hS hA (ct_Rw_change l D F p0 p0_bytes p0_bytes_c p0_bytes_N p0_size x65 5 (x54 >>> (8 &&& 31)) x74 hx74) kw_cd_Rw_change kw_ml_Fr_19 kw_im_Rw_change kw_se_Rw_change kw_in_Rw kd_Rw_change (by decide) ⟨_, _, _, rfl, rfl, rfl⟩ [0, 1] [] rfl rfl (by decide) [0] rfl [0, 1] (by decide) (fun _ => rfl) rfl hl.1 (bs_ler rfl) (by decide) dc_Fr_wrap_74 rfl (fun _ H locs hq74 hP hD hS => ?_)
    refine lv_iload_n hx hb dc_Fr_wrap_77 rfl (lv_at hl 3 rfl) ?_
    refine lv_if_le (tgt := 110) hx hb dc_Fr_wrap_78 (by decide) (fun h78 => ?_) (fun h78 => ?_)
    · have hm := bs_pos h78 hm
      refine lv_aload_n hx hb dc_Fr_wrap_110 rfl (lv_at hl 1 rfl) ?_
      refine lv_bipush (v := 126) hx hb dc_Fr_wrap_111 (by decide +kernel) ?_
      obtain ⟨x113, hx113, hm⟩ := bs_bind hm
      refine bs_callVv 1 [] (fun _ => [(p0, .inr (4, [.ref p0_bytes, .int x113.1])), (p0_bytes, .inl (p0_bytes_c, p0_bytes_N, .inl x113.2))]) [] hx hb hml hown hB hN hK hP hD hS hA (ct_Rw_add l D F p0 p0_bytes p0_bytes_c p0_bytes_N p0_size x74 126 x113 hx113) kw_cd_Rw_add kw_ml_Fr_27 kw_im_Rw_add kw_se_Rw_add kw_in_Rw kd_Rw_add (by decide) ⟨_, _, _, rfl, rfl, rfl⟩ [0, 1] [] rfl rfl (by decide) [0] rfl [0, 1] (by decide) (fun _ => rfl) rfl hl.1 (bs_ler rfl) (by decide) dc_Fr_wrap_113 rfl (fun _ H locs hq113 hP hD hS => ?_)
      cases hm
      subst hQ
      exact bs_retV hx hb hr hlk () trivial hP hD hS dc_Fr_wrap_116
    · have hm := bs_neg h78 hm
      refine lv_aload_n hx hb dc_Fr_wrap_81 rfl (lv_at hl 1 rfl) ?_
      refine lv_aload_n hx hb dc_Fr_wrap_82 rfl (lv_at hl 1 rfl) ?_
      refine va_getN (ci := 4) (v := .int p0_size) (C := cn_Rw) (T := cf_Rw) (N := 2) hx hb hB ki_Rw hown hK hP 0 rfl rfl 1 (by decide) (hN.use kn_Fr_7) (fun _ h => h) rfl dc_Fr_wrap_83 ?_
      obtain ⟨x86, hx86, hm⟩ := bs_bind hm
      refine bs_callSi 2 [] (fun _ => [(p0, .inr (4, [.ref p0_bytes, .int p0_size])), (p0_bytes, .inl (p0_bytes_c, p0_bytes_N, .inl x74))]) [] hx hb hml hown hB hN hK hP hD hS hA (ct_Fr_check l D F p0 p0_bytes p0_bytes_c p0_bytes_N p0_size x74 p0_size x86 hx86) kw_cd_Fr_check kw_ml_Fr_23 kw_st_Fr_check kw_in_Fr kd_Fr_check (by decide) [0, 1] [] rfl rfl (by decide) [0] rfl [0, 1] (by decide) (fun _ => rfl) rfl hl.1 (bs_ler rfl) (by decide) dc_Fr_wrap_86 rfl (fun v86q _ H locs hq86 hP hD hS => ?_)
      have hq86 := hq86.symm
      subst hq86
      refine lv_istore hx hb dc_Fr_wrap_89 hl (by decide) rfl (fun ls hl => ?_)
      have hl : lv_has ls 5 [(4, .int x86), (3, .int x54), (0, .ref p0), (1, .int v1), (2, .int v2)] := hl
      refine lv_aload_n hx hb dc_Fr_wrap_91 rfl (lv_at hl 2 rfl) ?_
      refine lv_iload hx hb dc_Fr_wrap_92 (lv_at hl 0 rfl) ?_
      refine lv_sipush (v := 255) hx hb dc_Fr_wrap_94 (by decide +kernel) ?_
      refine lv_iand hx hb dc_Fr_wrap_97 ?_
      obtain ⟨x98, hx98, hm⟩ := bs_bind hm
      refine bs_callVv 1 [] (fun _ => [(p0, .inr (4, [.ref p0_bytes, .int x98.1])), (p0_bytes, .inl (p0_bytes_c, p0_bytes_N, .inl x98.2))]) [] hx hb hml hown hB hN hK hP hD hS hA (ct_Rw_add l D F p0 p0_bytes p0_bytes_c p0_bytes_N p0_size x74 (x86 &&& 255) x98 hx98) kw_cd_Rw_add kw_ml_Fr_27 kw_im_Rw_add kw_se_Rw_add kw_in_Rw kd_Rw_add (by decide) ⟨_, _, _, rfl, rfl, rfl⟩ [0, 1] [] rfl rfl (by decide) [0] rfl [0, 1] (by decide) (fun _ => rfl) rfl hl.1 (bs_ler rfl) (by decide) dc_Fr_wrap_98 rfl (fun _ H locs hq98 hP hD hS => ?_)
      refine lv_aload_n hx hb dc_Fr_wrap_101 rfl (lv_at hl 2 rfl) ?_
      refine lv_iload hx hb dc_Fr_wrap_102 (lv_at hl 0 rfl) ?_
      refine lv_bipush (v := 8) hx hb dc_Fr_wrap_104 (by decide +kernel) ?_
      refine lv_ishr hx hb dc_Fr_wrap_106 ?_
      obtain ⟨x107, hx107, hm⟩ := bs_bind hm
      refine bs_callVv 1 [] (fun _ => [(p0, .inr (4, [.ref p0_bytes, .int x107.1])), (p0_bytes, .inl (p0_bytes_c, p0_bytes_N, .inl x107.2))]) [] hx hb hml hown hB hN hK hP hD hS hA (ct_Rw_add l D F p0 p0_bytes p0_bytes_c p0_bytes_N x98.1 x98.2 (x86 >>> (8 &&& 31)) x107 hx107) kw_cd_Rw_add kw_ml_Fr_27 kw_im_Rw_add kw_se_Rw_add kw_in_Rw kd_Rw_add (by decide) ⟨_, _, _, rfl, rfl, rfl⟩ [0, 1] [] rfl rfl (by decide) [0] rfl [0, 1] (by decide) (fun _ => rfl) rfl hl.1 (bs_ler rfl) (by decide) dc_Fr_wrap_107 rfl (fun _ H locs hq107 hP hD hS => ?_)
      refine lv_aload_n hx hb dc_Fr_wrap_110 rfl (lv_at hl 2 rfl) ?_
      refine lv_bipush (v := 126) hx hb dc_Fr_wrap_111 (by decide +kernel) ?_
      obtain ⟨x113, hx113, hm⟩ := bs_bind hm
      refine bs_callVv 1 [] (fun _ => [(p0, .inr (4, [.ref p0_bytes, .int x113.1])), (p0_bytes, .inl (p0_bytes_c, p0_bytes_N, .inl x113.2))]) [] hx hb hml hown hB hN hK hP hD hS hA (ct_Rw_add l D F p0 p0_bytes p0_bytes_c p0_bytes_N x107.1 x107.2 126 x113 hx113) kw_cd_Rw_add kw_ml_Fr_27 kw_im_Rw_add kw_se_Rw_add kw_in_Rw kd_Rw_add (by decide) ⟨_, _, _, rfl, rfl, rfl⟩ [0, 1] [] rfl rfl (by decide) [0] rfl [0, 1] (by decide) (fun _ => rfl) rfl hl.1 (bs_ler rfl) (by decide) dc_Fr_wrap_113 rfl (fun _ H locs hq113 hP hD hS => ?_)
      cases hm
      subst hQ
      exact bs_retV hx hb hr hlk () trivial hP hD hS dc_Fr_wrap_116
  have hl : lv_has ls 5 [(0, .ref p0), (1, .int i1)] := hl
  have hm := (mq_Fr_wrap F p0_bytes_N i1 p0_size p0_bytes_f).symm.trans hm
  refine lv_aload_n hx hb dc_Fr_wrap_0 rfl (lv_at hl 0 rfl) ?_
  refine va_getN (ci := 4) (v := .int p0_size) (C := cn_Rw) (T := cf_Rw) (N := 2) hx hb hB ki_Rw hown hK hP 0 rfl rfl 1 (by decide) (hN.use kn_Fr_7) (fun _ h => h) rfl dc_Fr_wrap_1 ?_
  refine lv_istore_n hx hb dc_Fr_wrap_4 rfl hl (by decide) rfl (fun ls hl => ?_)
  have hl : lv_has ls 5 [(2, .int p0_size), (0, .ref p0), (1, .int i1)] := hl
  refine lv_aload_n hx hb dc_Fr_wrap_5 rfl (lv_at hl 1 rfl) ?_
  refine lv_bipush (v := 6) hx hb dc_Fr_wrap_6 (by decide +kernel) ?_
  obtain ⟨x8, hx8, hm⟩ := bs_bind hm
  refine bs_callVv 1 [] (fun _ => [(p0, .inr (4, [.ref p0_bytes, .int x8.1])), (p0_bytes, .inl (p0_bytes_c, p0_bytes_N, .inl x8.2))]) [] hx hb hml hown hB hN hK hP hD hS hA (ct_Rw_moveBack l D F p0 p0_bytes p0_bytes_c p0_bytes_N p0_size p0_bytes_f 6 x8 hx8) kw_cd_Rw_moveBack kw_ml_Fr_15 kw_im_Rw_moveBack kw_se_Rw_moveBack kw_in_Rw kd_Rw_moveBack (by decide) ⟨_, _, _, rfl, rfl, rfl⟩ [0, 1] [] rfl rfl (by decide) [0] rfl [0, 1] (by decide) (fun _ => rfl) rfl hl.1 (bs_ler rfl) (by decide) dc_Fr_wrap_8 rfl (fun _ H locs hq8 hP hD hS => ?_)
  refine lv_aload_n hx hb dc_Fr_wrap_11 rfl (lv_at hl 1 rfl) ?_
  refine lv_iconst (v := 0) hx hb dc_Fr_wrap_12 (by decide +kernel) ?_
  refine lv_bipush (v := 126) hx hb dc_Fr_wrap_13 (by decide +kernel) ?_
  obtain ⟨x15, hx15, hm⟩ := bs_bind hm
  refine bs_callVv 2 [] (fun _ => [(p0, .inr (4, [.ref p0_bytes, .int x8.1])), (p0_bytes, .inl (p0_bytes_c, p0_bytes_N, .inl x15))]) [] hx hb hml hown hB hN hK hP hD hS hA (ct_Rw_change l D F p0 p0_bytes p0_bytes_c p0_bytes_N x8.1 x8.2 0 126 x15 hx15) kw_cd_Rw_change kw_ml_Fr_19 kw_im_Rw_change kw_se_Rw_change kw_in_Rw kd_Rw_change (by decide) ⟨_, _, _, rfl, rfl, rfl⟩ [0, 1] [] rfl rfl (by decide) [0] rfl [0, 1] (by decide) (fun _ => rfl) rfl hl.1 (bs_ler rfl) (by decide) dc_Fr_wrap_15 rfl (fun _ H locs hq15 hP hD hS => ?_)
  refine lv_aload_n hx hb dc_Fr_wrap_18 rfl (lv_at hl 1 rfl) ?_
  refine lv_iconst (v := 1) hx hb dc_Fr_wrap_19 (by decide +kernel) ?_
  refine lv_iload_n hx hb dc_Fr_wrap_20 rfl (lv_at hl 0 rfl) ?_
  refine lv_if_ne (tgt := 28) hx hb dc_Fr_wrap_21 (by decide) (fun h21 => ?_) (fun h21 => ?_)
  · have hm := bs_neg h21 hm
    refine lv_bipush (v := 6) hx hb dc_Fr_wrap_28 (by decide +kernel) ?_
    refine lv_iload_n hx hb dc_Fr_wrap_30 rfl (lv_at hl 0 rfl) ?_
    refine lv_iadd hx hb dc_Fr_wrap_31 ?_
    refine lv_iconst (v := 3) hx hb dc_Fr_wrap_32 (by decide +kernel) ?_
    refine lv_iadd hx hb dc_Fr_wrap_33 ?_
    refine lv_iconst (v := 2) hx hb dc_Fr_wrap_34 (by decide +kernel) ?_
    refine lv_isub hx hb dc_Fr_wrap_35 ?_
    exact hJ36 i1 p0_size (((6 + p0_size) + 3) - 2) 1 x8.1 x15 ls _ _ hm (lv_sub hl [1, 2, 0] rfl) hP hD hS
  · have hm := bs_pos h21 hm
    refine lv_iconst (v := 5) hx hb dc_Fr_wrap_24 (by decide +kernel) ?_
    refine lv_goto (tgt := 36) hx hb dc_Fr_wrap_25 (by decide) ?_
    exact hJ36 i1 p0_size 5 1 x8.1 x15 ls _ _ hm (lv_sub hl [1, 2, 0] rfl) hP hD hS
set_option maxHeartbeats 2000000 in
set_option maxRecDepth 100000 in
theorem ct_Fr_isInformation (l : Launch) (D : va_G) (F : Nat) (i0 : Int32) (r : Int32) (hm : mm_Fr_isInformation F i0 = some r) :
    bs_CI l my_Fr_isInformation mb_Fr_isInformation 1 .boolean (bs_rm 0) D [.int i0] [] [] (S := Unit) (fun v (_ : Unit) => v = r) (fun _ => []) := by
  refine bs_CI.mk (by decide +kernel) (bs_ler rfl) ?_
  intro p e s m below meth c ls A hx hb hr hml hlk hown hB hN hP hK hD hS hA hl
  refine bs_genQ (fun Q hQ => ?_)
  have hl : lv_has ls 1 [(0, .int i0)] := hl
  have hm := (mq_Fr_isInformation F i0).symm.trans hm
  refine lv_iload_n hx hb dc_Fr_isInformation_0 rfl (lv_at hl 0 rfl) ?_
  refine lv_bipush (v := 17) hx hb dc_Fr_isInformation_1 (by decide +kernel) ?_
  refine lv_iand hx hb dc_Fr_isInformation_3 ?_
  refine lv_bipush (v := 16) hx hb dc_Fr_isInformation_4 (by decide +kernel) ?_
  refine lv_icmp_ne (tgt := 13) hx hb dc_Fr_isInformation_6 (by decide) (fun h6 => ?_) (fun h6 => ?_)
  · have hm := bs_neg h6 hm
    refine lv_iconst (v := 0) hx hb dc_Fr_isInformation_13 (by decide +kernel) ?_
    cases hm
    subst hQ
    exact bs_retZ hx hb hr hlk (by decide +kernel) () rfl hP hD hS dc_Fr_isInformation_14
  · have hm := bs_pos h6 hm
    refine lv_iconst (v := 1) hx hb dc_Fr_isInformation_9 (by decide +kernel) ?_
    refine lv_goto (tgt := 14) hx hb dc_Fr_isInformation_10 (by decide) ?_
    cases hm
    subst hQ
    exact bs_retZ hx hb hr hlk (by decide +kernel) () rfl hP hD hS dc_Fr_isInformation_14
set_option maxHeartbeats 2000000 in
set_option maxRecDepth 100000 in
theorem ct_Fr_payloadSize (l : Launch) (D : va_G) (F : Nat) (p0 : Nat) (p0_bytes : Nat) (p0_bytes_c : ClassId) (p0_bytes_N : Nat) (p0_size : Int32) (p0_bytes_f : Nat → Int32) (r : Int32) (hm : mm_Fr_payloadSize F p0_size = some r) :
    bs_CI l my_Fr_payloadSize mb_Fr_payloadSize 1 .int (bs_rm 0) D [.ref p0] [(p0_bytes_c, .int)] [(p0, .inr (4, [.ref p0_bytes, .int p0_size])), (p0_bytes, .inl (p0_bytes_c, p0_bytes_N, .inl p0_bytes_f))] (S := Unit) (fun v (_ : Unit) => v = r) (fun _ => [(p0, .inr (4, [.ref p0_bytes, .int p0_size])), (p0_bytes, .inl (p0_bytes_c, p0_bytes_N, .inl p0_bytes_f))]) := by
  refine bs_CI.mk (by decide +kernel) (bs_ler rfl) ?_
  intro p e s m below meth c ls A hx hb hr hml hlk hown hB hN hP hK hD hS hA hl
  refine bs_genQ (fun Q hQ => ?_)
  have hl : lv_has ls 1 [(0, .ref p0)] := hl
  have hm := (mq_Fr_payloadSize F p0_size).symm.trans hm
  refine lv_aload_n hx hb dc_Fr_payloadSize_0 rfl (lv_at hl 0 rfl) ?_
  refine va_getN (ci := 4) (v := .int p0_size) (C := cn_Rw) (T := cf_Rw) (N := 2) hx hb hB ki_Rw hown hK hP 0 rfl rfl 1 (by decide) (hN.use kn_Fr_7) (fun _ h => h) rfl dc_Fr_payloadSize_1 ?_
  refine lv_bipush (v := 6) hx hb dc_Fr_payloadSize_4 (by decide +kernel) ?_
  refine lv_isub hx hb dc_Fr_payloadSize_6 ?_
  refine lv_iconst (v := 3) hx hb dc_Fr_payloadSize_7 (by decide +kernel) ?_
  refine lv_isub hx hb dc_Fr_payloadSize_8 ?_
  cases hm
  subst hQ
  exact bs_retI hx hb hr hlk () rfl hP hD hS dc_Fr_payloadSize_9
set_option maxHeartbeats 2000000 in
set_option maxRecDepth 100000 in
theorem ct_Fr_before (l : Launch) (D : va_G) (F : Nat) (i0 : Int32) (r : Int32) (hm : mm_Fr_before F i0 = some r) :
    bs_CI l my_Fr_before mb_Fr_before 1 .int (bs_rm 0) D [.int i0] [] [] (S := Unit) (fun v (_ : Unit) => v = r) (fun _ => []) := by
  refine bs_CI.mk (by decide +kernel) (bs_ler rfl) ?_
  intro p e s m below meth c ls A hx hb hr hml hlk hown hB hN hP hK hD hS hA hl
  refine bs_genQ (fun Q hQ => ?_)
  have hl : lv_has ls 1 [(0, .int i0)] := hl
  have hm := (mq_Fr_before F i0).symm.trans hm
  refine lv_iload_n hx hb dc_Fr_before_0 rfl (lv_at hl 0 rfl) ?_
  refine lv_bipush (v := 7) hx hb dc_Fr_before_1 (by decide +kernel) ?_
  refine lv_iadd hx hb dc_Fr_before_3 ?_
  refine lv_bipush (v := 7) hx hb dc_Fr_before_4 (by decide +kernel) ?_
  refine lv_iand hx hb dc_Fr_before_6 ?_
  cases hm
  subst hQ
  exact bs_retI hx hb hr hlk () rfl hP hD hS dc_Fr_before_7
set_option maxHeartbeats 2000000 in
set_option maxRecDepth 100000 in
theorem ct_Fr_isChecked (l : Launch) (D : va_G) (F : Nat) (p0 : Nat) (p0_bytes : Nat) (p0_bytes_c : ClassId) (p0_bytes_N : Nat) (p0_size : Int32) (p0_bytes_f : Nat → Int32) (i1 : Int32) (r : Int32) (hm : mm_Fr_isChecked F p0_bytes_N i1 p0_size p0_bytes_f = some r) :
    bs_CI l my_Fr_isChecked mb_Fr_isChecked 3 .boolean (bs_rm 2) D [.ref p0, .int i1] [(p0_bytes_c, .int)] [(p0, .inr (4, [.ref p0_bytes, .int p0_size])), (p0_bytes, .inl (p0_bytes_c, p0_bytes_N, .inl p0_bytes_f))] (S := Unit) (fun v (_ : Unit) => v = r) (fun _ => [(p0, .inr (4, [.ref p0_bytes, .int p0_size])), (p0_bytes, .inl (p0_bytes_c, p0_bytes_N, .inl p0_bytes_f))]) := by
  refine bs_CI.mk (by decide +kernel) (bs_ler rfl) ?_
  intro p e s m below meth c ls A hx hb hr hml hlk hown hB hN hP hK hD hS hA hl
  refine bs_genQ (fun Q hQ => ?_)
  have hl : lv_has ls 3 [(0, .ref p0), (1, .int i1)] := hl
  have hm := (mq_Fr_isChecked F p0_bytes_N i1 p0_size p0_bytes_f).symm.trans hm
  refine lv_aload_n hx hb dc_Fr_isChecked_0 rfl (lv_at hl 0 rfl) ?_
  refine lv_iload_n hx hb dc_Fr_isChecked_1 rfl (lv_at hl 1 rfl) ?_
  obtain ⟨x2, hx2, hm⟩ := bs_bind hm
  refine bs_callSi 2 [] (fun _ => [(p0, .inr (4, [.ref p0_bytes, .int p0_size])), (p0_bytes, .inl (p0_bytes_c, p0_bytes_N, .inl p0_bytes_f))]) [] hx hb hml hown hB hN hK hP hD hS hA (ct_Fr_check l D F p0 p0_bytes p0_bytes_c p0_bytes_N p0_size p0_bytes_f i1 x2 hx2) kw_cd_Fr_check kw_ml_Fr_23 kw_st_Fr_check kw_in_Fr kd_Fr_check (by decide) [0, 1] [] rfl rfl (by decide) [0] rfl [0, 1] (by decide) (fun _ => rfl) rfl hl.1 (bs_ler rfl) (by decide) dc_Fr_isChecked_2 rfl (fun v2q _ H locs hq2 hP hD hS => ?_)
  have hq2 := hq2.symm
  subst hq2
  refine lv_istore_n hx hb dc_Fr_isChecked_5 rfl hl (by decide) rfl (fun ls hl => ?_)
  have hl : lv_has ls 3 [(2, .int x2), (0, .ref p0), (1, .int i1)] := hl
  refine lv_aload_n hx hb dc_Fr_isChecked_6 rfl (lv_at hl 1 rfl) ?_
  refine lv_iload_n hx hb dc_Fr_isChecked_7 rfl (lv_at hl 2 rfl) ?_
  obtain ⟨x8, hx8, hm⟩ := bs_bind hm
  refine bs_callVi 1 [] (fun _ => [(p0, .inr (4, [.ref p0_bytes, .int p0_size])), (p0_bytes, .inl (p0_bytes_c, p0_bytes_N, .inl p0_bytes_f))]) [] hx hb hml hown hB hN hK hP hD hS hA (ct_Rw_at l D F p0 p0_bytes p0_bytes_c p0_bytes_N p0_size p0_bytes_f i1 x8 hx8) kw_cd_Rw_at kw_ml_Fr_34 kw_im_Rw_at kw_se_Rw_at kw_in_Rw kd_Rw_at (by decide) ⟨_, _, _, rfl, rfl, rfl⟩ [0, 1] [] rfl rfl (by decide) [0] rfl [0, 1] (by decide) (fun _ => rfl) rfl hl.1 (bs_ler rfl) (by decide) dc_Fr_isChecked_8 rfl (fun v8q _ H locs hq8 hP hD hS => ?_)
  have hq8 := hq8.symm
  subst hq8
  refine lv_iload_n hx hb dc_Fr_isChecked_11 rfl (lv_at hl 0 rfl) ?_
  refine lv_sipush (v := 255) hx hb dc_Fr_isChecked_12 (by decide +kernel) ?_
  refine lv_iand hx hb dc_Fr_isChecked_15 ?_
  refine lv_icmp_ne (tgt := 37) hx hb dc_Fr_isChecked_16 (by decide) (fun h16 => ?_) (fun h16 => ?_)
  · have hm := bs_neg h16 hm
    refine lv_iconst (v := 0) hx hb dc_Fr_isChecked_37 (by decide +kernel) ?_
    cases hm
    subst hQ
    exact bs_retZ hx hb hr hlk (by decide +kernel) () rfl hP hD hS dc_Fr_isChecked_38
  · have hm := bs_pos h16 hm
    refine lv_aload_n hx hb dc_Fr_isChecked_19 rfl (lv_at hl 1 rfl) ?_
    refine lv_iload_n hx hb dc_Fr_isChecked_20 rfl (lv_at hl 2 rfl) ?_
    refine lv_iconst (v := 1) hx hb dc_Fr_isChecked_21 (by decide +kernel) ?_
    refine lv_iadd hx hb dc_Fr_isChecked_22 ?_
    obtain ⟨x23, hx23, hm⟩ := bs_bind hm
    refine bs_callVi 1 [] (fun _ => [(p0, .inr (4, [.ref p0_bytes, .int p0_size])), (p0_bytes, .inl (p0_bytes_c, p0_bytes_N, .inl p0_bytes_f))]) [] hx hb hml hown hB hN hK hP hD hS hA (ct_Rw_at l D F p0 p0_bytes p0_bytes_c p0_bytes_N p0_size p0_bytes_f (i1 + 1) x23 hx23) kw_cd_Rw_at kw_ml_Fr_34 kw_im_Rw_at kw_se_Rw_at kw_in_Rw kd_Rw_at (by decide) ⟨_, _, _, rfl, rfl, rfl⟩ [0, 1] [] rfl rfl (by decide) [0] rfl [0, 1] (by decide) (fun _ => rfl) rfl hl.1 (bs_ler rfl) (by decide) dc_Fr_isChecked_23 rfl (fun v23q _ H locs hq23 hP hD hS => ?_)
    have hq23 := hq23.symm
    subst hq23
    refine lv_iload_n hx hb dc_Fr_isChecked_26 rfl (lv_at hl 0 rfl) ?_
    refine lv_bipush (v := 8) hx hb dc_Fr_isChecked_27 (by decide +kernel) ?_
    refine lv_ishr hx hb dc_Fr_isChecked_29 ?_
    refine lv_icmp_ne (tgt := 37) hx hb dc_Fr_isChecked_30 (by decide) (fun h30 => ?_) (fun h30 => ?_)
    · have hm := bs_neg h30 hm
      refine lv_iconst (v := 0) hx hb dc_Fr_isChecked_37 (by decide +kernel) ?_
      cases hm
      subst hQ
      exact bs_retZ hx hb hr hlk (by decide +kernel) () rfl hP hD hS dc_Fr_isChecked_38
    · have hm := bs_pos h30 hm
      refine lv_iconst (v := 1) hx hb dc_Fr_isChecked_33 (by decide +kernel) ?_
      refine lv_goto (tgt := 38) hx hb dc_Fr_isChecked_34 (by decide) ?_
      cases hm
      subst hQ
      exact bs_retZ hx hb hr hlk (by decide +kernel) () rfl hP hD hS dc_Fr_isChecked_38
