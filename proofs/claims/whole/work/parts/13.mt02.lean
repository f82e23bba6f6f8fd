set_option maxHeartbeats 2000000 in
set_option maxRecDepth 100000 in
theorem ct_Mt_takeNumber (l : Launch) (D : va_G) (F : Nat) (t : Nat) (t_registers : Nat) (t_profile : Nat) (t_profile_columns : Nat) (t_profile_ring : Nat) (p1 : Nat) (p1_bytes : Nat) (t_registers_c : ClassId) (t_profile_columns_c : ClassId) (t_profile_ring_c : ClassId) (p1_bytes_c : ClassId) (p1_bytes_N : Nat) (t_now : Int32) (t_registers_f : Nat → Int32) (t_profile_columnCount : Int32) (t_profile_capacity : Int32) (t_profile_period : Int32) (t_profile_first : Int32) (t_profile_size : Int32) (t_profile_columns_f : Nat → Int32) (t_profile_ring_f : Nat → Int32) (p1_size : Int32) (p1_bytes_f : Nat → Int32) (i2 : Int32) (i3 : Int32) (r : Int32 × Int32 × (Nat → Int32) × Int32 × Int32 × Int32 × Int32) (hm : mm_Mt_takeNumber F p1_bytes_N i2 i3 t_now t_registers_f t_profile_capacity t_profile_period t_profile_first t_profile_size p1_size p1_bytes_f = some r) :
    bs_CI l my_Mt_takeNumber mb_Mt_takeNumber 6 .boolean (bs_rm 2) D [.ref t, .ref p1, .int i2, .int i3] [(t_registers_c, .int), (t_profile_columns_c, .int), (t_profile_ring_c, .int), (p1_bytes_c, .int)] [(t, .inr (2, [.ref t_registers, .ref t_profile, .int t_now])), (t_registers, .inl (t_registers_c, 3, .inl t_registers_f)), (t_profile, .inr (3, [.ref t_profile_columns, .ref t_profile_ring, .int t_profile_columnCount, .int t_profile_capacity, .int t_profile_period, .int t_profile_first, .int t_profile_size])), (t_profile_columns, .inl (t_profile_columns_c, 3, .inl t_profile_columns_f)), (t_profile_ring, .inl (t_profile_ring_c, 48, .inl t_profile_ring_f)), (p1, .inr (4, [.ref p1_bytes, .int p1_size])), (p1_bytes, .inl (p1_bytes_c, p1_bytes_N, .inl p1_bytes_f))] (S := Unit) (fun v (_ : Unit) => v = r.1) (fun _ => [(t, .inr (2, [.ref t_registers, .ref t_profile, .int r.2.1])), (t_registers, .inl (t_registers_c, 3, .inl r.2.2.1)), (t_profile, .inr (3, [.ref t_profile_columns, .ref t_profile_ring, .int t_profile_columnCount, .int r.2.2.2.1, .int r.2.2.2.2.1, .int r.2.2.2.2.2.1, .int r.2.2.2.2.2.2])), (t_profile_columns, .inl (t_profile_columns_c, 3, .inl t_profile_columns_f)), (t_profile_ring, .inl (t_profile_ring_c, 48, .inl t_profile_ring_f)), (p1, .inr (4, [.ref p1_bytes, .int p1_size])), (p1_bytes, .inl (p1_bytes_c, p1_bytes_N, .inl p1_bytes_f))]) := by
  refine bs_CI.mk (by decide +kernel) (bs_ler rfl) ?_
  intro p e s m below meth c ls A hx hb hr hml hlk hown hB hN hP hK hD hS hA hl
  refine bs_genQ (fun Q hQ => ?_)
  have hJ13 : ∀ (v2 : Int32) (v3 : Int32) (s0 : Int32) (t_now : Int32) (t_registers_f : Nat → Int32) (t_profile_capacity : Int32) (t_profile_period : Int32) (t_profile_first : Int32) (t_profile_size : Int32) (ls : Array Slot) (H : Heap) (locs : List Loc), mm_Mt_takeNumber_J13 F p1_bytes_N v2 v3 s0 t_now t_registers_f t_profile_capacity t_profile_period t_profile_first t_profile_size p1_size p1_bytes_f = some r → lv_has ls 6 [(0, .ref t), (1, .ref p1), (2, .int v2), (3, .int v3)] → va_P D bs_cl [(t, .inr (2, [.ref t_registers, .ref t_profile, .int t_now])), (t_registers, .inl (t_registers_c, 3, .inl t_registers_f)), (t_profile, .inr (3, [.ref t_profile_columns, .ref t_profile_ring, .int t_profile_columnCount, .int t_profile_capacity, .int t_profile_period, .int t_profile_first, .int t_profile_size])), (t_profile_columns, .inl (t_profile_columns_c, 3, .inl t_profile_columns_f)), (t_profile_ring, .inl (t_profile_ring_c, 48, .inl t_profile_ring_f)), (p1, .inr (4, [.ref p1_bytes, .int p1_size])), (p1_bytes, .inl (p1_bytes_c, p1_bytes_N, .inl p1_bytes_f))] H → va_D A [(t, .inr (2, [.ref t_registers, .ref t_profile, .int t_now])), (t_registers, .inl (t_registers_c, 3, .inl t_registers_f)), (t_profile, .inr (3, [.ref t_profile_columns, .ref t_profile_ring, .int t_profile_columnCount, .int t_profile_capacity, .int t_profile_period, .int t_profile_first, .int t_profile_size])), (t_profile_columns, .inl (t_profile_columns_c, 3, .inl t_profile_columns_f)), (t_profile_ring, .inl (t_profile_ring_c, 48, .inl t_profile_ring_f)), (p1, .inr (4, [.ref p1_bytes, .int p1_size])), (p1_bytes, .inl (p1_bytes_c, p1_bytes_N, .inl p1_bytes_f))] → va_S A s.heap H locs → W p l e (bs_rm 2) s m [.ref t, .ref p1, .int i2, .int i3].toArray below meth c H locs 0 0 Q (F0 m 13 ls [.int s0]) := by
    intro v2 v3 s0 t_now t_registers_f t_profile_capacity t_profile_period t_profile_first t_profile_size ls H locs hm hl hP hD hS
    have hm := (mq_Mt_takeNumber_J13 F p1_bytes_N v2 v3 s0 t_now t_registers_f t_profile_capacity t_profile_period t_profile_first t_profile_size p1_size p1_bytes_f).symm.trans hm
    refine lv_istore hx hb dc_Mt_takeNumber_13 hl (by decide) rfl (fun ls hl => ?_)
    have hl : lv_has ls 6 [(4, .int s0), (0, .ref t), (1, .ref p1), (2, .int v2), (3, .int v3)] := hl
    refine lv_aload_n hx hb dc_Mt_takeNumber_15 rfl (lv_at hl 2 rfl) ?_
    refine va_getN (ci := 4) (v := .int p1_size) (C := cn_Rw) (T := cf_Rw) (N := 2) hx hb hB ki_Rw hown hK hP 5 rfl rfl 1 (by decide) (hN.use kn_Mt_80) (fun _ h => h) rfl dc_Mt_takeNumber_16 ?_
    refine lv_bipush (v := 8) hx hb dc_Mt_takeNumber_19 (by decide +kernel) ?_
    refine lv_icmp_ne (tgt := 34) hx hb dc_Mt_takeNumber_21 (by decide) (fun h21 => ?_) (fun h21 => ?_)
    · have hm := bs_neg h21 hm
      refine lv_iconst (v := 0) hx hb dc_Mt_takeNumber_34 (by decide +kernel) ?_
      cases hm
      subst hQ
      exact bs_retZ hx hb hr hlk (by decide +kernel) () rfl hP hD hS dc_Mt_takeNumber_35
    · have hm := bs_pos h21 hm
      refine lv_aload_n hx hb dc_Mt_takeNumber_24 rfl (lv_at hl 2 rfl) ?_
      refine lv_iconst (v := 3) hx hb dc_Mt_takeNumber_25 (by decide +kernel) ?_
      obtain ⟨x26, hx26, hm⟩ := bs_bind hm
      refine bs_callVi 1 [(t, .inr (2, [.ref t_registers, .ref t_profile, .int t_now])), (t_registers, .inl (t_registers_c, 3, .inl t_registers_f)), (t_profile, .inr (3, [.ref t_profile_columns, .ref t_profile_ring, .int t_profile_columnCount, .int t_profile_capacity, .int t_profile_period, .int t_profile_first, .int t_profile_size])), (t_profile_columns, .inl (t_profile_columns_c, 3, .inl t_profile_columns_f)), (t_profile_ring, .inl (t_profile_ring_c, 48, .inl t_profile_ring_f))] (fun _ => [(t, .inr (2, [.ref t_registers, .ref t_profile, .int t_now])), (t_registers, .inl (t_registers_c, 3, .inl t_registers_f)), (t_profile, .inr (3, [.ref t_profile_columns, .ref t_profile_ring, .int t_profile_columnCount, .int t_profile_capacity, .int t_profile_period, .int t_profile_first, .int t_profile_size])), (t_profile_columns, .inl (t_profile_columns_c, 3, .inl t_profile_columns_f)), (t_profile_ring, .inl (t_profile_ring_c, 48, .inl t_profile_ring_f)), (p1, .inr (4, [.ref p1_bytes, .int p1_size])), (p1_bytes, .inl (p1_bytes_c, p1_bytes_N, .inl p1_bytes_f))]) [] hx hb hml hown hB hN hK hP hD hS hA (ct_Rw_at l D F p1 p1_bytes p1_bytes_c p1_bytes_N p1_size p1_bytes_f 3 x26 hx26) kw_cd_Rw_at kw_ml_Mt_65 kw_im_Rw_at kw_se_Rw_at kw_in_Rw kd_Rw_at (by decide) ⟨_, _, _, rfl, rfl, rfl⟩ [5, 6] [0, 1, 2, 3, 4] rfl rfl (by decide) [3] rfl [0, 1, 2, 3, 4, 5, 6] (by decide) (fun _ => rfl) rfl hl.1 (bs_ler rfl) (by decide) dc_Mt_takeNumber_26 rfl (fun v26q _ H locs hq26 hP hD hS => ?_)
      have hq26 := hq26.symm
      subst hq26
      refine lv_iload hx hb dc_Mt_takeNumber_29 (lv_at hl 0 rfl) ?_
      refine lv_icmp_eq (tgt := 36) hx hb dc_Mt_takeNumber_31 (by decide) (fun h31 => ?_) (fun h31 => ?_)
      · have hm := bs_pos h31 hm
        refine lv_aload_n hx hb dc_Mt_takeNumber_36 rfl (lv_at hl 2 rfl) ?_
        refine lv_iconst (v := 4) hx hb dc_Mt_takeNumber_37 (by decide +kernel) ?_
        obtain ⟨x38, hx38, hm⟩ := bs_bind hm
        refine bs_callVi 1 [(t, .inr (2, [.ref t_registers, .ref t_profile, .int t_now])), (t_registers, .inl (t_registers_c, 3, .inl t_registers_f)), (t_profile, .inr (3, [.ref t_profile_columns, .ref t_profile_ring, .int t_profile_columnCount, .int t_profile_capacity, .int t_profile_period, .int t_profile_first, .int t_profile_size])), (t_profile_columns, .inl (t_profile_columns_c, 3, .inl t_profile_columns_f)), (t_profile_ring, .inl (t_profile_ring_c, 48, .inl t_profile_ring_f))] (fun _ => [(t, .inr (2, [.ref t_registers, .ref t_profile, .int t_now])), (t_registers, .inl (t_registers_c, 3, .inl t_registers_f)), (t_profile, .inr (3, [.ref t_profile_columns, .ref t_profile_ring, .int t_profile_columnCount, .int t_profile_capacity, .int t_profile_period, .int t_profile_first, .int t_profile_size])), (t_profile_columns, .inl (t_profile_columns_c, 3, .inl t_profile_columns_f)), (t_profile_ring, .inl (t_profile_ring_c, 48, .inl t_profile_ring_f)), (p1, .inr (4, [.ref p1_bytes, .int p1_size])), (p1_bytes, .inl (p1_bytes_c, p1_bytes_N, .inl p1_bytes_f))]) [] hx hb hml hown hB hN hK hP hD hS hA (ct_Rw_intAt l D F p1 p1_bytes p1_bytes_c p1_bytes_N p1_size p1_bytes_f 4 x38 hx38) kw_cd_Rw_intAt kw_ml_Mt_83 kw_im_Rw_intAt kw_se_Rw_intAt kw_in_Rw kd_Rw_intAt (by decide) ⟨_, _, _, rfl, rfl, rfl⟩ [5, 6] [0, 1, 2, 3, 4] rfl rfl (by decide) [3] rfl [0, 1, 2, 3, 4, 5, 6] (by decide) (fun _ => rfl) rfl hl.1 (bs_ler rfl) (by decide) dc_Mt_takeNumber_38 rfl (fun v38q _ H locs hq38 hP hD hS => ?_)
        have hq38 := hq38.symm
        subst hq38
        refine lv_istore hx hb dc_Mt_takeNumber_41 hl (by decide) rfl (fun ls hl => ?_)
        have hl : lv_has ls 6 [(5, .int x38), (4, .int s0), (0, .ref t), (1, .ref p1), (2, .int v2), (3, .int v3)] := hl
        refine lv_iload_n hx hb dc_Mt_takeNumber_43 rfl (lv_at hl 4 rfl) ?_
        obtain ⟨x44, hx44, hm⟩ := bs_bind hm
        refine bs_callSi 1 [(t, .inr (2, [.ref t_registers, .ref t_profile, .int t_now])), (t_registers, .inl (t_registers_c, 3, .inl t_registers_f)), (t_profile, .inr (3, [.ref t_profile_columns, .ref t_profile_ring, .int t_profile_columnCount, .int t_profile_capacity, .int t_profile_period, .int t_profile_first, .int t_profile_size])), (t_profile_columns, .inl (t_profile_columns_c, 3, .inl t_profile_columns_f)), (t_profile_ring, .inl (t_profile_ring_c, 48, .inl t_profile_ring_f)), (p1, .inr (4, [.ref p1_bytes, .int p1_size])), (p1_bytes, .inl (p1_bytes_c, p1_bytes_N, .inl p1_bytes_f))] (fun _ => [(t, .inr (2, [.ref t_registers, .ref t_profile, .int t_now])), (t_registers, .inl (t_registers_c, 3, .inl t_registers_f)), (t_profile, .inr (3, [.ref t_profile_columns, .ref t_profile_ring, .int t_profile_columnCount, .int t_profile_capacity, .int t_profile_period, .int t_profile_first, .int t_profile_size])), (t_profile_columns, .inl (t_profile_columns_c, 3, .inl t_profile_columns_f)), (t_profile_ring, .inl (t_profile_ring_c, 48, .inl t_profile_ring_f)), (p1, .inr (4, [.ref p1_bytes, .int p1_size])), (p1_bytes, .inl (p1_bytes_c, p1_bytes_N, .inl p1_bytes_f))]) [] hx hb hml hown hB hN hK hP hD hS hA (ct_Mt_isRegister l D F v2 x44 hx44) kw_cd_Mt_isRegister kw_ml_Mt_59 kw_st_Mt_isRegister kw_in_Mt kd_Mt_isRegister (by decide) [] [0, 1, 2, 3, 4, 5, 6] rfl rfl (by decide) [] rfl [0, 1, 2, 3, 4, 5, 6] (by decide) (fun _ => rfl) rfl hl.1 (bs_ler rfl) (by decide) dc_Mt_takeNumber_44 rfl (fun v44q _ H locs hq44 hP hD hS => ?_)
        have hq44 := hq44.symm
        subst hq44
        refine lv_if_eq (tgt := 62) hx hb dc_Mt_takeNumber_47 (by decide) (fun h47 => ?_) (fun h47 => ?_)
        · have hm := bs_pos h47 hm
          refine lv_iload_n hx hb dc_Mt_takeNumber_62 rfl (lv_at hl 4 rfl) ?_
          refine lv_iconst (v := 4) hx hb dc_Mt_takeNumber_63 (by decide +kernel) ?_
          refine lv_icmp_ne (tgt := 94) hx hb dc_Mt_takeNumber_64 (by decide) (fun h64 => ?_) (fun h64 => ?_)
          · have hm := bs_neg h64 hm
            refine lv_aload_n hx hb dc_Mt_takeNumber_94 rfl (lv_at hl 2 rfl) ?_
            refine lv_iload hx hb dc_Mt_takeNumber_95 (lv_at hl 0 rfl) ?_
            obtain ⟨x97, hx97, hm⟩ := bs_bind hm
            refine bs_callVi 1 [(p1, .inr (4, [.ref p1_bytes, .int p1_size])), (p1_bytes, .inl (p1_bytes_c, p1_bytes_N, .inl p1_bytes_f))] (fun _ => [(t, .inr (2, [.ref t_registers, .ref t_profile, .int x97.2])), (t_registers, .inl (t_registers_c, 3, .inl t_registers_f)), (t_profile, .inr (3, [.ref t_profile_columns, .ref t_profile_ring, .int t_profile_columnCount, .int t_profile_capacity, .int t_profile_period, .int t_profile_first, .int t_profile_size])), (t_profile_columns, .inl (t_profile_columns_c, 3, .inl t_profile_columns_f)), (t_profile_ring, .inl (t_profile_ring_c, 48, .inl t_profile_ring_f)), (p1, .inr (4, [.ref p1_bytes, .int p1_size])), (p1_bytes, .inl (p1_bytes_c, p1_bytes_N, .inl p1_bytes_f))]) [] hx hb hml hown hB hN hK hP hD hS hA (ct_Mt_takeTime l D F t t_registers t_profile t_profile_columns t_profile_ring t_registers_c t_profile_columns_c t_profile_ring_c t_now t_registers_f t_profile_columnCount t_profile_capacity t_profile_period t_profile_first t_profile_size t_profile_columns_f t_profile_ring_f x38 x97 hx97) kw_cd_Mt_takeTime kw_ml_Mt_92 kw_im_Mt_takeTime kw_se_Mt_takeTime kw_in_Mt kd_Mt_takeTime (by decide) ⟨_, _, _, rfl, rfl, rfl⟩ [0, 1, 2, 3, 4] [5, 6] rfl rfl (by decide) [0, 1, 2] rfl [2, 3, 4, 5, 6, 0, 1] (by decide) (fun _ => rfl) rfl hl.1 (bs_ler rfl) (by decide) dc_Mt_takeNumber_97 rfl (fun v97q _ H locs hq97 hP hD hS => ?_)
            have hq97 := hq97.symm
            subst hq97
            obtain ⟨hz100, hm⟩ := bs_zz hm
            cases hm
            subst hQ
            exact bs_retZ hx hb hr hlk hz100 () rfl hP hD hS dc_Mt_takeNumber_100
          · have hm := bs_pos h64 hm
            refine lv_iload_n hx hb dc_Mt_takeNumber_67 rfl (lv_at hl 5 rfl) ?_
            refine lv_iconst (v := 4) hx hb dc_Mt_takeNumber_68 (by decide +kernel) ?_
            refine lv_icmp_ne (tgt := 84) hx hb dc_Mt_takeNumber_69 (by decide) (fun h69 => ?_) (fun h69 => ?_)
            · have hm := bs_neg h69 hm
              refine lv_aload_n hx hb dc_Mt_takeNumber_84 rfl (lv_at hl 2 rfl) ?_
              refine va_get (ci := 2) (v := .ref t_profile) (C := cn_Mt) (T := cf_Mt) (N := 3) hx hb hB ki_Mt hown hK hP 0 rfl rfl 1 (by decide) (hB _ kw_fl_Mt_22) (fun _ h => h) rfl dc_Mt_takeNumber_85 ?_
              refine lv_iload hx hb dc_Mt_takeNumber_88 (lv_at hl 0 rfl) ?_
              obtain ⟨x90, hx90, hm⟩ := bs_bind hm
              refine bs_callVi 1 [(t, .inr (2, [.ref t_registers, .ref t_profile, .int t_now])), (t_registers, .inl (t_registers_c, 3, .inl t_registers_f)), (p1, .inr (4, [.ref p1_bytes, .int p1_size])), (p1_bytes, .inl (p1_bytes_c, p1_bytes_N, .inl p1_bytes_f))] (fun _ => [(t, .inr (2, [.ref t_registers, .ref t_profile, .int t_now])), (t_registers, .inl (t_registers_c, 3, .inl t_registers_f)), (t_profile, .inr (3, [.ref t_profile_columns, .ref t_profile_ring, .int t_profile_columnCount, .int x90.2.1, .int t_profile_period, .int x90.2.2.1, .int x90.2.2.2])), (t_profile_columns, .inl (t_profile_columns_c, 3, .inl t_profile_columns_f)), (t_profile_ring, .inl (t_profile_ring_c, 48, .inl t_profile_ring_f)), (p1, .inr (4, [.ref p1_bytes, .int p1_size])), (p1_bytes, .inl (p1_bytes_c, p1_bytes_N, .inl p1_bytes_f))]) [] hx hb hml hown hB hN hK hP hD hS hA (ct_Pf_takeCapacity l D F t_profile t_profile_columns t_profile_ring t_profile_columns_c t_profile_ring_c t_profile_columnCount t_profile_capacity t_profile_period t_profile_first t_profile_size t_profile_columns_f t_profile_ring_f x38 x90 hx90) kw_cd_Pf_takeCapacity kw_ml_Mt_89 kw_im_Pf_takeCapacity kw_se_Pf_takeCapacity kw_in_Pf kd_Pf_takeCapacity (by decide) ⟨_, _, _, rfl, rfl, rfl⟩ [2, 3, 4] [0, 1, 5, 6] rfl rfl (by decide) [1, 2] rfl [0, 1, 4, 5, 6, 2, 3] (by decide) (fun _ => rfl) rfl hl.1 (bs_ler rfl) (by decide) dc_Mt_takeNumber_90 rfl (fun v90q _ H locs hq90 hP hD hS => ?_)
              have hq90 := hq90.symm
              subst hq90
              obtain ⟨hz93, hm⟩ := bs_zz hm
              cases hm
              subst hQ
              exact bs_retZ hx hb hr hlk hz93 () rfl hP hD hS dc_Mt_takeNumber_93
            · have hm := bs_pos h69 hm
              refine lv_aload_n hx hb dc_Mt_takeNumber_72 rfl (lv_at hl 2 rfl) ?_
              refine va_get (ci := 2) (v := .ref t_profile) (C := cn_Mt) (T := cf_Mt) (N := 3) hx hb hB ki_Mt hown hK hP 0 rfl rfl 1 (by decide) (hB _ kw_fl_Mt_22) (fun _ h => h) rfl dc_Mt_takeNumber_73 ?_
              refine lv_iload hx hb dc_Mt_takeNumber_76 (lv_at hl 0 rfl) ?_
              obtain ⟨x78, hx78, hm⟩ := bs_bind hm
              refine bs_callVi 1 [(t, .inr (2, [.ref t_registers, .ref t_profile, .int t_now])), (t_registers, .inl (t_registers_c, 3, .inl t_registers_f)), (p1, .inr (4, [.ref p1_bytes, .int p1_size])), (p1_bytes, .inl (p1_bytes_c, p1_bytes_N, .inl p1_bytes_f))] (fun _ => [(t, .inr (2, [.ref t_registers, .ref t_profile, .int t_now])), (t_registers, .inl (t_registers_c, 3, .inl t_registers_f)), (t_profile, .inr (3, [.ref t_profile_columns, .ref t_profile_ring, .int t_profile_columnCount, .int t_profile_capacity, .int x78.2, .int t_profile_first, .int t_profile_size])), (t_profile_columns, .inl (t_profile_columns_c, 3, .inl t_profile_columns_f)), (t_profile_ring, .inl (t_profile_ring_c, 48, .inl t_profile_ring_f)), (p1, .inr (4, [.ref p1_bytes, .int p1_size])), (p1_bytes, .inl (p1_bytes_c, p1_bytes_N, .inl p1_bytes_f))]) [] hx hb hml hown hB hN hK hP hD hS hA (ct_Pf_takePeriod l D F t_profile t_profile_columns t_profile_ring t_profile_columns_c t_profile_ring_c t_profile_columnCount t_profile_capacity t_profile_period t_profile_first t_profile_size t_profile_columns_f t_profile_ring_f x38 x78 hx78) kw_cd_Pf_takePeriod kw_ml_Mt_86 kw_im_Pf_takePeriod kw_se_Pf_takePeriod kw_in_Pf kd_Pf_takePeriod (by decide) ⟨_, _, _, rfl, rfl, rfl⟩ [2, 3, 4] [0, 1, 5, 6] rfl rfl (by decide) [1, 2] rfl [0, 1, 4, 5, 6, 2, 3] (by decide) (fun _ => rfl) rfl hl.1 (bs_ler rfl) (by decide) dc_Mt_takeNumber_78 rfl (fun v78q _ H locs hq78 hP hD hS => ?_)
              have hq78 := hq78.symm
              subst hq78
              refine lv_goto (tgt := 93) hx hb dc_Mt_takeNumber_81 (by decide) ?_
              obtain ⟨hz93, hm⟩ := bs_zz hm
              cases hm
              subst hQ
              exact bs_retZ hx hb hr hlk hz93 () rfl hP hD hS dc_Mt_takeNumber_93
        · have hm := bs_neg h47 hm
          refine lv_aload_n hx hb dc_Mt_takeNumber_50 rfl (lv_at hl 2 rfl) ?_
          refine va_get (ci := 2) (v := .ref t_registers) (C := cn_Mt) (T := cf_Mt) (N := 3) hx hb hB ki_Mt hown hK hP 0 rfl rfl 0 (by decide) (hB _ kw_fl_Mt_9) (fun _ h => h) rfl dc_Mt_takeNumber_51 ?_
          refine lv_iload_n hx hb dc_Mt_takeNumber_54 rfl (lv_at hl 4 rfl) ?_
          refine lv_iconst (v := 1) hx hb dc_Mt_takeNumber_55 (by decide +kernel) ?_
          refine lv_isub hx hb dc_Mt_takeNumber_56 ?_
          refine lv_iload hx hb dc_Mt_takeNumber_57 (lv_at hl 0 rfl) ?_
          obtain ⟨hz59, hm⟩ := bs_nn hm
          refine va_iast hx hb hK hP hD hS 1 0 rfl rfl hz59 dc_Mt_takeNumber_59 (fun H locs hP hD hS => ?_)
          obtain ⟨hP, hD⟩ := bs_say [(t, .inr (2, [.ref t_registers, .ref t_profile, .int t_now])), (t_registers, .inl (t_registers_c, 3, .inl (upd t_registers_f ((v2 - 1).toNatClampNeg) x38))), (t_profile, .inr (3, [.ref t_profile_columns, .ref t_profile_ring, .int t_profile_columnCount, .int t_profile_capacity, .int t_profile_period, .int t_profile_first, .int t_profile_size])), (t_profile_columns, .inl (t_profile_columns_c, 3, .inl t_profile_columns_f)), (t_profile_ring, .inl (t_profile_ring_c, 48, .inl t_profile_ring_f)), (p1, .inr (4, [.ref p1_bytes, .int p1_size])), (p1_bytes, .inl (p1_bytes_c, p1_bytes_N, .inl p1_bytes_f))] hP hD
          refine lv_iconst (v := 1) hx hb dc_Mt_takeNumber_60 (by decide +kernel) ?_
          cases hm
          subst hQ
          exact bs_retZ hx hb hr hlk (by decide +kernel) () rfl hP hD hS dc_Mt_takeNumber_61
      · have hm := bs_neg h31 hm
        refine lv_iconst (v := 0) hx hb dc_Mt_takeNumber_34 (by decide +kernel) ?_
        cases hm
        subst hQ
        exact bs_retZ hx hb hr hlk (by decide +kernel) () rfl hP hD hS dc_Mt_takeNumber_35
  have hl : lv_has ls 6 [(0, .ref t), (1, .ref p1), (2, .int i2), (3, .int i3)] := hl
  have hm := (mq_Mt_takeNumber F p1_bytes_N i2 i3 t_now t_registers_f t_profile_capacity t_profile_period t_profile_first t_profile_size p1_size p1_bytes_f).symm.trans hm
  refine lv_iload_n hx hb dc_Mt_takeNumber_0 rfl (lv_at hl 2 rfl) ?_
  obtain ⟨x1, hx1, hm⟩ := bs_bind hm
  refine bs_callSi 1 [(t, .inr (2, [.ref t_registers, .ref t_profile, .int t_now])), (t_registers, .inl (t_registers_c, 3, .inl t_registers_f)), (t_profile, .inr (3, [.ref t_profile_columns, .ref t_profile_ring, .int t_profile_columnCount, .int t_profile_capacity, .int t_profile_period, .int t_profile_first, .int t_profile_size])), (t_profile_columns, .inl (t_profile_columns_c, 3, .inl t_profile_columns_f)), (t_profile_ring, .inl (t_profile_ring_c, 48, .inl t_profile_ring_f)), (p1, .inr (4, [.ref p1_bytes, .int p1_size])), (p1_bytes, .inl (p1_bytes_c, p1_bytes_N, .inl p1_bytes_f))] (fun _ => [(t, .inr (2, [.ref t_registers, .ref t_profile, .int t_now])), (t_registers, .inl (t_registers_c, 3, .inl t_registers_f)), (t_profile, .inr (3, [.ref t_profile_columns, .ref t_profile_ring, .int t_profile_columnCount, .int t_profile_capacity, .int t_profile_period, .int t_profile_first, .int t_profile_size])), (t_profile_columns, .inl (t_profile_columns_c, 3, .inl t_profile_columns_f)), (t_profile_ring, .inl (t_profile_ring_c, 48, .inl t_profile_ring_f)), (p1, .inr (4, [.ref p1_bytes, .int p1_size])), (p1_bytes, .inl (p1_bytes_c, p1_bytes_N, .inl p1_bytes_f))]) [] hx hb hml hown hB hN hK hP hD hS hA (ct_Mt_isRegister l D F i2 x1 hx1) kw_cd_Mt_isRegister kw_ml_Mt_59 kw_st_Mt_isRegister kw_in_Mt kd_Mt_isRegister (by decide) [] [0, 1, 2, 3, 4, 5, 6] rfl rfl (by decide) [] rfl [0, 1, 2, 3, 4, 5, 6] (by decide) (fun _ => rfl) rfl hl.1 (bs_ler rfl) (by decide) dc_Mt_takeNumber_1 rfl (fun v1q _ H locs hq1 hP hD hS => ?_)
  have hq1 := hq1.symm
  subst hq1
  refine lv_if_eq (tgt := 11) hx hb dc_Mt_takeNumber_4 (by decide) (fun h4 => ?_) (fun h4 => ?_)
  · have hm := bs_pos h4 hm
    refine lv_bipush (v := 6) hx hb dc_Mt_takeNumber_11 (by decide +kernel) ?_
    exact hJ13 i2 i3 6 t_now t_registers_f t_profile_capacity t_profile_period t_profile_first t_profile_size ls _ _ hm hl hP hD hS
  · have hm := bs_neg h4 hm
    refine lv_iconst (v := 5) hx hb dc_Mt_takeNumber_7 (by decide +kernel) ?_
    refine lv_goto (tgt := 13) hx hb dc_Mt_takeNumber_8 (by decide) ?_
    exact hJ13 i2 i3 5 t_now t_registers_f t_profile_capacity t_profile_period t_profile_first t_profile_size ls _ _ hm hl hP hD hS
set_option maxHeartbeats 2000000 in
set_option maxRecDepth 100000 in
theorem ct_Mt_set (l : Launch) (D : va_G) (F : Nat) (t : Nat) (t_registers : Nat) (t_profile : Nat) (t_profile_columns : Nat) (t_profile_ring : Nat) (p1 : Nat) (p1_bytes : Nat) (t_registers_c : ClassId) (t_profile_columns_c : ClassId) (t_profile_ring_c : ClassId) (p1_bytes_c : ClassId) (p1_bytes_N : Nat) (t_now : Int32) (t_registers_f : Nat → Int32) (t_profile_columnCount : Int32) (t_profile_capacity : Int32) (t_profile_period : Int32) (t_profile_first : Int32) (t_profile_size : Int32) (t_profile_columns_f : Nat → Int32) (t_profile_ring_f : Nat → Int32) (p1_size : Int32) (p1_bytes_f : Nat → Int32) (i2 : Int32) (r : Int32 × Int32 × (Nat → Int32) × Int32 × Int32 × Int32 × Int32 × Int32 × (Nat → Int32)) (hm : mm_Mt_set F p1_bytes_N i2 t_now t_registers_f t_profile_columnCount t_profile_capacity t_profile_period t_profile_first t_profile_size t_profile_columns_f p1_size p1_bytes_f = some r) :
    bs_CI l my_Mt_set mb_Mt_set 6 .int (bs_rm 3) D [.ref t, .ref p1, .int i2] [(t_registers_c, .int), (t_profile_columns_c, .int), (t_profile_ring_c, .int), (p1_bytes_c, .int)] [(t, .inr (2, [.ref t_registers, .ref t_profile, .int t_now])), (t_registers, .inl (t_registers_c, 3, .inl t_registers_f)), (t_profile, .inr (3, [.ref t_profile_columns, .ref t_profile_ring, .int t_profile_columnCount, .int t_profile_capacity, .int t_profile_period, .int t_profile_first, .int t_profile_size])), (t_profile_columns, .inl (t_profile_columns_c, 3, .inl t_profile_columns_f)), (t_profile_ring, .inl (t_profile_ring_c, 48, .inl t_profile_ring_f)), (p1, .inr (4, [.ref p1_bytes, .int p1_size])), (p1_bytes, .inl (p1_bytes_c, p1_bytes_N, .inl p1_bytes_f))] (S := Unit) (fun v (_ : Unit) => v = r.1) (fun _ => [(t, .inr (2, [.ref t_registers, .ref t_profile, .int r.2.1])), (t_registers, .inl (t_registers_c, 3, .inl r.2.2.1)), (t_profile, .inr (3, [.ref t_profile_columns, .ref t_profile_ring, .int r.2.2.2.1, .int r.2.2.2.2.1, .int r.2.2.2.2.2.1, .int r.2.2.2.2.2.2.1, .int r.2.2.2.2.2.2.2.1])), (t_profile_columns, .inl (t_profile_columns_c, 3, .inl r.2.2.2.2.2.2.2.2)), (t_profile_ring, .inl (t_profile_ring_c, 48, .inl t_profile_ring_f)), (p1, .inr (4, [.ref p1_bytes, .int p1_size])), (p1_bytes, .inl (p1_bytes_c, p1_bytes_N, .inl p1_bytes_f))]) := by
  refine bs_CI.mk (by decide +kernel) (bs_ler rfl) ?_
  intro p e s m below meth c ls A hx hb hr hml hlk hown hB hN hP hK hD hS hA hl
  refine bs_genQ (fun Q hQ => ?_)
  have hJ71 : ∀ (v3 : Int32) (v4 : Int32) (t_now : Int32) (t_registers_f : Nat → Int32) (t_profile_columnCount : Int32) (t_profile_capacity : Int32) (t_profile_period : Int32) (t_profile_first : Int32) (t_profile_size : Int32) (t_profile_columns_f : Nat → Int32) (ls : Array Slot) (H : Heap) (locs : List Loc), mm_Mt_set_J71 F p1_bytes_N v3 v4 t_now t_registers_f t_profile_columnCount t_profile_capacity t_profile_period t_profile_first t_profile_size t_profile_columns_f p1_size p1_bytes_f = some r → lv_has ls 6 [(0, .ref t), (1, .ref p1), (3, .int v3), (4, .int v4)] → va_P D bs_cl [(t, .inr (2, [.ref t_registers, .ref t_profile, .int t_now])), (t_registers, .inl (t_registers_c, 3, .inl t_registers_f)), (t_profile, .inr (3, [.ref t_profile_columns, .ref t_profile_ring, .int t_profile_columnCount, .int t_profile_capacity, .int t_profile_period, .int t_profile_first, .int t_profile_size])), (t_profile_columns, .inl (t_profile_columns_c, 3, .inl t_profile_columns_f)), (t_profile_ring, .inl (t_profile_ring_c, 48, .inl t_profile_ring_f)), (p1, .inr (4, [.ref p1_bytes, .int p1_size])), (p1_bytes, .inl (p1_bytes_c, p1_bytes_N, .inl p1_bytes_f))] H → va_D A [(t, .inr (2, [.ref t_registers, .ref t_profile, .int t_now])), (t_registers, .inl (t_registers_c, 3, .inl t_registers_f)), (t_profile, .inr (3, [.ref t_profile_columns, .ref t_profile_ring, .int t_profile_columnCount, .int t_profile_capacity, .int t_profile_period, .int t_profile_first, .int t_profile_size])), (t_profile_columns, .inl (t_profile_columns_c, 3, .inl t_profile_columns_f)), (t_profile_ring, .inl (t_profile_ring_c, 48, .inl t_profile_ring_f)), (p1, .inr (4, [.ref p1_bytes, .int p1_size])), (p1_bytes, .inl (p1_bytes_c, p1_bytes_N, .inl p1_bytes_f))] → va_S A s.heap H locs → W p l e (bs_rm 3) s m [.ref t, .ref p1, .int i2].toArray below meth c H locs 0 0 Q (F0 m 71 ls []) := by
    intro v3 v4 t_now t_registers_f t_profile_columnCount t_profile_capacity t_profile_period t_profile_first t_profile_size t_profile_columns_f ls H locs hm hl hP hD hS
    have hm := (mq_Mt_set_J71 F p1_bytes_N v3 v4 t_now t_registers_f t_profile_columnCount t_profile_capacity t_profile_period t_profile_first t_profile_size t_profile_columns_f p1_size p1_bytes_f).symm.trans hm
    refine lv_aload_n hx hb dc_Mt_set_71 rfl (lv_at hl 0 rfl) ?_
    refine lv_aload_n hx hb dc_Mt_set_72 rfl (lv_at hl 1 rfl) ?_
    refine lv_iload_n hx hb dc_Mt_set_73 rfl (lv_at hl 2 rfl) ?_
    refine lv_iload hx hb dc_Mt_set_74 (lv_at hl 3 rfl) ?_
    obtain ⟨x76, hx76, hm⟩ := bs_bind hm
    refine bs_callVi 3 [] (fun _ => [(t, .inr (2, [.ref t_registers, .ref t_profile, .int x76.2.1])), (t_registers, .inl (t_registers_c, 3, .inl x76.2.2.1)), (t_profile, .inr (3, [.ref t_profile_columns, .ref t_profile_ring, .int t_profile_columnCount, .int x76.2.2.2.1, .int x76.2.2.2.2.1, .int x76.2.2.2.2.2.1, .int x76.2.2.2.2.2.2])), (t_profile_columns, .inl (t_profile_columns_c, 3, .inl t_profile_columns_f)), (t_profile_ring, .inl (t_profile_ring_c, 48, .inl t_profile_ring_f)), (p1, .inr (4, [.ref p1_bytes, .int p1_size])), (p1_bytes, .inl (p1_bytes_c, p1_bytes_N, .inl p1_bytes_f))]) [] hx hb hml hown hB hN hK hP hD hS hA (ct_Mt_takeNumber l D F t t_registers t_profile t_profile_columns t_profile_ring p1 p1_bytes t_registers_c t_profile_columns_c t_profile_ring_c p1_bytes_c p1_bytes_N t_now t_registers_f t_profile_columnCount t_profile_capacity t_profile_period t_profile_first t_profile_size t_profile_columns_f t_profile_ring_f p1_size p1_bytes_f v3 v4 x76 hx76) kw_cd_Mt_takeNumber kw_ml_Mt_76 kw_im_Mt_takeNumber kw_se_Mt_takeNumber kw_in_Mt kd_Mt_takeNumber (by decide) ⟨_, _, _, rfl, rfl, rfl⟩ [0, 1, 2, 3, 4, 5, 6] [] rfl rfl (by decide) [0, 1, 2, 3] rfl [0, 1, 2, 3, 4, 5, 6] (by decide) (fun _ => rfl) rfl hl.1 (bs_ler rfl) (by decide) dc_Mt_set_76 rfl (fun v76q _ H locs hq76 hP hD hS => ?_)
    have hq76 := hq76.symm
    subst hq76
    refine lv_istore hx hb dc_Mt_set_79 hl (by decide) rfl (fun ls hl => ?_)
    have hl : lv_has ls 6 [(5, .int x76.1), (0, .ref t), (1, .ref p1), (3, .int v3), (4, .int v4)] := hl
    refine lv_iload hx hb dc_Mt_set_81 (lv_at hl 0 rfl) ?_
    refine lv_if_eq (tgt := 90) hx hb dc_Mt_set_83 (by decide) (fun h83 => ?_) (fun h83 => ?_)
    · have hm := bs_pos h83 hm
      refine lv_bipush (v := 12) hx hb dc_Mt_set_90 (by decide +kernel) ?_
      cases hm
      subst hQ
      exact bs_retI hx hb hr hlk () rfl hP hD hS dc_Mt_set_92
    · have hm := bs_neg h83 hm
      refine lv_iconst (v := 0) hx hb dc_Mt_set_86 (by decide +kernel) ?_
      refine lv_goto (tgt := 92) hx hb dc_Mt_set_87 (by decide) ?_
      cases hm
      subst hQ
      exact bs_retI hx hb hr hlk () rfl hP hD hS dc_Mt_set_92
  have hl : lv_has ls 6 [(0, .ref t), (1, .ref p1), (2, .int i2)] := hl
  have hm := (mq_Mt_set F p1_bytes_N i2 t_now t_registers_f t_profile_columnCount t_profile_capacity t_profile_period t_profile_first t_profile_size t_profile_columns_f p1_size p1_bytes_f).symm.trans hm
  refine lv_aload_n hx hb dc_Mt_set_0 rfl (lv_at hl 1 rfl) ?_
  refine lv_iconst (v := 1) hx hb dc_Mt_set_1 (by decide +kernel) ?_
  obtain ⟨x2, hx2, hm⟩ := bs_bind hm
  refine bs_callVi 1 [(t, .inr (2, [.ref t_registers, .ref t_profile, .int t_now])), (t_registers, .inl (t_registers_c, 3, .inl t_registers_f)), (t_profile, .inr (3, [.ref t_profile_columns, .ref t_profile_ring, .int t_profile_columnCount, .int t_profile_capacity, .int t_profile_period, .int t_profile_first, .int t_profile_size])), (t_profile_columns, .inl (t_profile_columns_c, 3, .inl t_profile_columns_f)), (t_profile_ring, .inl (t_profile_ring_c, 48, .inl t_profile_ring_f))] (fun _ => [(t, .inr (2, [.ref t_registers, .ref t_profile, .int t_now])), (t_registers, .inl (t_registers_c, 3, .inl t_registers_f)), (t_profile, .inr (3, [.ref t_profile_columns, .ref t_profile_ring, .int t_profile_columnCount, .int t_profile_capacity, .int t_profile_period, .int t_profile_first, .int t_profile_size])), (t_profile_columns, .inl (t_profile_columns_c, 3, .inl t_profile_columns_f)), (t_profile_ring, .inl (t_profile_ring_c, 48, .inl t_profile_ring_f)), (p1, .inr (4, [.ref p1_bytes, .int p1_size])), (p1_bytes, .inl (p1_bytes_c, p1_bytes_N, .inl p1_bytes_f))]) [] hx hb hml hown hB hN hK hP hD hS hA (ct_Rw_at l D F p1 p1_bytes p1_bytes_c p1_bytes_N p1_size p1_bytes_f 1 x2 hx2) kw_cd_Rw_at kw_ml_Mt_65 kw_im_Rw_at kw_se_Rw_at kw_in_Rw kd_Rw_at (by decide) ⟨_, _, _, rfl, rfl, rfl⟩ [5, 6] [0, 1, 2, 3, 4] rfl rfl (by decide) [3] rfl [0, 1, 2, 3, 4, 5, 6] (by decide) (fun _ => rfl) rfl hl.1 (bs_ler rfl) (by decide) dc_Mt_set_2 rfl (fun v2q _ H locs hq2 hP hD hS => ?_)
  have hq2 := hq2.symm
  subst hq2
  refine lv_istore_n hx hb dc_Mt_set_5 rfl hl (by decide) rfl (fun ls hl => ?_)
  have hl : lv_has ls 6 [(3, .int x2), (0, .ref t), (1, .ref p1), (2, .int i2)] := hl
  refine lv_aload_n hx hb dc_Mt_set_6 rfl (lv_at hl 2 rfl) ?_
  refine lv_iconst (v := 2) hx hb dc_Mt_set_7 (by decide +kernel) ?_
  obtain ⟨x8, hx8, hm⟩ := bs_bind hm
  refine bs_callVi 1 [(t, .inr (2, [.ref t_registers, .ref t_profile, .int t_now])), (t_registers, .inl (t_registers_c, 3, .inl t_registers_f)), (t_profile, .inr (3, [.ref t_profile_columns, .ref t_profile_ring, .int t_profile_columnCount, .int t_profile_capacity, .int t_profile_period, .int t_profile_first, .int t_profile_size])), (t_profile_columns, .inl (t_profile_columns_c, 3, .inl t_profile_columns_f)), (t_profile_ring, .inl (t_profile_ring_c, 48, .inl t_profile_ring_f))] (fun _ => [(t, .inr (2, [.ref t_registers, .ref t_profile, .int t_now])), (t_registers, .inl (t_registers_c, 3, .inl t_registers_f)), (t_profile, .inr (3, [.ref t_profile_columns, .ref t_profile_ring, .int t_profile_columnCount, .int t_profile_capacity, .int t_profile_period, .int t_profile_first, .int t_profile_size])), (t_profile_columns, .inl (t_profile_columns_c, 3, .inl t_profile_columns_f)), (t_profile_ring, .inl (t_profile_ring_c, 48, .inl t_profile_ring_f)), (p1, .inr (4, [.ref p1_bytes, .int p1_size])), (p1_bytes, .inl (p1_bytes_c, p1_bytes_N, .inl p1_bytes_f))]) [] hx hb hml hown hB hN hK hP hD hS hA (ct_Rw_at l D F p1 p1_bytes p1_bytes_c p1_bytes_N p1_size p1_bytes_f 2 x8 hx8) kw_cd_Rw_at kw_ml_Mt_65 kw_im_Rw_at kw_se_Rw_at kw_in_Rw kd_Rw_at (by decide) ⟨_, _, _, rfl, rfl, rfl⟩ [5, 6] [0, 1, 2, 3, 4] rfl rfl (by decide) [3] rfl [0, 1, 2, 3, 4, 5, 6] (by decide) (fun _ => rfl) rfl hl.1 (bs_ler rfl) (by decide) dc_Mt_set_8 rfl (fun v8q _ H locs hq8 hP hD hS => ?_)
  have hq8 := hq8.symm
  subst hq8
  refine lv_istore hx hb dc_Mt_set_11 hl (by decide) rfl (fun ls hl => ?_)
  have hl : lv_has ls 6 [(4, .int x8), (3, .int x2), (0, .ref t), (1, .ref p1), (2, .int i2)] := hl
  refine lv_iload_n hx hb dc_Mt_set_13 rfl (lv_at hl 1 rfl) ?_
  obtain ⟨x14, hx14, hm⟩ := bs_bind hm
  refine bs_callSi 1 [(t, .inr (2, [.ref t_registers, .ref t_profile, .int t_now])), (t_registers, .inl (t_registers_c, 3, .inl t_registers_f)), (t_profile, .inr (3, [.ref t_profile_columns, .ref t_profile_ring, .int t_profile_columnCount, .int t_profile_capacity, .int t_profile_period, .int t_profile_first, .int t_profile_size])), (t_profile_columns, .inl (t_profile_columns_c, 3, .inl t_profile_columns_f)), (t_profile_ring, .inl (t_profile_ring_c, 48, .inl t_profile_ring_f)), (p1, .inr (4, [.ref p1_bytes, .int p1_size])), (p1_bytes, .inl (p1_bytes_c, p1_bytes_N, .inl p1_bytes_f))] (fun _ => [(t, .inr (2, [.ref t_registers, .ref t_profile, .int t_now])), (t_registers, .inl (t_registers_c, 3, .inl t_registers_f)), (t_profile, .inr (3, [.ref t_profile_columns, .ref t_profile_ring, .int t_profile_columnCount, .int t_profile_capacity, .int t_profile_period, .int t_profile_first, .int t_profile_size])), (t_profile_columns, .inl (t_profile_columns_c, 3, .inl t_profile_columns_f)), (t_profile_ring, .inl (t_profile_ring_c, 48, .inl t_profile_ring_f)), (p1, .inr (4, [.ref p1_bytes, .int p1_size])), (p1_bytes, .inl (p1_bytes_c, p1_bytes_N, .inl p1_bytes_f))]) [] hx hb hml hown hB hN hK hP hD hS hA (ct_Mt_isObject l D F x2 x14 hx14) kw_cd_Mt_isObject kw_ml_Mt_34 kw_st_Mt_isObject kw_in_Mt kd_Mt_isObject (by decide) [] [0, 1, 2, 3, 4, 5, 6] rfl rfl (by decide) [] rfl [0, 1, 2, 3, 4, 5, 6] (by decide) (fun _ => rfl) rfl hl.1 (bs_ler rfl) (by decide) dc_Mt_set_14 rfl (fun v14q _ H locs hq14 hP hD hS => ?_)
  have hq14 := hq14.symm
  subst hq14
  refine lv_if_ne (tgt := 22) hx hb dc_Mt_set_17 (by decide) (fun h17 => ?_) (fun h17 => ?_)
  · have hm := bs_neg h17 hm
    refine lv_iload_n hx hb dc_Mt_set_22 rfl (lv_at hl 1 rfl) ?_
    refine lv_iload hx hb dc_Mt_set_23 (lv_at hl 0 rfl) ?_
    obtain ⟨x25, hx25, hm⟩ := bs_bind hm
    refine bs_callSi 2 [(t, .inr (2, [.ref t_registers, .ref t_profile, .int t_now])), (t_registers, .inl (t_registers_c, 3, .inl t_registers_f)), (t_profile, .inr (3, [.ref t_profile_columns, .ref t_profile_ring, .int t_profile_columnCount, .int t_profile_capacity, .int t_profile_period, .int t_profile_first, .int t_profile_size])), (t_profile_columns, .inl (t_profile_columns_c, 3, .inl t_profile_columns_f)), (t_profile_ring, .inl (t_profile_ring_c, 48, .inl t_profile_ring_f)), (p1, .inr (4, [.ref p1_bytes, .int p1_size])), (p1_bytes, .inl (p1_bytes_c, p1_bytes_N, .inl p1_bytes_f))] (fun _ => [(t, .inr (2, [.ref t_registers, .ref t_profile, .int t_now])), (t_registers, .inl (t_registers_c, 3, .inl t_registers_f)), (t_profile, .inr (3, [.ref t_profile_columns, .ref t_profile_ring, .int t_profile_columnCount, .int t_profile_capacity, .int t_profile_period, .int t_profile_first, .int t_profile_size])), (t_profile_columns, .inl (t_profile_columns_c, 3, .inl t_profile_columns_f)), (t_profile_ring, .inl (t_profile_ring_c, 48, .inl t_profile_ring_f)), (p1, .inr (4, [.ref p1_bytes, .int p1_size])), (p1_bytes, .inl (p1_bytes_c, p1_bytes_N, .inl p1_bytes_f))]) [] hx hb hml hown hB hN hK hP hD hS hA (ct_Mt_isAttribute l D F x2 x8 x25 hx25) kw_cd_Mt_isAttribute kw_ml_Mt_38 kw_st_Mt_isAttribute kw_in_Mt kd_Mt_isAttribute (by decide) [] [0, 1, 2, 3, 4, 5, 6] rfl rfl (by decide) [] rfl [0, 1, 2, 3, 4, 5, 6] (by decide) (fun _ => rfl) rfl hl.1 (bs_ler rfl) (by decide) dc_Mt_set_25 rfl (fun v25q _ H locs hq25 hP hD hS => ?_)
    have hq25 := hq25.symm
    subst hq25
    refine lv_if_ne (tgt := 34) hx hb dc_Mt_set_28 (by decide) (fun h28 => ?_) (fun h28 => ?_)
    · have hm := bs_neg h28 hm
      refine lv_iload_n hx hb dc_Mt_set_34 rfl (lv_at hl 4 rfl) ?_
      refine lv_if_eq (tgt := 47) hx hb dc_Mt_set_35 (by decide) (fun h35 => ?_) (fun h35 => ?_)
      · have hm := bs_pos h35 hm
        refine lv_iconst (v := 3) hx hb dc_Mt_set_47 (by decide +kernel) ?_
        clear hJ71
        cases hm
        subst hQ
        exact bs_retI hx hb hr hlk () rfl hP hD hS dc_Mt_set_48
      · have hm := bs_neg h35 hm
        refine lv_iload_n hx hb dc_Mt_set_38 rfl (lv_at hl 1 rfl) ?_
        refine lv_iload hx hb dc_Mt_set_39 (lv_at hl 0 rfl) ?_
        obtain ⟨x41, hx41, hm⟩ := bs_bind hm
        refine bs_callSi 2 [(t, .inr (2, [.ref t_registers, .ref t_profile, .int t_now])), (t_registers, .inl (t_registers_c, 3, .inl t_registers_f)), (t_profile, .inr (3, [.ref t_profile_columns, .ref t_profile_ring, .int t_profile_columnCount, .int t_profile_capacity, .int t_profile_period, .int t_profile_first, .int t_profile_size])), (t_profile_columns, .inl (t_profile_columns_c, 3, .inl t_profile_columns_f)), (t_profile_ring, .inl (t_profile_ring_c, 48, .inl t_profile_ring_f)), (p1, .inr (4, [.ref p1_bytes, .int p1_size])), (p1_bytes, .inl (p1_bytes_c, p1_bytes_N, .inl p1_bytes_f))] (fun _ => [(t, .inr (2, [.ref t_registers, .ref t_profile, .int t_now])), (t_registers, .inl (t_registers_c, 3, .inl t_registers_f)), (t_profile, .inr (3, [.ref t_profile_columns, .ref t_profile_ring, .int t_profile_columnCount, .int t_profile_capacity, .int t_profile_period, .int t_profile_first, .int t_profile_size])), (t_profile_columns, .inl (t_profile_columns_c, 3, .inl t_profile_columns_f)), (t_profile_ring, .inl (t_profile_ring_c, 48, .inl t_profile_ring_f)), (p1, .inr (4, [.ref p1_bytes, .int p1_size])), (p1_bytes, .inl (p1_bytes_c, p1_bytes_N, .inl p1_bytes_f))]) [] hx hb hml hown hB hN hK hP hD hS hA (ct_Mt_isSettable l D F x2 x8 x41 hx41) kw_cd_Mt_isSettable kw_ml_Mt_69 kw_st_Mt_isSettable kw_in_Mt kd_Mt_isSettable (by decide) [] [0, 1, 2, 3, 4, 5, 6] rfl rfl (by decide) [] rfl [0, 1, 2, 3, 4, 5, 6] (by decide) (fun _ => rfl) rfl hl.1 (bs_ler rfl) (by decide) dc_Mt_set_41 rfl (fun v41q _ H locs hq41 hP hD hS => ?_)
        have hq41 := hq41.symm
        subst hq41
        refine lv_if_ne (tgt := 49) hx hb dc_Mt_set_44 (by decide) (fun h44 => ?_) (fun h44 => ?_)
        · have hm := bs_neg h44 hm
          refine lv_iload_n hx hb dc_Mt_set_49 rfl (lv_at hl 1 rfl) ?_
          refine lv_iconst (v := 4) hx hb dc_Mt_set_50 (by decide +kernel) ?_
          refine lv_icmp_ne (tgt := 71) hx hb dc_Mt_set_51 (by decide) (fun h51 => ?_) (fun h51 => ?_)
          · have hm := bs_neg h51 hm
            exact hJ71 x2 x8 t_now t_registers_f t_profile_columnCount t_profile_capacity t_profile_period t_profile_first t_profile_size t_profile_columns_f ls _ _ hm (lv_sub hl [2, 3, 1, 0] rfl) hP hD hS
          · have hm := bs_pos h51 hm
            refine lv_iload hx hb dc_Mt_set_54 (lv_at hl 0 rfl) ?_
            refine lv_iconst (v := 3) hx hb dc_Mt_set_56 (by decide +kernel) ?_
            refine lv_icmp_ne (tgt := 71) hx hb dc_Mt_set_57 (by decide) (fun h57 => ?_) (fun h57 => ?_)
            · have hm := bs_neg h57 hm
              exact hJ71 x2 x8 t_now t_registers_f t_profile_columnCount t_profile_capacity t_profile_period t_profile_first t_profile_size t_profile_columns_f ls _ _ hm (lv_sub hl [2, 3, 1, 0] rfl) hP hD hS
            · have hm := bs_pos h57 hm
              refine lv_aload_n hx hb dc_Mt_set_60 rfl (lv_at hl 2 rfl) ?_
              refine va_get (ci := 2) (v := .ref t_profile) (C := cn_Mt) (T := cf_Mt) (N := 3) hx hb hB ki_Mt hown hK hP 0 rfl rfl 1 (by decide) (hB _ kw_fl_Mt_22) (fun _ h => h) rfl dc_Mt_set_61 ?_
              refine lv_aload_n hx hb dc_Mt_set_64 rfl (lv_at hl 3 rfl) ?_
              obtain ⟨x65, hx65, hm⟩ := bs_bind hm
              refine bs_callVi 1 [(t, .inr (2, [.ref t_registers, .ref t_profile, .int t_now])), (t_registers, .inl (t_registers_c, 3, .inl t_registers_f))] (fun _ => [(t, .inr (2, [.ref t_registers, .ref t_profile, .int t_now])), (t_registers, .inl (t_registers_c, 3, .inl t_registers_f)), (t_profile, .inr (3, [.ref t_profile_columns, .ref t_profile_ring, .int x65.2.1, .int t_profile_capacity, .int t_profile_period, .int x65.2.2.1, .int x65.2.2.2.1])), (t_profile_columns, .inl (t_profile_columns_c, 3, .inl x65.2.2.2.2)), (t_profile_ring, .inl (t_profile_ring_c, 48, .inl t_profile_ring_f)), (p1, .inr (4, [.ref p1_bytes, .int p1_size])), (p1_bytes, .inl (p1_bytes_c, p1_bytes_N, .inl p1_bytes_f))]) [] hx hb hml hown hB hN hK hP hD hS hA (ct_Pf_takeColumns l D F t_profile t_profile_columns t_profile_ring p1 p1_bytes t_profile_columns_c t_profile_ring_c p1_bytes_c p1_bytes_N t_profile_columnCount t_profile_capacity t_profile_period t_profile_first t_profile_size t_profile_columns_f t_profile_ring_f p1_size p1_bytes_f x65 hx65) kw_cd_Pf_takeColumns kw_ml_Mt_72 kw_im_Pf_takeColumns kw_se_Pf_takeColumns kw_in_Pf kd_Pf_takeColumns (by decide) ⟨_, _, _, rfl, rfl, rfl⟩ [2, 3, 4, 5, 6] [0, 1] rfl rfl (by decide) [1, 2, 3] rfl [0, 1, 2, 3, 4, 5, 6] (by decide) (fun _ => rfl) rfl hl.1 (bs_ler rfl) (by decide) dc_Mt_set_65 rfl (fun v65q _ H locs hq65 hP hD hS => ?_)
              have hq65 := hq65.symm
              subst hq65
              refine lv_goto (tgt := 79) hx hb dc_Mt_set_68 (by decide) ?_
              refine lv_istore hx hb dc_Mt_set_79 hl (by decide) rfl (fun ls hl => ?_)
              have hl : lv_has ls 6 [(5, .int x65.1), (4, .int x8), (3, .int x2), (0, .ref t), (1, .ref p1), (2, .int i2)] := hl
              refine lv_iload hx hb dc_Mt_set_81 (lv_at hl 0 rfl) ?_
              refine lv_if_eq (tgt := 90) hx hb dc_Mt_set_83 (by decide) (fun h83 => ?_) (fun h83 => ?_)
              · have hm := bs_pos h83 hm
                refine lv_bipush (v := 12) hx hb dc_Mt_set_90 (by decide +kernel) ?_
                clear hJ71
                cases hm
                subst hQ
                exact bs_retI hx hb hr hlk () rfl hP hD hS dc_Mt_set_92
              · have hm := bs_neg h83 hm
                refine lv_iconst (v := 0) hx hb dc_Mt_set_86 (by decide +kernel) ?_
                refine lv_goto (tgt := 92) hx hb dc_Mt_set_87 (by decide) ?_
                clear hJ71
                cases hm
                subst hQ
                exact bs_retI hx hb hr hlk () rfl hP hD hS dc_Mt_set_92
        · have hm := bs_pos h44 hm
          refine lv_iconst (v := 3) hx hb dc_Mt_set_47 (by decide +kernel) ?_
          clear hJ71
          cases hm
          subst hQ
          exact bs_retI hx hb hr hlk () rfl hP hD hS dc_Mt_set_48
    · have hm := bs_pos h28 hm
      refine lv_bipush (v := 9) hx hb dc_Mt_set_31 (by decide +kernel) ?_
      clear hJ71
      cases hm
      subst hQ
      exact bs_retI hx hb hr hlk () rfl hP hD hS dc_Mt_set_33
  · have hm := bs_pos h17 hm
    refine lv_iconst (v := 4) hx hb dc_Mt_set_20 (by decide +kernel) ?_
    clear hJ71
    cases hm
    subst hQ
    exact bs_retI hx hb hr hlk () rfl hP hD hS dc_Mt_set_21
set_option maxHeartbeats 2000000 in
set_option maxRecDepth 100000 in
theorem ct_Mt_isMethod (l : Launch) (D : va_G) (F : Nat) (i0 : Int32) (i1 : Int32) (r : Int32) (hm : mm_Mt_isMethod F i0 i1 = some r) :
    bs_CI l my_Mt_isMethod mb_Mt_isMethod 2 .boolean (bs_rm 0) D [.int i0, .int i1] [] [] (S := Unit) (fun v (_ : Unit) => v = r) (fun _ => []) := by
  refine bs_CI.mk (by decide +kernel) (bs_ler rfl) ?_
  intro p e s m below meth c ls A hx hb hr hml hlk hown hB hN hP hK hD hS hA hl
  refine bs_genQ (fun Q hQ => ?_)
  have hl : lv_has ls 2 [(0, .int i0), (1, .int i1)] := hl
  have hm := (mq_Mt_isMethod F i0 i1).symm.trans hm
  refine lv_iload_n hx hb dc_Mt_isMethod_0 rfl (lv_at hl 0 rfl) ?_
  refine lv_if_ne (tgt := 15) hx hb dc_Mt_isMethod_1 (by decide) (fun h1 => ?_) (fun h1 => ?_)
  · have hm := bs_neg h1 hm
    refine lv_iload_n hx hb dc_Mt_isMethod_15 rfl (lv_at hl 0 rfl) ?_
    refine lv_iconst (v := 4) hx hb dc_Mt_isMethod_16 (by decide +kernel) ?_
    refine lv_icmp_ne (tgt := 38) hx hb dc_Mt_isMethod_17 (by decide) (fun h17 => ?_) (fun h17 => ?_)
    · have hm := bs_neg h17 hm
      refine lv_iload_n hx hb dc_Mt_isMethod_38 rfl (lv_at hl 1 rfl) ?_
      refine lv_iconst (v := 1) hx hb dc_Mt_isMethod_39 (by decide +kernel) ?_
      refine lv_icmp_ne (tgt := 47) hx hb dc_Mt_isMethod_40 (by decide) (fun h40 => ?_) (fun h40 => ?_)
      · have hm := bs_neg h40 hm
        refine lv_iconst (v := 0) hx hb dc_Mt_isMethod_47 (by decide +kernel) ?_
        cases hm
        subst hQ
        exact bs_retZ hx hb hr hlk (by decide +kernel) () rfl hP hD hS dc_Mt_isMethod_48
      · have hm := bs_pos h40 hm
        refine lv_iconst (v := 1) hx hb dc_Mt_isMethod_43 (by decide +kernel) ?_
        refine lv_goto (tgt := 48) hx hb dc_Mt_isMethod_44 (by decide) ?_
        cases hm
        subst hQ
        exact bs_retZ hx hb hr hlk (by decide +kernel) () rfl hP hD hS dc_Mt_isMethod_48
    · have hm := bs_pos h17 hm
      refine lv_iload_n hx hb dc_Mt_isMethod_20 rfl (lv_at hl 1 rfl) ?_
      refine lv_iconst (v := 1) hx hb dc_Mt_isMethod_21 (by decide +kernel) ?_
      refine lv_icmp_eq (tgt := 30) hx hb dc_Mt_isMethod_22 (by decide) (fun h22 => ?_) (fun h22 => ?_)
      · have hm := bs_pos h22 hm
        refine lv_iconst (v := 1) hx hb dc_Mt_isMethod_30 (by decide +kernel) ?_
        refine lv_goto (tgt := 48) hx hb dc_Mt_isMethod_31 (by decide) ?_
        cases hm
        subst hQ
        exact bs_retZ hx hb hr hlk (by decide +kernel) () rfl hP hD hS dc_Mt_isMethod_48
      · have hm := bs_neg h22 hm
        refine lv_iload_n hx hb dc_Mt_isMethod_25 rfl (lv_at hl 1 rfl) ?_
        refine lv_iconst (v := 2) hx hb dc_Mt_isMethod_26 (by decide +kernel) ?_
        refine lv_icmp_ne (tgt := 34) hx hb dc_Mt_isMethod_27 (by decide) (fun h27 => ?_) (fun h27 => ?_)
        · have hm := bs_neg h27 hm
          refine lv_iconst (v := 0) hx hb dc_Mt_isMethod_34 (by decide +kernel) ?_
          refine lv_goto (tgt := 48) hx hb dc_Mt_isMethod_35 (by decide) ?_
          cases hm
          subst hQ
          exact bs_retZ hx hb hr hlk (by decide +kernel) () rfl hP hD hS dc_Mt_isMethod_48
        · have hm := bs_pos h27 hm
          refine lv_iconst (v := 1) hx hb dc_Mt_isMethod_30 (by decide +kernel) ?_
          refine lv_goto (tgt := 48) hx hb dc_Mt_isMethod_31 (by decide) ?_
          cases hm
          subst hQ
          exact bs_retZ hx hb hr hlk (by decide +kernel) () rfl hP hD hS dc_Mt_isMethod_48
  · have hm := bs_pos h1 hm
    refine lv_iload_n hx hb dc_Mt_isMethod_4 rfl (lv_at hl 1 rfl) ?_
    refine lv_iconst (v := 3) hx hb dc_Mt_isMethod_5 (by decide +kernel) ?_
    refine lv_icmp_ne (tgt := 13) hx hb dc_Mt_isMethod_6 (by decide) (fun h6 => ?_) (fun h6 => ?_)
    · have hm := bs_neg h6 hm
      refine lv_iconst (v := 0) hx hb dc_Mt_isMethod_13 (by decide +kernel) ?_
      cases hm
      subst hQ
      exact bs_retZ hx hb hr hlk (by decide +kernel) () rfl hP hD hS dc_Mt_isMethod_14
    · have hm := bs_pos h6 hm
      refine lv_iconst (v := 1) hx hb dc_Mt_isMethod_9 (by decide +kernel) ?_
      refine lv_goto (tgt := 14) hx hb dc_Mt_isMethod_10 (by decide) ?_
      cases hm
      subst hQ
      exact bs_retZ hx hb hr hlk (by decide +kernel) () rfl hP hD hS dc_Mt_isMethod_14
set_option maxHeartbeats 2000000 in
set_option maxRecDepth 100000 in
theorem ct_Mt_roundTime (l : Launch) (D : va_G) (F : Nat) (t : Nat) (t_registers : Nat) (t_profile : Nat) (t_profile_columns : Nat) (t_profile_ring : Nat) (t_registers_c : ClassId) (t_profile_columns_c : ClassId) (t_profile_ring_c : ClassId) (t_now : Int32) (t_registers_f : Nat → Int32) (t_profile_columnCount : Int32) (t_profile_capacity : Int32) (t_profile_period : Int32) (t_profile_first : Int32) (t_profile_size : Int32) (t_profile_columns_f : Nat → Int32) (t_profile_ring_f : Nat → Int32) (i1 : Int32) (r : Int32 × Int32) (hm : mm_Mt_roundTime F i1 t_now = some r) :
    bs_CI l my_Mt_roundTime mb_Mt_roundTime 2 .int (bs_rm 0) D [.ref t, .int i1] [(t_registers_c, .int), (t_profile_columns_c, .int), (t_profile_ring_c, .int)] [(t, .inr (2, [.ref t_registers, .ref t_profile, .int t_now])), (t_registers, .inl (t_registers_c, 3, .inl t_registers_f)), (t_profile, .inr (3, [.ref t_profile_columns, .ref t_profile_ring, .int t_profile_columnCount, .int t_profile_capacity, .int t_profile_period, .int t_profile_first, .int t_profile_size])), (t_profile_columns, .inl (t_profile_columns_c, 3, .inl t_profile_columns_f)), (t_profile_ring, .inl (t_profile_ring_c, 48, .inl t_profile_ring_f))] (S := Unit) (fun v (_ : Unit) => v = r.1) (fun _ => [(t, .inr (2, [.ref t_registers, .ref t_profile, .int r.2])), (t_registers, .inl (t_registers_c, 3, .inl t_registers_f)), (t_profile, .inr (3, [.ref t_profile_columns, .ref t_profile_ring, .int t_profile_columnCount, .int t_profile_capacity, .int t_profile_period, .int t_profile_first, .int t_profile_size])), (t_profile_columns, .inl (t_profile_columns_c, 3, .inl t_profile_columns_f)), (t_profile_ring, .inl (t_profile_ring_c, 48, .inl t_profile_ring_f))]) := by
  refine bs_CI.mk (by decide +kernel) (bs_ler rfl) ?_
  intro p e s m below meth c ls A hx hb hr hml hlk hown hB hN hP hK hD hS hA hl
  refine bs_genQ (fun Q hQ => ?_)
  have hl : lv_has ls 2 [(0, .ref t), (1, .int i1)] := hl
  have hm := (mq_Mt_roundTime F i1 t_now).symm.trans hm
  refine lv_iload_n hx hb dc_Mt_roundTime_0 rfl (lv_at hl 1 rfl) ?_
  refine lv_if_gt (tgt := 7) hx hb dc_Mt_roundTime_1 (by decide) (fun h1 => ?_) (fun h1 => ?_)
  · have hm := bs_pos h1 hm
    refine lv_aload_n hx hb dc_Mt_roundTime_7 rfl (lv_at hl 0 rfl) ?_
    refine lv_dup hx hb dc_Mt_roundTime_8 rfl ?_
    refine va_get (ci := 2) (v := .int t_now) (C := cn_Mt) (T := cf_Mt) (N := 3) hx hb hB ki_Mt hown hK hP 0 rfl rfl 2 (by decide) (hB _ kw_fl_Mt_13) (fun _ h => h) rfl dc_Mt_roundTime_9 ?_
    refine lv_aload_n hx hb dc_Mt_roundTime_12 rfl (lv_at hl 0 rfl) ?_
    refine va_get (ci := 2) (v := .int t_now) (C := cn_Mt) (T := cf_Mt) (N := 3) hx hb hB ki_Mt hown hK hP 0 rfl rfl 2 (by decide) (hB _ kw_fl_Mt_13) (fun _ h => h) rfl dc_Mt_roundTime_13 ?_
    refine lv_iload_n hx hb dc_Mt_roundTime_16 rfl (lv_at hl 1 rfl) ?_
    obtain ⟨hz17, hm⟩ := bs_nn hm
    refine bs_irem (v := bs_rem t_now i1) hx hb dc_Mt_roundTime_17 hz17 rfl ?_
    refine lv_isub hx hb dc_Mt_roundTime_18 ?_
    refine va_put (ci := 2) (v := .int (t_now - (bs_rem t_now i1))) (ty := .int) (C := cn_Mt) (T := cf_Mt) (N := 3) hx hb hB ki_Mt ct_Mt cp_Mt cd_Mt hown hK hP hD hS 0 rfl rfl 2 (by decide) (hB _ kw_fl_Mt_13) (fun _ h => h) rfl (by decide +kernel) rfl rfl (bs_ltr rfl) dc_Mt_roundTime_19 (fun H locs hP hD hS => ?_)
    obtain ⟨hP, hD⟩ := bs_say [(t, .inr (2, [.ref t_registers, .ref t_profile, .int (t_now - (bs_rem t_now i1))])), (t_registers, .inl (t_registers_c, 3, .inl t_registers_f)), (t_profile, .inr (3, [.ref t_profile_columns, .ref t_profile_ring, .int t_profile_columnCount, .int t_profile_capacity, .int t_profile_period, .int t_profile_first, .int t_profile_size])), (t_profile_columns, .inl (t_profile_columns_c, 3, .inl t_profile_columns_f)), (t_profile_ring, .inl (t_profile_ring_c, 48, .inl t_profile_ring_f))] hP hD
    refine lv_iconst (v := 0) hx hb dc_Mt_roundTime_22 (by decide +kernel) ?_
    cases hm
    subst hQ
    exact bs_retI hx hb hr hlk () rfl hP hD hS dc_Mt_roundTime_23
  · have hm := bs_neg h1 hm
    refine lv_bipush (v := 13) hx hb dc_Mt_roundTime_4 (by decide +kernel) ?_
    cases hm
    subst hQ
    exact bs_retI hx hb hr hlk () rfl hP hD hS dc_Mt_roundTime_6
set_option maxHeartbeats 2000000 in
set_option maxRecDepth 100000 in
theorem ct_Mt_act (l : Launch) (D : va_G) (F : Nat) (t : Nat) (t_registers : Nat) (t_profile : Nat) (t_profile_columns : Nat) (t_profile_ring : Nat) (p1 : Nat) (p1_bytes : Nat) (t_registers_c : ClassId) (t_profile_columns_c : ClassId) (t_profile_ring_c : ClassId) (p1_bytes_c : ClassId) (p1_bytes_N : Nat) (t_now : Int32) (t_registers_f : Nat → Int32) (t_profile_columnCount : Int32) (t_profile_capacity : Int32) (t_profile_period : Int32) (t_profile_first : Int32) (t_profile_size : Int32) (t_profile_columns_f : Nat → Int32) (t_profile_ring_f : Nat → Int32) (p1_size : Int32) (p1_bytes_f : Nat → Int32) (i2 : Int32) (r : Int32 × Int32 × (Nat → Int32) × Int32 × Int32 × (Nat → Int32)) (hm : mm_Mt_act F p1_bytes_N i2 t_now t_registers_f t_profile_columnCount t_profile_capacity t_profile_first t_profile_size t_profile_columns_f t_profile_ring_f p1_size p1_bytes_f = some r) :
    bs_CI l my_Mt_act mb_Mt_act 6 .int (bs_rm 2) D [.ref t, .ref p1, .int i2] [(t_registers_c, .int), (t_profile_columns_c, .int), (t_profile_ring_c, .int), (p1_bytes_c, .int)] [(t, .inr (2, [.ref t_registers, .ref t_profile, .int t_now])), (t_registers, .inl (t_registers_c, 3, .inl t_registers_f)), (t_profile, .inr (3, [.ref t_profile_columns, .ref t_profile_ring, .int t_profile_columnCount, .int t_profile_capacity, .int t_profile_period, .int t_profile_first, .int t_profile_size])), (t_profile_columns, .inl (t_profile_columns_c, 3, .inl t_profile_columns_f)), (t_profile_ring, .inl (t_profile_ring_c, 48, .inl t_profile_ring_f)), (p1, .inr (4, [.ref p1_bytes, .int p1_size])), (p1_bytes, .inl (p1_bytes_c, p1_bytes_N, .inl p1_bytes_f))] (S := Unit) (fun v (_ : Unit) => v = r.1) (fun _ => [(t, .inr (2, [.ref t_registers, .ref t_profile, .int r.2.1])), (t_registers, .inl (t_registers_c, 3, .inl r.2.2.1)), (t_profile, .inr (3, [.ref t_profile_columns, .ref t_profile_ring, .int t_profile_columnCount, .int t_profile_capacity, .int t_profile_period, .int r.2.2.2.1, .int r.2.2.2.2.1])), (t_profile_columns, .inl (t_profile_columns_c, 3, .inl t_profile_columns_f)), (t_profile_ring, .inl (t_profile_ring_c, 48, .inl r.2.2.2.2.2)), (p1, .inr (4, [.ref p1_bytes, .int p1_size])), (p1_bytes, .inl (p1_bytes_c, p1_bytes_N, .inl p1_bytes_f))]) := by
  refine bs_CI.mk (by decide +kernel) (bs_ler rfl) ?_
  intro p e s m below meth c ls A hx hb hr hml hlk hown hB hN hP hK hD hS hA hl
  refine bs_genQ (fun Q hQ => ?_)
  have hl : lv_has ls 6 [(0, .ref t), (1, .ref p1), (2, .int i2)] := hl
  have hm := (mq_Mt_act F p1_bytes_N i2 t_now t_registers_f t_profile_columnCount t_profile_capacity t_profile_first t_profile_size t_profile_columns_f t_profile_ring_f p1_size p1_bytes_f).symm.trans hm
  refine lv_aload_n hx hb dc_Mt_act_0 rfl (lv_at hl 1 rfl) ?_
  refine lv_iconst (v := 1) hx hb dc_Mt_act_1 (by decide +kernel) ?_
  obtain ⟨x2, hx2, hm⟩ := bs_bind hm
  refine bs_callVi 1 [(t, .inr (2, [.ref t_registers, .ref t_profile, .int t_now])), (t_registers, .inl (t_registers_c, 3, .inl t_registers_f)), (t_profile, .inr (3, [.ref t_profile_columns, .ref t_profile_ring, .int t_profile_columnCount, .int t_profile_capacity, .int t_profile_period, .int t_profile_first, .int t_profile_size])), (t_profile_columns, .inl (t_profile_columns_c, 3, .inl t_profile_columns_f)), (t_profile_ring, .inl (t_profile_ring_c, 48, .inl t_profile_ring_f))] (fun _ => [(t, .inr (2, [.ref t_registers, .ref t_profile, .int t_now])), (t_registers, .inl (t_registers_c, 3, .inl t_registers_f)), (t_profile, .inr (3, [.ref t_profile_columns, .ref t_profile_ring, .int t_profile_columnCount, .int t_profile_capacity, .int t_profile_period, .int t_profile_first, .int t_profile_size])), (t_profile_columns, .inl (t_profile_columns_c, 3, .inl t_profile_columns_f)), (t_profile_ring, .inl (t_profile_ring_c, 48, .inl t_profile_ring_f)), (p1, .inr (4, [.ref p1_bytes, .int p1_size])), (p1_bytes, .inl (p1_bytes_c, p1_bytes_N, .inl p1_bytes_f))]) [] hx hb hml hown hB hN hK hP hD hS hA (ct_Rw_at l D F p1 p1_bytes p1_bytes_c p1_bytes_N p1_size p1_bytes_f 1 x2 hx2) kw_cd_Rw_at kw_ml_Mt_65 kw_im_Rw_at kw_se_Rw_at kw_in_Rw kd_Rw_at (by decide) ⟨_, _, _, rfl, rfl, rfl⟩ [5, 6] [0, 1, 2, 3, 4] rfl rfl (by decide) [3] rfl [0, 1, 2, 3, 4, 5, 6] (by decide) (fun _ => rfl) rfl hl.1 (bs_ler rfl) (by decide) dc_Mt_act_2 rfl (fun v2q _ H locs hq2 hP hD hS => ?_)
  have hq2 := hq2.symm
  subst hq2
  refine lv_istore_n hx hb dc_Mt_act_5 rfl hl (by decide) rfl (fun ls hl => ?_)
  have hl : lv_has ls 6 [(3, .int x2), (0, .ref t), (1, .ref p1), (2, .int i2)] := hl
  refine lv_aload_n hx hb dc_Mt_act_6 rfl (lv_at hl 2 rfl) ?_
  refine lv_iconst (v := 2) hx hb dc_Mt_act_7 (by decide +kernel) ?_
  obtain ⟨x8, hx8, hm⟩ := bs_bind hm
  refine bs_callVi 1 [(t, .inr (2, [.ref t_registers, .ref t_profile, .int t_now])), (t_registers, .inl (t_registers_c, 3, .inl t_registers_f)), (t_profile, .inr (3, [.ref t_profile_columns, .ref t_profile_ring, .int t_profile_columnCount, .int t_profile_capacity, .int t_profile_period, .int t_profile_first, .int t_profile_size])), (t_profile_columns, .inl (t_profile_columns_c, 3, .inl t_profile_columns_f)), (t_profile_ring, .inl (t_profile_ring_c, 48, .inl t_profile_ring_f))] (fun _ => [(t, .inr (2, [.ref t_registers, .ref t_profile, .int t_now])), (t_registers, .inl (t_registers_c, 3, .inl t_registers_f)), (t_profile, .inr (3, [.ref t_profile_columns, .ref t_profile_ring, .int t_profile_columnCount, .int t_profile_capacity, .int t_profile_period, .int t_profile_first, .int t_profile_size])), (t_profile_columns, .inl (t_profile_columns_c, 3, .inl t_profile_columns_f)), (t_profile_ring, .inl (t_profile_ring_c, 48, .inl t_profile_ring_f)), (p1, .inr (4, [.ref p1_bytes, .int p1_size])), (p1_bytes, .inl (p1_bytes_c, p1_bytes_N, .inl p1_bytes_f))]) [] hx hb hml hown hB hN hK hP hD hS hA (ct_Rw_at l D F p1 p1_bytes p1_bytes_c p1_bytes_N p1_size p1_bytes_f 2 x8 hx8) kw_cd_Rw_at kw_ml_Mt_65 kw_im_Rw_at kw_se_Rw_at kw_in_Rw kd_Rw_at (by decide) ⟨_, _, _, rfl, rfl, rfl⟩ [5, 6] [0, 1, 2, 3, 4] rfl rfl (by decide) [3] rfl [0, 1, 2, 3, 4, 5, 6] (by decide) (fun _ => rfl) rfl hl.1 (bs_ler rfl) (by decide) dc_Mt_act_8 rfl (fun v8q _ H locs hq8 hP hD hS => ?_)
  have hq8 := hq8.symm
  subst hq8
  refine lv_istore hx hb dc_Mt_act_11 hl (by decide) rfl (fun ls hl => ?_)
  have hl : lv_has ls 6 [(4, .int x8), (3, .int x2), (0, .ref t), (1, .ref p1), (2, .int i2)] := hl
  refine lv_aload_n hx hb dc_Mt_act_13 rfl (lv_at hl 3 rfl) ?_
  refine lv_iconst (v := 3) hx hb dc_Mt_act_14 (by decide +kernel) ?_
  obtain ⟨x15, hx15, hm⟩ := bs_bind hm
  refine bs_callVi 1 [(t, .inr (2, [.ref t_registers, .ref t_profile, .int t_now])), (t_registers, .inl (t_registers_c, 3, .inl t_registers_f)), (t_profile, .inr (3, [.ref t_profile_columns, .ref t_profile_ring, .int t_profile_columnCount, .int t_profile_capacity, .int t_profile_period, .int t_profile_first, .int t_profile_size])), (t_profile_columns, .inl (t_profile_columns_c, 3, .inl t_profile_columns_f)), (t_profile_ring, .inl (t_profile_ring_c, 48, .inl t_profile_ring_f))] (fun _ => [(t, .inr (2, [.ref t_registers, .ref t_profile, .int t_now])), (t_registers, .inl (t_registers_c, 3, .inl t_registers_f)), (t_profile, .inr (3, [.ref t_profile_columns, .ref t_profile_ring, .int t_profile_columnCount, .int t_profile_capacity, .int t_profile_period, .int t_profile_first, .int t_profile_size])), (t_profile_columns, .inl (t_profile_columns_c, 3, .inl t_profile_columns_f)), (t_profile_ring, .inl (t_profile_ring_c, 48, .inl t_profile_ring_f)), (p1, .inr (4, [.ref p1_bytes, .int p1_size])), (p1_bytes, .inl (p1_bytes_c, p1_bytes_N, .inl p1_bytes_f))]) [] hx hb hml hown hB hN hK hP hD hS hA (ct_Rw_at l D F p1 p1_bytes p1_bytes_c p1_bytes_N p1_size p1_bytes_f 3 x15 hx15) kw_cd_Rw_at kw_ml_Mt_65 kw_im_Rw_at kw_se_Rw_at kw_in_Rw kd_Rw_at (by decide) ⟨_, _, _, rfl, rfl, rfl⟩ [5, 6] [0, 1, 2, 3, 4] rfl rfl (by decide) [3] rfl [0, 1, 2, 3, 4, 5, 6] (by decide) (fun _ => rfl) rfl hl.1 (bs_ler rfl) (by decide) dc_Mt_act_15 rfl (fun v15q _ H locs hq15 hP hD hS => ?_)
  have hq15 := hq15.symm
  subst hq15
  refine lv_istore hx hb dc_Mt_act_18 hl (by decide) rfl (fun ls hl => ?_)
  have hl : lv_has ls 6 [(5, .int x15), (4, .int x8), (3, .int x2), (0, .ref t), (1, .ref p1), (2, .int i2)] := hl
  refine lv_iload_n hx hb dc_Mt_act_20 rfl (lv_at hl 2 rfl) ?_
  obtain ⟨x21, hx21, hm⟩ := bs_bind hm
  refine bs_callSi 1 [(t, .inr (2, [.ref t_registers, .ref t_profile, .int t_now])), (t_registers, .inl (t_registers_c, 3, .inl t_registers_f)), (t_profile, .inr (3, [.ref t_profile_columns, .ref t_profile_ring, .int t_profile_columnCount, .int t_profile_capacity, .int t_profile_period, .int t_profile_first, .int t_profile_size])), (t_profile_columns, .inl (t_profile_columns_c, 3, .inl t_profile_columns_f)), (t_profile_ring, .inl (t_profile_ring_c, 48, .inl t_profile_ring_f)), (p1, .inr (4, [.ref p1_bytes, .int p1_size])), (p1_bytes, .inl (p1_bytes_c, p1_bytes_N, .inl p1_bytes_f))] (fun _ => [(t, .inr (2, [.ref t_registers, .ref t_profile, .int t_now])), (t_registers, .inl (t_registers_c, 3, .inl t_registers_f)), (t_profile, .inr (3, [.ref t_profile_columns, .ref t_profile_ring, .int t_profile_columnCount, .int t_profile_capacity, .int t_profile_period, .int t_profile_first, .int t_profile_size])), (t_profile_columns, .inl (t_profile_columns_c, 3, .inl t_profile_columns_f)), (t_profile_ring, .inl (t_profile_ring_c, 48, .inl t_profile_ring_f)), (p1, .inr (4, [.ref p1_bytes, .int p1_size])), (p1_bytes, .inl (p1_bytes_c, p1_bytes_N, .inl p1_bytes_f))]) [] hx hb hml hown hB hN hK hP hD hS hA (ct_Mt_isObject l D F x2 x21 hx21) kw_cd_Mt_isObject kw_ml_Mt_34 kw_st_Mt_isObject kw_in_Mt kd_Mt_isObject (by decide) [] [0, 1, 2, 3, 4, 5, 6] rfl rfl (by decide) [] rfl [0, 1, 2, 3, 4, 5, 6] (by decide) (fun _ => rfl) rfl hl.1 (bs_ler rfl) (by decide) dc_Mt_act_21 rfl (fun v21q _ H locs hq21 hP hD hS => ?_)
  have hq21 := hq21.symm
  subst hq21
  refine lv_if_ne (tgt := 29) hx hb dc_Mt_act_24 (by decide) (fun h24 => ?_) (fun h24 => ?_)
  · have hm := bs_neg h24 hm
    refine lv_iload_n hx hb dc_Mt_act_29 rfl (lv_at hl 2 rfl) ?_
    refine lv_iload hx hb dc_Mt_act_30 (lv_at hl 1 rfl) ?_
    obtain ⟨x32, hx32, hm⟩ := bs_bind hm
    refine bs_callSi 2 [(t, .inr (2, [.ref t_registers, .ref t_profile, .int t_now])), (t_registers, .inl (t_registers_c, 3, .inl t_registers_f)), (t_profile, .inr (3, [.ref t_profile_columns, .ref t_profile_ring, .int t_profile_columnCount, .int t_profile_capacity, .int t_profile_period, .int t_profile_first, .int t_profile_size])), (t_profile_columns, .inl (t_profile_columns_c, 3, .inl t_profile_columns_f)), (t_profile_ring, .inl (t_profile_ring_c, 48, .inl t_profile_ring_f)), (p1, .inr (4, [.ref p1_bytes, .int p1_size])), (p1_bytes, .inl (p1_bytes_c, p1_bytes_N, .inl p1_bytes_f))] (fun _ => [(t, .inr (2, [.ref t_registers, .ref t_profile, .int t_now])), (t_registers, .inl (t_registers_c, 3, .inl t_registers_f)), (t_profile, .inr (3, [.ref t_profile_columns, .ref t_profile_ring, .int t_profile_columnCount, .int t_profile_capacity, .int t_profile_period, .int t_profile_first, .int t_profile_size])), (t_profile_columns, .inl (t_profile_columns_c, 3, .inl t_profile_columns_f)), (t_profile_ring, .inl (t_profile_ring_c, 48, .inl t_profile_ring_f)), (p1, .inr (4, [.ref p1_bytes, .int p1_size])), (p1_bytes, .inl (p1_bytes_c, p1_bytes_N, .inl p1_bytes_f))]) [] hx hb hml hown hB hN hK hP hD hS hA (ct_Mt_isMethod l D F x2 x8 x32 hx32) kw_cd_Mt_isMethod kw_ml_Mt_95 kw_st_Mt_isMethod kw_in_Mt kd_Mt_isMethod (by decide) [] [0, 1, 2, 3, 4, 5, 6] rfl rfl (by decide) [] rfl [0, 1, 2, 3, 4, 5, 6] (by decide) (fun _ => rfl) rfl hl.1 (bs_ler rfl) (by decide) dc_Mt_act_32 rfl (fun v32q _ H locs hq32 hP hD hS => ?_)
    have hq32 := hq32.symm
    subst hq32
    refine lv_if_ne (tgt := 41) hx hb dc_Mt_act_35 (by decide) (fun h35 => ?_) (fun h35 => ?_)
    · have hm := bs_neg h35 hm
      refine lv_iload_n hx hb dc_Mt_act_41 rfl (lv_at hl 5 rfl) ?_
      refine lv_if_ne (tgt := 47) hx hb dc_Mt_act_42 (by decide) (fun h42 => ?_) (fun h42 => ?_)
      · have hm := bs_neg h42 hm
        refine lv_iload_n hx hb dc_Mt_act_47 rfl (lv_at hl 2 rfl) ?_
        refine lv_if_ne (tgt := 58) hx hb dc_Mt_act_48 (by decide) (fun h48 => ?_) (fun h48 => ?_)
        · have hm := bs_neg h48 hm
          refine lv_iload_n hx hb dc_Mt_act_58 rfl (lv_at hl 2 rfl) ?_
          obtain ⟨x59, hx59, hm⟩ := bs_bind hm
          refine bs_callSi 1 [(t, .inr (2, [.ref t_registers, .ref t_profile, .int t_now])), (t_registers, .inl (t_registers_c, 3, .inl t_registers_f)), (t_profile, .inr (3, [.ref t_profile_columns, .ref t_profile_ring, .int t_profile_columnCount, .int t_profile_capacity, .int t_profile_period, .int t_profile_first, .int t_profile_size])), (t_profile_columns, .inl (t_profile_columns_c, 3, .inl t_profile_columns_f)), (t_profile_ring, .inl (t_profile_ring_c, 48, .inl t_profile_ring_f)), (p1, .inr (4, [.ref p1_bytes, .int p1_size])), (p1_bytes, .inl (p1_bytes_c, p1_bytes_N, .inl p1_bytes_f))] (fun _ => [(t, .inr (2, [.ref t_registers, .ref t_profile, .int t_now])), (t_registers, .inl (t_registers_c, 3, .inl t_registers_f)), (t_profile, .inr (3, [.ref t_profile_columns, .ref t_profile_ring, .int t_profile_columnCount, .int t_profile_capacity, .int t_profile_period, .int t_profile_first, .int t_profile_size])), (t_profile_columns, .inl (t_profile_columns_c, 3, .inl t_profile_columns_f)), (t_profile_ring, .inl (t_profile_ring_c, 48, .inl t_profile_ring_f)), (p1, .inr (4, [.ref p1_bytes, .int p1_size])), (p1_bytes, .inl (p1_bytes_c, p1_bytes_N, .inl p1_bytes_f))]) [] hx hb hml hown hB hN hK hP hD hS hA (ct_Mt_isRegister l D F x2 x59 hx59) kw_cd_Mt_isRegister kw_ml_Mt_59 kw_st_Mt_isRegister kw_in_Mt kd_Mt_isRegister (by decide) [] [0, 1, 2, 3, 4, 5, 6] rfl rfl (by decide) [] rfl [0, 1, 2, 3, 4, 5, 6] (by decide) (fun _ => rfl) rfl hl.1 (bs_ler rfl) (by decide) dc_Mt_act_59 rfl (fun v59q _ H locs hq59 hP hD hS => ?_)
          have hq59 := hq59.symm
          subst hq59
          refine lv_if_eq (tgt := 77) hx hb dc_Mt_act_62 (by decide) (fun h62 => ?_) (fun h62 => ?_)
          · have hm := bs_pos h62 hm
            refine lv_iload hx hb dc_Mt_act_77 (lv_at hl 1 rfl) ?_
            refine lv_iconst (v := 1) hx hb dc_Mt_act_79 (by decide +kernel) ?_
            refine lv_icmp_ne (tgt := 93) hx hb dc_Mt_act_80 (by decide) (fun h80 => ?_) (fun h80 => ?_)
            · have hm := bs_neg h80 hm
              refine lv_aload_n hx hb dc_Mt_act_93 rfl (lv_at hl 3 rfl) ?_
              refine va_get (ci := 2) (v := .ref t_profile) (C := cn_Mt) (T := cf_Mt) (N := 3) hx hb hB ki_Mt hown hK hP 0 rfl rfl 1 (by decide) (hB _ kw_fl_Mt_22) (fun _ h => h) rfl dc_Mt_act_94 ?_
              refine lv_aload_n hx hb dc_Mt_act_97 rfl (lv_at hl 3 rfl) ?_
              refine va_get (ci := 2) (v := .int t_now) (C := cn_Mt) (T := cf_Mt) (N := 3) hx hb hB ki_Mt hown hK hP 0 rfl rfl 2 (by decide) (hB _ kw_fl_Mt_13) (fun _ h => h) rfl dc_Mt_act_98 ?_
              refine lv_aload_n hx hb dc_Mt_act_101 rfl (lv_at hl 3 rfl) ?_
              refine va_get (ci := 2) (v := .ref t_registers) (C := cn_Mt) (T := cf_Mt) (N := 3) hx hb hB ki_Mt hown hK hP 0 rfl rfl 0 (by decide) (hB _ kw_fl_Mt_9) (fun _ h => h) rfl dc_Mt_act_102 ?_
              obtain ⟨x105, hx105, hm⟩ := bs_bind hm
              refine bs_callVv 2 [(t, .inr (2, [.ref t_registers, .ref t_profile, .int t_now])), (p1, .inr (4, [.ref p1_bytes, .int p1_size])), (p1_bytes, .inl (p1_bytes_c, p1_bytes_N, .inl p1_bytes_f))] (fun _ => [(t, .inr (2, [.ref t_registers, .ref t_profile, .int t_now])), (t_registers, .inl (t_registers_c, 3, .inl t_registers_f)), (t_profile, .inr (3, [.ref t_profile_columns, .ref t_profile_ring, .int t_profile_columnCount, .int t_profile_capacity, .int t_profile_period, .int x105.1, .int x105.2.1])), (t_profile_columns, .inl (t_profile_columns_c, 3, .inl t_profile_columns_f)), (t_profile_ring, .inl (t_profile_ring_c, 48, .inl x105.2.2)), (p1, .inr (4, [.ref p1_bytes, .int p1_size])), (p1_bytes, .inl (p1_bytes_c, p1_bytes_N, .inl p1_bytes_f))]) [] hx hb hml hown hB hN hK hP hD hS hA (ct_Pf_capture l D F t_profile t_profile_columns t_profile_ring t_registers t_profile_columns_c t_profile_ring_c t_registers_c 3 t_profile_columnCount t_profile_capacity t_profile_period t_profile_first t_profile_size t_profile_columns_f t_profile_ring_f t_registers_f t_now x105 hx105) kw_cd_Pf_capture kw_ml_Mt_30 kw_im_Pf_capture kw_se_Pf_capture kw_in_Pf kd_Pf_capture (by decide) ⟨_, _, _, rfl, rfl, rfl⟩ [2, 3, 4, 1] [0, 5, 6] rfl rfl (by decide) [1, 2, 0] rfl [0, 6, 3, 4, 5, 1, 2] (by decide) (fun _ => rfl) rfl hl.1 (bs_ler rfl) (by decide) dc_Mt_act_105 rfl (fun _ H locs hq105 hP hD hS => ?_)
              refine lv_iconst (v := 0) hx hb dc_Mt_act_108 (by decide +kernel) ?_
              cases hm
              subst hQ
              exact bs_retI hx hb hr hlk () rfl hP hD hS dc_Mt_act_109
            · have hm := bs_pos h80 hm
              refine lv_aload_n hx hb dc_Mt_act_83 rfl (lv_at hl 3 rfl) ?_
              refine va_get (ci := 2) (v := .ref t_profile) (C := cn_Mt) (T := cf_Mt) (N := 3) hx hb hB ki_Mt hown hK hP 0 rfl rfl 1 (by decide) (hB _ kw_fl_Mt_22) (fun _ h => h) rfl dc_Mt_act_84 ?_
              obtain ⟨x87, hx87, hm⟩ := bs_bind hm
              refine bs_callVv 0 [(t, .inr (2, [.ref t_registers, .ref t_profile, .int t_now])), (t_registers, .inl (t_registers_c, 3, .inl t_registers_f)), (p1, .inr (4, [.ref p1_bytes, .int p1_size])), (p1_bytes, .inl (p1_bytes_c, p1_bytes_N, .inl p1_bytes_f))] (fun _ => [(t, .inr (2, [.ref t_registers, .ref t_profile, .int t_now])), (t_registers, .inl (t_registers_c, 3, .inl t_registers_f)), (t_profile, .inr (3, [.ref t_profile_columns, .ref t_profile_ring, .int t_profile_columnCount, .int t_profile_capacity, .int t_profile_period, .int x87.1, .int x87.2])), (t_profile_columns, .inl (t_profile_columns_c, 3, .inl t_profile_columns_f)), (t_profile_ring, .inl (t_profile_ring_c, 48, .inl t_profile_ring_f)), (p1, .inr (4, [.ref p1_bytes, .int p1_size])), (p1_bytes, .inl (p1_bytes_c, p1_bytes_N, .inl p1_bytes_f))]) [] hx hb hml hown hB hN hK hP hD hS hA (ct_Pf_forget l D F t_profile t_profile_columns t_profile_ring t_profile_columns_c t_profile_ring_c t_profile_columnCount t_profile_capacity t_profile_period t_profile_first t_profile_size t_profile_columns_f t_profile_ring_f x87 hx87) kw_cd_Pf_forget kw_ml_Mt_101 kw_im_Pf_forget kw_se_Pf_forget kw_in_Pf kd_Pf_forget (by decide) ⟨_, _, _, rfl, rfl, rfl⟩ [2, 3, 4] [0, 1, 5, 6] rfl rfl (by decide) [1, 2] rfl [0, 1, 4, 5, 6, 2, 3] (by decide) (fun _ => rfl) rfl hl.1 (bs_ler rfl) (by decide) dc_Mt_act_87 rfl (fun _ H locs hq87 hP hD hS => ?_)
              refine lv_goto (tgt := 108) hx hb dc_Mt_act_90 (by decide) ?_
              refine lv_iconst (v := 0) hx hb dc_Mt_act_108 (by decide +kernel) ?_
              cases hm
              subst hQ
              exact bs_retI hx hb hr hlk () rfl hP hD hS dc_Mt_act_109
          · have hm := bs_neg h62 hm
            refine lv_aload_n hx hb dc_Mt_act_65 rfl (lv_at hl 3 rfl) ?_
            refine va_get (ci := 2) (v := .ref t_registers) (C := cn_Mt) (T := cf_Mt) (N := 3) hx hb hB ki_Mt hown hK hP 0 rfl rfl 0 (by decide) (hB _ kw_fl_Mt_9) (fun _ h => h) rfl dc_Mt_act_66 ?_
            refine lv_iload_n hx hb dc_Mt_act_69 rfl (lv_at hl 2 rfl) ?_
            refine lv_iconst (v := 1) hx hb dc_Mt_act_70 (by decide +kernel) ?_
            refine lv_isub hx hb dc_Mt_act_71 ?_
            refine lv_iconst (v := 0) hx hb dc_Mt_act_72 (by decide +kernel) ?_
            obtain ⟨hz73, hm⟩ := bs_nn hm
            refine va_iast hx hb hK hP hD hS 1 0 rfl rfl hz73 dc_Mt_act_73 (fun H locs hP hD hS => ?_)
            obtain ⟨hP, hD⟩ := bs_say [(t, .inr (2, [.ref t_registers, .ref t_profile, .int t_now])), (t_registers, .inl (t_registers_c, 3, .inl (upd t_registers_f ((x2 - 1).toNatClampNeg) 0))), (t_profile, .inr (3, [.ref t_profile_columns, .ref t_profile_ring, .int t_profile_columnCount, .int t_profile_capacity, .int t_profile_period, .int t_profile_first, .int t_profile_size])), (t_profile_columns, .inl (t_profile_columns_c, 3, .inl t_profile_columns_f)), (t_profile_ring, .inl (t_profile_ring_c, 48, .inl t_profile_ring_f)), (p1, .inr (4, [.ref p1_bytes, .int p1_size])), (p1_bytes, .inl (p1_bytes_c, p1_bytes_N, .inl p1_bytes_f))] hP hD
            refine lv_goto (tgt := 108) hx hb dc_Mt_act_74 (by decide) ?_
            refine lv_iconst (v := 0) hx hb dc_Mt_act_108 (by decide +kernel) ?_
            cases hm
            subst hQ
            exact bs_retI hx hb hr hlk () rfl hP hD hS dc_Mt_act_109
        · have hm := bs_pos h48 hm
          refine lv_aload_n hx hb dc_Mt_act_51 rfl (lv_at hl 3 rfl) ?_
          refine lv_iload hx hb dc_Mt_act_52 (lv_at hl 0 rfl) ?_
          obtain ⟨x54, hx54, hm⟩ := bs_bind hm
          refine bs_callVi 1 [(p1, .inr (4, [.ref p1_bytes, .int p1_size])), (p1_bytes, .inl (p1_bytes_c, p1_bytes_N, .inl p1_bytes_f))] (fun _ => [(t, .inr (2, [.ref t_registers, .ref t_profile, .int x54.2])), (t_registers, .inl (t_registers_c, 3, .inl t_registers_f)), (t_profile, .inr (3, [.ref t_profile_columns, .ref t_profile_ring, .int t_profile_columnCount, .int t_profile_capacity, .int t_profile_period, .int t_profile_first, .int t_profile_size])), (t_profile_columns, .inl (t_profile_columns_c, 3, .inl t_profile_columns_f)), (t_profile_ring, .inl (t_profile_ring_c, 48, .inl t_profile_ring_f)), (p1, .inr (4, [.ref p1_bytes, .int p1_size])), (p1_bytes, .inl (p1_bytes_c, p1_bytes_N, .inl p1_bytes_f))]) [] hx hb hml hown hB hN hK hP hD hS hA (ct_Mt_roundTime l D F t t_registers t_profile t_profile_columns t_profile_ring t_registers_c t_profile_columns_c t_profile_ring_c t_now t_registers_f t_profile_columnCount t_profile_capacity t_profile_period t_profile_first t_profile_size t_profile_columns_f t_profile_ring_f x15 x54 hx54) kw_cd_Mt_roundTime kw_ml_Mt_98 kw_im_Mt_roundTime kw_se_Mt_roundTime kw_in_Mt kd_Mt_roundTime (by decide) ⟨_, _, _, rfl, rfl, rfl⟩ [0, 1, 2, 3, 4] [5, 6] rfl rfl (by decide) [0, 1, 2] rfl [2, 3, 4, 5, 6, 0, 1] (by decide) (fun _ => rfl) rfl hl.1 (bs_ler rfl) (by decide) dc_Mt_act_54 rfl (fun v54q _ H locs hq54 hP hD hS => ?_)
          have hq54 := hq54.symm
          subst hq54
          cases hm
          subst hQ
          exact bs_retI hx hb hr hlk () rfl hP hD hS dc_Mt_act_57
      · have hm := bs_pos h42 hm
        refine lv_iconst (v := 3) hx hb dc_Mt_act_45 (by decide +kernel) ?_
        cases hm
        subst hQ
        exact bs_retI hx hb hr hlk () rfl hP hD hS dc_Mt_act_46
    · have hm := bs_pos h35 hm
      refine lv_bipush (v := 9) hx hb dc_Mt_act_38 (by decide +kernel) ?_
      cases hm
      subst hQ
      exact bs_retI hx hb hr hlk () rfl hP hD hS dc_Mt_act_40
  · have hm := bs_pos h24 hm
    refine lv_iconst (v := 4) hx hb dc_Mt_act_27 (by decide +kernel) ?_
    cases hm
    subst hQ
    exact bs_retI hx hb hr hlk () rfl hP hD hS dc_Mt_act_28
