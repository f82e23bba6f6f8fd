set_option maxHeartbeats 2000000 in
set_option maxRecDepth 100000 in
theorem ct_Fr_isFrame (l : Launch) (D : va_G) (F : Nat) (p0 : Nat) (p0_bytes : Nat) (p0_bytes_c : ClassId) (p0_bytes_N : Nat) (p0_size : Int32) (p0_bytes_f : Nat → Int32) (r : Int32) (hm : mm_Fr_isFrame F p0_bytes_N p0_size p0_bytes_f = some r) :
    bs_CI l my_Fr_isFrame mb_Fr_isFrame 3 .boolean (bs_rm 3) D [.ref p0] [(p0_bytes_c, .int)] [(p0, .inr (4, [.ref p0_bytes, .int p0_size])), (p0_bytes, .inl (p0_bytes_c, p0_bytes_N, .inl p0_bytes_f))] (S := Unit) (fun v (_ : Unit) => v = r) (fun _ => [(p0, .inr (4, [.ref p0_bytes, .int p0_size])), (p0_bytes, .inl (p0_bytes_c, p0_bytes_N, .inl p0_bytes_f))]) := by
  refine bs_CI.mk (by decide +kernel) (bs_ler rfl) ?_
  intro p e s m below meth c ls A hx hb hr hml hlk hown hB hN hP hK hD hS hA hl
  refine bs_genQ (fun Q hQ => ?_)
  have hJ29 : ∀ (v1 : Int32) (ls : Array Slot) (H : Heap) (locs : List Loc), mm_Fr_isFrame_J29 F p0_bytes_N v1 p0_size p0_bytes_f = some r → lv_has ls 3 [(0, .ref p0), (1, .int v1)] → va_P D bs_cl [(p0, .inr (4, [.ref p0_bytes, .int p0_size])), (p0_bytes, .inl (p0_bytes_c, p0_bytes_N, .inl p0_bytes_f))] H → va_D A [(p0, .inr (4, [.ref p0_bytes, .int p0_size])), (p0_bytes, .inl (p0_bytes_c, p0_bytes_N, .inl p0_bytes_f))] → va_S A s.heap H locs → W p l e (bs_rm 3) s m [.ref p0].toArray below meth c H locs 0 0 Q (F0 m 29 ls []) := by
    intro v1 ls H locs hm hl hP hD hS
    have hm := (mq_Fr_isFrame_J29 F p0_bytes_N v1 p0_size p0_bytes_f).symm.trans hm
    refine lv_aload_n hx hb dc_Fr_isFrame_29 rfl (lv_at hl 0 rfl) ?_
    refine lv_iconst (v := 0) hx hb dc_Fr_isFrame_30 (by decide +kernel) ?_
    obtain ⟨x31, hx31, hm⟩ := bs_bind hm
    refine bs_callVi 1 [] (fun _ => [(p0, .inr (4, [.ref p0_bytes, .int p0_size])), (p0_bytes, .inl (p0_bytes_c, p0_bytes_N, .inl p0_bytes_f))]) [] hx hb hml hown hB hN hK hP hD hS hA (ct_Rw_at l D F p0 p0_bytes p0_bytes_c p0_bytes_N p0_size p0_bytes_f 0 x31 hx31) kw_cd_Rw_at kw_ml_Fr_34 kw_im_Rw_at kw_se_Rw_at kw_in_Rw kd_Rw_at (by decide) ⟨_, _, _, rfl, rfl, rfl⟩ [0, 1] [] rfl rfl (by decide) [0] rfl [0, 1] (by decide) (fun _ => rfl) rfl hl.1 (bs_ler rfl) (by decide) dc_Fr_isFrame_31 rfl (fun v31q _ H locs hq31 hP hD hS => ?_)
    have hq31 := hq31.symm
    subst hq31
    refine lv_bipush (v := 126) hx hb dc_Fr_isFrame_34 (by decide +kernel) ?_
    refine lv_icmp_ne (tgt := 100) hx hb dc_Fr_isFrame_36 (by decide) (fun h36 => ?_) (fun h36 => ?_)
    · have hm := bs_neg h36 hm
      refine lv_iconst (v := 0) hx hb dc_Fr_isFrame_100 (by decide +kernel) ?_
      cases hm
      subst hQ
      exact bs_retZ hx hb hr hlk (by decide +kernel) () rfl hP hD hS dc_Fr_isFrame_101
    · have hm := bs_pos h36 hm
      refine lv_aload_n hx hb dc_Fr_isFrame_39 rfl (lv_at hl 0 rfl) ?_
      refine lv_iconst (v := 1) hx hb dc_Fr_isFrame_40 (by decide +kernel) ?_
      obtain ⟨x41, hx41, hm⟩ := bs_bind hm
      refine bs_callVi 1 [] (fun _ => [(p0, .inr (4, [.ref p0_bytes, .int p0_size])), (p0_bytes, .inl (p0_bytes_c, p0_bytes_N, .inl p0_bytes_f))]) [] hx hb hml hown hB hN hK hP hD hS hA (ct_Rw_at l D F p0 p0_bytes p0_bytes_c p0_bytes_N p0_size p0_bytes_f 1 x41 hx41) kw_cd_Rw_at kw_ml_Fr_34 kw_im_Rw_at kw_se_Rw_at kw_in_Rw kd_Rw_at (by decide) ⟨_, _, _, rfl, rfl, rfl⟩ [0, 1] [] rfl rfl (by decide) [0] rfl [0, 1] (by decide) (fun _ => rfl) rfl hl.1 (bs_ler rfl) (by decide) dc_Fr_isFrame_41 rfl (fun v41q _ H locs hq41 hP hD hS => ?_)
      have hq41 := hq41.symm
      subst hq41
      refine lv_iload_n hx hb dc_Fr_isFrame_44 rfl (lv_at hl 1 rfl) ?_
      refine lv_iconst (v := 2) hx hb dc_Fr_isFrame_45 (by decide +kernel) ?_
      refine lv_isub hx hb dc_Fr_isFrame_46 ?_
      refine lv_icmp_ne (tgt := 100) hx hb dc_Fr_isFrame_47 (by decide) (fun h47 => ?_) (fun h47 => ?_)
      · have hm := bs_neg h47 hm
        refine lv_iconst (v := 0) hx hb dc_Fr_isFrame_100 (by decide +kernel) ?_
        cases hm
        subst hQ
        exact bs_retZ hx hb hr hlk (by decide +kernel) () rfl hP hD hS dc_Fr_isFrame_101
      · have hm := bs_pos h47 hm
        refine lv_aload_n hx hb dc_Fr_isFrame_50 rfl (lv_at hl 0 rfl) ?_
        refine lv_iconst (v := 2) hx hb dc_Fr_isFrame_51 (by decide +kernel) ?_
        obtain ⟨x52, hx52, hm⟩ := bs_bind hm
        refine bs_callVi 1 [] (fun _ => [(p0, .inr (4, [.ref p0_bytes, .int p0_size])), (p0_bytes, .inl (p0_bytes_c, p0_bytes_N, .inl p0_bytes_f))]) [] hx hb hml hown hB hN hK hP hD hS hA (ct_Rw_at l D F p0 p0_bytes p0_bytes_c p0_bytes_N p0_size p0_bytes_f 2 x52 hx52) kw_cd_Rw_at kw_ml_Fr_34 kw_im_Rw_at kw_se_Rw_at kw_in_Rw kd_Rw_at (by decide) ⟨_, _, _, rfl, rfl, rfl⟩ [0, 1] [] rfl rfl (by decide) [0] rfl [0, 1] (by decide) (fun _ => rfl) rfl hl.1 (bs_ler rfl) (by decide) dc_Fr_isFrame_52 rfl (fun v52q _ H locs hq52 hP hD hS => ?_)
        have hq52 := hq52.symm
        subst hq52
        refine lv_bipush (v := 17) hx hb dc_Fr_isFrame_55 (by decide +kernel) ?_
        refine lv_icmp_ne (tgt := 100) hx hb dc_Fr_isFrame_57 (by decide) (fun h57 => ?_) (fun h57 => ?_)
        · have hm := bs_neg h57 hm
          refine lv_iconst (v := 0) hx hb dc_Fr_isFrame_100 (by decide +kernel) ?_
          cases hm
          subst hQ
          exact bs_retZ hx hb hr hlk (by decide +kernel) () rfl hP hD hS dc_Fr_isFrame_101
        · have hm := bs_pos h57 hm
          refine lv_aload_n hx hb dc_Fr_isFrame_60 rfl (lv_at hl 0 rfl) ?_
          refine lv_iload_n hx hb dc_Fr_isFrame_61 rfl (lv_at hl 1 rfl) ?_
          refine lv_iconst (v := 1) hx hb dc_Fr_isFrame_62 (by decide +kernel) ?_
          refine lv_isub hx hb dc_Fr_isFrame_63 ?_
          obtain ⟨x64, hx64, hm⟩ := bs_bind hm
          refine bs_callVi 1 [] (fun _ => [(p0, .inr (4, [.ref p0_bytes, .int p0_size])), (p0_bytes, .inl (p0_bytes_c, p0_bytes_N, .inl p0_bytes_f))]) [] hx hb hml hown hB hN hK hP hD hS hA (ct_Rw_at l D F p0 p0_bytes p0_bytes_c p0_bytes_N p0_size p0_bytes_f (v1 - 1) x64 hx64) kw_cd_Rw_at kw_ml_Fr_34 kw_im_Rw_at kw_se_Rw_at kw_in_Rw kd_Rw_at (by decide) ⟨_, _, _, rfl, rfl, rfl⟩ [0, 1] [] rfl rfl (by decide) [0] rfl [0, 1] (by decide) (fun _ => rfl) rfl hl.1 (bs_ler rfl) (by decide) dc_Fr_isFrame_64 rfl (fun v64q _ H locs hq64 hP hD hS => ?_)
          have hq64 := hq64.symm
          subst hq64
          refine lv_bipush (v := 126) hx hb dc_Fr_isFrame_67 (by decide +kernel) ?_
          refine lv_icmp_ne (tgt := 100) hx hb dc_Fr_isFrame_69 (by decide) (fun h69 => ?_) (fun h69 => ?_)
          · have hm := bs_neg h69 hm
            refine lv_iconst (v := 0) hx hb dc_Fr_isFrame_100 (by decide +kernel) ?_
            cases hm
            subst hQ
            exact bs_retZ hx hb hr hlk (by decide +kernel) () rfl hP hD hS dc_Fr_isFrame_101
          · have hm := bs_pos h69 hm
            refine lv_aload_n hx hb dc_Fr_isFrame_72 rfl (lv_at hl 0 rfl) ?_
            refine lv_iconst (v := 4) hx hb dc_Fr_isFrame_73 (by decide +kernel) ?_
            obtain ⟨x74, hx74, hm⟩ := bs_bind hm
            refine bs_callSi 2 [] (fun _ => [(p0, .inr (4, [.ref p0_bytes, .int p0_size])), (p0_bytes, .inl (p0_bytes_c, p0_bytes_N, .inl p0_bytes_f))]) [] hx hb hml hown hB hN hK hP hD hS hA (ct_Fr_isChecked l D F p0 p0_bytes p0_bytes_c p0_bytes_N p0_size p0_bytes_f 4 x74 hx74) kw_cd_Fr_isChecked kw_ml_Fr_38 kw_st_Fr_isChecked kw_in_Fr kd_Fr_isChecked (by decide) [0, 1] [] rfl rfl (by decide) [0] rfl [0, 1] (by decide) (fun _ => rfl) rfl hl.1 (bs_ler rfl) (by decide) dc_Fr_isFrame_74 rfl (fun v74q _ H locs hq74 hP hD hS => ?_)
            have hq74 := hq74.symm
            subst hq74
            refine lv_if_eq (tgt := 100) hx hb dc_Fr_isFrame_77 (by decide) (fun h77 => ?_) (fun h77 => ?_)
            · have hm := bs_pos h77 hm
              refine lv_iconst (v := 0) hx hb dc_Fr_isFrame_100 (by decide +kernel) ?_
              cases hm
              subst hQ
              exact bs_retZ hx hb hr hlk (by decide +kernel) () rfl hP hD hS dc_Fr_isFrame_101
            · have hm := bs_neg h77 hm
              refine lv_iload_n hx hb dc_Fr_isFrame_80 rfl (lv_at hl 1 rfl) ?_
              refine lv_bipush (v := 7) hx hb dc_Fr_isFrame_81 (by decide +kernel) ?_
              refine lv_icmp_eq (tgt := 96) hx hb dc_Fr_isFrame_83 (by decide) (fun h83 => ?_) (fun h83 => ?_)
              · have hm := bs_pos h83 hm
                refine lv_iconst (v := 1) hx hb dc_Fr_isFrame_96 (by decide +kernel) ?_
                refine lv_goto (tgt := 101) hx hb dc_Fr_isFrame_97 (by decide) ?_
                cases hm
                subst hQ
                exact bs_retZ hx hb hr hlk (by decide +kernel) () rfl hP hD hS dc_Fr_isFrame_101
              · have hm := bs_neg h83 hm
                refine lv_aload_n hx hb dc_Fr_isFrame_86 rfl (lv_at hl 0 rfl) ?_
                refine lv_iload_n hx hb dc_Fr_isFrame_87 rfl (lv_at hl 1 rfl) ?_
                refine lv_iconst (v := 3) hx hb dc_Fr_isFrame_88 (by decide +kernel) ?_
                refine lv_isub hx hb dc_Fr_isFrame_89 ?_
                obtain ⟨x90, hx90, hm⟩ := bs_bind hm
                refine bs_callSi 2 [] (fun _ => [(p0, .inr (4, [.ref p0_bytes, .int p0_size])), (p0_bytes, .inl (p0_bytes_c, p0_bytes_N, .inl p0_bytes_f))]) [] hx hb hml hown hB hN hK hP hD hS hA (ct_Fr_isChecked l D F p0 p0_bytes p0_bytes_c p0_bytes_N p0_size p0_bytes_f (v1 - 3) x90 hx90) kw_cd_Fr_isChecked kw_ml_Fr_38 kw_st_Fr_isChecked kw_in_Fr kd_Fr_isChecked (by decide) [0, 1] [] rfl rfl (by decide) [0] rfl [0, 1] (by decide) (fun _ => rfl) rfl hl.1 (bs_ler rfl) (by decide) dc_Fr_isFrame_90 rfl (fun v90q _ H locs hq90 hP hD hS => ?_)
                have hq90 := hq90.symm
                subst hq90
                refine lv_if_eq (tgt := 100) hx hb dc_Fr_isFrame_93 (by decide) (fun h93 => ?_) (fun h93 => ?_)
                · have hm := bs_pos h93 hm
                  refine lv_iconst (v := 0) hx hb dc_Fr_isFrame_100 (by decide +kernel) ?_
                  cases hm
                  subst hQ
                  exact bs_retZ hx hb hr hlk (by decide +kernel) () rfl hP hD hS dc_Fr_isFrame_101
                · have hm := bs_neg h93 hm
                  refine lv_iconst (v := 1) hx hb dc_Fr_isFrame_96 (by decide +kernel) ?_
                  refine lv_goto (tgt := 101) hx hb dc_Fr_isFrame_97 (by decide) ?_
                  cases hm
                  subst hQ
                  exact bs_retZ hx hb hr hlk (by decide +kernel) () rfl hP hD hS dc_Fr_isFrame_101
  have hl : lv_has ls 3 [(0, .ref p0)] := hl
  have hm := (mq_Fr_isFrame F p0_bytes_N p0_size p0_bytes_f).symm.trans hm
  refine lv_aload_n hx hb dc_Fr_isFrame_0 rfl (lv_at hl 0 rfl) ?_
  refine va_getN (ci := 4) (v := .int p0_size) (C := cn_Rw) (T := cf_Rw) (N := 2) hx hb hB ki_Rw hown hK hP 0 rfl rfl 1 (by decide) (hN.use kn_Fr_7) (fun _ h => h) rfl dc_Fr_isFrame_1 ?_
  refine lv_istore_n hx hb dc_Fr_isFrame_4 rfl hl (by decide) rfl (fun ls hl => ?_)
  have hl : lv_has ls 3 [(1, .int p0_size), (0, .ref p0)] := hl
  refine lv_aload_n hx hb dc_Fr_isFrame_5 rfl (lv_at hl 1 rfl) ?_
  obtain ⟨x6, hx6, hm⟩ := bs_bind hm
  refine bs_callSi 1 [] (fun _ => [(p0, .inr (4, [.ref p0_bytes, .int p0_size])), (p0_bytes, .inl (p0_bytes_c, p0_bytes_N, .inl p0_bytes_f))]) [] hx hb hml hown hB hN hK hP hD hS hA (ct_Fr_payloadSize l D F p0 p0_bytes p0_bytes_c p0_bytes_N p0_size p0_bytes_f x6 hx6) kw_cd_Fr_payloadSize kw_ml_Fr_30 kw_st_Fr_payloadSize kw_in_Fr kd_Fr_payloadSize (by decide) [0, 1] [] rfl rfl (by decide) [0] rfl [0, 1] (by decide) (fun _ => rfl) rfl hl.1 (bs_ler rfl) (by decide) dc_Fr_isFrame_6 rfl (fun v6q _ H locs hq6 hP hD hS => ?_)
  have hq6 := hq6.symm
  subst hq6
  refine lv_istore_n hx hb dc_Fr_isFrame_9 rfl hl (by decide) rfl (fun ls hl => ?_)
  have hl : lv_has ls 3 [(2, .int x6), (1, .int p0_size), (0, .ref p0)] := hl
  refine lv_iload_n hx hb dc_Fr_isFrame_10 rfl (lv_at hl 1 rfl) ?_
  refine lv_bipush (v := 7) hx hb dc_Fr_isFrame_11 (by decide +kernel) ?_
  refine lv_icmp_eq (tgt := 29) hx hb dc_Fr_isFrame_13 (by decide) (fun h13 => ?_) (fun h13 => ?_)
  · have hm := bs_pos h13 hm
    exact hJ29 p0_size ls _ _ hm (lv_sub hl [2, 1] rfl) hP hD hS
  · have hm := bs_neg h13 hm
    refine lv_iload_n hx hb dc_Fr_isFrame_16 rfl (lv_at hl 0 rfl) ?_
    refine lv_iconst (v := 1) hx hb dc_Fr_isFrame_17 (by decide +kernel) ?_
    refine lv_icmp_lt (tgt := 27) hx hb dc_Fr_isFrame_18 (by decide) (fun h18 => ?_) (fun h18 => ?_)
    · have hm := bs_pos h18 hm
      refine lv_iconst (v := 0) hx hb dc_Fr_isFrame_27 (by decide +kernel) ?_
      clear hJ29
      cases hm
      subst hQ
      exact bs_retZ hx hb hr hlk (by decide +kernel) () rfl hP hD hS dc_Fr_isFrame_28
    · have hm := bs_neg h18 hm
      refine lv_iload_n hx hb dc_Fr_isFrame_21 rfl (lv_at hl 0 rfl) ?_
      refine lv_bipush (v := 60) hx hb dc_Fr_isFrame_22 (by decide +kernel) ?_
      refine lv_icmp_le (tgt := 29) hx hb dc_Fr_isFrame_24 (by decide) (fun h24 => ?_) (fun h24 => ?_)
      · have hm := bs_pos h24 hm
        exact hJ29 p0_size ls _ _ hm (lv_sub hl [2, 1] rfl) hP hD hS
      · have hm := bs_neg h24 hm
        refine lv_iconst (v := 0) hx hb dc_Fr_isFrame_27 (by decide +kernel) ?_
        clear hJ29
        cases hm
        subst hQ
        exact bs_retZ hx hb hr hlk (by decide +kernel) () rfl hP hD hS dc_Fr_isFrame_28
