set_option maxHeartbeats 2000000 in
set_option maxRecDepth 100000 in
theorem ct_Pf_forget (l : Launch) (D : va_G) (F : Nat) (t : Nat) (t_columns : Nat) (t_ring : Nat) (t_columns_c : ClassId) (t_ring_c : ClassId) (t_columnCount : Int32) (t_capacity : Int32) (t_period : Int32) (t_first : Int32) (t_size : Int32) (t_columns_f : Nat → Int32) (t_ring_f : Nat → Int32) (r : Int32 × Int32) (hm : mm_Pf_forget F t_first t_size = some r) :
    bs_CV l my_Pf_forget mb_Pf_forget 1 (bs_rm 0) D [.ref t] [(t_columns_c, .int), (t_ring_c, .int)] [(t, .inr (3, [.ref t_columns, .ref t_ring, .int t_columnCount, .int t_capacity, .int t_period, .int t_first, .int t_size])), (t_columns, .inl (t_columns_c, 3, .inl t_columns_f)), (t_ring, .inl (t_ring_c, 48, .inl t_ring_f))] (S := Unit) (fun (_ : Unit) => True) (fun _ => [(t, .inr (3, [.ref t_columns, .ref t_ring, .int t_columnCount, .int t_capacity, .int t_period, .int r.1, .int r.2])), (t_columns, .inl (t_columns_c, 3, .inl t_columns_f)), (t_ring, .inl (t_ring_c, 48, .inl t_ring_f))]) := by
  refine bs_CV.mk (by decide +kernel) (bs_ler rfl) ?_
  intro p e s m below meth c ls A hx hb hr hml hlk hown hB hN hP hK hD hS hA hl
  refine bs_genQ (fun Q hQ => ?_)
  have hl : lv_has ls 1 [(0, .ref t)] := hl
  have hm := (mq_Pf_forget F t_first t_size).symm.trans hm
  refine lv_aload_n hx hb dc_Pf_forget_0 rfl (lv_at hl 0 rfl) ?_
  refine lv_iconst (v := 0) hx hb dc_Pf_forget_1 (by decide +kernel) ?_
  refine va_put (ci := 3) (v := .int 0) (ty := .int) (C := cn_Pf) (T := cf_Pf) (N := 7) hx hb hB ki_Pf ct_Pf cp_Pf cd_Pf hown hK hP hD hS 0 rfl rfl 5 (by decide) (hB _ kw_fl_Pf_23) (fun _ h => h) rfl (by decide +kernel) rfl rfl (bs_ltr rfl) dc_Pf_forget_2 (fun H locs hP hD hS => ?_)
  obtain ⟨hP, hD⟩ := bs_say [(t, .inr (3, [.ref t_columns, .ref t_ring, .int t_columnCount, .int t_capacity, .int t_period, .int 0, .int t_size])), (t_columns, .inl (t_columns_c, 3, .inl t_columns_f)), (t_ring, .inl (t_ring_c, 48, .inl t_ring_f))] hP hD
  refine lv_aload_n hx hb dc_Pf_forget_5 rfl (lv_at hl 0 rfl) ?_
  refine lv_iconst (v := 0) hx hb dc_Pf_forget_6 (by decide +kernel) ?_
  refine va_put (ci := 3) (v := .int 0) (ty := .int) (C := cn_Pf) (T := cf_Pf) (N := 7) hx hb hB ki_Pf ct_Pf cp_Pf cd_Pf hown hK hP hD hS 0 rfl rfl 6 (by decide) (hB _ kw_fl_Pf_26) (fun _ h => h) rfl (by decide +kernel) rfl rfl (bs_ltr rfl) dc_Pf_forget_7 (fun H locs hP hD hS => ?_)
  obtain ⟨hP, hD⟩ := bs_say [(t, .inr (3, [.ref t_columns, .ref t_ring, .int t_columnCount, .int t_capacity, .int t_period, .int 0, .int 0])), (t_columns, .inl (t_columns_c, 3, .inl t_columns_f)), (t_ring, .inl (t_ring_c, 48, .inl t_ring_f))] hP hD
  cases hm
  subst hQ
  exact bs_retV hx hb hr hlk () trivial hP hD hS dc_Pf_forget_10
set_option maxHeartbeats 2000000 in
set_option maxRecDepth 100000 in
theorem ct_Pf_takeColumns (l : Launch) (D : va_G) (F : Nat) (t : Nat) (t_columns : Nat) (t_ring : Nat) (p1 : Nat) (p1_bytes : Nat) (t_columns_c : ClassId) (t_ring_c : ClassId) (p1_bytes_c : ClassId) (p1_bytes_N : Nat) (t_columnCount : Int32) (t_capacity : Int32) (t_period : Int32) (t_first : Int32) (t_size : Int32) (t_columns_f : Nat → Int32) (t_ring_f : Nat → Int32) (p1_size : Int32) (p1_bytes_f : Nat → Int32) (r : Int32 × Int32 × Int32 × Int32 × (Nat → Int32)) (hm : mm_Pf_takeColumns F p1_bytes_N t_columnCount t_first t_size t_columns_f p1_size p1_bytes_f = some r) :
    bs_CI l my_Pf_takeColumns mb_Pf_takeColumns 3 .boolean (bs_rm 2) D [.ref t, .ref p1] [(t_columns_c, .int), (t_ring_c, .int), (p1_bytes_c, .int)] [(t, .inr (3, [.ref t_columns, .ref t_ring, .int t_columnCount, .int t_capacity, .int t_period, .int t_first, .int t_size])), (t_columns, .inl (t_columns_c, 3, .inl t_columns_f)), (t_ring, .inl (t_ring_c, 48, .inl t_ring_f)), (p1, .inr (4, [.ref p1_bytes, .int p1_size])), (p1_bytes, .inl (p1_bytes_c, p1_bytes_N, .inl p1_bytes_f))] (S := Unit) (fun v (_ : Unit) => v = r.1) (fun _ => [(t, .inr (3, [.ref t_columns, .ref t_ring, .int r.2.1, .int t_capacity, .int t_period, .int r.2.2.1, .int r.2.2.2.1])), (t_columns, .inl (t_columns_c, 3, .inl r.2.2.2.2)), (t_ring, .inl (t_ring_c, 48, .inl t_ring_f)), (p1, .inr (4, [.ref p1_bytes, .int p1_size])), (p1_bytes, .inl (p1_bytes_c, p1_bytes_N, .inl p1_bytes_f))]) := by
  refine bs_CI.mk (by decide +kernel) (bs_ler rfl) ?_
  intro p e s m below meth c ls A hx hb hr hml hlk hown hB hN hP hK hD hS hA hl
  refine bs_genQ (fun Q hQ => ?_)
  have hL20 : ∀ (k : Nat) (v2 : Int32) (t_columnCount : Int32) (t_first : Int32) (t_size : Int32) (t_columns_f : Nat → Int32) (ls : Array Slot) (H : Heap) (locs : List Loc), mm_Pf_takeColumns_L20 F p1_bytes_N k v2 t_columnCount t_first t_size t_columns_f p1_size p1_bytes_f = some r → lv_has ls 3 [(0, .ref t), (1, .ref p1), (2, .int v2)] → va_P D bs_cl [(t, .inr (3, [.ref t_columns, .ref t_ring, .int t_columnCount, .int t_capacity, .int t_period, .int t_first, .int t_size])), (t_columns, .inl (t_columns_c, 3, .inl t_columns_f)), (t_ring, .inl (t_ring_c, 48, .inl t_ring_f)), (p1, .inr (4, [.ref p1_bytes, .int p1_size])), (p1_bytes, .inl (p1_bytes_c, p1_bytes_N, .inl p1_bytes_f))] H → va_D A [(t, .inr (3, [.ref t_columns, .ref t_ring, .int t_columnCount, .int t_capacity, .int t_period, .int t_first, .int t_size])), (t_columns, .inl (t_columns_c, 3, .inl t_columns_f)), (t_ring, .inl (t_ring_c, 48, .inl t_ring_f)), (p1, .inr (4, [.ref p1_bytes, .int p1_size])), (p1_bytes, .inl (p1_bytes_c, p1_bytes_N, .inl p1_bytes_f))] → va_S A s.heap H locs → W p l e (bs_rm 2) s m [.ref t, .ref p1].toArray below meth c H locs 0 0 Q (F0 m 20 ls []) := by
    intro k
    induction k with
    | zero => intro v2 t_columnCount t_first t_size t_columns_f ls H locs hm hl hP hD hS; exact (bs_no hm).elim
    | succ k ih =>
      intro v2 t_columnCount t_first t_size t_columns_f ls H locs hm hl hP hD hS
      have hm := (mq_Pf_takeColumns_L20 F p1_bytes_N k v2 t_columnCount t_first t_size t_columns_f p1_size p1_bytes_f).symm.trans hm
      refine lv_iload_n hx hb dc_Pf_takeColumns_20 rfl (lv_at hl 2 rfl) ?_
      refine lv_aload_n hx hb dc_Pf_takeColumns_21 rfl (lv_at hl 0 rfl) ?_
      refine va_get (ci := 3) (v := .int t_columnCount) (C := cn_Pf) (T := cf_Pf) (N := 7) hx hb hB ki_Pf hown hK hP 0 rfl rfl 2 (by decide) (hB _ kw_fl_Pf_16) (fun _ h => h) rfl dc_Pf_takeColumns_22 ?_
      refine lv_icmp_ge (tgt := 50) hx hb dc_Pf_takeColumns_25 (by decide) (fun h25 => ?_) (fun h25 => ?_)
      · have hm := bs_pos h25 hm
        refine lv_aload_n hx hb dc_Pf_takeColumns_50 rfl (lv_at hl 0 rfl) ?_
        obtain ⟨x51, hx51, hm⟩ := bs_bind hm
        refine bs_callVv 0 [(p1, .inr (4, [.ref p1_bytes, .int p1_size])), (p1_bytes, .inl (p1_bytes_c, p1_bytes_N, .inl p1_bytes_f))] (fun _ => [(t, .inr (3, [.ref t_columns, .ref t_ring, .int t_columnCount, .int t_capacity, .int t_period, .int x51.1, .int x51.2])), (t_columns, .inl (t_columns_c, 3, .inl t_columns_f)), (t_ring, .inl (t_ring_c, 48, .inl t_ring_f)), (p1, .inr (4, [.ref p1_bytes, .int p1_size])), (p1_bytes, .inl (p1_bytes_c, p1_bytes_N, .inl p1_bytes_f))]) [] hx hb hml hown hB hN hK hP hD hS hA (ct_Pf_forget l D F t t_columns t_ring t_columns_c t_ring_c t_columnCount t_capacity t_period t_first t_size t_columns_f t_ring_f x51 hx51) kw_cd_Pf_forget kw_ml_Pf_75 kw_im_Pf_forget kw_se_Pf_forget kw_in_Pf kd_Pf_forget (by decide) ⟨_, _, _, rfl, rfl, rfl⟩ [0, 1, 2] [3, 4] rfl rfl (by decide) [0, 1] rfl [2, 3, 4, 0, 1] (by decide) (fun _ => rfl) rfl hl.1 (bs_ler rfl) (by decide) dc_Pf_takeColumns_51 rfl (fun _ H locs hq51 hP hD hS => ?_)
        refine lv_iconst (v := 1) hx hb dc_Pf_takeColumns_54 (by decide +kernel) ?_
        clear ih
        cases hm
        subst hQ
        exact bs_retZ hx hb hr hlk (by decide +kernel) () rfl hP hD hS dc_Pf_takeColumns_55
      · have hm := bs_neg h25 hm
        refine lv_aload_n hx hb dc_Pf_takeColumns_28 rfl (lv_at hl 0 rfl) ?_
        refine va_get (ci := 3) (v := .ref t_columns) (C := cn_Pf) (T := cf_Pf) (N := 7) hx hb hB ki_Pf hown hK hP 0 rfl rfl 0 (by decide) (hB _ kw_fl_Pf_9) (fun _ h => h) rfl dc_Pf_takeColumns_29 ?_
        refine lv_iload_n hx hb dc_Pf_takeColumns_32 rfl (lv_at hl 2 rfl) ?_
        refine lv_aload_n hx hb dc_Pf_takeColumns_33 rfl (lv_at hl 1 rfl) ?_
        refine lv_bipush (v := 6) hx hb dc_Pf_takeColumns_34 (by decide +kernel) ?_
        refine lv_iconst (v := 2) hx hb dc_Pf_takeColumns_36 (by decide +kernel) ?_
        refine lv_iload_n hx hb dc_Pf_takeColumns_37 rfl (lv_at hl 2 rfl) ?_
        refine lv_imul hx hb dc_Pf_takeColumns_38 ?_
        refine lv_iadd hx hb dc_Pf_takeColumns_39 ?_
        obtain ⟨x40, hx40, hm⟩ := bs_bind hm
        refine bs_callVi 1 [(t, .inr (3, [.ref t_columns, .ref t_ring, .int t_columnCount, .int t_capacity, .int t_period, .int t_first, .int t_size])), (t_columns, .inl (t_columns_c, 3, .inl t_columns_f)), (t_ring, .inl (t_ring_c, 48, .inl t_ring_f))] (fun _ => [(t, .inr (3, [.ref t_columns, .ref t_ring, .int t_columnCount, .int t_capacity, .int t_period, .int t_first, .int t_size])), (t_columns, .inl (t_columns_c, 3, .inl t_columns_f)), (t_ring, .inl (t_ring_c, 48, .inl t_ring_f)), (p1, .inr (4, [.ref p1_bytes, .int p1_size])), (p1_bytes, .inl (p1_bytes_c, p1_bytes_N, .inl p1_bytes_f))]) [.int v2, .ref t_columns] hx hb hml hown hB hN hK hP hD hS hA (ct_Rw_at l D F p1 p1_bytes p1_bytes_c p1_bytes_N p1_size p1_bytes_f (6 + (2 * v2)) x40 hx40) kw_cd_Rw_at kw_ml_Pf_72 kw_im_Rw_at kw_se_Rw_at kw_in_Rw kd_Rw_at (by decide) ⟨_, _, _, rfl, rfl, rfl⟩ [3, 4] [0, 1, 2] rfl rfl (by decide) [2] rfl [0, 1, 2, 3, 4] (by decide) (fun _ => rfl) rfl hl.1 (bs_ler rfl) (by decide) dc_Pf_takeColumns_40 rfl (fun v40q _ H locs hq40 hP hD hS => ?_)
        have hq40 := hq40.symm
        subst hq40
        obtain ⟨hz43, hm⟩ := bs_nn hm
        refine va_iast hx hb hK hP hD hS 1 0 rfl rfl hz43 dc_Pf_takeColumns_43 (fun H locs hP hD hS => ?_)
        obtain ⟨hP, hD⟩ := bs_say [(t, .inr (3, [.ref t_columns, .ref t_ring, .int t_columnCount, .int t_capacity, .int t_period, .int t_first, .int t_size])), (t_columns, .inl (t_columns_c, 3, .inl (upd t_columns_f v2.toNatClampNeg x40))), (t_ring, .inl (t_ring_c, 48, .inl t_ring_f)), (p1, .inr (4, [.ref p1_bytes, .int p1_size])), (p1_bytes, .inl (p1_bytes_c, p1_bytes_N, .inl p1_bytes_f))] hP hD
        refine lv_iinc (k := 2) (v := v2 + 1) hx hb dc_Pf_takeColumns_44 hl rfl (bs_inc1 _) (by decide) rfl (fun ls hl => ?_)
        have hl : lv_has ls 3 [(2, .int (v2 + 1)), (0, .ref t), (1, .ref p1)] := hl
        refine lv_goto (tgt := 20) hx hb dc_Pf_takeColumns_47 (by decide) ?_
        exact ih (v2 + 1) t_columnCount t_first t_size (upd t_columns_f v2.toNatClampNeg x40) ls _ _ hm (lv_sub hl [1, 2, 0] rfl) hP hD hS
  have hl : lv_has ls 3 [(0, .ref t), (1, .ref p1)] := hl
  have hm := (mq_Pf_takeColumns F p1_bytes_N t_columnCount t_first t_size t_columns_f p1_size p1_bytes_f).symm.trans hm
  refine lv_aload_n hx hb dc_Pf_takeColumns_0 rfl (lv_at hl 1 rfl) ?_
  obtain ⟨x1, hx1, hm⟩ := bs_bind hm
  refine bs_callSi 1 [(t, .inr (3, [.ref t_columns, .ref t_ring, .int t_columnCount, .int t_capacity, .int t_period, .int t_first, .int t_size])), (t_columns, .inl (t_columns_c, 3, .inl t_columns_f)), (t_ring, .inl (t_ring_c, 48, .inl t_ring_f))] (fun _ => [(t, .inr (3, [.ref t_columns, .ref t_ring, .int t_columnCount, .int t_capacity, .int t_period, .int t_first, .int t_size])), (t_columns, .inl (t_columns_c, 3, .inl t_columns_f)), (t_ring, .inl (t_ring_c, 48, .inl t_ring_f)), (p1, .inr (4, [.ref p1_bytes, .int p1_size])), (p1_bytes, .inl (p1_bytes_c, p1_bytes_N, .inl p1_bytes_f))]) [] hx hb hml hown hB hN hK hP hD hS hA (ct_Pf_hasColumns l D F p1 p1_bytes p1_bytes_c p1_bytes_N p1_size p1_bytes_f x1 hx1) kw_cd_Pf_hasColumns kw_ml_Pf_68 kw_st_Pf_hasColumns kw_in_Pf kd_Pf_hasColumns (by decide) [3, 4] [0, 1, 2] rfl rfl (by decide) [2] rfl [0, 1, 2, 3, 4] (by decide) (fun _ => rfl) rfl hl.1 (bs_ler rfl) (by decide) dc_Pf_takeColumns_1 rfl (fun v1q _ H locs hq1 hP hD hS => ?_)
  have hq1 := hq1.symm
  subst hq1
  refine lv_if_ne (tgt := 9) hx hb dc_Pf_takeColumns_4 (by decide) (fun h4 => ?_) (fun h4 => ?_)
  · have hm := bs_neg h4 hm
    refine lv_aload_n hx hb dc_Pf_takeColumns_9 rfl (lv_at hl 0 rfl) ?_
    refine lv_aload_n hx hb dc_Pf_takeColumns_10 rfl (lv_at hl 1 rfl) ?_
    refine lv_iconst (v := 4) hx hb dc_Pf_takeColumns_11 (by decide +kernel) ?_
    obtain ⟨x12, hx12, hm⟩ := bs_bind hm
    refine bs_callVi 1 [(t, .inr (3, [.ref t_columns, .ref t_ring, .int t_columnCount, .int t_capacity, .int t_period, .int t_first, .int t_size])), (t_columns, .inl (t_columns_c, 3, .inl t_columns_f)), (t_ring, .inl (t_ring_c, 48, .inl t_ring_f))] (fun _ => [(t, .inr (3, [.ref t_columns, .ref t_ring, .int t_columnCount, .int t_capacity, .int t_period, .int t_first, .int t_size])), (t_columns, .inl (t_columns_c, 3, .inl t_columns_f)), (t_ring, .inl (t_ring_c, 48, .inl t_ring_f)), (p1, .inr (4, [.ref p1_bytes, .int p1_size])), (p1_bytes, .inl (p1_bytes_c, p1_bytes_N, .inl p1_bytes_f))]) [.ref t] hx hb hml hown hB hN hK hP hD hS hA (ct_Rw_at l D F p1 p1_bytes p1_bytes_c p1_bytes_N p1_size p1_bytes_f 4 x12 hx12) kw_cd_Rw_at kw_ml_Pf_72 kw_im_Rw_at kw_se_Rw_at kw_in_Rw kd_Rw_at (by decide) ⟨_, _, _, rfl, rfl, rfl⟩ [3, 4] [0, 1, 2] rfl rfl (by decide) [2] rfl [0, 1, 2, 3, 4] (by decide) (fun _ => rfl) rfl hl.1 (bs_ler rfl) (by decide) dc_Pf_takeColumns_12 rfl (fun v12q _ H locs hq12 hP hD hS => ?_)
    have hq12 := hq12.symm
    subst hq12
    refine va_put (ci := 3) (v := .int x12) (ty := .int) (C := cn_Pf) (T := cf_Pf) (N := 7) hx hb hB ki_Pf ct_Pf cp_Pf cd_Pf hown hK hP hD hS 0 rfl rfl 2 (by decide) (hB _ kw_fl_Pf_16) (fun _ h => h) rfl (by decide +kernel) rfl rfl (bs_ltr rfl) dc_Pf_takeColumns_15 (fun H locs hP hD hS => ?_)
    obtain ⟨hP, hD⟩ := bs_say [(t, .inr (3, [.ref t_columns, .ref t_ring, .int x12, .int t_capacity, .int t_period, .int t_first, .int t_size])), (t_columns, .inl (t_columns_c, 3, .inl t_columns_f)), (t_ring, .inl (t_ring_c, 48, .inl t_ring_f)), (p1, .inr (4, [.ref p1_bytes, .int p1_size])), (p1_bytes, .inl (p1_bytes_c, p1_bytes_N, .inl p1_bytes_f))] hP hD
    refine lv_iconst (v := 0) hx hb dc_Pf_takeColumns_18 (by decide +kernel) ?_
    refine lv_istore_n hx hb dc_Pf_takeColumns_19 rfl hl (by decide) rfl (fun ls hl => ?_)
    have hl : lv_has ls 3 [(2, .int 0), (0, .ref t), (1, .ref p1)] := hl
    exact hL20 F 0 x12 t_first t_size t_columns_f ls _ _ hm (lv_sub hl [1, 2, 0] rfl) hP hD hS
  · have hm := bs_pos h4 hm
    refine lv_iconst (v := 0) hx hb dc_Pf_takeColumns_7 (by decide +kernel) ?_
    clear hL20
    cases hm
    subst hQ
    exact bs_retZ hx hb hr hlk (by decide +kernel) () rfl hP hD hS dc_Pf_takeColumns_8
set_option maxHeartbeats 2000000 in
set_option maxRecDepth 100000 in
theorem ct_Pf_takePeriod (l : Launch) (D : va_G) (F : Nat) (t : Nat) (t_columns : Nat) (t_ring : Nat) (t_columns_c : ClassId) (t_ring_c : ClassId) (t_columnCount : Int32) (t_capacity : Int32) (t_period : Int32) (t_first : Int32) (t_size : Int32) (t_columns_f : Nat → Int32) (t_ring_f : Nat → Int32) (i1 : Int32) (r : Int32 × Int32) (hm : mm_Pf_takePeriod F i1 t_period = some r) :
    bs_CI l my_Pf_takePeriod mb_Pf_takePeriod 2 .boolean (bs_rm 0) D [.ref t, .int i1] [(t_columns_c, .int), (t_ring_c, .int)] [(t, .inr (3, [.ref t_columns, .ref t_ring, .int t_columnCount, .int t_capacity, .int t_period, .int t_first, .int t_size])), (t_columns, .inl (t_columns_c, 3, .inl t_columns_f)), (t_ring, .inl (t_ring_c, 48, .inl t_ring_f))] (S := Unit) (fun v (_ : Unit) => v = r.1) (fun _ => [(t, .inr (3, [.ref t_columns, .ref t_ring, .int t_columnCount, .int t_capacity, .int r.2, .int t_first, .int t_size])), (t_columns, .inl (t_columns_c, 3, .inl t_columns_f)), (t_ring, .inl (t_ring_c, 48, .inl t_ring_f))]) := by
  refine bs_CI.mk (by decide +kernel) (bs_ler rfl) ?_
  intro p e s m below meth c ls A hx hb hr hml hlk hown hB hN hP hK hD hS hA hl
  refine bs_genQ (fun Q hQ => ?_)
  have hl : lv_has ls 2 [(0, .ref t), (1, .int i1)] := hl
  have hm := (mq_Pf_takePeriod F i1 t_period).symm.trans hm
  refine lv_iload_n hx hb dc_Pf_takePeriod_0 rfl (lv_at hl 1 rfl) ?_
  refine lv_if_ge (tgt := 6) hx hb dc_Pf_takePeriod_1 (by decide) (fun h1 => ?_) (fun h1 => ?_)
  · have hm := bs_pos h1 hm
    refine lv_aload_n hx hb dc_Pf_takePeriod_6 rfl (lv_at hl 0 rfl) ?_
    refine lv_iload_n hx hb dc_Pf_takePeriod_7 rfl (lv_at hl 1 rfl) ?_
    refine va_put (ci := 3) (v := .int i1) (ty := .int) (C := cn_Pf) (T := cf_Pf) (N := 7) hx hb hB ki_Pf ct_Pf cp_Pf cd_Pf hown hK hP hD hS 0 rfl rfl 4 (by decide) (hB _ kw_fl_Pf_20) (fun _ h => h) rfl (by decide +kernel) rfl rfl (bs_ltr rfl) dc_Pf_takePeriod_8 (fun H locs hP hD hS => ?_)
    obtain ⟨hP, hD⟩ := bs_say [(t, .inr (3, [.ref t_columns, .ref t_ring, .int t_columnCount, .int t_capacity, .int i1, .int t_first, .int t_size])), (t_columns, .inl (t_columns_c, 3, .inl t_columns_f)), (t_ring, .inl (t_ring_c, 48, .inl t_ring_f))] hP hD
    refine lv_iconst (v := 1) hx hb dc_Pf_takePeriod_11 (by decide +kernel) ?_
    cases hm
    subst hQ
    exact bs_retZ hx hb hr hlk (by decide +kernel) () rfl hP hD hS dc_Pf_takePeriod_12
  · have hm := bs_neg h1 hm
    refine lv_iconst (v := 0) hx hb dc_Pf_takePeriod_4 (by decide +kernel) ?_
    cases hm
    subst hQ
    exact bs_retZ hx hb hr hlk (by decide +kernel) () rfl hP hD hS dc_Pf_takePeriod_5
set_option maxHeartbeats 2000000 in
set_option maxRecDepth 100000 in
theorem ct_Pf_takeCapacity (l : Launch) (D : va_G) (F : Nat) (t : Nat) (t_columns : Nat) (t_ring : Nat) (t_columns_c : ClassId) (t_ring_c : ClassId) (t_columnCount : Int32) (t_capacity : Int32) (t_period : Int32) (t_first : Int32) (t_size : Int32) (t_columns_f : Nat → Int32) (t_ring_f : Nat → Int32) (i1 : Int32) (r : Int32 × Int32 × Int32 × Int32) (hm : mm_Pf_takeCapacity F i1 t_capacity t_first t_size = some r) :
    bs_CI l my_Pf_takeCapacity mb_Pf_takeCapacity 2 .boolean (bs_rm 1) D [.ref t, .int i1] [(t_columns_c, .int), (t_ring_c, .int)] [(t, .inr (3, [.ref t_columns, .ref t_ring, .int t_columnCount, .int t_capacity, .int t_period, .int t_first, .int t_size])), (t_columns, .inl (t_columns_c, 3, .inl t_columns_f)), (t_ring, .inl (t_ring_c, 48, .inl t_ring_f))] (S := Unit) (fun v (_ : Unit) => v = r.1) (fun _ => [(t, .inr (3, [.ref t_columns, .ref t_ring, .int t_columnCount, .int r.2.1, .int t_period, .int r.2.2.1, .int r.2.2.2])), (t_columns, .inl (t_columns_c, 3, .inl t_columns_f)), (t_ring, .inl (t_ring_c, 48, .inl t_ring_f))]) := by
  refine bs_CI.mk (by decide +kernel) (bs_ler rfl) ?_
  intro p e s m below meth c ls A hx hb hr hml hlk hown hB hN hP hK hD hS hA hl
  refine bs_genQ (fun Q hQ => ?_)
  have hl : lv_has ls 2 [(0, .ref t), (1, .int i1)] := hl
  have hm := (mq_Pf_takeCapacity F i1 t_capacity t_first t_size).symm.trans hm
  refine lv_iload_n hx hb dc_Pf_takeCapacity_0 rfl (lv_at hl 1 rfl) ?_
  refine lv_iconst (v := 1) hx hb dc_Pf_takeCapacity_1 (by decide +kernel) ?_
  refine lv_icmp_lt (tgt := 11) hx hb dc_Pf_takeCapacity_2 (by decide) (fun h2 => ?_) (fun h2 => ?_)
  · have hm := bs_pos h2 hm
    refine lv_iconst (v := 0) hx hb dc_Pf_takeCapacity_11 (by decide +kernel) ?_
    cases hm
    subst hQ
    exact bs_retZ hx hb hr hlk (by decide +kernel) () rfl hP hD hS dc_Pf_takeCapacity_12
  · have hm := bs_neg h2 hm
    refine lv_iload_n hx hb dc_Pf_takeCapacity_5 rfl (lv_at hl 1 rfl) ?_
    refine lv_bipush (v := 12) hx hb dc_Pf_takeCapacity_6 (by decide +kernel) ?_
    refine lv_icmp_le (tgt := 13) hx hb dc_Pf_takeCapacity_8 (by decide) (fun h8 => ?_) (fun h8 => ?_)
    · have hm := bs_pos h8 hm
      refine lv_aload_n hx hb dc_Pf_takeCapacity_13 rfl (lv_at hl 0 rfl) ?_
      refine lv_iload_n hx hb dc_Pf_takeCapacity_14 rfl (lv_at hl 1 rfl) ?_
      refine va_put (ci := 3) (v := .int i1) (ty := .int) (C := cn_Pf) (T := cf_Pf) (N := 7) hx hb hB ki_Pf ct_Pf cp_Pf cd_Pf hown hK hP hD hS 0 rfl rfl 3 (by decide) (hB _ kw_fl_Pf_38) (fun _ h => h) rfl (by decide +kernel) rfl rfl (bs_ltr rfl) dc_Pf_takeCapacity_15 (fun H locs hP hD hS => ?_)
      obtain ⟨hP, hD⟩ := bs_say [(t, .inr (3, [.ref t_columns, .ref t_ring, .int t_columnCount, .int i1, .int t_period, .int t_first, .int t_size])), (t_columns, .inl (t_columns_c, 3, .inl t_columns_f)), (t_ring, .inl (t_ring_c, 48, .inl t_ring_f))] hP hD
      refine lv_aload_n hx hb dc_Pf_takeCapacity_18 rfl (lv_at hl 0 rfl) ?_
      obtain ⟨x19, hx19, hm⟩ := bs_bind hm
      refine bs_callVv 0 [] (fun _ => [(t, .inr (3, [.ref t_columns, .ref t_ring, .int t_columnCount, .int i1, .int t_period, .int x19.1, .int x19.2])), (t_columns, .inl (t_columns_c, 3, .inl t_columns_f)), (t_ring, .inl (t_ring_c, 48, .inl t_ring_f))]) [] hx hb hml hown hB hN hK hP hD hS hA (ct_Pf_forget l D F t t_columns t_ring t_columns_c t_ring_c t_columnCount i1 t_period t_first t_size t_columns_f t_ring_f x19 hx19) kw_cd_Pf_forget kw_ml_Pf_75 kw_im_Pf_forget kw_se_Pf_forget kw_in_Pf kd_Pf_forget (by decide) ⟨_, _, _, rfl, rfl, rfl⟩ [0, 1, 2] [] rfl rfl (by decide) [0, 1] rfl [0, 1, 2] (by decide) (fun _ => rfl) rfl hl.1 (bs_ler rfl) (by decide) dc_Pf_takeCapacity_19 rfl (fun _ H locs hq19 hP hD hS => ?_)
      refine lv_iconst (v := 1) hx hb dc_Pf_takeCapacity_22 (by decide +kernel) ?_
      cases hm
      subst hQ
      exact bs_retZ hx hb hr hlk (by decide +kernel) () rfl hP hD hS dc_Pf_takeCapacity_23
    · have hm := bs_neg h8 hm
      refine lv_iconst (v := 0) hx hb dc_Pf_takeCapacity_11 (by decide +kernel) ?_
      cases hm
      subst hQ
      exact bs_retZ hx hb hr hlk (by decide +kernel) () rfl hP hD hS dc_Pf_takeCapacity_12
set_option maxHeartbeats 2000000 in
set_option maxRecDepth 100000 in
theorem ct_Pf_capture (l : Launch) (D : va_G) (F : Nat) (t : Nat) (t_columns : Nat) (t_ring : Nat) (p2 : Nat) (t_columns_c : ClassId) (t_ring_c : ClassId) (p2_c : ClassId) (p2_N : Nat) (t_columnCount : Int32) (t_capacity : Int32) (t_period : Int32) (t_first : Int32) (t_size : Int32) (t_columns_f : Nat → Int32) (t_ring_f : Nat → Int32) (p2_f : Nat → Int32) (i1 : Int32) (r : Int32 × Int32 × (Nat → Int32)) (hm : mm_Pf_capture F p2_N i1 t_columnCount t_capacity t_first t_size t_columns_f t_ring_f p2_f = some r) :
    bs_CV l my_Pf_capture mb_Pf_capture 5 (bs_rm 1) D [.ref t, .int i1, .ref p2] [(t_columns_c, .int), (t_ring_c, .int), (p2_c, .int)] [(t, .inr (3, [.ref t_columns, .ref t_ring, .int t_columnCount, .int t_capacity, .int t_period, .int t_first, .int t_size])), (t_columns, .inl (t_columns_c, 3, .inl t_columns_f)), (t_ring, .inl (t_ring_c, 48, .inl t_ring_f)), (p2, .inl (p2_c, p2_N, .inl p2_f))] (S := Unit) (fun (_ : Unit) => True) (fun _ => [(t, .inr (3, [.ref t_columns, .ref t_ring, .int t_columnCount, .int t_capacity, .int t_period, .int r.1, .int r.2.1])), (t_columns, .inl (t_columns_c, 3, .inl t_columns_f)), (t_ring, .inl (t_ring_c, 48, .inl r.2.2)), (p2, .inl (p2_c, p2_N, .inl p2_f))]) := by
  refine bs_CV.mk (by decide +kernel) (bs_ler rfl) ?_
  intro p e s m below meth c ls A hx hb hr hml hlk hown hB hN hP hK hD hS hA hl
  refine bs_genQ (fun Q hQ => ?_)
  have hL53 : ∀ (k : Nat) (v3 : Int32) (v4 : Int32) (t_first : Int32) (t_size : Int32) (t_ring_f : Nat → Int32) (ls : Array Slot) (H : Heap) (locs : List Loc), mm_Pf_capture_L53 F p2_N k v3 v4 t_columnCount t_first t_size t_columns_f t_ring_f p2_f = some r → lv_has ls 5 [(0, .ref t), (2, .ref p2), (3, .int v3), (4, .int v4)] → va_P D bs_cl [(t, .inr (3, [.ref t_columns, .ref t_ring, .int t_columnCount, .int t_capacity, .int t_period, .int t_first, .int t_size])), (t_columns, .inl (t_columns_c, 3, .inl t_columns_f)), (t_ring, .inl (t_ring_c, 48, .inl t_ring_f)), (p2, .inl (p2_c, p2_N, .inl p2_f))] H → va_D A [(t, .inr (3, [.ref t_columns, .ref t_ring, .int t_columnCount, .int t_capacity, .int t_period, .int t_first, .int t_size])), (t_columns, .inl (t_columns_c, 3, .inl t_columns_f)), (t_ring, .inl (t_ring_c, 48, .inl t_ring_f)), (p2, .inl (p2_c, p2_N, .inl p2_f))] → va_S A s.heap H locs → W p l e (bs_rm 1) s m [.ref t, .int i1, .ref p2].toArray below meth c H locs 0 0 Q (F0 m 53 ls []) := by
    intro k
    induction k with
    | zero => intro v3 v4 t_first t_size t_ring_f ls H locs hm hl hP hD hS; exact (bs_no hm).elim
    | succ k ih =>
      intro v3 v4 t_first t_size t_ring_f ls H locs hm hl hP hD hS
      have hm := (mq_Pf_capture_L53 F p2_N k v3 v4 t_columnCount t_first t_size t_columns_f t_ring_f p2_f).symm.trans hm
      refine lv_iload hx hb dc_Pf_capture_53 (lv_at hl 3 rfl) ?_
      refine lv_aload_n hx hb dc_Pf_capture_55 rfl (lv_at hl 0 rfl) ?_
      refine va_get (ci := 3) (v := .int t_columnCount) (C := cn_Pf) (T := cf_Pf) (N := 7) hx hb hB ki_Pf hown hK hP 0 rfl rfl 2 (by decide) (hB _ kw_fl_Pf_16) (fun _ h => h) rfl dc_Pf_capture_56 ?_
      refine lv_icmp_gt (tgt := 90) hx hb dc_Pf_capture_59 (by decide) (fun h59 => ?_) (fun h59 => ?_)
      · have hm := bs_pos h59 hm
        refine lv_aload_n hx hb dc_Pf_capture_90 rfl (lv_at hl 0 rfl) ?_
        refine lv_dup hx hb dc_Pf_capture_91 rfl ?_
        refine va_get (ci := 3) (v := .int t_size) (C := cn_Pf) (T := cf_Pf) (N := 7) hx hb hB ki_Pf hown hK hP 0 rfl rfl 6 (by decide) (hB _ kw_fl_Pf_26) (fun _ h => h) rfl dc_Pf_capture_92 ?_
        refine lv_iconst (v := 1) hx hb dc_Pf_capture_95 (by decide +kernel) ?_
        refine lv_iadd hx hb dc_Pf_capture_96 ?_
        refine va_put (ci := 3) (v := .int (t_size + 1)) (ty := .int) (C := cn_Pf) (T := cf_Pf) (N := 7) hx hb hB ki_Pf ct_Pf cp_Pf cd_Pf hown hK hP hD hS 0 rfl rfl 6 (by decide) (hB _ kw_fl_Pf_26) (fun _ h => h) rfl (by decide +kernel) rfl rfl (bs_ltr rfl) dc_Pf_capture_97 (fun H locs hP hD hS => ?_)
        obtain ⟨hP, hD⟩ := bs_say [(t, .inr (3, [.ref t_columns, .ref t_ring, .int t_columnCount, .int t_capacity, .int t_period, .int t_first, .int (t_size + 1)])), (t_columns, .inl (t_columns_c, 3, .inl t_columns_f)), (t_ring, .inl (t_ring_c, 48, .inl t_ring_f)), (p2, .inl (p2_c, p2_N, .inl p2_f))] hP hD
        clear ih
        cases hm
        subst hQ
        exact bs_retV hx hb hr hlk () trivial hP hD hS dc_Pf_capture_100
      · have hm := bs_neg h59 hm
        refine lv_aload_n hx hb dc_Pf_capture_62 rfl (lv_at hl 0 rfl) ?_
        refine va_get (ci := 3) (v := .ref t_ring) (C := cn_Pf) (T := cf_Pf) (N := 7) hx hb hB ki_Pf hown hK hP 0 rfl rfl 1 (by decide) (hB _ kw_fl_Pf_13) (fun _ h => h) rfl dc_Pf_capture_63 ?_
        refine lv_iload_n hx hb dc_Pf_capture_66 rfl (lv_at hl 2 rfl) ?_
        refine lv_iload hx hb dc_Pf_capture_67 (lv_at hl 3 rfl) ?_
        refine lv_iadd hx hb dc_Pf_capture_69 ?_
        refine lv_aload_n hx hb dc_Pf_capture_70 rfl (lv_at hl 1 rfl) ?_
        refine lv_aload_n hx hb dc_Pf_capture_71 rfl (lv_at hl 0 rfl) ?_
        refine va_get (ci := 3) (v := .ref t_columns) (C := cn_Pf) (T := cf_Pf) (N := 7) hx hb hB ki_Pf hown hK hP 0 rfl rfl 0 (by decide) (hB _ kw_fl_Pf_9) (fun _ h => h) rfl dc_Pf_capture_72 ?_
        refine lv_iload hx hb dc_Pf_capture_75 (lv_at hl 3 rfl) ?_
        refine lv_iconst (v := 1) hx hb dc_Pf_capture_77 (by decide +kernel) ?_
        refine lv_isub hx hb dc_Pf_capture_78 ?_
        obtain ⟨hz79, hm⟩ := bs_nn hm
        refine va_iald hx hb hK hP 1 0 rfl rfl hz79 dc_Pf_capture_79 ?_
        refine lv_iconst (v := 1) hx hb dc_Pf_capture_80 (by decide +kernel) ?_
        refine lv_isub hx hb dc_Pf_capture_81 ?_
        obtain ⟨hz82, hm⟩ := bs_nn hm
        refine va_iald hx hb hK hP 3 2 rfl rfl hz82 dc_Pf_capture_82 ?_
        obtain ⟨hz83, hm⟩ := bs_nn hm
        refine va_iast hx hb hK hP hD hS 2 1 rfl rfl hz83 dc_Pf_capture_83 (fun H locs hP hD hS => ?_)
        obtain ⟨hP, hD⟩ := bs_say [(t, .inr (3, [.ref t_columns, .ref t_ring, .int t_columnCount, .int t_capacity, .int t_period, .int t_first, .int t_size])), (t_columns, .inl (t_columns_c, 3, .inl t_columns_f)), (t_ring, .inl (t_ring_c, 48, .inl (upd t_ring_f ((v3 + v4).toNatClampNeg) (p2_f (((t_columns_f ((v4 - 1).toNatClampNeg)) - 1).toNatClampNeg))))), (p2, .inl (p2_c, p2_N, .inl p2_f))] hP hD
        refine lv_iinc (k := 3) (v := v4 + 1) hx hb dc_Pf_capture_84 hl rfl (bs_inc1 _) (by decide) rfl (fun ls hl => ?_)
        have hl : lv_has ls 5 [(4, .int (v4 + 1)), (0, .ref t), (2, .ref p2), (3, .int v3)] := hl
        refine lv_goto (tgt := 53) hx hb dc_Pf_capture_87 (by decide) ?_
        exact ih v3 (v4 + 1) t_first t_size (upd t_ring_f ((v3 + v4).toNatClampNeg) (p2_f (((t_columns_f ((v4 - 1).toNatClampNeg)) - 1).toNatClampNeg))) ls _ _ hm (lv_sub hl [1, 2, 3, 0] rfl) hP hD hS
  have hJ34 : ∀ (v1 : Int32) (t_first : Int32) (t_size : Int32) (t_ring_f : Nat → Int32) (ls : Array Slot) (H : Heap) (locs : List Loc), mm_Pf_capture_J34 F p2_N v1 t_columnCount t_first t_size t_columns_f t_ring_f p2_f = some r → lv_has ls 5 [(0, .ref t), (1, .int v1), (2, .ref p2)] → va_P D bs_cl [(t, .inr (3, [.ref t_columns, .ref t_ring, .int t_columnCount, .int t_capacity, .int t_period, .int t_first, .int t_size])), (t_columns, .inl (t_columns_c, 3, .inl t_columns_f)), (t_ring, .inl (t_ring_c, 48, .inl t_ring_f)), (p2, .inl (p2_c, p2_N, .inl p2_f))] H → va_D A [(t, .inr (3, [.ref t_columns, .ref t_ring, .int t_columnCount, .int t_capacity, .int t_period, .int t_first, .int t_size])), (t_columns, .inl (t_columns_c, 3, .inl t_columns_f)), (t_ring, .inl (t_ring_c, 48, .inl t_ring_f)), (p2, .inl (p2_c, p2_N, .inl p2_f))] → va_S A s.heap H locs → W p l e (bs_rm 1) s m [.ref t, .int i1, .ref p2].toArray below meth c H locs 0 0 Q (F0 m 34 ls []) := by
    intro v1 t_first t_size t_ring_f ls H locs hm hl hP hD hS
    have hm := (mq_Pf_capture_J34 F p2_N v1 t_columnCount t_first t_size t_columns_f t_ring_f p2_f).symm.trans hm
    refine lv_aload_n hx hb dc_Pf_capture_34 rfl (lv_at hl 0 rfl) ?_
    refine lv_aload_n hx hb dc_Pf_capture_35 rfl (lv_at hl 0 rfl) ?_
    refine va_get (ci := 3) (v := .int t_size) (C := cn_Pf) (T := cf_Pf) (N := 7) hx hb hB ki_Pf hown hK hP 0 rfl rfl 6 (by decide) (hB _ kw_fl_Pf_26) (fun _ h => h) rfl dc_Pf_capture_36 ?_
    obtain ⟨x39, hx39, hm⟩ := bs_bind hm
    refine bs_callVi 1 [(p2, .inl (p2_c, p2_N, .inl p2_f))] (fun _ => [(t, .inr (3, [.ref t_columns, .ref t_ring, .int t_columnCount, .int t_capacity, .int t_period, .int t_first, .int t_size])), (t_columns, .inl (t_columns_c, 3, .inl t_columns_f)), (t_ring, .inl (t_ring_c, 48, .inl t_ring_f)), (p2, .inl (p2_c, p2_N, .inl p2_f))]) [] hx hb hml hown hB hN hK hP hD hS hA (ct_Pf_start l D F t t_columns t_ring t_columns_c t_ring_c t_columnCount t_capacity t_period t_first t_size t_columns_f t_ring_f t_size x39 hx39) kw_cd_Pf_start kw_ml_Pf_41 kw_im_Pf_start kw_se_Pf_start kw_in_Pf kd_Pf_start (by decide) ⟨_, _, _, rfl, rfl, rfl⟩ [0, 1, 2] [3] rfl rfl (by decide) [0, 1] rfl [1, 2, 3, 0] (by decide) (fun _ => rfl) rfl hl.1 (bs_ler rfl) (by decide) dc_Pf_capture_39 rfl (fun v39q _ H locs hq39 hP hD hS => ?_)
    have hq39 := hq39.symm
    subst hq39
    refine lv_istore_n hx hb dc_Pf_capture_42 rfl hl (by decide) rfl (fun ls hl => ?_)
    have hl : lv_has ls 5 [(3, .int x39), (0, .ref t), (1, .int v1), (2, .ref p2)] := hl
    refine lv_aload_n hx hb dc_Pf_capture_43 rfl (lv_at hl 1 rfl) ?_
    refine va_get (ci := 3) (v := .ref t_ring) (C := cn_Pf) (T := cf_Pf) (N := 7) hx hb hB ki_Pf hown hK hP 0 rfl rfl 1 (by decide) (hB _ kw_fl_Pf_13) (fun _ h => h) rfl dc_Pf_capture_44 ?_
    refine lv_iload_n hx hb dc_Pf_capture_47 rfl (lv_at hl 0 rfl) ?_
    refine lv_iload_n hx hb dc_Pf_capture_48 rfl (lv_at hl 2 rfl) ?_
    obtain ⟨hz49, hm⟩ := bs_nn hm
    refine va_iast hx hb hK hP hD hS 2 1 rfl rfl hz49 dc_Pf_capture_49 (fun H locs hP hD hS => ?_)
    obtain ⟨hP, hD⟩ := bs_say [(t, .inr (3, [.ref t_columns, .ref t_ring, .int t_columnCount, .int t_capacity, .int t_period, .int t_first, .int t_size])), (t_columns, .inl (t_columns_c, 3, .inl t_columns_f)), (t_ring, .inl (t_ring_c, 48, .inl (upd t_ring_f x39.toNatClampNeg v1))), (p2, .inl (p2_c, p2_N, .inl p2_f))] hP hD
    refine lv_iconst (v := 1) hx hb dc_Pf_capture_50 (by decide +kernel) ?_
    refine lv_istore hx hb dc_Pf_capture_51 hl (by decide) rfl (fun ls hl => ?_)
    have hl : lv_has ls 5 [(4, .int 1), (3, .int x39), (0, .ref t), (1, .int v1), (2, .ref p2)] := hl
    exact hL53 F x39 1 t_first t_size (upd t_ring_f x39.toNatClampNeg v1) ls _ _ hm (lv_sub hl [2, 4, 1, 0] rfl) hP hD hS
  have hl : lv_has ls 5 [(0, .ref t), (1, .int i1), (2, .ref p2)] := hl
  have hm := (mq_Pf_capture F p2_N i1 t_columnCount t_capacity t_first t_size t_columns_f t_ring_f p2_f).symm.trans hm
  refine lv_aload_n hx hb dc_Pf_capture_0 rfl (lv_at hl 0 rfl) ?_
  refine va_get (ci := 3) (v := .int t_size) (C := cn_Pf) (T := cf_Pf) (N := 7) hx hb hB ki_Pf hown hK hP 0 rfl rfl 6 (by decide) (hB _ kw_fl_Pf_26) (fun _ h => h) rfl dc_Pf_capture_1 ?_
  refine lv_aload_n hx hb dc_Pf_capture_4 rfl (lv_at hl 0 rfl) ?_
  refine va_get (ci := 3) (v := .int t_capacity) (C := cn_Pf) (T := cf_Pf) (N := 7) hx hb hB ki_Pf hown hK hP 0 rfl rfl 3 (by decide) (hB _ kw_fl_Pf_38) (fun _ h => h) rfl dc_Pf_capture_5 ?_
  refine lv_icmp_lt (tgt := 34) hx hb dc_Pf_capture_8 (by decide) (fun h8 => ?_) (fun h8 => ?_)
  · have hm := bs_pos h8 hm
    exact hJ34 i1 t_first t_size t_ring_f ls _ _ hm hl hP hD hS
  · have hm := bs_neg h8 hm
    refine lv_aload_n hx hb dc_Pf_capture_11 rfl (lv_at hl 0 rfl) ?_
    refine lv_aload_n hx hb dc_Pf_capture_12 rfl (lv_at hl 0 rfl) ?_
    refine va_get (ci := 3) (v := .int t_first) (C := cn_Pf) (T := cf_Pf) (N := 7) hx hb hB ki_Pf hown hK hP 0 rfl rfl 5 (by decide) (hB _ kw_fl_Pf_23) (fun _ h => h) rfl dc_Pf_capture_13 ?_
    refine lv_iconst (v := 1) hx hb dc_Pf_capture_16 (by decide +kernel) ?_
    refine lv_iadd hx hb dc_Pf_capture_17 ?_
    refine lv_bipush (v := 12) hx hb dc_Pf_capture_18 (by decide +kernel) ?_
    refine bs_irem (v := bs_rem (t_first + 1) 12) hx hb dc_Pf_capture_20 (by decide +kernel) rfl ?_
    refine va_put (ci := 3) (v := .int (bs_rem (t_first + 1) 12)) (ty := .int) (C := cn_Pf) (T := cf_Pf) (N := 7) hx hb hB ki_Pf ct_Pf cp_Pf cd_Pf hown hK hP hD hS 0 rfl rfl 5 (by decide) (hB _ kw_fl_Pf_23) (fun _ h => h) rfl (by decide +kernel) rfl rfl (bs_ltr rfl) dc_Pf_capture_21 (fun H locs hP hD hS => ?_)
    obtain ⟨hP, hD⟩ := bs_say [(t, .inr (3, [.ref t_columns, .ref t_ring, .int t_columnCount, .int t_capacity, .int t_period, .int (bs_rem (t_first + 1) 12), .int t_size])), (t_columns, .inl (t_columns_c, 3, .inl t_columns_f)), (t_ring, .inl (t_ring_c, 48, .inl t_ring_f)), (p2, .inl (p2_c, p2_N, .inl p2_f))] hP hD
    refine lv_aload_n hx hb dc_Pf_capture_24 rfl (lv_at hl 0 rfl) ?_
    refine lv_dup hx hb dc_Pf_capture_25 rfl ?_
    refine va_get (ci := 3) (v := .int t_size) (C := cn_Pf) (T := cf_Pf) (N := 7) hx hb hB ki_Pf hown hK hP 0 rfl rfl 6 (by decide) (hB _ kw_fl_Pf_26) (fun _ h => h) rfl dc_Pf_capture_26 ?_
    refine lv_iconst (v := 1) hx hb dc_Pf_capture_29 (by decide +kernel) ?_
    refine lv_isub hx hb dc_Pf_capture_30 ?_
    refine va_put (ci := 3) (v := .int (t_size - 1)) (ty := .int) (C := cn_Pf) (T := cf_Pf) (N := 7) hx hb hB ki_Pf ct_Pf cp_Pf cd_Pf hown hK hP hD hS 0 rfl rfl 6 (by decide) (hB _ kw_fl_Pf_26) (fun _ h => h) rfl (by decide +kernel) rfl rfl (bs_ltr rfl) dc_Pf_capture_31 (fun H locs hP hD hS => ?_)
    obtain ⟨hP, hD⟩ := bs_say [(t, .inr (3, [.ref t_columns, .ref t_ring, .int t_columnCount, .int t_capacity, .int t_period, .int (bs_rem (t_first + 1) 12), .int (t_size - 1)])), (t_columns, .inl (t_columns_c, 3, .inl t_columns_f)), (t_ring, .inl (t_ring_c, 48, .inl t_ring_f)), (p2, .inl (p2_c, p2_N, .inl p2_f))] hP hD
    exact hJ34 i1 (bs_rem (t_first + 1) 12) (t_size - 1) t_ring_f ls _ _ hm hl hP hD hS
set_option maxHeartbeats 2000000 in
set_option maxRecDepth 100000 in
theorem ct_Pf_at (l : Launch) (D : va_G) (F : Nat) (t : Nat) (t_columns : Nat) (t_ring : Nat) (t_columns_c : ClassId) (t_ring_c : ClassId) (t_columnCount : Int32) (t_capacity : Int32) (t_period : Int32) (t_first : Int32) (t_size : Int32) (t_columns_f : Nat → Int32) (t_ring_f : Nat → Int32) (i1 : Int32) (i2 : Int32) (r : Int32) (hm : mm_Pf_at F i1 i2 t_first t_ring_f = some r) :
    bs_CI l my_Pf_at mb_Pf_at 3 .int (bs_rm 1) D [.ref t, .int i1, .int i2] [(t_columns_c, .int), (t_ring_c, .int)] [(t, .inr (3, [.ref t_columns, .ref t_ring, .int t_columnCount, .int t_capacity, .int t_period, .int t_first, .int t_size])), (t_columns, .inl (t_columns_c, 3, .inl t_columns_f)), (t_ring, .inl (t_ring_c, 48, .inl t_ring_f))] (S := Unit) (fun v (_ : Unit) => v = r) (fun _ => [(t, .inr (3, [.ref t_columns, .ref t_ring, .int t_columnCount, .int t_capacity, .int t_period, .int t_first, .int t_size])), (t_columns, .inl (t_columns_c, 3, .inl t_columns_f)), (t_ring, .inl (t_ring_c, 48, .inl t_ring_f))]) := by
  refine bs_CI.mk (by decide +kernel) (bs_ler rfl) ?_
  intro p e s m below meth c ls A hx hb hr hml hlk hown hB hN hP hK hD hS hA hl
  refine bs_genQ (fun Q hQ => ?_)
  have hl : lv_has ls 3 [(0, .ref t), (1, .int i1), (2, .int i2)] := hl
  have hm := (mq_Pf_at F i1 i2 t_first t_ring_f).symm.trans hm
  refine lv_aload_n hx hb dc_Pf_at_0 rfl (lv_at hl 0 rfl) ?_
  refine va_get (ci := 3) (v := .ref t_ring) (C := cn_Pf) (T := cf_Pf) (N := 7) hx hb hB ki_Pf hown hK hP 0 rfl rfl 1 (by decide) (hB _ kw_fl_Pf_13) (fun _ h => h) rfl dc_Pf_at_1 ?_
  refine lv_aload_n hx hb dc_Pf_at_4 rfl (lv_at hl 0 rfl) ?_
  refine lv_iload_n hx hb dc_Pf_at_5 rfl (lv_at hl 1 rfl) ?_
  obtain ⟨x6, hx6, hm⟩ := bs_bind hm
  refine bs_callVi 1 [] (fun _ => [(t, .inr (3, [.ref t_columns, .ref t_ring, .int t_columnCount, .int t_capacity, .int t_period, .int t_first, .int t_size])), (t_columns, .inl (t_columns_c, 3, .inl t_columns_f)), (t_ring, .inl (t_ring_c, 48, .inl t_ring_f))]) [.ref t_ring] hx hb hml hown hB hN hK hP hD hS hA (ct_Pf_start l D F t t_columns t_ring t_columns_c t_ring_c t_columnCount t_capacity t_period t_first t_size t_columns_f t_ring_f i1 x6 hx6) kw_cd_Pf_start kw_ml_Pf_41 kw_im_Pf_start kw_se_Pf_start kw_in_Pf kd_Pf_start (by decide) ⟨_, _, _, rfl, rfl, rfl⟩ [0, 1, 2] [] rfl rfl (by decide) [0, 1] rfl [0, 1, 2] (by decide) (fun _ => rfl) rfl hl.1 (bs_ler rfl) (by decide) dc_Pf_at_6 rfl (fun v6q _ H locs hq6 hP hD hS => ?_)
  have hq6 := hq6.symm
  subst hq6
  refine lv_iload_n hx hb dc_Pf_at_9 rfl (lv_at hl 2 rfl) ?_
  refine lv_iadd hx hb dc_Pf_at_10 ?_
  obtain ⟨hz11, hm⟩ := bs_nn hm
  refine va_iald hx hb hK hP 2 1 rfl rfl hz11 dc_Pf_at_11 ?_
  cases hm
  subst hQ
  exact bs_retI hx hb hr hlk () rfl hP hD hS dc_Pf_at_12
