set_option maxHeartbeats 2000000 in
set_option maxRecDepth 100000 in
theorem ct_Pf_start (l : Launch) (D : va_G) (F : Nat) (t : Nat) (t_columns : Nat) (t_ring : Nat) (t_columns_c : ClassId) (t_ring_c : ClassId) (t_columnCount : Int32) (t_capacity : Int32) (t_period : Int32) (t_first : Int32) (t_size : Int32) (t_columns_f : Nat → Int32) (t_ring_f : Nat → Int32) (i1 : Int32) (r : Int32) (hm : mm_Pf_start F i1 t_first = some r) :
    bs_CI l my_Pf_start mb_Pf_start 2 .int (bs_rm 0) D [.ref t, .int i1] [(t_columns_c, .int), (t_ring_c, .int)] [(t, .inr (3, [.ref t_columns, .ref t_ring, .int t_columnCount, .int t_capacity, .int t_period, .int t_first, .int t_size])), (t_columns, .inl (t_columns_c, 3, .inl t_columns_f)), (t_ring, .inl (t_ring_c, 48, .inl t_ring_f))] (S := Unit) (fun v (_ : Unit) => v = r) (fun _ => [(t, .inr (3, [.ref t_columns, .ref t_ring, .int t_columnCount, .int t_capacity, .int t_period, .int t_first, .int t_size])), (t_columns, .inl (t_columns_c, 3, .inl t_columns_f)), (t_ring, .inl (t_ring_c, 48, .inl t_ring_f))]) := by
  refine bs_CI.mk (by decide +kernel) (bs_ler rfl) ?_
  intro p e s m below meth c ls A hx hb hr hml hlk hown hB hN hP hK hD hS hA hl
  refine bs_genQ (fun Q hQ => ?_)
  have hl : lv_has ls 2 [(0, .ref t), (1, .int i1)] := hl
  have hm := (mq_Pf_start F i1 t_first).symm.trans hm
  refine lv_aload_n hx hb dc_Pf_start_0 rfl (lv_at hl 0 rfl) ?_
  refine va_get (ci := 3) (v := .int t_first) (C := cn_Pf) (T := cf_Pf) (N := 7) hx hb hB ki_Pf hown hK hP 0 rfl rfl 5 (by decide) (hB _ kw_fl_Pf_23) (fun _ h => h) rfl dc_Pf_start_1 ?_
  refine lv_iload_n hx hb dc_Pf_start_4 rfl (lv_at hl 1 rfl) ?_
  refine lv_iadd hx hb dc_Pf_start_5 ?_
  refine lv_bipush (v := 12) hx hb dc_Pf_start_6 (by decide +kernel) ?_
  refine bs_irem (v := bs_rem (t_first + i1) 12) hx hb dc_Pf_start_8 (by decide +kernel) rfl ?_
  refine lv_iconst (v := 4) hx hb dc_Pf_start_9 (by decide +kernel) ?_
  refine lv_imul hx hb dc_Pf_start_10 ?_
  cases hm
  subst hQ
  exact bs_retI hx hb hr hlk () rfl hP hD hS dc_Pf_start_11
set_option maxHeartbeats 2000000 in
set_option maxRecDepth 100000 in
theorem ct_Pf_isWithin (l : Launch) (D : va_G) (F : Nat) (i0 : Int32) (i1 : Int32) (i2 : Int32) (r : Int32) (hm : mm_Pf_isWithin F i0 i1 i2 = some r) :
    bs_CI l my_Pf_isWithin mb_Pf_isWithin 3 .boolean (bs_rm 0) D [.int i0, .int i1, .int i2] [] [] (S := Unit) (fun v (_ : Unit) => v = r) (fun _ => []) := by
  refine bs_CI.mk (by decide +kernel) (bs_ler rfl) ?_
  intro p e s m below meth c ls A hx hb hr hml hlk hown hB hN hP hK hD hS hA hl
  refine bs_genQ (fun Q hQ => ?_)
  have hl : lv_has ls 3 [(0, .int i0), (1, .int i1), (2, .int i2)] := hl
  have hm := (mq_Pf_isWithin F i0 i1 i2).symm.trans hm
  refine lv_iload_n hx hb dc_Pf_isWithin_0 rfl (lv_at hl 1 rfl) ?_
  refine lv_if_lt (tgt := 22) hx hb dc_Pf_isWithin_1 (by decide) (fun h1 => ?_) (fun h1 => ?_)
  · have hm := bs_pos h1 hm
    refine lv_iconst (v := 0) hx hb dc_Pf_isWithin_22 (by decide +kernel) ?_
    cases hm
    subst hQ
    exact bs_retZ hx hb hr hlk (by decide +kernel) () rfl hP hD hS dc_Pf_isWithin_23
  · have hm := bs_neg h1 hm
    refine lv_iload_n hx hb dc_Pf_isWithin_4 rfl (lv_at hl 1 rfl) ?_
    refine lv_iload_n hx hb dc_Pf_isWithin_5 rfl (lv_at hl 0 rfl) ?_
    refine lv_icmp_gt (tgt := 22) hx hb dc_Pf_isWithin_6 (by decide) (fun h6 => ?_) (fun h6 => ?_)
    · have hm := bs_pos h6 hm
      refine lv_iconst (v := 0) hx hb dc_Pf_isWithin_22 (by decide +kernel) ?_
      cases hm
      subst hQ
      exact bs_retZ hx hb hr hlk (by decide +kernel) () rfl hP hD hS dc_Pf_isWithin_23
    · have hm := bs_neg h6 hm
      refine lv_iload_n hx hb dc_Pf_isWithin_9 rfl (lv_at hl 2 rfl) ?_
      refine lv_if_lt (tgt := 18) hx hb dc_Pf_isWithin_10 (by decide) (fun h10 => ?_) (fun h10 => ?_)
      · have hm := bs_pos h10 hm
        refine lv_iconst (v := 1) hx hb dc_Pf_isWithin_18 (by decide +kernel) ?_
        refine lv_goto (tgt := 23) hx hb dc_Pf_isWithin_19 (by decide) ?_
        cases hm
        subst hQ
        exact bs_retZ hx hb hr hlk (by decide +kernel) () rfl hP hD hS dc_Pf_isWithin_23
      · have hm := bs_neg h10 hm
        refine lv_iload_n hx hb dc_Pf_isWithin_13 rfl (lv_at hl 0 rfl) ?_
        refine lv_iload_n hx hb dc_Pf_isWithin_14 rfl (lv_at hl 2 rfl) ?_
        refine lv_icmp_gt (tgt := 22) hx hb dc_Pf_isWithin_15 (by decide) (fun h15 => ?_) (fun h15 => ?_)
        · have hm := bs_pos h15 hm
          refine lv_iconst (v := 0) hx hb dc_Pf_isWithin_22 (by decide +kernel) ?_
          cases hm
          subst hQ
          exact bs_retZ hx hb hr hlk (by decide +kernel) () rfl hP hD hS dc_Pf_isWithin_23
        · have hm := bs_neg h15 hm
          refine lv_iconst (v := 1) hx hb dc_Pf_isWithin_18 (by decide +kernel) ?_
          refine lv_goto (tgt := 23) hx hb dc_Pf_isWithin_19 (by decide) ?_
          cases hm
          subst hQ
          exact bs_retZ hx hb hr hlk (by decide +kernel) () rfl hP hD hS dc_Pf_isWithin_23
set_option maxHeartbeats 2000000 in
set_option maxRecDepth 100000 in
theorem ct_Pf_writeEntries (l : Launch) (D : va_G) (F : Nat) (t : Nat) (t_columns : Nat) (t_ring : Nat) (p1 : Nat) (p1_bytes : Nat) (t_columns_c : ClassId) (t_ring_c : ClassId) (p1_bytes_c : ClassId) (p1_bytes_N : Nat) (t_columnCount : Int32) (t_capacity : Int32) (t_period : Int32) (t_first : Int32) (t_size : Int32) (t_columns_f : Nat → Int32) (t_ring_f : Nat → Int32) (p1_size : Int32) (p1_bytes_f : Nat → Int32) (i2 : Int32) (i3 : Int32) (r : Int32 × (Nat → Int32)) (hm : mm_Pf_writeEntries F p1_bytes_N i2 i3 t_columnCount t_first t_size t_ring_f p1_size p1_bytes_f = some r) :
    bs_CV l my_Pf_writeEntries mb_Pf_writeEntries 8 (bs_rm 2) D [.ref t, .ref p1, .int i2, .int i3] [(t_columns_c, .int), (t_ring_c, .int), (p1_bytes_c, .int)] [(t, .inr (3, [.ref t_columns, .ref t_ring, .int t_columnCount, .int t_capacity, .int t_period, .int t_first, .int t_size])), (t_columns, .inl (t_columns_c, 3, .inl t_columns_f)), (t_ring, .inl (t_ring_c, 48, .inl t_ring_f)), (p1, .inr (4, [.ref p1_bytes, .int p1_size])), (p1_bytes, .inl (p1_bytes_c, p1_bytes_N, .inl p1_bytes_f))] (S := Unit) (fun (_ : Unit) => True) (fun _ => [(t, .inr (3, [.ref t_columns, .ref t_ring, .int t_columnCount, .int t_capacity, .int t_period, .int t_first, .int t_size])), (t_columns, .inl (t_columns_c, 3, .inl t_columns_f)), (t_ring, .inl (t_ring_c, 48, .inl t_ring_f)), (p1, .inr (4, [.ref p1_bytes, .int r.1])), (p1_bytes, .inl (p1_bytes_c, p1_bytes_N, .inl r.2))]) := by
  refine bs_CV.mk (by decide +kernel) (bs_ler rfl) ?_
  intro p e s m below meth c ls A hx hb hr hml hlk hown hB hN hP hK hD hS hA hl
  refine bs_genQ (fun Q hQ => ?_)
  have hL67 : ∀ (k : Nat) (v2 : Int32) (v3 : Int32) (v4 : Int32) (v5 : Int32) (v6 : Int32) (v7 : Int32) (p1_size : Int32) (p1_bytes_f : Nat → Int32) (z : Int32 × (Nat → Int32)) (ls : Array Slot) (H : Heap) (locs : List Loc), mm_Pf_writeEntries_L67 F p1_bytes_N k v6 v7 t_columnCount t_ring_f p1_size p1_bytes_f = some z → lv_has ls 8 [(0, .ref t), (1, .ref p1), (2, .int v2), (3, .int v3), (4, .int v4), (5, .int v5), (6, .int v6), (7, .int v7)] → va_P D bs_cl [(t, .inr (3, [.ref t_columns, .ref t_ring, .int t_columnCount, .int t_capacity, .int t_period, .int t_first, .int t_size])), (t_columns, .inl (t_columns_c, 3, .inl t_columns_f)), (t_ring, .inl (t_ring_c, 48, .inl t_ring_f)), (p1, .inr (4, [.ref p1_bytes, .int p1_size])), (p1_bytes, .inl (p1_bytes_c, p1_bytes_N, .inl p1_bytes_f))] H → va_D A [(t, .inr (3, [.ref t_columns, .ref t_ring, .int t_columnCount, .int t_capacity, .int t_period, .int t_first, .int t_size])), (t_columns, .inl (t_columns_c, 3, .inl t_columns_f)), (t_ring, .inl (t_ring_c, 48, .inl t_ring_f)), (p1, .inr (4, [.ref p1_bytes, .int p1_size])), (p1_bytes, .inl (p1_bytes_c, p1_bytes_N, .inl p1_bytes_f))] → va_S A s.heap H locs → (∀ (ls : Array Slot) (H : Heap) (locs : List Loc), lv_has ls 8 [(0, .ref t), (1, .ref p1), (2, .int v2), (3, .int v3), (4, .int v4), (5, .int v5)] → va_P D bs_cl [(t, .inr (3, [.ref t_columns, .ref t_ring, .int t_columnCount, .int t_capacity, .int t_period, .int t_first, .int t_size])), (t_columns, .inl (t_columns_c, 3, .inl t_columns_f)), (t_ring, .inl (t_ring_c, 48, .inl t_ring_f)), (p1, .inr (4, [.ref p1_bytes, .int z.1])), (p1_bytes, .inl (p1_bytes_c, p1_bytes_N, .inl z.2))] H → va_D A [(t, .inr (3, [.ref t_columns, .ref t_ring, .int t_columnCount, .int t_capacity, .int t_period, .int t_first, .int t_size])), (t_columns, .inl (t_columns_c, 3, .inl t_columns_f)), (t_ring, .inl (t_ring_c, 48, .inl t_ring_f)), (p1, .inr (4, [.ref p1_bytes, .int z.1])), (p1_bytes, .inl (p1_bytes_c, p1_bytes_N, .inl z.2))] → va_S A s.heap H locs → W p l e (bs_rm 2) s m [.ref t, .ref p1, .int i2, .int i3].toArray below meth c H locs 0 0 Q (F0 m 107 ls [])) → W p l e (bs_rm 2) s m [.ref t, .ref p1, .int i2, .int i3].toArray below meth c H locs 0 0 Q (F0 m 67 ls []) := by
    intro k
    induction k with
    | zero => intro v2 v3 v4 v5 v6 v7 p1_size p1_bytes_f z ls H locs hm hl hP hD hS kE; exact (bs_no hm).elim
    | succ k ih =>
      intro v2 v3 v4 v5 v6 v7 p1_size p1_bytes_f z ls H locs hm hl hP hD hS kE
      have hm := (mq_Pf_writeEntries_L67 F p1_bytes_N k v6 v7 t_columnCount t_ring_f p1_size p1_bytes_f).symm.trans hm
      refine lv_iload hx hb dc_Pf_writeEntries_67 (lv_at hl 7 rfl) ?_
      refine lv_aload_n hx hb dc_Pf_writeEntries_69 rfl (lv_at hl 0 rfl) ?_
      refine va_get (ci := 3) (v := .int t_columnCount) (C := cn_Pf) (T := cf_Pf) (N := 7) hx hb hB ki_Pf hown hK hP 0 rfl rfl 2 (by decide) (hB _ kw_fl_Pf_16) (fun _ h => h) rfl dc_Pf_writeEntries_70 ?_
      refine lv_icmp_gt (tgt := 107) hx hb dc_Pf_writeEntries_73 (by decide) (fun h73 => ?_) (fun h73 => ?_)
      · have hm := bs_pos h73 hm
        cases hm
        exact kE ls _ _ (lv_sub hl [0, 1, 2, 3, 4, 5] rfl) hP hD hS
      · have hm := bs_neg h73 hm
        refine lv_aload_n hx hb dc_Pf_writeEntries_76 rfl (lv_at hl 1 rfl) ?_
        refine lv_iload hx hb dc_Pf_writeEntries_77 (lv_at hl 7 rfl) ?_
        refine lv_if_ne (tgt := 87) hx hb dc_Pf_writeEntries_79 (by decide) (fun h79 => ?_) (fun h79 => ?_)
        · have hm := bs_neg h79 hm
          refine lv_iconst (v := 5) hx hb dc_Pf_writeEntries_87 (by decide +kernel) ?_
          refine lv_aload_n hx hb dc_Pf_writeEntries_88 rfl (lv_at hl 0 rfl) ?_
          refine va_get (ci := 3) (v := .ref t_ring) (C := cn_Pf) (T := cf_Pf) (N := 7) hx hb hB ki_Pf hown hK hP 0 rfl rfl 1 (by decide) (hB _ kw_fl_Pf_13) (fun _ h => h) rfl dc_Pf_writeEntries_89 ?_
          refine lv_iload hx hb dc_Pf_writeEntries_92 (lv_at hl 6 rfl) ?_
          refine lv_iload hx hb dc_Pf_writeEntries_94 (lv_at hl 7 rfl) ?_
          refine lv_iadd hx hb dc_Pf_writeEntries_96 ?_
          obtain ⟨hz97, hm⟩ := bs_nn hm
          refine va_iald hx hb hK hP 2 1 rfl rfl hz97 dc_Pf_writeEntries_97 ?_
          obtain ⟨x98, hx98, hm⟩ := bs_bind hm
          refine bs_callVv 2 [(t, .inr (3, [.ref t_columns, .ref t_ring, .int t_columnCount, .int t_capacity, .int t_period, .int t_first, .int t_size])), (t_columns, .inl (t_columns_c, 3, .inl t_columns_f)), (t_ring, .inl (t_ring_c, 48, .inl t_ring_f))] (fun _ => [(t, .inr (3, [.ref t_columns, .ref t_ring, .int t_columnCount, .int t_capacity, .int t_period, .int t_first, .int t_size])), (t_columns, .inl (t_columns_c, 3, .inl t_columns_f)), (t_ring, .inl (t_ring_c, 48, .inl t_ring_f)), (p1, .inr (4, [.ref p1_bytes, .int x98.1])), (p1_bytes, .inl (p1_bytes_c, p1_bytes_N, .inl x98.2))]) [] hx hb hml hown hB hN hK hP hD hS hA (ct_Rw_addTagged l D F p1 p1_bytes p1_bytes_c p1_bytes_N p1_size p1_bytes_f 5 (t_ring_f ((v6 + v7).toNatClampNeg)) x98 hx98) kw_cd_Rw_addTagged kw_ml_Pf_57 kw_im_Rw_addTagged kw_se_Rw_addTagged kw_in_Rw kd_Rw_addTagged (by decide) ⟨_, _, _, rfl, rfl, rfl⟩ [3, 4] [0, 1, 2] rfl rfl (by decide) [2] rfl [0, 1, 2, 3, 4] (by decide) (fun _ => rfl) rfl hl.1 (bs_ler rfl) (by decide) dc_Pf_writeEntries_98 rfl (fun _ H locs hq98 hP hD hS => ?_)
          refine lv_iinc (k := 7) (v := v7 + 1) hx hb dc_Pf_writeEntries_101 hl rfl (bs_inc1 _) (by decide) rfl (fun ls hl => ?_)
          have hl : lv_has ls 8 [(7, .int (v7 + 1)), (0, .ref t), (1, .ref p1), (2, .int v2), (3, .int v3), (4, .int v4), (5, .int v5), (6, .int v6)] := hl
          refine lv_goto (tgt := 67) hx hb dc_Pf_writeEntries_104 (by decide) ?_
          exact ih v2 v3 v4 v5 v6 (v7 + 1) x98.1 x98.2 _ ls _ _ hm (lv_sub hl [1, 2, 3, 4, 5, 6, 7, 0] rfl) hP hD hS kE
        · have hm := bs_pos h79 hm
          refine lv_bipush (v := 6) hx hb dc_Pf_writeEntries_82 (by decide +kernel) ?_
          refine lv_goto (tgt := 88) hx hb dc_Pf_writeEntries_84 (by decide) ?_
          refine lv_aload_n hx hb dc_Pf_writeEntries_88 rfl (lv_at hl 0 rfl) ?_
          refine va_get (ci := 3) (v := .ref t_ring) (C := cn_Pf) (T := cf_Pf) (N := 7) hx hb hB ki_Pf hown hK hP 0 rfl rfl 1 (by decide) (hB _ kw_fl_Pf_13) (fun _ h => h) rfl dc_Pf_writeEntries_89 ?_
          refine lv_iload hx hb dc_Pf_writeEntries_92 (lv_at hl 6 rfl) ?_
          refine lv_iload hx hb dc_Pf_writeEntries_94 (lv_at hl 7 rfl) ?_
          refine lv_iadd hx hb dc_Pf_writeEntries_96 ?_
          obtain ⟨hz97, hm⟩ := bs_nn hm
          refine va_iald hx hb hK hP 2 1 rfl rfl hz97 dc_Pf_writeEntries_97 ?_
          obtain ⟨x98, hx98, hm⟩ := bs_bind hm
          refine bs_callVv 2 [(t, .inr (3, [.ref t_columns, .ref t_ring, .int t_columnCount, .int t_capacity, .int t_period, .int t_first, .int t_size])), (t_columns, .inl (t_columns_c, 3, .inl t_columns_f)), (t_ring, .inl (t_ring_c, 48, .inl t_ring_f))] (fun _ => [(t, .inr (3, [.ref t_columns, .ref t_ring, .int t_columnCount, .int t_capacity, .int t_period, .int t_first, .int t_size])), (t_columns, .inl (t_columns_c, 3, .inl t_columns_f)), (t_ring, .inl (t_ring_c, 48, .inl t_ring_f)), (p1, .inr (4, [.ref p1_bytes, .int x98.1])), (p1_bytes, .inl (p1_bytes_c, p1_bytes_N, .inl x98.2))]) [] hx hb hml hown hB hN hK hP hD hS hA (ct_Rw_addTagged l D F p1 p1_bytes p1_bytes_c p1_bytes_N p1_size p1_bytes_f 6 (t_ring_f ((v6 + v7).toNatClampNeg)) x98 hx98) kw_cd_Rw_addTagged kw_ml_Pf_57 kw_im_Rw_addTagged kw_se_Rw_addTagged kw_in_Rw kd_Rw_addTagged (by decide) ⟨_, _, _, rfl, rfl, rfl⟩ [3, 4] [0, 1, 2] rfl rfl (by decide) [2] rfl [0, 1, 2, 3, 4] (by decide) (fun _ => rfl) rfl hl.1 (bs_ler rfl) (by decide) dc_Pf_writeEntries_98 rfl (fun _ H locs hq98 hP hD hS => ?_)
          refine lv_iinc (k := 7) (v := v7 + 1) hx hb dc_Pf_writeEntries_101 hl rfl (bs_inc1 _) (by decide) rfl (fun ls hl => ?_)
          have hl : lv_has ls 8 [(7, .int (v7 + 1)), (0, .ref t), (1, .ref p1), (2, .int v2), (3, .int v3), (4, .int v4), (5, .int v5), (6, .int v6)] := hl
          refine lv_goto (tgt := 67) hx hb dc_Pf_writeEntries_104 (by decide) ?_
          exact ih v2 v3 v4 v5 v6 (v7 + 1) x98.1 x98.2 _ ls _ _ hm (lv_sub hl [1, 2, 3, 4, 5, 6, 7, 0] rfl) hP hD hS kE
  have hL17 : ∀ (k : Nat) (v2 : Int32) (v3 : Int32) (v4 : Int32) (v5 : Int32) (p1_size : Int32) (p1_bytes_f : Nat → Int32) (ls : Array Slot) (H : Heap) (locs : List Loc), mm_Pf_writeEntries_L17 F p1_bytes_N k v2 v3 v4 v5 t_columnCount t_first t_size t_ring_f p1_size p1_bytes_f = some r → lv_has ls 8 [(0, .ref t), (1, .ref p1), (2, .int v2), (3, .int v3), (4, .int v4), (5, .int v5)] → va_P D bs_cl [(t, .inr (3, [.ref t_columns, .ref t_ring, .int t_columnCount, .int t_capacity, .int t_period, .int t_first, .int t_size])), (t_columns, .inl (t_columns_c, 3, .inl t_columns_f)), (t_ring, .inl (t_ring_c, 48, .inl t_ring_f)), (p1, .inr (4, [.ref p1_bytes, .int p1_size])), (p1_bytes, .inl (p1_bytes_c, p1_bytes_N, .inl p1_bytes_f))] H → va_D A [(t, .inr (3, [.ref t_columns, .ref t_ring, .int t_columnCount, .int t_capacity, .int t_period, .int t_first, .int t_size])), (t_columns, .inl (t_columns_c, 3, .inl t_columns_f)), (t_ring, .inl (t_ring_c, 48, .inl t_ring_f)), (p1, .inr (4, [.ref p1_bytes, .int p1_size])), (p1_bytes, .inl (p1_bytes_c, p1_bytes_N, .inl p1_bytes_f))] → va_S A s.heap H locs → W p l e (bs_rm 2) s m [.ref t, .ref p1, .int i2, .int i3].toArray below meth c H locs 0 0 Q (F0 m 17 ls []) := by
    intro k
    induction k with
    | zero => intro v2 v3 v4 v5 p1_size p1_bytes_f ls H locs hm hl hP hD hS; exact (bs_no hm).elim
    | succ k ih =>
      intro v2 v3 v4 v5 p1_size p1_bytes_f ls H locs hm hl hP hD hS
      have hm := (mq_Pf_writeEntries_L17 F p1_bytes_N k v2 v3 v4 v5 t_columnCount t_first t_size t_ring_f p1_size p1_bytes_f).symm.trans hm
      refine lv_iload hx hb dc_Pf_writeEntries_17 (lv_at hl 5 rfl) ?_
      refine lv_aload_n hx hb dc_Pf_writeEntries_19 rfl (lv_at hl 0 rfl) ?_
      refine va_get (ci := 3) (v := .int t_size) (C := cn_Pf) (T := cf_Pf) (N := 7) hx hb hB ki_Pf hown hK hP 0 rfl rfl 6 (by decide) (hB _ kw_fl_Pf_26) (fun _ h => h) rfl dc_Pf_writeEntries_20 ?_
      refine lv_icmp_ge (tgt := 116) hx hb dc_Pf_writeEntries_23 (by decide) (fun h23 => ?_) (fun h23 => ?_)
      · have hm := bs_pos h23 hm
        refine lv_aload_n hx hb dc_Pf_writeEntries_116 rfl (lv_at hl 1 rfl) ?_
        refine lv_iconst (v := 1) hx hb dc_Pf_writeEntries_117 (by decide +kernel) ?_
        refine lv_iload hx hb dc_Pf_writeEntries_118 (lv_at hl 4 rfl) ?_
        obtain ⟨x120, hx120, hm⟩ := bs_bind hm
        refine bs_callVv 2 [(t, .inr (3, [.ref t_columns, .ref t_ring, .int t_columnCount, .int t_capacity, .int t_period, .int t_first, .int t_size])), (t_columns, .inl (t_columns_c, 3, .inl t_columns_f)), (t_ring, .inl (t_ring_c, 48, .inl t_ring_f))] (fun _ => [(t, .inr (3, [.ref t_columns, .ref t_ring, .int t_columnCount, .int t_capacity, .int t_period, .int t_first, .int t_size])), (t_columns, .inl (t_columns_c, 3, .inl t_columns_f)), (t_ring, .inl (t_ring_c, 48, .inl t_ring_f)), (p1, .inr (4, [.ref p1_bytes, .int p1_size])), (p1_bytes, .inl (p1_bytes_c, p1_bytes_N, .inl x120))]) [] hx hb hml hown hB hN hK hP hD hS hA (ct_Rw_change l D F p1 p1_bytes p1_bytes_c p1_bytes_N p1_size p1_bytes_f 1 v4 x120 hx120) kw_cd_Rw_change kw_ml_Pf_61 kw_im_Rw_change kw_se_Rw_change kw_in_Rw kd_Rw_change (by decide) ⟨_, _, _, rfl, rfl, rfl⟩ [3, 4] [0, 1, 2] rfl rfl (by decide) [2] rfl [0, 1, 2, 3, 4] (by decide) (fun _ => rfl) rfl hl.1 (bs_ler rfl) (by decide) dc_Pf_writeEntries_120 rfl (fun _ H locs hq120 hP hD hS => ?_)
        clear hL67 ih
        cases hm
        subst hQ
        exact bs_retV hx hb hr hlk () trivial hP hD hS dc_Pf_writeEntries_123
      · have hm := bs_neg h23 hm
        refine lv_aload_n hx hb dc_Pf_writeEntries_26 rfl (lv_at hl 0 rfl) ?_
        refine lv_iload hx hb dc_Pf_writeEntries_27 (lv_at hl 5 rfl) ?_
        obtain ⟨x29, hx29, hm⟩ := bs_bind hm
        refine bs_callVi 1 [(p1, .inr (4, [.ref p1_bytes, .int p1_size])), (p1_bytes, .inl (p1_bytes_c, p1_bytes_N, .inl p1_bytes_f))] (fun _ => [(t, .inr (3, [.ref t_columns, .ref t_ring, .int t_columnCount, .int t_capacity, .int t_period, .int t_first, .int t_size])), (t_columns, .inl (t_columns_c, 3, .inl t_columns_f)), (t_ring, .inl (t_ring_c, 48, .inl t_ring_f)), (p1, .inr (4, [.ref p1_bytes, .int p1_size])), (p1_bytes, .inl (p1_bytes_c, p1_bytes_N, .inl p1_bytes_f))]) [] hx hb hml hown hB hN hK hP hD hS hA (ct_Pf_start l D F t t_columns t_ring t_columns_c t_ring_c t_columnCount t_capacity t_period t_first t_size t_columns_f t_ring_f v5 x29 hx29) kw_cd_Pf_start kw_ml_Pf_41 kw_im_Pf_start kw_se_Pf_start kw_in_Pf kd_Pf_start (by decide) ⟨_, _, _, rfl, rfl, rfl⟩ [0, 1, 2] [3, 4] rfl rfl (by decide) [0, 1] rfl [2, 3, 4, 0, 1] (by decide) (fun _ => rfl) rfl hl.1 (bs_ler rfl) (by decide) dc_Pf_writeEntries_29 rfl (fun v29q _ H locs hq29 hP hD hS => ?_)
        have hq29 := hq29.symm
        subst hq29
        refine lv_istore hx hb dc_Pf_writeEntries_32 hl (by decide) rfl (fun ls hl => ?_)
        have hl : lv_has ls 8 [(6, .int x29), (0, .ref t), (1, .ref p1), (2, .int v2), (3, .int v3), (4, .int v4), (5, .int v5)] := hl
        refine lv_aload_n hx hb dc_Pf_writeEntries_34 rfl (lv_at hl 1 rfl) ?_
        refine va_get (ci := 3) (v := .ref t_ring) (C := cn_Pf) (T := cf_Pf) (N := 7) hx hb hB ki_Pf hown hK hP 0 rfl rfl 1 (by decide) (hB _ kw_fl_Pf_13) (fun _ h => h) rfl dc_Pf_writeEntries_35 ?_
        refine lv_iload hx hb dc_Pf_writeEntries_38 (lv_at hl 0 rfl) ?_
        obtain ⟨hz40, hm⟩ := bs_nn hm
        refine va_iald hx hb hK hP 2 1 rfl rfl hz40 dc_Pf_writeEntries_40 ?_
        refine lv_iload_n hx hb dc_Pf_writeEntries_41 rfl (lv_at hl 3 rfl) ?_
        refine lv_iload_n hx hb dc_Pf_writeEntries_42 rfl (lv_at hl 4 rfl) ?_
        obtain ⟨x43, hx43, hm⟩ := bs_bind hm
        refine bs_callSi 3 [(t, .inr (3, [.ref t_columns, .ref t_ring, .int t_columnCount, .int t_capacity, .int t_period, .int t_first, .int t_size])), (t_columns, .inl (t_columns_c, 3, .inl t_columns_f)), (t_ring, .inl (t_ring_c, 48, .inl t_ring_f)), (p1, .inr (4, [.ref p1_bytes, .int p1_size])), (p1_bytes, .inl (p1_bytes_c, p1_bytes_N, .inl p1_bytes_f))] (fun _ => [(t, .inr (3, [.ref t_columns, .ref t_ring, .int t_columnCount, .int t_capacity, .int t_period, .int t_first, .int t_size])), (t_columns, .inl (t_columns_c, 3, .inl t_columns_f)), (t_ring, .inl (t_ring_c, 48, .inl t_ring_f)), (p1, .inr (4, [.ref p1_bytes, .int p1_size])), (p1_bytes, .inl (p1_bytes_c, p1_bytes_N, .inl p1_bytes_f))]) [] hx hb hml hown hB hN hK hP hD hS hA (ct_Pf_isWithin l D F (t_ring_f x29.toNatClampNeg) v2 v3 x43 hx43) kw_cd_Pf_isWithin kw_ml_Pf_53 kw_st_Pf_isWithin kw_in_Pf kd_Pf_isWithin (by decide) [] [0, 1, 2, 3, 4] rfl rfl (by decide) [] rfl [0, 1, 2, 3, 4] (by decide) (fun _ => rfl) rfl hl.1 (bs_ler rfl) (by decide) dc_Pf_writeEntries_43 rfl (fun v43q _ H locs hq43 hP hD hS => ?_)
        have hq43 := hq43.symm
        subst hq43
        refine lv_if_eq (tgt := 110) hx hb dc_Pf_writeEntries_46 (by decide) (fun h46 => ?_) (fun h46 => ?_)
        · have hm := bs_pos h46 hm
          refine lv_iinc (k := 6) (v := v5 + 1) hx hb dc_Pf_writeEntries_110 hl rfl (bs_inc1 _) (by decide) rfl (fun ls hl => ?_)
          have hl : lv_has ls 8 [(5, .int (v5 + 1)), (6, .int x29), (0, .ref t), (1, .ref p1), (2, .int v2), (3, .int v3), (4, .int v4)] := hl
          refine lv_goto (tgt := 17) hx hb dc_Pf_writeEntries_113 (by decide) ?_
          exact ih v2 v3 v4 (v5 + 1) p1_size p1_bytes_f ls _ _ hm (lv_sub hl [2, 3, 4, 5, 6, 0] rfl) hP hD hS
        · have hm := bs_neg h46 hm
          refine lv_aload_n hx hb dc_Pf_writeEntries_49 rfl (lv_at hl 2 rfl) ?_
          refine lv_iconst (v := 2) hx hb dc_Pf_writeEntries_50 (by decide +kernel) ?_
          obtain ⟨x51, hx51, hm⟩ := bs_bind hm
          refine bs_callVv 1 [(t, .inr (3, [.ref t_columns, .ref t_ring, .int t_columnCount, .int t_capacity, .int t_period, .int t_first, .int t_size])), (t_columns, .inl (t_columns_c, 3, .inl t_columns_f)), (t_ring, .inl (t_ring_c, 48, .inl t_ring_f))] (fun _ => [(t, .inr (3, [.ref t_columns, .ref t_ring, .int t_columnCount, .int t_capacity, .int t_period, .int t_first, .int t_size])), (t_columns, .inl (t_columns_c, 3, .inl t_columns_f)), (t_ring, .inl (t_ring_c, 48, .inl t_ring_f)), (p1, .inr (4, [.ref p1_bytes, .int x51.1])), (p1_bytes, .inl (p1_bytes_c, p1_bytes_N, .inl x51.2))]) [] hx hb hml hown hB hN hK hP hD hS hA (ct_Rw_add l D F p1 p1_bytes p1_bytes_c p1_bytes_N p1_size p1_bytes_f 2 x51 hx51) kw_cd_Rw_add kw_ml_Pf_47 kw_im_Rw_add kw_se_Rw_add kw_in_Rw kd_Rw_add (by decide) ⟨_, _, _, rfl, rfl, rfl⟩ [3, 4] [0, 1, 2] rfl rfl (by decide) [2] rfl [0, 1, 2, 3, 4] (by decide) (fun _ => rfl) rfl hl.1 (bs_ler rfl) (by decide) dc_Pf_writeEntries_51 rfl (fun _ H locs hq51 hP hD hS => ?_)
          refine lv_aload_n hx hb dc_Pf_writeEntries_54 rfl (lv_at hl 2 rfl) ?_
          refine lv_aload_n hx hb dc_Pf_writeEntries_55 rfl (lv_at hl 1 rfl) ?_
          refine va_get (ci := 3) (v := .int t_columnCount) (C := cn_Pf) (T := cf_Pf) (N := 7) hx hb hB ki_Pf hown hK hP 0 rfl rfl 2 (by decide) (hB _ kw_fl_Pf_16) (fun _ h => h) rfl dc_Pf_writeEntries_56 ?_
          refine lv_iconst (v := 1) hx hb dc_Pf_writeEntries_59 (by decide +kernel) ?_
          refine lv_iadd hx hb dc_Pf_writeEntries_60 ?_
          obtain ⟨x61, hx61, hm⟩ := bs_bind hm
          refine bs_callVv 1 [(t, .inr (3, [.ref t_columns, .ref t_ring, .int t_columnCount, .int t_capacity, .int t_period, .int t_first, .int t_size])), (t_columns, .inl (t_columns_c, 3, .inl t_columns_f)), (t_ring, .inl (t_ring_c, 48, .inl t_ring_f))] (fun _ => [(t, .inr (3, [.ref t_columns, .ref t_ring, .int t_columnCount, .int t_capacity, .int t_period, .int t_first, .int t_size])), (t_columns, .inl (t_columns_c, 3, .inl t_columns_f)), (t_ring, .inl (t_ring_c, 48, .inl t_ring_f)), (p1, .inr (4, [.ref p1_bytes, .int x61.1])), (p1_bytes, .inl (p1_bytes_c, p1_bytes_N, .inl x61.2))]) [] hx hb hml hown hB hN hK hP hD hS hA (ct_Rw_add l D F p1 p1_bytes p1_bytes_c p1_bytes_N x51.1 x51.2 (t_columnCount + 1) x61 hx61) kw_cd_Rw_add kw_ml_Pf_47 kw_im_Rw_add kw_se_Rw_add kw_in_Rw kd_Rw_add (by decide) ⟨_, _, _, rfl, rfl, rfl⟩ [3, 4] [0, 1, 2] rfl rfl (by decide) [2] rfl [0, 1, 2, 3, 4] (by decide) (fun _ => rfl) rfl hl.1 (bs_ler rfl) (by decide) dc_Pf_writeEntries_61 rfl (fun _ H locs hq61 hP hD hS => ?_)
          refine lv_iconst (v := 0) hx hb dc_Pf_writeEntries_64 (by decide +kernel) ?_
          refine lv_istore hx hb dc_Pf_writeEntries_65 hl (by decide) rfl (fun ls hl => ?_)
          have hl : lv_has ls 8 [(7, .int 0), (6, .int x29), (0, .ref t), (1, .ref p1), (2, .int v2), (3, .int v3), (4, .int v4), (5, .int v5)] := hl
          obtain ⟨z67, hz67, hm⟩ := bs_bind hm
          refine hL67 F v2 v3 v4 v5 x29 0 x61.1 x61.2 z67 ls _ _ hz67 (lv_sub hl [2, 3, 4, 5, 6, 7, 1, 0] rfl) hP hD hS (fun ls H locs hl hP hD hS => ?_)
          have hl : lv_has ls 8 [(0, .ref t), (1, .ref p1), (2, .int v2), (3, .int v3), (4, .int v4), (5, .int v5)] := hl
          obtain ⟨hP, hD⟩ := bs_say [(t, .inr (3, [.ref t_columns, .ref t_ring, .int t_columnCount, .int t_capacity, .int t_period, .int t_first, .int t_size])), (t_columns, .inl (t_columns_c, 3, .inl t_columns_f)), (t_ring, .inl (t_ring_c, 48, .inl t_ring_f)), (p1, .inr (4, [.ref p1_bytes, .int z67.1])), (p1_bytes, .inl (p1_bytes_c, p1_bytes_N, .inl z67.2))] hP hD
          refine lv_iinc (k := 4) (v := v4 + 1) hx hb dc_Pf_writeEntries_107 hl rfl (bs_inc1 _) (by decide) rfl (fun ls hl => ?_)
          have hl : lv_has ls 8 [(4, .int (v4 + 1)), (0, .ref t), (1, .ref p1), (2, .int v2), (3, .int v3), (5, .int v5)] := hl
          refine lv_iinc (k := 5) (v := v5 + 1) hx hb dc_Pf_writeEntries_110 hl rfl (bs_inc1 _) (by decide) rfl (fun ls hl => ?_)
          have hl : lv_has ls 8 [(5, .int (v5 + 1)), (4, .int (v4 + 1)), (0, .ref t), (1, .ref p1), (2, .int v2), (3, .int v3)] := hl
          refine lv_goto (tgt := 17) hx hb dc_Pf_writeEntries_113 (by decide) ?_
          exact ih v2 v3 (v4 + 1) (v5 + 1) z67.1 z67.2 ls _ _ hm (lv_sub hl [2, 3, 4, 5, 1, 0] rfl) hP hD hS
  have hl : lv_has ls 8 [(0, .ref t), (1, .ref p1), (2, .int i2), (3, .int i3)] := hl
  have hm := (mq_Pf_writeEntries F p1_bytes_N i2 i3 t_columnCount t_first t_size t_ring_f p1_size p1_bytes_f).symm.trans hm
  refine lv_iconst (v := 0) hx hb dc_Pf_writeEntries_0 (by decide +kernel) ?_
  refine lv_istore hx hb dc_Pf_writeEntries_1 hl (by decide) rfl (fun ls hl => ?_)
  have hl : lv_has ls 8 [(4, .int 0), (0, .ref t), (1, .ref p1), (2, .int i2), (3, .int i3)] := hl
  refine lv_aload_n hx hb dc_Pf_writeEntries_3 rfl (lv_at hl 2 rfl) ?_
  refine lv_iconst (v := 1) hx hb dc_Pf_writeEntries_4 (by decide +kernel) ?_
  obtain ⟨x5, hx5, hm⟩ := bs_bind hm
  refine bs_callVv 1 [(t, .inr (3, [.ref t_columns, .ref t_ring, .int t_columnCount, .int t_capacity, .int t_period, .int t_first, .int t_size])), (t_columns, .inl (t_columns_c, 3, .inl t_columns_f)), (t_ring, .inl (t_ring_c, 48, .inl t_ring_f))] (fun _ => [(t, .inr (3, [.ref t_columns, .ref t_ring, .int t_columnCount, .int t_capacity, .int t_period, .int t_first, .int t_size])), (t_columns, .inl (t_columns_c, 3, .inl t_columns_f)), (t_ring, .inl (t_ring_c, 48, .inl t_ring_f)), (p1, .inr (4, [.ref p1_bytes, .int x5.1])), (p1_bytes, .inl (p1_bytes_c, p1_bytes_N, .inl x5.2))]) [] hx hb hml hown hB hN hK hP hD hS hA (ct_Rw_add l D F p1 p1_bytes p1_bytes_c p1_bytes_N p1_size p1_bytes_f 1 x5 hx5) kw_cd_Rw_add kw_ml_Pf_47 kw_im_Rw_add kw_se_Rw_add kw_in_Rw kd_Rw_add (by decide) ⟨_, _, _, rfl, rfl, rfl⟩ [3, 4] [0, 1, 2] rfl rfl (by decide) [2] rfl [0, 1, 2, 3, 4] (by decide) (fun _ => rfl) rfl hl.1 (bs_ler rfl) (by decide) dc_Pf_writeEntries_5 rfl (fun _ H locs hq5 hP hD hS => ?_)
  refine lv_aload_n hx hb dc_Pf_writeEntries_8 rfl (lv_at hl 2 rfl) ?_
  refine lv_iload hx hb dc_Pf_writeEntries_9 (lv_at hl 0 rfl) ?_
  obtain ⟨x11, hx11, hm⟩ := bs_bind hm
  refine bs_callVv 1 [(t, .inr (3, [.ref t_columns, .ref t_ring, .int t_columnCount, .int t_capacity, .int t_period, .int t_first, .int t_size])), (t_columns, .inl (t_columns_c, 3, .inl t_columns_f)), (t_ring, .inl (t_ring_c, 48, .inl t_ring_f))] (fun _ => [(t, .inr (3, [.ref t_columns, .ref t_ring, .int t_columnCount, .int t_capacity, .int t_period, .int t_first, .int t_size])), (t_columns, .inl (t_columns_c, 3, .inl t_columns_f)), (t_ring, .inl (t_ring_c, 48, .inl t_ring_f)), (p1, .inr (4, [.ref p1_bytes, .int x11.1])), (p1_bytes, .inl (p1_bytes_c, p1_bytes_N, .inl x11.2))]) [] hx hb hml hown hB hN hK hP hD hS hA (ct_Rw_add l D F p1 p1_bytes p1_bytes_c p1_bytes_N x5.1 x5.2 0 x11 hx11) kw_cd_Rw_add kw_ml_Pf_47 kw_im_Rw_add kw_se_Rw_add kw_in_Rw kd_Rw_add (by decide) ⟨_, _, _, rfl, rfl, rfl⟩ [3, 4] [0, 1, 2] rfl rfl (by decide) [2] rfl [0, 1, 2, 3, 4] (by decide) (fun _ => rfl) rfl hl.1 (bs_ler rfl) (by decide) dc_Pf_writeEntries_11 rfl (fun _ H locs hq11 hP hD hS => ?_)
  refine lv_iconst (v := 0) hx hb dc_Pf_writeEntries_14 (by decide +kernel) ?_
  refine lv_istore hx hb dc_Pf_writeEntries_15 hl (by decide) rfl (fun ls hl => ?_)
  have hl : lv_has ls 8 [(5, .int 0), (4, .int 0), (0, .ref t), (1, .ref p1), (2, .int i2), (3, .int i3)] := hl
  exact hL17 F i2 i3 0 0 x11.1 x11.2 ls _ _ hm (lv_sub hl [2, 3, 4, 5, 1, 0] rfl) hP hD hS
set_option maxHeartbeats 2000000 in
set_option maxRecDepth 100000 in
theorem ct_Pf_writeColumns (l : Launch) (D : va_G) (F : Nat) (t : Nat) (t_columns : Nat) (t_ring : Nat) (p1 : Nat) (p1_bytes : Nat) (t_columns_c : ClassId) (t_ring_c : ClassId) (p1_bytes_c : ClassId) (p1_bytes_N : Nat) (t_columnCount : Int32) (t_capacity : Int32) (t_period : Int32) (t_first : Int32) (t_size : Int32) (t_columns_f : Nat → Int32) (t_ring_f : Nat → Int32) (p1_size : Int32) (p1_bytes_f : Nat → Int32) (r : Int32 × (Nat → Int32)) (hm : mm_Pf_writeColumns F p1_bytes_N t_columnCount t_columns_f p1_size p1_bytes_f = some r) :
    bs_CV l my_Pf_writeColumns mb_Pf_writeColumns 3 (bs_rm 1) D [.ref t, .ref p1] [(t_columns_c, .int), (t_ring_c, .int), (p1_bytes_c, .int)] [(t, .inr (3, [.ref t_columns, .ref t_ring, .int t_columnCount, .int t_capacity, .int t_period, .int t_first, .int t_size])), (t_columns, .inl (t_columns_c, 3, .inl t_columns_f)), (t_ring, .inl (t_ring_c, 48, .inl t_ring_f)), (p1, .inr (4, [.ref p1_bytes, .int p1_size])), (p1_bytes, .inl (p1_bytes_c, p1_bytes_N, .inl p1_bytes_f))] (S := Unit) (fun (_ : Unit) => True) (fun _ => [(t, .inr (3, [.ref t_columns, .ref t_ring, .int t_columnCount, .int t_capacity, .int t_period, .int t_first, .int t_size])), (t_columns, .inl (t_columns_c, 3, .inl t_columns_f)), (t_ring, .inl (t_ring_c, 48, .inl t_ring_f)), (p1, .inr (4, [.ref p1_bytes, .int r.1])), (p1_bytes, .inl (p1_bytes_c, p1_bytes_N, .inl r.2))]) := by
  refine bs_CV.mk (by decide +kernel) (bs_ler rfl) ?_
  intro p e s m below meth c ls A hx hb hr hml hlk hown hB hN hP hK hD hS hA hl
  refine bs_genQ (fun Q hQ => ?_)
  have hL15 : ∀ (k : Nat) (v2 : Int32) (p1_size : Int32) (p1_bytes_f : Nat → Int32) (ls : Array Slot) (H : Heap) (locs : List Loc), mm_Pf_writeColumns_L15 F p1_bytes_N k v2 t_columnCount t_columns_f p1_size p1_bytes_f = some r → lv_has ls 3 [(0, .ref t), (1, .ref p1), (2, .int v2)] → va_P D bs_cl [(t, .inr (3, [.ref t_columns, .ref t_ring, .int t_columnCount, .int t_capacity, .int t_period, .int t_first, .int t_size])), (t_columns, .inl (t_columns_c, 3, .inl t_columns_f)), (t_ring, .inl (t_ring_c, 48, .inl t_ring_f)), (p1, .inr (4, [.ref p1_bytes, .int p1_size])), (p1_bytes, .inl (p1_bytes_c, p1_bytes_N, .inl p1_bytes_f))] H → va_D A [(t, .inr (3, [.ref t_columns, .ref t_ring, .int t_columnCount, .int t_capacity, .int t_period, .int t_first, .int t_size])), (t_columns, .inl (t_columns_c, 3, .inl t_columns_f)), (t_ring, .inl (t_ring_c, 48, .inl t_ring_f)), (p1, .inr (4, [.ref p1_bytes, .int p1_size])), (p1_bytes, .inl (p1_bytes_c, p1_bytes_N, .inl p1_bytes_f))] → va_S A s.heap H locs → W p l e (bs_rm 1) s m [.ref t, .ref p1].toArray below meth c H locs 0 0 Q (F0 m 15 ls []) := by
    intro k
    induction k with
    | zero => intro v2 p1_size p1_bytes_f ls H locs hm hl hP hD hS; exact (bs_no hm).elim
    | succ k ih =>
      intro v2 p1_size p1_bytes_f ls H locs hm hl hP hD hS
      have hm := (mq_Pf_writeColumns_L15 F p1_bytes_N k v2 t_columnCount t_columns_f p1_size p1_bytes_f).symm.trans hm
      refine lv_iload_n hx hb dc_Pf_writeColumns_15 rfl (lv_at hl 2 rfl) ?_
      refine lv_aload_n hx hb dc_Pf_writeColumns_16 rfl (lv_at hl 0 rfl) ?_
      refine va_get (ci := 3) (v := .int t_columnCount) (C := cn_Pf) (T := cf_Pf) (N := 7) hx hb hB ki_Pf hown hK hP 0 rfl rfl 2 (by decide) (hB _ kw_fl_Pf_16) (fun _ h => h) rfl dc_Pf_writeColumns_17 ?_
      refine lv_icmp_ge (tgt := 45) hx hb dc_Pf_writeColumns_20 (by decide) (fun h20 => ?_) (fun h20 => ?_)
      · have hm := bs_pos h20 hm
        clear ih
        cases hm
        subst hQ
        exact bs_retV hx hb hr hlk () trivial hP hD hS dc_Pf_writeColumns_45
      · have hm := bs_neg h20 hm
        refine lv_aload_n hx hb dc_Pf_writeColumns_23 rfl (lv_at hl 1 rfl) ?_
        refine lv_bipush (v := 17) hx hb dc_Pf_writeColumns_24 (by decide +kernel) ?_
        obtain ⟨x26, hx26, hm⟩ := bs_bind hm
        refine bs_callVv 1 [(t, .inr (3, [.ref t_columns, .ref t_ring, .int t_columnCount, .int t_capacity, .int t_period, .int t_first, .int t_size])), (t_columns, .inl (t_columns_c, 3, .inl t_columns_f)), (t_ring, .inl (t_ring_c, 48, .inl t_ring_f))] (fun _ => [(t, .inr (3, [.ref t_columns, .ref t_ring, .int t_columnCount, .int t_capacity, .int t_period, .int t_first, .int t_size])), (t_columns, .inl (t_columns_c, 3, .inl t_columns_f)), (t_ring, .inl (t_ring_c, 48, .inl t_ring_f)), (p1, .inr (4, [.ref p1_bytes, .int x26.1])), (p1_bytes, .inl (p1_bytes_c, p1_bytes_N, .inl x26.2))]) [] hx hb hml hown hB hN hK hP hD hS hA (ct_Rw_add l D F p1 p1_bytes p1_bytes_c p1_bytes_N p1_size p1_bytes_f 17 x26 hx26) kw_cd_Rw_add kw_ml_Pf_47 kw_im_Rw_add kw_se_Rw_add kw_in_Rw kd_Rw_add (by decide) ⟨_, _, _, rfl, rfl, rfl⟩ [3, 4] [0, 1, 2] rfl rfl (by decide) [2] rfl [0, 1, 2, 3, 4] (by decide) (fun _ => rfl) rfl hl.1 (bs_ler rfl) (by decide) dc_Pf_writeColumns_26 rfl (fun _ H locs hq26 hP hD hS => ?_)
        refine lv_aload_n hx hb dc_Pf_writeColumns_29 rfl (lv_at hl 1 rfl) ?_
        refine lv_aload_n hx hb dc_Pf_writeColumns_30 rfl (lv_at hl 0 rfl) ?_
        refine va_get (ci := 3) (v := .ref t_columns) (C := cn_Pf) (T := cf_Pf) (N := 7) hx hb hB ki_Pf hown hK hP 0 rfl rfl 0 (by decide) (hB _ kw_fl_Pf_9) (fun _ h => h) rfl dc_Pf_writeColumns_31 ?_
        refine lv_iload_n hx hb dc_Pf_writeColumns_34 rfl (lv_at hl 2 rfl) ?_
        obtain ⟨hz35, hm⟩ := bs_nn hm
        refine va_iald hx hb hK hP 1 0 rfl rfl hz35 dc_Pf_writeColumns_35 ?_
        obtain ⟨x36, hx36, hm⟩ := bs_bind hm
        refine bs_callVv 1 [(t, .inr (3, [.ref t_columns, .ref t_ring, .int t_columnCount, .int t_capacity, .int t_period, .int t_first, .int t_size])), (t_columns, .inl (t_columns_c, 3, .inl t_columns_f)), (t_ring, .inl (t_ring_c, 48, .inl t_ring_f))] (fun _ => [(t, .inr (3, [.ref t_columns, .ref t_ring, .int t_columnCount, .int t_capacity, .int t_period, .int t_first, .int t_size])), (t_columns, .inl (t_columns_c, 3, .inl t_columns_f)), (t_ring, .inl (t_ring_c, 48, .inl t_ring_f)), (p1, .inr (4, [.ref p1_bytes, .int x36.1])), (p1_bytes, .inl (p1_bytes_c, p1_bytes_N, .inl x36.2))]) [] hx hb hml hown hB hN hK hP hD hS hA (ct_Rw_add l D F p1 p1_bytes p1_bytes_c p1_bytes_N x26.1 x26.2 (t_columns_f v2.toNatClampNeg) x36 hx36) kw_cd_Rw_add kw_ml_Pf_47 kw_im_Rw_add kw_se_Rw_add kw_in_Rw kd_Rw_add (by decide) ⟨_, _, _, rfl, rfl, rfl⟩ [3, 4] [0, 1, 2] rfl rfl (by decide) [2] rfl [0, 1, 2, 3, 4] (by decide) (fun _ => rfl) rfl hl.1 (bs_ler rfl) (by decide) dc_Pf_writeColumns_36 rfl (fun _ H locs hq36 hP hD hS => ?_)
        refine lv_iinc (k := 2) (v := v2 + 1) hx hb dc_Pf_writeColumns_39 hl rfl (bs_inc1 _) (by decide) rfl (fun ls hl => ?_)
        have hl : lv_has ls 3 [(2, .int (v2 + 1)), (0, .ref t), (1, .ref p1)] := hl
        refine lv_goto (tgt := 15) hx hb dc_Pf_writeColumns_42 (by decide) ?_
        exact ih (v2 + 1) x36.1 x36.2 ls _ _ hm (lv_sub hl [1, 2, 0] rfl) hP hD hS
  have hl : lv_has ls 3 [(0, .ref t), (1, .ref p1)] := hl
  have hm := (mq_Pf_writeColumns F p1_bytes_N t_columnCount t_columns_f p1_size p1_bytes_f).symm.trans hm
  refine lv_aload_n hx hb dc_Pf_writeColumns_0 rfl (lv_at hl 1 rfl) ?_
  refine lv_iconst (v := 1) hx hb dc_Pf_writeColumns_1 (by decide +kernel) ?_
  obtain ⟨x2, hx2, hm⟩ := bs_bind hm
  refine bs_callVv 1 [(t, .inr (3, [.ref t_columns, .ref t_ring, .int t_columnCount, .int t_capacity, .int t_period, .int t_first, .int t_size])), (t_columns, .inl (t_columns_c, 3, .inl t_columns_f)), (t_ring, .inl (t_ring_c, 48, .inl t_ring_f))] (fun _ => [(t, .inr (3, [.ref t_columns, .ref t_ring, .int t_columnCount, .int t_capacity, .int t_period, .int t_first, .int t_size])), (t_columns, .inl (t_columns_c, 3, .inl t_columns_f)), (t_ring, .inl (t_ring_c, 48, .inl t_ring_f)), (p1, .inr (4, [.ref p1_bytes, .int x2.1])), (p1_bytes, .inl (p1_bytes_c, p1_bytes_N, .inl x2.2))]) [] hx hb hml hown hB hN hK hP hD hS hA (ct_Rw_add l D F p1 p1_bytes p1_bytes_c p1_bytes_N p1_size p1_bytes_f 1 x2 hx2) kw_cd_Rw_add kw_ml_Pf_47 kw_im_Rw_add kw_se_Rw_add kw_in_Rw kd_Rw_add (by decide) ⟨_, _, _, rfl, rfl, rfl⟩ [3, 4] [0, 1, 2] rfl rfl (by decide) [2] rfl [0, 1, 2, 3, 4] (by decide) (fun _ => rfl) rfl hl.1 (bs_ler rfl) (by decide) dc_Pf_writeColumns_2 rfl (fun _ H locs hq2 hP hD hS => ?_)
  refine lv_aload_n hx hb dc_Pf_writeColumns_5 rfl (lv_at hl 1 rfl) ?_
  refine lv_aload_n hx hb dc_Pf_writeColumns_6 rfl (lv_at hl 0 rfl) ?_
  refine va_get (ci := 3) (v := .int t_columnCount) (C := cn_Pf) (T := cf_Pf) (N := 7) hx hb hB ki_Pf hown hK hP 0 rfl rfl 2 (by decide) (hB _ kw_fl_Pf_16) (fun _ h => h) rfl dc_Pf_writeColumns_7 ?_
  obtain ⟨x10, hx10, hm⟩ := bs_bind hm
  refine bs_callVv 1 [(t, .inr (3, [.ref t_columns, .ref t_ring, .int t_columnCount, .int t_capacity, .int t_period, .int t_first, .int t_size])), (t_columns, .inl (t_columns_c, 3, .inl t_columns_f)), (t_ring, .inl (t_ring_c, 48, .inl t_ring_f))] (fun _ => [(t, .inr (3, [.ref t_columns, .ref t_ring, .int t_columnCount, .int t_capacity, .int t_period, .int t_first, .int t_size])), (t_columns, .inl (t_columns_c, 3, .inl t_columns_f)), (t_ring, .inl (t_ring_c, 48, .inl t_ring_f)), (p1, .inr (4, [.ref p1_bytes, .int x10.1])), (p1_bytes, .inl (p1_bytes_c, p1_bytes_N, .inl x10.2))]) [] hx hb hml hown hB hN hK hP hD hS hA (ct_Rw_add l D F p1 p1_bytes p1_bytes_c p1_bytes_N x2.1 x2.2 t_columnCount x10 hx10) kw_cd_Rw_add kw_ml_Pf_47 kw_im_Rw_add kw_se_Rw_add kw_in_Rw kd_Rw_add (by decide) ⟨_, _, _, rfl, rfl, rfl⟩ [3, 4] [0, 1, 2] rfl rfl (by decide) [2] rfl [0, 1, 2, 3, 4] (by decide) (fun _ => rfl) rfl hl.1 (bs_ler rfl) (by decide) dc_Pf_writeColumns_10 rfl (fun _ H locs hq10 hP hD hS => ?_)
  refine lv_iconst (v := 0) hx hb dc_Pf_writeColumns_13 (by decide +kernel) ?_
  refine lv_istore_n hx hb dc_Pf_writeColumns_14 rfl hl (by decide) rfl (fun ls hl => ?_)
  have hl : lv_has ls 3 [(2, .int 0), (0, .ref t), (1, .ref p1)] := hl
  exact hL15 F 0 x10.1 x10.2 ls _ _ hm (lv_sub hl [1, 2, 0] rfl) hP hD hS
set_option maxHeartbeats 2000000 in
set_option maxRecDepth 100000 in
theorem ct_Pf_writeSetting (l : Launch) (D : va_G) (F : Nat) (t : Nat) (t_columns : Nat) (t_ring : Nat) (p1 : Nat) (p1_bytes : Nat) (t_columns_c : ClassId) (t_ring_c : ClassId) (p1_bytes_c : ClassId) (p1_bytes_N : Nat) (t_columnCount : Int32) (t_capacity : Int32) (t_period : Int32) (t_first : Int32) (t_size : Int32) (t_columns_f : Nat → Int32) (t_ring_f : Nat → Int32) (p1_size : Int32) (p1_bytes_f : Nat → Int32) (i2 : Int32) (r : Int32 × (Nat → Int32)) (hm : mm_Pf_writeSetting F p1_bytes_N i2 t_columnCount t_capacity t_period t_size t_columns_f p1_size p1_bytes_f = some r) :
    bs_CV l my_Pf_writeSetting mb_Pf_writeSetting 3 (bs_rm 2) D [.ref t, .ref p1, .int i2] [(t_columns_c, .int), (t_ring_c, .int), (p1_bytes_c, .int)] [(t, .inr (3, [.ref t_columns, .ref t_ring, .int t_columnCount, .int t_capacity, .int t_period, .int t_first, .int t_size])), (t_columns, .inl (t_columns_c, 3, .inl t_columns_f)), (t_ring, .inl (t_ring_c, 48, .inl t_ring_f)), (p1, .inr (4, [.ref p1_bytes, .int p1_size])), (p1_bytes, .inl (p1_bytes_c, p1_bytes_N, .inl p1_bytes_f))] (S := Unit) (fun (_ : Unit) => True) (fun _ => [(t, .inr (3, [.ref t_columns, .ref t_ring, .int t_columnCount, .int t_capacity, .int t_period, .int t_first, .int t_size])), (t_columns, .inl (t_columns_c, 3, .inl t_columns_f)), (t_ring, .inl (t_ring_c, 48, .inl t_ring_f)), (p1, .inr (4, [.ref p1_bytes, .int r.1])), (p1_bytes, .inl (p1_bytes_c, p1_bytes_N, .inl r.2))]) := by
  refine bs_CV.mk (by decide +kernel) (bs_ler rfl) ?_
  intro p e s m below meth c ls A hx hb hr hml hlk hown hB hN hP hK hD hS hA hl
  refine bs_genQ (fun Q hQ => ?_)
  have hl : lv_has ls 3 [(0, .ref t), (1, .ref p1), (2, .int i2)] := hl
  have hm := (mq_Pf_writeSetting F p1_bytes_N i2 t_columnCount t_capacity t_period t_size t_columns_f p1_size p1_bytes_f).symm.trans hm
  refine lv_iload_n hx hb dc_Pf_writeSetting_0 rfl (lv_at hl 2 rfl) ?_
  refine lv_iconst (v := 3) hx hb dc_Pf_writeSetting_1 (by decide +kernel) ?_
  refine lv_icmp_ne (tgt := 13) hx hb dc_Pf_writeSetting_2 (by decide) (fun h2 => ?_) (fun h2 => ?_)
  · have hm := bs_neg h2 hm
    refine lv_iload_n hx hb dc_Pf_writeSetting_13 rfl (lv_at hl 2 rfl) ?_
    refine lv_iconst (v := 4) hx hb dc_Pf_writeSetting_14 (by decide +kernel) ?_
    refine lv_icmp_ne (tgt := 31) hx hb dc_Pf_writeSetting_15 (by decide) (fun h15 => ?_) (fun h15 => ?_)
    · have hm := bs_neg h15 hm
      refine lv_aload_n hx hb dc_Pf_writeSetting_31 rfl (lv_at hl 1 rfl) ?_
      refine lv_bipush (v := 6) hx hb dc_Pf_writeSetting_32 (by decide +kernel) ?_
      refine lv_iload_n hx hb dc_Pf_writeSetting_34 rfl (lv_at hl 2 rfl) ?_
      refine lv_bipush (v := 7) hx hb dc_Pf_writeSetting_35 (by decide +kernel) ?_
      refine lv_icmp_ne (tgt := 47) hx hb dc_Pf_writeSetting_37 (by decide) (fun h37 => ?_) (fun h37 => ?_)
      · have hm := bs_neg h37 hm
        refine lv_aload_n hx hb dc_Pf_writeSetting_47 rfl (lv_at hl 0 rfl) ?_
        refine va_get (ci := 3) (v := .int t_capacity) (C := cn_Pf) (T := cf_Pf) (N := 7) hx hb hB ki_Pf hown hK hP 0 rfl rfl 3 (by decide) (hB _ kw_fl_Pf_38) (fun _ h => h) rfl dc_Pf_writeSetting_48 ?_
        obtain ⟨x51, hx51, hm⟩ := bs_bind hm
        refine bs_callVv 2 [(t, .inr (3, [.ref t_columns, .ref t_ring, .int t_columnCount, .int t_capacity, .int t_period, .int t_first, .int t_size])), (t_columns, .inl (t_columns_c, 3, .inl t_columns_f)), (t_ring, .inl (t_ring_c, 48, .inl t_ring_f))] (fun _ => [(t, .inr (3, [.ref t_columns, .ref t_ring, .int t_columnCount, .int t_capacity, .int t_period, .int t_first, .int t_size])), (t_columns, .inl (t_columns_c, 3, .inl t_columns_f)), (t_ring, .inl (t_ring_c, 48, .inl t_ring_f)), (p1, .inr (4, [.ref p1_bytes, .int x51.1])), (p1_bytes, .inl (p1_bytes_c, p1_bytes_N, .inl x51.2))]) [] hx hb hml hown hB hN hK hP hD hS hA (ct_Rw_addTagged l D F p1 p1_bytes p1_bytes_c p1_bytes_N p1_size p1_bytes_f 6 t_capacity x51 hx51) kw_cd_Rw_addTagged kw_ml_Pf_57 kw_im_Rw_addTagged kw_se_Rw_addTagged kw_in_Rw kd_Rw_addTagged (by decide) ⟨_, _, _, rfl, rfl, rfl⟩ [3, 4] [0, 1, 2] rfl rfl (by decide) [2] rfl [0, 1, 2, 3, 4] (by decide) (fun _ => rfl) rfl hl.1 (bs_ler rfl) (by decide) dc_Pf_writeSetting_51 rfl (fun _ H locs hq51 hP hD hS => ?_)
        cases hm
        subst hQ
        exact bs_retV hx hb hr hlk () trivial hP hD hS dc_Pf_writeSetting_54
      · have hm := bs_pos h37 hm
        refine lv_aload_n hx hb dc_Pf_writeSetting_40 rfl (lv_at hl 0 rfl) ?_
        refine va_get (ci := 3) (v := .int t_size) (C := cn_Pf) (T := cf_Pf) (N := 7) hx hb hB ki_Pf hown hK hP 0 rfl rfl 6 (by decide) (hB _ kw_fl_Pf_26) (fun _ h => h) rfl dc_Pf_writeSetting_41 ?_
        refine lv_goto (tgt := 51) hx hb dc_Pf_writeSetting_44 (by decide) ?_
        obtain ⟨x51, hx51, hm⟩ := bs_bind hm
        refine bs_callVv 2 [(t, .inr (3, [.ref t_columns, .ref t_ring, .int t_columnCount, .int t_capacity, .int t_period, .int t_first, .int t_size])), (t_columns, .inl (t_columns_c, 3, .inl t_columns_f)), (t_ring, .inl (t_ring_c, 48, .inl t_ring_f))] (fun _ => [(t, .inr (3, [.ref t_columns, .ref t_ring, .int t_columnCount, .int t_capacity, .int t_period, .int t_first, .int t_size])), (t_columns, .inl (t_columns_c, 3, .inl t_columns_f)), (t_ring, .inl (t_ring_c, 48, .inl t_ring_f)), (p1, .inr (4, [.ref p1_bytes, .int x51.1])), (p1_bytes, .inl (p1_bytes_c, p1_bytes_N, .inl x51.2))]) [] hx hb hml hown hB hN hK hP hD hS hA (ct_Rw_addTagged l D F p1 p1_bytes p1_bytes_c p1_bytes_N p1_size p1_bytes_f 6 t_size x51 hx51) kw_cd_Rw_addTagged kw_ml_Pf_57 kw_im_Rw_addTagged kw_se_Rw_addTagged kw_in_Rw kd_Rw_addTagged (by decide) ⟨_, _, _, rfl, rfl, rfl⟩ [3, 4] [0, 1, 2] rfl rfl (by decide) [2] rfl [0, 1, 2, 3, 4] (by decide) (fun _ => rfl) rfl hl.1 (bs_ler rfl) (by decide) dc_Pf_writeSetting_51 rfl (fun _ H locs hq51 hP hD hS => ?_)
        cases hm
        subst hQ
        exact bs_retV hx hb hr hlk () trivial hP hD hS dc_Pf_writeSetting_54
    · have hm := bs_pos h15 hm
      refine lv_aload_n hx hb dc_Pf_writeSetting_18 rfl (lv_at hl 1 rfl) ?_
      refine lv_bipush (v := 6) hx hb dc_Pf_writeSetting_19 (by decide +kernel) ?_
      refine lv_aload_n hx hb dc_Pf_writeSetting_21 rfl (lv_at hl 0 rfl) ?_
      refine va_get (ci := 3) (v := .int t_period) (C := cn_Pf) (T := cf_Pf) (N := 7) hx hb hB ki_Pf hown hK hP 0 rfl rfl 4 (by decide) (hB _ kw_fl_Pf_20) (fun _ h => h) rfl dc_Pf_writeSetting_22 ?_
      obtain ⟨x25, hx25, hm⟩ := bs_bind hm
      refine bs_callVv 2 [(t, .inr (3, [.ref t_columns, .ref t_ring, .int t_columnCount, .int t_capacity, .int t_period, .int t_first, .int t_size])), (t_columns, .inl (t_columns_c, 3, .inl t_columns_f)), (t_ring, .inl (t_ring_c, 48, .inl t_ring_f))] (fun _ => [(t, .inr (3, [.ref t_columns, .ref t_ring, .int t_columnCount, .int t_capacity, .int t_period, .int t_first, .int t_size])), (t_columns, .inl (t_columns_c, 3, .inl t_columns_f)), (t_ring, .inl (t_ring_c, 48, .inl t_ring_f)), (p1, .inr (4, [.ref p1_bytes, .int x25.1])), (p1_bytes, .inl (p1_bytes_c, p1_bytes_N, .inl x25.2))]) [] hx hb hml hown hB hN hK hP hD hS hA (ct_Rw_addTagged l D F p1 p1_bytes p1_bytes_c p1_bytes_N p1_size p1_bytes_f 6 t_period x25 hx25) kw_cd_Rw_addTagged kw_ml_Pf_57 kw_im_Rw_addTagged kw_se_Rw_addTagged kw_in_Rw kd_Rw_addTagged (by decide) ⟨_, _, _, rfl, rfl, rfl⟩ [3, 4] [0, 1, 2] rfl rfl (by decide) [2] rfl [0, 1, 2, 3, 4] (by decide) (fun _ => rfl) rfl hl.1 (bs_ler rfl) (by decide) dc_Pf_writeSetting_25 rfl (fun _ H locs hq25 hP hD hS => ?_)
      refine lv_goto (tgt := 54) hx hb dc_Pf_writeSetting_28 (by decide) ?_
      cases hm
      subst hQ
      exact bs_retV hx hb hr hlk () trivial hP hD hS dc_Pf_writeSetting_54
  · have hm := bs_pos h2 hm
    refine lv_aload_n hx hb dc_Pf_writeSetting_5 rfl (lv_at hl 0 rfl) ?_
    refine lv_aload_n hx hb dc_Pf_writeSetting_6 rfl (lv_at hl 1 rfl) ?_
    obtain ⟨x7, hx7, hm⟩ := bs_bind hm
    refine bs_callVv 1 [] (fun _ => [(t, .inr (3, [.ref t_columns, .ref t_ring, .int t_columnCount, .int t_capacity, .int t_period, .int t_first, .int t_size])), (t_columns, .inl (t_columns_c, 3, .inl t_columns_f)), (t_ring, .inl (t_ring_c, 48, .inl t_ring_f)), (p1, .inr (4, [.ref p1_bytes, .int x7.1])), (p1_bytes, .inl (p1_bytes_c, p1_bytes_N, .inl x7.2))]) [] hx hb hml hown hB hN hK hP hD hS hA (ct_Pf_writeColumns l D F t t_columns t_ring p1 p1_bytes t_columns_c t_ring_c p1_bytes_c p1_bytes_N t_columnCount t_capacity t_period t_first t_size t_columns_f t_ring_f p1_size p1_bytes_f x7 hx7) kw_cd_Pf_writeColumns kw_ml_Pf_64 kw_im_Pf_writeColumns kw_se_Pf_writeColumns kw_in_Pf kd_Pf_writeColumns (by decide) ⟨_, _, _, rfl, rfl, rfl⟩ [0, 1, 2, 3, 4] [] rfl rfl (by decide) [0, 1, 2] rfl [0, 1, 2, 3, 4] (by decide) (fun _ => rfl) rfl hl.1 (bs_ler rfl) (by decide) dc_Pf_writeSetting_7 rfl (fun _ H locs hq7 hP hD hS => ?_)
    refine lv_goto (tgt := 54) hx hb dc_Pf_writeSetting_10 (by decide) ?_
    cases hm
    subst hQ
    exact bs_retV hx hb hr hlk () trivial hP hD hS dc_Pf_writeSetting_54
set_option maxHeartbeats 2000000 in
set_option maxRecDepth 100000 in
theorem ct_Pf_hasColumns (l : Launch) (D : va_G) (F : Nat) (p0 : Nat) (p0_bytes : Nat) (p0_bytes_c : ClassId) (p0_bytes_N : Nat) (p0_size : Int32) (p0_bytes_f : Nat → Int32) (r : Int32) (hm : mm_Pf_hasColumns F p0_bytes_N p0_size p0_bytes_f = some r) :
    bs_CI l my_Pf_hasColumns mb_Pf_hasColumns 5 .boolean (bs_rm 1) D [.ref p0] [(p0_bytes_c, .int)] [(p0, .inr (4, [.ref p0_bytes, .int p0_size])), (p0_bytes, .inl (p0_bytes_c, p0_bytes_N, .inl p0_bytes_f))] (S := Unit) (fun v (_ : Unit) => v = r) (fun _ => [(p0, .inr (4, [.ref p0_bytes, .int p0_size])), (p0_bytes, .inl (p0_bytes_c, p0_bytes_N, .inl p0_bytes_f))]) := by
  refine bs_CI.mk (by decide +kernel) (bs_ler rfl) ?_
  intro p e s m below meth c ls A hx hb hr hml hlk hown hB hN hP hK hD hS hA hl
  refine bs_genQ (fun Q hQ => ?_)
  have hL43 : ∀ (k : Nat) (v1 : Int32) (v2 : Int32) (v3 : Int32) (ls : Array Slot) (H : Heap) (locs : List Loc), mm_Pf_hasColumns_L43 F p0_bytes_N k v1 v2 v3 p0_size p0_bytes_f = some r → lv_has ls 5 [(0, .ref p0), (1, .int v1), (2, .int v2), (3, .int v3)] → va_P D bs_cl [(p0, .inr (4, [.ref p0_bytes, .int p0_size])), (p0_bytes, .inl (p0_bytes_c, p0_bytes_N, .inl p0_bytes_f))] H → va_D A [(p0, .inr (4, [.ref p0_bytes, .int p0_size])), (p0_bytes, .inl (p0_bytes_c, p0_bytes_N, .inl p0_bytes_f))] → va_S A s.heap H locs → W p l e (bs_rm 1) s m [.ref p0].toArray below meth c H locs 0 0 Q (F0 m 43 ls []) := by
    intro k
    induction k with
    | zero => intro v1 v2 v3 ls H locs hm hl hP hD hS; exact (bs_no hm).elim
    | succ k ih =>
      intro v1 v2 v3 ls H locs hm hl hP hD hS
      have hm := (mq_Pf_hasColumns_L43 F p0_bytes_N k v1 v2 v3 p0_size p0_bytes_f).symm.trans hm
      refine lv_iload_n hx hb dc_Pf_hasColumns_43 rfl (lv_at hl 3 rfl) ?_
      refine lv_iload_n hx hb dc_Pf_hasColumns_44 rfl (lv_at hl 1 rfl) ?_
      refine lv_icmp_ge (tgt := 107) hx hb dc_Pf_hasColumns_45 (by decide) (fun h45 => ?_) (fun h45 => ?_)
      · have hm := bs_pos h45 hm
        refine lv_iconst (v := 1) hx hb dc_Pf_hasColumns_107 (by decide +kernel) ?_
        clear ih
        cases hm
        subst hQ
        exact bs_retZ hx hb hr hlk (by decide +kernel) () rfl hP hD hS dc_Pf_hasColumns_108
      · have hm := bs_neg h45 hm
        refine lv_aload_n hx hb dc_Pf_hasColumns_48 rfl (lv_at hl 0 rfl) ?_
        refine lv_bipush (v := 6) hx hb dc_Pf_hasColumns_49 (by decide +kernel) ?_
        refine lv_iconst (v := 2) hx hb dc_Pf_hasColumns_51 (by decide +kernel) ?_
        refine lv_iload_n hx hb dc_Pf_hasColumns_52 rfl (lv_at hl 3 rfl) ?_
        refine lv_imul hx hb dc_Pf_hasColumns_53 ?_
        refine lv_iadd hx hb dc_Pf_hasColumns_54 ?_
        obtain ⟨x55, hx55, hm⟩ := bs_bind hm
        refine bs_callVi 1 [] (fun _ => [(p0, .inr (4, [.ref p0_bytes, .int p0_size])), (p0_bytes, .inl (p0_bytes_c, p0_bytes_N, .inl p0_bytes_f))]) [] hx hb hml hown hB hN hK hP hD hS hA (ct_Rw_at l D F p0 p0_bytes p0_bytes_c p0_bytes_N p0_size p0_bytes_f (6 + (2 * v3)) x55 hx55) kw_cd_Rw_at kw_ml_Pf_72 kw_im_Rw_at kw_se_Rw_at kw_in_Rw kd_Rw_at (by decide) ⟨_, _, _, rfl, rfl, rfl⟩ [0, 1] [] rfl rfl (by decide) [0] rfl [0, 1] (by decide) (fun _ => rfl) rfl hl.1 (bs_ler rfl) (by decide) dc_Pf_hasColumns_55 rfl (fun v55q _ H locs hq55 hP hD hS => ?_)
        have hq55 := hq55.symm
        subst hq55
        refine lv_istore hx hb dc_Pf_hasColumns_58 hl (by decide) rfl (fun ls hl => ?_)
        have hl : lv_has ls 5 [(4, .int x55), (0, .ref p0), (1, .int v1), (2, .int v2), (3, .int v3)] := hl
        refine lv_aload_n hx hb dc_Pf_hasColumns_60 rfl (lv_at hl 1 rfl) ?_
        refine lv_iconst (v := 5) hx hb dc_Pf_hasColumns_61 (by decide +kernel) ?_
        refine lv_iconst (v := 2) hx hb dc_Pf_hasColumns_62 (by decide +kernel) ?_
        refine lv_iload_n hx hb dc_Pf_hasColumns_63 rfl (lv_at hl 4 rfl) ?_
        refine lv_imul hx hb dc_Pf_hasColumns_64 ?_
        refine lv_iadd hx hb dc_Pf_hasColumns_65 ?_
        obtain ⟨x66, hx66, hm⟩ := bs_bind hm
        refine bs_callVi 1 [] (fun _ => [(p0, .inr (4, [.ref p0_bytes, .int p0_size])), (p0_bytes, .inl (p0_bytes_c, p0_bytes_N, .inl p0_bytes_f))]) [] hx hb hml hown hB hN hK hP hD hS hA (ct_Rw_at l D F p0 p0_bytes p0_bytes_c p0_bytes_N p0_size p0_bytes_f (5 + (2 * v3)) x66 hx66) kw_cd_Rw_at kw_ml_Pf_72 kw_im_Rw_at kw_se_Rw_at kw_in_Rw kd_Rw_at (by decide) ⟨_, _, _, rfl, rfl, rfl⟩ [0, 1] [] rfl rfl (by decide) [0] rfl [0, 1] (by decide) (fun _ => rfl) rfl hl.1 (bs_ler rfl) (by decide) dc_Pf_hasColumns_66 rfl (fun v66q _ H locs hq66 hP hD hS => ?_)
        have hq66 := hq66.symm
        subst hq66
        refine lv_bipush (v := 17) hx hb dc_Pf_hasColumns_69 (by decide +kernel) ?_
        refine lv_icmp_ne (tgt := 92) hx hb dc_Pf_hasColumns_71 (by decide) (fun h71 => ?_) (fun h71 => ?_)
        · have hm := bs_neg h71 hm
          refine lv_iconst (v := 0) hx hb dc_Pf_hasColumns_92 (by decide +kernel) ?_
          clear ih
          cases hm
          subst hQ
          exact bs_retZ hx hb hr hlk (by decide +kernel) () rfl hP hD hS dc_Pf_hasColumns_93
        · have hm := bs_pos h71 hm
          refine lv_iload hx hb dc_Pf_hasColumns_74 (lv_at hl 0 rfl) ?_
          obtain ⟨x76, hx76, hm⟩ := bs_bind hm
          refine bs_callSi 1 [(p0, .inr (4, [.ref p0_bytes, .int p0_size])), (p0_bytes, .inl (p0_bytes_c, p0_bytes_N, .inl p0_bytes_f))] (fun _ => [(p0, .inr (4, [.ref p0_bytes, .int p0_size])), (p0_bytes, .inl (p0_bytes_c, p0_bytes_N, .inl p0_bytes_f))]) [] hx hb hml hown hB hN hK hP hD hS hA (ct_Mt_isRegister l D F x55 x76 hx76) kw_cd_Mt_isRegister kw_ml_Pf_79 kw_st_Mt_isRegister kw_in_Mt kd_Mt_isRegister (by decide) [] [0, 1] rfl rfl (by decide) [] rfl [0, 1] (by decide) (fun _ => rfl) rfl hl.1 (bs_ler rfl) (by decide) dc_Pf_hasColumns_76 rfl (fun v76q _ H locs hq76 hP hD hS => ?_)
          have hq76 := hq76.symm
          subst hq76
          refine lv_if_eq (tgt := 92) hx hb dc_Pf_hasColumns_79 (by decide) (fun h79 => ?_) (fun h79 => ?_)
          · have hm := bs_pos h79 hm
            refine lv_iconst (v := 0) hx hb dc_Pf_hasColumns_92 (by decide +kernel) ?_
            clear ih
            cases hm
            subst hQ
            exact bs_retZ hx hb hr hlk (by decide +kernel) () rfl hP hD hS dc_Pf_hasColumns_93
          · have hm := bs_neg h79 hm
            refine lv_iload_n hx hb dc_Pf_hasColumns_82 rfl (lv_at hl 3 rfl) ?_
            refine lv_iload hx hb dc_Pf_hasColumns_83 (lv_at hl 0 rfl) ?_
            refine lv_ishr hx hb dc_Pf_hasColumns_85 ?_
            refine lv_iconst (v := 1) hx hb dc_Pf_hasColumns_86 (by decide +kernel) ?_
            refine lv_iand hx hb dc_Pf_hasColumns_87 ?_
            refine lv_iconst (v := 1) hx hb dc_Pf_hasColumns_88 (by decide +kernel) ?_
            refine lv_icmp_ne (tgt := 94) hx hb dc_Pf_hasColumns_89 (by decide) (fun h89 => ?_) (fun h89 => ?_)
            · have hm := bs_neg h89 hm
              refine lv_iload_n hx hb dc_Pf_hasColumns_94 rfl (lv_at hl 3 rfl) ?_
              refine lv_iconst (v := 1) hx hb dc_Pf_hasColumns_95 (by decide +kernel) ?_
              refine lv_iload hx hb dc_Pf_hasColumns_96 (lv_at hl 0 rfl) ?_
              refine lv_ishl hx hb dc_Pf_hasColumns_98 ?_
              refine lv_ior hx hb dc_Pf_hasColumns_99 ?_
              refine lv_istore_n hx hb dc_Pf_hasColumns_100 rfl hl (by decide) rfl (fun ls hl => ?_)
              have hl : lv_has ls 5 [(2, .int (v2 ||| (1 <<< (x55 &&& 31)))), (4, .int x55), (0, .ref p0), (1, .int v1), (3, .int v3)] := hl
              refine lv_iinc (k := 4) (v := v3 + 1) hx hb dc_Pf_hasColumns_101 hl rfl (bs_inc1 _) (by decide) rfl (fun ls hl => ?_)
              have hl : lv_has ls 5 [(3, .int (v3 + 1)), (2, .int (v2 ||| (1 <<< (x55 &&& 31)))), (4, .int x55), (0, .ref p0), (1, .int v1)] := hl
              refine lv_goto (tgt := 43) hx hb dc_Pf_hasColumns_104 (by decide) ?_
              exact ih v1 (v2 ||| (1 <<< (x55 &&& 31))) (v3 + 1) ls _ _ hm (lv_sub hl [3, 4, 1, 0] rfl) hP hD hS
            · have hm := bs_pos h89 hm
              refine lv_iconst (v := 0) hx hb dc_Pf_hasColumns_92 (by decide +kernel) ?_
              clear ih
              cases hm
              subst hQ
              exact bs_retZ hx hb hr hlk (by decide +kernel) () rfl hP hD hS dc_Pf_hasColumns_93
  have hl : lv_has ls 5 [(0, .ref p0)] := hl
  have hm := (mq_Pf_hasColumns F p0_bytes_N p0_size p0_bytes_f).symm.trans hm
  refine lv_aload_n hx hb dc_Pf_hasColumns_0 rfl (lv_at hl 0 rfl) ?_
  refine lv_iconst (v := 4) hx hb dc_Pf_hasColumns_1 (by decide +kernel) ?_
  obtain ⟨x2, hx2, hm⟩ := bs_bind hm
  refine bs_callVi 1 [] (fun _ => [(p0, .inr (4, [.ref p0_bytes, .int p0_size])), (p0_bytes, .inl (p0_bytes_c, p0_bytes_N, .inl p0_bytes_f))]) [] hx hb hml hown hB hN hK hP hD hS hA (ct_Rw_at l D F p0 p0_bytes p0_bytes_c p0_bytes_N p0_size p0_bytes_f 4 x2 hx2) kw_cd_Rw_at kw_ml_Pf_72 kw_im_Rw_at kw_se_Rw_at kw_in_Rw kd_Rw_at (by decide) ⟨_, _, _, rfl, rfl, rfl⟩ [0, 1] [] rfl rfl (by decide) [0] rfl [0, 1] (by decide) (fun _ => rfl) rfl hl.1 (bs_ler rfl) (by decide) dc_Pf_hasColumns_2 rfl (fun v2q _ H locs hq2 hP hD hS => ?_)
  have hq2 := hq2.symm
  subst hq2
  refine lv_istore_n hx hb dc_Pf_hasColumns_5 rfl hl (by decide) rfl (fun ls hl => ?_)
  have hl : lv_has ls 5 [(1, .int x2), (0, .ref p0)] := hl
  refine lv_aload_n hx hb dc_Pf_hasColumns_6 rfl (lv_at hl 1 rfl) ?_
  refine lv_iconst (v := 3) hx hb dc_Pf_hasColumns_7 (by decide +kernel) ?_
  obtain ⟨x8, hx8, hm⟩ := bs_bind hm
  refine bs_callVi 1 [] (fun _ => [(p0, .inr (4, [.ref p0_bytes, .int p0_size])), (p0_bytes, .inl (p0_bytes_c, p0_bytes_N, .inl p0_bytes_f))]) [] hx hb hml hown hB hN hK hP hD hS hA (ct_Rw_at l D F p0 p0_bytes p0_bytes_c p0_bytes_N p0_size p0_bytes_f 3 x8 hx8) kw_cd_Rw_at kw_ml_Pf_72 kw_im_Rw_at kw_se_Rw_at kw_in_Rw kd_Rw_at (by decide) ⟨_, _, _, rfl, rfl, rfl⟩ [0, 1] [] rfl rfl (by decide) [0] rfl [0, 1] (by decide) (fun _ => rfl) rfl hl.1 (bs_ler rfl) (by decide) dc_Pf_hasColumns_8 rfl (fun v8q _ H locs hq8 hP hD hS => ?_)
  have hq8 := hq8.symm
  subst hq8
  refine lv_iconst (v := 1) hx hb dc_Pf_hasColumns_11 (by decide +kernel) ?_
  refine lv_icmp_ne (tgt := 37) hx hb dc_Pf_hasColumns_12 (by decide) (fun h12 => ?_) (fun h12 => ?_)
  · have hm := bs_neg h12 hm
    refine lv_iconst (v := 0) hx hb dc_Pf_hasColumns_37 (by decide +kernel) ?_
    clear hL43
    cases hm
    subst hQ
    exact bs_retZ hx hb hr hlk (by decide +kernel) () rfl hP hD hS dc_Pf_hasColumns_38
  · have hm := bs_pos h12 hm
    refine lv_iload_n hx hb dc_Pf_hasColumns_15 rfl (lv_at hl 0 rfl) ?_
    refine lv_iconst (v := 1) hx hb dc_Pf_hasColumns_16 (by decide +kernel) ?_
    refine lv_icmp_lt (tgt := 37) hx hb dc_Pf_hasColumns_17 (by decide) (fun h17 => ?_) (fun h17 => ?_)
    · have hm := bs_pos h17 hm
      refine lv_iconst (v := 0) hx hb dc_Pf_hasColumns_37 (by decide +kernel) ?_
      clear hL43
      cases hm
      subst hQ
      exact bs_retZ hx hb hr hlk (by decide +kernel) () rfl hP hD hS dc_Pf_hasColumns_38
    · have hm := bs_neg h17 hm
      refine lv_iload_n hx hb dc_Pf_hasColumns_20 rfl (lv_at hl 0 rfl) ?_
      refine lv_iconst (v := 3) hx hb dc_Pf_hasColumns_21 (by decide +kernel) ?_
      refine lv_icmp_gt (tgt := 37) hx hb dc_Pf_hasColumns_22 (by decide) (fun h22 => ?_) (fun h22 => ?_)
      · have hm := bs_pos h22 hm
        refine lv_iconst (v := 0) hx hb dc_Pf_hasColumns_37 (by decide +kernel) ?_
        clear hL43
        cases hm
        subst hQ
        exact bs_retZ hx hb hr hlk (by decide +kernel) () rfl hP hD hS dc_Pf_hasColumns_38
      · have hm := bs_neg h22 hm
        refine lv_aload_n hx hb dc_Pf_hasColumns_25 rfl (lv_at hl 1 rfl) ?_
        refine va_getN (ci := 4) (v := .int p0_size) (C := cn_Rw) (T := cf_Rw) (N := 2) hx hb hB ki_Rw hown hK hP 0 rfl rfl 1 (by decide) (hN.use kn_Pf_78) (fun _ h => h) rfl dc_Pf_hasColumns_26 ?_
        refine lv_iconst (v := 5) hx hb dc_Pf_hasColumns_29 (by decide +kernel) ?_
        refine lv_iconst (v := 2) hx hb dc_Pf_hasColumns_30 (by decide +kernel) ?_
        refine lv_iload_n hx hb dc_Pf_hasColumns_31 rfl (lv_at hl 0 rfl) ?_
        refine lv_imul hx hb dc_Pf_hasColumns_32 ?_
        refine lv_iadd hx hb dc_Pf_hasColumns_33 ?_
        refine lv_icmp_eq (tgt := 39) hx hb dc_Pf_hasColumns_34 (by decide) (fun h34 => ?_) (fun h34 => ?_)
        · have hm := bs_pos h34 hm
          refine lv_iconst (v := 0) hx hb dc_Pf_hasColumns_39 (by decide +kernel) ?_
          refine lv_istore_n hx hb dc_Pf_hasColumns_40 rfl hl (by decide) rfl (fun ls hl => ?_)
          have hl : lv_has ls 5 [(2, .int 0), (1, .int x2), (0, .ref p0)] := hl
          refine lv_iconst (v := 0) hx hb dc_Pf_hasColumns_41 (by decide +kernel) ?_
          refine lv_istore_n hx hb dc_Pf_hasColumns_42 rfl hl (by decide) rfl (fun ls hl => ?_)
          have hl : lv_has ls 5 [(3, .int 0), (2, .int 0), (1, .int x2), (0, .ref p0)] := hl
          exact hL43 F x2 0 0 ls _ _ hm (lv_sub hl [3, 2, 1, 0] rfl) hP hD hS
        · have hm := bs_neg h34 hm
          refine lv_iconst (v := 0) hx hb dc_Pf_hasColumns_37 (by decide +kernel) ?_
          clear hL43
          cases hm
          subst hQ
          exact bs_retZ hx hb hr hlk (by decide +kernel) () rfl hP hD hS dc_Pf_hasColumns_38
