set_option maxHeartbeats 2000000 in
set_option maxRecDepth 100000 in
theorem ct_Mo_block (l : Launch) (D : va_G) (F : Nat) (t : Nat) (t_registers : Nat) (t_column : Nat) (t_times : Nat) (t_values : Nat) (t_bytes : Nat) (t_line : Nat) (t_reply : Nat) (t_latest : Nat) (t_made : Nat) (t_registers_c : ClassId) (t_column_c : ClassId) (t_times_c : ClassId) (t_values_c : ClassId) (t_bytes_c : ClassId) (t_line_c : ClassId) (t_reply_c : ClassId) (t_latest_c : ClassId) (t_made_c : ClassId) (t_secret : Int32) (t_thrown : Int32) (t_time : Int32) (t_capacity : Int32) (t_period : Int32) (t_columns : Int32) (t_entries : Int32) (t_connected : Int32) (t_expected : Int32) (t_next : Int32) (t_association : Int32) (t_size : Int32) (t_sent : Int32) (t_count : Int32) (t_told : Int32) (t_latestSize : Int32) (t_many : Int32) (t_askS : Int32) (t_askR : Int32) (t_registers_f : Nat → Int32) (t_column_f : Nat → Int32) (t_times_f : Nat → Int32) (t_values_f : Nat → Int32) (t_bytes_f : Nat → Int32) (t_line_f : Nat → Int32) (t_reply_f : Nat → Int32) (t_latest_f : Nat → Int32) (t_made_f : Nat → Int32) (i1 : Int32) (r : Int32 × Int32 × Int32 × (Nat → Int32)) (hm : mm_Mo_block F i1 t_size t_sent t_many t_bytes_f t_made_f = some r) :
    bs_CV l my_Mo_block mb_Mo_block 5 (bs_rm 2) D [.ref t, .int i1] [(t_registers_c, .int), (t_column_c, .int), (t_times_c, .int), (t_values_c, .int), (t_bytes_c, .int), (t_line_c, .int), (t_reply_c, .int), (t_latest_c, .int), (t_made_c, .int)] [(t, .inr (6, [.int t_secret, .int t_thrown, .int t_time, .ref t_registers, .int t_capacity, .int t_period, .int t_columns, .ref t_column, .int t_entries, .ref t_times, .ref t_values, .int t_connected, .int t_expected, .int t_next, .int t_association, .ref t_bytes, .int t_size, .int t_sent, .ref t_line, .int t_count, .ref t_reply, .int t_told, .ref t_latest, .int t_latestSize, .ref t_made, .int t_many, .int t_askS, .int t_askR])), (t_registers, .inl (t_registers_c, 4, .inl t_registers_f)), (t_column, .inl (t_column_c, 3, .inl t_column_f)), (t_times, .inl (t_times_c, 13, .inl t_times_f)), (t_values, .inl (t_values_c, 39, .inl t_values_f)), (t_bytes, .inl (t_bytes_c, 280, .inl t_bytes_f)), (t_line, .inl (t_line_c, 80, .inl t_line_f)), (t_reply, .inl (t_reply_c, 80, .inl t_reply_f)), (t_latest, .inl (t_latest_c, 80, .inl t_latest_f)), (t_made, .inl (t_made_c, 300, .inl t_made_f))] (S := Unit) (fun (_ : Unit) => True) (fun _ => [(t, .inr (6, [.int t_secret, .int t_thrown, .int t_time, .ref t_registers, .int t_capacity, .int t_period, .int t_columns, .ref t_column, .int t_entries, .ref t_times, .ref t_values, .int t_connected, .int t_expected, .int t_next, .int t_association, .ref t_bytes, .int r.1, .int r.2.1, .ref t_line, .int t_count, .ref t_reply, .int t_told, .ref t_latest, .int t_latestSize, .ref t_made, .int r.2.2.1, .int t_askS, .int t_askR])), (t_registers, .inl (t_registers_c, 4, .inl t_registers_f)), (t_column, .inl (t_column_c, 3, .inl t_column_f)), (t_times, .inl (t_times_c, 13, .inl t_times_f)), (t_values, .inl (t_values_c, 39, .inl t_values_f)), (t_bytes, .inl (t_bytes_c, 280, .inl t_bytes_f)), (t_line, .inl (t_line_c, 80, .inl t_line_f)), (t_reply, .inl (t_reply_c, 80, .inl t_reply_f)), (t_latest, .inl (t_latest_c, 80, .inl t_latest_f)), (t_made, .inl (t_made_c, 300, .inl r.2.2.2))]) := by
  refine bs_CV.mk (by decide +kernel) (bs_ler rfl) ?_
  intro p e s m below meth c ls A hx hb hr hml hlk hown hB hN hP hK hD hS hA hl
  refine bs_genQ (fun Q hQ => ?_)
  have hL68 : ∀ (k : Nat) (v1 : Int32) (v3 : Int32) (v4 : Int32) (t_size : Int32) (t_sent : Int32) (t_many : Int32) (t_made_f : Nat → Int32) (ls : Array Slot) (H : Heap) (locs : List Loc), mm_Mo_block_L68 F k v1 v3 v4 t_size t_sent t_many t_bytes_f t_made_f = some r → lv_has ls 5 [(0, .ref t), (1, .int v1), (3, .int v3), (4, .int v4)] → va_P D bs_cl [(t, .inr (6, [.int t_secret, .int t_thrown, .int t_time, .ref t_registers, .int t_capacity, .int t_period, .int t_columns, .ref t_column, .int t_entries, .ref t_times, .ref t_values, .int t_connected, .int t_expected, .int t_next, .int t_association, .ref t_bytes, .int t_size, .int t_sent, .ref t_line, .int t_count, .ref t_reply, .int t_told, .ref t_latest, .int t_latestSize, .ref t_made, .int t_many, .int t_askS, .int t_askR])), (t_registers, .inl (t_registers_c, 4, .inl t_registers_f)), (t_column, .inl (t_column_c, 3, .inl t_column_f)), (t_times, .inl (t_times_c, 13, .inl t_times_f)), (t_values, .inl (t_values_c, 39, .inl t_values_f)), (t_bytes, .inl (t_bytes_c, 280, .inl t_bytes_f)), (t_line, .inl (t_line_c, 80, .inl t_line_f)), (t_reply, .inl (t_reply_c, 80, .inl t_reply_f)), (t_latest, .inl (t_latest_c, 80, .inl t_latest_f)), (t_made, .inl (t_made_c, 300, .inl t_made_f))] H → va_D A [(t, .inr (6, [.int t_secret, .int t_thrown, .int t_time, .ref t_registers, .int t_capacity, .int t_period, .int t_columns, .ref t_column, .int t_entries, .ref t_times, .ref t_values, .int t_connected, .int t_expected, .int t_next, .int t_association, .ref t_bytes, .int t_size, .int t_sent, .ref t_line, .int t_count, .ref t_reply, .int t_told, .ref t_latest, .int t_latestSize, .ref t_made, .int t_many, .int t_askS, .int t_askR])), (t_registers, .inl (t_registers_c, 4, .inl t_registers_f)), (t_column, .inl (t_column_c, 3, .inl t_column_f)), (t_times, .inl (t_times_c, 13, .inl t_times_f)), (t_values, .inl (t_values_c, 39, .inl t_values_f)), (t_bytes, .inl (t_bytes_c, 280, .inl t_bytes_f)), (t_line, .inl (t_line_c, 80, .inl t_line_f)), (t_reply, .inl (t_reply_c, 80, .inl t_reply_f)), (t_latest, .inl (t_latest_c, 80, .inl t_latest_f)), (t_made, .inl (t_made_c, 300, .inl t_made_f))] → va_S A s.heap H locs → W p l e (bs_rm 2) s m [.ref t, .int i1].toArray below meth c H locs 0 0 Q (F0 m 68 ls []) := by
    intro k
    induction k with
    | zero => intro v1 v3 v4 t_size t_sent t_many t_made_f ls H locs hm hl hP hD hS; exact (bs_no hm).elim
    | succ k ih =>
      intro v1 v3 v4 t_size t_sent t_many t_made_f ls H locs hm hl hP hD hS
      have hm := (mq_Mo_block_L68 F k v1 v3 v4 t_size t_sent t_many t_bytes_f t_made_f).symm.trans hm
      refine lv_iload hx hb dc_Mo_block_68 (lv_at hl 3 rfl) ?_
      refine lv_iload_n hx hb dc_Mo_block_70 rfl (lv_at hl 2 rfl) ?_
      refine lv_icmp_ge (tgt := 91) hx hb dc_Mo_block_71 (by decide) (fun h71 => ?_) (fun h71 => ?_)
      · have hm := bs_pos h71 hm
        refine lv_aload_n hx hb dc_Mo_block_91 rfl (lv_at hl 0 rfl) ?_
        refine lv_iload_n hx hb dc_Mo_block_92 rfl (lv_at hl 2 rfl) ?_
        refine lv_iload_n hx hb dc_Mo_block_93 rfl (lv_at hl 1 rfl) ?_
        refine lv_icmp_ne (tgt := 101) hx hb dc_Mo_block_94 (by decide) (fun h94 => ?_) (fun h94 => ?_)
        · have hm := bs_neg h94 hm
          refine lv_iload_n hx hb dc_Mo_block_101 rfl (lv_at hl 1 rfl) ?_
          refine va_put (ci := 6) (v := .int v1) (ty := .int) (C := cn_Mo) (T := cf_Mo) (N := 28) hx hb hB ki_Mo ct_Mo cp_Mo cd_Mo hown hK hP hD hS 0 rfl rfl 16 (by decide) (hB _ kw_fl_Mo_122) (fun _ h => h) rfl (by decide +kernel) rfl rfl (bs_ltr rfl) dc_Mo_block_102 (fun H locs hP hD hS => ?_)
          obtain ⟨hP, hD⟩ := bs_say [(t, .inr (6, [.int t_secret, .int t_thrown, .int t_time, .ref t_registers, .int t_capacity, .int t_period, .int t_columns, .ref t_column, .int t_entries, .ref t_times, .ref t_values, .int t_connected, .int t_expected, .int t_next, .int t_association, .ref t_bytes, .int v1, .int t_sent, .ref t_line, .int t_count, .ref t_reply, .int t_told, .ref t_latest, .int t_latestSize, .ref t_made, .int t_many, .int t_askS, .int t_askR])), (t_registers, .inl (t_registers_c, 4, .inl t_registers_f)), (t_column, .inl (t_column_c, 3, .inl t_column_f)), (t_times, .inl (t_times_c, 13, .inl t_times_f)), (t_values, .inl (t_values_c, 39, .inl t_values_f)), (t_bytes, .inl (t_bytes_c, 280, .inl t_bytes_f)), (t_line, .inl (t_line_c, 80, .inl t_line_f)), (t_reply, .inl (t_reply_c, 80, .inl t_reply_f)), (t_latest, .inl (t_latest_c, 80, .inl t_latest_f)), (t_made, .inl (t_made_c, 300, .inl t_made_f))] hP hD
          clear ih
          cases hm
          subst hQ
          exact bs_retV hx hb hr hlk () trivial hP hD hS dc_Mo_block_105
        · have hm := bs_pos h94 hm
          refine lv_iconst (v := 0) hx hb dc_Mo_block_97 (by decide +kernel) ?_
          refine lv_goto (tgt := 102) hx hb dc_Mo_block_98 (by decide) ?_
          refine va_put (ci := 6) (v := .int 0) (ty := .int) (C := cn_Mo) (T := cf_Mo) (N := 28) hx hb hB ki_Mo ct_Mo cp_Mo cd_Mo hown hK hP hD hS 0 rfl rfl 16 (by decide) (hB _ kw_fl_Mo_122) (fun _ h => h) rfl (by decide +kernel) rfl rfl (bs_ltr rfl) dc_Mo_block_102 (fun H locs hP hD hS => ?_)
          obtain ⟨hP, hD⟩ := bs_say [(t, .inr (6, [.int t_secret, .int t_thrown, .int t_time, .ref t_registers, .int t_capacity, .int t_period, .int t_columns, .ref t_column, .int t_entries, .ref t_times, .ref t_values, .int t_connected, .int t_expected, .int t_next, .int t_association, .ref t_bytes, .int 0, .int t_sent, .ref t_line, .int t_count, .ref t_reply, .int t_told, .ref t_latest, .int t_latestSize, .ref t_made, .int t_many, .int t_askS, .int t_askR])), (t_registers, .inl (t_registers_c, 4, .inl t_registers_f)), (t_column, .inl (t_column_c, 3, .inl t_column_f)), (t_times, .inl (t_times_c, 13, .inl t_times_f)), (t_values, .inl (t_values_c, 39, .inl t_values_f)), (t_bytes, .inl (t_bytes_c, 280, .inl t_bytes_f)), (t_line, .inl (t_line_c, 80, .inl t_line_f)), (t_reply, .inl (t_reply_c, 80, .inl t_reply_f)), (t_latest, .inl (t_latest_c, 80, .inl t_latest_f)), (t_made, .inl (t_made_c, 300, .inl t_made_f))] hP hD
          clear ih
          cases hm
          subst hQ
          exact bs_retV hx hb hr hlk () trivial hP hD hS dc_Mo_block_105
      · have hm := bs_neg h71 hm
        refine lv_aload_n hx hb dc_Mo_block_74 rfl (lv_at hl 0 rfl) ?_
        refine lv_aload_n hx hb dc_Mo_block_75 rfl (lv_at hl 0 rfl) ?_
        refine va_get (ci := 6) (v := .ref t_bytes) (C := cn_Mo) (T := cf_Mo) (N := 28) hx hb hB ki_Mo hown hK hP 0 rfl rfl 15 (by decide) (hB _ kw_fl_Mo_26) (fun _ h => h) rfl dc_Mo_block_76 ?_
        refine lv_iload hx hb dc_Mo_block_79 (lv_at hl 3 rfl) ?_
        obtain ⟨hz81, hm⟩ := bs_nn hm
        refine va_iald hx hb hK hP 5 4 rfl rfl hz81 dc_Mo_block_81 ?_
        obtain ⟨x82, hx82, hm⟩ := bs_bind hm
        refine bs_callVv 1 [] (fun _ => [(t, .inr (6, [.int t_secret, .int t_thrown, .int t_time, .ref t_registers, .int t_capacity, .int t_period, .int t_columns, .ref t_column, .int t_entries, .ref t_times, .ref t_values, .int t_connected, .int t_expected, .int t_next, .int t_association, .ref t_bytes, .int t_size, .int t_sent, .ref t_line, .int t_count, .ref t_reply, .int t_told, .ref t_latest, .int t_latestSize, .ref t_made, .int x82.1, .int t_askS, .int t_askR])), (t_registers, .inl (t_registers_c, 4, .inl t_registers_f)), (t_column, .inl (t_column_c, 3, .inl t_column_f)), (t_times, .inl (t_times_c, 13, .inl t_times_f)), (t_values, .inl (t_values_c, 39, .inl t_values_f)), (t_bytes, .inl (t_bytes_c, 280, .inl t_bytes_f)), (t_line, .inl (t_line_c, 80, .inl t_line_f)), (t_reply, .inl (t_reply_c, 80, .inl t_reply_f)), (t_latest, .inl (t_latest_c, 80, .inl t_latest_f)), (t_made, .inl (t_made_c, 300, .inl x82.2))]) [] hx hb hml hown hB hN hK hP hD hS hA (ct_Mo_emit l D F t t_registers t_column t_times t_values t_bytes t_line t_reply t_latest t_made t_registers_c t_column_c t_times_c t_values_c t_bytes_c t_line_c t_reply_c t_latest_c t_made_c t_secret t_thrown t_time t_capacity t_period t_columns t_entries t_connected t_expected t_next t_association t_size t_sent t_count t_told t_latestSize t_many t_askS t_askR t_registers_f t_column_f t_times_f t_values_f t_bytes_f t_line_f t_reply_f t_latest_f t_made_f (t_bytes_f v4.toNatClampNeg) x82 hx82) kw_cd_Mo_emit kw_ml_Mo_142 kw_im_Mo_emit kw_se_Mo_emit kw_in_Mo kd_Mo_emit (by decide) ⟨_, _, _, rfl, rfl, rfl⟩ [0, 1, 2, 3, 4, 5, 6, 7, 8, 9] [] rfl rfl (by decide) [0, 1, 2, 3, 4, 5, 6, 7, 8] rfl [0, 1, 2, 3, 4, 5, 6, 7, 8, 9] (by decide) (fun _ => rfl) rfl hl.1 (bs_ler rfl) (by decide) dc_Mo_block_82 rfl (fun _ H locs hq82 hP hD hS => ?_)
        refine lv_iinc (k := 3) (v := v4 + 1) hx hb dc_Mo_block_85 hl rfl (bs_inc1 _) (by decide) rfl (fun ls hl => ?_)
        have hl : lv_has ls 5 [(4, .int (v4 + 1)), (0, .ref t), (1, .int v1), (3, .int v3)] := hl
        refine lv_goto (tgt := 68) hx hb dc_Mo_block_88 (by decide) ?_
        exact ih v1 v3 (v4 + 1) t_size t_sent x82.1 x82.2 ls _ _ hm (lv_sub hl [1, 2, 3, 0] rfl) hP hD hS
  have hJ24 : ∀ (v1 : Int32) (v2 : Int32) (s0 : Int32) (t_size : Int32) (t_sent : Int32) (t_many : Int32) (t_made_f : Nat → Int32) (ls : Array Slot) (H : Heap) (locs : List Loc), mm_Mo_block_J24 F v1 v2 s0 t_size t_sent t_many t_bytes_f t_made_f = some r → lv_has ls 5 [(0, .ref t), (1, .int v1), (2, .int v2)] → va_P D bs_cl [(t, .inr (6, [.int t_secret, .int t_thrown, .int t_time, .ref t_registers, .int t_capacity, .int t_period, .int t_columns, .ref t_column, .int t_entries, .ref t_times, .ref t_values, .int t_connected, .int t_expected, .int t_next, .int t_association, .ref t_bytes, .int t_size, .int t_sent, .ref t_line, .int t_count, .ref t_reply, .int t_told, .ref t_latest, .int t_latestSize, .ref t_made, .int t_many, .int t_askS, .int t_askR])), (t_registers, .inl (t_registers_c, 4, .inl t_registers_f)), (t_column, .inl (t_column_c, 3, .inl t_column_f)), (t_times, .inl (t_times_c, 13, .inl t_times_f)), (t_values, .inl (t_values_c, 39, .inl t_values_f)), (t_bytes, .inl (t_bytes_c, 280, .inl t_bytes_f)), (t_line, .inl (t_line_c, 80, .inl t_line_f)), (t_reply, .inl (t_reply_c, 80, .inl t_reply_f)), (t_latest, .inl (t_latest_c, 80, .inl t_latest_f)), (t_made, .inl (t_made_c, 300, .inl t_made_f))] H → va_D A [(t, .inr (6, [.int t_secret, .int t_thrown, .int t_time, .ref t_registers, .int t_capacity, .int t_period, .int t_columns, .ref t_column, .int t_entries, .ref t_times, .ref t_values, .int t_connected, .int t_expected, .int t_next, .int t_association, .ref t_bytes, .int t_size, .int t_sent, .ref t_line, .int t_count, .ref t_reply, .int t_told, .ref t_latest, .int t_latestSize, .ref t_made, .int t_many, .int t_askS, .int t_askR])), (t_registers, .inl (t_registers_c, 4, .inl t_registers_f)), (t_column, .inl (t_column_c, 3, .inl t_column_f)), (t_times, .inl (t_times_c, 13, .inl t_times_f)), (t_values, .inl (t_values_c, 39, .inl t_values_f)), (t_bytes, .inl (t_bytes_c, 280, .inl t_bytes_f)), (t_line, .inl (t_line_c, 80, .inl t_line_f)), (t_reply, .inl (t_reply_c, 80, .inl t_reply_f)), (t_latest, .inl (t_latest_c, 80, .inl t_latest_f)), (t_made, .inl (t_made_c, 300, .inl t_made_f))] → va_S A s.heap H locs → W p l e (bs_rm 2) s m [.ref t, .int i1].toArray below meth c H locs 0 0 Q (F0 m 24 ls [.int s0]) := by
    intro v1 v2 s0 t_size t_sent t_many t_made_f ls H locs hm hl hP hD hS
    have hm := (mq_Mo_block_J24 F v1 v2 s0 t_size t_sent t_many t_bytes_f t_made_f).symm.trans hm
    refine lv_istore_n hx hb dc_Mo_block_24 rfl hl (by decide) rfl (fun ls hl => ?_)
    have hl : lv_has ls 5 [(3, .int s0), (0, .ref t), (1, .int v1), (2, .int v2)] := hl
    refine lv_aload_n hx hb dc_Mo_block_25 rfl (lv_at hl 1 rfl) ?_
    refine lv_dup hx hb dc_Mo_block_26 rfl ?_
    refine va_get (ci := 6) (v := .int t_sent) (C := cn_Mo) (T := cf_Mo) (N := 28) hx hb hB ki_Mo hown hK hP 0 rfl rfl 17 (by decide) (hB _ kw_fl_Mo_166) (fun _ h => h) rfl dc_Mo_block_27 ?_
    refine lv_iconst (v := 1) hx hb dc_Mo_block_30 (by decide +kernel) ?_
    refine lv_iadd hx hb dc_Mo_block_31 ?_
    refine va_put (ci := 6) (v := .int (t_sent + 1)) (ty := .int) (C := cn_Mo) (T := cf_Mo) (N := 28) hx hb hB ki_Mo ct_Mo cp_Mo cd_Mo hown hK hP hD hS 0 rfl rfl 17 (by decide) (hB _ kw_fl_Mo_166) (fun _ h => h) rfl (by decide +kernel) rfl rfl (bs_ltr rfl) dc_Mo_block_32 (fun H locs hP hD hS => ?_)
    obtain ⟨hP, hD⟩ := bs_say [(t, .inr (6, [.int t_secret, .int t_thrown, .int t_time, .ref t_registers, .int t_capacity, .int t_period, .int t_columns, .ref t_column, .int t_entries, .ref t_times, .ref t_values, .int t_connected, .int t_expected, .int t_next, .int t_association, .ref t_bytes, .int t_size, .int (t_sent + 1), .ref t_line, .int t_count, .ref t_reply, .int t_told, .ref t_latest, .int t_latestSize, .ref t_made, .int t_many, .int t_askS, .int t_askR])), (t_registers, .inl (t_registers_c, 4, .inl t_registers_f)), (t_column, .inl (t_column_c, 3, .inl t_column_f)), (t_times, .inl (t_times_c, 13, .inl t_times_f)), (t_values, .inl (t_values_c, 39, .inl t_values_f)), (t_bytes, .inl (t_bytes_c, 280, .inl t_bytes_f)), (t_line, .inl (t_line_c, 80, .inl t_line_f)), (t_reply, .inl (t_reply_c, 80, .inl t_reply_f)), (t_latest, .inl (t_latest_c, 80, .inl t_latest_f)), (t_made, .inl (t_made_c, 300, .inl t_made_f))] hP hD
    refine lv_aload_n hx hb dc_Mo_block_35 rfl (lv_at hl 1 rfl) ?_
    refine lv_sipush (v := 196) hx hb dc_Mo_block_36 (by decide +kernel) ?_
    refine lv_iconst (v := 2) hx hb dc_Mo_block_39 (by decide +kernel) ?_
    obtain ⟨x40, hx40, hm⟩ := bs_bind hm
    refine bs_callVv 2 [] (fun _ => [(t, .inr (6, [.int t_secret, .int t_thrown, .int t_time, .ref t_registers, .int t_capacity, .int t_period, .int t_columns, .ref t_column, .int t_entries, .ref t_times, .ref t_values, .int t_connected, .int t_expected, .int t_next, .int t_association, .ref t_bytes, .int t_size, .int (t_sent + 1), .ref t_line, .int t_count, .ref t_reply, .int t_told, .ref t_latest, .int t_latestSize, .ref t_made, .int x40.1, .int t_askS, .int t_askR])), (t_registers, .inl (t_registers_c, 4, .inl t_registers_f)), (t_column, .inl (t_column_c, 3, .inl t_column_f)), (t_times, .inl (t_times_c, 13, .inl t_times_f)), (t_values, .inl (t_values_c, 39, .inl t_values_f)), (t_bytes, .inl (t_bytes_c, 280, .inl t_bytes_f)), (t_line, .inl (t_line_c, 80, .inl t_line_f)), (t_reply, .inl (t_reply_c, 80, .inl t_reply_f)), (t_latest, .inl (t_latest_c, 80, .inl t_latest_f)), (t_made, .inl (t_made_c, 300, .inl x40.2))]) [] hx hb hml hown hB hN hK hP hD hS hA (ct_Mo_say l D F t t_registers t_column t_times t_values t_bytes t_line t_reply t_latest t_made t_registers_c t_column_c t_times_c t_values_c t_bytes_c t_line_c t_reply_c t_latest_c t_made_c t_secret t_thrown t_time t_capacity t_period t_columns t_entries t_connected t_expected t_next t_association t_size (t_sent + 1) t_count t_told t_latestSize t_many t_askS t_askR t_registers_f t_column_f t_times_f t_values_f t_bytes_f t_line_f t_reply_f t_latest_f t_made_f 196 2 x40 hx40) kw_cd_Mo_say kw_ml_Mo_148 kw_im_Mo_say kw_se_Mo_say kw_in_Mo kd_Mo_say (by decide) ⟨_, _, _, rfl, rfl, rfl⟩ [0, 1, 2, 3, 4, 5, 6, 7, 8, 9] [] rfl rfl (by decide) [0, 1, 2, 3, 4, 5, 6, 7, 8] rfl [0, 1, 2, 3, 4, 5, 6, 7, 8, 9] (by decide) (fun _ => rfl) rfl hl.1 (bs_ler rfl) (by decide) dc_Mo_block_40 rfl (fun _ H locs hq40 hP hD hS => ?_)
    refine lv_aload_n hx hb dc_Mo_block_43 rfl (lv_at hl 1 rfl) ?_
    refine lv_iload_n hx hb dc_Mo_block_44 rfl (lv_at hl 0 rfl) ?_
    refine lv_iload_n hx hb dc_Mo_block_45 rfl (lv_at hl 2 rfl) ?_
    refine lv_icmp_ne (tgt := 53) hx hb dc_Mo_block_46 (by decide) (fun h46 => ?_) (fun h46 => ?_)
    · have hm := bs_neg h46 hm
      refine lv_iconst (v := 0) hx hb dc_Mo_block_53 (by decide +kernel) ?_
      obtain ⟨x54, hx54, hm⟩ := bs_bind hm
      refine bs_callVv 1 [] (fun _ => [(t, .inr (6, [.int t_secret, .int t_thrown, .int t_time, .ref t_registers, .int t_capacity, .int t_period, .int t_columns, .ref t_column, .int t_entries, .ref t_times, .ref t_values, .int t_connected, .int t_expected, .int t_next, .int t_association, .ref t_bytes, .int t_size, .int (t_sent + 1), .ref t_line, .int t_count, .ref t_reply, .int t_told, .ref t_latest, .int t_latestSize, .ref t_made, .int x54.1, .int t_askS, .int t_askR])), (t_registers, .inl (t_registers_c, 4, .inl t_registers_f)), (t_column, .inl (t_column_c, 3, .inl t_column_f)), (t_times, .inl (t_times_c, 13, .inl t_times_f)), (t_values, .inl (t_values_c, 39, .inl t_values_f)), (t_bytes, .inl (t_bytes_c, 280, .inl t_bytes_f)), (t_line, .inl (t_line_c, 80, .inl t_line_f)), (t_reply, .inl (t_reply_c, 80, .inl t_reply_f)), (t_latest, .inl (t_latest_c, 80, .inl t_latest_f)), (t_made, .inl (t_made_c, 300, .inl x54.2))]) [] hx hb hml hown hB hN hK hP hD hS hA (ct_Mo_emit l D F t t_registers t_column t_times t_values t_bytes t_line t_reply t_latest t_made t_registers_c t_column_c t_times_c t_values_c t_bytes_c t_line_c t_reply_c t_latest_c t_made_c t_secret t_thrown t_time t_capacity t_period t_columns t_entries t_connected t_expected t_next t_association t_size (t_sent + 1) t_count t_told t_latestSize x40.1 t_askS t_askR t_registers_f t_column_f t_times_f t_values_f t_bytes_f t_line_f t_reply_f t_latest_f x40.2 0 x54 hx54) kw_cd_Mo_emit kw_ml_Mo_142 kw_im_Mo_emit kw_se_Mo_emit kw_in_Mo kd_Mo_emit (by decide) ⟨_, _, _, rfl, rfl, rfl⟩ [0, 1, 2, 3, 4, 5, 6, 7, 8, 9] [] rfl rfl (by decide) [0, 1, 2, 3, 4, 5, 6, 7, 8] rfl [0, 1, 2, 3, 4, 5, 6, 7, 8, 9] (by decide) (fun _ => rfl) rfl hl.1 (bs_ler rfl) (by decide) dc_Mo_block_54 rfl (fun _ H locs hq54 hP hD hS => ?_)
      refine lv_aload_n hx hb dc_Mo_block_57 rfl (lv_at hl 1 rfl) ?_
      refine lv_aload_n hx hb dc_Mo_block_58 rfl (lv_at hl 1 rfl) ?_
      refine va_get (ci := 6) (v := .int (t_sent + 1)) (C := cn_Mo) (T := cf_Mo) (N := 28) hx hb hB ki_Mo hown hK hP 0 rfl rfl 17 (by decide) (hB _ kw_fl_Mo_166) (fun _ h => h) rfl dc_Mo_block_59 ?_
      obtain ⟨x62, hx62, hm⟩ := bs_bind hm
      refine bs_callVv 1 [] (fun _ => [(t, .inr (6, [.int t_secret, .int t_thrown, .int t_time, .ref t_registers, .int t_capacity, .int t_period, .int t_columns, .ref t_column, .int t_entries, .ref t_times, .ref t_values, .int t_connected, .int t_expected, .int t_next, .int t_association, .ref t_bytes, .int t_size, .int (t_sent + 1), .ref t_line, .int t_count, .ref t_reply, .int t_told, .ref t_latest, .int t_latestSize, .ref t_made, .int x62.1, .int t_askS, .int t_askR])), (t_registers, .inl (t_registers_c, 4, .inl t_registers_f)), (t_column, .inl (t_column_c, 3, .inl t_column_f)), (t_times, .inl (t_times_c, 13, .inl t_times_f)), (t_values, .inl (t_values_c, 39, .inl t_values_f)), (t_bytes, .inl (t_bytes_c, 280, .inl t_bytes_f)), (t_line, .inl (t_line_c, 80, .inl t_line_f)), (t_reply, .inl (t_reply_c, 80, .inl t_reply_f)), (t_latest, .inl (t_latest_c, 80, .inl t_latest_f)), (t_made, .inl (t_made_c, 300, .inl x62.2))]) [] hx hb hml hown hB hN hK hP hD hS hA (ct_Mo_emit l D F t t_registers t_column t_times t_values t_bytes t_line t_reply t_latest t_made t_registers_c t_column_c t_times_c t_values_c t_bytes_c t_line_c t_reply_c t_latest_c t_made_c t_secret t_thrown t_time t_capacity t_period t_columns t_entries t_connected t_expected t_next t_association t_size (t_sent + 1) t_count t_told t_latestSize x54.1 t_askS t_askR t_registers_f t_column_f t_times_f t_values_f t_bytes_f t_line_f t_reply_f t_latest_f x54.2 (t_sent + 1) x62 hx62) kw_cd_Mo_emit kw_ml_Mo_142 kw_im_Mo_emit kw_se_Mo_emit kw_in_Mo kd_Mo_emit (by decide) ⟨_, _, _, rfl, rfl, rfl⟩ [0, 1, 2, 3, 4, 5, 6, 7, 8, 9] [] rfl rfl (by decide) [0, 1, 2, 3, 4, 5, 6, 7, 8] rfl [0, 1, 2, 3, 4, 5, 6, 7, 8, 9] (by decide) (fun _ => rfl) rfl hl.1 (bs_ler rfl) (by decide) dc_Mo_block_62 rfl (fun _ H locs hq62 hP hD hS => ?_)
      refine lv_iload_n hx hb dc_Mo_block_65 rfl (lv_at hl 3 rfl) ?_
      refine lv_istore hx hb dc_Mo_block_66 hl (by decide) rfl (fun ls hl => ?_)
      have hl : lv_has ls 5 [(4, .int v2), (3, .int s0), (0, .ref t), (1, .int v1), (2, .int v2)] := hl
      exact hL68 F v1 s0 v2 t_size (t_sent + 1) x62.1 x62.2 ls _ _ hm (lv_sub hl [2, 3, 1, 0] rfl) hP hD hS
    · have hm := bs_pos h46 hm
      refine lv_iconst (v := 1) hx hb dc_Mo_block_49 (by decide +kernel) ?_
      refine lv_goto (tgt := 54) hx hb dc_Mo_block_50 (by decide) ?_
      obtain ⟨x54, hx54, hm⟩ := bs_bind hm
      refine bs_callVv 1 [] (fun _ => [(t, .inr (6, [.int t_secret, .int t_thrown, .int t_time, .ref t_registers, .int t_capacity, .int t_period, .int t_columns, .ref t_column, .int t_entries, .ref t_times, .ref t_values, .int t_connected, .int t_expected, .int t_next, .int t_association, .ref t_bytes, .int t_size, .int (t_sent + 1), .ref t_line, .int t_count, .ref t_reply, .int t_told, .ref t_latest, .int t_latestSize, .ref t_made, .int x54.1, .int t_askS, .int t_askR])), (t_registers, .inl (t_registers_c, 4, .inl t_registers_f)), (t_column, .inl (t_column_c, 3, .inl t_column_f)), (t_times, .inl (t_times_c, 13, .inl t_times_f)), (t_values, .inl (t_values_c, 39, .inl t_values_f)), (t_bytes, .inl (t_bytes_c, 280, .inl t_bytes_f)), (t_line, .inl (t_line_c, 80, .inl t_line_f)), (t_reply, .inl (t_reply_c, 80, .inl t_reply_f)), (t_latest, .inl (t_latest_c, 80, .inl t_latest_f)), (t_made, .inl (t_made_c, 300, .inl x54.2))]) [] hx hb hml hown hB hN hK hP hD hS hA (ct_Mo_emit l D F t t_registers t_column t_times t_values t_bytes t_line t_reply t_latest t_made t_registers_c t_column_c t_times_c t_values_c t_bytes_c t_line_c t_reply_c t_latest_c t_made_c t_secret t_thrown t_time t_capacity t_period t_columns t_entries t_connected t_expected t_next t_association t_size (t_sent + 1) t_count t_told t_latestSize x40.1 t_askS t_askR t_registers_f t_column_f t_times_f t_values_f t_bytes_f t_line_f t_reply_f t_latest_f x40.2 1 x54 hx54) kw_cd_Mo_emit kw_ml_Mo_142 kw_im_Mo_emit kw_se_Mo_emit kw_in_Mo kd_Mo_emit (by decide) ⟨_, _, _, rfl, rfl, rfl⟩ [0, 1, 2, 3, 4, 5, 6, 7, 8, 9] [] rfl rfl (by decide) [0, 1, 2, 3, 4, 5, 6, 7, 8] rfl [0, 1, 2, 3, 4, 5, 6, 7, 8, 9] (by decide) (fun _ => rfl) rfl hl.1 (bs_ler rfl) (by decide) dc_Mo_block_54 rfl (fun _ H locs hq54 hP hD hS => ?_)
      refine lv_aload_n hx hb dc_Mo_block_57 rfl (lv_at hl 1 rfl) ?_
      refine lv_aload_n hx hb dc_Mo_block_58 rfl (lv_at hl 1 rfl) ?_
      refine va_get (ci := 6) (v := .int (t_sent + 1)) (C := cn_Mo) (T := cf_Mo) (N := 28) hx hb hB ki_Mo hown hK hP 0 rfl rfl 17 (by decide) (hB _ kw_fl_Mo_166) (fun _ h => h) rfl dc_Mo_block_59 ?_
      obtain ⟨x62, hx62, hm⟩ := bs_bind hm
      refine bs_callVv 1 [] (fun _ => [(t, .inr (6, [.int t_secret, .int t_thrown, .int t_time, .ref t_registers, .int t_capacity, .int t_period, .int t_columns, .ref t_column, .int t_entries, .ref t_times, .ref t_values, .int t_connected, .int t_expected, .int t_next, .int t_association, .ref t_bytes, .int t_size, .int (t_sent + 1), .ref t_line, .int t_count, .ref t_reply, .int t_told, .ref t_latest, .int t_latestSize, .ref t_made, .int x62.1, .int t_askS, .int t_askR])), (t_registers, .inl (t_registers_c, 4, .inl t_registers_f)), (t_column, .inl (t_column_c, 3, .inl t_column_f)), (t_times, .inl (t_times_c, 13, .inl t_times_f)), (t_values, .inl (t_values_c, 39, .inl t_values_f)), (t_bytes, .inl (t_bytes_c, 280, .inl t_bytes_f)), (t_line, .inl (t_line_c, 80, .inl t_line_f)), (t_reply, .inl (t_reply_c, 80, .inl t_reply_f)), (t_latest, .inl (t_latest_c, 80, .inl t_latest_f)), (t_made, .inl (t_made_c, 300, .inl x62.2))]) [] hx hb hml hown hB hN hK hP hD hS hA (ct_Mo_emit l D F t t_registers t_column t_times t_values t_bytes t_line t_reply t_latest t_made t_registers_c t_column_c t_times_c t_values_c t_bytes_c t_line_c t_reply_c t_latest_c t_made_c t_secret t_thrown t_time t_capacity t_period t_columns t_entries t_connected t_expected t_next t_association t_size (t_sent + 1) t_count t_told t_latestSize x54.1 t_askS t_askR t_registers_f t_column_f t_times_f t_values_f t_bytes_f t_line_f t_reply_f t_latest_f x54.2 (t_sent + 1) x62 hx62) kw_cd_Mo_emit kw_ml_Mo_142 kw_im_Mo_emit kw_se_Mo_emit kw_in_Mo kd_Mo_emit (by decide) ⟨_, _, _, rfl, rfl, rfl⟩ [0, 1, 2, 3, 4, 5, 6, 7, 8, 9] [] rfl rfl (by decide) [0, 1, 2, 3, 4, 5, 6, 7, 8] rfl [0, 1, 2, 3, 4, 5, 6, 7, 8, 9] (by decide) (fun _ => rfl) rfl hl.1 (bs_ler rfl) (by decide) dc_Mo_block_62 rfl (fun _ H locs hq62 hP hD hS => ?_)
      refine lv_iload_n hx hb dc_Mo_block_65 rfl (lv_at hl 3 rfl) ?_
      refine lv_istore hx hb dc_Mo_block_66 hl (by decide) rfl (fun ls hl => ?_)
      have hl : lv_has ls 5 [(4, .int v2), (3, .int s0), (0, .ref t), (1, .int v1), (2, .int v2)] := hl
      exact hL68 F v1 s0 v2 t_size (t_sent + 1) x62.1 x62.2 ls _ _ hm (lv_sub hl [2, 3, 1, 0] rfl) hP hD hS
  have hl : lv_has ls 5 [(0, .ref t), (1, .int i1)] := hl
  have hm := (mq_Mo_block F i1 t_size t_sent t_many t_bytes_f t_made_f).symm.trans hm
  refine lv_bipush (v := 40) hx hb dc_Mo_block_0 (by decide +kernel) ?_
  refine lv_aload_n hx hb dc_Mo_block_2 rfl (lv_at hl 0 rfl) ?_
  refine va_get (ci := 6) (v := .int t_sent) (C := cn_Mo) (T := cf_Mo) (N := 28) hx hb hB ki_Mo hown hK hP 0 rfl rfl 17 (by decide) (hB _ kw_fl_Mo_166) (fun _ h => h) rfl dc_Mo_block_3 ?_
  refine lv_imul hx hb dc_Mo_block_6 ?_
  refine lv_istore_n hx hb dc_Mo_block_7 rfl hl (by decide) rfl (fun ls hl => ?_)
  have hl : lv_has ls 5 [(2, .int (40 * t_sent)), (0, .ref t), (1, .int i1)] := hl
  refine lv_iload_n hx hb dc_Mo_block_8 rfl (lv_at hl 2 rfl) ?_
  refine lv_iload_n hx hb dc_Mo_block_9 rfl (lv_at hl 0 rfl) ?_
  refine lv_isub hx hb dc_Mo_block_10 ?_
  refine lv_bipush (v := 40) hx hb dc_Mo_block_11 (by decide +kernel) ?_
  refine lv_icmp_le (tgt := 23) hx hb dc_Mo_block_13 (by decide) (fun h13 => ?_) (fun h13 => ?_)
  · have hm := bs_pos h13 hm
    refine lv_iload_n hx hb dc_Mo_block_23 rfl (lv_at hl 2 rfl) ?_
    exact hJ24 i1 (40 * t_sent) i1 t_size t_sent t_many t_made_f ls _ _ hm (lv_sub hl [1, 2, 0] rfl) hP hD hS
  · have hm := bs_neg h13 hm
    refine lv_iload_n hx hb dc_Mo_block_16 rfl (lv_at hl 0 rfl) ?_
    refine lv_bipush (v := 40) hx hb dc_Mo_block_17 (by decide +kernel) ?_
    refine lv_iadd hx hb dc_Mo_block_19 ?_
    refine lv_goto (tgt := 24) hx hb dc_Mo_block_20 (by decide) ?_
    exact hJ24 i1 (40 * t_sent) ((40 * t_sent) + 40) t_size t_sent t_many t_made_f ls _ _ hm (lv_sub hl [1, 2, 0] rfl) hP hD hS
set_option maxHeartbeats 2000000 in
set_option maxRecDepth 100000 in
theorem ct_Mo_more (l : Launch) (D : va_G) (F : Nat) (t : Nat) (t_registers : Nat) (t_column : Nat) (t_times : Nat) (t_values : Nat) (t_bytes : Nat) (t_line : Nat) (t_reply : Nat) (t_latest : Nat) (t_made : Nat) (t_registers_c : ClassId) (t_column_c : ClassId) (t_times_c : ClassId) (t_values_c : ClassId) (t_bytes_c : ClassId) (t_line_c : ClassId) (t_reply_c : ClassId) (t_latest_c : ClassId) (t_made_c : ClassId) (t_secret : Int32) (t_thrown : Int32) (t_time : Int32) (t_capacity : Int32) (t_period : Int32) (t_columns : Int32) (t_entries : Int32) (t_connected : Int32) (t_expected : Int32) (t_next : Int32) (t_association : Int32) (t_size : Int32) (t_sent : Int32) (t_count : Int32) (t_told : Int32) (t_latestSize : Int32) (t_many : Int32) (t_askS : Int32) (t_askR : Int32) (t_registers_f : Nat → Int32) (t_column_f : Nat → Int32) (t_times_f : Nat → Int32) (t_values_f : Nat → Int32) (t_bytes_f : Nat → Int32) (t_line_f : Nat → Int32) (t_reply_f : Nat → Int32) (t_latest_f : Nat → Int32) (t_made_f : Nat → Int32) (i1 : Int32) (r : Int32 × Int32 × Int32 × (Nat → Int32)) (hm : mm_Mo_more F i1 t_size t_sent t_many t_bytes_f t_line_f t_made_f = some r) :
    bs_CV l my_Mo_more mb_Mo_more 2 (bs_rm 3) D [.ref t, .int i1] [(t_registers_c, .int), (t_column_c, .int), (t_times_c, .int), (t_values_c, .int), (t_bytes_c, .int), (t_line_c, .int), (t_reply_c, .int), (t_latest_c, .int), (t_made_c, .int)] [(t, .inr (6, [.int t_secret, .int t_thrown, .int t_time, .ref t_registers, .int t_capacity, .int t_period, .int t_columns, .ref t_column, .int t_entries, .ref t_times, .ref t_values, .int t_connected, .int t_expected, .int t_next, .int t_association, .ref t_bytes, .int t_size, .int t_sent, .ref t_line, .int t_count, .ref t_reply, .int t_told, .ref t_latest, .int t_latestSize, .ref t_made, .int t_many, .int t_askS, .int t_askR])), (t_registers, .inl (t_registers_c, 4, .inl t_registers_f)), (t_column, .inl (t_column_c, 3, .inl t_column_f)), (t_times, .inl (t_times_c, 13, .inl t_times_f)), (t_values, .inl (t_values_c, 39, .inl t_values_f)), (t_bytes, .inl (t_bytes_c, 280, .inl t_bytes_f)), (t_line, .inl (t_line_c, 80, .inl t_line_f)), (t_reply, .inl (t_reply_c, 80, .inl t_reply_f)), (t_latest, .inl (t_latest_c, 80, .inl t_latest_f)), (t_made, .inl (t_made_c, 300, .inl t_made_f))] (S := Unit) (fun (_ : Unit) => True) (fun _ => [(t, .inr (6, [.int t_secret, .int t_thrown, .int t_time, .ref t_registers, .int t_capacity, .int t_period, .int t_columns, .ref t_column, .int t_entries, .ref t_times, .ref t_values, .int t_connected, .int t_expected, .int t_next, .int t_association, .ref t_bytes, .int r.1, .int r.2.1, .ref t_line, .int t_count, .ref t_reply, .int t_told, .ref t_latest, .int t_latestSize, .ref t_made, .int r.2.2.1, .int t_askS, .int t_askR])), (t_registers, .inl (t_registers_c, 4, .inl t_registers_f)), (t_column, .inl (t_column_c, 3, .inl t_column_f)), (t_times, .inl (t_times_c, 13, .inl t_times_f)), (t_values, .inl (t_values_c, 39, .inl t_values_f)), (t_bytes, .inl (t_bytes_c, 280, .inl t_bytes_f)), (t_line, .inl (t_line_c, 80, .inl t_line_f)), (t_reply, .inl (t_reply_c, 80, .inl t_reply_f)), (t_latest, .inl (t_latest_c, 80, .inl t_latest_f)), (t_made, .inl (t_made_c, 300, .inl r.2.2.2))]) := by
  refine bs_CV.mk (by decide +kernel) (bs_ler rfl) ?_
  intro p e s m below meth c ls A hx hb hr hml hlk hown hB hN hP hK hD hS hA hl
  refine bs_genQ (fun Q hQ => ?_)
  have hl : lv_has ls 2 [(0, .ref t), (1, .int i1)] := hl
  have hm := (mq_Mo_more F i1 t_size t_sent t_many t_bytes_f t_line_f t_made_f).symm.trans hm
  refine lv_iload_n hx hb dc_Mo_more_0 rfl (lv_at hl 1 rfl) ?_
  refine lv_if_ne (tgt := 13) hx hb dc_Mo_more_1 (by decide) (fun h1 => ?_) (fun h1 => ?_)
  · have hm := bs_neg h1 hm
    refine lv_aload_n hx hb dc_Mo_more_13 rfl (lv_at hl 0 rfl) ?_
    refine lv_iconst (v := 2) hx hb dc_Mo_more_14 (by decide +kernel) ?_
    obtain ⟨x15, hx15, hm⟩ := bs_bind hm
    refine bs_callVi 1 [] (fun _ => [(t, .inr (6, [.int t_secret, .int t_thrown, .int t_time, .ref t_registers, .int t_capacity, .int t_period, .int t_columns, .ref t_column, .int t_entries, .ref t_times, .ref t_values, .int t_connected, .int t_expected, .int t_next, .int t_association, .ref t_bytes, .int t_size, .int t_sent, .ref t_line, .int t_count, .ref t_reply, .int t_told, .ref t_latest, .int t_latestSize, .ref t_made, .int t_many, .int t_askS, .int t_askR])), (t_registers, .inl (t_registers_c, 4, .inl t_registers_f)), (t_column, .inl (t_column_c, 3, .inl t_column_f)), (t_times, .inl (t_times_c, 13, .inl t_times_f)), (t_values, .inl (t_values_c, 39, .inl t_values_f)), (t_bytes, .inl (t_bytes_c, 280, .inl t_bytes_f)), (t_line, .inl (t_line_c, 80, .inl t_line_f)), (t_reply, .inl (t_reply_c, 80, .inl t_reply_f)), (t_latest, .inl (t_latest_c, 80, .inl t_latest_f)), (t_made, .inl (t_made_c, 300, .inl t_made_f))]) [] hx hb hml hown hB hN hK hP hD hS hA (ct_Mo_at l D F t t_registers t_column t_times t_values t_bytes t_line t_reply t_latest t_made t_registers_c t_column_c t_times_c t_values_c t_bytes_c t_line_c t_reply_c t_latest_c t_made_c t_secret t_thrown t_time t_capacity t_period t_columns t_entries t_connected t_expected t_next t_association t_size t_sent t_count t_told t_latestSize t_many t_askS t_askR t_registers_f t_column_f t_times_f t_values_f t_bytes_f t_line_f t_reply_f t_latest_f t_made_f 2 x15 hx15) kw_cd_Mo_at kw_ml_Mo_139 kw_im_Mo_at kw_se_Mo_at kw_in_Mo kd_Mo_at (by decide) ⟨_, _, _, rfl, rfl, rfl⟩ [0, 1, 2, 3, 4, 5, 6, 7, 8, 9] [] rfl rfl (by decide) [0, 1, 2, 3, 4, 5, 6, 7, 8] rfl [0, 1, 2, 3, 4, 5, 6, 7, 8, 9] (by decide) (fun _ => rfl) rfl hl.1 (bs_ler rfl) (by decide) dc_Mo_more_15 rfl (fun v15q _ H locs hq15 hP hD hS => ?_)
    have hq15 := hq15.symm
    subst hq15
    refine lv_aload_n hx hb dc_Mo_more_18 rfl (lv_at hl 0 rfl) ?_
    refine va_get (ci := 6) (v := .int t_sent) (C := cn_Mo) (T := cf_Mo) (N := 28) hx hb hB ki_Mo hown hK hP 0 rfl rfl 17 (by decide) (hB _ kw_fl_Mo_166) (fun _ h => h) rfl dc_Mo_more_19 ?_
    refine lv_icmp_eq (tgt := 34) hx hb dc_Mo_more_22 (by decide) (fun h22 => ?_) (fun h22 => ?_)
    · have hm := bs_pos h22 hm
      refine lv_aload_n hx hb dc_Mo_more_34 rfl (lv_at hl 0 rfl) ?_
      refine lv_iload_n hx hb dc_Mo_more_35 rfl (lv_at hl 1 rfl) ?_
      obtain ⟨x36, hx36, hm⟩ := bs_bind hm
      refine bs_callVv 1 [] (fun _ => [(t, .inr (6, [.int t_secret, .int t_thrown, .int t_time, .ref t_registers, .int t_capacity, .int t_period, .int t_columns, .ref t_column, .int t_entries, .ref t_times, .ref t_values, .int t_connected, .int t_expected, .int t_next, .int t_association, .ref t_bytes, .int x36.1, .int x36.2.1, .ref t_line, .int t_count, .ref t_reply, .int t_told, .ref t_latest, .int t_latestSize, .ref t_made, .int x36.2.2.1, .int t_askS, .int t_askR])), (t_registers, .inl (t_registers_c, 4, .inl t_registers_f)), (t_column, .inl (t_column_c, 3, .inl t_column_f)), (t_times, .inl (t_times_c, 13, .inl t_times_f)), (t_values, .inl (t_values_c, 39, .inl t_values_f)), (t_bytes, .inl (t_bytes_c, 280, .inl t_bytes_f)), (t_line, .inl (t_line_c, 80, .inl t_line_f)), (t_reply, .inl (t_reply_c, 80, .inl t_reply_f)), (t_latest, .inl (t_latest_c, 80, .inl t_latest_f)), (t_made, .inl (t_made_c, 300, .inl x36.2.2.2))]) [] hx hb hml hown hB hN hK hP hD hS hA (ct_Mo_block l D F t t_registers t_column t_times t_values t_bytes t_line t_reply t_latest t_made t_registers_c t_column_c t_times_c t_values_c t_bytes_c t_line_c t_reply_c t_latest_c t_made_c t_secret t_thrown t_time t_capacity t_period t_columns t_entries t_connected t_expected t_next t_association t_size t_sent t_count t_told t_latestSize t_many t_askS t_askR t_registers_f t_column_f t_times_f t_values_f t_bytes_f t_line_f t_reply_f t_latest_f t_made_f i1 x36 hx36) kw_cd_Mo_block kw_ml_Mo_172 kw_im_Mo_block kw_se_Mo_block kw_in_Mo kd_Mo_block (by decide) ⟨_, _, _, rfl, rfl, rfl⟩ [0, 1, 2, 3, 4, 5, 6, 7, 8, 9] [] rfl rfl (by decide) [0, 1, 2, 3, 4, 5, 6, 7, 8] rfl [0, 1, 2, 3, 4, 5, 6, 7, 8, 9] (by decide) (fun _ => rfl) rfl hl.1 (bs_ler rfl) (by decide) dc_Mo_more_36 rfl (fun _ H locs hq36 hP hD hS => ?_)
      cases hm
      subst hQ
      exact bs_retV hx hb hr hlk () trivial hP hD hS dc_Mo_more_39
    · have hm := bs_neg h22 hm
      refine lv_aload_n hx hb dc_Mo_more_25 rfl (lv_at hl 0 rfl) ?_
      refine lv_bipush (v := 19) hx hb dc_Mo_more_26 (by decide +kernel) ?_
      obtain ⟨x28, hx28, hm⟩ := bs_bind hm
      refine bs_callVv 1 [] (fun _ => [(t, .inr (6, [.int t_secret, .int t_thrown, .int t_time, .ref t_registers, .int t_capacity, .int t_period, .int t_columns, .ref t_column, .int t_entries, .ref t_times, .ref t_values, .int t_connected, .int t_expected, .int t_next, .int t_association, .ref t_bytes, .int t_size, .int t_sent, .ref t_line, .int t_count, .ref t_reply, .int t_told, .ref t_latest, .int t_latestSize, .ref t_made, .int x28.1, .int t_askS, .int t_askR])), (t_registers, .inl (t_registers_c, 4, .inl t_registers_f)), (t_column, .inl (t_column_c, 3, .inl t_column_f)), (t_times, .inl (t_times_c, 13, .inl t_times_f)), (t_values, .inl (t_values_c, 39, .inl t_values_f)), (t_bytes, .inl (t_bytes_c, 280, .inl t_bytes_f)), (t_line, .inl (t_line_c, 80, .inl t_line_f)), (t_reply, .inl (t_reply_c, 80, .inl t_reply_f)), (t_latest, .inl (t_latest_c, 80, .inl t_latest_f)), (t_made, .inl (t_made_c, 300, .inl x28.2))]) [] hx hb hml hown hB hN hK hP hD hS hA (ct_Mo_refuse l D F t t_registers t_column t_times t_values t_bytes t_line t_reply t_latest t_made t_registers_c t_column_c t_times_c t_values_c t_bytes_c t_line_c t_reply_c t_latest_c t_made_c t_secret t_thrown t_time t_capacity t_period t_columns t_entries t_connected t_expected t_next t_association t_size t_sent t_count t_told t_latestSize t_many t_askS t_askR t_registers_f t_column_f t_times_f t_values_f t_bytes_f t_line_f t_reply_f t_latest_f t_made_f 19 x28 hx28) kw_cd_Mo_refuse kw_ml_Mo_169 kw_im_Mo_refuse kw_se_Mo_refuse kw_in_Mo kd_Mo_refuse (by decide) ⟨_, _, _, rfl, rfl, rfl⟩ [0, 1, 2, 3, 4, 5, 6, 7, 8, 9] [] rfl rfl (by decide) [0, 1, 2, 3, 4, 5, 6, 7, 8] rfl [0, 1, 2, 3, 4, 5, 6, 7, 8, 9] (by decide) (fun _ => rfl) rfl hl.1 (bs_ler rfl) (by decide) dc_Mo_more_28 rfl (fun _ H locs hq28 hP hD hS => ?_)
      refine lv_goto (tgt := 39) hx hb dc_Mo_more_31 (by decide) ?_
      cases hm
      subst hQ
      exact bs_retV hx hb hr hlk () trivial hP hD hS dc_Mo_more_39
  · have hm := bs_pos h1 hm
    refine lv_aload_n hx hb dc_Mo_more_4 rfl (lv_at hl 0 rfl) ?_
    refine lv_bipush (v := 16) hx hb dc_Mo_more_5 (by decide +kernel) ?_
    obtain ⟨x7, hx7, hm⟩ := bs_bind hm
    refine bs_callVv 1 [] (fun _ => [(t, .inr (6, [.int t_secret, .int t_thrown, .int t_time, .ref t_registers, .int t_capacity, .int t_period, .int t_columns, .ref t_column, .int t_entries, .ref t_times, .ref t_values, .int t_connected, .int t_expected, .int t_next, .int t_association, .ref t_bytes, .int t_size, .int t_sent, .ref t_line, .int t_count, .ref t_reply, .int t_told, .ref t_latest, .int t_latestSize, .ref t_made, .int x7.1, .int t_askS, .int t_askR])), (t_registers, .inl (t_registers_c, 4, .inl t_registers_f)), (t_column, .inl (t_column_c, 3, .inl t_column_f)), (t_times, .inl (t_times_c, 13, .inl t_times_f)), (t_values, .inl (t_values_c, 39, .inl t_values_f)), (t_bytes, .inl (t_bytes_c, 280, .inl t_bytes_f)), (t_line, .inl (t_line_c, 80, .inl t_line_f)), (t_reply, .inl (t_reply_c, 80, .inl t_reply_f)), (t_latest, .inl (t_latest_c, 80, .inl t_latest_f)), (t_made, .inl (t_made_c, 300, .inl x7.2))]) [] hx hb hml hown hB hN hK hP hD hS hA (ct_Mo_refuse l D F t t_registers t_column t_times t_values t_bytes t_line t_reply t_latest t_made t_registers_c t_column_c t_times_c t_values_c t_bytes_c t_line_c t_reply_c t_latest_c t_made_c t_secret t_thrown t_time t_capacity t_period t_columns t_entries t_connected t_expected t_next t_association t_size t_sent t_count t_told t_latestSize t_many t_askS t_askR t_registers_f t_column_f t_times_f t_values_f t_bytes_f t_line_f t_reply_f t_latest_f t_made_f 16 x7 hx7) kw_cd_Mo_refuse kw_ml_Mo_169 kw_im_Mo_refuse kw_se_Mo_refuse kw_in_Mo kd_Mo_refuse (by decide) ⟨_, _, _, rfl, rfl, rfl⟩ [0, 1, 2, 3, 4, 5, 6, 7, 8, 9] [] rfl rfl (by decide) [0, 1, 2, 3, 4, 5, 6, 7, 8] rfl [0, 1, 2, 3, 4, 5, 6, 7, 8, 9] (by decide) (fun _ => rfl) rfl hl.1 (bs_ler rfl) (by decide) dc_Mo_more_7 rfl (fun _ H locs hq7 hP hD hS => ?_)
    refine lv_goto (tgt := 39) hx hb dc_Mo_more_10 (by decide) ?_
    cases hm
    subst hQ
    exact bs_retV hx hb hr hlk () trivial hP hD hS dc_Mo_more_39
set_option maxHeartbeats 2000000 in
set_option maxRecDepth 100000 in
theorem ct_Mo_isAttribute (l : Launch) (D : va_G) (F : Nat) (i0 : Int32) (i1 : Int32) (r : Int32) (hm : mm_Mo_isAttribute F i0 i1 = some r) :
    bs_CI l my_Mo_isAttribute mb_Mo_isAttribute 2 .boolean (bs_rm 0) D [.int i0, .int i1] [] [] (S := Unit) (fun v (_ : Unit) => v = r) (fun _ => []) := by
  refine bs_CI.mk (by decide +kernel) (bs_ler rfl) ?_
  intro p e s m below meth c ls A hx hb hr hml hlk hown hB hN hP hK hD hS hA hl
  refine bs_genQ (fun Q hQ => ?_)
  have hJ19 : ∀ (v0 : Int32) (v1 : Int32) (ls : Array Slot) (H : Heap) (locs : List Loc), mm_Mo_isAttribute_J19 F v0 v1 = some r → lv_has ls 2 [(0, .int v0), (1, .int v1)] → va_P D bs_cl [] H → va_D A [] → va_S A s.heap H locs → W p l e (bs_rm 0) s m [.int i0, .int i1].toArray below meth c H locs 0 0 Q (F0 m 19 ls []) := by
    intro v0 v1 ls H locs hm hl hP hD hS
    have hm := (mq_Mo_isAttribute_J19 F v0 v1).symm.trans hm
    refine lv_iload_n hx hb dc_Mo_isAttribute_19 rfl (lv_at hl 0 rfl) ?_
    refine lv_iconst (v := 4) hx hb dc_Mo_isAttribute_20 (by decide +kernel) ?_
    refine lv_icmp_ne (tgt := 45) hx hb dc_Mo_isAttribute_21 (by decide) (fun h21 => ?_) (fun h21 => ?_)
    · have hm := bs_neg h21 hm
      refine lv_iconst (v := 0) hx hb dc_Mo_isAttribute_45 (by decide +kernel) ?_
      cases hm
      subst hQ
      exact bs_retZ hx hb hr hlk (by decide +kernel) () rfl hP hD hS dc_Mo_isAttribute_46
    · have hm := bs_pos h21 hm
      refine lv_iload_n hx hb dc_Mo_isAttribute_24 rfl (lv_at hl 1 rfl) ?_
      refine lv_iconst (v := 4) hx hb dc_Mo_isAttribute_25 (by decide +kernel) ?_
      refine lv_icmp_eq (tgt := 41) hx hb dc_Mo_isAttribute_26 (by decide) (fun h26 => ?_) (fun h26 => ?_)
      · have hm := bs_pos h26 hm
        refine lv_iconst (v := 1) hx hb dc_Mo_isAttribute_41 (by decide +kernel) ?_
        refine lv_goto (tgt := 46) hx hb dc_Mo_isAttribute_42 (by decide) ?_
        cases hm
        subst hQ
        exact bs_retZ hx hb hr hlk (by decide +kernel) () rfl hP hD hS dc_Mo_isAttribute_46
      · have hm := bs_neg h26 hm
        refine lv_iload_n hx hb dc_Mo_isAttribute_29 rfl (lv_at hl 1 rfl) ?_
        refine lv_bipush (v := 7) hx hb dc_Mo_isAttribute_30 (by decide +kernel) ?_
        refine lv_icmp_eq (tgt := 41) hx hb dc_Mo_isAttribute_32 (by decide) (fun h32 => ?_) (fun h32 => ?_)
        · have hm := bs_pos h32 hm
          refine lv_iconst (v := 1) hx hb dc_Mo_isAttribute_41 (by decide +kernel) ?_
          refine lv_goto (tgt := 46) hx hb dc_Mo_isAttribute_42 (by decide) ?_
          cases hm
          subst hQ
          exact bs_retZ hx hb hr hlk (by decide +kernel) () rfl hP hD hS dc_Mo_isAttribute_46
        · have hm := bs_neg h32 hm
          refine lv_iload_n hx hb dc_Mo_isAttribute_35 rfl (lv_at hl 1 rfl) ?_
          refine lv_bipush (v := 8) hx hb dc_Mo_isAttribute_36 (by decide +kernel) ?_
          refine lv_icmp_ne (tgt := 45) hx hb dc_Mo_isAttribute_38 (by decide) (fun h38 => ?_) (fun h38 => ?_)
          · have hm := bs_neg h38 hm
            refine lv_iconst (v := 0) hx hb dc_Mo_isAttribute_45 (by decide +kernel) ?_
            cases hm
            subst hQ
            exact bs_retZ hx hb hr hlk (by decide +kernel) () rfl hP hD hS dc_Mo_isAttribute_46
          · have hm := bs_pos h38 hm
            refine lv_iconst (v := 1) hx hb dc_Mo_isAttribute_41 (by decide +kernel) ?_
            refine lv_goto (tgt := 46) hx hb dc_Mo_isAttribute_42 (by decide) ?_
            cases hm
            subst hQ
            exact bs_retZ hx hb hr hlk (by decide +kernel) () rfl hP hD hS dc_Mo_isAttribute_46
  have hl : lv_has ls 2 [(0, .int i0), (1, .int i1)] := hl
  have hm := (mq_Mo_isAttribute F i0 i1).symm.trans hm
  refine lv_iload_n hx hb dc_Mo_isAttribute_0 rfl (lv_at hl 1 rfl) ?_
  refine lv_iconst (v := 1) hx hb dc_Mo_isAttribute_1 (by decide +kernel) ?_
  refine lv_icmp_eq (tgt := 41) hx hb dc_Mo_isAttribute_2 (by decide) (fun h2 => ?_) (fun h2 => ?_)
  · have hm := bs_pos h2 hm
    refine lv_iconst (v := 1) hx hb dc_Mo_isAttribute_41 (by decide +kernel) ?_
    refine lv_goto (tgt := 46) hx hb dc_Mo_isAttribute_42 (by decide) ?_
    clear hJ19
    cases hm
    subst hQ
    exact bs_retZ hx hb hr hlk (by decide +kernel) () rfl hP hD hS dc_Mo_isAttribute_46
  · have hm := bs_neg h2 hm
    refine lv_iload_n hx hb dc_Mo_isAttribute_5 rfl (lv_at hl 1 rfl) ?_
    refine lv_iconst (v := 2) hx hb dc_Mo_isAttribute_6 (by decide +kernel) ?_
    refine lv_icmp_eq (tgt := 41) hx hb dc_Mo_isAttribute_7 (by decide) (fun h7 => ?_) (fun h7 => ?_)
    · have hm := bs_pos h7 hm
      refine lv_iconst (v := 1) hx hb dc_Mo_isAttribute_41 (by decide +kernel) ?_
      refine lv_goto (tgt := 46) hx hb dc_Mo_isAttribute_42 (by decide) ?_
      clear hJ19
      cases hm
      subst hQ
      exact bs_retZ hx hb hr hlk (by decide +kernel) () rfl hP hD hS dc_Mo_isAttribute_46
    · have hm := bs_neg h7 hm
      refine lv_iload_n hx hb dc_Mo_isAttribute_10 rfl (lv_at hl 1 rfl) ?_
      refine lv_iconst (v := 3) hx hb dc_Mo_isAttribute_11 (by decide +kernel) ?_
      refine lv_icmp_ne (tgt := 19) hx hb dc_Mo_isAttribute_12 (by decide) (fun h12 => ?_) (fun h12 => ?_)
      · have hm := bs_neg h12 hm
        exact hJ19 i0 i1 ls _ _ hm hl hP hD hS
      · have hm := bs_pos h12 hm
        refine lv_iload_n hx hb dc_Mo_isAttribute_15 rfl (lv_at hl 0 rfl) ?_
        refine lv_if_gt (tgt := 41) hx hb dc_Mo_isAttribute_16 (by decide) (fun h16 => ?_) (fun h16 => ?_)
        · have hm := bs_pos h16 hm
          refine lv_iconst (v := 1) hx hb dc_Mo_isAttribute_41 (by decide +kernel) ?_
          refine lv_goto (tgt := 46) hx hb dc_Mo_isAttribute_42 (by decide) ?_
          clear hJ19
          cases hm
          subst hQ
          exact bs_retZ hx hb hr hlk (by decide +kernel) () rfl hP hD hS dc_Mo_isAttribute_46
        · have hm := bs_neg h16 hm
          exact hJ19 i0 i1 ls _ _ hm hl hP hD hS
set_option maxHeartbeats 2000000 in
set_option maxRecDepth 100000 in
theorem ct_Mo_emitInt (l : Launch) (D : va_G) (F : Nat) (t : Nat) (t_registers : Nat) (t_column : Nat) (t_times : Nat) (t_values : Nat) (t_bytes : Nat) (t_line : Nat) (t_reply : Nat) (t_latest : Nat) (t_made : Nat) (t_registers_c : ClassId) (t_column_c : ClassId) (t_times_c : ClassId) (t_values_c : ClassId) (t_bytes_c : ClassId) (t_line_c : ClassId) (t_reply_c : ClassId) (t_latest_c : ClassId) (t_made_c : ClassId) (t_secret : Int32) (t_thrown : Int32) (t_time : Int32) (t_capacity : Int32) (t_period : Int32) (t_columns : Int32) (t_entries : Int32) (t_connected : Int32) (t_expected : Int32) (t_next : Int32) (t_association : Int32) (t_size : Int32) (t_sent : Int32) (t_count : Int32) (t_told : Int32) (t_latestSize : Int32) (t_many : Int32) (t_askS : Int32) (t_askR : Int32) (t_registers_f : Nat → Int32) (t_column_f : Nat → Int32) (t_times_f : Nat → Int32) (t_values_f : Nat → Int32) (t_bytes_f : Nat → Int32) (t_line_f : Nat → Int32) (t_reply_f : Nat → Int32) (t_latest_f : Nat → Int32) (t_made_f : Nat → Int32) (i1 : Int32) (i2 : Int32) (r : Int32 × (Nat → Int32)) (hm : mm_Mo_emitInt F i1 i2 t_many t_made_f = some r) :
    bs_CV l my_Mo_emitInt mb_Mo_emitInt 4 (bs_rm 1) D [.ref t, .int i1, .int i2] [(t_registers_c, .int), (t_column_c, .int), (t_times_c, .int), (t_values_c, .int), (t_bytes_c, .int), (t_line_c, .int), (t_reply_c, .int), (t_latest_c, .int), (t_made_c, .int)] [(t, .inr (6, [.int t_secret, .int t_thrown, .int t_time, .ref t_registers, .int t_capacity, .int t_period, .int t_columns, .ref t_column, .int t_entries, .ref t_times, .ref t_values, .int t_connected, .int t_expected, .int t_next, .int t_association, .ref t_bytes, .int t_size, .int t_sent, .ref t_line, .int t_count, .ref t_reply, .int t_told, .ref t_latest, .int t_latestSize, .ref t_made, .int t_many, .int t_askS, .int t_askR])), (t_registers, .inl (t_registers_c, 4, .inl t_registers_f)), (t_column, .inl (t_column_c, 3, .inl t_column_f)), (t_times, .inl (t_times_c, 13, .inl t_times_f)), (t_values, .inl (t_values_c, 39, .inl t_values_f)), (t_bytes, .inl (t_bytes_c, 280, .inl t_bytes_f)), (t_line, .inl (t_line_c, 80, .inl t_line_f)), (t_reply, .inl (t_reply_c, 80, .inl t_reply_f)), (t_latest, .inl (t_latest_c, 80, .inl t_latest_f)), (t_made, .inl (t_made_c, 300, .inl t_made_f))] (S := Unit) (fun (_ : Unit) => True) (fun _ => [(t, .inr (6, [.int t_secret, .int t_thrown, .int t_time, .ref t_registers, .int t_capacity, .int t_period, .int t_columns, .ref t_column, .int t_entries, .ref t_times, .ref t_values, .int t_connected, .int t_expected, .int t_next, .int t_association, .ref t_bytes, .int t_size, .int t_sent, .ref t_line, .int t_count, .ref t_reply, .int t_told, .ref t_latest, .int t_latestSize, .ref t_made, .int r.1, .int t_askS, .int t_askR])), (t_registers, .inl (t_registers_c, 4, .inl t_registers_f)), (t_column, .inl (t_column_c, 3, .inl t_column_f)), (t_times, .inl (t_times_c, 13, .inl t_times_f)), (t_values, .inl (t_values_c, 39, .inl t_values_f)), (t_bytes, .inl (t_bytes_c, 280, .inl t_bytes_f)), (t_line, .inl (t_line_c, 80, .inl t_line_f)), (t_reply, .inl (t_reply_c, 80, .inl t_reply_f)), (t_latest, .inl (t_latest_c, 80, .inl t_latest_f)), (t_made, .inl (t_made_c, 300, .inl r.2))]) := by
  refine bs_CV.mk (by decide +kernel) (bs_ler rfl) ?_
  intro p e s m below meth c ls A hx hb hr hml hlk hown hB hN hP hK hD hS hA hl
  refine bs_genQ (fun Q hQ => ?_)
  have hL7 : ∀ (k : Nat) (v2 : Int32) (v3 : Int32) (t_many : Int32) (t_made_f : Nat → Int32) (ls : Array Slot) (H : Heap) (locs : List Loc), mm_Mo_emitInt_L7 F k v2 v3 t_many t_made_f = some r → lv_has ls 4 [(0, .ref t), (2, .int v2), (3, .int v3)] → va_P D bs_cl [(t, .inr (6, [.int t_secret, .int t_thrown, .int t_time, .ref t_registers, .int t_capacity, .int t_period, .int t_columns, .ref t_column, .int t_entries, .ref t_times, .ref t_values, .int t_connected, .int t_expected, .int t_next, .int t_association, .ref t_bytes, .int t_size, .int t_sent, .ref t_line, .int t_count, .ref t_reply, .int t_told, .ref t_latest, .int t_latestSize, .ref t_made, .int t_many, .int t_askS, .int t_askR])), (t_registers, .inl (t_registers_c, 4, .inl t_registers_f)), (t_column, .inl (t_column_c, 3, .inl t_column_f)), (t_times, .inl (t_times_c, 13, .inl t_times_f)), (t_values, .inl (t_values_c, 39, .inl t_values_f)), (t_bytes, .inl (t_bytes_c, 280, .inl t_bytes_f)), (t_line, .inl (t_line_c, 80, .inl t_line_f)), (t_reply, .inl (t_reply_c, 80, .inl t_reply_f)), (t_latest, .inl (t_latest_c, 80, .inl t_latest_f)), (t_made, .inl (t_made_c, 300, .inl t_made_f))] H → va_D A [(t, .inr (6, [.int t_secret, .int t_thrown, .int t_time, .ref t_registers, .int t_capacity, .int t_period, .int t_columns, .ref t_column, .int t_entries, .ref t_times, .ref t_values, .int t_connected, .int t_expected, .int t_next, .int t_association, .ref t_bytes, .int t_size, .int t_sent, .ref t_line, .int t_count, .ref t_reply, .int t_told, .ref t_latest, .int t_latestSize, .ref t_made, .int t_many, .int t_askS, .int t_askR])), (t_registers, .inl (t_registers_c, 4, .inl t_registers_f)), (t_column, .inl (t_column_c, 3, .inl t_column_f)), (t_times, .inl (t_times_c, 13, .inl t_times_f)), (t_values, .inl (t_values_c, 39, .inl t_values_f)), (t_bytes, .inl (t_bytes_c, 280, .inl t_bytes_f)), (t_line, .inl (t_line_c, 80, .inl t_line_f)), (t_reply, .inl (t_reply_c, 80, .inl t_reply_f)), (t_latest, .inl (t_latest_c, 80, .inl t_latest_f)), (t_made, .inl (t_made_c, 300, .inl t_made_f))] → va_S A s.heap H locs → W p l e (bs_rm 1) s m [.ref t, .int i1, .int i2].toArray below meth c H locs 0 0 Q (F0 m 7 ls []) := by
    intro k
    induction k with
    | zero => intro v2 v3 t_many t_made_f ls H locs hm hl hP hD hS; exact (bs_no hm).elim
    | succ k ih =>
      intro v2 v3 t_many t_made_f ls H locs hm hl hP hD hS
      have hm := (mq_Mo_emitInt_L7 F k v2 v3 t_many t_made_f).symm.trans hm
      refine lv_iload_n hx hb dc_Mo_emitInt_7 rfl (lv_at hl 2 rfl) ?_
      refine lv_if_lt (tgt := 27) hx hb dc_Mo_emitInt_8 (by decide) (fun h8 => ?_) (fun h8 => ?_)
      · have hm := bs_pos h8 hm
        clear ih
        cases hm
        subst hQ
        exact bs_retV hx hb hr hlk () trivial hP hD hS dc_Mo_emitInt_27
      · have hm := bs_neg h8 hm
        refine lv_aload_n hx hb dc_Mo_emitInt_11 rfl (lv_at hl 0 rfl) ?_
        refine lv_iload_n hx hb dc_Mo_emitInt_12 rfl (lv_at hl 1 rfl) ?_
        refine lv_bipush (v := 8) hx hb dc_Mo_emitInt_13 (by decide +kernel) ?_
        refine lv_iload_n hx hb dc_Mo_emitInt_15 rfl (lv_at hl 2 rfl) ?_
        refine lv_imul hx hb dc_Mo_emitInt_16 ?_
        refine lv_iushr (v := bs_ushr v2 (8 * v3)) hx hb dc_Mo_emitInt_17 rfl ?_
        obtain ⟨x18, hx18, hm⟩ := bs_bind hm
        refine bs_callVv 1 [] (fun _ => [(t, .inr (6, [.int t_secret, .int t_thrown, .int t_time, .ref t_registers, .int t_capacity, .int t_period, .int t_columns, .ref t_column, .int t_entries, .ref t_times, .ref t_values, .int t_connected, .int t_expected, .int t_next, .int t_association, .ref t_bytes, .int t_size, .int t_sent, .ref t_line, .int t_count, .ref t_reply, .int t_told, .ref t_latest, .int t_latestSize, .ref t_made, .int x18.1, .int t_askS, .int t_askR])), (t_registers, .inl (t_registers_c, 4, .inl t_registers_f)), (t_column, .inl (t_column_c, 3, .inl t_column_f)), (t_times, .inl (t_times_c, 13, .inl t_times_f)), (t_values, .inl (t_values_c, 39, .inl t_values_f)), (t_bytes, .inl (t_bytes_c, 280, .inl t_bytes_f)), (t_line, .inl (t_line_c, 80, .inl t_line_f)), (t_reply, .inl (t_reply_c, 80, .inl t_reply_f)), (t_latest, .inl (t_latest_c, 80, .inl t_latest_f)), (t_made, .inl (t_made_c, 300, .inl x18.2))]) [] hx hb hml hown hB hN hK hP hD hS hA (ct_Mo_emit l D F t t_registers t_column t_times t_values t_bytes t_line t_reply t_latest t_made t_registers_c t_column_c t_times_c t_values_c t_bytes_c t_line_c t_reply_c t_latest_c t_made_c t_secret t_thrown t_time t_capacity t_period t_columns t_entries t_connected t_expected t_next t_association t_size t_sent t_count t_told t_latestSize t_many t_askS t_askR t_registers_f t_column_f t_times_f t_values_f t_bytes_f t_line_f t_reply_f t_latest_f t_made_f (bs_ushr v2 (8 * v3)) x18 hx18) kw_cd_Mo_emit kw_ml_Mo_142 kw_im_Mo_emit kw_se_Mo_emit kw_in_Mo kd_Mo_emit (by decide) ⟨_, _, _, rfl, rfl, rfl⟩ [0, 1, 2, 3, 4, 5, 6, 7, 8, 9] [] rfl rfl (by decide) [0, 1, 2, 3, 4, 5, 6, 7, 8] rfl [0, 1, 2, 3, 4, 5, 6, 7, 8, 9] (by decide) (fun _ => rfl) rfl hl.1 (bs_ler rfl) (by decide) dc_Mo_emitInt_18 rfl (fun _ H locs hq18 hP hD hS => ?_)
        refine lv_iinc (k := 2) (v := v3 + (-1)) hx hb dc_Mo_emitInt_21 hl rfl (bs_incm1 _) (by decide) rfl (fun ls hl => ?_)
        have hl : lv_has ls 4 [(3, .int (v3 + (-1))), (0, .ref t), (2, .int v2)] := hl
        refine lv_goto (tgt := 7) hx hb dc_Mo_emitInt_24 (by decide) ?_
        exact ih v2 (v3 + (-1)) x18.1 x18.2 ls _ _ hm (lv_sub hl [1, 2, 0] rfl) hP hD hS
  have hl : lv_has ls 4 [(0, .ref t), (1, .int i1), (2, .int i2)] := hl
  have hm := (mq_Mo_emitInt F i1 i2 t_many t_made_f).symm.trans hm
  refine lv_aload_n hx hb dc_Mo_emitInt_0 rfl (lv_at hl 0 rfl) ?_
  refine lv_iload_n hx hb dc_Mo_emitInt_1 rfl (lv_at hl 1 rfl) ?_
  obtain ⟨x2, hx2, hm⟩ := bs_bind hm
  refine bs_callVv 1 [] (fun _ => [(t, .inr (6, [.int t_secret, .int t_thrown, .int t_time, .ref t_registers, .int t_capacity, .int t_period, .int t_columns, .ref t_column, .int t_entries, .ref t_times, .ref t_values, .int t_connected, .int t_expected, .int t_next, .int t_association, .ref t_bytes, .int t_size, .int t_sent, .ref t_line, .int t_count, .ref t_reply, .int t_told, .ref t_latest, .int t_latestSize, .ref t_made, .int x2.1, .int t_askS, .int t_askR])), (t_registers, .inl (t_registers_c, 4, .inl t_registers_f)), (t_column, .inl (t_column_c, 3, .inl t_column_f)), (t_times, .inl (t_times_c, 13, .inl t_times_f)), (t_values, .inl (t_values_c, 39, .inl t_values_f)), (t_bytes, .inl (t_bytes_c, 280, .inl t_bytes_f)), (t_line, .inl (t_line_c, 80, .inl t_line_f)), (t_reply, .inl (t_reply_c, 80, .inl t_reply_f)), (t_latest, .inl (t_latest_c, 80, .inl t_latest_f)), (t_made, .inl (t_made_c, 300, .inl x2.2))]) [] hx hb hml hown hB hN hK hP hD hS hA (ct_Mo_emit l D F t t_registers t_column t_times t_values t_bytes t_line t_reply t_latest t_made t_registers_c t_column_c t_times_c t_values_c t_bytes_c t_line_c t_reply_c t_latest_c t_made_c t_secret t_thrown t_time t_capacity t_period t_columns t_entries t_connected t_expected t_next t_association t_size t_sent t_count t_told t_latestSize t_many t_askS t_askR t_registers_f t_column_f t_times_f t_values_f t_bytes_f t_line_f t_reply_f t_latest_f t_made_f i1 x2 hx2) kw_cd_Mo_emit kw_ml_Mo_142 kw_im_Mo_emit kw_se_Mo_emit kw_in_Mo kd_Mo_emit (by decide) ⟨_, _, _, rfl, rfl, rfl⟩ [0, 1, 2, 3, 4, 5, 6, 7, 8, 9] [] rfl rfl (by decide) [0, 1, 2, 3, 4, 5, 6, 7, 8] rfl [0, 1, 2, 3, 4, 5, 6, 7, 8, 9] (by decide) (fun _ => rfl) rfl hl.1 (bs_ler rfl) (by decide) dc_Mo_emitInt_2 rfl (fun _ H locs hq2 hP hD hS => ?_)
  refine lv_iconst (v := 3) hx hb dc_Mo_emitInt_5 (by decide +kernel) ?_
  refine lv_istore_n hx hb dc_Mo_emitInt_6 rfl hl (by decide) rfl (fun ls hl => ?_)
  have hl : lv_has ls 4 [(3, .int 3), (0, .ref t), (1, .int i1), (2, .int i2)] := hl
  exact hL7 F i2 3 x2.1 x2.2 ls _ _ hm (lv_sub hl [1, 3, 0] rfl) hP hD hS
set_option maxHeartbeats 2000000 in
set_option maxRecDepth 100000 in
theorem ct_Mo_isIn (l : Launch) (D : va_G) (F : Nat) (t : Nat) (t_registers : Nat) (t_column : Nat) (t_times : Nat) (t_values : Nat) (t_bytes : Nat) (t_line : Nat) (t_reply : Nat) (t_latest : Nat) (t_made : Nat) (t_registers_c : ClassId) (t_column_c : ClassId) (t_times_c : ClassId) (t_values_c : ClassId) (t_bytes_c : ClassId) (t_line_c : ClassId) (t_reply_c : ClassId) (t_latest_c : ClassId) (t_made_c : ClassId) (t_secret : Int32) (t_thrown : Int32) (t_time : Int32) (t_capacity : Int32) (t_period : Int32) (t_columns : Int32) (t_entries : Int32) (t_connected : Int32) (t_expected : Int32) (t_next : Int32) (t_association : Int32) (t_size : Int32) (t_sent : Int32) (t_count : Int32) (t_told : Int32) (t_latestSize : Int32) (t_many : Int32) (t_askS : Int32) (t_askR : Int32) (t_registers_f : Nat → Int32) (t_column_f : Nat → Int32) (t_times_f : Nat → Int32) (t_values_f : Nat → Int32) (t_bytes_f : Nat → Int32) (t_line_f : Nat → Int32) (t_reply_f : Nat → Int32) (t_latest_f : Nat → Int32) (t_made_f : Nat → Int32) (i1 : Int32) (i2 : Int32) (r : Int32) (hm : mm_Mo_isIn F i1 i2 t_times_f t_line_f = some r) :
    bs_CI l my_Mo_isIn mb_Mo_isIn 5 .boolean (bs_rm 2) D [.ref t, .int i1, .int i2] [(t_registers_c, .int), (t_column_c, .int), (t_times_c, .int), (t_values_c, .int), (t_bytes_c, .int), (t_line_c, .int), (t_reply_c, .int), (t_latest_c, .int), (t_made_c, .int)] [(t, .inr (6, [.int t_secret, .int t_thrown, .int t_time, .ref t_registers, .int t_capacity, .int t_period, .int t_columns, .ref t_column, .int t_entries, .ref t_times, .ref t_values, .int t_connected, .int t_expected, .int t_next, .int t_association, .ref t_bytes, .int t_size, .int t_sent, .ref t_line, .int t_count, .ref t_reply, .int t_told, .ref t_latest, .int t_latestSize, .ref t_made, .int t_many, .int t_askS, .int t_askR])), (t_registers, .inl (t_registers_c, 4, .inl t_registers_f)), (t_column, .inl (t_column_c, 3, .inl t_column_f)), (t_times, .inl (t_times_c, 13, .inl t_times_f)), (t_values, .inl (t_values_c, 39, .inl t_values_f)), (t_bytes, .inl (t_bytes_c, 280, .inl t_bytes_f)), (t_line, .inl (t_line_c, 80, .inl t_line_f)), (t_reply, .inl (t_reply_c, 80, .inl t_reply_f)), (t_latest, .inl (t_latest_c, 80, .inl t_latest_f)), (t_made, .inl (t_made_c, 300, .inl t_made_f))] (S := Unit) (fun v (_ : Unit) => v = r) (fun _ => [(t, .inr (6, [.int t_secret, .int t_thrown, .int t_time, .ref t_registers, .int t_capacity, .int t_period, .int t_columns, .ref t_column, .int t_entries, .ref t_times, .ref t_values, .int t_connected, .int t_expected, .int t_next, .int t_association, .ref t_bytes, .int t_size, .int t_sent, .ref t_line, .int t_count, .ref t_reply, .int t_told, .ref t_latest, .int t_latestSize, .ref t_made, .int t_many, .int t_askS, .int t_askR])), (t_registers, .inl (t_registers_c, 4, .inl t_registers_f)), (t_column, .inl (t_column_c, 3, .inl t_column_f)), (t_times, .inl (t_times_c, 13, .inl t_times_f)), (t_values, .inl (t_values_c, 39, .inl t_values_f)), (t_bytes, .inl (t_bytes_c, 280, .inl t_bytes_f)), (t_line, .inl (t_line_c, 80, .inl t_line_f)), (t_reply, .inl (t_reply_c, 80, .inl t_reply_f)), (t_latest, .inl (t_latest_c, 80, .inl t_latest_f)), (t_made, .inl (t_made_c, 300, .inl t_made_f))]) := by
  refine bs_CI.mk (by decide +kernel) (bs_ler rfl) ?_
  intro p e s m below meth c ls A hx hb hr hml hlk hown hB hN hP hK hD hS hA hl
  refine bs_genQ (fun Q hQ => ?_)
  have hl : lv_has ls 5 [(0, .ref t), (1, .int i1), (2, .int i2)] := hl
  have hm := (mq_Mo_isIn F i1 i2 t_times_f t_line_f).symm.trans hm
  refine lv_iload_n hx hb dc_Mo_isIn_0 rfl (lv_at hl 2 rfl) ?_
  refine lv_if_ne (tgt := 6) hx hb dc_Mo_isIn_1 (by decide) (fun h1 => ?_) (fun h1 => ?_)
  · have hm := bs_neg h1 hm
    refine lv_aload_n hx hb dc_Mo_isIn_6 rfl (lv_at hl 0 rfl) ?_
    refine va_get (ci := 6) (v := .ref t_times) (C := cn_Mo) (T := cf_Mo) (N := 28) hx hb hB ki_Mo hown hK hP 0 rfl rfl 9 (by decide) (hB _ kw_fl_Mo_20) (fun _ h => h) rfl dc_Mo_isIn_7 ?_
    refine lv_iload_n hx hb dc_Mo_isIn_10 rfl (lv_at hl 1 rfl) ?_
    obtain ⟨hz11, hm⟩ := bs_nn hm
    refine va_iald hx hb hK hP 3 2 rfl rfl hz11 dc_Mo_isIn_11 ?_
    refine lv_i2l (v := (t_times_f i1.toNatClampNeg).toInt64) hx hb dc_Mo_isIn_12 rfl ?_
    refine lv_lstore_n hx hb dc_Mo_isIn_13 rfl hl (by decide) rfl (fun ls hl => ?_)
    have hl : lv_has ls 5 [(3, .long ((t_times_f i1.toNatClampNeg).toInt64)), (0, .ref t), (1, .int i1), (2, .int i2)] := hl
    refine lv_lload_n hx hb dc_Mo_isIn_14 rfl (lv_at hl 0 rfl) ?_
    refine lv_aload_n hx hb dc_Mo_isIn_15 rfl (lv_at hl 1 rfl) ?_
    refine lv_iconst (v := 5) hx hb dc_Mo_isIn_16 (by decide +kernel) ?_
    obtain ⟨x17, hx17, hm⟩ := bs_bind hm
    refine bs_callVi 1 [] (fun _ => [(t, .inr (6, [.int t_secret, .int t_thrown, .int t_time, .ref t_registers, .int t_capacity, .int t_period, .int t_columns, .ref t_column, .int t_entries, .ref t_times, .ref t_values, .int t_connected, .int t_expected, .int t_next, .int t_association, .ref t_bytes, .int t_size, .int t_sent, .ref t_line, .int t_count, .ref t_reply, .int t_told, .ref t_latest, .int t_latestSize, .ref t_made, .int t_many, .int t_askS, .int t_askR])), (t_registers, .inl (t_registers_c, 4, .inl t_registers_f)), (t_column, .inl (t_column_c, 3, .inl t_column_f)), (t_times, .inl (t_times_c, 13, .inl t_times_f)), (t_values, .inl (t_values_c, 39, .inl t_values_f)), (t_bytes, .inl (t_bytes_c, 280, .inl t_bytes_f)), (t_line, .inl (t_line_c, 80, .inl t_line_f)), (t_reply, .inl (t_reply_c, 80, .inl t_reply_f)), (t_latest, .inl (t_latest_c, 80, .inl t_latest_f)), (t_made, .inl (t_made_c, 300, .inl t_made_f))]) [.long ((t_times_f i1.toNatClampNeg).toInt64)] hx hb hml hown hB hN hK hP hD hS hA (ct_Mo_intAt l D F t t_registers t_column t_times t_values t_bytes t_line t_reply t_latest t_made t_registers_c t_column_c t_times_c t_values_c t_bytes_c t_line_c t_reply_c t_latest_c t_made_c t_secret t_thrown t_time t_capacity t_period t_columns t_entries t_connected t_expected t_next t_association t_size t_sent t_count t_told t_latestSize t_many t_askS t_askR t_registers_f t_column_f t_times_f t_values_f t_bytes_f t_line_f t_reply_f t_latest_f t_made_f 5 x17 hx17) kw_cd_Mo_intAt kw_ml_Mo_145 kw_im_Mo_intAt kw_se_Mo_intAt kw_in_Mo kd_Mo_intAt (by decide) ⟨_, _, _, rfl, rfl, rfl⟩ [0, 1, 2, 3, 4, 5, 6, 7, 8, 9] [] rfl rfl (by decide) [0, 1, 2, 3, 4, 5, 6, 7, 8] rfl [0, 1, 2, 3, 4, 5, 6, 7, 8, 9] (by decide) (fun _ => rfl) rfl hl.1 (bs_ler rfl) (by decide) dc_Mo_isIn_17 rfl (fun v17q _ H locs hq17 hP hD hS => ?_)
    have hq17 := hq17.symm
    subst hq17
    refine lv_i2l (v := x17.toInt64) hx hb dc_Mo_isIn_20 rfl ?_
    refine lv_ldc2 (v := 4294967295) hx hb hown (hB _ kw_co_Mo_189) dc_Mo_isIn_21 ?_
    refine lv_land hx hb dc_Mo_isIn_24 ?_
    refine W.lcmp hx hb dc_Mo_isIn_25 ?_
    refine lv_if_lt (tgt := 49) hx hb dc_Mo_isIn_26 (by decide) (fun h26 => ?_) (fun h26 => ?_)
    · have hm := bs_pos h26 hm
      refine lv_iconst (v := 0) hx hb dc_Mo_isIn_49 (by decide +kernel) ?_
      cases hm
      subst hQ
      exact bs_retZ hx hb hr hlk (by decide +kernel) () rfl hP hD hS dc_Mo_isIn_50
    · have hm := bs_neg h26 hm
      refine lv_lload_n hx hb dc_Mo_isIn_29 rfl (lv_at hl 0 rfl) ?_
      refine lv_aload_n hx hb dc_Mo_isIn_30 rfl (lv_at hl 1 rfl) ?_
      refine lv_bipush (v := 9) hx hb dc_Mo_isIn_31 (by decide +kernel) ?_
      obtain ⟨x33, hx33, hm⟩ := bs_bind hm
      refine bs_callVi 1 [] (fun _ => [(t, .inr (6, [.int t_secret, .int t_thrown, .int t_time, .ref t_registers, .int t_capacity, .int t_period, .int t_columns, .ref t_column, .int t_entries, .ref t_times, .ref t_values, .int t_connected, .int t_expected, .int t_next, .int t_association, .ref t_bytes, .int t_size, .int t_sent, .ref t_line, .int t_count, .ref t_reply, .int t_told, .ref t_latest, .int t_latestSize, .ref t_made, .int t_many, .int t_askS, .int t_askR])), (t_registers, .inl (t_registers_c, 4, .inl t_registers_f)), (t_column, .inl (t_column_c, 3, .inl t_column_f)), (t_times, .inl (t_times_c, 13, .inl t_times_f)), (t_values, .inl (t_values_c, 39, .inl t_values_f)), (t_bytes, .inl (t_bytes_c, 280, .inl t_bytes_f)), (t_line, .inl (t_line_c, 80, .inl t_line_f)), (t_reply, .inl (t_reply_c, 80, .inl t_reply_f)), (t_latest, .inl (t_latest_c, 80, .inl t_latest_f)), (t_made, .inl (t_made_c, 300, .inl t_made_f))]) [.long ((t_times_f i1.toNatClampNeg).toInt64)] hx hb hml hown hB hN hK hP hD hS hA (ct_Mo_intAt l D F t t_registers t_column t_times t_values t_bytes t_line t_reply t_latest t_made t_registers_c t_column_c t_times_c t_values_c t_bytes_c t_line_c t_reply_c t_latest_c t_made_c t_secret t_thrown t_time t_capacity t_period t_columns t_entries t_connected t_expected t_next t_association t_size t_sent t_count t_told t_latestSize t_many t_askS t_askR t_registers_f t_column_f t_times_f t_values_f t_bytes_f t_line_f t_reply_f t_latest_f t_made_f 9 x33 hx33) kw_cd_Mo_intAt kw_ml_Mo_145 kw_im_Mo_intAt kw_se_Mo_intAt kw_in_Mo kd_Mo_intAt (by decide) ⟨_, _, _, rfl, rfl, rfl⟩ [0, 1, 2, 3, 4, 5, 6, 7, 8, 9] [] rfl rfl (by decide) [0, 1, 2, 3, 4, 5, 6, 7, 8] rfl [0, 1, 2, 3, 4, 5, 6, 7, 8, 9] (by decide) (fun _ => rfl) rfl hl.1 (bs_ler rfl) (by decide) dc_Mo_isIn_33 rfl (fun v33q _ H locs hq33 hP hD hS => ?_)
      have hq33 := hq33.symm
      subst hq33
      refine lv_i2l (v := x33.toInt64) hx hb dc_Mo_isIn_36 rfl ?_
      refine lv_ldc2 (v := 4294967295) hx hb hown (hB _ kw_co_Mo_189) dc_Mo_isIn_37 ?_
      refine lv_land hx hb dc_Mo_isIn_40 ?_
      refine W.lcmp hx hb dc_Mo_isIn_41 ?_
      refine lv_if_gt (tgt := 49) hx hb dc_Mo_isIn_42 (by decide) (fun h42 => ?_) (fun h42 => ?_)
      · have hm := bs_pos h42 hm
        refine lv_iconst (v := 0) hx hb dc_Mo_isIn_49 (by decide +kernel) ?_
        cases hm
        subst hQ
        exact bs_retZ hx hb hr hlk (by decide +kernel) () rfl hP hD hS dc_Mo_isIn_50
      · have hm := bs_neg h42 hm
        refine lv_iconst (v := 1) hx hb dc_Mo_isIn_45 (by decide +kernel) ?_
        refine lv_goto (tgt := 50) hx hb dc_Mo_isIn_46 (by decide) ?_
        cases hm
        subst hQ
        exact bs_retZ hx hb hr hlk (by decide +kernel) () rfl hP hD hS dc_Mo_isIn_50
  · have hm := bs_pos h1 hm
    refine lv_iconst (v := 1) hx hb dc_Mo_isIn_4 (by decide +kernel) ?_
    cases hm
    subst hQ
    exact bs_retZ hx hb hr hlk (by decide +kernel) () rfl hP hD hS dc_Mo_isIn_5
