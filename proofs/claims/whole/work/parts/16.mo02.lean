set_option maxHeartbeats 2000000 in
set_option maxRecDepth 100000 in
theorem ct_Mo_entry (l : Launch) (D : va_G) (F : Nat) (t : Nat) (t_registers : Nat) (t_column : Nat) (t_times : Nat) (t_values : Nat) (t_bytes : Nat) (t_line : Nat) (t_reply : Nat) (t_latest : Nat) (t_made : Nat) (t_registers_c : ClassId) (t_column_c : ClassId) (t_times_c : ClassId) (t_values_c : ClassId) (t_bytes_c : ClassId) (t_line_c : ClassId) (t_reply_c : ClassId) (t_latest_c : ClassId) (t_made_c : ClassId) (t_secret : Int32) (t_thrown : Int32) (t_time : Int32) (t_capacity : Int32) (t_period : Int32) (t_columns : Int32) (t_entries : Int32) (t_connected : Int32) (t_expected : Int32) (t_next : Int32) (t_association : Int32) (t_size : Int32) (t_sent : Int32) (t_count : Int32) (t_told : Int32) (t_latestSize : Int32) (t_many : Int32) (t_askS : Int32) (t_askR : Int32) (t_registers_f : Nat → Int32) (t_column_f : Nat → Int32) (t_times_f : Nat → Int32) (t_values_f : Nat → Int32) (t_bytes_f : Nat → Int32) (t_line_f : Nat → Int32) (t_reply_f : Nat → Int32) (t_latest_f : Nat → Int32) (t_made_f : Nat → Int32) (i1 : Int32) (i2 : Int32) (r : Int32 × Int32) (hm : mm_Mo_entry F i1 i2 t_thrown t_columns t_entries t_times_f t_values_f = some r) :
    bs_CI l my_Mo_entry mb_Mo_entry 3 .int (bs_rm 0) D [.ref t, .int i1, .int i2] [(t_registers_c, .int), (t_column_c, .int), (t_times_c, .int), (t_values_c, .int), (t_bytes_c, .int), (t_line_c, .int), (t_reply_c, .int), (t_latest_c, .int), (t_made_c, .int)] [(t, .inr (6, [.int t_secret, .int t_thrown, .int t_time, .ref t_registers, .int t_capacity, .int t_period, .int t_columns, .ref t_column, .int t_entries, .ref t_times, .ref t_values, .int t_connected, .int t_expected, .int t_next, .int t_association, .ref t_bytes, .int t_size, .int t_sent, .ref t_line, .int t_count, .ref t_reply, .int t_told, .ref t_latest, .int t_latestSize, .ref t_made, .int t_many, .int t_askS, .int t_askR])), (t_registers, .inl (t_registers_c, 4, .inl t_registers_f)), (t_column, .inl (t_column_c, 3, .inl t_column_f)), (t_times, .inl (t_times_c, 13, .inl t_times_f)), (t_values, .inl (t_values_c, 39, .inl t_values_f)), (t_bytes, .inl (t_bytes_c, 280, .inl t_bytes_f)), (t_line, .inl (t_line_c, 80, .inl t_line_f)), (t_reply, .inl (t_reply_c, 80, .inl t_reply_f)), (t_latest, .inl (t_latest_c, 80, .inl t_latest_f)), (t_made, .inl (t_made_c, 300, .inl t_made_f))] (S := Unit) (fun v (_ : Unit) => v = r.1) (fun _ => [(t, .inr (6, [.int t_secret, .int r.2, .int t_time, .ref t_registers, .int t_capacity, .int t_period, .int t_columns, .ref t_column, .int t_entries, .ref t_times, .ref t_values, .int t_connected, .int t_expected, .int t_next, .int t_association, .ref t_bytes, .int t_size, .int t_sent, .ref t_line, .int t_count, .ref t_reply, .int t_told, .ref t_latest, .int t_latestSize, .ref t_made, .int t_many, .int t_askS, .int t_askR])), (t_registers, .inl (t_registers_c, 4, .inl t_registers_f)), (t_column, .inl (t_column_c, 3, .inl t_column_f)), (t_times, .inl (t_times_c, 13, .inl t_times_f)), (t_values, .inl (t_values_c, 39, .inl t_values_f)), (t_bytes, .inl (t_bytes_c, 280, .inl t_bytes_f)), (t_line, .inl (t_line_c, 80, .inl t_line_f)), (t_reply, .inl (t_reply_c, 80, .inl t_reply_f)), (t_latest, .inl (t_latest_c, 80, .inl t_latest_f)), (t_made, .inl (t_made_c, 300, .inl t_made_f))]) := by
  refine bs_CI.mk (by decide +kernel) (bs_ler rfl) ?_
  intro p e s m below meth c ls A hx hb hr hml hlk hown hB hN hP hK hD hS hA hl
  refine bs_genQ (fun Q hQ => ?_)
  have hJ34 : ∀ (v1 : Int32) (v2 : Int32) (s0 : Int32) (t_thrown : Int32) (ls : Array Slot) (H : Heap) (locs : List Loc), mm_Mo_entry_J34 F v1 v2 s0 t_thrown t_times_f t_values_f = some r → lv_has ls 3 [(0, .ref t), (1, .int v1), (2, .int v2)] → va_P D bs_cl [(t, .inr (6, [.int t_secret, .int t_thrown, .int t_time, .ref t_registers, .int t_capacity, .int t_period, .int t_columns, .ref t_column, .int t_entries, .ref t_times, .ref t_values, .int t_connected, .int t_expected, .int t_next, .int t_association, .ref t_bytes, .int t_size, .int t_sent, .ref t_line, .int t_count, .ref t_reply, .int t_told, .ref t_latest, .int t_latestSize, .ref t_made, .int t_many, .int t_askS, .int t_askR])), (t_registers, .inl (t_registers_c, 4, .inl t_registers_f)), (t_column, .inl (t_column_c, 3, .inl t_column_f)), (t_times, .inl (t_times_c, 13, .inl t_times_f)), (t_values, .inl (t_values_c, 39, .inl t_values_f)), (t_bytes, .inl (t_bytes_c, 280, .inl t_bytes_f)), (t_line, .inl (t_line_c, 80, .inl t_line_f)), (t_reply, .inl (t_reply_c, 80, .inl t_reply_f)), (t_latest, .inl (t_latest_c, 80, .inl t_latest_f)), (t_made, .inl (t_made_c, 300, .inl t_made_f))] H → va_D A [(t, .inr (6, [.int t_secret, .int t_thrown, .int t_time, .ref t_registers, .int t_capacity, .int t_period, .int t_columns, .ref t_column, .int t_entries, .ref t_times, .ref t_values, .int t_connected, .int t_expected, .int t_next, .int t_association, .ref t_bytes, .int t_size, .int t_sent, .ref t_line, .int t_count, .ref t_reply, .int t_told, .ref t_latest, .int t_latestSize, .ref t_made, .int t_many, .int t_askS, .int t_askR])), (t_registers, .inl (t_registers_c, 4, .inl t_registers_f)), (t_column, .inl (t_column_c, 3, .inl t_column_f)), (t_times, .inl (t_times_c, 13, .inl t_times_f)), (t_values, .inl (t_values_c, 39, .inl t_values_f)), (t_bytes, .inl (t_bytes_c, 280, .inl t_bytes_f)), (t_line, .inl (t_line_c, 80, .inl t_line_f)), (t_reply, .inl (t_reply_c, 80, .inl t_reply_f)), (t_latest, .inl (t_latest_c, 80, .inl t_latest_f)), (t_made, .inl (t_made_c, 300, .inl t_made_f))] → va_S A s.heap H locs → W p l e (bs_rm 0) s m [.ref t, .int i1, .int i2].toArray below meth c H locs 0 0 Q (F0 m 34 ls [.int s0, .ref t]) := by
    intro v1 v2 s0 t_thrown ls H locs hm hl hP hD hS
    have hm := (mq_Mo_entry_J34 F v1 v2 s0 t_thrown t_times_f t_values_f).symm.trans hm
    refine va_put (ci := 6) (v := .int s0) (ty := .int) (C := cn_Mo) (T := cf_Mo) (N := 28) hx hb hB ki_Mo ct_Mo cp_Mo cd_Mo hown hK hP hD hS 0 rfl rfl 1 (by decide) (hB _ kw_fl_Mo_47) (fun _ h => h) rfl (by decide +kernel) rfl rfl (bs_ltr rfl) dc_Mo_entry_34 (fun H locs hP hD hS => ?_)
    obtain ⟨hP, hD⟩ := bs_say [(t, .inr (6, [.int t_secret, .int s0, .int t_time, .ref t_registers, .int t_capacity, .int t_period, .int t_columns, .ref t_column, .int t_entries, .ref t_times, .ref t_values, .int t_connected, .int t_expected, .int t_next, .int t_association, .ref t_bytes, .int t_size, .int t_sent, .ref t_line, .int t_count, .ref t_reply, .int t_told, .ref t_latest, .int t_latestSize, .ref t_made, .int t_many, .int t_askS, .int t_askR])), (t_registers, .inl (t_registers_c, 4, .inl t_registers_f)), (t_column, .inl (t_column_c, 3, .inl t_column_f)), (t_times, .inl (t_times_c, 13, .inl t_times_f)), (t_values, .inl (t_values_c, 39, .inl t_values_f)), (t_bytes, .inl (t_bytes_c, 280, .inl t_bytes_f)), (t_line, .inl (t_line_c, 80, .inl t_line_f)), (t_reply, .inl (t_reply_c, 80, .inl t_reply_f)), (t_latest, .inl (t_latest_c, 80, .inl t_latest_f)), (t_made, .inl (t_made_c, 300, .inl t_made_f))] hP hD
    refine lv_aload_n hx hb dc_Mo_entry_37 rfl (lv_at hl 0 rfl) ?_
    refine va_get (ci := 6) (v := .int s0) (C := cn_Mo) (T := cf_Mo) (N := 28) hx hb hB ki_Mo hown hK hP 0 rfl rfl 1 (by decide) (hB _ kw_fl_Mo_47) (fun _ h => h) rfl dc_Mo_entry_38 ?_
    refine lv_if_le (tgt := 48) hx hb dc_Mo_entry_41 (by decide) (fun h41 => ?_) (fun h41 => ?_)
    · have hm := bs_pos h41 hm
      refine lv_iload_n hx hb dc_Mo_entry_48 rfl (lv_at hl 2 rfl) ?_
      refine lv_if_ne (tgt := 61) hx hb dc_Mo_entry_49 (by decide) (fun h49 => ?_) (fun h49 => ?_)
      · have hm := bs_neg h49 hm
        refine lv_aload_n hx hb dc_Mo_entry_61 rfl (lv_at hl 0 rfl) ?_
        refine va_get (ci := 6) (v := .ref t_values) (C := cn_Mo) (T := cf_Mo) (N := 28) hx hb hB ki_Mo hown hK hP 0 rfl rfl 10 (by decide) (hB _ kw_fl_Mo_23) (fun _ h => h) rfl dc_Mo_entry_62 ?_
        refine lv_iconst (v := 3) hx hb dc_Mo_entry_65 (by decide +kernel) ?_
        refine lv_iload_n hx hb dc_Mo_entry_66 rfl (lv_at hl 1 rfl) ?_
        refine lv_imul hx hb dc_Mo_entry_67 ?_
        refine lv_iload_n hx hb dc_Mo_entry_68 rfl (lv_at hl 2 rfl) ?_
        refine lv_iadd hx hb dc_Mo_entry_69 ?_
        refine lv_iconst (v := 1) hx hb dc_Mo_entry_70 (by decide +kernel) ?_
        refine lv_isub hx hb dc_Mo_entry_71 ?_
        obtain ⟨hz72, hm⟩ := bs_nn hm
        refine va_iald hx hb hK hP 4 3 rfl rfl hz72 dc_Mo_entry_72 ?_
        cases hm
        subst hQ
        exact bs_retI hx hb hr hlk () rfl hP hD hS dc_Mo_entry_73
      · have hm := bs_pos h49 hm
        refine lv_aload_n hx hb dc_Mo_entry_52 rfl (lv_at hl 0 rfl) ?_
        refine va_get (ci := 6) (v := .ref t_times) (C := cn_Mo) (T := cf_Mo) (N := 28) hx hb hB ki_Mo hown hK hP 0 rfl rfl 9 (by decide) (hB _ kw_fl_Mo_20) (fun _ h => h) rfl dc_Mo_entry_53 ?_
        refine lv_iload_n hx hb dc_Mo_entry_56 rfl (lv_at hl 1 rfl) ?_
        obtain ⟨hz57, hm⟩ := bs_nn hm
        refine va_iald hx hb hK hP 3 2 rfl rfl hz57 dc_Mo_entry_57 ?_
        refine lv_goto (tgt := 73) hx hb dc_Mo_entry_58 (by decide) ?_
        cases hm
        subst hQ
        exact bs_retI hx hb hr hlk () rfl hP hD hS dc_Mo_entry_73
    · have hm := bs_neg h41 hm
      refine lv_iconst (v := 0) hx hb dc_Mo_entry_44 (by decide +kernel) ?_
      refine lv_goto (tgt := 73) hx hb dc_Mo_entry_45 (by decide) ?_
      cases hm
      subst hQ
      exact bs_retI hx hb hr hlk () rfl hP hD hS dc_Mo_entry_73
  have hJ29 : ∀ (v1 : Int32) (v2 : Int32) (t_thrown : Int32) (ls : Array Slot) (H : Heap) (locs : List Loc), mm_Mo_entry_J29 F v1 v2 t_thrown t_times_f t_values_f = some r → lv_has ls 3 [(0, .ref t), (1, .int v1), (2, .int v2)] → va_P D bs_cl [(t, .inr (6, [.int t_secret, .int t_thrown, .int t_time, .ref t_registers, .int t_capacity, .int t_period, .int t_columns, .ref t_column, .int t_entries, .ref t_times, .ref t_values, .int t_connected, .int t_expected, .int t_next, .int t_association, .ref t_bytes, .int t_size, .int t_sent, .ref t_line, .int t_count, .ref t_reply, .int t_told, .ref t_latest, .int t_latestSize, .ref t_made, .int t_many, .int t_askS, .int t_askR])), (t_registers, .inl (t_registers_c, 4, .inl t_registers_f)), (t_column, .inl (t_column_c, 3, .inl t_column_f)), (t_times, .inl (t_times_c, 13, .inl t_times_f)), (t_values, .inl (t_values_c, 39, .inl t_values_f)), (t_bytes, .inl (t_bytes_c, 280, .inl t_bytes_f)), (t_line, .inl (t_line_c, 80, .inl t_line_f)), (t_reply, .inl (t_reply_c, 80, .inl t_reply_f)), (t_latest, .inl (t_latest_c, 80, .inl t_latest_f)), (t_made, .inl (t_made_c, 300, .inl t_made_f))] H → va_D A [(t, .inr (6, [.int t_secret, .int t_thrown, .int t_time, .ref t_registers, .int t_capacity, .int t_period, .int t_columns, .ref t_column, .int t_entries, .ref t_times, .ref t_values, .int t_connected, .int t_expected, .int t_next, .int t_association, .ref t_bytes, .int t_size, .int t_sent, .ref t_line, .int t_count, .ref t_reply, .int t_told, .ref t_latest, .int t_latestSize, .ref t_made, .int t_many, .int t_askS, .int t_askR])), (t_registers, .inl (t_registers_c, 4, .inl t_registers_f)), (t_column, .inl (t_column_c, 3, .inl t_column_f)), (t_times, .inl (t_times_c, 13, .inl t_times_f)), (t_values, .inl (t_values_c, 39, .inl t_values_f)), (t_bytes, .inl (t_bytes_c, 280, .inl t_bytes_f)), (t_line, .inl (t_line_c, 80, .inl t_line_f)), (t_reply, .inl (t_reply_c, 80, .inl t_reply_f)), (t_latest, .inl (t_latest_c, 80, .inl t_latest_f)), (t_made, .inl (t_made_c, 300, .inl t_made_f))] → va_S A s.heap H locs → W p l e (bs_rm 0) s m [.ref t, .int i1, .int i2].toArray below meth c H locs 0 0 Q (F0 m 29 ls [.ref t]) := by
    intro v1 v2 t_thrown ls H locs hm hl hP hD hS
    have hm := (mq_Mo_entry_J29 F v1 v2 t_thrown t_times_f t_values_f).symm.trans hm
    refine lv_iconst (v := 2) hx hb dc_Mo_entry_29 (by decide +kernel) ?_
    refine lv_goto (tgt := 34) hx hb dc_Mo_entry_30 (by decide) ?_
    exact hJ34 v1 v2 2 t_thrown ls _ _ hm hl hP hD hS
  have hJ13 : ∀ (v1 : Int32) (v2 : Int32) (t_thrown : Int32) (ls : Array Slot) (H : Heap) (locs : List Loc), mm_Mo_entry_J13 F v1 v2 t_thrown t_times_f t_values_f = some r → lv_has ls 3 [(0, .ref t), (1, .int v1), (2, .int v2)] → va_P D bs_cl [(t, .inr (6, [.int t_secret, .int t_thrown, .int t_time, .ref t_registers, .int t_capacity, .int t_period, .int t_columns, .ref t_column, .int t_entries, .ref t_times, .ref t_values, .int t_connected, .int t_expected, .int t_next, .int t_association, .ref t_bytes, .int t_size, .int t_sent, .ref t_line, .int t_count, .ref t_reply, .int t_told, .ref t_latest, .int t_latestSize, .ref t_made, .int t_many, .int t_askS, .int t_askR])), (t_registers, .inl (t_registers_c, 4, .inl t_registers_f)), (t_column, .inl (t_column_c, 3, .inl t_column_f)), (t_times, .inl (t_times_c, 13, .inl t_times_f)), (t_values, .inl (t_values_c, 39, .inl t_values_f)), (t_bytes, .inl (t_bytes_c, 280, .inl t_bytes_f)), (t_line, .inl (t_line_c, 80, .inl t_line_f)), (t_reply, .inl (t_reply_c, 80, .inl t_reply_f)), (t_latest, .inl (t_latest_c, 80, .inl t_latest_f)), (t_made, .inl (t_made_c, 300, .inl t_made_f))] H → va_D A [(t, .inr (6, [.int t_secret, .int t_thrown, .int t_time, .ref t_registers, .int t_capacity, .int t_period, .int t_columns, .ref t_column, .int t_entries, .ref t_times, .ref t_values, .int t_connected, .int t_expected, .int t_next, .int t_association, .ref t_bytes, .int t_size, .int t_sent, .ref t_line, .int t_count, .ref t_reply, .int t_told, .ref t_latest, .int t_latestSize, .ref t_made, .int t_many, .int t_askS, .int t_askR])), (t_registers, .inl (t_registers_c, 4, .inl t_registers_f)), (t_column, .inl (t_column_c, 3, .inl t_column_f)), (t_times, .inl (t_times_c, 13, .inl t_times_f)), (t_values, .inl (t_values_c, 39, .inl t_values_f)), (t_bytes, .inl (t_bytes_c, 280, .inl t_bytes_f)), (t_line, .inl (t_line_c, 80, .inl t_line_f)), (t_reply, .inl (t_reply_c, 80, .inl t_reply_f)), (t_latest, .inl (t_latest_c, 80, .inl t_latest_f)), (t_made, .inl (t_made_c, 300, .inl t_made_f))] → va_S A s.heap H locs → W p l e (bs_rm 0) s m [.ref t, .int i1, .int i2].toArray below meth c H locs 0 0 Q (F0 m 13 ls [.ref t]) := by
    intro v1 v2 t_thrown ls H locs hm hl hP hD hS
    have hm := (mq_Mo_entry_J13 F v1 v2 t_thrown t_times_f t_values_f).symm.trans hm
    refine lv_iconst (v := 1) hx hb dc_Mo_entry_13 (by decide +kernel) ?_
    refine lv_goto (tgt := 34) hx hb dc_Mo_entry_14 (by decide) ?_
    exact hJ34 v1 v2 1 t_thrown ls _ _ hm hl hP hD hS
  have hl : lv_has ls 3 [(0, .ref t), (1, .int i1), (2, .int i2)] := hl
  have hm := (mq_Mo_entry F i1 i2 t_thrown t_columns t_entries t_times_f t_values_f).symm.trans hm
  refine lv_aload_n hx hb dc_Mo_entry_0 rfl (lv_at hl 0 rfl) ?_
  refine lv_iload_n hx hb dc_Mo_entry_1 rfl (lv_at hl 1 rfl) ?_
  refine lv_if_lt (tgt := 13) hx hb dc_Mo_entry_2 (by decide) (fun h2 => ?_) (fun h2 => ?_)
  · have hm := bs_pos h2 hm
    exact hJ13 i1 i2 t_thrown ls _ _ hm hl hP hD hS
  · have hm := bs_neg h2 hm
    refine lv_iload_n hx hb dc_Mo_entry_5 rfl (lv_at hl 1 rfl) ?_
    refine lv_aload_n hx hb dc_Mo_entry_6 rfl (lv_at hl 0 rfl) ?_
    refine va_get (ci := 6) (v := .int t_entries) (C := cn_Mo) (T := cf_Mo) (N := 28) hx hb hB ki_Mo hown hK hP 0 rfl rfl 8 (by decide) (hB _ kw_fl_Mo_50) (fun _ h => h) rfl dc_Mo_entry_7 ?_
    refine lv_icmp_lt (tgt := 17) hx hb dc_Mo_entry_10 (by decide) (fun h10 => ?_) (fun h10 => ?_)
    · have hm := bs_pos h10 hm
      refine lv_iload_n hx hb dc_Mo_entry_17 rfl (lv_at hl 2 rfl) ?_
      refine lv_if_lt (tgt := 29) hx hb dc_Mo_entry_18 (by decide) (fun h18 => ?_) (fun h18 => ?_)
      · have hm := bs_pos h18 hm
        exact hJ29 i1 i2 t_thrown ls _ _ hm hl hP hD hS
      · have hm := bs_neg h18 hm
        refine lv_iload_n hx hb dc_Mo_entry_21 rfl (lv_at hl 2 rfl) ?_
        refine lv_aload_n hx hb dc_Mo_entry_22 rfl (lv_at hl 0 rfl) ?_
        refine va_get (ci := 6) (v := .int t_columns) (C := cn_Mo) (T := cf_Mo) (N := 28) hx hb hB ki_Mo hown hK hP 0 rfl rfl 6 (by decide) (hB _ kw_fl_Mo_13) (fun _ h => h) rfl dc_Mo_entry_23 ?_
        refine lv_icmp_le (tgt := 33) hx hb dc_Mo_entry_26 (by decide) (fun h26 => ?_) (fun h26 => ?_)
        · have hm := bs_pos h26 hm
          refine lv_iconst (v := 0) hx hb dc_Mo_entry_33 (by decide +kernel) ?_
          exact hJ34 i1 i2 0 t_thrown ls _ _ hm hl hP hD hS
        · have hm := bs_neg h26 hm
          exact hJ29 i1 i2 t_thrown ls _ _ hm hl hP hD hS
    · have hm := bs_neg h10 hm
      exact hJ13 i1 i2 t_thrown ls _ _ hm hl hP hD hS
set_option maxHeartbeats 2000000 in
set_option maxRecDepth 100000 in
theorem ct_Mo_link (l : Launch) (D : va_G) (F : Nat) (t : Nat) (t_registers : Nat) (t_column : Nat) (t_times : Nat) (t_values : Nat) (t_bytes : Nat) (t_line : Nat) (t_reply : Nat) (t_latest : Nat) (t_made : Nat) (t_registers_c : ClassId) (t_column_c : ClassId) (t_times_c : ClassId) (t_values_c : ClassId) (t_bytes_c : ClassId) (t_line_c : ClassId) (t_reply_c : ClassId) (t_latest_c : ClassId) (t_made_c : ClassId) (t_secret : Int32) (t_thrown : Int32) (t_time : Int32) (t_capacity : Int32) (t_period : Int32) (t_columns : Int32) (t_entries : Int32) (t_connected : Int32) (t_expected : Int32) (t_next : Int32) (t_association : Int32) (t_size : Int32) (t_sent : Int32) (t_count : Int32) (t_told : Int32) (t_latestSize : Int32) (t_many : Int32) (t_askS : Int32) (t_askR : Int32) (t_registers_f : Nat → Int32) (t_column_f : Nat → Int32) (t_times_f : Nat → Int32) (t_values_f : Nat → Int32) (t_bytes_f : Nat → Int32) (t_line_f : Nat → Int32) (t_reply_f : Nat → Int32) (t_latest_f : Nat → Int32) (t_made_f : Nat → Int32) (r : Int32 × Int32) (hm : mm_Mo_link F t_thrown t_connected t_expected t_next t_association = some r) :
    bs_CI l my_Mo_link mb_Mo_link 1 .int (bs_rm 0) D [.ref t] [(t_registers_c, .int), (t_column_c, .int), (t_times_c, .int), (t_values_c, .int), (t_bytes_c, .int), (t_line_c, .int), (t_reply_c, .int), (t_latest_c, .int), (t_made_c, .int)] [(t, .inr (6, [.int t_secret, .int t_thrown, .int t_time, .ref t_registers, .int t_capacity, .int t_period, .int t_columns, .ref t_column, .int t_entries, .ref t_times, .ref t_values, .int t_connected, .int t_expected, .int t_next, .int t_association, .ref t_bytes, .int t_size, .int t_sent, .ref t_line, .int t_count, .ref t_reply, .int t_told, .ref t_latest, .int t_latestSize, .ref t_made, .int t_many, .int t_askS, .int t_askR])), (t_registers, .inl (t_registers_c, 4, .inl t_registers_f)), (t_column, .inl (t_column_c, 3, .inl t_column_f)), (t_times, .inl (t_times_c, 13, .inl t_times_f)), (t_values, .inl (t_values_c, 39, .inl t_values_f)), (t_bytes, .inl (t_bytes_c, 280, .inl t_bytes_f)), (t_line, .inl (t_line_c, 80, .inl t_line_f)), (t_reply, .inl (t_reply_c, 80, .inl t_reply_f)), (t_latest, .inl (t_latest_c, 80, .inl t_latest_f)), (t_made, .inl (t_made_c, 300, .inl t_made_f))] (S := Unit) (fun v (_ : Unit) => v = r.1) (fun _ => [(t, .inr (6, [.int t_secret, .int r.2, .int t_time, .ref t_registers, .int t_capacity, .int t_period, .int t_columns, .ref t_column, .int t_entries, .ref t_times, .ref t_values, .int t_connected, .int t_expected, .int t_next, .int t_association, .ref t_bytes, .int t_size, .int t_sent, .ref t_line, .int t_count, .ref t_reply, .int t_told, .ref t_latest, .int t_latestSize, .ref t_made, .int t_many, .int t_askS, .int t_askR])), (t_registers, .inl (t_registers_c, 4, .inl t_registers_f)), (t_column, .inl (t_column_c, 3, .inl t_column_f)), (t_times, .inl (t_times_c, 13, .inl t_times_f)), (t_values, .inl (t_values_c, 39, .inl t_values_f)), (t_bytes, .inl (t_bytes_c, 280, .inl t_bytes_f)), (t_line, .inl (t_line_c, 80, .inl t_line_f)), (t_reply, .inl (t_reply_c, 80, .inl t_reply_f)), (t_latest, .inl (t_latest_c, 80, .inl t_latest_f)), (t_made, .inl (t_made_c, 300, .inl t_made_f))]) := by
  refine bs_CI.mk (by decide +kernel) (bs_ler rfl) ?_
  intro p e s m below meth c ls A hx hb hr hml hlk hown hB hN hP hK hD hS hA hl
  refine bs_genQ (fun Q hQ => ?_)
  have hl : lv_has ls 1 [(0, .ref t)] := hl
  have hm := (mq_Mo_link F t_thrown t_connected t_expected t_next t_association).symm.trans hm
  refine lv_aload_n hx hb dc_Mo_link_0 rfl (lv_at hl 0 rfl) ?_
  refine lv_iconst (v := 0) hx hb dc_Mo_link_1 (by decide +kernel) ?_
  refine va_put (ci := 6) (v := .int 0) (ty := .int) (C := cn_Mo) (T := cf_Mo) (N := 28) hx hb hB ki_Mo ct_Mo cp_Mo cd_Mo hown hK hP hD hS 0 rfl rfl 1 (by decide) (hB _ kw_fl_Mo_47) (fun _ h => h) rfl (by decide +kernel) rfl rfl (bs_ltr rfl) dc_Mo_link_2 (fun H locs hP hD hS => ?_)
  obtain ⟨hP, hD⟩ := bs_say [(t, .inr (6, [.int t_secret, .int 0, .int t_time, .ref t_registers, .int t_capacity, .int t_period, .int t_columns, .ref t_column, .int t_entries, .ref t_times, .ref t_values, .int t_connected, .int t_expected, .int t_next, .int t_association, .ref t_bytes, .int t_size, .int t_sent, .ref t_line, .int t_count, .ref t_reply, .int t_told, .ref t_latest, .int t_latestSize, .ref t_made, .int t_many, .int t_askS, .int t_askR])), (t_registers, .inl (t_registers_c, 4, .inl t_registers_f)), (t_column, .inl (t_column_c, 3, .inl t_column_f)), (t_times, .inl (t_times_c, 13, .inl t_times_f)), (t_values, .inl (t_values_c, 39, .inl t_values_f)), (t_bytes, .inl (t_bytes_c, 280, .inl t_bytes_f)), (t_line, .inl (t_line_c, 80, .inl t_line_f)), (t_reply, .inl (t_reply_c, 80, .inl t_reply_f)), (t_latest, .inl (t_latest_c, 80, .inl t_latest_f)), (t_made, .inl (t_made_c, 300, .inl t_made_f))] hP hD
  refine lv_aload_n hx hb dc_Mo_link_5 rfl (lv_at hl 0 rfl) ?_
  refine va_get (ci := 6) (v := .int t_connected) (C := cn_Mo) (T := cf_Mo) (N := 28) hx hb hB ki_Mo hown hK hP 0 rfl rfl 11 (by decide) (hB _ kw_fl_Mo_67) (fun _ h => h) rfl dc_Mo_link_6 ?_
  refine lv_if_eq (tgt := 40) hx hb dc_Mo_link_9 (by decide) (fun h9 => ?_) (fun h9 => ?_)
  · have hm := bs_pos h9 hm
    refine lv_iconst (v := 0) hx hb dc_Mo_link_40 (by decide +kernel) ?_
    cases hm
    subst hQ
    exact bs_retI hx hb hr hlk () rfl hP hD hS dc_Mo_link_41
  · have hm := bs_neg h9 hm
    refine lv_iconst (v := 1) hx hb dc_Mo_link_12 (by decide +kernel) ?_
    refine lv_iconst (v := 4) hx hb dc_Mo_link_13 (by decide +kernel) ?_
    refine lv_aload_n hx hb dc_Mo_link_14 rfl (lv_at hl 0 rfl) ?_
    refine va_get (ci := 6) (v := .int t_association) (C := cn_Mo) (T := cf_Mo) (N := 28) hx hb hB ki_Mo hown hK hP 0 rfl rfl 14 (by decide) (hB _ kw_fl_Mo_71) (fun _ h => h) rfl dc_Mo_link_15 ?_
    refine lv_imul hx hb dc_Mo_link_18 ?_
    refine lv_iadd hx hb dc_Mo_link_19 ?_
    refine lv_bipush (v := 16) hx hb dc_Mo_link_20 (by decide +kernel) ?_
    refine lv_aload_n hx hb dc_Mo_link_22 rfl (lv_at hl 0 rfl) ?_
    refine va_get (ci := 6) (v := .int t_expected) (C := cn_Mo) (T := cf_Mo) (N := 28) hx hb hB ki_Mo hown hK hP 0 rfl rfl 12 (by decide) (hB _ kw_fl_Mo_74) (fun _ h => h) rfl dc_Mo_link_23 ?_
    refine lv_imul hx hb dc_Mo_link_26 ?_
    refine lv_iadd hx hb dc_Mo_link_27 ?_
    refine lv_sipush (v := 128) hx hb dc_Mo_link_28 (by decide +kernel) ?_
    refine lv_aload_n hx hb dc_Mo_link_31 rfl (lv_at hl 0 rfl) ?_
    refine va_get (ci := 6) (v := .int t_next) (C := cn_Mo) (T := cf_Mo) (N := 28) hx hb hB ki_Mo hown hK hP 0 rfl rfl 13 (by decide) (hB _ kw_fl_Mo_77) (fun _ h => h) rfl dc_Mo_link_32 ?_
    refine lv_imul hx hb dc_Mo_link_35 ?_
    refine lv_iadd hx hb dc_Mo_link_36 ?_
    refine lv_goto (tgt := 41) hx hb dc_Mo_link_37 (by decide) ?_
    cases hm
    subst hQ
    exact bs_retI hx hb hr hlk () rfl hP hD hS dc_Mo_link_41
set_option maxHeartbeats 2000000 in
set_option maxRecDepth 100000 in
theorem ct_Mo_put (l : Launch) (D : va_G) (F : Nat) (t : Nat) (t_registers : Nat) (t_column : Nat) (t_times : Nat) (t_values : Nat) (t_bytes : Nat) (t_line : Nat) (t_reply : Nat) (t_latest : Nat) (t_made : Nat) (t_registers_c : ClassId) (t_column_c : ClassId) (t_times_c : ClassId) (t_values_c : ClassId) (t_bytes_c : ClassId) (t_line_c : ClassId) (t_reply_c : ClassId) (t_latest_c : ClassId) (t_made_c : ClassId) (t_secret : Int32) (t_thrown : Int32) (t_time : Int32) (t_capacity : Int32) (t_period : Int32) (t_columns : Int32) (t_entries : Int32) (t_connected : Int32) (t_expected : Int32) (t_next : Int32) (t_association : Int32) (t_size : Int32) (t_sent : Int32) (t_count : Int32) (t_told : Int32) (t_latestSize : Int32) (t_many : Int32) (t_askS : Int32) (t_askR : Int32) (t_registers_f : Nat → Int32) (t_column_f : Nat → Int32) (t_times_f : Nat → Int32) (t_values_f : Nat → Int32) (t_bytes_f : Nat → Int32) (t_line_f : Nat → Int32) (t_reply_f : Nat → Int32) (t_latest_f : Nat → Int32) (t_made_f : Nat → Int32) (i1 : Int32) (r : Int32 × Int32 × Int32 × (Nat → Int32)) (hm : mm_Mo_put F i1 t_thrown t_count t_line_f = some r) :
    bs_CI l my_Mo_put mb_Mo_put 2 .int (bs_rm 0) D [.ref t, .int i1] [(t_registers_c, .int), (t_column_c, .int), (t_times_c, .int), (t_values_c, .int), (t_bytes_c, .int), (t_line_c, .int), (t_reply_c, .int), (t_latest_c, .int), (t_made_c, .int)] [(t, .inr (6, [.int t_secret, .int t_thrown, .int t_time, .ref t_registers, .int t_capacity, .int t_period, .int t_columns, .ref t_column, .int t_entries, .ref t_times, .ref t_values, .int t_connected, .int t_expected, .int t_next, .int t_association, .ref t_bytes, .int t_size, .int t_sent, .ref t_line, .int t_count, .ref t_reply, .int t_told, .ref t_latest, .int t_latestSize, .ref t_made, .int t_many, .int t_askS, .int t_askR])), (t_registers, .inl (t_registers_c, 4, .inl t_registers_f)), (t_column, .inl (t_column_c, 3, .inl t_column_f)), (t_times, .inl (t_times_c, 13, .inl t_times_f)), (t_values, .inl (t_values_c, 39, .inl t_values_f)), (t_bytes, .inl (t_bytes_c, 280, .inl t_bytes_f)), (t_line, .inl (t_line_c, 80, .inl t_line_f)), (t_reply, .inl (t_reply_c, 80, .inl t_reply_f)), (t_latest, .inl (t_latest_c, 80, .inl t_latest_f)), (t_made, .inl (t_made_c, 300, .inl t_made_f))] (S := Unit) (fun v (_ : Unit) => v = r.1) (fun _ => [(t, .inr (6, [.int t_secret, .int r.2.1, .int t_time, .ref t_registers, .int t_capacity, .int t_period, .int t_columns, .ref t_column, .int t_entries, .ref t_times, .ref t_values, .int t_connected, .int t_expected, .int t_next, .int t_association, .ref t_bytes, .int t_size, .int t_sent, .ref t_line, .int r.2.2.1, .ref t_reply, .int t_told, .ref t_latest, .int t_latestSize, .ref t_made, .int t_many, .int t_askS, .int t_askR])), (t_registers, .inl (t_registers_c, 4, .inl t_registers_f)), (t_column, .inl (t_column_c, 3, .inl t_column_f)), (t_times, .inl (t_times_c, 13, .inl t_times_f)), (t_values, .inl (t_values_c, 39, .inl t_values_f)), (t_bytes, .inl (t_bytes_c, 280, .inl t_bytes_f)), (t_line, .inl (t_line_c, 80, .inl r.2.2.2)), (t_reply, .inl (t_reply_c, 80, .inl t_reply_f)), (t_latest, .inl (t_latest_c, 80, .inl t_latest_f)), (t_made, .inl (t_made_c, 300, .inl t_made_f))]) := by
  refine bs_CI.mk (by decide +kernel) (bs_ler rfl) ?_
  intro p e s m below meth c ls A hx hb hr hml hlk hown hB hN hP hK hD hS hA hl
  refine bs_genQ (fun Q hQ => ?_)
  have hJ30 : ∀ (v1 : Int32) (s0 : Int32) (t_thrown : Int32) (t_count : Int32) (t_line_f : Nat → Int32) (ls : Array Slot) (H : Heap) (locs : List Loc), mm_Mo_put_J30 F v1 s0 t_thrown t_count t_line_f = some r → lv_has ls 2 [(0, .ref t), (1, .int v1)] → va_P D bs_cl [(t, .inr (6, [.int t_secret, .int t_thrown, .int t_time, .ref t_registers, .int t_capacity, .int t_period, .int t_columns, .ref t_column, .int t_entries, .ref t_times, .ref t_values, .int t_connected, .int t_expected, .int t_next, .int t_association, .ref t_bytes, .int t_size, .int t_sent, .ref t_line, .int t_count, .ref t_reply, .int t_told, .ref t_latest, .int t_latestSize, .ref t_made, .int t_many, .int t_askS, .int t_askR])), (t_registers, .inl (t_registers_c, 4, .inl t_registers_f)), (t_column, .inl (t_column_c, 3, .inl t_column_f)), (t_times, .inl (t_times_c, 13, .inl t_times_f)), (t_values, .inl (t_values_c, 39, .inl t_values_f)), (t_bytes, .inl (t_bytes_c, 280, .inl t_bytes_f)), (t_line, .inl (t_line_c, 80, .inl t_line_f)), (t_reply, .inl (t_reply_c, 80, .inl t_reply_f)), (t_latest, .inl (t_latest_c, 80, .inl t_latest_f)), (t_made, .inl (t_made_c, 300, .inl t_made_f))] H → va_D A [(t, .inr (6, [.int t_secret, .int t_thrown, .int t_time, .ref t_registers, .int t_capacity, .int t_period, .int t_columns, .ref t_column, .int t_entries, .ref t_times, .ref t_values, .int t_connected, .int t_expected, .int t_next, .int t_association, .ref t_bytes, .int t_size, .int t_sent, .ref t_line, .int t_count, .ref t_reply, .int t_told, .ref t_latest, .int t_latestSize, .ref t_made, .int t_many, .int t_askS, .int t_askR])), (t_registers, .inl (t_registers_c, 4, .inl t_registers_f)), (t_column, .inl (t_column_c, 3, .inl t_column_f)), (t_times, .inl (t_times_c, 13, .inl t_times_f)), (t_values, .inl (t_values_c, 39, .inl t_values_f)), (t_bytes, .inl (t_bytes_c, 280, .inl t_bytes_f)), (t_line, .inl (t_line_c, 80, .inl t_line_f)), (t_reply, .inl (t_reply_c, 80, .inl t_reply_f)), (t_latest, .inl (t_latest_c, 80, .inl t_latest_f)), (t_made, .inl (t_made_c, 300, .inl t_made_f))] → va_S A s.heap H locs → W p l e (bs_rm 0) s m [.ref t, .int i1].toArray below meth c H locs 0 0 Q (F0 m 30 ls [.int s0, .ref t]) := by
    intro v1 s0 t_thrown t_count t_line_f ls H locs hm hl hP hD hS
    have hm := (mq_Mo_put_J30 F v1 s0 t_thrown t_count t_line_f).symm.trans hm
    refine va_put (ci := 6) (v := .int s0) (ty := .int) (C := cn_Mo) (T := cf_Mo) (N := 28) hx hb hB ki_Mo ct_Mo cp_Mo cd_Mo hown hK hP hD hS 0 rfl rfl 1 (by decide) (hB _ kw_fl_Mo_47) (fun _ h => h) rfl (by decide +kernel) rfl rfl (bs_ltr rfl) dc_Mo_put_30 (fun H locs hP hD hS => ?_)
    obtain ⟨hP, hD⟩ := bs_say [(t, .inr (6, [.int t_secret, .int s0, .int t_time, .ref t_registers, .int t_capacity, .int t_period, .int t_columns, .ref t_column, .int t_entries, .ref t_times, .ref t_values, .int t_connected, .int t_expected, .int t_next, .int t_association, .ref t_bytes, .int t_size, .int t_sent, .ref t_line, .int t_count, .ref t_reply, .int t_told, .ref t_latest, .int t_latestSize, .ref t_made, .int t_many, .int t_askS, .int t_askR])), (t_registers, .inl (t_registers_c, 4, .inl t_registers_f)), (t_column, .inl (t_column_c, 3, .inl t_column_f)), (t_times, .inl (t_times_c, 13, .inl t_times_f)), (t_values, .inl (t_values_c, 39, .inl t_values_f)), (t_bytes, .inl (t_bytes_c, 280, .inl t_bytes_f)), (t_line, .inl (t_line_c, 80, .inl t_line_f)), (t_reply, .inl (t_reply_c, 80, .inl t_reply_f)), (t_latest, .inl (t_latest_c, 80, .inl t_latest_f)), (t_made, .inl (t_made_c, 300, .inl t_made_f))] hP hD
    refine lv_aload_n hx hb dc_Mo_put_33 rfl (lv_at hl 0 rfl) ?_
    refine va_get (ci := 6) (v := .int s0) (C := cn_Mo) (T := cf_Mo) (N := 28) hx hb hB ki_Mo hown hK hP 0 rfl rfl 1 (by decide) (hB _ kw_fl_Mo_47) (fun _ h => h) rfl dc_Mo_put_34 ?_
    refine lv_if_le (tgt := 42) hx hb dc_Mo_put_37 (by decide) (fun h37 => ?_) (fun h37 => ?_)
    · have hm := bs_pos h37 hm
      refine lv_aload_n hx hb dc_Mo_put_42 rfl (lv_at hl 0 rfl) ?_
      refine va_get (ci := 6) (v := .ref t_line) (C := cn_Mo) (T := cf_Mo) (N := 28) hx hb hB ki_Mo hown hK hP 0 rfl rfl 18 (by decide) (hB _ kw_fl_Mo_29) (fun _ h => h) rfl dc_Mo_put_43 ?_
      refine lv_aload_n hx hb dc_Mo_put_46 rfl (lv_at hl 0 rfl) ?_
      refine va_get (ci := 6) (v := .int t_count) (C := cn_Mo) (T := cf_Mo) (N := 28) hx hb hB ki_Mo hown hK hP 0 rfl rfl 19 (by decide) (hB _ kw_fl_Mo_80) (fun _ h => h) rfl dc_Mo_put_47 ?_
      refine lv_iload_n hx hb dc_Mo_put_50 rfl (lv_at hl 1 rfl) ?_
      obtain ⟨hz51, hm⟩ := bs_nn hm
      refine va_iast hx hb hK hP hD hS 6 5 rfl rfl hz51 dc_Mo_put_51 (fun H locs hP hD hS => ?_)
      obtain ⟨hP, hD⟩ := bs_say [(t, .inr (6, [.int t_secret, .int s0, .int t_time, .ref t_registers, .int t_capacity, .int t_period, .int t_columns, .ref t_column, .int t_entries, .ref t_times, .ref t_values, .int t_connected, .int t_expected, .int t_next, .int t_association, .ref t_bytes, .int t_size, .int t_sent, .ref t_line, .int t_count, .ref t_reply, .int t_told, .ref t_latest, .int t_latestSize, .ref t_made, .int t_many, .int t_askS, .int t_askR])), (t_registers, .inl (t_registers_c, 4, .inl t_registers_f)), (t_column, .inl (t_column_c, 3, .inl t_column_f)), (t_times, .inl (t_times_c, 13, .inl t_times_f)), (t_values, .inl (t_values_c, 39, .inl t_values_f)), (t_bytes, .inl (t_bytes_c, 280, .inl t_bytes_f)), (t_line, .inl (t_line_c, 80, .inl (upd t_line_f t_count.toNatClampNeg v1))), (t_reply, .inl (t_reply_c, 80, .inl t_reply_f)), (t_latest, .inl (t_latest_c, 80, .inl t_latest_f)), (t_made, .inl (t_made_c, 300, .inl t_made_f))] hP hD
      refine lv_aload_n hx hb dc_Mo_put_52 rfl (lv_at hl 0 rfl) ?_
      refine lv_dup hx hb dc_Mo_put_53 rfl ?_
      refine va_get (ci := 6) (v := .int t_count) (C := cn_Mo) (T := cf_Mo) (N := 28) hx hb hB ki_Mo hown hK hP 0 rfl rfl 19 (by decide) (hB _ kw_fl_Mo_80) (fun _ h => h) rfl dc_Mo_put_54 ?_
      refine lv_iconst (v := 1) hx hb dc_Mo_put_57 (by decide +kernel) ?_
      refine lv_iadd hx hb dc_Mo_put_58 ?_
      refine va_put (ci := 6) (v := .int (t_count + 1)) (ty := .int) (C := cn_Mo) (T := cf_Mo) (N := 28) hx hb hB ki_Mo ct_Mo cp_Mo cd_Mo hown hK hP hD hS 0 rfl rfl 19 (by decide) (hB _ kw_fl_Mo_80) (fun _ h => h) rfl (by decide +kernel) rfl rfl (bs_ltr rfl) dc_Mo_put_59 (fun H locs hP hD hS => ?_)
      obtain ⟨hP, hD⟩ := bs_say [(t, .inr (6, [.int t_secret, .int s0, .int t_time, .ref t_registers, .int t_capacity, .int t_period, .int t_columns, .ref t_column, .int t_entries, .ref t_times, .ref t_values, .int t_connected, .int t_expected, .int t_next, .int t_association, .ref t_bytes, .int t_size, .int t_sent, .ref t_line, .int (t_count + 1), .ref t_reply, .int t_told, .ref t_latest, .int t_latestSize, .ref t_made, .int t_many, .int t_askS, .int t_askR])), (t_registers, .inl (t_registers_c, 4, .inl t_registers_f)), (t_column, .inl (t_column_c, 3, .inl t_column_f)), (t_times, .inl (t_times_c, 13, .inl t_times_f)), (t_values, .inl (t_values_c, 39, .inl t_values_f)), (t_bytes, .inl (t_bytes_c, 280, .inl t_bytes_f)), (t_line, .inl (t_line_c, 80, .inl (upd t_line_f t_count.toNatClampNeg v1))), (t_reply, .inl (t_reply_c, 80, .inl t_reply_f)), (t_latest, .inl (t_latest_c, 80, .inl t_latest_f)), (t_made, .inl (t_made_c, 300, .inl t_made_f))] hP hD
      refine lv_aload_n hx hb dc_Mo_put_62 rfl (lv_at hl 0 rfl) ?_
      refine va_get (ci := 6) (v := .int (t_count + 1)) (C := cn_Mo) (T := cf_Mo) (N := 28) hx hb hB ki_Mo hown hK hP 0 rfl rfl 19 (by decide) (hB _ kw_fl_Mo_80) (fun _ h => h) rfl dc_Mo_put_63 ?_
      cases hm
      subst hQ
      exact bs_retI hx hb hr hlk () rfl hP hD hS dc_Mo_put_66
    · have hm := bs_neg h37 hm
      refine lv_iconst (v := 0) hx hb dc_Mo_put_40 (by decide +kernel) ?_
      cases hm
      subst hQ
      exact bs_retI hx hb hr hlk () rfl hP hD hS dc_Mo_put_41
  have hJ12 : ∀ (v1 : Int32) (t_thrown : Int32) (t_count : Int32) (t_line_f : Nat → Int32) (ls : Array Slot) (H : Heap) (locs : List Loc), mm_Mo_put_J12 F v1 t_thrown t_count t_line_f = some r → lv_has ls 2 [(0, .ref t), (1, .int v1)] → va_P D bs_cl [(t, .inr (6, [.int t_secret, .int t_thrown, .int t_time, .ref t_registers, .int t_capacity, .int t_period, .int t_columns, .ref t_column, .int t_entries, .ref t_times, .ref t_values, .int t_connected, .int t_expected, .int t_next, .int t_association, .ref t_bytes, .int t_size, .int t_sent, .ref t_line, .int t_count, .ref t_reply, .int t_told, .ref t_latest, .int t_latestSize, .ref t_made, .int t_many, .int t_askS, .int t_askR])), (t_registers, .inl (t_registers_c, 4, .inl t_registers_f)), (t_column, .inl (t_column_c, 3, .inl t_column_f)), (t_times, .inl (t_times_c, 13, .inl t_times_f)), (t_values, .inl (t_values_c, 39, .inl t_values_f)), (t_bytes, .inl (t_bytes_c, 280, .inl t_bytes_f)), (t_line, .inl (t_line_c, 80, .inl t_line_f)), (t_reply, .inl (t_reply_c, 80, .inl t_reply_f)), (t_latest, .inl (t_latest_c, 80, .inl t_latest_f)), (t_made, .inl (t_made_c, 300, .inl t_made_f))] H → va_D A [(t, .inr (6, [.int t_secret, .int t_thrown, .int t_time, .ref t_registers, .int t_capacity, .int t_period, .int t_columns, .ref t_column, .int t_entries, .ref t_times, .ref t_values, .int t_connected, .int t_expected, .int t_next, .int t_association, .ref t_bytes, .int t_size, .int t_sent, .ref t_line, .int t_count, .ref t_reply, .int t_told, .ref t_latest, .int t_latestSize, .ref t_made, .int t_many, .int t_askS, .int t_askR])), (t_registers, .inl (t_registers_c, 4, .inl t_registers_f)), (t_column, .inl (t_column_c, 3, .inl t_column_f)), (t_times, .inl (t_times_c, 13, .inl t_times_f)), (t_values, .inl (t_values_c, 39, .inl t_values_f)), (t_bytes, .inl (t_bytes_c, 280, .inl t_bytes_f)), (t_line, .inl (t_line_c, 80, .inl t_line_f)), (t_reply, .inl (t_reply_c, 80, .inl t_reply_f)), (t_latest, .inl (t_latest_c, 80, .inl t_latest_f)), (t_made, .inl (t_made_c, 300, .inl t_made_f))] → va_S A s.heap H locs → W p l e (bs_rm 0) s m [.ref t, .int i1].toArray below meth c H locs 0 0 Q (F0 m 12 ls [.ref t]) := by
    intro v1 t_thrown t_count t_line_f ls H locs hm hl hP hD hS
    have hm := (mq_Mo_put_J12 F v1 t_thrown t_count t_line_f).symm.trans hm
    refine lv_iconst (v := 1) hx hb dc_Mo_put_12 (by decide +kernel) ?_
    refine lv_goto (tgt := 30) hx hb dc_Mo_put_13 (by decide) ?_
    exact hJ30 v1 1 t_thrown t_count t_line_f ls _ _ hm hl hP hD hS
  have hl : lv_has ls 2 [(0, .ref t), (1, .int i1)] := hl
  have hm := (mq_Mo_put F i1 t_thrown t_count t_line_f).symm.trans hm
  refine lv_aload_n hx hb dc_Mo_put_0 rfl (lv_at hl 0 rfl) ?_
  refine lv_iload_n hx hb dc_Mo_put_1 rfl (lv_at hl 1 rfl) ?_
  refine lv_if_lt (tgt := 12) hx hb dc_Mo_put_2 (by decide) (fun h2 => ?_) (fun h2 => ?_)
  · have hm := bs_pos h2 hm
    exact hJ12 i1 t_thrown t_count t_line_f ls _ _ hm hl hP hD hS
  · have hm := bs_neg h2 hm
    refine lv_iload_n hx hb dc_Mo_put_5 rfl (lv_at hl 1 rfl) ?_
    refine lv_sipush (v := 255) hx hb dc_Mo_put_6 (by decide +kernel) ?_
    refine lv_icmp_le (tgt := 16) hx hb dc_Mo_put_9 (by decide) (fun h9 => ?_) (fun h9 => ?_)
    · have hm := bs_pos h9 hm
      refine lv_aload_n hx hb dc_Mo_put_16 rfl (lv_at hl 0 rfl) ?_
      refine va_get (ci := 6) (v := .int t_count) (C := cn_Mo) (T := cf_Mo) (N := 28) hx hb hB ki_Mo hown hK hP 0 rfl rfl 19 (by decide) (hB _ kw_fl_Mo_80) (fun _ h => h) rfl dc_Mo_put_17 ?_
      refine lv_bipush (v := 80) hx hb dc_Mo_put_20 (by decide +kernel) ?_
      refine lv_icmp_ne (tgt := 29) hx hb dc_Mo_put_22 (by decide) (fun h22 => ?_) (fun h22 => ?_)
      · have hm := bs_neg h22 hm
        refine lv_iconst (v := 0) hx hb dc_Mo_put_29 (by decide +kernel) ?_
        exact hJ30 i1 0 t_thrown t_count t_line_f ls _ _ hm hl hP hD hS
      · have hm := bs_pos h22 hm
        refine lv_iconst (v := 2) hx hb dc_Mo_put_25 (by decide +kernel) ?_
        refine lv_goto (tgt := 30) hx hb dc_Mo_put_26 (by decide) ?_
        exact hJ30 i1 2 t_thrown t_count t_line_f ls _ _ hm hl hP hD hS
    · have hm := bs_neg h9 hm
      exact hJ12 i1 t_thrown t_count t_line_f ls _ _ hm hl hP hD hS
set_option maxHeartbeats 2000000 in
set_option maxRecDepth 100000 in
theorem ct_Mo_putInt (l : Launch) (D : va_G) (F : Nat) (t : Nat) (t_registers : Nat) (t_column : Nat) (t_times : Nat) (t_values : Nat) (t_bytes : Nat) (t_line : Nat) (t_reply : Nat) (t_latest : Nat) (t_made : Nat) (t_registers_c : ClassId) (t_column_c : ClassId) (t_times_c : ClassId) (t_values_c : ClassId) (t_bytes_c : ClassId) (t_line_c : ClassId) (t_reply_c : ClassId) (t_latest_c : ClassId) (t_made_c : ClassId) (t_secret : Int32) (t_thrown : Int32) (t_time : Int32) (t_capacity : Int32) (t_period : Int32) (t_columns : Int32) (t_entries : Int32) (t_connected : Int32) (t_expected : Int32) (t_next : Int32) (t_association : Int32) (t_size : Int32) (t_sent : Int32) (t_count : Int32) (t_told : Int32) (t_latestSize : Int32) (t_many : Int32) (t_askS : Int32) (t_askR : Int32) (t_registers_f : Nat → Int32) (t_column_f : Nat → Int32) (t_times_f : Nat → Int32) (t_values_f : Nat → Int32) (t_bytes_f : Nat → Int32) (t_line_f : Nat → Int32) (t_reply_f : Nat → Int32) (t_latest_f : Nat → Int32) (t_made_f : Nat → Int32) (i1 : Int32) (r : Int32 × Int32 × Int32 × (Nat → Int32)) (hm : mm_Mo_putInt F i1 t_thrown t_count t_line_f = some r) :
    bs_CI l my_Mo_putInt mb_Mo_putInt 3 .int (bs_rm 0) D [.ref t, .int i1] [(t_registers_c, .int), (t_column_c, .int), (t_times_c, .int), (t_values_c, .int), (t_bytes_c, .int), (t_line_c, .int), (t_reply_c, .int), (t_latest_c, .int), (t_made_c, .int)] [(t, .inr (6, [.int t_secret, .int t_thrown, .int t_time, .ref t_registers, .int t_capacity, .int t_period, .int t_columns, .ref t_column, .int t_entries, .ref t_times, .ref t_values, .int t_connected, .int t_expected, .int t_next, .int t_association, .ref t_bytes, .int t_size, .int t_sent, .ref t_line, .int t_count, .ref t_reply, .int t_told, .ref t_latest, .int t_latestSize, .ref t_made, .int t_many, .int t_askS, .int t_askR])), (t_registers, .inl (t_registers_c, 4, .inl t_registers_f)), (t_column, .inl (t_column_c, 3, .inl t_column_f)), (t_times, .inl (t_times_c, 13, .inl t_times_f)), (t_values, .inl (t_values_c, 39, .inl t_values_f)), (t_bytes, .inl (t_bytes_c, 280, .inl t_bytes_f)), (t_line, .inl (t_line_c, 80, .inl t_line_f)), (t_reply, .inl (t_reply_c, 80, .inl t_reply_f)), (t_latest, .inl (t_latest_c, 80, .inl t_latest_f)), (t_made, .inl (t_made_c, 300, .inl t_made_f))] (S := Unit) (fun v (_ : Unit) => v = r.1) (fun _ => [(t, .inr (6, [.int t_secret, .int r.2.1, .int t_time, .ref t_registers, .int t_capacity, .int t_period, .int t_columns, .ref t_column, .int t_entries, .ref t_times, .ref t_values, .int t_connected, .int t_expected, .int t_next, .int t_association, .ref t_bytes, .int t_size, .int t_sent, .ref t_line, .int r.2.2.1, .ref t_reply, .int t_told, .ref t_latest, .int t_latestSize, .ref t_made, .int t_many, .int t_askS, .int t_askR])), (t_registers, .inl (t_registers_c, 4, .inl t_registers_f)), (t_column, .inl (t_column_c, 3, .inl t_column_f)), (t_times, .inl (t_times_c, 13, .inl t_times_f)), (t_values, .inl (t_values_c, 39, .inl t_values_f)), (t_bytes, .inl (t_bytes_c, 280, .inl t_bytes_f)), (t_line, .inl (t_line_c, 80, .inl r.2.2.2)), (t_reply, .inl (t_reply_c, 80, .inl t_reply_f)), (t_latest, .inl (t_latest_c, 80, .inl t_latest_f)), (t_made, .inl (t_made_c, 300, .inl t_made_f))]) := by
  refine bs_CI.mk (by decide +kernel) (bs_ler rfl) ?_
  intro p e s m below meth c ls A hx hb hr hml hlk hown hB hN hP hK hD hS hA hl
  refine bs_genQ (fun Q hQ => ?_)
  have hL29 : ∀ (k : Nat) (v1 : Int32) (v2 : Int32) (t_thrown : Int32) (t_count : Int32) (t_line_f : Nat → Int32) (ls : Array Slot) (H : Heap) (locs : List Loc), mm_Mo_putInt_L29 F k v1 v2 t_thrown t_count t_line_f = some r → lv_has ls 3 [(0, .ref t), (1, .int v1), (2, .int v2)] → va_P D bs_cl [(t, .inr (6, [.int t_secret, .int t_thrown, .int t_time, .ref t_registers, .int t_capacity, .int t_period, .int t_columns, .ref t_column, .int t_entries, .ref t_times, .ref t_values, .int t_connected, .int t_expected, .int t_next, .int t_association, .ref t_bytes, .int t_size, .int t_sent, .ref t_line, .int t_count, .ref t_reply, .int t_told, .ref t_latest, .int t_latestSize, .ref t_made, .int t_many, .int t_askS, .int t_askR])), (t_registers, .inl (t_registers_c, 4, .inl t_registers_f)), (t_column, .inl (t_column_c, 3, .inl t_column_f)), (t_times, .inl (t_times_c, 13, .inl t_times_f)), (t_values, .inl (t_values_c, 39, .inl t_values_f)), (t_bytes, .inl (t_bytes_c, 280, .inl t_bytes_f)), (t_line, .inl (t_line_c, 80, .inl t_line_f)), (t_reply, .inl (t_reply_c, 80, .inl t_reply_f)), (t_latest, .inl (t_latest_c, 80, .inl t_latest_f)), (t_made, .inl (t_made_c, 300, .inl t_made_f))] H → va_D A [(t, .inr (6, [.int t_secret, .int t_thrown, .int t_time, .ref t_registers, .int t_capacity, .int t_period, .int t_columns, .ref t_column, .int t_entries, .ref t_times, .ref t_values, .int t_connected, .int t_expected, .int t_next, .int t_association, .ref t_bytes, .int t_size, .int t_sent, .ref t_line, .int t_count, .ref t_reply, .int t_told, .ref t_latest, .int t_latestSize, .ref t_made, .int t_many, .int t_askS, .int t_askR])), (t_registers, .inl (t_registers_c, 4, .inl t_registers_f)), (t_column, .inl (t_column_c, 3, .inl t_column_f)), (t_times, .inl (t_times_c, 13, .inl t_times_f)), (t_values, .inl (t_values_c, 39, .inl t_values_f)), (t_bytes, .inl (t_bytes_c, 280, .inl t_bytes_f)), (t_line, .inl (t_line_c, 80, .inl t_line_f)), (t_reply, .inl (t_reply_c, 80, .inl t_reply_f)), (t_latest, .inl (t_latest_c, 80, .inl t_latest_f)), (t_made, .inl (t_made_c, 300, .inl t_made_f))] → va_S A s.heap H locs → W p l e (bs_rm 0) s m [.ref t, .int i1].toArray below meth c H locs 0 0 Q (F0 m 29 ls []) := by
    intro k
    induction k with
    | zero => intro v1 v2 t_thrown t_count t_line_f ls H locs hm hl hP hD hS; exact (bs_no hm).elim
    | succ k ih =>
      intro v1 v2 t_thrown t_count t_line_f ls H locs hm hl hP hD hS
      have hm := (mq_Mo_putInt_L29 F k v1 v2 t_thrown t_count t_line_f).symm.trans hm
      refine lv_iload_n hx hb dc_Mo_putInt_29 rfl (lv_at hl 2 rfl) ?_
      refine lv_if_lt (tgt := 68) hx hb dc_Mo_putInt_30 (by decide) (fun h30 => ?_) (fun h30 => ?_)
      · have hm := bs_pos h30 hm
        refine lv_aload_n hx hb dc_Mo_putInt_68 rfl (lv_at hl 0 rfl) ?_
        refine va_get (ci := 6) (v := .int t_count) (C := cn_Mo) (T := cf_Mo) (N := 28) hx hb hB ki_Mo hown hK hP 0 rfl rfl 19 (by decide) (hB _ kw_fl_Mo_80) (fun _ h => h) rfl dc_Mo_putInt_69 ?_
        clear ih
        cases hm
        subst hQ
        exact bs_retI hx hb hr hlk () rfl hP hD hS dc_Mo_putInt_72
      · have hm := bs_neg h30 hm
        refine lv_aload_n hx hb dc_Mo_putInt_33 rfl (lv_at hl 0 rfl) ?_
        refine va_get (ci := 6) (v := .ref t_line) (C := cn_Mo) (T := cf_Mo) (N := 28) hx hb hB ki_Mo hown hK hP 0 rfl rfl 18 (by decide) (hB _ kw_fl_Mo_29) (fun _ h => h) rfl dc_Mo_putInt_34 ?_
        refine lv_aload_n hx hb dc_Mo_putInt_37 rfl (lv_at hl 0 rfl) ?_
        refine va_get (ci := 6) (v := .int t_count) (C := cn_Mo) (T := cf_Mo) (N := 28) hx hb hB ki_Mo hown hK hP 0 rfl rfl 19 (by decide) (hB _ kw_fl_Mo_80) (fun _ h => h) rfl dc_Mo_putInt_38 ?_
        refine lv_iload_n hx hb dc_Mo_putInt_41 rfl (lv_at hl 1 rfl) ?_
        refine lv_bipush (v := 8) hx hb dc_Mo_putInt_42 (by decide +kernel) ?_
        refine lv_iload_n hx hb dc_Mo_putInt_44 rfl (lv_at hl 2 rfl) ?_
        refine lv_imul hx hb dc_Mo_putInt_45 ?_
        refine lv_iushr (v := bs_ushr v1 (8 * v2)) hx hb dc_Mo_putInt_46 rfl ?_
        refine lv_sipush (v := 255) hx hb dc_Mo_putInt_47 (by decide +kernel) ?_
        refine lv_iand hx hb dc_Mo_putInt_50 ?_
        obtain ⟨hz51, hm⟩ := bs_nn hm
        refine va_iast hx hb hK hP hD hS 6 5 rfl rfl hz51 dc_Mo_putInt_51 (fun H locs hP hD hS => ?_)
        obtain ⟨hP, hD⟩ := bs_say [(t, .inr (6, [.int t_secret, .int t_thrown, .int t_time, .ref t_registers, .int t_capacity, .int t_period, .int t_columns, .ref t_column, .int t_entries, .ref t_times, .ref t_values, .int t_connected, .int t_expected, .int t_next, .int t_association, .ref t_bytes, .int t_size, .int t_sent, .ref t_line, .int t_count, .ref t_reply, .int t_told, .ref t_latest, .int t_latestSize, .ref t_made, .int t_many, .int t_askS, .int t_askR])), (t_registers, .inl (t_registers_c, 4, .inl t_registers_f)), (t_column, .inl (t_column_c, 3, .inl t_column_f)), (t_times, .inl (t_times_c, 13, .inl t_times_f)), (t_values, .inl (t_values_c, 39, .inl t_values_f)), (t_bytes, .inl (t_bytes_c, 280, .inl t_bytes_f)), (t_line, .inl (t_line_c, 80, .inl (upd t_line_f t_count.toNatClampNeg ((bs_ushr v1 (8 * v2)) &&& 255)))), (t_reply, .inl (t_reply_c, 80, .inl t_reply_f)), (t_latest, .inl (t_latest_c, 80, .inl t_latest_f)), (t_made, .inl (t_made_c, 300, .inl t_made_f))] hP hD
        refine lv_aload_n hx hb dc_Mo_putInt_52 rfl (lv_at hl 0 rfl) ?_
        refine lv_dup hx hb dc_Mo_putInt_53 rfl ?_
        refine va_get (ci := 6) (v := .int t_count) (C := cn_Mo) (T := cf_Mo) (N := 28) hx hb hB ki_Mo hown hK hP 0 rfl rfl 19 (by decide) (hB _ kw_fl_Mo_80) (fun _ h => h) rfl dc_Mo_putInt_54 ?_
        refine lv_iconst (v := 1) hx hb dc_Mo_putInt_57 (by decide +kernel) ?_
        refine lv_iadd hx hb dc_Mo_putInt_58 ?_
        refine va_put (ci := 6) (v := .int (t_count + 1)) (ty := .int) (C := cn_Mo) (T := cf_Mo) (N := 28) hx hb hB ki_Mo ct_Mo cp_Mo cd_Mo hown hK hP hD hS 0 rfl rfl 19 (by decide) (hB _ kw_fl_Mo_80) (fun _ h => h) rfl (by decide +kernel) rfl rfl (bs_ltr rfl) dc_Mo_putInt_59 (fun H locs hP hD hS => ?_)
        obtain ⟨hP, hD⟩ := bs_say [(t, .inr (6, [.int t_secret, .int t_thrown, .int t_time, .ref t_registers, .int t_capacity, .int t_period, .int t_columns, .ref t_column, .int t_entries, .ref t_times, .ref t_values, .int t_connected, .int t_expected, .int t_next, .int t_association, .ref t_bytes, .int t_size, .int t_sent, .ref t_line, .int (t_count + 1), .ref t_reply, .int t_told, .ref t_latest, .int t_latestSize, .ref t_made, .int t_many, .int t_askS, .int t_askR])), (t_registers, .inl (t_registers_c, 4, .inl t_registers_f)), (t_column, .inl (t_column_c, 3, .inl t_column_f)), (t_times, .inl (t_times_c, 13, .inl t_times_f)), (t_values, .inl (t_values_c, 39, .inl t_values_f)), (t_bytes, .inl (t_bytes_c, 280, .inl t_bytes_f)), (t_line, .inl (t_line_c, 80, .inl (upd t_line_f t_count.toNatClampNeg ((bs_ushr v1 (8 * v2)) &&& 255)))), (t_reply, .inl (t_reply_c, 80, .inl t_reply_f)), (t_latest, .inl (t_latest_c, 80, .inl t_latest_f)), (t_made, .inl (t_made_c, 300, .inl t_made_f))] hP hD
        refine lv_iinc (k := 2) (v := v2 + (-1)) hx hb dc_Mo_putInt_62 hl rfl (bs_incm1 _) (by decide) rfl (fun ls hl => ?_)
        have hl : lv_has ls 3 [(2, .int (v2 + (-1))), (0, .ref t), (1, .int v1)] := hl
        refine lv_goto (tgt := 29) hx hb dc_Mo_putInt_65 (by decide) ?_
        exact ih v1 (v2 + (-1)) t_thrown (t_count + 1) (upd t_line_f t_count.toNatClampNeg ((bs_ushr v1 (8 * v2)) &&& 255)) ls _ _ hm (lv_sub hl [1, 2, 0] rfl) hP hD hS
  have hl : lv_has ls 3 [(0, .ref t), (1, .int i1)] := hl
  have hm := (mq_Mo_putInt F i1 t_thrown t_count t_line_f).symm.trans hm
  refine lv_aload_n hx hb dc_Mo_putInt_0 rfl (lv_at hl 0 rfl) ?_
  refine lv_aload_n hx hb dc_Mo_putInt_1 rfl (lv_at hl 0 rfl) ?_
  refine va_get (ci := 6) (v := .int t_count) (C := cn_Mo) (T := cf_Mo) (N := 28) hx hb hB ki_Mo hown hK hP 0 rfl rfl 19 (by decide) (hB _ kw_fl_Mo_80) (fun _ h => h) rfl dc_Mo_putInt_2 ?_
  refine lv_bipush (v := 76) hx hb dc_Mo_putInt_5 (by decide +kernel) ?_
  refine lv_icmp_le (tgt := 14) hx hb dc_Mo_putInt_7 (by decide) (fun h7 => ?_) (fun h7 => ?_)
  · have hm := bs_pos h7 hm
    refine lv_iconst (v := 0) hx hb dc_Mo_putInt_14 (by decide +kernel) ?_
    refine va_put (ci := 6) (v := .int 0) (ty := .int) (C := cn_Mo) (T := cf_Mo) (N := 28) hx hb hB ki_Mo ct_Mo cp_Mo cd_Mo hown hK hP hD hS 0 rfl rfl 1 (by decide) (hB _ kw_fl_Mo_47) (fun _ h => h) rfl (by decide +kernel) rfl rfl (bs_ltr rfl) dc_Mo_putInt_15 (fun H locs hP hD hS => ?_)
    obtain ⟨hP, hD⟩ := bs_say [(t, .inr (6, [.int t_secret, .int 0, .int t_time, .ref t_registers, .int t_capacity, .int t_period, .int t_columns, .ref t_column, .int t_entries, .ref t_times, .ref t_values, .int t_connected, .int t_expected, .int t_next, .int t_association, .ref t_bytes, .int t_size, .int t_sent, .ref t_line, .int t_count, .ref t_reply, .int t_told, .ref t_latest, .int t_latestSize, .ref t_made, .int t_many, .int t_askS, .int t_askR])), (t_registers, .inl (t_registers_c, 4, .inl t_registers_f)), (t_column, .inl (t_column_c, 3, .inl t_column_f)), (t_times, .inl (t_times_c, 13, .inl t_times_f)), (t_values, .inl (t_values_c, 39, .inl t_values_f)), (t_bytes, .inl (t_bytes_c, 280, .inl t_bytes_f)), (t_line, .inl (t_line_c, 80, .inl t_line_f)), (t_reply, .inl (t_reply_c, 80, .inl t_reply_f)), (t_latest, .inl (t_latest_c, 80, .inl t_latest_f)), (t_made, .inl (t_made_c, 300, .inl t_made_f))] hP hD
    refine lv_aload_n hx hb dc_Mo_putInt_18 rfl (lv_at hl 0 rfl) ?_
    refine va_get (ci := 6) (v := .int 0) (C := cn_Mo) (T := cf_Mo) (N := 28) hx hb hB ki_Mo hown hK hP 0 rfl rfl 1 (by decide) (hB _ kw_fl_Mo_47) (fun _ h => h) rfl dc_Mo_putInt_19 ?_
    refine lv_if_le (tgt := 27) hx hb dc_Mo_putInt_22 (by decide) (fun h22 => ?_) (fun h22 => ?_)
    · refine lv_iconst (v := 3) hx hb dc_Mo_putInt_27 (by decide +kernel) ?_
      refine lv_istore_n hx hb dc_Mo_putInt_28 rfl hl (by decide) rfl (fun ls hl => ?_)
      have hl : lv_has ls 3 [(2, .int 3), (0, .ref t), (1, .int i1)] := hl
      exact hL29 F i1 3 0 t_count t_line_f ls _ _ hm (lv_sub hl [1, 2, 0] rfl) hP hD hS
    · exact absurd h22 (by decide +kernel)
  · have hm := bs_neg h7 hm
    refine lv_iconst (v := 1) hx hb dc_Mo_putInt_10 (by decide +kernel) ?_
    refine lv_goto (tgt := 15) hx hb dc_Mo_putInt_11 (by decide) ?_
    refine va_put (ci := 6) (v := .int 1) (ty := .int) (C := cn_Mo) (T := cf_Mo) (N := 28) hx hb hB ki_Mo ct_Mo cp_Mo cd_Mo hown hK hP hD hS 0 rfl rfl 1 (by decide) (hB _ kw_fl_Mo_47) (fun _ h => h) rfl (by decide +kernel) rfl rfl (bs_ltr rfl) dc_Mo_putInt_15 (fun H locs hP hD hS => ?_)
    obtain ⟨hP, hD⟩ := bs_say [(t, .inr (6, [.int t_secret, .int 1, .int t_time, .ref t_registers, .int t_capacity, .int t_period, .int t_columns, .ref t_column, .int t_entries, .ref t_times, .ref t_values, .int t_connected, .int t_expected, .int t_next, .int t_association, .ref t_bytes, .int t_size, .int t_sent, .ref t_line, .int t_count, .ref t_reply, .int t_told, .ref t_latest, .int t_latestSize, .ref t_made, .int t_many, .int t_askS, .int t_askR])), (t_registers, .inl (t_registers_c, 4, .inl t_registers_f)), (t_column, .inl (t_column_c, 3, .inl t_column_f)), (t_times, .inl (t_times_c, 13, .inl t_times_f)), (t_values, .inl (t_values_c, 39, .inl t_values_f)), (t_bytes, .inl (t_bytes_c, 280, .inl t_bytes_f)), (t_line, .inl (t_line_c, 80, .inl t_line_f)), (t_reply, .inl (t_reply_c, 80, .inl t_reply_f)), (t_latest, .inl (t_latest_c, 80, .inl t_latest_f)), (t_made, .inl (t_made_c, 300, .inl t_made_f))] hP hD
    refine lv_aload_n hx hb dc_Mo_putInt_18 rfl (lv_at hl 0 rfl) ?_
    refine va_get (ci := 6) (v := .int 1) (C := cn_Mo) (T := cf_Mo) (N := 28) hx hb hB ki_Mo hown hK hP 0 rfl rfl 1 (by decide) (hB _ kw_fl_Mo_47) (fun _ h => h) rfl dc_Mo_putInt_19 ?_
    refine lv_if_le (tgt := 27) hx hb dc_Mo_putInt_22 (by decide) (fun h22 => ?_) (fun h22 => ?_)
    · exact absurd h22 (by decide +kernel)
    · refine lv_iconst (v := 0) hx hb dc_Mo_putInt_25 (by decide +kernel) ?_
      clear hL29
      cases hm
      subst hQ
      exact bs_retI hx hb hr hlk () rfl hP hD hS dc_Mo_putInt_26
set_option maxHeartbeats 2000000 in
set_option maxRecDepth 100000 in
theorem ct_Mo_poke (l : Launch) (D : va_G) (F : Nat) (t : Nat) (t_registers : Nat) (t_column : Nat) (t_times : Nat) (t_values : Nat) (t_bytes : Nat) (t_line : Nat) (t_reply : Nat) (t_latest : Nat) (t_made : Nat) (t_registers_c : ClassId) (t_column_c : ClassId) (t_times_c : ClassId) (t_values_c : ClassId) (t_bytes_c : ClassId) (t_line_c : ClassId) (t_reply_c : ClassId) (t_latest_c : ClassId) (t_made_c : ClassId) (t_secret : Int32) (t_thrown : Int32) (t_time : Int32) (t_capacity : Int32) (t_period : Int32) (t_columns : Int32) (t_entries : Int32) (t_connected : Int32) (t_expected : Int32) (t_next : Int32) (t_association : Int32) (t_size : Int32) (t_sent : Int32) (t_count : Int32) (t_told : Int32) (t_latestSize : Int32) (t_many : Int32) (t_askS : Int32) (t_askR : Int32) (t_registers_f : Nat → Int32) (t_column_f : Nat → Int32) (t_times_f : Nat → Int32) (t_values_f : Nat → Int32) (t_bytes_f : Nat → Int32) (t_line_f : Nat → Int32) (t_reply_f : Nat → Int32) (t_latest_f : Nat → Int32) (t_made_f : Nat → Int32) (i1 : Int32) (i2 : Int32) (r : Int32 × (Nat → Int32)) (hm : mm_Mo_poke F i1 i2 t_thrown t_count t_line_f = some r) :
    bs_CV l my_Mo_poke mb_Mo_poke 3 (bs_rm 0) D [.ref t, .int i1, .int i2] [(t_registers_c, .int), (t_column_c, .int), (t_times_c, .int), (t_values_c, .int), (t_bytes_c, .int), (t_line_c, .int), (t_reply_c, .int), (t_latest_c, .int), (t_made_c, .int)] [(t, .inr (6, [.int t_secret, .int t_thrown, .int t_time, .ref t_registers, .int t_capacity, .int t_period, .int t_columns, .ref t_column, .int t_entries, .ref t_times, .ref t_values, .int t_connected, .int t_expected, .int t_next, .int t_association, .ref t_bytes, .int t_size, .int t_sent, .ref t_line, .int t_count, .ref t_reply, .int t_told, .ref t_latest, .int t_latestSize, .ref t_made, .int t_many, .int t_askS, .int t_askR])), (t_registers, .inl (t_registers_c, 4, .inl t_registers_f)), (t_column, .inl (t_column_c, 3, .inl t_column_f)), (t_times, .inl (t_times_c, 13, .inl t_times_f)), (t_values, .inl (t_values_c, 39, .inl t_values_f)), (t_bytes, .inl (t_bytes_c, 280, .inl t_bytes_f)), (t_line, .inl (t_line_c, 80, .inl t_line_f)), (t_reply, .inl (t_reply_c, 80, .inl t_reply_f)), (t_latest, .inl (t_latest_c, 80, .inl t_latest_f)), (t_made, .inl (t_made_c, 300, .inl t_made_f))] (S := Unit) (fun (_ : Unit) => True) (fun _ => [(t, .inr (6, [.int t_secret, .int r.1, .int t_time, .ref t_registers, .int t_capacity, .int t_period, .int t_columns, .ref t_column, .int t_entries, .ref t_times, .ref t_values, .int t_connected, .int t_expected, .int t_next, .int t_association, .ref t_bytes, .int t_size, .int t_sent, .ref t_line, .int t_count, .ref t_reply, .int t_told, .ref t_latest, .int t_latestSize, .ref t_made, .int t_many, .int t_askS, .int t_askR])), (t_registers, .inl (t_registers_c, 4, .inl t_registers_f)), (t_column, .inl (t_column_c, 3, .inl t_column_f)), (t_times, .inl (t_times_c, 13, .inl t_times_f)), (t_values, .inl (t_values_c, 39, .inl t_values_f)), (t_bytes, .inl (t_bytes_c, 280, .inl t_bytes_f)), (t_line, .inl (t_line_c, 80, .inl r.2)), (t_reply, .inl (t_reply_c, 80, .inl t_reply_f)), (t_latest, .inl (t_latest_c, 80, .inl t_latest_f)), (t_made, .inl (t_made_c, 300, .inl t_made_f))]) := by
  refine bs_CV.mk (by decide +kernel) (bs_ler rfl) ?_
  intro p e s m below meth c ls A hx hb hr hml hlk hown hB hN hP hK hD hS hA hl
  refine bs_genQ (fun Q hQ => ?_)
  have hJ28 : ∀ (v1 : Int32) (v2 : Int32) (t_thrown : Int32) (t_line_f : Nat → Int32) (ls : Array Slot) (H : Heap) (locs : List Loc), mm_Mo_poke_J28 F v1 v2 t_thrown t_line_f = some r → lv_has ls 3 [(0, .ref t), (1, .int v1), (2, .int v2)] → va_P D bs_cl [(t, .inr (6, [.int t_secret, .int t_thrown, .int t_time, .ref t_registers, .int t_capacity, .int t_period, .int t_columns, .ref t_column, .int t_entries, .ref t_times, .ref t_values, .int t_connected, .int t_expected, .int t_next, .int t_association, .ref t_bytes, .int t_size, .int t_sent, .ref t_line, .int t_count, .ref t_reply, .int t_told, .ref t_latest, .int t_latestSize, .ref t_made, .int t_many, .int t_askS, .int t_askR])), (t_registers, .inl (t_registers_c, 4, .inl t_registers_f)), (t_column, .inl (t_column_c, 3, .inl t_column_f)), (t_times, .inl (t_times_c, 13, .inl t_times_f)), (t_values, .inl (t_values_c, 39, .inl t_values_f)), (t_bytes, .inl (t_bytes_c, 280, .inl t_bytes_f)), (t_line, .inl (t_line_c, 80, .inl t_line_f)), (t_reply, .inl (t_reply_c, 80, .inl t_reply_f)), (t_latest, .inl (t_latest_c, 80, .inl t_latest_f)), (t_made, .inl (t_made_c, 300, .inl t_made_f))] H → va_D A [(t, .inr (6, [.int t_secret, .int t_thrown, .int t_time, .ref t_registers, .int t_capacity, .int t_period, .int t_columns, .ref t_column, .int t_entries, .ref t_times, .ref t_values, .int t_connected, .int t_expected, .int t_next, .int t_association, .ref t_bytes, .int t_size, .int t_sent, .ref t_line, .int t_count, .ref t_reply, .int t_told, .ref t_latest, .int t_latestSize, .ref t_made, .int t_many, .int t_askS, .int t_askR])), (t_registers, .inl (t_registers_c, 4, .inl t_registers_f)), (t_column, .inl (t_column_c, 3, .inl t_column_f)), (t_times, .inl (t_times_c, 13, .inl t_times_f)), (t_values, .inl (t_values_c, 39, .inl t_values_f)), (t_bytes, .inl (t_bytes_c, 280, .inl t_bytes_f)), (t_line, .inl (t_line_c, 80, .inl t_line_f)), (t_reply, .inl (t_reply_c, 80, .inl t_reply_f)), (t_latest, .inl (t_latest_c, 80, .inl t_latest_f)), (t_made, .inl (t_made_c, 300, .inl t_made_f))] → va_S A s.heap H locs → W p l e (bs_rm 0) s m [.ref t, .int i1, .int i2].toArray below meth c H locs 0 0 Q (F0 m 28 ls [.ref t]) := by
    intro v1 v2 t_thrown t_line_f ls H locs hm hl hP hD hS
    have hm := (mq_Mo_poke_J28 F v1 v2 t_thrown t_line_f).symm.trans hm
    refine lv_iconst (v := 2) hx hb dc_Mo_poke_28 (by decide +kernel) ?_
    refine lv_goto (tgt := 33) hx hb dc_Mo_poke_29 (by decide) ?_
    refine va_put (ci := 6) (v := .int 2) (ty := .int) (C := cn_Mo) (T := cf_Mo) (N := 28) hx hb hB ki_Mo ct_Mo cp_Mo cd_Mo hown hK hP hD hS 0 rfl rfl 1 (by decide) (hB _ kw_fl_Mo_47) (fun _ h => h) rfl (by decide +kernel) rfl rfl (bs_ltr rfl) dc_Mo_poke_33 (fun H locs hP hD hS => ?_)
    obtain ⟨hP, hD⟩ := bs_say [(t, .inr (6, [.int t_secret, .int 2, .int t_time, .ref t_registers, .int t_capacity, .int t_period, .int t_columns, .ref t_column, .int t_entries, .ref t_times, .ref t_values, .int t_connected, .int t_expected, .int t_next, .int t_association, .ref t_bytes, .int t_size, .int t_sent, .ref t_line, .int t_count, .ref t_reply, .int t_told, .ref t_latest, .int t_latestSize, .ref t_made, .int t_many, .int t_askS, .int t_askR])), (t_registers, .inl (t_registers_c, 4, .inl t_registers_f)), (t_column, .inl (t_column_c, 3, .inl t_column_f)), (t_times, .inl (t_times_c, 13, .inl t_times_f)), (t_values, .inl (t_values_c, 39, .inl t_values_f)), (t_bytes, .inl (t_bytes_c, 280, .inl t_bytes_f)), (t_line, .inl (t_line_c, 80, .inl t_line_f)), (t_reply, .inl (t_reply_c, 80, .inl t_reply_f)), (t_latest, .inl (t_latest_c, 80, .inl t_latest_f)), (t_made, .inl (t_made_c, 300, .inl t_made_f))] hP hD
    refine lv_aload_n hx hb dc_Mo_poke_36 rfl (lv_at hl 0 rfl) ?_
    refine va_get (ci := 6) (v := .int 2) (C := cn_Mo) (T := cf_Mo) (N := 28) hx hb hB ki_Mo hown hK hP 0 rfl rfl 1 (by decide) (hB _ kw_fl_Mo_47) (fun _ h => h) rfl dc_Mo_poke_37 ?_
    refine lv_if_ne (tgt := 50) hx hb dc_Mo_poke_40 (by decide) (fun h40 => ?_) (fun h40 => ?_)
    · cases hm
      subst hQ
      exact bs_retV hx hb hr hlk () trivial hP hD hS dc_Mo_poke_50
    · exact absurd h40 (by decide +kernel)
  have hJ13 : ∀ (v1 : Int32) (v2 : Int32) (t_thrown : Int32) (t_line_f : Nat → Int32) (ls : Array Slot) (H : Heap) (locs : List Loc), mm_Mo_poke_J13 F v1 v2 t_thrown t_line_f = some r → lv_has ls 3 [(0, .ref t), (1, .int v1), (2, .int v2)] → va_P D bs_cl [(t, .inr (6, [.int t_secret, .int t_thrown, .int t_time, .ref t_registers, .int t_capacity, .int t_period, .int t_columns, .ref t_column, .int t_entries, .ref t_times, .ref t_values, .int t_connected, .int t_expected, .int t_next, .int t_association, .ref t_bytes, .int t_size, .int t_sent, .ref t_line, .int t_count, .ref t_reply, .int t_told, .ref t_latest, .int t_latestSize, .ref t_made, .int t_many, .int t_askS, .int t_askR])), (t_registers, .inl (t_registers_c, 4, .inl t_registers_f)), (t_column, .inl (t_column_c, 3, .inl t_column_f)), (t_times, .inl (t_times_c, 13, .inl t_times_f)), (t_values, .inl (t_values_c, 39, .inl t_values_f)), (t_bytes, .inl (t_bytes_c, 280, .inl t_bytes_f)), (t_line, .inl (t_line_c, 80, .inl t_line_f)), (t_reply, .inl (t_reply_c, 80, .inl t_reply_f)), (t_latest, .inl (t_latest_c, 80, .inl t_latest_f)), (t_made, .inl (t_made_c, 300, .inl t_made_f))] H → va_D A [(t, .inr (6, [.int t_secret, .int t_thrown, .int t_time, .ref t_registers, .int t_capacity, .int t_period, .int t_columns, .ref t_column, .int t_entries, .ref t_times, .ref t_values, .int t_connected, .int t_expected, .int t_next, .int t_association, .ref t_bytes, .int t_size, .int t_sent, .ref t_line, .int t_count, .ref t_reply, .int t_told, .ref t_latest, .int t_latestSize, .ref t_made, .int t_many, .int t_askS, .int t_askR])), (t_registers, .inl (t_registers_c, 4, .inl t_registers_f)), (t_column, .inl (t_column_c, 3, .inl t_column_f)), (t_times, .inl (t_times_c, 13, .inl t_times_f)), (t_values, .inl (t_values_c, 39, .inl t_values_f)), (t_bytes, .inl (t_bytes_c, 280, .inl t_bytes_f)), (t_line, .inl (t_line_c, 80, .inl t_line_f)), (t_reply, .inl (t_reply_c, 80, .inl t_reply_f)), (t_latest, .inl (t_latest_c, 80, .inl t_latest_f)), (t_made, .inl (t_made_c, 300, .inl t_made_f))] → va_S A s.heap H locs → W p l e (bs_rm 0) s m [.ref t, .int i1, .int i2].toArray below meth c H locs 0 0 Q (F0 m 13 ls [.ref t]) := by
    intro v1 v2 t_thrown t_line_f ls H locs hm hl hP hD hS
    have hm := (mq_Mo_poke_J13 F v1 v2 t_thrown t_line_f).symm.trans hm
    refine lv_iconst (v := 1) hx hb dc_Mo_poke_13 (by decide +kernel) ?_
    refine lv_goto (tgt := 33) hx hb dc_Mo_poke_14 (by decide) ?_
    refine va_put (ci := 6) (v := .int 1) (ty := .int) (C := cn_Mo) (T := cf_Mo) (N := 28) hx hb hB ki_Mo ct_Mo cp_Mo cd_Mo hown hK hP hD hS 0 rfl rfl 1 (by decide) (hB _ kw_fl_Mo_47) (fun _ h => h) rfl (by decide +kernel) rfl rfl (bs_ltr rfl) dc_Mo_poke_33 (fun H locs hP hD hS => ?_)
    obtain ⟨hP, hD⟩ := bs_say [(t, .inr (6, [.int t_secret, .int 1, .int t_time, .ref t_registers, .int t_capacity, .int t_period, .int t_columns, .ref t_column, .int t_entries, .ref t_times, .ref t_values, .int t_connected, .int t_expected, .int t_next, .int t_association, .ref t_bytes, .int t_size, .int t_sent, .ref t_line, .int t_count, .ref t_reply, .int t_told, .ref t_latest, .int t_latestSize, .ref t_made, .int t_many, .int t_askS, .int t_askR])), (t_registers, .inl (t_registers_c, 4, .inl t_registers_f)), (t_column, .inl (t_column_c, 3, .inl t_column_f)), (t_times, .inl (t_times_c, 13, .inl t_times_f)), (t_values, .inl (t_values_c, 39, .inl t_values_f)), (t_bytes, .inl (t_bytes_c, 280, .inl t_bytes_f)), (t_line, .inl (t_line_c, 80, .inl t_line_f)), (t_reply, .inl (t_reply_c, 80, .inl t_reply_f)), (t_latest, .inl (t_latest_c, 80, .inl t_latest_f)), (t_made, .inl (t_made_c, 300, .inl t_made_f))] hP hD
    refine lv_aload_n hx hb dc_Mo_poke_36 rfl (lv_at hl 0 rfl) ?_
    refine va_get (ci := 6) (v := .int 1) (C := cn_Mo) (T := cf_Mo) (N := 28) hx hb hB ki_Mo hown hK hP 0 rfl rfl 1 (by decide) (hB _ kw_fl_Mo_47) (fun _ h => h) rfl dc_Mo_poke_37 ?_
    refine lv_if_ne (tgt := 50) hx hb dc_Mo_poke_40 (by decide) (fun h40 => ?_) (fun h40 => ?_)
    · clear hJ28
      cases hm
      subst hQ
      exact bs_retV hx hb hr hlk () trivial hP hD hS dc_Mo_poke_50
    · exact absurd h40 (by decide +kernel)
  have hl : lv_has ls 3 [(0, .ref t), (1, .int i1), (2, .int i2)] := hl
  have hm := (mq_Mo_poke F i1 i2 t_thrown t_count t_line_f).symm.trans hm
  refine lv_aload_n hx hb dc_Mo_poke_0 rfl (lv_at hl 0 rfl) ?_
  refine lv_iload_n hx hb dc_Mo_poke_1 rfl (lv_at hl 1 rfl) ?_
  refine lv_if_lt (tgt := 13) hx hb dc_Mo_poke_2 (by decide) (fun h2 => ?_) (fun h2 => ?_)
  · have hm := bs_pos h2 hm
    exact hJ13 i1 i2 t_thrown t_line_f ls _ _ hm hl hP hD hS
  · have hm := bs_neg h2 hm
    refine lv_iload_n hx hb dc_Mo_poke_5 rfl (lv_at hl 1 rfl) ?_
    refine lv_aload_n hx hb dc_Mo_poke_6 rfl (lv_at hl 0 rfl) ?_
    refine va_get (ci := 6) (v := .int t_count) (C := cn_Mo) (T := cf_Mo) (N := 28) hx hb hB ki_Mo hown hK hP 0 rfl rfl 19 (by decide) (hB _ kw_fl_Mo_80) (fun _ h => h) rfl dc_Mo_poke_7 ?_
    refine lv_icmp_lt (tgt := 17) hx hb dc_Mo_poke_10 (by decide) (fun h10 => ?_) (fun h10 => ?_)
    · have hm := bs_pos h10 hm
      refine lv_iload_n hx hb dc_Mo_poke_17 rfl (lv_at hl 2 rfl) ?_
      refine lv_if_lt (tgt := 28) hx hb dc_Mo_poke_18 (by decide) (fun h18 => ?_) (fun h18 => ?_)
      · have hm := bs_pos h18 hm
        exact hJ28 i1 i2 t_thrown t_line_f ls _ _ hm hl hP hD hS
      · have hm := bs_neg h18 hm
        refine lv_iload_n hx hb dc_Mo_poke_21 rfl (lv_at hl 2 rfl) ?_
        refine lv_sipush (v := 255) hx hb dc_Mo_poke_22 (by decide +kernel) ?_
        refine lv_icmp_le (tgt := 32) hx hb dc_Mo_poke_25 (by decide) (fun h25 => ?_) (fun h25 => ?_)
        · have hm := bs_pos h25 hm
          refine lv_iconst (v := 0) hx hb dc_Mo_poke_32 (by decide +kernel) ?_
          refine va_put (ci := 6) (v := .int 0) (ty := .int) (C := cn_Mo) (T := cf_Mo) (N := 28) hx hb hB ki_Mo ct_Mo cp_Mo cd_Mo hown hK hP hD hS 0 rfl rfl 1 (by decide) (hB _ kw_fl_Mo_47) (fun _ h => h) rfl (by decide +kernel) rfl rfl (bs_ltr rfl) dc_Mo_poke_33 (fun H locs hP hD hS => ?_)
          obtain ⟨hP, hD⟩ := bs_say [(t, .inr (6, [.int t_secret, .int 0, .int t_time, .ref t_registers, .int t_capacity, .int t_period, .int t_columns, .ref t_column, .int t_entries, .ref t_times, .ref t_values, .int t_connected, .int t_expected, .int t_next, .int t_association, .ref t_bytes, .int t_size, .int t_sent, .ref t_line, .int t_count, .ref t_reply, .int t_told, .ref t_latest, .int t_latestSize, .ref t_made, .int t_many, .int t_askS, .int t_askR])), (t_registers, .inl (t_registers_c, 4, .inl t_registers_f)), (t_column, .inl (t_column_c, 3, .inl t_column_f)), (t_times, .inl (t_times_c, 13, .inl t_times_f)), (t_values, .inl (t_values_c, 39, .inl t_values_f)), (t_bytes, .inl (t_bytes_c, 280, .inl t_bytes_f)), (t_line, .inl (t_line_c, 80, .inl t_line_f)), (t_reply, .inl (t_reply_c, 80, .inl t_reply_f)), (t_latest, .inl (t_latest_c, 80, .inl t_latest_f)), (t_made, .inl (t_made_c, 300, .inl t_made_f))] hP hD
          refine lv_aload_n hx hb dc_Mo_poke_36 rfl (lv_at hl 0 rfl) ?_
          refine va_get (ci := 6) (v := .int 0) (C := cn_Mo) (T := cf_Mo) (N := 28) hx hb hB ki_Mo hown hK hP 0 rfl rfl 1 (by decide) (hB _ kw_fl_Mo_47) (fun _ h => h) rfl dc_Mo_poke_37 ?_
          refine lv_if_ne (tgt := 50) hx hb dc_Mo_poke_40 (by decide) (fun h40 => ?_) (fun h40 => ?_)
          · exact absurd h40 (by decide +kernel)
          · refine lv_aload_n hx hb dc_Mo_poke_43 rfl (lv_at hl 0 rfl) ?_
            refine va_get (ci := 6) (v := .ref t_line) (C := cn_Mo) (T := cf_Mo) (N := 28) hx hb hB ki_Mo hown hK hP 0 rfl rfl 18 (by decide) (hB _ kw_fl_Mo_29) (fun _ h => h) rfl dc_Mo_poke_44 ?_
            refine lv_iload_n hx hb dc_Mo_poke_47 rfl (lv_at hl 1 rfl) ?_
            refine lv_iload_n hx hb dc_Mo_poke_48 rfl (lv_at hl 2 rfl) ?_
            obtain ⟨hz49, hm⟩ := bs_nn hm
            refine va_iast hx hb hK hP hD hS 6 5 rfl rfl hz49 dc_Mo_poke_49 (fun H locs hP hD hS => ?_)
            obtain ⟨hP, hD⟩ := bs_say [(t, .inr (6, [.int t_secret, .int 0, .int t_time, .ref t_registers, .int t_capacity, .int t_period, .int t_columns, .ref t_column, .int t_entries, .ref t_times, .ref t_values, .int t_connected, .int t_expected, .int t_next, .int t_association, .ref t_bytes, .int t_size, .int t_sent, .ref t_line, .int t_count, .ref t_reply, .int t_told, .ref t_latest, .int t_latestSize, .ref t_made, .int t_many, .int t_askS, .int t_askR])), (t_registers, .inl (t_registers_c, 4, .inl t_registers_f)), (t_column, .inl (t_column_c, 3, .inl t_column_f)), (t_times, .inl (t_times_c, 13, .inl t_times_f)), (t_values, .inl (t_values_c, 39, .inl t_values_f)), (t_bytes, .inl (t_bytes_c, 280, .inl t_bytes_f)), (t_line, .inl (t_line_c, 80, .inl (upd t_line_f i1.toNatClampNeg i2))), (t_reply, .inl (t_reply_c, 80, .inl t_reply_f)), (t_latest, .inl (t_latest_c, 80, .inl t_latest_f)), (t_made, .inl (t_made_c, 300, .inl t_made_f))] hP hD
            clear hJ28 hJ13
            cases hm
            subst hQ
            exact bs_retV hx hb hr hlk () trivial hP hD hS dc_Mo_poke_50
        · have hm := bs_neg h25 hm
          exact hJ28 i1 i2 t_thrown t_line_f ls _ _ hm hl hP hD hS
    · have hm := bs_neg h10 hm
      exact hJ13 i1 i2 t_thrown t_line_f ls _ _ hm hl hP hD hS
set_option maxHeartbeats 2000000 in
set_option maxRecDepth 100000 in
theorem ct_Mo_clear (l : Launch) (D : va_G) (F : Nat) (t : Nat) (t_registers : Nat) (t_column : Nat) (t_times : Nat) (t_values : Nat) (t_bytes : Nat) (t_line : Nat) (t_reply : Nat) (t_latest : Nat) (t_made : Nat) (t_registers_c : ClassId) (t_column_c : ClassId) (t_times_c : ClassId) (t_values_c : ClassId) (t_bytes_c : ClassId) (t_line_c : ClassId) (t_reply_c : ClassId) (t_latest_c : ClassId) (t_made_c : ClassId) (t_secret : Int32) (t_thrown : Int32) (t_time : Int32) (t_capacity : Int32) (t_period : Int32) (t_columns : Int32) (t_entries : Int32) (t_connected : Int32) (t_expected : Int32) (t_next : Int32) (t_association : Int32) (t_size : Int32) (t_sent : Int32) (t_count : Int32) (t_told : Int32) (t_latestSize : Int32) (t_many : Int32) (t_askS : Int32) (t_askR : Int32) (t_registers_f : Nat → Int32) (t_column_f : Nat → Int32) (t_times_f : Nat → Int32) (t_values_f : Nat → Int32) (t_bytes_f : Nat → Int32) (t_line_f : Nat → Int32) (t_reply_f : Nat → Int32) (t_latest_f : Nat → Int32) (t_made_f : Nat → Int32) (r : Int32 × Int32) (hm : mm_Mo_clear F t_thrown t_count = some r) :
    bs_CV l my_Mo_clear mb_Mo_clear 1 (bs_rm 0) D [.ref t] [(t_registers_c, .int), (t_column_c, .int), (t_times_c, .int), (t_values_c, .int), (t_bytes_c, .int), (t_line_c, .int), (t_reply_c, .int), (t_latest_c, .int), (t_made_c, .int)] [(t, .inr (6, [.int t_secret, .int t_thrown, .int t_time, .ref t_registers, .int t_capacity, .int t_period, .int t_columns, .ref t_column, .int t_entries, .ref t_times, .ref t_values, .int t_connected, .int t_expected, .int t_next, .int t_association, .ref t_bytes, .int t_size, .int t_sent, .ref t_line, .int t_count, .ref t_reply, .int t_told, .ref t_latest, .int t_latestSize, .ref t_made, .int t_many, .int t_askS, .int t_askR])), (t_registers, .inl (t_registers_c, 4, .inl t_registers_f)), (t_column, .inl (t_column_c, 3, .inl t_column_f)), (t_times, .inl (t_times_c, 13, .inl t_times_f)), (t_values, .inl (t_values_c, 39, .inl t_values_f)), (t_bytes, .inl (t_bytes_c, 280, .inl t_bytes_f)), (t_line, .inl (t_line_c, 80, .inl t_line_f)), (t_reply, .inl (t_reply_c, 80, .inl t_reply_f)), (t_latest, .inl (t_latest_c, 80, .inl t_latest_f)), (t_made, .inl (t_made_c, 300, .inl t_made_f))] (S := Unit) (fun (_ : Unit) => True) (fun _ => [(t, .inr (6, [.int t_secret, .int r.1, .int t_time, .ref t_registers, .int t_capacity, .int t_period, .int t_columns, .ref t_column, .int t_entries, .ref t_times, .ref t_values, .int t_connected, .int t_expected, .int t_next, .int t_association, .ref t_bytes, .int t_size, .int t_sent, .ref t_line, .int r.2, .ref t_reply, .int t_told, .ref t_latest, .int t_latestSize, .ref t_made, .int t_many, .int t_askS, .int t_askR])), (t_registers, .inl (t_registers_c, 4, .inl t_registers_f)), (t_column, .inl (t_column_c, 3, .inl t_column_f)), (t_times, .inl (t_times_c, 13, .inl t_times_f)), (t_values, .inl (t_values_c, 39, .inl t_values_f)), (t_bytes, .inl (t_bytes_c, 280, .inl t_bytes_f)), (t_line, .inl (t_line_c, 80, .inl t_line_f)), (t_reply, .inl (t_reply_c, 80, .inl t_reply_f)), (t_latest, .inl (t_latest_c, 80, .inl t_latest_f)), (t_made, .inl (t_made_c, 300, .inl t_made_f))]) := by
  refine bs_CV.mk (by decide +kernel) (bs_ler rfl) ?_
  intro p e s m below meth c ls A hx hb hr hml hlk hown hB hN hP hK hD hS hA hl
  refine bs_genQ (fun Q hQ => ?_)
  have hl : lv_has ls 1 [(0, .ref t)] := hl
  have hm := (mq_Mo_clear F t_thrown t_count).symm.trans hm
  refine lv_aload_n hx hb dc_Mo_clear_0 rfl (lv_at hl 0 rfl) ?_
  refine lv_iconst (v := 0) hx hb dc_Mo_clear_1 (by decide +kernel) ?_
  refine va_put (ci := 6) (v := .int 0) (ty := .int) (C := cn_Mo) (T := cf_Mo) (N := 28) hx hb hB ki_Mo ct_Mo cp_Mo cd_Mo hown hK hP hD hS 0 rfl rfl 1 (by decide) (hB _ kw_fl_Mo_47) (fun _ h => h) rfl (by decide +kernel) rfl rfl (bs_ltr rfl) dc_Mo_clear_2 (fun H locs hP hD hS => ?_)
  obtain ⟨hP, hD⟩ := bs_say [(t, .inr (6, [.int t_secret, .int 0, .int t_time, .ref t_registers, .int t_capacity, .int t_period, .int t_columns, .ref t_column, .int t_entries, .ref t_times, .ref t_values, .int t_connected, .int t_expected, .int t_next, .int t_association, .ref t_bytes, .int t_size, .int t_sent, .ref t_line, .int t_count, .ref t_reply, .int t_told, .ref t_latest, .int t_latestSize, .ref t_made, .int t_many, .int t_askS, .int t_askR])), (t_registers, .inl (t_registers_c, 4, .inl t_registers_f)), (t_column, .inl (t_column_c, 3, .inl t_column_f)), (t_times, .inl (t_times_c, 13, .inl t_times_f)), (t_values, .inl (t_values_c, 39, .inl t_values_f)), (t_bytes, .inl (t_bytes_c, 280, .inl t_bytes_f)), (t_line, .inl (t_line_c, 80, .inl t_line_f)), (t_reply, .inl (t_reply_c, 80, .inl t_reply_f)), (t_latest, .inl (t_latest_c, 80, .inl t_latest_f)), (t_made, .inl (t_made_c, 300, .inl t_made_f))] hP hD
  refine lv_aload_n hx hb dc_Mo_clear_5 rfl (lv_at hl 0 rfl) ?_
  refine lv_iconst (v := 0) hx hb dc_Mo_clear_6 (by decide +kernel) ?_
  refine va_put (ci := 6) (v := .int 0) (ty := .int) (C := cn_Mo) (T := cf_Mo) (N := 28) hx hb hB ki_Mo ct_Mo cp_Mo cd_Mo hown hK hP hD hS 0 rfl rfl 19 (by decide) (hB _ kw_fl_Mo_80) (fun _ h => h) rfl (by decide +kernel) rfl rfl (bs_ltr rfl) dc_Mo_clear_7 (fun H locs hP hD hS => ?_)
  obtain ⟨hP, hD⟩ := bs_say [(t, .inr (6, [.int t_secret, .int 0, .int t_time, .ref t_registers, .int t_capacity, .int t_period, .int t_columns, .ref t_column, .int t_entries, .ref t_times, .ref t_values, .int t_connected, .int t_expected, .int t_next, .int t_association, .ref t_bytes, .int t_size, .int t_sent, .ref t_line, .int 0, .ref t_reply, .int t_told, .ref t_latest, .int t_latestSize, .ref t_made, .int t_many, .int t_askS, .int t_askR])), (t_registers, .inl (t_registers_c, 4, .inl t_registers_f)), (t_column, .inl (t_column_c, 3, .inl t_column_f)), (t_times, .inl (t_times_c, 13, .inl t_times_f)), (t_values, .inl (t_values_c, 39, .inl t_values_f)), (t_bytes, .inl (t_bytes_c, 280, .inl t_bytes_f)), (t_line, .inl (t_line_c, 80, .inl t_line_f)), (t_reply, .inl (t_reply_c, 80, .inl t_reply_f)), (t_latest, .inl (t_latest_c, 80, .inl t_latest_f)), (t_made, .inl (t_made_c, 300, .inl t_made_f))] hP hD
  cases hm
  subst hQ
  exact bs_retV hx hb hr hlk () trivial hP hD hS dc_Mo_clear_10
set_option maxHeartbeats 2000000 in
set_option maxRecDepth 100000 in
theorem ct_Mo_check (l : Launch) (D : va_G) (F : Nat) (p0 : Nat) (p0_c : ClassId) (p0_N : Nat) (p0_f : Nat → Int32) (i1 : Int32) (r : Int32) (hm : mm_Mo_check F p0_N i1 p0_f = some r) :
    bs_CI l my_Mo_check mb_Mo_check 5 .int (bs_rm 0) D [.ref p0, .int i1] [(p0_c, .int)] [(p0, .inl (p0_c, p0_N, .inl p0_f))] (S := Unit) (fun v (_ : Unit) => v = r) (fun _ => [(p0, .inl (p0_c, p0_N, .inl p0_f))]) := by
  refine bs_CI.mk (by decide +kernel) (bs_ler rfl) ?_
  intro p e s m below meth c ls A hx hb hr hml hlk hown hB hN hP hK hD hS hA hl
  refine bs_genQ (fun Q hQ => ?_)
  have hL19 : ∀ (k : Nat) (v1 : Int32) (v2 : Int32) (v3 : Int32) (v4 : Int32) (z : Int32) (ls : Array Slot) (H : Heap) (locs : List Loc), mm_Mo_check_L19 F p0_N k v2 v4 = some z → lv_has ls 5 [(0, .ref p0), (1, .int v1), (2, .int v2), (3, .int v3), (4, .int v4)] → va_P D bs_cl [(p0, .inl (p0_c, p0_N, .inl p0_f))] H → va_D A [(p0, .inl (p0_c, p0_N, .inl p0_f))] → va_S A s.heap H locs → (∀ (ls : Array Slot) (H : Heap) (locs : List Loc), lv_has ls 5 [(0, .ref p0), (1, .int v1), (2, .int z), (3, .int v3)] → va_P D bs_cl [(p0, .inl (p0_c, p0_N, .inl p0_f))] H → va_D A [(p0, .inl (p0_c, p0_N, .inl p0_f))] → va_S A s.heap H locs → W p l e (bs_rm 0) s m [.ref p0, .int i1].toArray below meth c H locs 0 0 Q (F0 m 52 ls [])) → W p l e (bs_rm 0) s m [.ref p0, .int i1].toArray below meth c H locs 0 0 Q (F0 m 19 ls []) := by
    intro k
    induction k with
    | zero => intro v1 v2 v3 v4 z ls H locs hm hl hP hD hS kE; exact (bs_no hm).elim
    | succ k ih =>
      intro v1 v2 v3 v4 z ls H locs hm hl hP hD hS kE
      have hm := (mq_Mo_check_L19 F p0_N k v2 v4).symm.trans hm
      refine lv_iload hx hb dc_Mo_check_19 (lv_at hl 4 rfl) ?_
      refine lv_bipush (v := 8) hx hb dc_Mo_check_21 (by decide +kernel) ?_
      refine lv_icmp_ge (tgt := 52) hx hb dc_Mo_check_23 (by decide) (fun h23 => ?_) (fun h23 => ?_)
      · have hm := bs_pos h23 hm
        cases hm
        exact kE ls _ _ (lv_sub hl [0, 1, 2, 3] rfl) hP hD hS
      · have hm := bs_neg h23 hm
        refine lv_iload_n hx hb dc_Mo_check_26 rfl (lv_at hl 2 rfl) ?_
        refine lv_iconst (v := 2) hx hb dc_Mo_check_27 (by decide +kernel) ?_
        refine bs_irem (v := bs_rem v2 2) hx hb dc_Mo_check_28 (by decide +kernel) rfl ?_
        refine lv_iconst (v := 1) hx hb dc_Mo_check_29 (by decide +kernel) ?_
        refine lv_icmp_ne (tgt := 42) hx hb dc_Mo_check_30 (by decide) (fun h30 => ?_) (fun h30 => ?_)
        · have hm := bs_neg h30 hm
          refine lv_iload_n hx hb dc_Mo_check_42 rfl (lv_at hl 2 rfl) ?_
          refine lv_iconst (v := 2) hx hb dc_Mo_check_43 (by decide +kernel) ?_
          refine bs_idiv (v := v2 / 2) hx hb dc_Mo_check_44 (by decide +kernel) rfl ?_
          refine lv_istore_n hx hb dc_Mo_check_45 rfl hl (by decide) rfl (fun ls hl => ?_)
          have hl : lv_has ls 5 [(2, .int (v2 / 2)), (0, .ref p0), (1, .int v1), (3, .int v3), (4, .int v4)] := hl
          refine lv_iinc (k := 4) (v := v4 + 1) hx hb dc_Mo_check_46 hl rfl (bs_inc1 _) (by decide) rfl (fun ls hl => ?_)
          have hl : lv_has ls 5 [(4, .int (v4 + 1)), (2, .int (v2 / 2)), (0, .ref p0), (1, .int v1), (3, .int v3)] := hl
          refine lv_goto (tgt := 19) hx hb dc_Mo_check_49 (by decide) ?_
          exact ih v1 (v2 / 2) v3 (v4 + 1) _ ls _ _ hm (lv_sub hl [2, 3, 1, 4, 0] rfl) hP hD hS kE
        · have hm := bs_pos h30 hm
          refine lv_iload_n hx hb dc_Mo_check_33 rfl (lv_at hl 2 rfl) ?_
          refine lv_iconst (v := 2) hx hb dc_Mo_check_34 (by decide +kernel) ?_
          refine bs_idiv (v := v2 / 2) hx hb dc_Mo_check_35 (by decide +kernel) rfl ?_
          refine bs_ldc (v := 33800) hx hb hown (hB _ kw_co_Mo_84) (by decide +kernel) dc_Mo_check_36 ?_
          refine lv_ixor hx hb dc_Mo_check_38 ?_
          refine lv_goto (tgt := 45) hx hb dc_Mo_check_39 (by decide) ?_
          refine lv_istore_n hx hb dc_Mo_check_45 rfl hl (by decide) rfl (fun ls hl => ?_)
          have hl : lv_has ls 5 [(2, .int ((v2 / 2) ^^^ 33800)), (0, .ref p0), (1, .int v1), (3, .int v3), (4, .int v4)] := hl
          refine lv_iinc (k := 4) (v := v4 + 1) hx hb dc_Mo_check_46 hl rfl (bs_inc1 _) (by decide) rfl (fun ls hl => ?_)
          have hl : lv_has ls 5 [(4, .int (v4 + 1)), (2, .int ((v2 / 2) ^^^ 33800)), (0, .ref p0), (1, .int v1), (3, .int v3)] := hl
          refine lv_goto (tgt := 19) hx hb dc_Mo_check_49 (by decide) ?_
          exact ih v1 ((v2 / 2) ^^^ 33800) v3 (v4 + 1) _ ls _ _ hm (lv_sub hl [2, 3, 1, 4, 0] rfl) hP hD hS kE
  have hL5 : ∀ (k : Nat) (v1 : Int32) (v2 : Int32) (v3 : Int32) (ls : Array Slot) (H : Heap) (locs : List Loc), mm_Mo_check_L5 F p0_N k v1 v2 v3 p0_f = some r → lv_has ls 5 [(0, .ref p0), (1, .int v1), (2, .int v2), (3, .int v3)] → va_P D bs_cl [(p0, .inl (p0_c, p0_N, .inl p0_f))] H → va_D A [(p0, .inl (p0_c, p0_N, .inl p0_f))] → va_S A s.heap H locs → W p l e (bs_rm 0) s m [.ref p0, .int i1].toArray below meth c H locs 0 0 Q (F0 m 5 ls []) := by
    intro k
    induction k with
    | zero => intro v1 v2 v3 ls H locs hm hl hP hD hS; exact (bs_no hm).elim
    | succ k ih =>
      intro v1 v2 v3 ls H locs hm hl hP hD hS
      have hm := (mq_Mo_check_L5 F p0_N k v1 v2 v3 p0_f).symm.trans hm
      refine lv_iload_n hx hb dc_Mo_check_5 rfl (lv_at hl 3 rfl) ?_
      refine lv_iload_n hx hb dc_Mo_check_6 rfl (lv_at hl 1 rfl) ?_
      refine lv_icmp_ge (tgt := 58) hx hb dc_Mo_check_7 (by decide) (fun h7 => ?_) (fun h7 => ?_)
      · have hm := bs_pos h7 hm
        refine bs_ldc (v := 65535) hx hb hown (hB _ kw_co_Mo_83) (by decide +kernel) dc_Mo_check_58 ?_
        refine lv_iload_n hx hb dc_Mo_check_60 rfl (lv_at hl 2 rfl) ?_
        refine lv_isub hx hb dc_Mo_check_61 ?_
        clear hL19 ih
        cases hm
        subst hQ
        exact bs_retI hx hb hr hlk () rfl hP hD hS dc_Mo_check_62
      · have hm := bs_neg h7 hm
        refine lv_iload_n hx hb dc_Mo_check_10 rfl (lv_at hl 2 rfl) ?_
        refine lv_aload_n hx hb dc_Mo_check_11 rfl (lv_at hl 0 rfl) ?_
        refine lv_iload_n hx hb dc_Mo_check_12 rfl (lv_at hl 3 rfl) ?_
        obtain ⟨hz13, hm⟩ := bs_nn hm
        refine va_iald hx hb hK hP 0 0 rfl rfl hz13 dc_Mo_check_13 ?_
        refine lv_ixor hx hb dc_Mo_check_14 ?_
        refine lv_istore_n hx hb dc_Mo_check_15 rfl hl (by decide) rfl (fun ls hl => ?_)
        have hl : lv_has ls 5 [(2, .int (v2 ^^^ (p0_f v3.toNatClampNeg))), (0, .ref p0), (1, .int v1), (3, .int v3)] := hl
        refine lv_iconst (v := 0) hx hb dc_Mo_check_16 (by decide +kernel) ?_
        refine lv_istore hx hb dc_Mo_check_17 hl (by decide) rfl (fun ls hl => ?_)
        have hl : lv_has ls 5 [(4, .int 0), (2, .int (v2 ^^^ (p0_f v3.toNatClampNeg))), (0, .ref p0), (1, .int v1), (3, .int v3)] := hl
        obtain ⟨z19, hz19, hm⟩ := bs_bind hm
        refine hL19 F v1 (v2 ^^^ (p0_f v3.toNatClampNeg)) v3 0 z19 ls _ _ hz19 (lv_sub hl [2, 3, 1, 4, 0] rfl) hP hD hS (fun ls H locs hl hP hD hS => ?_)
        have hl : lv_has ls 5 [(0, .ref p0), (1, .int v1), (2, .int z19), (3, .int v3)] := hl
        obtain ⟨hP, hD⟩ := bs_say [(p0, .inl (p0_c, p0_N, .inl p0_f))] hP hD
        refine lv_iinc (k := 3) (v := v3 + 1) hx hb dc_Mo_check_52 hl rfl (bs_inc1 _) (by decide) rfl (fun ls hl => ?_)
        have hl : lv_has ls 5 [(3, .int (v3 + 1)), (0, .ref p0), (1, .int v1), (2, .int z19)] := hl
        refine lv_goto (tgt := 5) hx hb dc_Mo_check_55 (by decide) ?_
        exact ih v1 z19 (v3 + 1) ls _ _ hm (lv_sub hl [1, 2, 3, 0] rfl) hP hD hS
  have hl : lv_has ls 5 [(0, .ref p0), (1, .int i1)] := hl
  have hm := (mq_Mo_check F p0_N i1 p0_f).symm.trans hm
  refine bs_ldc (v := 65535) hx hb hown (hB _ kw_co_Mo_83) (by decide +kernel) dc_Mo_check_0 ?_
  refine lv_istore_n hx hb dc_Mo_check_2 rfl hl (by decide) rfl (fun ls hl => ?_)
  have hl : lv_has ls 5 [(2, .int 65535), (0, .ref p0), (1, .int i1)] := hl
  refine lv_iconst (v := 1) hx hb dc_Mo_check_3 (by decide +kernel) ?_
  refine lv_istore_n hx hb dc_Mo_check_4 rfl hl (by decide) rfl (fun ls hl => ?_)
  have hl : lv_has ls 5 [(3, .int 1), (2, .int 65535), (0, .ref p0), (1, .int i1)] := hl
  exact hL5 F i1 65535 1 ls _ _ hm (lv_sub hl [2, 3, 1, 0] rfl) hP hD hS
