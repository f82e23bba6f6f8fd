set_option maxHeartbeats 2000000 in
set_option maxRecDepth 100000 in
theorem ct_Mo_set (l : Launch) (D : va_G) (F : Nat) (t : Nat) (t_registers : Nat) (t_column : Nat) (t_times : Nat) (t_values : Nat) (t_bytes : Nat) (t_line : Nat) (t_reply : Nat) (t_latest : Nat) (t_made : Nat) (t_registers_c : ClassId) (t_column_c : ClassId) (t_times_c : ClassId) (t_values_c : ClassId) (t_bytes_c : ClassId) (t_line_c : ClassId) (t_reply_c : ClassId) (t_latest_c : ClassId) (t_made_c : ClassId) (t_secret : Int32) (t_thrown : Int32) (t_time : Int32) (t_capacity : Int32) (t_period : Int32) (t_columns : Int32) (t_entries : Int32) (t_connected : Int32) (t_expected : Int32) (t_next : Int32) (t_association : Int32) (t_size : Int32) (t_sent : Int32) (t_count : Int32) (t_told : Int32) (t_latestSize : Int32) (t_many : Int32) (t_askS : Int32) (t_askR : Int32) (t_registers_f : Nat → Int32) (t_column_f : Nat → Int32) (t_times_f : Nat → Int32) (t_values_f : Nat → Int32) (t_bytes_f : Nat → Int32) (t_line_f : Nat → Int32) (t_reply_f : Nat → Int32) (t_latest_f : Nat → Int32) (t_made_f : Nat → Int32) (i1 : Int32) (i2 : Int32) (i3 : Int32) (r : Int32 × Int32 × Int32 × Int32 × Int32 × Int32 × (Nat → Int32) × (Nat → Int32)) (hm : mm_Mo_set F i1 i2 i3 t_time t_capacity t_period t_columns t_entries t_association t_registers_f t_column_f t_line_f = some r) :
    bs_CI l my_Mo_set mb_Mo_set 6 .int (bs_rm 2) D [.ref t, .int i1, .int i2, .int i3] [(t_registers_c, .int), (t_column_c, .int), (t_times_c, .int), (t_values_c, .int), (t_bytes_c, .int), (t_line_c, .int), (t_reply_c, .int), (t_latest_c, .int), (t_made_c, .int)] [(t, .inr (6, [.int t_secret, .int t_thrown, .int t_time, .ref t_registers, .int t_capacity, .int t_period, .int t_columns, .ref t_column, .int t_entries, .ref t_times, .ref t_values, .int t_connected, .int t_expected, .int t_next, .int t_association, .ref t_bytes, .int t_size, .int t_sent, .ref t_line, .int t_count, .ref t_reply, .int t_told, .ref t_latest, .int t_latestSize, .ref t_made, .int t_many, .int t_askS, .int t_askR])), (t_registers, .inl (t_registers_c, 4, .inl t_registers_f)), (t_column, .inl (t_column_c, 3, .inl t_column_f)), (t_times, .inl (t_times_c, 13, .inl t_times_f)), (t_values, .inl (t_values_c, 39, .inl t_values_f)), (t_bytes, .inl (t_bytes_c, 280, .inl t_bytes_f)), (t_line, .inl (t_line_c, 80, .inl t_line_f)), (t_reply, .inl (t_reply_c, 80, .inl t_reply_f)), (t_latest, .inl (t_latest_c, 80, .inl t_latest_f)), (t_made, .inl (t_made_c, 300, .inl t_made_f))] (S := Unit) (fun v (_ : Unit) => v = r.1) (fun _ => [(t, .inr (6, [.int t_secret, .int t_thrown, .int r.2.1, .ref t_registers, .int r.2.2.1, .int r.2.2.2.1, .int r.2.2.2.2.1, .ref t_column, .int r.2.2.2.2.2.1, .ref t_times, .ref t_values, .int t_connected, .int t_expected, .int t_next, .int t_association, .ref t_bytes, .int t_size, .int t_sent, .ref t_line, .int t_count, .ref t_reply, .int t_told, .ref t_latest, .int t_latestSize, .ref t_made, .int t_many, .int t_askS, .int t_askR])), (t_registers, .inl (t_registers_c, 4, .inl r.2.2.2.2.2.2.1)), (t_column, .inl (t_column_c, 3, .inl r.2.2.2.2.2.2.2)), (t_times, .inl (t_times_c, 13, .inl t_times_f)), (t_values, .inl (t_values_c, 39, .inl t_values_f)), (t_bytes, .inl (t_bytes_c, 280, .inl t_bytes_f)), (t_line, .inl (t_line_c, 80, .inl t_line_f)), (t_reply, .inl (t_reply_c, 80, .inl t_reply_f)), (t_latest, .inl (t_latest_c, 80, .inl t_latest_f)), (t_made, .inl (t_made_c, 300, .inl t_made_f))]) := by
  refine bs_CI.mk (by decide +kernel) (bs_ler rfl) ?_
  intro p e s m below meth c ls A hx hb hr hml hlk hown hB hN hP hK hD hS hA hl
  refine bs_genQ (fun Q hQ => ?_)
  have hJ207 : ∀ (v1 : Int32) (v2 : Int32) (t_time : Int32) (t_capacity : Int32) (t_period : Int32) (t_columns : Int32) (t_entries : Int32) (t_registers_f : Nat → Int32) (t_column_f : Nat → Int32) (ls : Array Slot) (H : Heap) (locs : List Loc), mm_Mo_set_J207 F v1 v2 t_time t_capacity t_period t_columns t_entries t_registers_f t_column_f = some r → lv_has ls 6 [(0, .ref t), (1, .int v1), (2, .int v2)] → va_P D bs_cl [(t, .inr (6, [.int t_secret, .int t_thrown, .int t_time, .ref t_registers, .int t_capacity, .int t_period, .int t_columns, .ref t_column, .int t_entries, .ref t_times, .ref t_values, .int t_connected, .int t_expected, .int t_next, .int t_association, .ref t_bytes, .int t_size, .int t_sent, .ref t_line, .int t_count, .ref t_reply, .int t_told, .ref t_latest, .int t_latestSize, .ref t_made, .int t_many, .int t_askS, .int t_askR])), (t_registers, .inl (t_registers_c, 4, .inl t_registers_f)), (t_column, .inl (t_column_c, 3, .inl t_column_f)), (t_times, .inl (t_times_c, 13, .inl t_times_f)), (t_values, .inl (t_values_c, 39, .inl t_values_f)), (t_bytes, .inl (t_bytes_c, 280, .inl t_bytes_f)), (t_line, .inl (t_line_c, 80, .inl t_line_f)), (t_reply, .inl (t_reply_c, 80, .inl t_reply_f)), (t_latest, .inl (t_latest_c, 80, .inl t_latest_f)), (t_made, .inl (t_made_c, 300, .inl t_made_f))] H → va_D A [(t, .inr (6, [.int t_secret, .int t_thrown, .int t_time, .ref t_registers, .int t_capacity, .int t_period, .int t_columns, .ref t_column, .int t_entries, .ref t_times, .ref t_values, .int t_connected, .int t_expected, .int t_next, .int t_association, .ref t_bytes, .int t_size, .int t_sent, .ref t_line, .int t_count, .ref t_reply, .int t_told, .ref t_latest, .int t_latestSize, .ref t_made, .int t_many, .int t_askS, .int t_askR])), (t_registers, .inl (t_registers_c, 4, .inl t_registers_f)), (t_column, .inl (t_column_c, 3, .inl t_column_f)), (t_times, .inl (t_times_c, 13, .inl t_times_f)), (t_values, .inl (t_values_c, 39, .inl t_values_f)), (t_bytes, .inl (t_bytes_c, 280, .inl t_bytes_f)), (t_line, .inl (t_line_c, 80, .inl t_line_f)), (t_reply, .inl (t_reply_c, 80, .inl t_reply_f)), (t_latest, .inl (t_latest_c, 80, .inl t_latest_f)), (t_made, .inl (t_made_c, 300, .inl t_made_f))] → va_S A s.heap H locs → W p l e (bs_rm 2) s m [.ref t, .int i1, .int i2, .int i3].toArray below meth c H locs 0 0 Q (F0 m 207 ls []) := by
    intro v1 v2 t_time t_capacity t_period t_columns t_entries t_registers_f t_column_f ls H locs hm hl hP hD hS
    have hm := (mq_Mo_set_J207 F v1 v2 t_time t_capacity t_period t_columns t_entries t_registers_f t_column_f).symm.trans hm
    refine lv_aload_n hx hb dc_Mo_set_207 rfl (lv_at hl 0 rfl) ?_
    refine lv_iload_n hx hb dc_Mo_set_208 rfl (lv_at hl 1 rfl) ?_
    refine lv_iconst (v := 4) hx hb dc_Mo_set_209 (by decide +kernel) ?_
    refine lv_icmp_ne (tgt := 223) hx hb dc_Mo_set_210 (by decide) (fun h210 => ?_) (fun h210 => ?_)
    · have hm := bs_neg h210 hm
      refine lv_aload_n hx hb dc_Mo_set_223 rfl (lv_at hl 0 rfl) ?_
      refine va_get (ci := 6) (v := .int t_entries) (C := cn_Mo) (T := cf_Mo) (N := 28) hx hb hB ki_Mo hown hK hP 0 rfl rfl 8 (by decide) (hB _ kw_fl_Mo_50) (fun _ h => h) rfl dc_Mo_set_224 ?_
      refine va_put (ci := 6) (v := .int t_entries) (ty := .int) (C := cn_Mo) (T := cf_Mo) (N := 28) hx hb hB ki_Mo ct_Mo cp_Mo cd_Mo hown hK hP hD hS 0 rfl rfl 8 (by decide) (hB _ kw_fl_Mo_50) (fun _ h => h) rfl (by decide +kernel) rfl rfl (bs_ltr rfl) dc_Mo_set_227 (fun H locs hP hD hS => ?_)
      obtain ⟨hP, hD⟩ := bs_say [(t, .inr (6, [.int t_secret, .int t_thrown, .int t_time, .ref t_registers, .int t_capacity, .int t_period, .int t_columns, .ref t_column, .int t_entries, .ref t_times, .ref t_values, .int t_connected, .int t_expected, .int t_next, .int t_association, .ref t_bytes, .int t_size, .int t_sent, .ref t_line, .int t_count, .ref t_reply, .int t_told, .ref t_latest, .int t_latestSize, .ref t_made, .int t_many, .int t_askS, .int t_askR])), (t_registers, .inl (t_registers_c, 4, .inl t_registers_f)), (t_column, .inl (t_column_c, 3, .inl t_column_f)), (t_times, .inl (t_times_c, 13, .inl t_times_f)), (t_values, .inl (t_values_c, 39, .inl t_values_f)), (t_bytes, .inl (t_bytes_c, 280, .inl t_bytes_f)), (t_line, .inl (t_line_c, 80, .inl t_line_f)), (t_reply, .inl (t_reply_c, 80, .inl t_reply_f)), (t_latest, .inl (t_latest_c, 80, .inl t_latest_f)), (t_made, .inl (t_made_c, 300, .inl t_made_f))] hP hD
      refine lv_iconst (v := 0) hx hb dc_Mo_set_230 (by decide +kernel) ?_
      cases hm
      subst hQ
      exact bs_retI hx hb hr hlk () rfl hP hD hS dc_Mo_set_231
    · have hm := bs_pos h210 hm
      refine lv_iload_n hx hb dc_Mo_set_213 rfl (lv_at hl 2 rfl) ?_
      refine lv_bipush (v := 8) hx hb dc_Mo_set_214 (by decide +kernel) ?_
      refine lv_icmp_ne (tgt := 223) hx hb dc_Mo_set_216 (by decide) (fun h216 => ?_) (fun h216 => ?_)
      · have hm := bs_neg h216 hm
        refine lv_aload_n hx hb dc_Mo_set_223 rfl (lv_at hl 0 rfl) ?_
        refine va_get (ci := 6) (v := .int t_entries) (C := cn_Mo) (T := cf_Mo) (N := 28) hx hb hB ki_Mo hown hK hP 0 rfl rfl 8 (by decide) (hB _ kw_fl_Mo_50) (fun _ h => h) rfl dc_Mo_set_224 ?_
        refine va_put (ci := 6) (v := .int t_entries) (ty := .int) (C := cn_Mo) (T := cf_Mo) (N := 28) hx hb hB ki_Mo ct_Mo cp_Mo cd_Mo hown hK hP hD hS 0 rfl rfl 8 (by decide) (hB _ kw_fl_Mo_50) (fun _ h => h) rfl (by decide +kernel) rfl rfl (bs_ltr rfl) dc_Mo_set_227 (fun H locs hP hD hS => ?_)
        obtain ⟨hP, hD⟩ := bs_say [(t, .inr (6, [.int t_secret, .int t_thrown, .int t_time, .ref t_registers, .int t_capacity, .int t_period, .int t_columns, .ref t_column, .int t_entries, .ref t_times, .ref t_values, .int t_connected, .int t_expected, .int t_next, .int t_association, .ref t_bytes, .int t_size, .int t_sent, .ref t_line, .int t_count, .ref t_reply, .int t_told, .ref t_latest, .int t_latestSize, .ref t_made, .int t_many, .int t_askS, .int t_askR])), (t_registers, .inl (t_registers_c, 4, .inl t_registers_f)), (t_column, .inl (t_column_c, 3, .inl t_column_f)), (t_times, .inl (t_times_c, 13, .inl t_times_f)), (t_values, .inl (t_values_c, 39, .inl t_values_f)), (t_bytes, .inl (t_bytes_c, 280, .inl t_bytes_f)), (t_line, .inl (t_line_c, 80, .inl t_line_f)), (t_reply, .inl (t_reply_c, 80, .inl t_reply_f)), (t_latest, .inl (t_latest_c, 80, .inl t_latest_f)), (t_made, .inl (t_made_c, 300, .inl t_made_f))] hP hD
        refine lv_iconst (v := 0) hx hb dc_Mo_set_230 (by decide +kernel) ?_
        cases hm
        subst hQ
        exact bs_retI hx hb hr hlk () rfl hP hD hS dc_Mo_set_231
      · have hm := bs_pos h216 hm
        refine lv_iconst (v := 0) hx hb dc_Mo_set_219 (by decide +kernel) ?_
        refine lv_goto (tgt := 227) hx hb dc_Mo_set_220 (by decide) ?_
        refine va_put (ci := 6) (v := .int 0) (ty := .int) (C := cn_Mo) (T := cf_Mo) (N := 28) hx hb hB ki_Mo ct_Mo cp_Mo cd_Mo hown hK hP hD hS 0 rfl rfl 8 (by decide) (hB _ kw_fl_Mo_50) (fun _ h => h) rfl (by decide +kernel) rfl rfl (bs_ltr rfl) dc_Mo_set_227 (fun H locs hP hD hS => ?_)
        obtain ⟨hP, hD⟩ := bs_say [(t, .inr (6, [.int t_secret, .int t_thrown, .int t_time, .ref t_registers, .int t_capacity, .int t_period, .int t_columns, .ref t_column, .int 0, .ref t_times, .ref t_values, .int t_connected, .int t_expected, .int t_next, .int t_association, .ref t_bytes, .int t_size, .int t_sent, .ref t_line, .int t_count, .ref t_reply, .int t_told, .ref t_latest, .int t_latestSize, .ref t_made, .int t_many, .int t_askS, .int t_askR])), (t_registers, .inl (t_registers_c, 4, .inl t_registers_f)), (t_column, .inl (t_column_c, 3, .inl t_column_f)), (t_times, .inl (t_times_c, 13, .inl t_times_f)), (t_values, .inl (t_values_c, 39, .inl t_values_f)), (t_bytes, .inl (t_bytes_c, 280, .inl t_bytes_f)), (t_line, .inl (t_line_c, 80, .inl t_line_f)), (t_reply, .inl (t_reply_c, 80, .inl t_reply_f)), (t_latest, .inl (t_latest_c, 80, .inl t_latest_f)), (t_made, .inl (t_made_c, 300, .inl t_made_f))] hP hD
        refine lv_iconst (v := 0) hx hb dc_Mo_set_230 (by decide +kernel) ?_
        cases hm
        subst hQ
        exact bs_retI hx hb hr hlk () rfl hP hD hS dc_Mo_set_231
  have hJ174 : ∀ (v1 : Int32) (v2 : Int32) (v5 : Int32) (t_time : Int32) (t_capacity : Int32) (t_period : Int32) (t_columns : Int32) (t_entries : Int32) (t_registers_f : Nat → Int32) (t_column_f : Nat → Int32) (ls : Array Slot) (H : Heap) (locs : List Loc), mm_Mo_set_J174 F v1 v2 v5 t_time t_capacity t_period t_columns t_entries t_registers_f t_column_f = some r → lv_has ls 6 [(0, .ref t), (1, .int v1), (2, .int v2), (5, .int v5)] → va_P D bs_cl [(t, .inr (6, [.int t_secret, .int t_thrown, .int t_time, .ref t_registers, .int t_capacity, .int t_period, .int t_columns, .ref t_column, .int t_entries, .ref t_times, .ref t_values, .int t_connected, .int t_expected, .int t_next, .int t_association, .ref t_bytes, .int t_size, .int t_sent, .ref t_line, .int t_count, .ref t_reply, .int t_told, .ref t_latest, .int t_latestSize, .ref t_made, .int t_many, .int t_askS, .int t_askR])), (t_registers, .inl (t_registers_c, 4, .inl t_registers_f)), (t_column, .inl (t_column_c, 3, .inl t_column_f)), (t_times, .inl (t_times_c, 13, .inl t_times_f)), (t_values, .inl (t_values_c, 39, .inl t_values_f)), (t_bytes, .inl (t_bytes_c, 280, .inl t_bytes_f)), (t_line, .inl (t_line_c, 80, .inl t_line_f)), (t_reply, .inl (t_reply_c, 80, .inl t_reply_f)), (t_latest, .inl (t_latest_c, 80, .inl t_latest_f)), (t_made, .inl (t_made_c, 300, .inl t_made_f))] H → va_D A [(t, .inr (6, [.int t_secret, .int t_thrown, .int t_time, .ref t_registers, .int t_capacity, .int t_period, .int t_columns, .ref t_column, .int t_entries, .ref t_times, .ref t_values, .int t_connected, .int t_expected, .int t_next, .int t_association, .ref t_bytes, .int t_size, .int t_sent, .ref t_line, .int t_count, .ref t_reply, .int t_told, .ref t_latest, .int t_latestSize, .ref t_made, .int t_many, .int t_askS, .int t_askR])), (t_registers, .inl (t_registers_c, 4, .inl t_registers_f)), (t_column, .inl (t_column_c, 3, .inl t_column_f)), (t_times, .inl (t_times_c, 13, .inl t_times_f)), (t_values, .inl (t_values_c, 39, .inl t_values_f)), (t_bytes, .inl (t_bytes_c, 280, .inl t_bytes_f)), (t_line, .inl (t_line_c, 80, .inl t_line_f)), (t_reply, .inl (t_reply_c, 80, .inl t_reply_f)), (t_latest, .inl (t_latest_c, 80, .inl t_latest_f)), (t_made, .inl (t_made_c, 300, .inl t_made_f))] → va_S A s.heap H locs → W p l e (bs_rm 2) s m [.ref t, .int i1, .int i2, .int i3].toArray below meth c H locs 0 0 Q (F0 m 174 ls []) := by
    intro v1 v2 v5 t_time t_capacity t_period t_columns t_entries t_registers_f t_column_f ls H locs hm hl hP hD hS
    have hm := (mq_Mo_set_J174 F v1 v2 v5 t_time t_capacity t_period t_columns t_entries t_registers_f t_column_f).symm.trans hm
    refine lv_iload_n hx hb dc_Mo_set_174 rfl (lv_at hl 1 rfl) ?_
    refine lv_if_ne (tgt := 187) hx hb dc_Mo_set_175 (by decide) (fun h175 => ?_) (fun h175 => ?_)
    · have hm := bs_neg h175 hm
      refine lv_iload_n hx hb dc_Mo_set_187 rfl (lv_at hl 2 rfl) ?_
      refine lv_iconst (v := 4) hx hb dc_Mo_set_188 (by decide +kernel) ?_
      refine lv_icmp_ne (tgt := 201) hx hb dc_Mo_set_189 (by decide) (fun h189 => ?_) (fun h189 => ?_)
      · have hm := bs_neg h189 hm
        refine lv_aload_n hx hb dc_Mo_set_201 rfl (lv_at hl 0 rfl) ?_
        refine lv_iload hx hb dc_Mo_set_202 (lv_at hl 3 rfl) ?_
        refine va_put (ci := 6) (v := .int v5) (ty := .int) (C := cn_Mo) (T := cf_Mo) (N := 28) hx hb hB ki_Mo ct_Mo cp_Mo cd_Mo hown hK hP hD hS 0 rfl rfl 4 (by decide) (hB _ kw_fl_Mo_44) (fun _ h => h) rfl (by decide +kernel) rfl rfl (bs_ltr rfl) dc_Mo_set_204 (fun H locs hP hD hS => ?_)
        obtain ⟨hP, hD⟩ := bs_say [(t, .inr (6, [.int t_secret, .int t_thrown, .int t_time, .ref t_registers, .int v5, .int t_period, .int t_columns, .ref t_column, .int t_entries, .ref t_times, .ref t_values, .int t_connected, .int t_expected, .int t_next, .int t_association, .ref t_bytes, .int t_size, .int t_sent, .ref t_line, .int t_count, .ref t_reply, .int t_told, .ref t_latest, .int t_latestSize, .ref t_made, .int t_many, .int t_askS, .int t_askR])), (t_registers, .inl (t_registers_c, 4, .inl t_registers_f)), (t_column, .inl (t_column_c, 3, .inl t_column_f)), (t_times, .inl (t_times_c, 13, .inl t_times_f)), (t_values, .inl (t_values_c, 39, .inl t_values_f)), (t_bytes, .inl (t_bytes_c, 280, .inl t_bytes_f)), (t_line, .inl (t_line_c, 80, .inl t_line_f)), (t_reply, .inl (t_reply_c, 80, .inl t_reply_f)), (t_latest, .inl (t_latest_c, 80, .inl t_latest_f)), (t_made, .inl (t_made_c, 300, .inl t_made_f))] hP hD
        exact hJ207 v1 v2 t_time v5 t_period t_columns t_entries t_registers_f t_column_f ls _ _ hm (lv_sub hl [0, 1, 2] rfl) hP hD hS
      · have hm := bs_pos h189 hm
        refine lv_aload_n hx hb dc_Mo_set_192 rfl (lv_at hl 0 rfl) ?_
        refine lv_iload hx hb dc_Mo_set_193 (lv_at hl 3 rfl) ?_
        refine va_put (ci := 6) (v := .int v5) (ty := .int) (C := cn_Mo) (T := cf_Mo) (N := 28) hx hb hB ki_Mo ct_Mo cp_Mo cd_Mo hown hK hP hD hS 0 rfl rfl 5 (by decide) (hB _ kw_fl_Mo_57) (fun _ h => h) rfl (by decide +kernel) rfl rfl (bs_ltr rfl) dc_Mo_set_195 (fun H locs hP hD hS => ?_)
        obtain ⟨hP, hD⟩ := bs_say [(t, .inr (6, [.int t_secret, .int t_thrown, .int t_time, .ref t_registers, .int t_capacity, .int v5, .int t_columns, .ref t_column, .int t_entries, .ref t_times, .ref t_values, .int t_connected, .int t_expected, .int t_next, .int t_association, .ref t_bytes, .int t_size, .int t_sent, .ref t_line, .int t_count, .ref t_reply, .int t_told, .ref t_latest, .int t_latestSize, .ref t_made, .int t_many, .int t_askS, .int t_askR])), (t_registers, .inl (t_registers_c, 4, .inl t_registers_f)), (t_column, .inl (t_column_c, 3, .inl t_column_f)), (t_times, .inl (t_times_c, 13, .inl t_times_f)), (t_values, .inl (t_values_c, 39, .inl t_values_f)), (t_bytes, .inl (t_bytes_c, 280, .inl t_bytes_f)), (t_line, .inl (t_line_c, 80, .inl t_line_f)), (t_reply, .inl (t_reply_c, 80, .inl t_reply_f)), (t_latest, .inl (t_latest_c, 80, .inl t_latest_f)), (t_made, .inl (t_made_c, 300, .inl t_made_f))] hP hD
        refine lv_goto (tgt := 207) hx hb dc_Mo_set_198 (by decide) ?_
        exact hJ207 v1 v2 t_time t_capacity v5 t_columns t_entries t_registers_f t_column_f ls _ _ hm (lv_sub hl [0, 1, 2] rfl) hP hD hS
    · have hm := bs_pos h175 hm
      refine lv_aload_n hx hb dc_Mo_set_178 rfl (lv_at hl 0 rfl) ?_
      refine lv_iload hx hb dc_Mo_set_179 (lv_at hl 3 rfl) ?_
      refine va_put (ci := 6) (v := .int v5) (ty := .int) (C := cn_Mo) (T := cf_Mo) (N := 28) hx hb hB ki_Mo ct_Mo cp_Mo cd_Mo hown hK hP hD hS 0 rfl rfl 2 (by decide) (hB _ kw_fl_Mo_53) (fun _ h => h) rfl (by decide +kernel) rfl rfl (bs_ltr rfl) dc_Mo_set_181 (fun H locs hP hD hS => ?_)
      obtain ⟨hP, hD⟩ := bs_say [(t, .inr (6, [.int t_secret, .int t_thrown, .int v5, .ref t_registers, .int t_capacity, .int t_period, .int t_columns, .ref t_column, .int t_entries, .ref t_times, .ref t_values, .int t_connected, .int t_expected, .int t_next, .int t_association, .ref t_bytes, .int t_size, .int t_sent, .ref t_line, .int t_count, .ref t_reply, .int t_told, .ref t_latest, .int t_latestSize, .ref t_made, .int t_many, .int t_askS, .int t_askR])), (t_registers, .inl (t_registers_c, 4, .inl t_registers_f)), (t_column, .inl (t_column_c, 3, .inl t_column_f)), (t_times, .inl (t_times_c, 13, .inl t_times_f)), (t_values, .inl (t_values_c, 39, .inl t_values_f)), (t_bytes, .inl (t_bytes_c, 280, .inl t_bytes_f)), (t_line, .inl (t_line_c, 80, .inl t_line_f)), (t_reply, .inl (t_reply_c, 80, .inl t_reply_f)), (t_latest, .inl (t_latest_c, 80, .inl t_latest_f)), (t_made, .inl (t_made_c, 300, .inl t_made_f))] hP hD
      refine lv_goto (tgt := 207) hx hb dc_Mo_set_184 (by decide) ?_
      exact hJ207 v1 v2 v5 t_capacity t_period t_columns t_entries t_registers_f t_column_f ls _ _ hm (lv_sub hl [0, 1, 2] rfl) hP hD hS
  have hJ147 : ∀ (v1 : Int32) (v2 : Int32) (v5 : Int32) (t_time : Int32) (t_capacity : Int32) (t_period : Int32) (t_columns : Int32) (t_entries : Int32) (t_registers_f : Nat → Int32) (t_column_f : Nat → Int32) (ls : Array Slot) (H : Heap) (locs : List Loc), mm_Mo_set_J147 F v1 v2 v5 t_time t_capacity t_period t_columns t_entries t_registers_f t_column_f = some r → lv_has ls 6 [(0, .ref t), (1, .int v1), (2, .int v2), (5, .int v5)] → va_P D bs_cl [(t, .inr (6, [.int t_secret, .int t_thrown, .int t_time, .ref t_registers, .int t_capacity, .int t_period, .int t_columns, .ref t_column, .int t_entries, .ref t_times, .ref t_values, .int t_connected, .int t_expected, .int t_next, .int t_association, .ref t_bytes, .int t_size, .int t_sent, .ref t_line, .int t_count, .ref t_reply, .int t_told, .ref t_latest, .int t_latestSize, .ref t_made, .int t_many, .int t_askS, .int t_askR])), (t_registers, .inl (t_registers_c, 4, .inl t_registers_f)), (t_column, .inl (t_column_c, 3, .inl t_column_f)), (t_times, .inl (t_times_c, 13, .inl t_times_f)), (t_values, .inl (t_values_c, 39, .inl t_values_f)), (t_bytes, .inl (t_bytes_c, 280, .inl t_bytes_f)), (t_line, .inl (t_line_c, 80, .inl t_line_f)), (t_reply, .inl (t_reply_c, 80, .inl t_reply_f)), (t_latest, .inl (t_latest_c, 80, .inl t_latest_f)), (t_made, .inl (t_made_c, 300, .inl t_made_f))] H → va_D A [(t, .inr (6, [.int t_secret, .int t_thrown, .int t_time, .ref t_registers, .int t_capacity, .int t_period, .int t_columns, .ref t_column, .int t_entries, .ref t_times, .ref t_values, .int t_connected, .int t_expected, .int t_next, .int t_association, .ref t_bytes, .int t_size, .int t_sent, .ref t_line, .int t_count, .ref t_reply, .int t_told, .ref t_latest, .int t_latestSize, .ref t_made, .int t_many, .int t_askS, .int t_askR])), (t_registers, .inl (t_registers_c, 4, .inl t_registers_f)), (t_column, .inl (t_column_c, 3, .inl t_column_f)), (t_times, .inl (t_times_c, 13, .inl t_times_f)), (t_values, .inl (t_values_c, 39, .inl t_values_f)), (t_bytes, .inl (t_bytes_c, 280, .inl t_bytes_f)), (t_line, .inl (t_line_c, 80, .inl t_line_f)), (t_reply, .inl (t_reply_c, 80, .inl t_reply_f)), (t_latest, .inl (t_latest_c, 80, .inl t_latest_f)), (t_made, .inl (t_made_c, 300, .inl t_made_f))] → va_S A s.heap H locs → W p l e (bs_rm 2) s m [.ref t, .int i1, .int i2, .int i3].toArray below meth c H locs 0 0 Q (F0 m 147 ls []) := by
    intro v1 v2 v5 t_time t_capacity t_period t_columns t_entries t_registers_f t_column_f ls H locs hm hl hP hD hS
    have hm := (mq_Mo_set_J147 F v1 v2 v5 t_time t_capacity t_period t_columns t_entries t_registers_f t_column_f).symm.trans hm
    refine lv_iload hx hb dc_Mo_set_147 (lv_at hl 3 rfl) ?_
    refine lv_if_lt (tgt := 171) hx hb dc_Mo_set_149 (by decide) (fun h149 => ?_) (fun h149 => ?_)
    · have hm := bs_pos h149 hm
      refine lv_bipush (v := 12) hx hb dc_Mo_set_171 (by decide +kernel) ?_
      clear hJ207 hJ174
      cases hm
      subst hQ
      exact bs_retI hx hb hr hlk () rfl hP hD hS dc_Mo_set_173
    · have hm := bs_neg h149 hm
      refine lv_iload_n hx hb dc_Mo_set_152 rfl (lv_at hl 2 rfl) ?_
      refine lv_bipush (v := 8) hx hb dc_Mo_set_153 (by decide +kernel) ?_
      refine lv_icmp_ne (tgt := 174) hx hb dc_Mo_set_155 (by decide) (fun h155 => ?_) (fun h155 => ?_)
      · have hm := bs_neg h155 hm
        exact hJ174 v1 v2 v5 t_time t_capacity t_period t_columns t_entries t_registers_f t_column_f ls _ _ hm hl hP hD hS
      · have hm := bs_pos h155 hm
        refine lv_iload hx hb dc_Mo_set_158 (lv_at hl 3 rfl) ?_
        refine lv_iconst (v := 1) hx hb dc_Mo_set_160 (by decide +kernel) ?_
        refine lv_icmp_lt (tgt := 171) hx hb dc_Mo_set_161 (by decide) (fun h161 => ?_) (fun h161 => ?_)
        · have hm := bs_pos h161 hm
          refine lv_bipush (v := 12) hx hb dc_Mo_set_171 (by decide +kernel) ?_
          clear hJ207 hJ174
          cases hm
          subst hQ
          exact bs_retI hx hb hr hlk () rfl hP hD hS dc_Mo_set_173
        · have hm := bs_neg h161 hm
          refine lv_iload hx hb dc_Mo_set_164 (lv_at hl 3 rfl) ?_
          refine lv_bipush (v := 12) hx hb dc_Mo_set_166 (by decide +kernel) ?_
          refine lv_icmp_le (tgt := 174) hx hb dc_Mo_set_168 (by decide) (fun h168 => ?_) (fun h168 => ?_)
          · have hm := bs_pos h168 hm
            exact hJ174 v1 v2 v5 t_time t_capacity t_period t_columns t_entries t_registers_f t_column_f ls _ _ hm hl hP hD hS
          · have hm := bs_neg h168 hm
            refine lv_bipush (v := 12) hx hb dc_Mo_set_171 (by decide +kernel) ?_
            clear hJ207 hJ174
            cases hm
            subst hQ
            exact bs_retI hx hb hr hlk () rfl hP hD hS dc_Mo_set_173
  have hJ115 : ∀ (v1 : Int32) (v2 : Int32) (s0 : Int32) (s1 : Int32) (t_time : Int32) (t_capacity : Int32) (t_period : Int32) (t_columns : Int32) (t_entries : Int32) (t_registers_f : Nat → Int32) (t_column_f : Nat → Int32) (ls : Array Slot) (H : Heap) (locs : List Loc), mm_Mo_set_J115 F v1 v2 s0 s1 t_time t_capacity t_period t_columns t_entries t_registers_f t_column_f t_line_f = some r → lv_has ls 6 [(0, .ref t), (1, .int v1), (2, .int v2)] → va_P D bs_cl [(t, .inr (6, [.int t_secret, .int t_thrown, .int t_time, .ref t_registers, .int t_capacity, .int t_period, .int t_columns, .ref t_column, .int t_entries, .ref t_times, .ref t_values, .int t_connected, .int t_expected, .int t_next, .int t_association, .ref t_bytes, .int t_size, .int t_sent, .ref t_line, .int t_count, .ref t_reply, .int t_told, .ref t_latest, .int t_latestSize, .ref t_made, .int t_many, .int t_askS, .int t_askR])), (t_registers, .inl (t_registers_c, 4, .inl t_registers_f)), (t_column, .inl (t_column_c, 3, .inl t_column_f)), (t_times, .inl (t_times_c, 13, .inl t_times_f)), (t_values, .inl (t_values_c, 39, .inl t_values_f)), (t_bytes, .inl (t_bytes_c, 280, .inl t_bytes_f)), (t_line, .inl (t_line_c, 80, .inl t_line_f)), (t_reply, .inl (t_reply_c, 80, .inl t_reply_f)), (t_latest, .inl (t_latest_c, 80, .inl t_latest_f)), (t_made, .inl (t_made_c, 300, .inl t_made_f))] H → va_D A [(t, .inr (6, [.int t_secret, .int t_thrown, .int t_time, .ref t_registers, .int t_capacity, .int t_period, .int t_columns, .ref t_column, .int t_entries, .ref t_times, .ref t_values, .int t_connected, .int t_expected, .int t_next, .int t_association, .ref t_bytes, .int t_size, .int t_sent, .ref t_line, .int t_count, .ref t_reply, .int t_told, .ref t_latest, .int t_latestSize, .ref t_made, .int t_many, .int t_askS, .int t_askR])), (t_registers, .inl (t_registers_c, 4, .inl t_registers_f)), (t_column, .inl (t_column_c, 3, .inl t_column_f)), (t_times, .inl (t_times_c, 13, .inl t_times_f)), (t_values, .inl (t_values_c, 39, .inl t_values_f)), (t_bytes, .inl (t_bytes_c, 280, .inl t_bytes_f)), (t_line, .inl (t_line_c, 80, .inl t_line_f)), (t_reply, .inl (t_reply_c, 80, .inl t_reply_f)), (t_latest, .inl (t_latest_c, 80, .inl t_latest_f)), (t_made, .inl (t_made_c, 300, .inl t_made_f))] → va_S A s.heap H locs → W p l e (bs_rm 2) s m [.ref t, .int i1, .int i2, .int i3].toArray below meth c H locs 0 0 Q (F0 m 115 ls [.int s0, .int s1]) := by
    intro v1 v2 s0 s1 t_time t_capacity t_period t_columns t_entries t_registers_f t_column_f ls H locs hm hl hP hD hS
    have hm := (mq_Mo_set_J115 F v1 v2 s0 s1 t_time t_capacity t_period t_columns t_entries t_registers_f t_column_f t_line_f).symm.trans hm
    refine lv_icmp_eq (tgt := 121) hx hb dc_Mo_set_115 (by decide) (fun h115 => ?_) (fun h115 => ?_)
    · have hm := bs_pos h115 hm
      refine lv_aload_n hx hb dc_Mo_set_121 rfl (lv_at hl 0 rfl) ?_
      refine lv_iconst (v := 4) hx hb dc_Mo_set_122 (by decide +kernel) ?_
      obtain ⟨x123, hx123, hm⟩ := bs_bind hm
      refine bs_callVi 1 [] (fun _ => [(t, .inr (6, [.int t_secret, .int t_thrown, .int t_time, .ref t_registers, .int t_capacity, .int t_period, .int t_columns, .ref t_column, .int t_entries, .ref t_times, .ref t_values, .int t_connected, .int t_expected, .int t_next, .int t_association, .ref t_bytes, .int t_size, .int t_sent, .ref t_line, .int t_count, .ref t_reply, .int t_told, .ref t_latest, .int t_latestSize, .ref t_made, .int t_many, .int t_askS, .int t_askR])), (t_registers, .inl (t_registers_c, 4, .inl t_registers_f)), (t_column, .inl (t_column_c, 3, .inl t_column_f)), (t_times, .inl (t_times_c, 13, .inl t_times_f)), (t_values, .inl (t_values_c, 39, .inl t_values_f)), (t_bytes, .inl (t_bytes_c, 280, .inl t_bytes_f)), (t_line, .inl (t_line_c, 80, .inl t_line_f)), (t_reply, .inl (t_reply_c, 80, .inl t_reply_f)), (t_latest, .inl (t_latest_c, 80, .inl t_latest_f)), (t_made, .inl (t_made_c, 300, .inl t_made_f))]) [] hx hb hml hown hB hN hK hP hD hS hA (ct_Mo_intAt l D F t t_registers t_column t_times t_values t_bytes t_line t_reply t_latest t_made t_registers_c t_column_c t_times_c t_values_c t_bytes_c t_line_c t_reply_c t_latest_c t_made_c t_secret t_thrown t_time t_capacity t_period t_columns t_entries t_connected t_expected t_next t_association t_size t_sent t_count t_told t_latestSize t_many t_askS t_askR t_registers_f t_column_f t_times_f t_values_f t_bytes_f t_line_f t_reply_f t_latest_f t_made_f 4 x123 hx123) kw_cd_Mo_intAt kw_ml_Mo_145 kw_im_Mo_intAt kw_se_Mo_intAt kw_in_Mo kd_Mo_intAt (by decide) ⟨_, _, _, rfl, rfl, rfl⟩ [0, 1, 2, 3, 4, 5, 6, 7, 8, 9] [] rfl rfl (by decide) [0, 1, 2, 3, 4, 5, 6, 7, 8] rfl [0, 1, 2, 3, 4, 5, 6, 7, 8, 9] (by decide) (fun _ => rfl) rfl hl.1 (bs_ler rfl) (by decide) dc_Mo_set_123 rfl (fun v123q _ H locs hq123 hP hD hS => ?_)
      have hq123 := hq123.symm
      subst hq123
      refine lv_istore hx hb dc_Mo_set_126 hl (by decide) rfl (fun ls hl => ?_)
      have hl : lv_has ls 6 [(5, .int x123), (0, .ref t), (1, .int v1), (2, .int v2)] := hl
      refine lv_iload_n hx hb dc_Mo_set_128 rfl (lv_at hl 2 rfl) ?_
      refine lv_if_le (tgt := 147) hx hb dc_Mo_set_129 (by decide) (fun h129 => ?_) (fun h129 => ?_)
      · have hm := bs_pos h129 hm
        exact hJ147 v1 v2 x123 t_time t_capacity t_period t_columns t_entries t_registers_f t_column_f ls _ _ hm (lv_sub hl [1, 2, 3, 0] rfl) hP hD hS
      · have hm := bs_neg h129 hm
        refine lv_iload_n hx hb dc_Mo_set_132 rfl (lv_at hl 2 rfl) ?_
        refine lv_iconst (v := 4) hx hb dc_Mo_set_133 (by decide +kernel) ?_
        refine lv_icmp_ge (tgt := 147) hx hb dc_Mo_set_134 (by decide) (fun h134 => ?_) (fun h134 => ?_)
        · have hm := bs_pos h134 hm
          exact hJ147 v1 v2 x123 t_time t_capacity t_period t_columns t_entries t_registers_f t_column_f ls _ _ hm (lv_sub hl [1, 2, 3, 0] rfl) hP hD hS
        · have hm := bs_neg h134 hm
          refine lv_aload_n hx hb dc_Mo_set_137 rfl (lv_at hl 1 rfl) ?_
          refine va_get (ci := 6) (v := .ref t_registers) (C := cn_Mo) (T := cf_Mo) (N := 28) hx hb hB ki_Mo hown hK hP 0 rfl rfl 3 (by decide) (hB _ kw_fl_Mo_7) (fun _ h => h) rfl dc_Mo_set_138 ?_
          refine lv_iload_n hx hb dc_Mo_set_141 rfl (lv_at hl 2 rfl) ?_
          refine lv_iload hx hb dc_Mo_set_142 (lv_at hl 0 rfl) ?_
          obtain ⟨hz144, hm⟩ := bs_nn hm
          refine va_iast hx hb hK hP hD hS 1 0 rfl rfl hz144 dc_Mo_set_144 (fun H locs hP hD hS => ?_)
          obtain ⟨hP, hD⟩ := bs_say [(t, .inr (6, [.int t_secret, .int t_thrown, .int t_time, .ref t_registers, .int t_capacity, .int t_period, .int t_columns, .ref t_column, .int t_entries, .ref t_times, .ref t_values, .int t_connected, .int t_expected, .int t_next, .int t_association, .ref t_bytes, .int t_size, .int t_sent, .ref t_line, .int t_count, .ref t_reply, .int t_told, .ref t_latest, .int t_latestSize, .ref t_made, .int t_many, .int t_askS, .int t_askR])), (t_registers, .inl (t_registers_c, 4, .inl (upd t_registers_f v1.toNatClampNeg x123))), (t_column, .inl (t_column_c, 3, .inl t_column_f)), (t_times, .inl (t_times_c, 13, .inl t_times_f)), (t_values, .inl (t_values_c, 39, .inl t_values_f)), (t_bytes, .inl (t_bytes_c, 280, .inl t_bytes_f)), (t_line, .inl (t_line_c, 80, .inl t_line_f)), (t_reply, .inl (t_reply_c, 80, .inl t_reply_f)), (t_latest, .inl (t_latest_c, 80, .inl t_latest_f)), (t_made, .inl (t_made_c, 300, .inl t_made_f))] hP hD
          refine lv_iconst (v := 0) hx hb dc_Mo_set_145 (by decide +kernel) ?_
          clear hJ207 hJ174 hJ147
          cases hm
          subst hQ
          exact bs_retI hx hb hr hlk () rfl hP hD hS dc_Mo_set_146
    · have hm := bs_neg h115 hm
      refine lv_bipush (v := 12) hx hb dc_Mo_set_118 (by decide +kernel) ?_
      clear hJ207 hJ174 hJ147
      cases hm
      subst hQ
      exact bs_retI hx hb hr hlk () rfl hP hD hS dc_Mo_set_120
  have hJ113 : ∀ (v1 : Int32) (v2 : Int32) (s0 : Int32) (t_time : Int32) (t_capacity : Int32) (t_period : Int32) (t_columns : Int32) (t_entries : Int32) (t_registers_f : Nat → Int32) (t_column_f : Nat → Int32) (ls : Array Slot) (H : Heap) (locs : List Loc), mm_Mo_set_J113 F v1 v2 s0 t_time t_capacity t_period t_columns t_entries t_registers_f t_column_f t_line_f = some r → lv_has ls 6 [(0, .ref t), (1, .int v1), (2, .int v2)] → va_P D bs_cl [(t, .inr (6, [.int t_secret, .int t_thrown, .int t_time, .ref t_registers, .int t_capacity, .int t_period, .int t_columns, .ref t_column, .int t_entries, .ref t_times, .ref t_values, .int t_connected, .int t_expected, .int t_next, .int t_association, .ref t_bytes, .int t_size, .int t_sent, .ref t_line, .int t_count, .ref t_reply, .int t_told, .ref t_latest, .int t_latestSize, .ref t_made, .int t_many, .int t_askS, .int t_askR])), (t_registers, .inl (t_registers_c, 4, .inl t_registers_f)), (t_column, .inl (t_column_c, 3, .inl t_column_f)), (t_times, .inl (t_times_c, 13, .inl t_times_f)), (t_values, .inl (t_values_c, 39, .inl t_values_f)), (t_bytes, .inl (t_bytes_c, 280, .inl t_bytes_f)), (t_line, .inl (t_line_c, 80, .inl t_line_f)), (t_reply, .inl (t_reply_c, 80, .inl t_reply_f)), (t_latest, .inl (t_latest_c, 80, .inl t_latest_f)), (t_made, .inl (t_made_c, 300, .inl t_made_f))] H → va_D A [(t, .inr (6, [.int t_secret, .int t_thrown, .int t_time, .ref t_registers, .int t_capacity, .int t_period, .int t_columns, .ref t_column, .int t_entries, .ref t_times, .ref t_values, .int t_connected, .int t_expected, .int t_next, .int t_association, .ref t_bytes, .int t_size, .int t_sent, .ref t_line, .int t_count, .ref t_reply, .int t_told, .ref t_latest, .int t_latestSize, .ref t_made, .int t_many, .int t_askS, .int t_askR])), (t_registers, .inl (t_registers_c, 4, .inl t_registers_f)), (t_column, .inl (t_column_c, 3, .inl t_column_f)), (t_times, .inl (t_times_c, 13, .inl t_times_f)), (t_values, .inl (t_values_c, 39, .inl t_values_f)), (t_bytes, .inl (t_bytes_c, 280, .inl t_bytes_f)), (t_line, .inl (t_line_c, 80, .inl t_line_f)), (t_reply, .inl (t_reply_c, 80, .inl t_reply_f)), (t_latest, .inl (t_latest_c, 80, .inl t_latest_f)), (t_made, .inl (t_made_c, 300, .inl t_made_f))] → va_S A s.heap H locs → W p l e (bs_rm 2) s m [.ref t, .int i1, .int i2, .int i3].toArray below meth c H locs 0 0 Q (F0 m 113 ls [.int s0]) := by
    intro v1 v2 s0 t_time t_capacity t_period t_columns t_entries t_registers_f t_column_f ls H locs hm hl hP hD hS
    have hm := (mq_Mo_set_J113 F v1 v2 s0 t_time t_capacity t_period t_columns t_entries t_registers_f t_column_f t_line_f).symm.trans hm
    refine lv_bipush (v := 6) hx hb dc_Mo_set_113 (by decide +kernel) ?_
    exact hJ115 v1 v2 6 s0 t_time t_capacity t_period t_columns t_entries t_registers_f t_column_f ls _ _ hm hl hP hD hS
  have hJ90 : ∀ (v1 : Int32) (v2 : Int32) (v3 : Int32) (t_time : Int32) (t_capacity : Int32) (t_period : Int32) (t_columns : Int32) (t_entries : Int32) (t_registers_f : Nat → Int32) (t_column_f : Nat → Int32) (ls : Array Slot) (H : Heap) (locs : List Loc), mm_Mo_set_J90 F v1 v2 v3 t_time t_capacity t_period t_columns t_entries t_registers_f t_column_f t_line_f = some r → lv_has ls 6 [(0, .ref t), (1, .int v1), (2, .int v2), (3, .int v3)] → va_P D bs_cl [(t, .inr (6, [.int t_secret, .int t_thrown, .int t_time, .ref t_registers, .int t_capacity, .int t_period, .int t_columns, .ref t_column, .int t_entries, .ref t_times, .ref t_values, .int t_connected, .int t_expected, .int t_next, .int t_association, .ref t_bytes, .int t_size, .int t_sent, .ref t_line, .int t_count, .ref t_reply, .int t_told, .ref t_latest, .int t_latestSize, .ref t_made, .int t_many, .int t_askS, .int t_askR])), (t_registers, .inl (t_registers_c, 4, .inl t_registers_f)), (t_column, .inl (t_column_c, 3, .inl t_column_f)), (t_times, .inl (t_times_c, 13, .inl t_times_f)), (t_values, .inl (t_values_c, 39, .inl t_values_f)), (t_bytes, .inl (t_bytes_c, 280, .inl t_bytes_f)), (t_line, .inl (t_line_c, 80, .inl t_line_f)), (t_reply, .inl (t_reply_c, 80, .inl t_reply_f)), (t_latest, .inl (t_latest_c, 80, .inl t_latest_f)), (t_made, .inl (t_made_c, 300, .inl t_made_f))] H → va_D A [(t, .inr (6, [.int t_secret, .int t_thrown, .int t_time, .ref t_registers, .int t_capacity, .int t_period, .int t_columns, .ref t_column, .int t_entries, .ref t_times, .ref t_values, .int t_connected, .int t_expected, .int t_next, .int t_association, .ref t_bytes, .int t_size, .int t_sent, .ref t_line, .int t_count, .ref t_reply, .int t_told, .ref t_latest, .int t_latestSize, .ref t_made, .int t_many, .int t_askS, .int t_askR])), (t_registers, .inl (t_registers_c, 4, .inl t_registers_f)), (t_column, .inl (t_column_c, 3, .inl t_column_f)), (t_times, .inl (t_times_c, 13, .inl t_times_f)), (t_values, .inl (t_values_c, 39, .inl t_values_f)), (t_bytes, .inl (t_bytes_c, 280, .inl t_bytes_f)), (t_line, .inl (t_line_c, 80, .inl t_line_f)), (t_reply, .inl (t_reply_c, 80, .inl t_reply_f)), (t_latest, .inl (t_latest_c, 80, .inl t_latest_f)), (t_made, .inl (t_made_c, 300, .inl t_made_f))] → va_S A s.heap H locs → W p l e (bs_rm 2) s m [.ref t, .int i1, .int i2, .int i3].toArray below meth c H locs 0 0 Q (F0 m 90 ls []) := by
    intro v1 v2 v3 t_time t_capacity t_period t_columns t_entries t_registers_f t_column_f ls H locs hm hl hP hD hS
    have hm := (mq_Mo_set_J90 F v1 v2 v3 t_time t_capacity t_period t_columns t_entries t_registers_f t_column_f t_line_f).symm.trans hm
    refine lv_iload_n hx hb dc_Mo_set_90 rfl (lv_at hl 3 rfl) ?_
    refine lv_iconst (v := 5) hx hb dc_Mo_set_91 (by decide +kernel) ?_
    refine lv_icmp_ne (tgt := 118) hx hb dc_Mo_set_92 (by decide) (fun h92 => ?_) (fun h92 => ?_)
    · have hm := bs_neg h92 hm
      refine lv_bipush (v := 12) hx hb dc_Mo_set_118 (by decide +kernel) ?_
      clear hJ207 hJ174 hJ147 hJ115 hJ113
      cases hm
      subst hQ
      exact bs_retI hx hb hr hlk () rfl hP hD hS dc_Mo_set_120
    · have hm := bs_pos h92 hm
      refine lv_aload_n hx hb dc_Mo_set_95 rfl (lv_at hl 0 rfl) ?_
      refine lv_iconst (v := 3) hx hb dc_Mo_set_96 (by decide +kernel) ?_
      obtain ⟨x97, hx97, hm⟩ := bs_bind hm
      refine bs_callVi 1 [] (fun _ => [(t, .inr (6, [.int t_secret, .int t_thrown, .int t_time, .ref t_registers, .int t_capacity, .int t_period, .int t_columns, .ref t_column, .int t_entries, .ref t_times, .ref t_values, .int t_connected, .int t_expected, .int t_next, .int t_association, .ref t_bytes, .int t_size, .int t_sent, .ref t_line, .int t_count, .ref t_reply, .int t_told, .ref t_latest, .int t_latestSize, .ref t_made, .int t_many, .int t_askS, .int t_askR])), (t_registers, .inl (t_registers_c, 4, .inl t_registers_f)), (t_column, .inl (t_column_c, 3, .inl t_column_f)), (t_times, .inl (t_times_c, 13, .inl t_times_f)), (t_values, .inl (t_values_c, 39, .inl t_values_f)), (t_bytes, .inl (t_bytes_c, 280, .inl t_bytes_f)), (t_line, .inl (t_line_c, 80, .inl t_line_f)), (t_reply, .inl (t_reply_c, 80, .inl t_reply_f)), (t_latest, .inl (t_latest_c, 80, .inl t_latest_f)), (t_made, .inl (t_made_c, 300, .inl t_made_f))]) [] hx hb hml hown hB hN hK hP hD hS hA (ct_Mo_at l D F t t_registers t_column t_times t_values t_bytes t_line t_reply t_latest t_made t_registers_c t_column_c t_times_c t_values_c t_bytes_c t_line_c t_reply_c t_latest_c t_made_c t_secret t_thrown t_time t_capacity t_period t_columns t_entries t_connected t_expected t_next t_association t_size t_sent t_count t_told t_latestSize t_many t_askS t_askR t_registers_f t_column_f t_times_f t_values_f t_bytes_f t_line_f t_reply_f t_latest_f t_made_f 3 x97 hx97) kw_cd_Mo_at kw_ml_Mo_139 kw_im_Mo_at kw_se_Mo_at kw_in_Mo kd_Mo_at (by decide) ⟨_, _, _, rfl, rfl, rfl⟩ [0, 1, 2, 3, 4, 5, 6, 7, 8, 9] [] rfl rfl (by decide) [0, 1, 2, 3, 4, 5, 6, 7, 8] rfl [0, 1, 2, 3, 4, 5, 6, 7, 8, 9] (by decide) (fun _ => rfl) rfl hl.1 (bs_ler rfl) (by decide) dc_Mo_set_97 rfl (fun v97q _ H locs hq97 hP hD hS => ?_)
      have hq97 := hq97.symm
      subst hq97
      refine lv_iload_n hx hb dc_Mo_set_100 rfl (lv_at hl 1 rfl) ?_
      refine lv_if_le (tgt := 113) hx hb dc_Mo_set_101 (by decide) (fun h101 => ?_) (fun h101 => ?_)
      · have hm := bs_pos h101 hm
        exact hJ113 v1 v2 x97 t_time t_capacity t_period t_columns t_entries t_registers_f t_column_f ls _ _ hm (lv_sub hl [0, 1, 2] rfl) hP hD hS
      · have hm := bs_neg h101 hm
        refine lv_iload_n hx hb dc_Mo_set_104 rfl (lv_at hl 1 rfl) ?_
        refine lv_iconst (v := 4) hx hb dc_Mo_set_105 (by decide +kernel) ?_
        refine lv_icmp_ge (tgt := 113) hx hb dc_Mo_set_106 (by decide) (fun h106 => ?_) (fun h106 => ?_)
        · have hm := bs_pos h106 hm
          exact hJ113 v1 v2 x97 t_time t_capacity t_period t_columns t_entries t_registers_f t_column_f ls _ _ hm (lv_sub hl [0, 1, 2] rfl) hP hD hS
        · have hm := bs_neg h106 hm
          refine lv_iconst (v := 5) hx hb dc_Mo_set_109 (by decide +kernel) ?_
          refine lv_goto (tgt := 115) hx hb dc_Mo_set_110 (by decide) ?_
          exact hJ115 v1 v2 5 x97 t_time t_capacity t_period t_columns t_entries t_registers_f t_column_f ls _ _ hm (lv_sub hl [0, 1, 2] rfl) hP hD hS
  have hJ57 : ∀ (v1 : Int32) (v2 : Int32) (v3 : Int32) (s0 : Int32) (t_time : Int32) (t_capacity : Int32) (t_period : Int32) (t_columns : Int32) (t_entries : Int32) (t_registers_f : Nat → Int32) (t_column_f : Nat → Int32) (ls : Array Slot) (H : Heap) (locs : List Loc), mm_Mo_set_J57 F v1 v2 v3 s0 t_time t_capacity t_period t_columns t_entries t_association t_registers_f t_column_f t_line_f = some r → lv_has ls 6 [(0, .ref t), (1, .int v1), (2, .int v2), (3, .int v3)] → va_P D bs_cl [(t, .inr (6, [.int t_secret, .int t_thrown, .int t_time, .ref t_registers, .int t_capacity, .int t_period, .int t_columns, .ref t_column, .int t_entries, .ref t_times, .ref t_values, .int t_connected, .int t_expected, .int t_next, .int t_association, .ref t_bytes, .int t_size, .int t_sent, .ref t_line, .int t_count, .ref t_reply, .int t_told, .ref t_latest, .int t_latestSize, .ref t_made, .int t_many, .int t_askS, .int t_askR])), (t_registers, .inl (t_registers_c, 4, .inl t_registers_f)), (t_column, .inl (t_column_c, 3, .inl t_column_f)), (t_times, .inl (t_times_c, 13, .inl t_times_f)), (t_values, .inl (t_values_c, 39, .inl t_values_f)), (t_bytes, .inl (t_bytes_c, 280, .inl t_bytes_f)), (t_line, .inl (t_line_c, 80, .inl t_line_f)), (t_reply, .inl (t_reply_c, 80, .inl t_reply_f)), (t_latest, .inl (t_latest_c, 80, .inl t_latest_f)), (t_made, .inl (t_made_c, 300, .inl t_made_f))] H → va_D A [(t, .inr (6, [.int t_secret, .int t_thrown, .int t_time, .ref t_registers, .int t_capacity, .int t_period, .int t_columns, .ref t_column, .int t_entries, .ref t_times, .ref t_values, .int t_connected, .int t_expected, .int t_next, .int t_association, .ref t_bytes, .int t_size, .int t_sent, .ref t_line, .int t_count, .ref t_reply, .int t_told, .ref t_latest, .int t_latestSize, .ref t_made, .int t_many, .int t_askS, .int t_askR])), (t_registers, .inl (t_registers_c, 4, .inl t_registers_f)), (t_column, .inl (t_column_c, 3, .inl t_column_f)), (t_times, .inl (t_times_c, 13, .inl t_times_f)), (t_values, .inl (t_values_c, 39, .inl t_values_f)), (t_bytes, .inl (t_bytes_c, 280, .inl t_bytes_f)), (t_line, .inl (t_line_c, 80, .inl t_line_f)), (t_reply, .inl (t_reply_c, 80, .inl t_reply_f)), (t_latest, .inl (t_latest_c, 80, .inl t_latest_f)), (t_made, .inl (t_made_c, 300, .inl t_made_f))] → va_S A s.heap H locs → W p l e (bs_rm 2) s m [.ref t, .int i1, .int i2, .int i3].toArray below meth c H locs 0 0 Q (F0 m 57 ls [.int s0]) := by
    intro v1 v2 v3 s0 t_time t_capacity t_period t_columns t_entries t_registers_f t_column_f ls H locs hm hl hP hD hS
    have hm := (mq_Mo_set_J57 F v1 v2 v3 s0 t_time t_capacity t_period t_columns t_entries t_association t_registers_f t_column_f t_line_f).symm.trans hm
    refine lv_istore hx hb dc_Mo_set_57 hl (by decide) rfl (fun ls hl => ?_)
    have hl : lv_has ls 6 [(4, .int s0), (0, .ref t), (1, .int v1), (2, .int v2), (3, .int v3)] := hl
    refine lv_aload_n hx hb dc_Mo_set_59 rfl (lv_at hl 1 rfl) ?_
    refine va_get (ci := 6) (v := .int t_association) (C := cn_Mo) (T := cf_Mo) (N := 28) hx hb hB ki_Mo hown hK hP 0 rfl rfl 14 (by decide) (hB _ kw_fl_Mo_71) (fun _ h => h) rfl dc_Mo_set_60 ?_
    refine lv_iconst (v := 2) hx hb dc_Mo_set_63 (by decide +kernel) ?_
    refine lv_icmp_ne (tgt := 72) hx hb dc_Mo_set_64 (by decide) (fun h64 => ?_) (fun h64 => ?_)
    · have hm := bs_neg h64 hm
      refine lv_iconst (v := 3) hx hb dc_Mo_set_72 (by decide +kernel) ?_
      clear hJ207 hJ174 hJ147 hJ115 hJ113 hJ90
      cases hm
      subst hQ
      exact bs_retI hx hb hr hlk () rfl hP hD hS dc_Mo_set_73
    · have hm := bs_pos h64 hm
      refine lv_iload hx hb dc_Mo_set_67 (lv_at hl 0 rfl) ?_
      refine lv_if_ne (tgt := 74) hx hb dc_Mo_set_69 (by decide) (fun h69 => ?_) (fun h69 => ?_)
      · have hm := bs_neg h69 hm
        refine lv_iload_n hx hb dc_Mo_set_74 rfl (lv_at hl 2 rfl) ?_
        refine lv_iconst (v := 4) hx hb dc_Mo_set_75 (by decide +kernel) ?_
        refine lv_icmp_ne (tgt := 90) hx hb dc_Mo_set_76 (by decide) (fun h76 => ?_) (fun h76 => ?_)
        · have hm := bs_neg h76 hm
          exact hJ90 v1 v2 v3 t_time t_capacity t_period t_columns t_entries t_registers_f t_column_f ls _ _ hm (lv_sub hl [1, 2, 3, 4] rfl) hP hD hS
        · have hm := bs_pos h76 hm
          refine lv_iload_n hx hb dc_Mo_set_79 rfl (lv_at hl 3 rfl) ?_
          refine lv_iconst (v := 3) hx hb dc_Mo_set_80 (by decide +kernel) ?_
          refine lv_icmp_ne (tgt := 90) hx hb dc_Mo_set_81 (by decide) (fun h81 => ?_) (fun h81 => ?_)
          · have hm := bs_neg h81 hm
            exact hJ90 v1 v2 v3 t_time t_capacity t_period t_columns t_entries t_registers_f t_column_f ls _ _ hm (lv_sub hl [1, 2, 3, 4] rfl) hP hD hS
          · have hm := bs_pos h81 hm
            refine lv_aload_n hx hb dc_Mo_set_84 rfl (lv_at hl 1 rfl) ?_
            refine lv_iload_n hx hb dc_Mo_set_85 rfl (lv_at hl 4 rfl) ?_
            obtain ⟨x86, hx86, hm⟩ := bs_bind hm
            refine bs_callVi 1 [] (fun _ => [(t, .inr (6, [.int t_secret, .int t_thrown, .int t_time, .ref t_registers, .int t_capacity, .int t_period, .int x86.2.1, .ref t_column, .int x86.2.2.1, .ref t_times, .ref t_values, .int t_connected, .int t_expected, .int t_next, .int t_association, .ref t_bytes, .int t_size, .int t_sent, .ref t_line, .int t_count, .ref t_reply, .int t_told, .ref t_latest, .int t_latestSize, .ref t_made, .int t_many, .int t_askS, .int t_askR])), (t_registers, .inl (t_registers_c, 4, .inl t_registers_f)), (t_column, .inl (t_column_c, 3, .inl x86.2.2.2)), (t_times, .inl (t_times_c, 13, .inl t_times_f)), (t_values, .inl (t_values_c, 39, .inl t_values_f)), (t_bytes, .inl (t_bytes_c, 280, .inl t_bytes_f)), (t_line, .inl (t_line_c, 80, .inl t_line_f)), (t_reply, .inl (t_reply_c, 80, .inl t_reply_f)), (t_latest, .inl (t_latest_c, 80, .inl t_latest_f)), (t_made, .inl (t_made_c, 300, .inl t_made_f))]) [] hx hb hml hown hB hN hK hP hD hS hA (ct_Mo_setColumns l D F t t_registers t_column t_times t_values t_bytes t_line t_reply t_latest t_made t_registers_c t_column_c t_times_c t_values_c t_bytes_c t_line_c t_reply_c t_latest_c t_made_c t_secret t_thrown t_time t_capacity t_period t_columns t_entries t_connected t_expected t_next t_association t_size t_sent t_count t_told t_latestSize t_many t_askS t_askR t_registers_f t_column_f t_times_f t_values_f t_bytes_f t_line_f t_reply_f t_latest_f t_made_f v3 x86 hx86) kw_cd_Mo_setColumns kw_ml_Mo_195 kw_im_Mo_setColumns kw_se_Mo_setColumns kw_in_Mo kd_Mo_setColumns (by decide) ⟨_, _, _, rfl, rfl, rfl⟩ [0, 1, 2, 3, 4, 5, 6, 7, 8, 9] [] rfl rfl (by decide) [0, 1, 2, 3, 4, 5, 6, 7, 8] rfl [0, 1, 2, 3, 4, 5, 6, 7, 8, 9] (by decide) (fun _ => rfl) rfl hl.1 (bs_ler rfl) (by decide) dc_Mo_set_86 rfl (fun v86q _ H locs hq86 hP hD hS => ?_)
            have hq86 := hq86.symm
            subst hq86
            clear hJ207 hJ174 hJ147 hJ115 hJ113 hJ90
            cases hm
            subst hQ
            exact bs_retI hx hb hr hlk () rfl hP hD hS dc_Mo_set_89
      · have hm := bs_pos h69 hm
        refine lv_iconst (v := 3) hx hb dc_Mo_set_72 (by decide +kernel) ?_
        clear hJ207 hJ174 hJ147 hJ115 hJ113 hJ90
        cases hm
        subst hQ
        exact bs_retI hx hb hr hlk () rfl hP hD hS dc_Mo_set_73
  have hJ52 : ∀ (v1 : Int32) (v2 : Int32) (v3 : Int32) (t_time : Int32) (t_capacity : Int32) (t_period : Int32) (t_columns : Int32) (t_entries : Int32) (t_registers_f : Nat → Int32) (t_column_f : Nat → Int32) (ls : Array Slot) (H : Heap) (locs : List Loc), mm_Mo_set_J52 F v1 v2 v3 t_time t_capacity t_period t_columns t_entries t_association t_registers_f t_column_f t_line_f = some r → lv_has ls 6 [(0, .ref t), (1, .int v1), (2, .int v2), (3, .int v3)] → va_P D bs_cl [(t, .inr (6, [.int t_secret, .int t_thrown, .int t_time, .ref t_registers, .int t_capacity, .int t_period, .int t_columns, .ref t_column, .int t_entries, .ref t_times, .ref t_values, .int t_connected, .int t_expected, .int t_next, .int t_association, .ref t_bytes, .int t_size, .int t_sent, .ref t_line, .int t_count, .ref t_reply, .int t_told, .ref t_latest, .int t_latestSize, .ref t_made, .int t_many, .int t_askS, .int t_askR])), (t_registers, .inl (t_registers_c, 4, .inl t_registers_f)), (t_column, .inl (t_column_c, 3, .inl t_column_f)), (t_times, .inl (t_times_c, 13, .inl t_times_f)), (t_values, .inl (t_values_c, 39, .inl t_values_f)), (t_bytes, .inl (t_bytes_c, 280, .inl t_bytes_f)), (t_line, .inl (t_line_c, 80, .inl t_line_f)), (t_reply, .inl (t_reply_c, 80, .inl t_reply_f)), (t_latest, .inl (t_latest_c, 80, .inl t_latest_f)), (t_made, .inl (t_made_c, 300, .inl t_made_f))] H → va_D A [(t, .inr (6, [.int t_secret, .int t_thrown, .int t_time, .ref t_registers, .int t_capacity, .int t_period, .int t_columns, .ref t_column, .int t_entries, .ref t_times, .ref t_values, .int t_connected, .int t_expected, .int t_next, .int t_association, .ref t_bytes, .int t_size, .int t_sent, .ref t_line, .int t_count, .ref t_reply, .int t_told, .ref t_latest, .int t_latestSize, .ref t_made, .int t_many, .int t_askS, .int t_askR])), (t_registers, .inl (t_registers_c, 4, .inl t_registers_f)), (t_column, .inl (t_column_c, 3, .inl t_column_f)), (t_times, .inl (t_times_c, 13, .inl t_times_f)), (t_values, .inl (t_values_c, 39, .inl t_values_f)), (t_bytes, .inl (t_bytes_c, 280, .inl t_bytes_f)), (t_line, .inl (t_line_c, 80, .inl t_line_f)), (t_reply, .inl (t_reply_c, 80, .inl t_reply_f)), (t_latest, .inl (t_latest_c, 80, .inl t_latest_f)), (t_made, .inl (t_made_c, 300, .inl t_made_f))] → va_S A s.heap H locs → W p l e (bs_rm 2) s m [.ref t, .int i1, .int i2, .int i3].toArray below meth c H locs 0 0 Q (F0 m 52 ls []) := by
    intro v1 v2 v3 t_time t_capacity t_period t_columns t_entries t_registers_f t_column_f ls H locs hm hl hP hD hS
    have hm := (mq_Mo_set_J52 F v1 v2 v3 t_time t_capacity t_period t_columns t_entries t_association t_registers_f t_column_f t_line_f).symm.trans hm
    refine lv_iconst (v := 1) hx hb dc_Mo_set_52 (by decide +kernel) ?_
    refine lv_goto (tgt := 57) hx hb dc_Mo_set_53 (by decide) ?_
    exact hJ57 v1 v2 v3 1 t_time t_capacity t_period t_columns t_entries t_registers_f t_column_f ls _ _ hm hl hP hD hS
  have hl : lv_has ls 6 [(0, .ref t), (1, .int i1), (2, .int i2), (3, .int i3)] := hl
  have hm := (mq_Mo_set F i1 i2 i3 t_time t_capacity t_period t_columns t_entries t_association t_registers_f t_column_f t_line_f).symm.trans hm
  refine lv_iload_n hx hb dc_Mo_set_0 rfl (lv_at hl 1 rfl) ?_
  refine lv_iconst (v := 4) hx hb dc_Mo_set_1 (by decide +kernel) ?_
  refine lv_icmp_le (tgt := 7) hx hb dc_Mo_set_2 (by decide) (fun h2 => ?_) (fun h2 => ?_)
  · have hm := bs_pos h2 hm
    refine lv_iload_n hx hb dc_Mo_set_7 rfl (lv_at hl 1 rfl) ?_
    refine lv_iload_n hx hb dc_Mo_set_8 rfl (lv_at hl 2 rfl) ?_
    obtain ⟨x9, hx9, hm⟩ := bs_bind hm
    refine bs_callSi 2 [(t, .inr (6, [.int t_secret, .int t_thrown, .int t_time, .ref t_registers, .int t_capacity, .int t_period, .int t_columns, .ref t_column, .int t_entries, .ref t_times, .ref t_values, .int t_connected, .int t_expected, .int t_next, .int t_association, .ref t_bytes, .int t_size, .int t_sent, .ref t_line, .int t_count, .ref t_reply, .int t_told, .ref t_latest, .int t_latestSize, .ref t_made, .int t_many, .int t_askS, .int t_askR])), (t_registers, .inl (t_registers_c, 4, .inl t_registers_f)), (t_column, .inl (t_column_c, 3, .inl t_column_f)), (t_times, .inl (t_times_c, 13, .inl t_times_f)), (t_values, .inl (t_values_c, 39, .inl t_values_f)), (t_bytes, .inl (t_bytes_c, 280, .inl t_bytes_f)), (t_line, .inl (t_line_c, 80, .inl t_line_f)), (t_reply, .inl (t_reply_c, 80, .inl t_reply_f)), (t_latest, .inl (t_latest_c, 80, .inl t_latest_f)), (t_made, .inl (t_made_c, 300, .inl t_made_f))] (fun _ => [(t, .inr (6, [.int t_secret, .int t_thrown, .int t_time, .ref t_registers, .int t_capacity, .int t_period, .int t_columns, .ref t_column, .int t_entries, .ref t_times, .ref t_values, .int t_connected, .int t_expected, .int t_next, .int t_association, .ref t_bytes, .int t_size, .int t_sent, .ref t_line, .int t_count, .ref t_reply, .int t_told, .ref t_latest, .int t_latestSize, .ref t_made, .int t_many, .int t_askS, .int t_askR])), (t_registers, .inl (t_registers_c, 4, .inl t_registers_f)), (t_column, .inl (t_column_c, 3, .inl t_column_f)), (t_times, .inl (t_times_c, 13, .inl t_times_f)), (t_values, .inl (t_values_c, 39, .inl t_values_f)), (t_bytes, .inl (t_bytes_c, 280, .inl t_bytes_f)), (t_line, .inl (t_line_c, 80, .inl t_line_f)), (t_reply, .inl (t_reply_c, 80, .inl t_reply_f)), (t_latest, .inl (t_latest_c, 80, .inl t_latest_f)), (t_made, .inl (t_made_c, 300, .inl t_made_f))]) [] hx hb hml hown hB hN hK hP hD hS hA (ct_Mo_isAttribute l D F i1 i2 x9 hx9) kw_cd_Mo_isAttribute kw_ml_Mo_175 kw_st_Mo_isAttribute kw_in_Mo kd_Mo_isAttribute (by decide) [] [0, 1, 2, 3, 4, 5, 6, 7, 8, 9] rfl rfl (by decide) [] rfl [0, 1, 2, 3, 4, 5, 6, 7, 8, 9] (by decide) (fun _ => rfl) rfl hl.1 (bs_ler rfl) (by decide) dc_Mo_set_9 rfl (fun v9q _ H locs hq9 hP hD hS => ?_)
    have hq9 := hq9.symm
    subst hq9
    refine lv_if_ne (tgt := 18) hx hb dc_Mo_set_12 (by decide) (fun h12 => ?_) (fun h12 => ?_)
    · have hm := bs_neg h12 hm
      refine lv_iload_n hx hb dc_Mo_set_18 rfl (lv_at hl 1 rfl) ?_
      refine lv_iconst (v := 4) hx hb dc_Mo_set_19 (by decide +kernel) ?_
      refine lv_icmp_ge (tgt := 36) hx hb dc_Mo_set_20 (by decide) (fun h20 => ?_) (fun h20 => ?_)
      · have hm := bs_pos h20 hm
        refine lv_iload_n hx hb dc_Mo_set_36 rfl (lv_at hl 2 rfl) ?_
        refine lv_iconst (v := 3) hx hb dc_Mo_set_37 (by decide +kernel) ?_
        refine lv_icmp_eq (tgt := 52) hx hb dc_Mo_set_38 (by decide) (fun h38 => ?_) (fun h38 => ?_)
        · have hm := bs_pos h38 hm
          exact hJ52 i1 i2 i3 t_time t_capacity t_period t_columns t_entries t_registers_f t_column_f ls _ _ hm hl hP hD hS
        · have hm := bs_neg h38 hm
          refine lv_iload_n hx hb dc_Mo_set_41 rfl (lv_at hl 2 rfl) ?_
          refine lv_iconst (v := 4) hx hb dc_Mo_set_42 (by decide +kernel) ?_
          refine lv_icmp_eq (tgt := 52) hx hb dc_Mo_set_43 (by decide) (fun h43 => ?_) (fun h43 => ?_)
          · have hm := bs_pos h43 hm
            exact hJ52 i1 i2 i3 t_time t_capacity t_period t_columns t_entries t_registers_f t_column_f ls _ _ hm hl hP hD hS
          · have hm := bs_neg h43 hm
            refine lv_iload_n hx hb dc_Mo_set_46 rfl (lv_at hl 2 rfl) ?_
            refine lv_bipush (v := 8) hx hb dc_Mo_set_47 (by decide +kernel) ?_
            refine lv_icmp_ne (tgt := 56) hx hb dc_Mo_set_49 (by decide) (fun h49 => ?_) (fun h49 => ?_)
            · have hm := bs_neg h49 hm
              refine lv_iconst (v := 0) hx hb dc_Mo_set_56 (by decide +kernel) ?_
              exact hJ57 i1 i2 i3 0 t_time t_capacity t_period t_columns t_entries t_registers_f t_column_f ls _ _ hm hl hP hD hS
            · have hm := bs_pos h49 hm
              exact hJ52 i1 i2 i3 t_time t_capacity t_period t_columns t_entries t_registers_f t_column_f ls _ _ hm hl hP hD hS
      · have hm := bs_neg h20 hm
        refine lv_iload_n hx hb dc_Mo_set_23 rfl (lv_at hl 2 rfl) ?_
        refine lv_iconst (v := 2) hx hb dc_Mo_set_24 (by decide +kernel) ?_
        refine lv_icmp_ne (tgt := 32) hx hb dc_Mo_set_25 (by decide) (fun h25 => ?_) (fun h25 => ?_)
        · have hm := bs_neg h25 hm
          refine lv_iconst (v := 0) hx hb dc_Mo_set_32 (by decide +kernel) ?_
          refine lv_goto (tgt := 57) hx hb dc_Mo_set_33 (by decide) ?_
          exact hJ57 i1 i2 i3 0 t_time t_capacity t_period t_columns t_entries t_registers_f t_column_f ls _ _ hm hl hP hD hS
        · have hm := bs_pos h25 hm
          refine lv_iconst (v := 1) hx hb dc_Mo_set_28 (by decide +kernel) ?_
          refine lv_goto (tgt := 57) hx hb dc_Mo_set_29 (by decide) ?_
          exact hJ57 i1 i2 i3 1 t_time t_capacity t_period t_columns t_entries t_registers_f t_column_f ls _ _ hm hl hP hD hS
    · have hm := bs_pos h12 hm
      refine lv_bipush (v := 9) hx hb dc_Mo_set_15 (by decide +kernel) ?_
      clear hJ207 hJ174 hJ147 hJ115 hJ113 hJ90 hJ57 hJ52
      cases hm
      subst hQ
      exact bs_retI hx hb hr hlk () rfl hP hD hS dc_Mo_set_17
  · have hm := bs_neg h2 hm
    refine lv_iconst (v := 4) hx hb dc_Mo_set_5 (by decide +kernel) ?_
    clear hJ207 hJ174 hJ147 hJ115 hJ113 hJ90 hJ57 hJ52
    cases hm
    subst hQ
    exact bs_retI hx hb hr hlk () rfl hP hD hS dc_Mo_set_6
set_option maxHeartbeats 2000000 in
set_option maxRecDepth 100000 in
theorem ct_Mo_act (l : Launch) (D : va_G) (F : Nat) (t : Nat) (t_registers : Nat) (t_column : Nat) (t_times : Nat) (t_values : Nat) (t_bytes : Nat) (t_line : Nat) (t_reply : Nat) (t_latest : Nat) (t_made : Nat) (t_registers_c : ClassId) (t_column_c : ClassId) (t_times_c : ClassId) (t_values_c : ClassId) (t_bytes_c : ClassId) (t_line_c : ClassId) (t_reply_c : ClassId) (t_latest_c : ClassId) (t_made_c : ClassId) (t_secret : Int32) (t_thrown : Int32) (t_time : Int32) (t_capacity : Int32) (t_period : Int32) (t_columns : Int32) (t_entries : Int32) (t_connected : Int32) (t_expected : Int32) (t_next : Int32) (t_association : Int32) (t_size : Int32) (t_sent : Int32) (t_count : Int32) (t_told : Int32) (t_latestSize : Int32) (t_many : Int32) (t_askS : Int32) (t_askR : Int32) (t_registers_f : Nat → Int32) (t_column_f : Nat → Int32) (t_times_f : Nat → Int32) (t_values_f : Nat → Int32) (t_bytes_f : Nat → Int32) (t_line_f : Nat → Int32) (t_reply_f : Nat → Int32) (t_latest_f : Nat → Int32) (t_made_f : Nat → Int32) (i1 : Int32) (i2 : Int32) (i3 : Int32) (r : Int32 × Int32 × Int32 × (Nat → Int32) × (Nat → Int32) × (Nat → Int32)) (hm : mm_Mo_act F i1 i2 i3 t_time t_capacity t_columns t_entries t_association t_registers_f t_column_f t_times_f t_values_f = some r) :
    bs_CI l my_Mo_act mb_Mo_act 5 .int (bs_rm 1) D [.ref t, .int i1, .int i2, .int i3] [(t_registers_c, .int), (t_column_c, .int), (t_times_c, .int), (t_values_c, .int), (t_bytes_c, .int), (t_line_c, .int), (t_reply_c, .int), (t_latest_c, .int), (t_made_c, .int)] [(t, .inr (6, [.int t_secret, .int t_thrown, .int t_time, .ref t_registers, .int t_capacity, .int t_period, .int t_columns, .ref t_column, .int t_entries, .ref t_times, .ref t_values, .int t_connected, .int t_expected, .int t_next, .int t_association, .ref t_bytes, .int t_size, .int t_sent, .ref t_line, .int t_count, .ref t_reply, .int t_told, .ref t_latest, .int t_latestSize, .ref t_made, .int t_many, .int t_askS, .int t_askR])), (t_registers, .inl (t_registers_c, 4, .inl t_registers_f)), (t_column, .inl (t_column_c, 3, .inl t_column_f)), (t_times, .inl (t_times_c, 13, .inl t_times_f)), (t_values, .inl (t_values_c, 39, .inl t_values_f)), (t_bytes, .inl (t_bytes_c, 280, .inl t_bytes_f)), (t_line, .inl (t_line_c, 80, .inl t_line_f)), (t_reply, .inl (t_reply_c, 80, .inl t_reply_f)), (t_latest, .inl (t_latest_c, 80, .inl t_latest_f)), (t_made, .inl (t_made_c, 300, .inl t_made_f))] (S := Unit) (fun v (_ : Unit) => v = r.1) (fun _ => [(t, .inr (6, [.int t_secret, .int t_thrown, .int r.2.1, .ref t_registers, .int t_capacity, .int t_period, .int t_columns, .ref t_column, .int r.2.2.1, .ref t_times, .ref t_values, .int t_connected, .int t_expected, .int t_next, .int t_association, .ref t_bytes, .int t_size, .int t_sent, .ref t_line, .int t_count, .ref t_reply, .int t_told, .ref t_latest, .int t_latestSize, .ref t_made, .int t_many, .int t_askS, .int t_askR])), (t_registers, .inl (t_registers_c, 4, .inl r.2.2.2.1)), (t_column, .inl (t_column_c, 3, .inl t_column_f)), (t_times, .inl (t_times_c, 13, .inl r.2.2.2.2.1)), (t_values, .inl (t_values_c, 39, .inl r.2.2.2.2.2)), (t_bytes, .inl (t_bytes_c, 280, .inl t_bytes_f)), (t_line, .inl (t_line_c, 80, .inl t_line_f)), (t_reply, .inl (t_reply_c, 80, .inl t_reply_f)), (t_latest, .inl (t_latest_c, 80, .inl t_latest_f)), (t_made, .inl (t_made_c, 300, .inl t_made_f))]) := by
  refine bs_CI.mk (by decide +kernel) (bs_ler rfl) ?_
  intro p e s m below meth c ls A hx hb hr hml hlk hown hB hN hP hK hD hS hA hl
  refine bs_genQ (fun Q hQ => ?_)
  have hJ88 : ∀ (v1 : Int32) (v2 : Int32) (v3 : Int32) (t_time : Int32) (t_entries : Int32) (t_registers_f : Nat → Int32) (t_times_f : Nat → Int32) (t_values_f : Nat → Int32) (ls : Array Slot) (H : Heap) (locs : List Loc), mm_Mo_act_J88 F v1 v2 v3 t_time t_capacity t_columns t_entries t_registers_f t_column_f t_times_f t_values_f = some r → lv_has ls 5 [(0, .ref t), (1, .int v1), (2, .int v2), (3, .int v3)] → va_P D bs_cl [(t, .inr (6, [.int t_secret, .int t_thrown, .int t_time, .ref t_registers, .int t_capacity, .int t_period, .int t_columns, .ref t_column, .int t_entries, .ref t_times, .ref t_values, .int t_connected, .int t_expected, .int t_next, .int t_association, .ref t_bytes, .int t_size, .int t_sent, .ref t_line, .int t_count, .ref t_reply, .int t_told, .ref t_latest, .int t_latestSize, .ref t_made, .int t_many, .int t_askS, .int t_askR])), (t_registers, .inl (t_registers_c, 4, .inl t_registers_f)), (t_column, .inl (t_column_c, 3, .inl t_column_f)), (t_times, .inl (t_times_c, 13, .inl t_times_f)), (t_values, .inl (t_values_c, 39, .inl t_values_f)), (t_bytes, .inl (t_bytes_c, 280, .inl t_bytes_f)), (t_line, .inl (t_line_c, 80, .inl t_line_f)), (t_reply, .inl (t_reply_c, 80, .inl t_reply_f)), (t_latest, .inl (t_latest_c, 80, .inl t_latest_f)), (t_made, .inl (t_made_c, 300, .inl t_made_f))] H → va_D A [(t, .inr (6, [.int t_secret, .int t_thrown, .int t_time, .ref t_registers, .int t_capacity, .int t_period, .int t_columns, .ref t_column, .int t_entries, .ref t_times, .ref t_values, .int t_connected, .int t_expected, .int t_next, .int t_association, .ref t_bytes, .int t_size, .int t_sent, .ref t_line, .int t_count, .ref t_reply, .int t_told, .ref t_latest, .int t_latestSize, .ref t_made, .int t_many, .int t_askS, .int t_askR])), (t_registers, .inl (t_registers_c, 4, .inl t_registers_f)), (t_column, .inl (t_column_c, 3, .inl t_column_f)), (t_times, .inl (t_times_c, 13, .inl t_times_f)), (t_values, .inl (t_values_c, 39, .inl t_values_f)), (t_bytes, .inl (t_bytes_c, 280, .inl t_bytes_f)), (t_line, .inl (t_line_c, 80, .inl t_line_f)), (t_reply, .inl (t_reply_c, 80, .inl t_reply_f)), (t_latest, .inl (t_latest_c, 80, .inl t_latest_f)), (t_made, .inl (t_made_c, 300, .inl t_made_f))] → va_S A s.heap H locs → W p l e (bs_rm 1) s m [.ref t, .int i1, .int i2, .int i3].toArray below meth c H locs 0 0 Q (F0 m 88 ls []) := by
    intro v1 v2 v3 t_time t_entries t_registers_f t_times_f t_values_f ls H locs hm hl hP hD hS
    have hm := (mq_Mo_act_J88 F v1 v2 v3 t_time t_capacity t_columns t_entries t_registers_f t_column_f t_times_f t_values_f).symm.trans hm
    refine lv_iload_n hx hb dc_Mo_act_88 rfl (lv_at hl 1 rfl) ?_
    refine lv_if_ne (tgt := 107) hx hb dc_Mo_act_89 (by decide) (fun h89 => ?_) (fun h89 => ?_)
    · have hm := bs_neg h89 hm
      refine lv_iload_n hx hb dc_Mo_act_107 rfl (lv_at hl 1 rfl) ?_
      refine lv_iconst (v := 4) hx hb dc_Mo_act_108 (by decide +kernel) ?_
      refine lv_icmp_ge (tgt := 122) hx hb dc_Mo_act_109 (by decide) (fun h109 => ?_) (fun h109 => ?_)
      · have hm := bs_pos h109 hm
        refine lv_iload_n hx hb dc_Mo_act_122 rfl (lv_at hl 2 rfl) ?_
        refine lv_iconst (v := 1) hx hb dc_Mo_act_123 (by decide +kernel) ?_
        refine lv_icmp_ne (tgt := 135) hx hb dc_Mo_act_124 (by decide) (fun h124 => ?_) (fun h124 => ?_)
        · have hm := bs_neg h124 hm
          refine lv_aload_n hx hb dc_Mo_act_135 rfl (lv_at hl 0 rfl) ?_
          obtain ⟨x136, hx136, hm⟩ := bs_bind hm
          refine bs_callVv 0 [] (fun _ => [(t, .inr (6, [.int t_secret, .int t_thrown, .int t_time, .ref t_registers, .int t_capacity, .int t_period, .int t_columns, .ref t_column, .int x136.1, .ref t_times, .ref t_values, .int t_connected, .int t_expected, .int t_next, .int t_association, .ref t_bytes, .int t_size, .int t_sent, .ref t_line, .int t_count, .ref t_reply, .int t_told, .ref t_latest, .int t_latestSize, .ref t_made, .int t_many, .int t_askS, .int t_askR])), (t_registers, .inl (t_registers_c, 4, .inl t_registers_f)), (t_column, .inl (t_column_c, 3, .inl t_column_f)), (t_times, .inl (t_times_c, 13, .inl x136.2.1)), (t_values, .inl (t_values_c, 39, .inl x136.2.2)), (t_bytes, .inl (t_bytes_c, 280, .inl t_bytes_f)), (t_line, .inl (t_line_c, 80, .inl t_line_f)), (t_reply, .inl (t_reply_c, 80, .inl t_reply_f)), (t_latest, .inl (t_latest_c, 80, .inl t_latest_f)), (t_made, .inl (t_made_c, 300, .inl t_made_f))]) [] hx hb hml hown hB hN hK hP hD hS hA (ct_Mo_capture l D F t t_registers t_column t_times t_values t_bytes t_line t_reply t_latest t_made t_registers_c t_column_c t_times_c t_values_c t_bytes_c t_line_c t_reply_c t_latest_c t_made_c t_secret t_thrown t_time t_capacity t_period t_columns t_entries t_connected t_expected t_next t_association t_size t_sent t_count t_told t_latestSize t_many t_askS t_askR t_registers_f t_column_f t_times_f t_values_f t_bytes_f t_line_f t_reply_f t_latest_f t_made_f x136 hx136) kw_cd_Mo_capture kw_ml_Mo_60 kw_im_Mo_capture kw_se_Mo_capture kw_in_Mo kd_Mo_capture (by decide) ⟨_, _, _, rfl, rfl, rfl⟩ [0, 1, 2, 3, 4, 5, 6, 7, 8, 9] [] rfl rfl (by decide) [0, 1, 2, 3, 4, 5, 6, 7, 8] rfl [0, 1, 2, 3, 4, 5, 6, 7, 8, 9] (by decide) (fun _ => rfl) rfl hl.1 (bs_ler rfl) (by decide) dc_Mo_act_136 rfl (fun _ H locs hq136 hP hD hS => ?_)
          refine lv_iconst (v := 0) hx hb dc_Mo_act_139 (by decide +kernel) ?_
          cases hm
          subst hQ
          exact bs_retI hx hb hr hlk () rfl hP hD hS dc_Mo_act_140
        · have hm := bs_pos h124 hm
          refine lv_aload_n hx hb dc_Mo_act_127 rfl (lv_at hl 0 rfl) ?_
          refine lv_iconst (v := 0) hx hb dc_Mo_act_128 (by decide +kernel) ?_
          refine va_put (ci := 6) (v := .int 0) (ty := .int) (C := cn_Mo) (T := cf_Mo) (N := 28) hx hb hB ki_Mo ct_Mo cp_Mo cd_Mo hown hK hP hD hS 0 rfl rfl 8 (by decide) (hB _ kw_fl_Mo_50) (fun _ h => h) rfl (by decide +kernel) rfl rfl (bs_ltr rfl) dc_Mo_act_129 (fun H locs hP hD hS => ?_)
          obtain ⟨hP, hD⟩ := bs_say [(t, .inr (6, [.int t_secret, .int t_thrown, .int t_time, .ref t_registers, .int t_capacity, .int t_period, .int t_columns, .ref t_column, .int 0, .ref t_times, .ref t_values, .int t_connected, .int t_expected, .int t_next, .int t_association, .ref t_bytes, .int t_size, .int t_sent, .ref t_line, .int t_count, .ref t_reply, .int t_told, .ref t_latest, .int t_latestSize, .ref t_made, .int t_many, .int t_askS, .int t_askR])), (t_registers, .inl (t_registers_c, 4, .inl t_registers_f)), (t_column, .inl (t_column_c, 3, .inl t_column_f)), (t_times, .inl (t_times_c, 13, .inl t_times_f)), (t_values, .inl (t_values_c, 39, .inl t_values_f)), (t_bytes, .inl (t_bytes_c, 280, .inl t_bytes_f)), (t_line, .inl (t_line_c, 80, .inl t_line_f)), (t_reply, .inl (t_reply_c, 80, .inl t_reply_f)), (t_latest, .inl (t_latest_c, 80, .inl t_latest_f)), (t_made, .inl (t_made_c, 300, .inl t_made_f))] hP hD
          refine lv_goto (tgt := 139) hx hb dc_Mo_act_132 (by decide) ?_
          refine lv_iconst (v := 0) hx hb dc_Mo_act_139 (by decide +kernel) ?_
          cases hm
          subst hQ
          exact bs_retI hx hb hr hlk () rfl hP hD hS dc_Mo_act_140
      · have hm := bs_neg h109 hm
        refine lv_aload_n hx hb dc_Mo_act_112 rfl (lv_at hl 0 rfl) ?_
        refine va_get (ci := 6) (v := .ref t_registers) (C := cn_Mo) (T := cf_Mo) (N := 28) hx hb hB ki_Mo hown hK hP 0 rfl rfl 3 (by decide) (hB _ kw_fl_Mo_7) (fun _ h => h) rfl dc_Mo_act_113 ?_
        refine lv_iload_n hx hb dc_Mo_act_116 rfl (lv_at hl 1 rfl) ?_
        refine lv_iconst (v := 0) hx hb dc_Mo_act_117 (by decide +kernel) ?_
        obtain ⟨hz118, hm⟩ := bs_nn hm
        refine va_iast hx hb hK hP hD hS 1 0 rfl rfl hz118 dc_Mo_act_118 (fun H locs hP hD hS => ?_)
        obtain ⟨hP, hD⟩ := bs_say [(t, .inr (6, [.int t_secret, .int t_thrown, .int t_time, .ref t_registers, .int t_capacity, .int t_period, .int t_columns, .ref t_column, .int t_entries, .ref t_times, .ref t_values, .int t_connected, .int t_expected, .int t_next, .int t_association, .ref t_bytes, .int t_size, .int t_sent, .ref t_line, .int t_count, .ref t_reply, .int t_told, .ref t_latest, .int t_latestSize, .ref t_made, .int t_many, .int t_askS, .int t_askR])), (t_registers, .inl (t_registers_c, 4, .inl (upd t_registers_f v1.toNatClampNeg 0))), (t_column, .inl (t_column_c, 3, .inl t_column_f)), (t_times, .inl (t_times_c, 13, .inl t_times_f)), (t_values, .inl (t_values_c, 39, .inl t_values_f)), (t_bytes, .inl (t_bytes_c, 280, .inl t_bytes_f)), (t_line, .inl (t_line_c, 80, .inl t_line_f)), (t_reply, .inl (t_reply_c, 80, .inl t_reply_f)), (t_latest, .inl (t_latest_c, 80, .inl t_latest_f)), (t_made, .inl (t_made_c, 300, .inl t_made_f))] hP hD
        refine lv_goto (tgt := 139) hx hb dc_Mo_act_119 (by decide) ?_
        refine lv_iconst (v := 0) hx hb dc_Mo_act_139 (by decide +kernel) ?_
        cases hm
        subst hQ
        exact bs_retI hx hb hr hlk () rfl hP hD hS dc_Mo_act_140
    · have hm := bs_pos h89 hm
      refine lv_aload_n hx hb dc_Mo_act_92 rfl (lv_at hl 0 rfl) ?_
      refine lv_aload_n hx hb dc_Mo_act_93 rfl (lv_at hl 0 rfl) ?_
      refine va_get (ci := 6) (v := .int t_time) (C := cn_Mo) (T := cf_Mo) (N := 28) hx hb hB ki_Mo hown hK hP 0 rfl rfl 2 (by decide) (hB _ kw_fl_Mo_53) (fun _ h => h) rfl dc_Mo_act_94 ?_
      refine lv_iload_n hx hb dc_Mo_act_97 rfl (lv_at hl 3 rfl) ?_
      obtain ⟨hz98, hm⟩ := bs_nn hm
      refine bs_idiv (v := t_time / v3) hx hb dc_Mo_act_98 hz98 rfl ?_
      refine lv_iload_n hx hb dc_Mo_act_99 rfl (lv_at hl 3 rfl) ?_
      refine lv_imul hx hb dc_Mo_act_100 ?_
      refine va_put (ci := 6) (v := .int ((t_time / v3) * v3)) (ty := .int) (C := cn_Mo) (T := cf_Mo) (N := 28) hx hb hB ki_Mo ct_Mo cp_Mo cd_Mo hown hK hP hD hS 0 rfl rfl 2 (by decide) (hB _ kw_fl_Mo_53) (fun _ h => h) rfl (by decide +kernel) rfl rfl (bs_ltr rfl) dc_Mo_act_101 (fun H locs hP hD hS => ?_)
      obtain ⟨hP, hD⟩ := bs_say [(t, .inr (6, [.int t_secret, .int t_thrown, .int ((t_time / v3) * v3), .ref t_registers, .int t_capacity, .int t_period, .int t_columns, .ref t_column, .int t_entries, .ref t_times, .ref t_values, .int t_connected, .int t_expected, .int t_next, .int t_association, .ref t_bytes, .int t_size, .int t_sent, .ref t_line, .int t_count, .ref t_reply, .int t_told, .ref t_latest, .int t_latestSize, .ref t_made, .int t_many, .int t_askS, .int t_askR])), (t_registers, .inl (t_registers_c, 4, .inl t_registers_f)), (t_column, .inl (t_column_c, 3, .inl t_column_f)), (t_times, .inl (t_times_c, 13, .inl t_times_f)), (t_values, .inl (t_values_c, 39, .inl t_values_f)), (t_bytes, .inl (t_bytes_c, 280, .inl t_bytes_f)), (t_line, .inl (t_line_c, 80, .inl t_line_f)), (t_reply, .inl (t_reply_c, 80, .inl t_reply_f)), (t_latest, .inl (t_latest_c, 80, .inl t_latest_f)), (t_made, .inl (t_made_c, 300, .inl t_made_f))] hP hD
      refine lv_goto (tgt := 139) hx hb dc_Mo_act_104 (by decide) ?_
      refine lv_iconst (v := 0) hx hb dc_Mo_act_139 (by decide +kernel) ?_
      cases hm
      subst hQ
      exact bs_retI hx hb hr hlk () rfl hP hD hS dc_Mo_act_140
  have hJ57 : ∀ (v1 : Int32) (v2 : Int32) (v3 : Int32) (s0 : Int32) (t_time : Int32) (t_entries : Int32) (t_registers_f : Nat → Int32) (t_times_f : Nat → Int32) (t_values_f : Nat → Int32) (ls : Array Slot) (H : Heap) (locs : List Loc), mm_Mo_act_J57 F v1 v2 v3 s0 t_time t_capacity t_columns t_entries t_association t_registers_f t_column_f t_times_f t_values_f = some r → lv_has ls 5 [(0, .ref t), (1, .int v1), (2, .int v2), (3, .int v3)] → va_P D bs_cl [(t, .inr (6, [.int t_secret, .int t_thrown, .int t_time, .ref t_registers, .int t_capacity, .int t_period, .int t_columns, .ref t_column, .int t_entries, .ref t_times, .ref t_values, .int t_connected, .int t_expected, .int t_next, .int t_association, .ref t_bytes, .int t_size, .int t_sent, .ref t_line, .int t_count, .ref t_reply, .int t_told, .ref t_latest, .int t_latestSize, .ref t_made, .int t_many, .int t_askS, .int t_askR])), (t_registers, .inl (t_registers_c, 4, .inl t_registers_f)), (t_column, .inl (t_column_c, 3, .inl t_column_f)), (t_times, .inl (t_times_c, 13, .inl t_times_f)), (t_values, .inl (t_values_c, 39, .inl t_values_f)), (t_bytes, .inl (t_bytes_c, 280, .inl t_bytes_f)), (t_line, .inl (t_line_c, 80, .inl t_line_f)), (t_reply, .inl (t_reply_c, 80, .inl t_reply_f)), (t_latest, .inl (t_latest_c, 80, .inl t_latest_f)), (t_made, .inl (t_made_c, 300, .inl t_made_f))] H → va_D A [(t, .inr (6, [.int t_secret, .int t_thrown, .int t_time, .ref t_registers, .int t_capacity, .int t_period, .int t_columns, .ref t_column, .int t_entries, .ref t_times, .ref t_values, .int t_connected, .int t_expected, .int t_next, .int t_association, .ref t_bytes, .int t_size, .int t_sent, .ref t_line, .int t_count, .ref t_reply, .int t_told, .ref t_latest, .int t_latestSize, .ref t_made, .int t_many, .int t_askS, .int t_askR])), (t_registers, .inl (t_registers_c, 4, .inl t_registers_f)), (t_column, .inl (t_column_c, 3, .inl t_column_f)), (t_times, .inl (t_times_c, 13, .inl t_times_f)), (t_values, .inl (t_values_c, 39, .inl t_values_f)), (t_bytes, .inl (t_bytes_c, 280, .inl t_bytes_f)), (t_line, .inl (t_line_c, 80, .inl t_line_f)), (t_reply, .inl (t_reply_c, 80, .inl t_reply_f)), (t_latest, .inl (t_latest_c, 80, .inl t_latest_f)), (t_made, .inl (t_made_c, 300, .inl t_made_f))] → va_S A s.heap H locs → W p l e (bs_rm 1) s m [.ref t, .int i1, .int i2, .int i3].toArray below meth c H locs 0 0 Q (F0 m 57 ls [.int s0]) := by
    intro v1 v2 v3 s0 t_time t_entries t_registers_f t_times_f t_values_f ls H locs hm hl hP hD hS
    have hm := (mq_Mo_act_J57 F v1 v2 v3 s0 t_time t_capacity t_columns t_entries t_association t_registers_f t_column_f t_times_f t_values_f).symm.trans hm
    refine lv_istore hx hb dc_Mo_act_57 hl (by decide) rfl (fun ls hl => ?_)
    have hl : lv_has ls 5 [(4, .int s0), (0, .ref t), (1, .int v1), (2, .int v2), (3, .int v3)] := hl
    refine lv_iload hx hb dc_Mo_act_59 (lv_at hl 0 rfl) ?_
    refine lv_if_ne (tgt := 67) hx hb dc_Mo_act_61 (by decide) (fun h61 => ?_) (fun h61 => ?_)
    · have hm := bs_neg h61 hm
      refine lv_aload_n hx hb dc_Mo_act_67 rfl (lv_at hl 1 rfl) ?_
      refine va_get (ci := 6) (v := .int t_association) (C := cn_Mo) (T := cf_Mo) (N := 28) hx hb hB ki_Mo hown hK hP 0 rfl rfl 14 (by decide) (hB _ kw_fl_Mo_71) (fun _ h => h) rfl dc_Mo_act_68 ?_
      refine lv_iconst (v := 2) hx hb dc_Mo_act_71 (by decide +kernel) ?_
      refine lv_icmp_eq (tgt := 77) hx hb dc_Mo_act_72 (by decide) (fun h72 => ?_) (fun h72 => ?_)
      · have hm := bs_pos h72 hm
        refine lv_iload_n hx hb dc_Mo_act_77 rfl (lv_at hl 2 rfl) ?_
        refine lv_if_ne (tgt := 88) hx hb dc_Mo_act_78 (by decide) (fun h78 => ?_) (fun h78 => ?_)
        · have hm := bs_neg h78 hm
          exact hJ88 v1 v2 v3 t_time t_entries t_registers_f t_times_f t_values_f ls _ _ hm (lv_sub hl [1, 2, 3, 4] rfl) hP hD hS
        · have hm := bs_pos h78 hm
          refine lv_iload_n hx hb dc_Mo_act_81 rfl (lv_at hl 4 rfl) ?_
          refine lv_if_ne (tgt := 88) hx hb dc_Mo_act_82 (by decide) (fun h82 => ?_) (fun h82 => ?_)
          · have hm := bs_neg h82 hm
            exact hJ88 v1 v2 v3 t_time t_entries t_registers_f t_times_f t_values_f ls _ _ hm (lv_sub hl [1, 2, 3, 4] rfl) hP hD hS
          · have hm := bs_pos h82 hm
            refine lv_bipush (v := 13) hx hb dc_Mo_act_85 (by decide +kernel) ?_
            clear hJ88
            cases hm
            subst hQ
            exact bs_retI hx hb hr hlk () rfl hP hD hS dc_Mo_act_87
      · have hm := bs_neg h72 hm
        refine lv_iconst (v := 3) hx hb dc_Mo_act_75 (by decide +kernel) ?_
        clear hJ88
        cases hm
        subst hQ
        exact bs_retI hx hb hr hlk () rfl hP hD hS dc_Mo_act_76
    · have hm := bs_pos h61 hm
      refine lv_bipush (v := 9) hx hb dc_Mo_act_64 (by decide +kernel) ?_
      clear hJ88
      cases hm
      subst hQ
      exact bs_retI hx hb hr hlk () rfl hP hD hS dc_Mo_act_66
  have hJ52 : ∀ (v1 : Int32) (v2 : Int32) (v3 : Int32) (t_time : Int32) (t_entries : Int32) (t_registers_f : Nat → Int32) (t_times_f : Nat → Int32) (t_values_f : Nat → Int32) (ls : Array Slot) (H : Heap) (locs : List Loc), mm_Mo_act_J52 F v1 v2 v3 t_time t_capacity t_columns t_entries t_association t_registers_f t_column_f t_times_f t_values_f = some r → lv_has ls 5 [(0, .ref t), (1, .int v1), (2, .int v2), (3, .int v3)] → va_P D bs_cl [(t, .inr (6, [.int t_secret, .int t_thrown, .int t_time, .ref t_registers, .int t_capacity, .int t_period, .int t_columns, .ref t_column, .int t_entries, .ref t_times, .ref t_values, .int t_connected, .int t_expected, .int t_next, .int t_association, .ref t_bytes, .int t_size, .int t_sent, .ref t_line, .int t_count, .ref t_reply, .int t_told, .ref t_latest, .int t_latestSize, .ref t_made, .int t_many, .int t_askS, .int t_askR])), (t_registers, .inl (t_registers_c, 4, .inl t_registers_f)), (t_column, .inl (t_column_c, 3, .inl t_column_f)), (t_times, .inl (t_times_c, 13, .inl t_times_f)), (t_values, .inl (t_values_c, 39, .inl t_values_f)), (t_bytes, .inl (t_bytes_c, 280, .inl t_bytes_f)), (t_line, .inl (t_line_c, 80, .inl t_line_f)), (t_reply, .inl (t_reply_c, 80, .inl t_reply_f)), (t_latest, .inl (t_latest_c, 80, .inl t_latest_f)), (t_made, .inl (t_made_c, 300, .inl t_made_f))] H → va_D A [(t, .inr (6, [.int t_secret, .int t_thrown, .int t_time, .ref t_registers, .int t_capacity, .int t_period, .int t_columns, .ref t_column, .int t_entries, .ref t_times, .ref t_values, .int t_connected, .int t_expected, .int t_next, .int t_association, .ref t_bytes, .int t_size, .int t_sent, .ref t_line, .int t_count, .ref t_reply, .int t_told, .ref t_latest, .int t_latestSize, .ref t_made, .int t_many, .int t_askS, .int t_askR])), (t_registers, .inl (t_registers_c, 4, .inl t_registers_f)), (t_column, .inl (t_column_c, 3, .inl t_column_f)), (t_times, .inl (t_times_c, 13, .inl t_times_f)), (t_values, .inl (t_values_c, 39, .inl t_values_f)), (t_bytes, .inl (t_bytes_c, 280, .inl t_bytes_f)), (t_line, .inl (t_line_c, 80, .inl t_line_f)), (t_reply, .inl (t_reply_c, 80, .inl t_reply_f)), (t_latest, .inl (t_latest_c, 80, .inl t_latest_f)), (t_made, .inl (t_made_c, 300, .inl t_made_f))] → va_S A s.heap H locs → W p l e (bs_rm 1) s m [.ref t, .int i1, .int i2, .int i3].toArray below meth c H locs 0 0 Q (F0 m 52 ls []) := by
    intro v1 v2 v3 t_time t_entries t_registers_f t_times_f t_values_f ls H locs hm hl hP hD hS
    have hm := (mq_Mo_act_J52 F v1 v2 v3 t_time t_capacity t_columns t_entries t_association t_registers_f t_column_f t_times_f t_values_f).symm.trans hm
    refine lv_iconst (v := 1) hx hb dc_Mo_act_52 (by decide +kernel) ?_
    refine lv_goto (tgt := 57) hx hb dc_Mo_act_53 (by decide) ?_
    exact hJ57 v1 v2 v3 1 t_time t_entries t_registers_f t_times_f t_values_f ls _ _ hm hl hP hD hS
  have hl : lv_has ls 5 [(0, .ref t), (1, .int i1), (2, .int i2), (3, .int i3)] := hl
  have hm := (mq_Mo_act F i1 i2 i3 t_time t_capacity t_columns t_entries t_association t_registers_f t_column_f t_times_f t_values_f).symm.trans hm
  refine lv_iload_n hx hb dc_Mo_act_0 rfl (lv_at hl 1 rfl) ?_
  refine lv_iconst (v := 4) hx hb dc_Mo_act_1 (by decide +kernel) ?_
  refine lv_icmp_le (tgt := 7) hx hb dc_Mo_act_2 (by decide) (fun h2 => ?_) (fun h2 => ?_)
  · have hm := bs_pos h2 hm
    refine lv_iload_n hx hb dc_Mo_act_7 rfl (lv_at hl 1 rfl) ?_
    refine lv_if_ne (tgt := 24) hx hb dc_Mo_act_8 (by decide) (fun h8 => ?_) (fun h8 => ?_)
    · have hm := bs_neg h8 hm
      refine lv_iload_n hx hb dc_Mo_act_24 rfl (lv_at hl 1 rfl) ?_
      refine lv_iconst (v := 4) hx hb dc_Mo_act_25 (by decide +kernel) ?_
      refine lv_icmp_ge (tgt := 42) hx hb dc_Mo_act_26 (by decide) (fun h26 => ?_) (fun h26 => ?_)
      · have hm := bs_pos h26 hm
        refine lv_iload_n hx hb dc_Mo_act_42 rfl (lv_at hl 2 rfl) ?_
        refine lv_iconst (v := 1) hx hb dc_Mo_act_43 (by decide +kernel) ?_
        refine lv_icmp_eq (tgt := 52) hx hb dc_Mo_act_44 (by decide) (fun h44 => ?_) (fun h44 => ?_)
        · have hm := bs_pos h44 hm
          exact hJ52 i1 i2 i3 t_time t_entries t_registers_f t_times_f t_values_f ls _ _ hm hl hP hD hS
        · have hm := bs_neg h44 hm
          refine lv_iload_n hx hb dc_Mo_act_47 rfl (lv_at hl 2 rfl) ?_
          refine lv_iconst (v := 2) hx hb dc_Mo_act_48 (by decide +kernel) ?_
          refine lv_icmp_ne (tgt := 56) hx hb dc_Mo_act_49 (by decide) (fun h49 => ?_) (fun h49 => ?_)
          · have hm := bs_neg h49 hm
            refine lv_iconst (v := 0) hx hb dc_Mo_act_56 (by decide +kernel) ?_
            exact hJ57 i1 i2 i3 0 t_time t_entries t_registers_f t_times_f t_values_f ls _ _ hm hl hP hD hS
          · have hm := bs_pos h49 hm
            exact hJ52 i1 i2 i3 t_time t_entries t_registers_f t_times_f t_values_f ls _ _ hm hl hP hD hS
      · have hm := bs_neg h26 hm
        refine lv_iload_n hx hb dc_Mo_act_29 rfl (lv_at hl 2 rfl) ?_
        refine lv_iconst (v := 1) hx hb dc_Mo_act_30 (by decide +kernel) ?_
        refine lv_icmp_ne (tgt := 38) hx hb dc_Mo_act_31 (by decide) (fun h31 => ?_) (fun h31 => ?_)
        · have hm := bs_neg h31 hm
          refine lv_iconst (v := 0) hx hb dc_Mo_act_38 (by decide +kernel) ?_
          refine lv_goto (tgt := 57) hx hb dc_Mo_act_39 (by decide) ?_
          exact hJ57 i1 i2 i3 0 t_time t_entries t_registers_f t_times_f t_values_f ls _ _ hm hl hP hD hS
        · have hm := bs_pos h31 hm
          refine lv_iconst (v := 1) hx hb dc_Mo_act_34 (by decide +kernel) ?_
          refine lv_goto (tgt := 57) hx hb dc_Mo_act_35 (by decide) ?_
          exact hJ57 i1 i2 i3 1 t_time t_entries t_registers_f t_times_f t_values_f ls _ _ hm hl hP hD hS
    · have hm := bs_pos h8 hm
      refine lv_iload_n hx hb dc_Mo_act_11 rfl (lv_at hl 2 rfl) ?_
      refine lv_iconst (v := 3) hx hb dc_Mo_act_12 (by decide +kernel) ?_
      refine lv_icmp_ne (tgt := 20) hx hb dc_Mo_act_13 (by decide) (fun h13 => ?_) (fun h13 => ?_)
      · have hm := bs_neg h13 hm
        refine lv_iconst (v := 0) hx hb dc_Mo_act_20 (by decide +kernel) ?_
        refine lv_goto (tgt := 57) hx hb dc_Mo_act_21 (by decide) ?_
        exact hJ57 i1 i2 i3 0 t_time t_entries t_registers_f t_times_f t_values_f ls _ _ hm hl hP hD hS
      · have hm := bs_pos h13 hm
        refine lv_iconst (v := 1) hx hb dc_Mo_act_16 (by decide +kernel) ?_
        refine lv_goto (tgt := 57) hx hb dc_Mo_act_17 (by decide) ?_
        exact hJ57 i1 i2 i3 1 t_time t_entries t_registers_f t_times_f t_values_f ls _ _ hm hl hP hD hS
  · have hm := bs_neg h2 hm
    refine lv_iconst (v := 4) hx hb dc_Mo_act_5 (by decide +kernel) ?_
    clear hJ88 hJ57 hJ52
    cases hm
    subst hQ
    exact bs_retI hx hb hr hlk () rfl hP hD hS dc_Mo_act_6
