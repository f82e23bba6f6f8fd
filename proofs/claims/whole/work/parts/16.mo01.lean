set_option maxHeartbeats 2000000 in
set_option maxRecDepth 100000 in
theorem ct_Mo_thrown (l : Launch) (D : va_G) (F : Nat) (t : Nat) (t_registers : Nat) (t_column : Nat) (t_times : Nat) (t_values : Nat) (t_bytes : Nat) (t_line : Nat) (t_reply : Nat) (t_latest : Nat) (t_made : Nat) (t_registers_c : ClassId) (t_column_c : ClassId) (t_times_c : ClassId) (t_values_c : ClassId) (t_bytes_c : ClassId) (t_line_c : ClassId) (t_reply_c : ClassId) (t_latest_c : ClassId) (t_made_c : ClassId) (t_secret : Int32) (t_thrown : Int32) (t_time : Int32) (t_capacity : Int32) (t_period : Int32) (t_columns : Int32) (t_entries : Int32) (t_connected : Int32) (t_expected : Int32) (t_next : Int32) (t_association : Int32) (t_size : Int32) (t_sent : Int32) (t_count : Int32) (t_told : Int32) (t_latestSize : Int32) (t_many : Int32) (t_askS : Int32) (t_askR : Int32) (t_registers_f : Nat → Int32) (t_column_f : Nat → Int32) (t_times_f : Nat → Int32) (t_values_f : Nat → Int32) (t_bytes_f : Nat → Int32) (t_line_f : Nat → Int32) (t_reply_f : Nat → Int32) (t_latest_f : Nat → Int32) (t_made_f : Nat → Int32) (r : Int32) (hm : mm_Mo_thrown F t_thrown = some r) :
    bs_CI l my_Mo_thrown mb_Mo_thrown 1 .int (bs_rm 0) D [.ref t] [(t_registers_c, .int), (t_column_c, .int), (t_times_c, .int), (t_values_c, .int), (t_bytes_c, .int), (t_line_c, .int), (t_reply_c, .int), (t_latest_c, .int), (t_made_c, .int)] [(t, .inr (6, [.int t_secret, .int t_thrown, .int t_time, .ref t_registers, .int t_capacity, .int t_period, .int t_columns, .ref t_column, .int t_entries, .ref t_times, .ref t_values, .int t_connected, .int t_expected, .int t_next, .int t_association, .ref t_bytes, .int t_size, .int t_sent, .ref t_line, .int t_count, .ref t_reply, .int t_told, .ref t_latest, .int t_latestSize, .ref t_made, .int t_many, .int t_askS, .int t_askR])), (t_registers, .inl (t_registers_c, 4, .inl t_registers_f)), (t_column, .inl (t_column_c, 3, .inl t_column_f)), (t_times, .inl (t_times_c, 13, .inl t_times_f)), (t_values, .inl (t_values_c, 39, .inl t_values_f)), (t_bytes, .inl (t_bytes_c, 280, .inl t_bytes_f)), (t_line, .inl (t_line_c, 80, .inl t_line_f)), (t_reply, .inl (t_reply_c, 80, .inl t_reply_f)), (t_latest, .inl (t_latest_c, 80, .inl t_latest_f)), (t_made, .inl (t_made_c, 300, .inl t_made_f))] (S := Unit) (fun v (_ : Unit) => v = r) (fun _ => [(t, .inr (6, [.int t_secret, .int t_thrown, .int t_time, .ref t_registers, .int t_capacity, .int t_period, .int t_columns, .ref t_column, .int t_entries, .ref t_times, .ref t_values, .int t_connected, .int t_expected, .int t_next, .int t_association, .ref t_bytes, .int t_size, .int t_sent, .ref t_line, .int t_count, .ref t_reply, .int t_told, .ref t_latest, .int t_latestSize, .ref t_made, .int t_many, .int t_askS, .int t_askR])), (t_registers, .inl (t_registers_c, 4, .inl t_registers_f)), (t_column, .inl (t_column_c, 3, .inl t_column_f)), (t_times, .inl (t_times_c, 13, .inl t_times_f)), (t_values, .inl (t_values_c, 39, .inl t_values_f)), (t_bytes, .inl (t_bytes_c, 280, .inl t_bytes_f)), (t_line, .inl (t_line_c, 80, .inl t_line_f)), (t_reply, .inl (t_reply_c, 80, .inl t_reply_f)), (t_latest, .inl (t_latest_c, 80, .inl t_latest_f)), (t_made, .inl (t_made_c, 300, .inl t_made_f))]) := by
  refine bs_CI.mk (by decide +kernel) (bs_ler rfl) ?_
  intro p e s m below meth c ls A hx hb hr hml hlk hown hB hN hP hK hD hS hA hl
  refine bs_genQ (fun Q hQ => ?_)
  have hl : lv_has ls 1 [(0, .ref t)] := hl
  have hm := (mq_Mo_thrown F t_thrown).symm.trans hm
  refine lv_aload_n hx hb dc_Mo_thrown_0 rfl (lv_at hl 0 rfl) ?_
  refine va_get (ci := 6) (v := .int t_thrown) (C := cn_Mo) (T := cf_Mo) (N := 28) hx hb hB ki_Mo hown hK hP 0 rfl rfl 1 (by decide) (hB _ kw_fl_Mo_47) (fun _ h => h) rfl dc_Mo_thrown_1 ?_
  cases hm
  subst hQ
  exact bs_retI hx hb hr hlk () rfl hP hD hS dc_Mo_thrown_4
set_option maxHeartbeats 2000000 in
set_option maxRecDepth 100000 in
theorem ct_Mo_capture (l : Launch) (D : va_G) (F : Nat) (t : Nat) (t_registers : Nat) (t_column : Nat) (t_times : Nat) (t_values : Nat) (t_bytes : Nat) (t_line : Nat) (t_reply : Nat) (t_latest : Nat) (t_made : Nat) (t_registers_c : ClassId) (t_column_c : ClassId) (t_times_c : ClassId) (t_values_c : ClassId) (t_bytes_c : ClassId) (t_line_c : ClassId) (t_reply_c : ClassId) (t_latest_c : ClassId) (t_made_c : ClassId) (t_secret : Int32) (t_thrown : Int32) (t_time : Int32) (t_capacity : Int32) (t_period : Int32) (t_columns : Int32) (t_entries : Int32) (t_connected : Int32) (t_expected : Int32) (t_next : Int32) (t_association : Int32) (t_size : Int32) (t_sent : Int32) (t_count : Int32) (t_told : Int32) (t_latestSize : Int32) (t_many : Int32) (t_askS : Int32) (t_askR : Int32) (t_registers_f : Nat → Int32) (t_column_f : Nat → Int32) (t_times_f : Nat → Int32) (t_values_f : Nat → Int32) (t_bytes_f : Nat → Int32) (t_line_f : Nat → Int32) (t_reply_f : Nat → Int32) (t_latest_f : Nat → Int32) (t_made_f : Nat → Int32) (r : Int32 × (Nat → Int32) × (Nat → Int32)) (hm : mm_Mo_capture F t_time t_capacity t_columns t_entries t_registers_f t_column_f t_times_f t_values_f = some r) :
    bs_CV l my_Mo_capture mb_Mo_capture 3 (bs_rm 0) D [.ref t] [(t_registers_c, .int), (t_column_c, .int), (t_times_c, .int), (t_values_c, .int), (t_bytes_c, .int), (t_line_c, .int), (t_reply_c, .int), (t_latest_c, .int), (t_made_c, .int)] [(t, .inr (6, [.int t_secret, .int t_thrown, .int t_time, .ref t_registers, .int t_capacity, .int t_period, .int t_columns, .ref t_column, .int t_entries, .ref t_times, .ref t_values, .int t_connected, .int t_expected, .int t_next, .int t_association, .ref t_bytes, .int t_size, .int t_sent, .ref t_line, .int t_count, .ref t_reply, .int t_told, .ref t_latest, .int t_latestSize, .ref t_made, .int t_many, .int t_askS, .int t_askR])), (t_registers, .inl (t_registers_c, 4, .inl t_registers_f)), (t_column, .inl (t_column_c, 3, .inl t_column_f)), (t_times, .inl (t_times_c, 13, .inl t_times_f)), (t_values, .inl (t_values_c, 39, .inl t_values_f)), (t_bytes, .inl (t_bytes_c, 280, .inl t_bytes_f)), (t_line, .inl (t_line_c, 80, .inl t_line_f)), (t_reply, .inl (t_reply_c, 80, .inl t_reply_f)), (t_latest, .inl (t_latest_c, 80, .inl t_latest_f)), (t_made, .inl (t_made_c, 300, .inl t_made_f))] (S := Unit) (fun (_ : Unit) => True) (fun _ => [(t, .inr (6, [.int t_secret, .int t_thrown, .int t_time, .ref t_registers, .int t_capacity, .int t_period, .int t_columns, .ref t_column, .int r.1, .ref t_times, .ref t_values, .int t_connected, .int t_expected, .int t_next, .int t_association, .ref t_bytes, .int t_size, .int t_sent, .ref t_line, .int t_count, .ref t_reply, .int t_told, .ref t_latest, .int t_latestSize, .ref t_made, .int t_many, .int t_askS, .int t_askR])), (t_registers, .inl (t_registers_c, 4, .inl t_registers_f)), (t_column, .inl (t_column_c, 3, .inl t_column_f)), (t_times, .inl (t_times_c, 13, .inl r.2.1)), (t_values, .inl (t_values_c, 39, .inl r.2.2)), (t_bytes, .inl (t_bytes_c, 280, .inl t_bytes_f)), (t_line, .inl (t_line_c, 80, .inl t_line_f)), (t_reply, .inl (t_reply_c, 80, .inl t_reply_f)), (t_latest, .inl (t_latest_c, 80, .inl t_latest_f)), (t_made, .inl (t_made_c, 300, .inl t_made_f))]) := by
  refine bs_CV.mk (by decide +kernel) (bs_ler rfl) ?_
  intro p e s m below meth c ls A hx hb hr hml hlk hown hB hN hP hK hD hS hA hl
  refine bs_genQ (fun Q hQ => ?_)
  have hL103 : ∀ (k : Nat) (v1 : Int32) (v2 : Int32) (t_entries : Int32) (t_times_f : Nat → Int32) (t_values_f : Nat → Int32) (z : Nat → Int32) (ls : Array Slot) (H : Heap) (locs : List Loc), mm_Mo_capture_L103 F k v1 v2 t_values_f = some z → lv_has ls 3 [(0, .ref t), (1, .int v1), (2, .int v2)] → va_P D bs_cl [(t, .inr (6, [.int t_secret, .int t_thrown, .int t_time, .ref t_registers, .int t_capacity, .int t_period, .int t_columns, .ref t_column, .int t_entries, .ref t_times, .ref t_values, .int t_connected, .int t_expected, .int t_next, .int t_association, .ref t_bytes, .int t_size, .int t_sent, .ref t_line, .int t_count, .ref t_reply, .int t_told, .ref t_latest, .int t_latestSize, .ref t_made, .int t_many, .int t_askS, .int t_askR])), (t_registers, .inl (t_registers_c, 4, .inl t_registers_f)), (t_column, .inl (t_column_c, 3, .inl t_column_f)), (t_times, .inl (t_times_c, 13, .inl t_times_f)), (t_values, .inl (t_values_c, 39, .inl t_values_f)), (t_bytes, .inl (t_bytes_c, 280, .inl t_bytes_f)), (t_line, .inl (t_line_c, 80, .inl t_line_f)), (t_reply, .inl (t_reply_c, 80, .inl t_reply_f)), (t_latest, .inl (t_latest_c, 80, .inl t_latest_f)), (t_made, .inl (t_made_c, 300, .inl t_made_f))] H → va_D A [(t, .inr (6, [.int t_secret, .int t_thrown, .int t_time, .ref t_registers, .int t_capacity, .int t_period, .int t_columns, .ref t_column, .int t_entries, .ref t_times, .ref t_values, .int t_connected, .int t_expected, .int t_next, .int t_association, .ref t_bytes, .int t_size, .int t_sent, .ref t_line, .int t_count, .ref t_reply, .int t_told, .ref t_latest, .int t_latestSize, .ref t_made, .int t_many, .int t_askS, .int t_askR])), (t_registers, .inl (t_registers_c, 4, .inl t_registers_f)), (t_column, .inl (t_column_c, 3, .inl t_column_f)), (t_times, .inl (t_times_c, 13, .inl t_times_f)), (t_values, .inl (t_values_c, 39, .inl t_values_f)), (t_bytes, .inl (t_bytes_c, 280, .inl t_bytes_f)), (t_line, .inl (t_line_c, 80, .inl t_line_f)), (t_reply, .inl (t_reply_c, 80, .inl t_reply_f)), (t_latest, .inl (t_latest_c, 80, .inl t_latest_f)), (t_made, .inl (t_made_c, 300, .inl t_made_f))] → va_S A s.heap H locs → (∀ (ls : Array Slot) (H : Heap) (locs : List Loc), lv_has ls 3 [(0, .ref t), (1, .int v1)] → va_P D bs_cl [(t, .inr (6, [.int t_secret, .int t_thrown, .int t_time, .ref t_registers, .int t_capacity, .int t_period, .int t_columns, .ref t_column, .int t_entries, .ref t_times, .ref t_values, .int t_connected, .int t_expected, .int t_next, .int t_association, .ref t_bytes, .int t_size, .int t_sent, .ref t_line, .int t_count, .ref t_reply, .int t_told, .ref t_latest, .int t_latestSize, .ref t_made, .int t_many, .int t_askS, .int t_askR])), (t_registers, .inl (t_registers_c, 4, .inl t_registers_f)), (t_column, .inl (t_column_c, 3, .inl t_column_f)), (t_times, .inl (t_times_c, 13, .inl t_times_f)), (t_values, .inl (t_values_c, 39, .inl z)), (t_bytes, .inl (t_bytes_c, 280, .inl t_bytes_f)), (t_line, .inl (t_line_c, 80, .inl t_line_f)), (t_reply, .inl (t_reply_c, 80, .inl t_reply_f)), (t_latest, .inl (t_latest_c, 80, .inl t_latest_f)), (t_made, .inl (t_made_c, 300, .inl t_made_f))] H → va_D A [(t, .inr (6, [.int t_secret, .int t_thrown, .int t_time, .ref t_registers, .int t_capacity, .int t_period, .int t_columns, .ref t_column, .int t_entries, .ref t_times, .ref t_values, .int t_connected, .int t_expected, .int t_next, .int t_association, .ref t_bytes, .int t_size, .int t_sent, .ref t_line, .int t_count, .ref t_reply, .int t_told, .ref t_latest, .int t_latestSize, .ref t_made, .int t_many, .int t_askS, .int t_askR])), (t_registers, .inl (t_registers_c, 4, .inl t_registers_f)), (t_column, .inl (t_column_c, 3, .inl t_column_f)), (t_times, .inl (t_times_c, 13, .inl t_times_f)), (t_values, .inl (t_values_c, 39, .inl z)), (t_bytes, .inl (t_bytes_c, 280, .inl t_bytes_f)), (t_line, .inl (t_line_c, 80, .inl t_line_f)), (t_reply, .inl (t_reply_c, 80, .inl t_reply_f)), (t_latest, .inl (t_latest_c, 80, .inl t_latest_f)), (t_made, .inl (t_made_c, 300, .inl t_made_f))] → va_S A s.heap H locs → W p l e (bs_rm 0) s m [.ref t].toArray below meth c H locs 0 0 Q (F0 m 136 ls [])) → W p l e (bs_rm 0) s m [.ref t].toArray below meth c H locs 0 0 Q (F0 m 103 ls []) := by
    intro k
    induction k with
    | zero => intro v1 v2 t_entries t_times_f t_values_f z ls H locs hm hl hP hD hS kE; exact (bs_no hm).elim
    | succ k ih =>
      intro v1 v2 t_entries t_times_f t_values_f z ls H locs hm hl hP hD hS kE
      have hm := (mq_Mo_capture_L103 F k v1 v2 t_values_f).symm.trans hm
      refine lv_iload_n hx hb dc_Mo_capture_103 rfl (lv_at hl 2 rfl) ?_
      refine lv_iconst (v := 3) hx hb dc_Mo_capture_104 (by decide +kernel) ?_
      refine lv_icmp_ge (tgt := 136) hx hb dc_Mo_capture_105 (by decide) (fun h105 => ?_) (fun h105 => ?_)
      · have hm := bs_pos h105 hm
        cases hm
        exact kE ls _ _ (lv_sub hl [0, 1] rfl) hP hD hS
      · have hm := bs_neg h105 hm
        refine lv_aload_n hx hb dc_Mo_capture_108 rfl (lv_at hl 0 rfl) ?_
        refine va_get (ci := 6) (v := .ref t_values) (C := cn_Mo) (T := cf_Mo) (N := 28) hx hb hB ki_Mo hown hK hP 0 rfl rfl 10 (by decide) (hB _ kw_fl_Mo_23) (fun _ h => h) rfl dc_Mo_capture_109 ?_
        refine lv_iconst (v := 3) hx hb dc_Mo_capture_112 (by decide +kernel) ?_
        refine lv_iload_n hx hb dc_Mo_capture_113 rfl (lv_at hl 1 rfl) ?_
        refine lv_imul hx hb dc_Mo_capture_114 ?_
        refine lv_iload_n hx hb dc_Mo_capture_115 rfl (lv_at hl 2 rfl) ?_
        refine lv_iadd hx hb dc_Mo_capture_116 ?_
        refine lv_aload_n hx hb dc_Mo_capture_117 rfl (lv_at hl 0 rfl) ?_
        refine va_get (ci := 6) (v := .ref t_values) (C := cn_Mo) (T := cf_Mo) (N := 28) hx hb hB ki_Mo hown hK hP 0 rfl rfl 10 (by decide) (hB _ kw_fl_Mo_23) (fun _ h => h) rfl dc_Mo_capture_118 ?_
        refine lv_iconst (v := 3) hx hb dc_Mo_capture_121 (by decide +kernel) ?_
        refine lv_iload_n hx hb dc_Mo_capture_122 rfl (lv_at hl 1 rfl) ?_
        refine lv_imul hx hb dc_Mo_capture_123 ?_
        refine lv_iconst (v := 3) hx hb dc_Mo_capture_124 (by decide +kernel) ?_
        refine lv_iadd hx hb dc_Mo_capture_125 ?_
        refine lv_iload_n hx hb dc_Mo_capture_126 rfl (lv_at hl 2 rfl) ?_
        refine lv_iadd hx hb dc_Mo_capture_127 ?_
        obtain ⟨hz128, hm⟩ := bs_nn hm
        refine va_iald hx hb hK hP 4 3 rfl rfl hz128 dc_Mo_capture_128 ?_
        obtain ⟨hz129, hm⟩ := bs_nn hm
        refine va_iast hx hb hK hP hD hS 4 3 rfl rfl hz129 dc_Mo_capture_129 (fun H locs hP hD hS => ?_)
        obtain ⟨hP, hD⟩ := bs_say [(t, .inr (6, [.int t_secret, .int t_thrown, .int t_time, .ref t_registers, .int t_capacity, .int t_period, .int t_columns, .ref t_column, .int t_entries, .ref t_times, .ref t_values, .int t_connected, .int t_expected, .int t_next, .int t_association, .ref t_bytes, .int t_size, .int t_sent, .ref t_line, .int t_count, .ref t_reply, .int t_told, .ref t_latest, .int t_latestSize, .ref t_made, .int t_many, .int t_askS, .int t_askR])), (t_registers, .inl (t_registers_c, 4, .inl t_registers_f)), (t_column, .inl (t_column_c, 3, .inl t_column_f)), (t_times, .inl (t_times_c, 13, .inl t_times_f)), (t_values, .inl (t_values_c, 39, .inl (upd t_values_f (((3 * v1) + v2).toNatClampNeg) (t_values_f ((((3 * v1) + 3) + v2).toNatClampNeg))))), (t_bytes, .inl (t_bytes_c, 280, .inl t_bytes_f)), (t_line, .inl (t_line_c, 80, .inl t_line_f)), (t_reply, .inl (t_reply_c, 80, .inl t_reply_f)), (t_latest, .inl (t_latest_c, 80, .inl t_latest_f)), (t_made, .inl (t_made_c, 300, .inl t_made_f))] hP hD
        refine lv_iinc (k := 2) (v := v2 + 1) hx hb dc_Mo_capture_130 hl rfl (bs_inc1 _) (by decide) rfl (fun ls hl => ?_)
        have hl : lv_has ls 3 [(2, .int (v2 + 1)), (0, .ref t), (1, .int v1)] := hl
        refine lv_goto (tgt := 103) hx hb dc_Mo_capture_133 (by decide) ?_
        exact ih v1 (v2 + 1) t_entries t_times_f (upd t_values_f (((3 * v1) + v2).toNatClampNeg) (t_values_f ((((3 * v1) + 3) + v2).toNatClampNeg))) _ ls _ _ hm (lv_sub hl [1, 2, 0] rfl) hP hD hS kE
  have hL77 : ∀ (k : Nat) (v1 : Int32) (t_entries : Int32) (t_times_f : Nat → Int32) (t_values_f : Nat → Int32) (ls : Array Slot) (H : Heap) (locs : List Loc), mm_Mo_capture_L77 F k v1 t_entries t_times_f t_values_f = some r → lv_has ls 3 [(0, .ref t), (1, .int v1)] → va_P D bs_cl [(t, .inr (6, [.int t_secret, .int t_thrown, .int t_time, .ref t_registers, .int t_capacity, .int t_period, .int t_columns, .ref t_column, .int t_entries, .ref t_times, .ref t_values, .int t_connected, .int t_expected, .int t_next, .int t_association, .ref t_bytes, .int t_size, .int t_sent, .ref t_line, .int t_count, .ref t_reply, .int t_told, .ref t_latest, .int t_latestSize, .ref t_made, .int t_many, .int t_askS, .int t_askR])), (t_registers, .inl (t_registers_c, 4, .inl t_registers_f)), (t_column, .inl (t_column_c, 3, .inl t_column_f)), (t_times, .inl (t_times_c, 13, .inl t_times_f)), (t_values, .inl (t_values_c, 39, .inl t_values_f)), (t_bytes, .inl (t_bytes_c, 280, .inl t_bytes_f)), (t_line, .inl (t_line_c, 80, .inl t_line_f)), (t_reply, .inl (t_reply_c, 80, .inl t_reply_f)), (t_latest, .inl (t_latest_c, 80, .inl t_latest_f)), (t_made, .inl (t_made_c, 300, .inl t_made_f))] H → va_D A [(t, .inr (6, [.int t_secret, .int t_thrown, .int t_time, .ref t_registers, .int t_capacity, .int t_period, .int t_columns, .ref t_column, .int t_entries, .ref t_times, .ref t_values, .int t_connected, .int t_expected, .int t_next, .int t_association, .ref t_bytes, .int t_size, .int t_sent, .ref t_line, .int t_count, .ref t_reply, .int t_told, .ref t_latest, .int t_latestSize, .ref t_made, .int t_many, .int t_askS, .int t_askR])), (t_registers, .inl (t_registers_c, 4, .inl t_registers_f)), (t_column, .inl (t_column_c, 3, .inl t_column_f)), (t_times, .inl (t_times_c, 13, .inl t_times_f)), (t_values, .inl (t_values_c, 39, .inl t_values_f)), (t_bytes, .inl (t_bytes_c, 280, .inl t_bytes_f)), (t_line, .inl (t_line_c, 80, .inl t_line_f)), (t_reply, .inl (t_reply_c, 80, .inl t_reply_f)), (t_latest, .inl (t_latest_c, 80, .inl t_latest_f)), (t_made, .inl (t_made_c, 300, .inl t_made_f))] → va_S A s.heap H locs → W p l e (bs_rm 0) s m [.ref t].toArray below meth c H locs 0 0 Q (F0 m 77 ls []) := by
    intro k
    induction k with
    | zero => intro v1 t_entries t_times_f t_values_f ls H locs hm hl hP hD hS; exact (bs_no hm).elim
    | succ k ih =>
      intro v1 t_entries t_times_f t_values_f ls H locs hm hl hP hD hS
      have hm := (mq_Mo_capture_L77 F k v1 t_entries t_times_f t_values_f).symm.trans hm
      refine lv_iload_n hx hb dc_Mo_capture_77 rfl (lv_at hl 1 rfl) ?_
      refine lv_iconst (v := 1) hx hb dc_Mo_capture_78 (by decide +kernel) ?_
      refine lv_iadd hx hb dc_Mo_capture_79 ?_
      refine lv_aload_n hx hb dc_Mo_capture_80 rfl (lv_at hl 0 rfl) ?_
      refine va_get (ci := 6) (v := .int t_entries) (C := cn_Mo) (T := cf_Mo) (N := 28) hx hb hB ki_Mo hown hK hP 0 rfl rfl 8 (by decide) (hB _ kw_fl_Mo_50) (fun _ h => h) rfl dc_Mo_capture_81 ?_
      refine lv_icmp_ge (tgt := 142) hx hb dc_Mo_capture_84 (by decide) (fun h84 => ?_) (fun h84 => ?_)
      · have hm := bs_pos h84 hm
        refine lv_aload_n hx hb dc_Mo_capture_142 rfl (lv_at hl 0 rfl) ?_
        refine lv_dup hx hb dc_Mo_capture_143 rfl ?_
        refine va_get (ci := 6) (v := .int t_entries) (C := cn_Mo) (T := cf_Mo) (N := 28) hx hb hB ki_Mo hown hK hP 0 rfl rfl 8 (by decide) (hB _ kw_fl_Mo_50) (fun _ h => h) rfl dc_Mo_capture_144 ?_
        refine lv_iconst (v := 1) hx hb dc_Mo_capture_147 (by decide +kernel) ?_
        refine lv_isub hx hb dc_Mo_capture_148 ?_
        refine va_put (ci := 6) (v := .int (t_entries - 1)) (ty := .int) (C := cn_Mo) (T := cf_Mo) (N := 28) hx hb hB ki_Mo ct_Mo cp_Mo cd_Mo hown hK hP hD hS 0 rfl rfl 8 (by decide) (hB _ kw_fl_Mo_50) (fun _ h => h) rfl (by decide +kernel) rfl rfl (bs_ltr rfl) dc_Mo_capture_149 (fun H locs hP hD hS => ?_)
        obtain ⟨hP, hD⟩ := bs_say [(t, .inr (6, [.int t_secret, .int t_thrown, .int t_time, .ref t_registers, .int t_capacity, .int t_period, .int t_columns, .ref t_column, .int (t_entries - 1), .ref t_times, .ref t_values, .int t_connected, .int t_expected, .int t_next, .int t_association, .ref t_bytes, .int t_size, .int t_sent, .ref t_line, .int t_count, .ref t_reply, .int t_told, .ref t_latest, .int t_latestSize, .ref t_made, .int t_many, .int t_askS, .int t_askR])), (t_registers, .inl (t_registers_c, 4, .inl t_registers_f)), (t_column, .inl (t_column_c, 3, .inl t_column_f)), (t_times, .inl (t_times_c, 13, .inl t_times_f)), (t_values, .inl (t_values_c, 39, .inl t_values_f)), (t_bytes, .inl (t_bytes_c, 280, .inl t_bytes_f)), (t_line, .inl (t_line_c, 80, .inl t_line_f)), (t_reply, .inl (t_reply_c, 80, .inl t_reply_f)), (t_latest, .inl (t_latest_c, 80, .inl t_latest_f)), (t_made, .inl (t_made_c, 300, .inl t_made_f))] hP hD
        clear hL103 ih
        cases hm
        subst hQ
        exact bs_retV hx hb hr hlk () trivial hP hD hS dc_Mo_capture_152
      · have hm := bs_neg h84 hm
        refine lv_aload_n hx hb dc_Mo_capture_87 rfl (lv_at hl 0 rfl) ?_
        refine va_get (ci := 6) (v := .ref t_times) (C := cn_Mo) (T := cf_Mo) (N := 28) hx hb hB ki_Mo hown hK hP 0 rfl rfl 9 (by decide) (hB _ kw_fl_Mo_20) (fun _ h => h) rfl dc_Mo_capture_88 ?_
        refine lv_iload_n hx hb dc_Mo_capture_91 rfl (lv_at hl 1 rfl) ?_
        refine lv_aload_n hx hb dc_Mo_capture_92 rfl (lv_at hl 0 rfl) ?_
        refine va_get (ci := 6) (v := .ref t_times) (C := cn_Mo) (T := cf_Mo) (N := 28) hx hb hB ki_Mo hown hK hP 0 rfl rfl 9 (by decide) (hB _ kw_fl_Mo_20) (fun _ h => h) rfl dc_Mo_capture_93 ?_
        refine lv_iload_n hx hb dc_Mo_capture_96 rfl (lv_at hl 1 rfl) ?_
        refine lv_iconst (v := 1) hx hb dc_Mo_capture_97 (by decide +kernel) ?_
        refine lv_iadd hx hb dc_Mo_capture_98 ?_
        obtain ⟨hz99, hm⟩ := bs_nn hm
        refine va_iald hx hb hK hP 3 2 rfl rfl hz99 dc_Mo_capture_99 ?_
        obtain ⟨hz100, hm⟩ := bs_nn hm
        refine va_iast hx hb hK hP hD hS 3 2 rfl rfl hz100 dc_Mo_capture_100 (fun H locs hP hD hS => ?_)
        obtain ⟨hP, hD⟩ := bs_say [(t, .inr (6, [.int t_secret, .int t_thrown, .int t_time, .ref t_registers, .int t_capacity, .int t_period, .int t_columns, .ref t_column, .int t_entries, .ref t_times, .ref t_values, .int t_connected, .int t_expected, .int t_next, .int t_association, .ref t_bytes, .int t_size, .int t_sent, .ref t_line, .int t_count, .ref t_reply, .int t_told, .ref t_latest, .int t_latestSize, .ref t_made, .int t_many, .int t_askS, .int t_askR])), (t_registers, .inl (t_registers_c, 4, .inl t_registers_f)), (t_column, .inl (t_column_c, 3, .inl t_column_f)), (t_times, .inl (t_times_c, 13, .inl (upd t_times_f v1.toNatClampNeg (t_times_f ((v1 + 1).toNatClampNeg))))), (t_values, .inl (t_values_c, 39, .inl t_values_f)), (t_bytes, .inl (t_bytes_c, 280, .inl t_bytes_f)), (t_line, .inl (t_line_c, 80, .inl t_line_f)), (t_reply, .inl (t_reply_c, 80, .inl t_reply_f)), (t_latest, .inl (t_latest_c, 80, .inl t_latest_f)), (t_made, .inl (t_made_c, 300, .inl t_made_f))] hP hD
        refine lv_iconst (v := 0) hx hb dc_Mo_capture_101 (by decide +kernel) ?_
        refine lv_istore_n hx hb dc_Mo_capture_102 rfl hl (by decide) rfl (fun ls hl => ?_)
        have hl : lv_has ls 3 [(2, .int 0), (0, .ref t), (1, .int v1)] := hl
        obtain ⟨z103, hz103, hm⟩ := bs_bind hm
        refine hL103 F v1 0 t_entries (upd t_times_f v1.toNatClampNeg (t_times_f ((v1 + 1).toNatClampNeg))) t_values_f z103 ls _ _ hz103 (lv_sub hl [1, 2, 0] rfl) hP hD hS (fun ls H locs hl hP hD hS => ?_)
        have hl : lv_has ls 3 [(0, .ref t), (1, .int v1)] := hl
        obtain ⟨hP, hD⟩ := bs_say [(t, .inr (6, [.int t_secret, .int t_thrown, .int t_time, .ref t_registers, .int t_capacity, .int t_period, .int t_columns, .ref t_column, .int t_entries, .ref t_times, .ref t_values, .int t_connected, .int t_expected, .int t_next, .int t_association, .ref t_bytes, .int t_size, .int t_sent, .ref t_line, .int t_count, .ref t_reply, .int t_told, .ref t_latest, .int t_latestSize, .ref t_made, .int t_many, .int t_askS, .int t_askR])), (t_registers, .inl (t_registers_c, 4, .inl t_registers_f)), (t_column, .inl (t_column_c, 3, .inl t_column_f)), (t_times, .inl (t_times_c, 13, .inl (upd t_times_f v1.toNatClampNeg (t_times_f ((v1 + 1).toNatClampNeg))))), (t_values, .inl (t_values_c, 39, .inl z103)), (t_bytes, .inl (t_bytes_c, 280, .inl t_bytes_f)), (t_line, .inl (t_line_c, 80, .inl t_line_f)), (t_reply, .inl (t_reply_c, 80, .inl t_reply_f)), (t_latest, .inl (t_latest_c, 80, .inl t_latest_f)), (t_made, .inl (t_made_c, 300, .inl t_made_f))] hP hD
        refine lv_iinc (k := 1) (v := v1 + 1) hx hb dc_Mo_capture_136 hl rfl (bs_inc1 _) (by decide) rfl (fun ls hl => ?_)
        have hl : lv_has ls 3 [(1, .int (v1 + 1)), (0, .ref t)] := hl
        refine lv_goto (tgt := 77) hx hb dc_Mo_capture_139 (by decide) ?_
        exact ih (v1 + 1) t_entries (upd t_times_f v1.toNatClampNeg (t_times_f ((v1 + 1).toNatClampNeg))) z103 ls _ _ hm (lv_sub hl [1, 0] rfl) hP hD hS
  have hL15 : ∀ (k : Nat) (v1 : Int32) (t_entries : Int32) (t_times_f : Nat → Int32) (t_values_f : Nat → Int32) (ls : Array Slot) (H : Heap) (locs : List Loc), mm_Mo_capture_L15 F k v1 t_capacity t_columns t_entries t_registers_f t_column_f t_times_f t_values_f = some r → lv_has ls 3 [(0, .ref t), (1, .int v1)] → va_P D bs_cl [(t, .inr (6, [.int t_secret, .int t_thrown, .int t_time, .ref t_registers, .int t_capacity, .int t_period, .int t_columns, .ref t_column, .int t_entries, .ref t_times, .ref t_values, .int t_connected, .int t_expected, .int t_next, .int t_association, .ref t_bytes, .int t_size, .int t_sent, .ref t_line, .int t_count, .ref t_reply, .int t_told, .ref t_latest, .int t_latestSize, .ref t_made, .int t_many, .int t_askS, .int t_askR])), (t_registers, .inl (t_registers_c, 4, .inl t_registers_f)), (t_column, .inl (t_column_c, 3, .inl t_column_f)), (t_times, .inl (t_times_c, 13, .inl t_times_f)), (t_values, .inl (t_values_c, 39, .inl t_values_f)), (t_bytes, .inl (t_bytes_c, 280, .inl t_bytes_f)), (t_line, .inl (t_line_c, 80, .inl t_line_f)), (t_reply, .inl (t_reply_c, 80, .inl t_reply_f)), (t_latest, .inl (t_latest_c, 80, .inl t_latest_f)), (t_made, .inl (t_made_c, 300, .inl t_made_f))] H → va_D A [(t, .inr (6, [.int t_secret, .int t_thrown, .int t_time, .ref t_registers, .int t_capacity, .int t_period, .int t_columns, .ref t_column, .int t_entries, .ref t_times, .ref t_values, .int t_connected, .int t_expected, .int t_next, .int t_association, .ref t_bytes, .int t_size, .int t_sent, .ref t_line, .int t_count, .ref t_reply, .int t_told, .ref t_latest, .int t_latestSize, .ref t_made, .int t_many, .int t_askS, .int t_askR])), (t_registers, .inl (t_registers_c, 4, .inl t_registers_f)), (t_column, .inl (t_column_c, 3, .inl t_column_f)), (t_times, .inl (t_times_c, 13, .inl t_times_f)), (t_values, .inl (t_values_c, 39, .inl t_values_f)), (t_bytes, .inl (t_bytes_c, 280, .inl t_bytes_f)), (t_line, .inl (t_line_c, 80, .inl t_line_f)), (t_reply, .inl (t_reply_c, 80, .inl t_reply_f)), (t_latest, .inl (t_latest_c, 80, .inl t_latest_f)), (t_made, .inl (t_made_c, 300, .inl t_made_f))] → va_S A s.heap H locs → W p l e (bs_rm 0) s m [.ref t].toArray below meth c H locs 0 0 Q (F0 m 15 ls []) := by
    intro k
    induction k with
    | zero => intro v1 t_entries t_times_f t_values_f ls H locs hm hl hP hD hS; exact (bs_no hm).elim
    | succ k ih =>
      intro v1 t_entries t_times_f t_values_f ls H locs hm hl hP hD hS
      have hm := (mq_Mo_capture_L15 F k v1 t_capacity t_columns t_entries t_registers_f t_column_f t_times_f t_values_f).symm.trans hm
      refine lv_iload_n hx hb dc_Mo_capture_15 rfl (lv_at hl 1 rfl) ?_
      refine lv_aload_n hx hb dc_Mo_capture_16 rfl (lv_at hl 0 rfl) ?_
      refine va_get (ci := 6) (v := .int t_columns) (C := cn_Mo) (T := cf_Mo) (N := 28) hx hb hB ki_Mo hown hK hP 0 rfl rfl 6 (by decide) (hB _ kw_fl_Mo_13) (fun _ h => h) rfl dc_Mo_capture_17 ?_
      refine lv_icmp_ge (tgt := 53) hx hb dc_Mo_capture_20 (by decide) (fun h20 => ?_) (fun h20 => ?_)
      · have hm := bs_pos h20 hm
        refine lv_aload_n hx hb dc_Mo_capture_53 rfl (lv_at hl 0 rfl) ?_
        refine lv_dup hx hb dc_Mo_capture_54 rfl ?_
        refine va_get (ci := 6) (v := .int t_entries) (C := cn_Mo) (T := cf_Mo) (N := 28) hx hb hB ki_Mo hown hK hP 0 rfl rfl 8 (by decide) (hB _ kw_fl_Mo_50) (fun _ h => h) rfl dc_Mo_capture_55 ?_
        refine lv_iconst (v := 1) hx hb dc_Mo_capture_58 (by decide +kernel) ?_
        refine lv_iadd hx hb dc_Mo_capture_59 ?_
        refine va_put (ci := 6) (v := .int (t_entries + 1)) (ty := .int) (C := cn_Mo) (T := cf_Mo) (N := 28) hx hb hB ki_Mo ct_Mo cp_Mo cd_Mo hown hK hP hD hS 0 rfl rfl 8 (by decide) (hB _ kw_fl_Mo_50) (fun _ h => h) rfl (by decide +kernel) rfl rfl (bs_ltr rfl) dc_Mo_capture_60 (fun H locs hP hD hS => ?_)
        obtain ⟨hP, hD⟩ := bs_say [(t, .inr (6, [.int t_secret, .int t_thrown, .int t_time, .ref t_registers, .int t_capacity, .int t_period, .int t_columns, .ref t_column, .int (t_entries + 1), .ref t_times, .ref t_values, .int t_connected, .int t_expected, .int t_next, .int t_association, .ref t_bytes, .int t_size, .int t_sent, .ref t_line, .int t_count, .ref t_reply, .int t_told, .ref t_latest, .int t_latestSize, .ref t_made, .int t_many, .int t_askS, .int t_askR])), (t_registers, .inl (t_registers_c, 4, .inl t_registers_f)), (t_column, .inl (t_column_c, 3, .inl t_column_f)), (t_times, .inl (t_times_c, 13, .inl t_times_f)), (t_values, .inl (t_values_c, 39, .inl t_values_f)), (t_bytes, .inl (t_bytes_c, 280, .inl t_bytes_f)), (t_line, .inl (t_line_c, 80, .inl t_line_f)), (t_reply, .inl (t_reply_c, 80, .inl t_reply_f)), (t_latest, .inl (t_latest_c, 80, .inl t_latest_f)), (t_made, .inl (t_made_c, 300, .inl t_made_f))] hP hD
        refine lv_aload_n hx hb dc_Mo_capture_63 rfl (lv_at hl 0 rfl) ?_
        refine va_get (ci := 6) (v := .int (t_entries + 1)) (C := cn_Mo) (T := cf_Mo) (N := 28) hx hb hB ki_Mo hown hK hP 0 rfl rfl 8 (by decide) (hB _ kw_fl_Mo_50) (fun _ h => h) rfl dc_Mo_capture_64 ?_
        refine lv_aload_n hx hb dc_Mo_capture_67 rfl (lv_at hl 0 rfl) ?_
        refine va_get (ci := 6) (v := .int t_capacity) (C := cn_Mo) (T := cf_Mo) (N := 28) hx hb hB ki_Mo hown hK hP 0 rfl rfl 4 (by decide) (hB _ kw_fl_Mo_44) (fun _ h => h) rfl dc_Mo_capture_68 ?_
        refine lv_icmp_gt (tgt := 75) hx hb dc_Mo_capture_71 (by decide) (fun h71 => ?_) (fun h71 => ?_)
        · have hm := bs_pos h71 hm
          refine lv_iconst (v := 0) hx hb dc_Mo_capture_75 (by decide +kernel) ?_
          refine lv_istore_n hx hb dc_Mo_capture_76 rfl hl (by decide) rfl (fun ls hl => ?_)
          have hl : lv_has ls 3 [(1, .int 0), (0, .ref t)] := hl
          exact hL77 F 0 (t_entries + 1) t_times_f t_values_f ls _ _ hm (lv_sub hl [1, 0] rfl) hP hD hS
        · have hm := bs_neg h71 hm
          clear hL103 hL77 ih
          cases hm
          subst hQ
          exact bs_retV hx hb hr hlk () trivial hP hD hS dc_Mo_capture_74
      · have hm := bs_neg h20 hm
        refine lv_aload_n hx hb dc_Mo_capture_23 rfl (lv_at hl 0 rfl) ?_
        refine va_get (ci := 6) (v := .ref t_values) (C := cn_Mo) (T := cf_Mo) (N := 28) hx hb hB ki_Mo hown hK hP 0 rfl rfl 10 (by decide) (hB _ kw_fl_Mo_23) (fun _ h => h) rfl dc_Mo_capture_24 ?_
        refine lv_iconst (v := 3) hx hb dc_Mo_capture_27 (by decide +kernel) ?_
        refine lv_aload_n hx hb dc_Mo_capture_28 rfl (lv_at hl 0 rfl) ?_
        refine va_get (ci := 6) (v := .int t_entries) (C := cn_Mo) (T := cf_Mo) (N := 28) hx hb hB ki_Mo hown hK hP 0 rfl rfl 8 (by decide) (hB _ kw_fl_Mo_50) (fun _ h => h) rfl dc_Mo_capture_29 ?_
        refine lv_imul hx hb dc_Mo_capture_32 ?_
        refine lv_iload_n hx hb dc_Mo_capture_33 rfl (lv_at hl 1 rfl) ?_
        refine lv_iadd hx hb dc_Mo_capture_34 ?_
        refine lv_aload_n hx hb dc_Mo_capture_35 rfl (lv_at hl 0 rfl) ?_
        refine va_get (ci := 6) (v := .ref t_registers) (C := cn_Mo) (T := cf_Mo) (N := 28) hx hb hB ki_Mo hown hK hP 0 rfl rfl 3 (by decide) (hB _ kw_fl_Mo_7) (fun _ h => h) rfl dc_Mo_capture_36 ?_
        refine lv_aload_n hx hb dc_Mo_capture_39 rfl (lv_at hl 0 rfl) ?_
        refine va_get (ci := 6) (v := .ref t_column) (C := cn_Mo) (T := cf_Mo) (N := 28) hx hb hB ki_Mo hown hK hP 0 rfl rfl 7 (by decide) (hB _ kw_fl_Mo_17) (fun _ h => h) rfl dc_Mo_capture_40 ?_
        refine lv_iload_n hx hb dc_Mo_capture_43 rfl (lv_at hl 1 rfl) ?_
        obtain ⟨hz44, hm⟩ := bs_nn hm
        refine va_iald hx hb hK hP 2 1 rfl rfl hz44 dc_Mo_capture_44 ?_
        obtain ⟨hz45, hm⟩ := bs_nn hm
        refine va_iald hx hb hK hP 1 0 rfl rfl hz45 dc_Mo_capture_45 ?_
        obtain ⟨hz46, hm⟩ := bs_nn hm
        refine va_iast hx hb hK hP hD hS 4 3 rfl rfl hz46 dc_Mo_capture_46 (fun H locs hP hD hS => ?_)
        obtain ⟨hP, hD⟩ := bs_say [(t, .inr (6, [.int t_secret, .int t_thrown, .int t_time, .ref t_registers, .int t_capacity, .int t_period, .int t_columns, .ref t_column, .int t_entries, .ref t_times, .ref t_values, .int t_connected, .int t_expected, .int t_next, .int t_association, .ref t_bytes, .int t_size, .int t_sent, .ref t_line, .int t_count, .ref t_reply, .int t_told, .ref t_latest, .int t_latestSize, .ref t_made, .int t_many, .int t_askS, .int t_askR])), (t_registers, .inl (t_registers_c, 4, .inl t_registers_f)), (t_column, .inl (t_column_c, 3, .inl t_column_f)), (t_times, .inl (t_times_c, 13, .inl t_times_f)), (t_values, .inl (t_values_c, 39, .inl (upd t_values_f (((3 * t_entries) + v1).toNatClampNeg) (t_registers_f ((t_column_f v1.toNatClampNeg).toNatClampNeg))))), (t_bytes, .inl (t_bytes_c, 280, .inl t_bytes_f)), (t_line, .inl (t_line_c, 80, .inl t_line_f)), (t_reply, .inl (t_reply_c, 80, .inl t_reply_f)), (t_latest, .inl (t_latest_c, 80, .inl t_latest_f)), (t_made, .inl (t_made_c, 300, .inl t_made_f))] hP hD
        refine lv_iinc (k := 1) (v := v1 + 1) hx hb dc_Mo_capture_47 hl rfl (bs_inc1 _) (by decide) rfl (fun ls hl => ?_)
        have hl : lv_has ls 3 [(1, .int (v1 + 1)), (0, .ref t)] := hl
        refine lv_goto (tgt := 15) hx hb dc_Mo_capture_50 (by decide) ?_
        exact ih (v1 + 1) t_entries t_times_f (upd t_values_f (((3 * t_entries) + v1).toNatClampNeg) (t_registers_f ((t_column_f v1.toNatClampNeg).toNatClampNeg))) ls _ _ hm (lv_sub hl [1, 0] rfl) hP hD hS
  have hl : lv_has ls 3 [(0, .ref t)] := hl
  have hm := (mq_Mo_capture F t_time t_capacity t_columns t_entries t_registers_f t_column_f t_times_f t_values_f).symm.trans hm
  refine lv_aload_n hx hb dc_Mo_capture_0 rfl (lv_at hl 0 rfl) ?_
  refine va_get (ci := 6) (v := .ref t_times) (C := cn_Mo) (T := cf_Mo) (N := 28) hx hb hB ki_Mo hown hK hP 0 rfl rfl 9 (by decide) (hB _ kw_fl_Mo_20) (fun _ h => h) rfl dc_Mo_capture_1 ?_
  refine lv_aload_n hx hb dc_Mo_capture_4 rfl (lv_at hl 0 rfl) ?_
  refine va_get (ci := 6) (v := .int t_entries) (C := cn_Mo) (T := cf_Mo) (N := 28) hx hb hB ki_Mo hown hK hP 0 rfl rfl 8 (by decide) (hB _ kw_fl_Mo_50) (fun _ h => h) rfl dc_Mo_capture_5 ?_
  refine lv_aload_n hx hb dc_Mo_capture_8 rfl (lv_at hl 0 rfl) ?_
  refine va_get (ci := 6) (v := .int t_time) (C := cn_Mo) (T := cf_Mo) (N := 28) hx hb hB ki_Mo hown hK hP 0 rfl rfl 2 (by decide) (hB _ kw_fl_Mo_53) (fun _ h => h) rfl dc_Mo_capture_9 ?_
  obtain ⟨hz12, hm⟩ := bs_nn hm
  refine va_iast hx hb hK hP hD hS 3 2 rfl rfl hz12 dc_Mo_capture_12 (fun H locs hP hD hS => ?_)
  obtain ⟨hP, hD⟩ := bs_say [(t, .inr (6, [.int t_secret, .int t_thrown, .int t_time, .ref t_registers, .int t_capacity, .int t_period, .int t_columns, .ref t_column, .int t_entries, .ref t_times, .ref t_values, .int t_connected, .int t_expected, .int t_next, .int t_association, .ref t_bytes, .int t_size, .int t_sent, .ref t_line, .int t_count, .ref t_reply, .int t_told, .ref t_latest, .int t_latestSize, .ref t_made, .int t_many, .int t_askS, .int t_askR])), (t_registers, .inl (t_registers_c, 4, .inl t_registers_f)), (t_column, .inl (t_column_c, 3, .inl t_column_f)), (t_times, .inl (t_times_c, 13, .inl (upd t_times_f t_entries.toNatClampNeg t_time))), (t_values, .inl (t_values_c, 39, .inl t_values_f)), (t_bytes, .inl (t_bytes_c, 280, .inl t_bytes_f)), (t_line, .inl (t_line_c, 80, .inl t_line_f)), (t_reply, .inl (t_reply_c, 80, .inl t_reply_f)), (t_latest, .inl (t_latest_c, 80, .inl t_latest_f)), (t_made, .inl (t_made_c, 300, .inl t_made_f))] hP hD
  refine lv_iconst (v := 0) hx hb dc_Mo_capture_13 (by decide +kernel) ?_
  refine lv_istore_n hx hb dc_Mo_capture_14 rfl hl (by decide) rfl (fun ls hl => ?_)
  have hl : lv_has ls 3 [(1, .int 0), (0, .ref t)] := hl
  exact hL15 F 0 t_entries (upd t_times_f t_entries.toNatClampNeg t_time) t_values_f ls _ _ hm (lv_sub hl [1, 0] rfl) hP hD hS
set_option maxHeartbeats 2000000 in
set_option maxRecDepth 100000 in
theorem ct_Mo_run (l : Launch) (D : va_G) (F : Nat) (t : Nat) (t_registers : Nat) (t_column : Nat) (t_times : Nat) (t_values : Nat) (t_bytes : Nat) (t_line : Nat) (t_reply : Nat) (t_latest : Nat) (t_made : Nat) (t_registers_c : ClassId) (t_column_c : ClassId) (t_times_c : ClassId) (t_values_c : ClassId) (t_bytes_c : ClassId) (t_line_c : ClassId) (t_reply_c : ClassId) (t_latest_c : ClassId) (t_made_c : ClassId) (t_secret : Int32) (t_thrown : Int32) (t_time : Int32) (t_capacity : Int32) (t_period : Int32) (t_columns : Int32) (t_entries : Int32) (t_connected : Int32) (t_expected : Int32) (t_next : Int32) (t_association : Int32) (t_size : Int32) (t_sent : Int32) (t_count : Int32) (t_told : Int32) (t_latestSize : Int32) (t_many : Int32) (t_askS : Int32) (t_askR : Int32) (t_registers_f : Nat → Int32) (t_column_f : Nat → Int32) (t_times_f : Nat → Int32) (t_values_f : Nat → Int32) (t_bytes_f : Nat → Int32) (t_line_f : Nat → Int32) (t_reply_f : Nat → Int32) (t_latest_f : Nat → Int32) (t_made_f : Nat → Int32) (i1 : Int32) (r : Int32 × Int32 × Int32 × (Nat → Int32) × (Nat → Int32)) (hm : mm_Mo_run F i1 t_thrown t_time t_capacity t_period t_columns t_entries t_registers_f t_column_f t_times_f t_values_f = some r) :
    bs_CV l my_Mo_run mb_Mo_run 3 (bs_rm 1) D [.ref t, .int i1] [(t_registers_c, .int), (t_column_c, .int), (t_times_c, .int), (t_values_c, .int), (t_bytes_c, .int), (t_line_c, .int), (t_reply_c, .int), (t_latest_c, .int), (t_made_c, .int)] [(t, .inr (6, [.int t_secret, .int t_thrown, .int t_time, .ref t_registers, .int t_capacity, .int t_period, .int t_columns, .ref t_column, .int t_entries, .ref t_times, .ref t_values, .int t_connected, .int t_expected, .int t_next, .int t_association, .ref t_bytes, .int t_size, .int t_sent, .ref t_line, .int t_count, .ref t_reply, .int t_told, .ref t_latest, .int t_latestSize, .ref t_made, .int t_many, .int t_askS, .int t_askR])), (t_registers, .inl (t_registers_c, 4, .inl t_registers_f)), (t_column, .inl (t_column_c, 3, .inl t_column_f)), (t_times, .inl (t_times_c, 13, .inl t_times_f)), (t_values, .inl (t_values_c, 39, .inl t_values_f)), (t_bytes, .inl (t_bytes_c, 280, .inl t_bytes_f)), (t_line, .inl (t_line_c, 80, .inl t_line_f)), (t_reply, .inl (t_reply_c, 80, .inl t_reply_f)), (t_latest, .inl (t_latest_c, 80, .inl t_latest_f)), (t_made, .inl (t_made_c, 300, .inl t_made_f))] (S := Unit) (fun (_ : Unit) => True) (fun _ => [(t, .inr (6, [.int t_secret, .int r.1, .int r.2.1, .ref t_registers, .int t_capacity, .int t_period, .int t_columns, .ref t_column, .int r.2.2.1, .ref t_times, .ref t_values, .int t_connected, .int t_expected, .int t_next, .int t_association, .ref t_bytes, .int t_size, .int t_sent, .ref t_line, .int t_count, .ref t_reply, .int t_told, .ref t_latest, .int t_latestSize, .ref t_made, .int t_many, .int t_askS, .int t_askR])), (t_registers, .inl (t_registers_c, 4, .inl t_registers_f)), (t_column, .inl (t_column_c, 3, .inl t_column_f)), (t_times, .inl (t_times_c, 13, .inl r.2.2.2.1)), (t_values, .inl (t_values_c, 39, .inl r.2.2.2.2)), (t_bytes, .inl (t_bytes_c, 280, .inl t_bytes_f)), (t_line, .inl (t_line_c, 80, .inl t_line_f)), (t_reply, .inl (t_reply_c, 80, .inl t_reply_f)), (t_latest, .inl (t_latest_c, 80, .inl t_latest_f)), (t_made, .inl (t_made_c, 300, .inl t_made_f))]) := by
  refine bs_CV.mk (by decide +kernel) (bs_ler rfl) ?_
  intro p e s m below meth c ls A hx hb hr hml hlk hown hB hN hP hK hD hS hA hl
  refine bs_genQ (fun Q hQ => ?_)
  have hL22 : ∀ (k : Nat) (v1 : Int32) (v2 : Int32) (t_thrown : Int32) (t_time : Int32) (t_entries : Int32) (t_times_f : Nat → Int32) (t_values_f : Nat → Int32) (ls : Array Slot) (H : Heap) (locs : List Loc), mm_Mo_run_L22 F k v1 v2 t_thrown t_time t_capacity t_period t_columns t_entries t_registers_f t_column_f t_times_f t_values_f = some r → lv_has ls 3 [(0, .ref t), (1, .int v1), (2, .int v2)] → va_P D bs_cl [(t, .inr (6, [.int t_secret, .int t_thrown, .int t_time, .ref t_registers, .int t_capacity, .int t_period, .int t_columns, .ref t_column, .int t_entries, .ref t_times, .ref t_values, .int t_connected, .int t_expected, .int t_next, .int t_association, .ref t_bytes, .int t_size, .int t_sent, .ref t_line, .int t_count, .ref t_reply, .int t_told, .ref t_latest, .int t_latestSize, .ref t_made, .int t_many, .int t_askS, .int t_askR])), (t_registers, .inl (t_registers_c, 4, .inl t_registers_f)), (t_column, .inl (t_column_c, 3, .inl t_column_f)), (t_times, .inl (t_times_c, 13, .inl t_times_f)), (t_values, .inl (t_values_c, 39, .inl t_values_f)), (t_bytes, .inl (t_bytes_c, 280, .inl t_bytes_f)), (t_line, .inl (t_line_c, 80, .inl t_line_f)), (t_reply, .inl (t_reply_c, 80, .inl t_reply_f)), (t_latest, .inl (t_latest_c, 80, .inl t_latest_f)), (t_made, .inl (t_made_c, 300, .inl t_made_f))] H → va_D A [(t, .inr (6, [.int t_secret, .int t_thrown, .int t_time, .ref t_registers, .int t_capacity, .int t_period, .int t_columns, .ref t_column, .int t_entries, .ref t_times, .ref t_values, .int t_connected, .int t_expected, .int t_next, .int t_association, .ref t_bytes, .int t_size, .int t_sent, .ref t_line, .int t_count, .ref t_reply, .int t_told, .ref t_latest, .int t_latestSize, .ref t_made, .int t_many, .int t_askS, .int t_askR])), (t_registers, .inl (t_registers_c, 4, .inl t_registers_f)), (t_column, .inl (t_column_c, 3, .inl t_column_f)), (t_times, .inl (t_times_c, 13, .inl t_times_f)), (t_values, .inl (t_values_c, 39, .inl t_values_f)), (t_bytes, .inl (t_bytes_c, 280, .inl t_bytes_f)), (t_line, .inl (t_line_c, 80, .inl t_line_f)), (t_reply, .inl (t_reply_c, 80, .inl t_reply_f)), (t_latest, .inl (t_latest_c, 80, .inl t_latest_f)), (t_made, .inl (t_made_c, 300, .inl t_made_f))] → va_S A s.heap H locs → W p l e (bs_rm 1) s m [.ref t, .int i1].toArray below meth c H locs 0 0 Q (F0 m 22 ls []) := by
    intro k
    induction k with
    | zero => intro v1 v2 t_thrown t_time t_entries t_times_f t_values_f ls H locs hm hl hP hD hS; exact (bs_no hm).elim
    | succ k ih =>
      intro v1 v2 t_thrown t_time t_entries t_times_f t_values_f ls H locs hm hl hP hD hS
      have hm := (mq_Mo_run_L22 F k v1 v2 t_thrown t_time t_capacity t_period t_columns t_entries t_registers_f t_column_f t_times_f t_values_f).symm.trans hm
      refine lv_iload_n hx hb dc_Mo_run_22 rfl (lv_at hl 2 rfl) ?_
      refine lv_iload_n hx hb dc_Mo_run_23 rfl (lv_at hl 1 rfl) ?_
      refine lv_icmp_ge (tgt := 86) hx hb dc_Mo_run_24 (by decide) (fun h24 => ?_) (fun h24 => ?_)
      · have hm := bs_pos h24 hm
        clear ih
        cases hm
        subst hQ
        exact bs_retV hx hb hr hlk () trivial hP hD hS dc_Mo_run_86
      · have hm := bs_neg h24 hm
        refine lv_aload_n hx hb dc_Mo_run_27 rfl (lv_at hl 0 rfl) ?_
        refine va_get (ci := 6) (v := .int t_thrown) (C := cn_Mo) (T := cf_Mo) (N := 28) hx hb hB ki_Mo hown hK hP 0 rfl rfl 1 (by decide) (hB _ kw_fl_Mo_47) (fun _ h => h) rfl dc_Mo_run_28 ?_
        refine lv_if_ne (tgt := 86) hx hb dc_Mo_run_31 (by decide) (fun h31 => ?_) (fun h31 => ?_)
        · have hm := bs_neg h31 hm
          clear ih
          cases hm
          subst hQ
          exact bs_retV hx hb hr hlk () trivial hP hD hS dc_Mo_run_86
        · have hm := bs_pos h31 hm
          refine lv_aload_n hx hb dc_Mo_run_34 rfl (lv_at hl 0 rfl) ?_
          refine lv_aload_n hx hb dc_Mo_run_35 rfl (lv_at hl 0 rfl) ?_
          refine va_get (ci := 6) (v := .int t_time) (C := cn_Mo) (T := cf_Mo) (N := 28) hx hb hB ki_Mo hown hK hP 0 rfl rfl 2 (by decide) (hB _ kw_fl_Mo_53) (fun _ h => h) rfl dc_Mo_run_36 ?_
          refine bs_ldc (v := 2147483647) hx hb hown (hB _ kw_co_Mo_56) (by decide +kernel) dc_Mo_run_39 ?_
          refine lv_icmp_ne (tgt := 48) hx hb dc_Mo_run_41 (by decide) (fun h41 => ?_) (fun h41 => ?_)
          · have hm := bs_neg h41 hm
            refine lv_aload_n hx hb dc_Mo_run_48 rfl (lv_at hl 0 rfl) ?_
            refine va_get (ci := 6) (v := .int t_time) (C := cn_Mo) (T := cf_Mo) (N := 28) hx hb hB ki_Mo hown hK hP 0 rfl rfl 2 (by decide) (hB _ kw_fl_Mo_53) (fun _ h => h) rfl dc_Mo_run_49 ?_
            refine lv_iconst (v := 1) hx hb dc_Mo_run_52 (by decide +kernel) ?_
            refine lv_iadd hx hb dc_Mo_run_53 ?_
            refine va_put (ci := 6) (v := .int (t_time + 1)) (ty := .int) (C := cn_Mo) (T := cf_Mo) (N := 28) hx hb hB ki_Mo ct_Mo cp_Mo cd_Mo hown hK hP hD hS 0 rfl rfl 2 (by decide) (hB _ kw_fl_Mo_53) (fun _ h => h) rfl (by decide +kernel) rfl rfl (bs_ltr rfl) dc_Mo_run_54 (fun H locs hP hD hS => ?_)
            obtain ⟨hP, hD⟩ := bs_say [(t, .inr (6, [.int t_secret, .int t_thrown, .int (t_time + 1), .ref t_registers, .int t_capacity, .int t_period, .int t_columns, .ref t_column, .int t_entries, .ref t_times, .ref t_values, .int t_connected, .int t_expected, .int t_next, .int t_association, .ref t_bytes, .int t_size, .int t_sent, .ref t_line, .int t_count, .ref t_reply, .int t_told, .ref t_latest, .int t_latestSize, .ref t_made, .int t_many, .int t_askS, .int t_askR])), (t_registers, .inl (t_registers_c, 4, .inl t_registers_f)), (t_column, .inl (t_column_c, 3, .inl t_column_f)), (t_times, .inl (t_times_c, 13, .inl t_times_f)), (t_values, .inl (t_values_c, 39, .inl t_values_f)), (t_bytes, .inl (t_bytes_c, 280, .inl t_bytes_f)), (t_line, .inl (t_line_c, 80, .inl t_line_f)), (t_reply, .inl (t_reply_c, 80, .inl t_reply_f)), (t_latest, .inl (t_latest_c, 80, .inl t_latest_f)), (t_made, .inl (t_made_c, 300, .inl t_made_f))] hP hD
            refine lv_aload_n hx hb dc_Mo_run_57 rfl (lv_at hl 0 rfl) ?_
            refine va_get (ci := 6) (v := .int t_period) (C := cn_Mo) (T := cf_Mo) (N := 28) hx hb hB ki_Mo hown hK hP 0 rfl rfl 5 (by decide) (hB _ kw_fl_Mo_57) (fun _ h => h) rfl dc_Mo_run_58 ?_
            refine lv_if_le (tgt := 80) hx hb dc_Mo_run_61 (by decide) (fun h61 => ?_) (fun h61 => ?_)
            · have hm := bs_pos h61 hm
              refine lv_iinc (k := 2) (v := v2 + 1) hx hb dc_Mo_run_80 hl rfl (bs_inc1 _) (by decide) rfl (fun ls hl => ?_)
              have hl : lv_has ls 3 [(2, .int (v2 + 1)), (0, .ref t), (1, .int v1)] := hl
              refine lv_goto (tgt := 22) hx hb dc_Mo_run_83 (by decide) ?_
              exact ih v1 (v2 + 1) t_thrown (t_time + 1) t_entries t_times_f t_values_f ls _ _ hm (lv_sub hl [1, 2, 0] rfl) hP hD hS
            · have hm := bs_neg h61 hm
              refine lv_aload_n hx hb dc_Mo_run_64 rfl (lv_at hl 0 rfl) ?_
              refine va_get (ci := 6) (v := .int (t_time + 1)) (C := cn_Mo) (T := cf_Mo) (N := 28) hx hb hB ki_Mo hown hK hP 0 rfl rfl 2 (by decide) (hB _ kw_fl_Mo_53) (fun _ h => h) rfl dc_Mo_run_65 ?_
              refine lv_aload_n hx hb dc_Mo_run_68 rfl (lv_at hl 0 rfl) ?_
              refine va_get (ci := 6) (v := .int t_period) (C := cn_Mo) (T := cf_Mo) (N := 28) hx hb hB ki_Mo hown hK hP 0 rfl rfl 5 (by decide) (hB _ kw_fl_Mo_57) (fun _ h => h) rfl dc_Mo_run_69 ?_
              obtain ⟨hz72, hm⟩ := bs_nn hm
              refine bs_irem (v := bs_rem (t_time + 1) t_period) hx hb dc_Mo_run_72 hz72 rfl ?_
              refine lv_if_ne (tgt := 80) hx hb dc_Mo_run_73 (by decide) (fun h73 => ?_) (fun h73 => ?_)
              · have hm := bs_neg h73 hm
                refine lv_iinc (k := 2) (v := v2 + 1) hx hb dc_Mo_run_80 hl rfl (bs_inc1 _) (by decide) rfl (fun ls hl => ?_)
                have hl : lv_has ls 3 [(2, .int (v2 + 1)), (0, .ref t), (1, .int v1)] := hl
                refine lv_goto (tgt := 22) hx hb dc_Mo_run_83 (by decide) ?_
                exact ih v1 (v2 + 1) t_thrown (t_time + 1) t_entries t_times_f t_values_f ls _ _ hm (lv_sub hl [1, 2, 0] rfl) hP hD hS
              · have hm := bs_pos h73 hm
                refine lv_aload_n hx hb dc_Mo_run_76 rfl (lv_at hl 0 rfl) ?_
                obtain ⟨x77, hx77, hm⟩ := bs_bind hm
                refine bs_callVv 0 [] (fun _ => [(t, .inr (6, [.int t_secret, .int t_thrown, .int (t_time + 1), .ref t_registers, .int t_capacity, .int t_period, .int t_columns, .ref t_column, .int x77.1, .ref t_times, .ref t_values, .int t_connected, .int t_expected, .int t_next, .int t_association, .ref t_bytes, .int t_size, .int t_sent, .ref t_line, .int t_count, .ref t_reply, .int t_told, .ref t_latest, .int t_latestSize, .ref t_made, .int t_many, .int t_askS, .int t_askR])), (t_registers, .inl (t_registers_c, 4, .inl t_registers_f)), (t_column, .inl (t_column_c, 3, .inl t_column_f)), (t_times, .inl (t_times_c, 13, .inl x77.2.1)), (t_values, .inl (t_values_c, 39, .inl x77.2.2)), (t_bytes, .inl (t_bytes_c, 280, .inl t_bytes_f)), (t_line, .inl (t_line_c, 80, .inl t_line_f)), (t_reply, .inl (t_reply_c, 80, .inl t_reply_f)), (t_latest, .inl (t_latest_c, 80, .inl t_latest_f)), (t_made, .inl (t_made_c, 300, .inl t_made_f))]) [] hx hb hml hown hB hN hK hP hD hS hA (ct_Mo_capture l D F t t_registers t_column t_times t_values t_bytes t_line t_reply t_latest t_made t_registers_c t_column_c t_times_c t_values_c t_bytes_c t_line_c t_reply_c t_latest_c t_made_c t_secret t_thrown (t_time + 1) t_capacity t_period t_columns t_entries t_connected t_expected t_next t_association t_size t_sent t_count t_told t_latestSize t_many t_askS t_askR t_registers_f t_column_f t_times_f t_values_f t_bytes_f t_line_f t_reply_f t_latest_f t_made_f x77 hx77) kw_cd_Mo_capture kw_ml_Mo_60 kw_im_Mo_capture kw_se_Mo_capture kw_in_Mo kd_Mo_capture (by decide) ⟨_, _, _, rfl, rfl, rfl⟩ [0, 1, 2, 3, 4, 5, 6, 7, 8, 9] [] rfl rfl (by decide) [0, 1, 2, 3, 4, 5, 6, 7, 8] rfl [0, 1, 2, 3, 4, 5, 6, 7, 8, 9] (by decide) (fun _ => rfl) rfl hl.1 (bs_ler rfl) (by decide) dc_Mo_run_77 rfl (fun _ H locs hq77 hP hD hS => ?_)
                refine lv_iinc (k := 2) (v := v2 + 1) hx hb dc_Mo_run_80 hl rfl (bs_inc1 _) (by decide) rfl (fun ls hl => ?_)
                have hl : lv_has ls 3 [(2, .int (v2 + 1)), (0, .ref t), (1, .int v1)] := hl
                refine lv_goto (tgt := 22) hx hb dc_Mo_run_83 (by decide) ?_
                exact ih v1 (v2 + 1) t_thrown (t_time + 1) x77.1 x77.2.1 x77.2.2 ls _ _ hm (lv_sub hl [1, 2, 0] rfl) hP hD hS
          · have hm := bs_pos h41 hm
            refine lv_iconst (v := 0) hx hb dc_Mo_run_44 (by decide +kernel) ?_
            refine lv_goto (tgt := 54) hx hb dc_Mo_run_45 (by decide) ?_
            refine va_put (ci := 6) (v := .int 0) (ty := .int) (C := cn_Mo) (T := cf_Mo) (N := 28) hx hb hB ki_Mo ct_Mo cp_Mo cd_Mo hown hK hP hD hS 0 rfl rfl 2 (by decide) (hB _ kw_fl_Mo_53) (fun _ h => h) rfl (by decide +kernel) rfl rfl (bs_ltr rfl) dc_Mo_run_54 (fun H locs hP hD hS => ?_)
            obtain ⟨hP, hD⟩ := bs_say [(t, .inr (6, [.int t_secret, .int t_thrown, .int 0, .ref t_registers, .int t_capacity, .int t_period, .int t_columns, .ref t_column, .int t_entries, .ref t_times, .ref t_values, .int t_connected, .int t_expected, .int t_next, .int t_association, .ref t_bytes, .int t_size, .int t_sent, .ref t_line, .int t_count, .ref t_reply, .int t_told, .ref t_latest, .int t_latestSize, .ref t_made, .int t_many, .int t_askS, .int t_askR])), (t_registers, .inl (t_registers_c, 4, .inl t_registers_f)), (t_column, .inl (t_column_c, 3, .inl t_column_f)), (t_times, .inl (t_times_c, 13, .inl t_times_f)), (t_values, .inl (t_values_c, 39, .inl t_values_f)), (t_bytes, .inl (t_bytes_c, 280, .inl t_bytes_f)), (t_line, .inl (t_line_c, 80, .inl t_line_f)), (t_reply, .inl (t_reply_c, 80, .inl t_reply_f)), (t_latest, .inl (t_latest_c, 80, .inl t_latest_f)), (t_made, .inl (t_made_c, 300, .inl t_made_f))] hP hD
            refine lv_aload_n hx hb dc_Mo_run_57 rfl (lv_at hl 0 rfl) ?_
            refine va_get (ci := 6) (v := .int t_period) (C := cn_Mo) (T := cf_Mo) (N := 28) hx hb hB ki_Mo hown hK hP 0 rfl rfl 5 (by decide) (hB _ kw_fl_Mo_57) (fun _ h => h) rfl dc_Mo_run_58 ?_
            refine lv_if_le (tgt := 80) hx hb dc_Mo_run_61 (by decide) (fun h61 => ?_) (fun h61 => ?_)
            · have hm := bs_pos h61 hm
              refine lv_iinc (k := 2) (v := v2 + 1) hx hb dc_Mo_run_80 hl rfl (bs_inc1 _) (by decide) rfl (fun ls hl => ?_)
              have hl : lv_has ls 3 [(2, .int (v2 + 1)), (0, .ref t), (1, .int v1)] := hl
              refine lv_goto (tgt := 22) hx hb dc_Mo_run_83 (by decide) ?_
              exact ih v1 (v2 + 1) t_thrown 0 t_entries t_times_f t_values_f ls _ _ hm (lv_sub hl [1, 2, 0] rfl) hP hD hS
            · have hm := bs_neg h61 hm
              refine lv_aload_n hx hb dc_Mo_run_64 rfl (lv_at hl 0 rfl) ?_
              refine va_get (ci := 6) (v := .int 0) (C := cn_Mo) (T := cf_Mo) (N := 28) hx hb hB ki_Mo hown hK hP 0 rfl rfl 2 (by decide) (hB _ kw_fl_Mo_53) (fun _ h => h) rfl dc_Mo_run_65 ?_
              refine lv_aload_n hx hb dc_Mo_run_68 rfl (lv_at hl 0 rfl) ?_
              refine va_get (ci := 6) (v := .int t_period) (C := cn_Mo) (T := cf_Mo) (N := 28) hx hb hB ki_Mo hown hK hP 0 rfl rfl 5 (by decide) (hB _ kw_fl_Mo_57) (fun _ h => h) rfl dc_Mo_run_69 ?_
              obtain ⟨hz72, hm⟩ := bs_nn hm
              refine bs_irem (v := bs_rem 0 t_period) hx hb dc_Mo_run_72 hz72 rfl ?_
              refine lv_if_ne (tgt := 80) hx hb dc_Mo_run_73 (by decide) (fun h73 => ?_) (fun h73 => ?_)
              · have hm := bs_neg h73 hm
                refine lv_iinc (k := 2) (v := v2 + 1) hx hb dc_Mo_run_80 hl rfl (bs_inc1 _) (by decide) rfl (fun ls hl => ?_)
                have hl : lv_has ls 3 [(2, .int (v2 + 1)), (0, .ref t), (1, .int v1)] := hl
                refine lv_goto (tgt := 22) hx hb dc_Mo_run_83 (by decide) ?_
                exact ih v1 (v2 + 1) t_thrown 0 t_entries t_times_f t_values_f ls _ _ hm (lv_sub hl [1, 2, 0] rfl) hP hD hS
              · have hm := bs_pos h73 hm
                refine lv_aload_n hx hb dc_Mo_run_76 rfl (lv_at hl 0 rfl) ?_
                obtain ⟨x77, hx77, hm⟩ := bs_bind hm
                refine bs_callVv 0 [] (fun _ => [(t, .inr (6, [.int t_secret, .int t_thrown, .int 0, .ref t_registers, .int t_capacity, .int t_period, .int t_columns, .ref t_column, .int x77.1, .ref t_times, .ref t_values, .int t_connected, .int t_expected, .int t_next, .int t_association, .ref t_bytes, .int t_size, .int t_sent, .ref t_line, .int t_count, .ref t_reply, .int t_told, .ref t_latest, .int t_latestSize, .ref t_made, .int t_many, .int t_askS, .int t_askR])), (t_registers, .inl (t_registers_c, 4, .inl t_registers_f)), (t_column, .inl (t_column_c, 3, .inl t_column_f)), (t_times, .inl (t_times_c, 13, .inl x77.2.1)), (t_values, .inl (t_values_c, 39, .inl x77.2.2)), (t_bytes, .inl (t_bytes_c, 280, .inl t_bytes_f)), (t_line, .inl (t_line_c, 80, .inl t_line_f)), (t_reply, .inl (t_reply_c, 80, .inl t_reply_f)), (t_latest, .inl (t_latest_c, 80, .inl t_latest_f)), (t_made, .inl (t_made_c, 300, .inl t_made_f))]) [] hx hb hml hown hB hN hK hP hD hS hA (ct_Mo_capture l D F t t_registers t_column t_times t_values t_bytes t_line t_reply t_latest t_made t_registers_c t_column_c t_times_c t_values_c t_bytes_c t_line_c t_reply_c t_latest_c t_made_c t_secret t_thrown 0 t_capacity t_period t_columns t_entries t_connected t_expected t_next t_association t_size t_sent t_count t_told t_latestSize t_many t_askS t_askR t_registers_f t_column_f t_times_f t_values_f t_bytes_f t_line_f t_reply_f t_latest_f t_made_f x77 hx77) kw_cd_Mo_capture kw_ml_Mo_60 kw_im_Mo_capture kw_se_Mo_capture kw_in_Mo kd_Mo_capture (by decide) ⟨_, _, _, rfl, rfl, rfl⟩ [0, 1, 2, 3, 4, 5, 6, 7, 8, 9] [] rfl rfl (by decide) [0, 1, 2, 3, 4, 5, 6, 7, 8] rfl [0, 1, 2, 3, 4, 5, 6, 7, 8, 9] (by decide) (fun _ => rfl) rfl hl.1 (bs_ler rfl) (by decide) dc_Mo_run_77 rfl (fun _ H locs hq77 hP hD hS => ?_)
                refine lv_iinc (k := 2) (v := v2 + 1) hx hb dc_Mo_run_80 hl rfl (bs_inc1 _) (by decide) rfl (fun ls hl => ?_)
                have hl : lv_has ls 3 [(2, .int (v2 + 1)), (0, .ref t), (1, .int v1)] := hl
                refine lv_goto (tgt := 22) hx hb dc_Mo_run_83 (by decide) ?_
                exact ih v1 (v2 + 1) t_thrown 0 x77.1 x77.2.1 x77.2.2 ls _ _ hm (lv_sub hl [1, 2, 0] rfl) hP hD hS
  have hl : lv_has ls 3 [(0, .ref t), (1, .int i1)] := hl
  have hm := (mq_Mo_run F i1 t_thrown t_time t_capacity t_period t_columns t_entries t_registers_f t_column_f t_times_f t_values_f).symm.trans hm
  refine lv_aload_n hx hb dc_Mo_run_0 rfl (lv_at hl 0 rfl) ?_
  refine lv_iload_n hx hb dc_Mo_run_1 rfl (lv_at hl 1 rfl) ?_
  refine lv_if_lt (tgt := 12) hx hb dc_Mo_run_2 (by decide) (fun h2 => ?_) (fun h2 => ?_)
  · have hm := bs_pos h2 hm
    refine lv_iconst (v := 1) hx hb dc_Mo_run_12 (by decide +kernel) ?_
    refine lv_goto (tgt := 17) hx hb dc_Mo_run_13 (by decide) ?_
    refine va_put (ci := 6) (v := .int 1) (ty := .int) (C := cn_Mo) (T := cf_Mo) (N := 28) hx hb hB ki_Mo ct_Mo cp_Mo cd_Mo hown hK hP hD hS 0 rfl rfl 1 (by decide) (hB _ kw_fl_Mo_47) (fun _ h => h) rfl (by decide +kernel) rfl rfl (bs_ltr rfl) dc_Mo_run_17 (fun H locs hP hD hS => ?_)
    obtain ⟨hP, hD⟩ := bs_say [(t, .inr (6, [.int t_secret, .int 1, .int t_time, .ref t_registers, .int t_capacity, .int t_period, .int t_columns, .ref t_column, .int t_entries, .ref t_times, .ref t_values, .int t_connected, .int t_expected, .int t_next, .int t_association, .ref t_bytes, .int t_size, .int t_sent, .ref t_line, .int t_count, .ref t_reply, .int t_told, .ref t_latest, .int t_latestSize, .ref t_made, .int t_many, .int t_askS, .int t_askR])), (t_registers, .inl (t_registers_c, 4, .inl t_registers_f)), (t_column, .inl (t_column_c, 3, .inl t_column_f)), (t_times, .inl (t_times_c, 13, .inl t_times_f)), (t_values, .inl (t_values_c, 39, .inl t_values_f)), (t_bytes, .inl (t_bytes_c, 280, .inl t_bytes_f)), (t_line, .inl (t_line_c, 80, .inl t_line_f)), (t_reply, .inl (t_reply_c, 80, .inl t_reply_f)), (t_latest, .inl (t_latest_c, 80, .inl t_latest_f)), (t_made, .inl (t_made_c, 300, .inl t_made_f))] hP hD
    refine lv_iconst (v := 0) hx hb dc_Mo_run_20 (by decide +kernel) ?_
    refine lv_istore_n hx hb dc_Mo_run_21 rfl hl (by decide) rfl (fun ls hl => ?_)
    have hl : lv_has ls 3 [(2, .int 0), (0, .ref t), (1, .int i1)] := hl
    exact hL22 F i1 0 1 t_time t_entries t_times_f t_values_f ls _ _ hm (lv_sub hl [1, 2, 0] rfl) hP hD hS
  · have hm := bs_neg h2 hm
    refine lv_iload_n hx hb dc_Mo_run_5 rfl (lv_at hl 1 rfl) ?_
    refine lv_sipush (v := 1000) hx hb dc_Mo_run_6 (by decide +kernel) ?_
    refine lv_icmp_le (tgt := 16) hx hb dc_Mo_run_9 (by decide) (fun h9 => ?_) (fun h9 => ?_)
    · have hm := bs_pos h9 hm
      refine lv_iconst (v := 0) hx hb dc_Mo_run_16 (by decide +kernel) ?_
      refine va_put (ci := 6) (v := .int 0) (ty := .int) (C := cn_Mo) (T := cf_Mo) (N := 28) hx hb hB ki_Mo ct_Mo cp_Mo cd_Mo hown hK hP hD hS 0 rfl rfl 1 (by decide) (hB _ kw_fl_Mo_47) (fun _ h => h) rfl (by decide +kernel) rfl rfl (bs_ltr rfl) dc_Mo_run_17 (fun H locs hP hD hS => ?_)
      obtain ⟨hP, hD⟩ := bs_say [(t, .inr (6, [.int t_secret, .int 0, .int t_time, .ref t_registers, .int t_capacity, .int t_period, .int t_columns, .ref t_column, .int t_entries, .ref t_times, .ref t_values, .int t_connected, .int t_expected, .int t_next, .int t_association, .ref t_bytes, .int t_size, .int t_sent, .ref t_line, .int t_count, .ref t_reply, .int t_told, .ref t_latest, .int t_latestSize, .ref t_made, .int t_many, .int t_askS, .int t_askR])), (t_registers, .inl (t_registers_c, 4, .inl t_registers_f)), (t_column, .inl (t_column_c, 3, .inl t_column_f)), (t_times, .inl (t_times_c, 13, .inl t_times_f)), (t_values, .inl (t_values_c, 39, .inl t_values_f)), (t_bytes, .inl (t_bytes_c, 280, .inl t_bytes_f)), (t_line, .inl (t_line_c, 80, .inl t_line_f)), (t_reply, .inl (t_reply_c, 80, .inl t_reply_f)), (t_latest, .inl (t_latest_c, 80, .inl t_latest_f)), (t_made, .inl (t_made_c, 300, .inl t_made_f))] hP hD
      refine lv_iconst (v := 0) hx hb dc_Mo_run_20 (by decide +kernel) ?_
      refine lv_istore_n hx hb dc_Mo_run_21 rfl hl (by decide) rfl (fun ls hl => ?_)
      have hl : lv_has ls 3 [(2, .int 0), (0, .ref t), (1, .int i1)] := hl
      exact hL22 F i1 0 0 t_time t_entries t_times_f t_values_f ls _ _ hm (lv_sub hl [1, 2, 0] rfl) hP hD hS
    · have hm := bs_neg h9 hm
      refine lv_iconst (v := 1) hx hb dc_Mo_run_12 (by decide +kernel) ?_
      refine lv_goto (tgt := 17) hx hb dc_Mo_run_13 (by decide) ?_
      refine va_put (ci := 6) (v := .int 1) (ty := .int) (C := cn_Mo) (T := cf_Mo) (N := 28) hx hb hB ki_Mo ct_Mo cp_Mo cd_Mo hown hK hP hD hS 0 rfl rfl 1 (by decide) (hB _ kw_fl_Mo_47) (fun _ h => h) rfl (by decide +kernel) rfl rfl (bs_ltr rfl) dc_Mo_run_17 (fun H locs hP hD hS => ?_)
      obtain ⟨hP, hD⟩ := bs_say [(t, .inr (6, [.int t_secret, .int 1, .int t_time, .ref t_registers, .int t_capacity, .int t_period, .int t_columns, .ref t_column, .int t_entries, .ref t_times, .ref t_values, .int t_connected, .int t_expected, .int t_next, .int t_association, .ref t_bytes, .int t_size, .int t_sent, .ref t_line, .int t_count, .ref t_reply, .int t_told, .ref t_latest, .int t_latestSize, .ref t_made, .int t_many, .int t_askS, .int t_askR])), (t_registers, .inl (t_registers_c, 4, .inl t_registers_f)), (t_column, .inl (t_column_c, 3, .inl t_column_f)), (t_times, .inl (t_times_c, 13, .inl t_times_f)), (t_values, .inl (t_values_c, 39, .inl t_values_f)), (t_bytes, .inl (t_bytes_c, 280, .inl t_bytes_f)), (t_line, .inl (t_line_c, 80, .inl t_line_f)), (t_reply, .inl (t_reply_c, 80, .inl t_reply_f)), (t_latest, .inl (t_latest_c, 80, .inl t_latest_f)), (t_made, .inl (t_made_c, 300, .inl t_made_f))] hP hD
      refine lv_iconst (v := 0) hx hb dc_Mo_run_20 (by decide +kernel) ?_
      refine lv_istore_n hx hb dc_Mo_run_21 rfl hl (by decide) rfl (fun ls hl => ?_)
      have hl : lv_has ls 3 [(2, .int 0), (0, .ref t), (1, .int i1)] := hl
      exact hL22 F i1 0 1 t_time t_entries t_times_f t_values_f ls _ _ hm (lv_sub hl [1, 2, 0] rfl) hP hD hS
set_option maxHeartbeats 2000000 in
set_option maxRecDepth 100000 in
theorem ct_Mo_isRegister (l : Launch) (D : va_G) (F : Nat) (i0 : Int32) (r : Int32) (hm : mm_Mo_isRegister F i0 = some r) :
    bs_CI l my_Mo_isRegister mb_Mo_isRegister 1 .boolean (bs_rm 0) D [.int i0] [] [] (S := Unit) (fun v (_ : Unit) => v = r) (fun _ => []) := by
  refine bs_CI.mk (by decide +kernel) (bs_ler rfl) ?_
  intro p e s m below meth c ls A hx hb hr hml hlk hown hB hN hP hK hD hS hA hl
  refine bs_genQ (fun Q hQ => ?_)
  have hl : lv_has ls 1 [(0, .int i0)] := hl
  have hm := (mq_Mo_isRegister F i0).symm.trans hm
  refine lv_iload_n hx hb dc_Mo_isRegister_0 rfl (lv_at hl 0 rfl) ?_
  refine lv_iconst (v := 1) hx hb dc_Mo_isRegister_1 (by decide +kernel) ?_
  refine lv_icmp_lt (tgt := 14) hx hb dc_Mo_isRegister_2 (by decide) (fun h2 => ?_) (fun h2 => ?_)
  · have hm := bs_pos h2 hm
    refine lv_iconst (v := 0) hx hb dc_Mo_isRegister_14 (by decide +kernel) ?_
    cases hm
    subst hQ
    exact bs_retZ hx hb hr hlk (by decide +kernel) () rfl hP hD hS dc_Mo_isRegister_15
  · have hm := bs_neg h2 hm
    refine lv_iload_n hx hb dc_Mo_isRegister_5 rfl (lv_at hl 0 rfl) ?_
    refine lv_iconst (v := 3) hx hb dc_Mo_isRegister_6 (by decide +kernel) ?_
    refine lv_icmp_gt (tgt := 14) hx hb dc_Mo_isRegister_7 (by decide) (fun h7 => ?_) (fun h7 => ?_)
    · have hm := bs_pos h7 hm
      refine lv_iconst (v := 0) hx hb dc_Mo_isRegister_14 (by decide +kernel) ?_
      cases hm
      subst hQ
      exact bs_retZ hx hb hr hlk (by decide +kernel) () rfl hP hD hS dc_Mo_isRegister_15
    · have hm := bs_neg h7 hm
      refine lv_iconst (v := 1) hx hb dc_Mo_isRegister_10 (by decide +kernel) ?_
      refine lv_goto (tgt := 15) hx hb dc_Mo_isRegister_11 (by decide) ?_
      cases hm
      subst hQ
      exact bs_retZ hx hb hr hlk (by decide +kernel) () rfl hP hD hS dc_Mo_isRegister_15
set_option maxHeartbeats 2000000 in
set_option maxRecDepth 100000 in
theorem ct_Mo_count (l : Launch) (D : va_G) (F : Nat) (t : Nat) (t_registers : Nat) (t_column : Nat) (t_times : Nat) (t_values : Nat) (t_bytes : Nat) (t_line : Nat) (t_reply : Nat) (t_latest : Nat) (t_made : Nat) (t_registers_c : ClassId) (t_column_c : ClassId) (t_times_c : ClassId) (t_values_c : ClassId) (t_bytes_c : ClassId) (t_line_c : ClassId) (t_reply_c : ClassId) (t_latest_c : ClassId) (t_made_c : ClassId) (t_secret : Int32) (t_thrown : Int32) (t_time : Int32) (t_capacity : Int32) (t_period : Int32) (t_columns : Int32) (t_entries : Int32) (t_connected : Int32) (t_expected : Int32) (t_next : Int32) (t_association : Int32) (t_size : Int32) (t_sent : Int32) (t_count : Int32) (t_told : Int32) (t_latestSize : Int32) (t_many : Int32) (t_askS : Int32) (t_askR : Int32) (t_registers_f : Nat → Int32) (t_column_f : Nat → Int32) (t_times_f : Nat → Int32) (t_values_f : Nat → Int32) (t_bytes_f : Nat → Int32) (t_line_f : Nat → Int32) (t_reply_f : Nat → Int32) (t_latest_f : Nat → Int32) (t_made_f : Nat → Int32) (i1 : Int32) (i2 : Int32) (r : Int32 × Int32 × (Nat → Int32)) (hm : mm_Mo_count F i1 i2 t_thrown t_registers_f = some r) :
    bs_CI l my_Mo_count mb_Mo_count 3 .int (bs_rm 1) D [.ref t, .int i1, .int i2] [(t_registers_c, .int), (t_column_c, .int), (t_times_c, .int), (t_values_c, .int), (t_bytes_c, .int), (t_line_c, .int), (t_reply_c, .int), (t_latest_c, .int), (t_made_c, .int)] [(t, .inr (6, [.int t_secret, .int t_thrown, .int t_time, .ref t_registers, .int t_capacity, .int t_period, .int t_columns, .ref t_column, .int t_entries, .ref t_times, .ref t_values, .int t_connected, .int t_expected, .int t_next, .int t_association, .ref t_bytes, .int t_size, .int t_sent, .ref t_line, .int t_count, .ref t_reply, .int t_told, .ref t_latest, .int t_latestSize, .ref t_made, .int t_many, .int t_askS, .int t_askR])), (t_registers, .inl (t_registers_c, 4, .inl t_registers_f)), (t_column, .inl (t_column_c, 3, .inl t_column_f)), (t_times, .inl (t_times_c, 13, .inl t_times_f)), (t_values, .inl (t_values_c, 39, .inl t_values_f)), (t_bytes, .inl (t_bytes_c, 280, .inl t_bytes_f)), (t_line, .inl (t_line_c, 80, .inl t_line_f)), (t_reply, .inl (t_reply_c, 80, .inl t_reply_f)), (t_latest, .inl (t_latest_c, 80, .inl t_latest_f)), (t_made, .inl (t_made_c, 300, .inl t_made_f))] (S := Unit) (fun v (_ : Unit) => v = r.1) (fun _ => [(t, .inr (6, [.int t_secret, .int r.2.1, .int t_time, .ref t_registers, .int t_capacity, .int t_period, .int t_columns, .ref t_column, .int t_entries, .ref t_times, .ref t_values, .int t_connected, .int t_expected, .int t_next, .int t_association, .ref t_bytes, .int t_size, .int t_sent, .ref t_line, .int t_count, .ref t_reply, .int t_told, .ref t_latest, .int t_latestSize, .ref t_made, .int t_many, .int t_askS, .int t_askR])), (t_registers, .inl (t_registers_c, 4, .inl r.2.2)), (t_column, .inl (t_column_c, 3, .inl t_column_f)), (t_times, .inl (t_times_c, 13, .inl t_times_f)), (t_values, .inl (t_values_c, 39, .inl t_values_f)), (t_bytes, .inl (t_bytes_c, 280, .inl t_bytes_f)), (t_line, .inl (t_line_c, 80, .inl t_line_f)), (t_reply, .inl (t_reply_c, 80, .inl t_reply_f)), (t_latest, .inl (t_latest_c, 80, .inl t_latest_f)), (t_made, .inl (t_made_c, 300, .inl t_made_f))]) := by
  refine bs_CI.mk (by decide +kernel) (bs_ler rfl) ?_
  intro p e s m below meth c ls A hx hb hr hml hlk hown hB hN hP hK hD hS hA hl
  refine bs_genQ (fun Q hQ => ?_)
  have hJ13 : ∀ (v1 : Int32) (v2 : Int32) (s0 : Int32) (t_thrown : Int32) (t_registers_f : Nat → Int32) (ls : Array Slot) (H : Heap) (locs : List Loc), mm_Mo_count_J13 F v1 v2 s0 t_thrown t_registers_f = some r → lv_has ls 3 [(0, .ref t), (1, .int v1), (2, .int v2)] → va_P D bs_cl [(t, .inr (6, [.int t_secret, .int t_thrown, .int t_time, .ref t_registers, .int t_capacity, .int t_period, .int t_columns, .ref t_column, .int t_entries, .ref t_times, .ref t_values, .int t_connected, .int t_expected, .int t_next, .int t_association, .ref t_bytes, .int t_size, .int t_sent, .ref t_line, .int t_count, .ref t_reply, .int t_told, .ref t_latest, .int t_latestSize, .ref t_made, .int t_many, .int t_askS, .int t_askR])), (t_registers, .inl (t_registers_c, 4, .inl t_registers_f)), (t_column, .inl (t_column_c, 3, .inl t_column_f)), (t_times, .inl (t_times_c, 13, .inl t_times_f)), (t_values, .inl (t_values_c, 39, .inl t_values_f)), (t_bytes, .inl (t_bytes_c, 280, .inl t_bytes_f)), (t_line, .inl (t_line_c, 80, .inl t_line_f)), (t_reply, .inl (t_reply_c, 80, .inl t_reply_f)), (t_latest, .inl (t_latest_c, 80, .inl t_latest_f)), (t_made, .inl (t_made_c, 300, .inl t_made_f))] H → va_D A [(t, .inr (6, [.int t_secret, .int t_thrown, .int t_time, .ref t_registers, .int t_capacity, .int t_period, .int t_columns, .ref t_column, .int t_entries, .ref t_times, .ref t_values, .int t_connected, .int t_expected, .int t_next, .int t_association, .ref t_bytes, .int t_size, .int t_sent, .ref t_line, .int t_count, .ref t_reply, .int t_told, .ref t_latest, .int t_latestSize, .ref t_made, .int t_many, .int t_askS, .int t_askR])), (t_registers, .inl (t_registers_c, 4, .inl t_registers_f)), (t_column, .inl (t_column_c, 3, .inl t_column_f)), (t_times, .inl (t_times_c, 13, .inl t_times_f)), (t_values, .inl (t_values_c, 39, .inl t_values_f)), (t_bytes, .inl (t_bytes_c, 280, .inl t_bytes_f)), (t_line, .inl (t_line_c, 80, .inl t_line_f)), (t_reply, .inl (t_reply_c, 80, .inl t_reply_f)), (t_latest, .inl (t_latest_c, 80, .inl t_latest_f)), (t_made, .inl (t_made_c, 300, .inl t_made_f))] → va_S A s.heap H locs → W p l e (bs_rm 1) s m [.ref t, .int i1, .int i2].toArray below meth c H locs 0 0 Q (F0 m 13 ls [.int s0, .ref t]) := by
    intro v1 v2 s0 t_thrown t_registers_f ls H locs hm hl hP hD hS
    have hm := (mq_Mo_count_J13 F v1 v2 s0 t_thrown t_registers_f).symm.trans hm
    refine va_put (ci := 6) (v := .int s0) (ty := .int) (C := cn_Mo) (T := cf_Mo) (N := 28) hx hb hB ki_Mo ct_Mo cp_Mo cd_Mo hown hK hP hD hS 0 rfl rfl 1 (by decide) (hB _ kw_fl_Mo_47) (fun _ h => h) rfl (by decide +kernel) rfl rfl (bs_ltr rfl) dc_Mo_count_13 (fun H locs hP hD hS => ?_)
    obtain ⟨hP, hD⟩ := bs_say [(t, .inr (6, [.int t_secret, .int s0, .int t_time, .ref t_registers, .int t_capacity, .int t_period, .int t_columns, .ref t_column, .int t_entries, .ref t_times, .ref t_values, .int t_connected, .int t_expected, .int t_next, .int t_association, .ref t_bytes, .int t_size, .int t_sent, .ref t_line, .int t_count, .ref t_reply, .int t_told, .ref t_latest, .int t_latestSize, .ref t_made, .int t_many, .int t_askS, .int t_askR])), (t_registers, .inl (t_registers_c, 4, .inl t_registers_f)), (t_column, .inl (t_column_c, 3, .inl t_column_f)), (t_times, .inl (t_times_c, 13, .inl t_times_f)), (t_values, .inl (t_values_c, 39, .inl t_values_f)), (t_bytes, .inl (t_bytes_c, 280, .inl t_bytes_f)), (t_line, .inl (t_line_c, 80, .inl t_line_f)), (t_reply, .inl (t_reply_c, 80, .inl t_reply_f)), (t_latest, .inl (t_latest_c, 80, .inl t_latest_f)), (t_made, .inl (t_made_c, 300, .inl t_made_f))] hP hD
    refine lv_aload_n hx hb dc_Mo_count_16 rfl (lv_at hl 0 rfl) ?_
    refine va_get (ci := 6) (v := .int s0) (C := cn_Mo) (T := cf_Mo) (N := 28) hx hb hB ki_Mo hown hK hP 0 rfl rfl 1 (by decide) (hB _ kw_fl_Mo_47) (fun _ h => h) rfl dc_Mo_count_17 ?_
    refine lv_if_le (tgt := 25) hx hb dc_Mo_count_20 (by decide) (fun h20 => ?_) (fun h20 => ?_)
    · have hm := bs_pos h20 hm
      refine lv_aload_n hx hb dc_Mo_count_25 rfl (lv_at hl 0 rfl) ?_
      refine va_get (ci := 6) (v := .ref t_registers) (C := cn_Mo) (T := cf_Mo) (N := 28) hx hb hB ki_Mo hown hK hP 0 rfl rfl 3 (by decide) (hB _ kw_fl_Mo_7) (fun _ h => h) rfl dc_Mo_count_26 ?_
      refine lv_iload_n hx hb dc_Mo_count_29 rfl (lv_at hl 1 rfl) ?_
      refine lv_dup2_11 hx hb dc_Mo_count_30 rfl rfl ?_
      obtain ⟨hz31, hm⟩ := bs_nn hm
      refine va_iald hx hb hK hP 1 0 rfl rfl hz31 dc_Mo_count_31 ?_
      refine lv_iload_n hx hb dc_Mo_count_32 rfl (lv_at hl 2 rfl) ?_
      refine lv_iadd hx hb dc_Mo_count_33 ?_
      obtain ⟨hz34, hm⟩ := bs_nn hm
      refine va_iast hx hb hK hP hD hS 1 0 rfl rfl hz34 dc_Mo_count_34 (fun H locs hP hD hS => ?_)
      obtain ⟨hP, hD⟩ := bs_say [(t, .inr (6, [.int t_secret, .int s0, .int t_time, .ref t_registers, .int t_capacity, .int t_period, .int t_columns, .ref t_column, .int t_entries, .ref t_times, .ref t_values, .int t_connected, .int t_expected, .int t_next, .int t_association, .ref t_bytes, .int t_size, .int t_sent, .ref t_line, .int t_count, .ref t_reply, .int t_told, .ref t_latest, .int t_latestSize, .ref t_made, .int t_many, .int t_askS, .int t_askR])), (t_registers, .inl (t_registers_c, 4, .inl (upd t_registers_f v1.toNatClampNeg ((t_registers_f v1.toNatClampNeg) + v2)))), (t_column, .inl (t_column_c, 3, .inl t_column_f)), (t_times, .inl (t_times_c, 13, .inl t_times_f)), (t_values, .inl (t_values_c, 39, .inl t_values_f)), (t_bytes, .inl (t_bytes_c, 280, .inl t_bytes_f)), (t_line, .inl (t_line_c, 80, .inl t_line_f)), (t_reply, .inl (t_reply_c, 80, .inl t_reply_f)), (t_latest, .inl (t_latest_c, 80, .inl t_latest_f)), (t_made, .inl (t_made_c, 300, .inl t_made_f))] hP hD
      refine lv_aload_n hx hb dc_Mo_count_35 rfl (lv_at hl 0 rfl) ?_
      refine va_get (ci := 6) (v := .ref t_registers) (C := cn_Mo) (T := cf_Mo) (N := 28) hx hb hB ki_Mo hown hK hP 0 rfl rfl 3 (by decide) (hB _ kw_fl_Mo_7) (fun _ h => h) rfl dc_Mo_count_36 ?_
      refine lv_iload_n hx hb dc_Mo_count_39 rfl (lv_at hl 1 rfl) ?_
      obtain ⟨hz40, hm⟩ := bs_nn hm
      refine va_iald hx hb hK hP 1 0 rfl rfl hz40 dc_Mo_count_40 ?_
      cases hm
      subst hQ
      exact bs_retI hx hb hr hlk () rfl hP hD hS dc_Mo_count_41
    · have hm := bs_neg h20 hm
      refine lv_iconst (v := 0) hx hb dc_Mo_count_23 (by decide +kernel) ?_
      cases hm
      subst hQ
      exact bs_retI hx hb hr hlk () rfl hP hD hS dc_Mo_count_24
  have hl : lv_has ls 3 [(0, .ref t), (1, .int i1), (2, .int i2)] := hl
  have hm := (mq_Mo_count F i1 i2 t_thrown t_registers_f).symm.trans hm
  refine lv_aload_n hx hb dc_Mo_count_0 rfl (lv_at hl 0 rfl) ?_
  refine lv_iload_n hx hb dc_Mo_count_1 rfl (lv_at hl 1 rfl) ?_
  obtain ⟨x2, hx2, hm⟩ := bs_bind hm
  refine bs_callSi 1 [(t, .inr (6, [.int t_secret, .int t_thrown, .int t_time, .ref t_registers, .int t_capacity, .int t_period, .int t_columns, .ref t_column, .int t_entries, .ref t_times, .ref t_values, .int t_connected, .int t_expected, .int t_next, .int t_association, .ref t_bytes, .int t_size, .int t_sent, .ref t_line, .int t_count, .ref t_reply, .int t_told, .ref t_latest, .int t_latestSize, .ref t_made, .int t_many, .int t_askS, .int t_askR])), (t_registers, .inl (t_registers_c, 4, .inl t_registers_f)), (t_column, .inl (t_column_c, 3, .inl t_column_f)), (t_times, .inl (t_times_c, 13, .inl t_times_f)), (t_values, .inl (t_values_c, 39, .inl t_values_f)), (t_bytes, .inl (t_bytes_c, 280, .inl t_bytes_f)), (t_line, .inl (t_line_c, 80, .inl t_line_f)), (t_reply, .inl (t_reply_c, 80, .inl t_reply_f)), (t_latest, .inl (t_latest_c, 80, .inl t_latest_f)), (t_made, .inl (t_made_c, 300, .inl t_made_f))] (fun _ => [(t, .inr (6, [.int t_secret, .int t_thrown, .int t_time, .ref t_registers, .int t_capacity, .int t_period, .int t_columns, .ref t_column, .int t_entries, .ref t_times, .ref t_values, .int t_connected, .int t_expected, .int t_next, .int t_association, .ref t_bytes, .int t_size, .int t_sent, .ref t_line, .int t_count, .ref t_reply, .int t_told, .ref t_latest, .int t_latestSize, .ref t_made, .int t_many, .int t_askS, .int t_askR])), (t_registers, .inl (t_registers_c, 4, .inl t_registers_f)), (t_column, .inl (t_column_c, 3, .inl t_column_f)), (t_times, .inl (t_times_c, 13, .inl t_times_f)), (t_values, .inl (t_values_c, 39, .inl t_values_f)), (t_bytes, .inl (t_bytes_c, 280, .inl t_bytes_f)), (t_line, .inl (t_line_c, 80, .inl t_line_f)), (t_reply, .inl (t_reply_c, 80, .inl t_reply_f)), (t_latest, .inl (t_latest_c, 80, .inl t_latest_f)), (t_made, .inl (t_made_c, 300, .inl t_made_f))]) [.ref t] hx hb hml hown hB hN hK hP hD hS hA (ct_Mo_isRegister l D F i1 x2 hx2) kw_cd_Mo_isRegister kw_ml_Mo_63 kw_st_Mo_isRegister kw_in_Mo kd_Mo_isRegister (by decide) [] [0, 1, 2, 3, 4, 5, 6, 7, 8, 9] rfl rfl (by decide) [] rfl [0, 1, 2, 3, 4, 5, 6, 7, 8, 9] (by decide) (fun _ => rfl) rfl hl.1 (bs_ler rfl) (by decide) dc_Mo_count_2 rfl (fun v2q _ H locs hq2 hP hD hS => ?_)
  have hq2 := hq2.symm
  subst hq2
  refine lv_if_eq (tgt := 12) hx hb dc_Mo_count_5 (by decide) (fun h5 => ?_) (fun h5 => ?_)
  · have hm := bs_pos h5 hm
    refine lv_iconst (v := 1) hx hb dc_Mo_count_12 (by decide +kernel) ?_
    exact hJ13 i1 i2 1 t_thrown t_registers_f ls _ _ hm hl hP hD hS
  · have hm := bs_neg h5 hm
    refine lv_iconst (v := 0) hx hb dc_Mo_count_8 (by decide +kernel) ?_
    refine lv_goto (tgt := 13) hx hb dc_Mo_count_9 (by decide) ?_
    exact hJ13 i1 i2 0 t_thrown t_registers_f ls _ _ hm hl hP hD hS
set_option maxHeartbeats 2000000 in
set_option maxRecDepth 100000 in
theorem ct_Mo_time (l : Launch) (D : va_G) (F : Nat) (t : Nat) (t_registers : Nat) (t_column : Nat) (t_times : Nat) (t_values : Nat) (t_bytes : Nat) (t_line : Nat) (t_reply : Nat) (t_latest : Nat) (t_made : Nat) (t_registers_c : ClassId) (t_column_c : ClassId) (t_times_c : ClassId) (t_values_c : ClassId) (t_bytes_c : ClassId) (t_line_c : ClassId) (t_reply_c : ClassId) (t_latest_c : ClassId) (t_made_c : ClassId) (t_secret : Int32) (t_thrown : Int32) (t_time : Int32) (t_capacity : Int32) (t_period : Int32) (t_columns : Int32) (t_entries : Int32) (t_connected : Int32) (t_expected : Int32) (t_next : Int32) (t_association : Int32) (t_size : Int32) (t_sent : Int32) (t_count : Int32) (t_told : Int32) (t_latestSize : Int32) (t_many : Int32) (t_askS : Int32) (t_askR : Int32) (t_registers_f : Nat → Int32) (t_column_f : Nat → Int32) (t_times_f : Nat → Int32) (t_values_f : Nat → Int32) (t_bytes_f : Nat → Int32) (t_line_f : Nat → Int32) (t_reply_f : Nat → Int32) (t_latest_f : Nat → Int32) (t_made_f : Nat → Int32) (r : Int32 × Int32) (hm : mm_Mo_time F t_thrown t_time = some r) :
    bs_CI l my_Mo_time mb_Mo_time 1 .int (bs_rm 0) D [.ref t] [(t_registers_c, .int), (t_column_c, .int), (t_times_c, .int), (t_values_c, .int), (t_bytes_c, .int), (t_line_c, .int), (t_reply_c, .int), (t_latest_c, .int), (t_made_c, .int)] [(t, .inr (6, [.int t_secret, .int t_thrown, .int t_time, .ref t_registers, .int t_capacity, .int t_period, .int t_columns, .ref t_column, .int t_entries, .ref t_times, .ref t_values, .int t_connected, .int t_expected, .int t_next, .int t_association, .ref t_bytes, .int t_size, .int t_sent, .ref t_line, .int t_count, .ref t_reply, .int t_told, .ref t_latest, .int t_latestSize, .ref t_made, .int t_many, .int t_askS, .int t_askR])), (t_registers, .inl (t_registers_c, 4, .inl t_registers_f)), (t_column, .inl (t_column_c, 3, .inl t_column_f)), (t_times, .inl (t_times_c, 13, .inl t_times_f)), (t_values, .inl (t_values_c, 39, .inl t_values_f)), (t_bytes, .inl (t_bytes_c, 280, .inl t_bytes_f)), (t_line, .inl (t_line_c, 80, .inl t_line_f)), (t_reply, .inl (t_reply_c, 80, .inl t_reply_f)), (t_latest, .inl (t_latest_c, 80, .inl t_latest_f)), (t_made, .inl (t_made_c, 300, .inl t_made_f))] (S := Unit) (fun v (_ : Unit) => v = r.1) (fun _ => [(t, .inr (6, [.int t_secret, .int r.2, .int t_time, .ref t_registers, .int t_capacity, .int t_period, .int t_columns, .ref t_column, .int t_entries, .ref t_times, .ref t_values, .int t_connected, .int t_expected, .int t_next, .int t_association, .ref t_bytes, .int t_size, .int t_sent, .ref t_line, .int t_count, .ref t_reply, .int t_told, .ref t_latest, .int t_latestSize, .ref t_made, .int t_many, .int t_askS, .int t_askR])), (t_registers, .inl (t_registers_c, 4, .inl t_registers_f)), (t_column, .inl (t_column_c, 3, .inl t_column_f)), (t_times, .inl (t_times_c, 13, .inl t_times_f)), (t_values, .inl (t_values_c, 39, .inl t_values_f)), (t_bytes, .inl (t_bytes_c, 280, .inl t_bytes_f)), (t_line, .inl (t_line_c, 80, .inl t_line_f)), (t_reply, .inl (t_reply_c, 80, .inl t_reply_f)), (t_latest, .inl (t_latest_c, 80, .inl t_latest_f)), (t_made, .inl (t_made_c, 300, .inl t_made_f))]) := by
  refine bs_CI.mk (by decide +kernel) (bs_ler rfl) ?_
  intro p e s m below meth c ls A hx hb hr hml hlk hown hB hN hP hK hD hS hA hl
  refine bs_genQ (fun Q hQ => ?_)
  have hl : lv_has ls 1 [(0, .ref t)] := hl
  have hm := (mq_Mo_time F t_thrown t_time).symm.trans hm
  refine lv_aload_n hx hb dc_Mo_time_0 rfl (lv_at hl 0 rfl) ?_
  refine lv_iconst (v := 0) hx hb dc_Mo_time_1 (by decide +kernel) ?_
  refine va_put (ci := 6) (v := .int 0) (ty := .int) (C := cn_Mo) (T := cf_Mo) (N := 28) hx hb hB ki_Mo ct_Mo cp_Mo cd_Mo hown hK hP hD hS 0 rfl rfl 1 (by decide) (hB _ kw_fl_Mo_47) (fun _ h => h) rfl (by decide +kernel) rfl rfl (bs_ltr rfl) dc_Mo_time_2 (fun H locs hP hD hS => ?_)
  obtain ⟨hP, hD⟩ := bs_say [(t, .inr (6, [.int t_secret, .int 0, .int t_time, .ref t_registers, .int t_capacity, .int t_period, .int t_columns, .ref t_column, .int t_entries, .ref t_times, .ref t_values, .int t_connected, .int t_expected, .int t_next, .int t_association, .ref t_bytes, .int t_size, .int t_sent, .ref t_line, .int t_count, .ref t_reply, .int t_told, .ref t_latest, .int t_latestSize, .ref t_made, .int t_many, .int t_askS, .int t_askR])), (t_registers, .inl (t_registers_c, 4, .inl t_registers_f)), (t_column, .inl (t_column_c, 3, .inl t_column_f)), (t_times, .inl (t_times_c, 13, .inl t_times_f)), (t_values, .inl (t_values_c, 39, .inl t_values_f)), (t_bytes, .inl (t_bytes_c, 280, .inl t_bytes_f)), (t_line, .inl (t_line_c, 80, .inl t_line_f)), (t_reply, .inl (t_reply_c, 80, .inl t_reply_f)), (t_latest, .inl (t_latest_c, 80, .inl t_latest_f)), (t_made, .inl (t_made_c, 300, .inl t_made_f))] hP hD
  refine lv_aload_n hx hb dc_Mo_time_5 rfl (lv_at hl 0 rfl) ?_
  refine va_get (ci := 6) (v := .int t_time) (C := cn_Mo) (T := cf_Mo) (N := 28) hx hb hB ki_Mo hown hK hP 0 rfl rfl 2 (by decide) (hB _ kw_fl_Mo_53) (fun _ h => h) rfl dc_Mo_time_6 ?_
  cases hm
  subst hQ
  exact bs_retI hx hb hr hlk () rfl hP hD hS dc_Mo_time_9
set_option maxHeartbeats 2000000 in
set_option maxRecDepth 100000 in
theorem ct_Mo_register (l : Launch) (D : va_G) (F : Nat) (t : Nat) (t_registers : Nat) (t_column : Nat) (t_times : Nat) (t_values : Nat) (t_bytes : Nat) (t_line : Nat) (t_reply : Nat) (t_latest : Nat) (t_made : Nat) (t_registers_c : ClassId) (t_column_c : ClassId) (t_times_c : ClassId) (t_values_c : ClassId) (t_bytes_c : ClassId) (t_line_c : ClassId) (t_reply_c : ClassId) (t_latest_c : ClassId) (t_made_c : ClassId) (t_secret : Int32) (t_thrown : Int32) (t_time : Int32) (t_capacity : Int32) (t_period : Int32) (t_columns : Int32) (t_entries : Int32) (t_connected : Int32) (t_expected : Int32) (t_next : Int32) (t_association : Int32) (t_size : Int32) (t_sent : Int32) (t_count : Int32) (t_told : Int32) (t_latestSize : Int32) (t_many : Int32) (t_askS : Int32) (t_askR : Int32) (t_registers_f : Nat → Int32) (t_column_f : Nat → Int32) (t_times_f : Nat → Int32) (t_values_f : Nat → Int32) (t_bytes_f : Nat → Int32) (t_line_f : Nat → Int32) (t_reply_f : Nat → Int32) (t_latest_f : Nat → Int32) (t_made_f : Nat → Int32) (i1 : Int32) (r : Int32 × Int32) (hm : mm_Mo_register F i1 t_thrown t_registers_f = some r) :
    bs_CI l my_Mo_register mb_Mo_register 2 .int (bs_rm 1) D [.ref t, .int i1] [(t_registers_c, .int), (t_column_c, .int), (t_times_c, .int), (t_values_c, .int), (t_bytes_c, .int), (t_line_c, .int), (t_reply_c, .int), (t_latest_c, .int), (t_made_c, .int)] [(t, .inr (6, [.int t_secret, .int t_thrown, .int t_time, .ref t_registers, .int t_capacity, .int t_period, .int t_columns, .ref t_column, .int t_entries, .ref t_times, .ref t_values, .int t_connected, .int t_expected, .int t_next, .int t_association, .ref t_bytes, .int t_size, .int t_sent, .ref t_line, .int t_count, .ref t_reply, .int t_told, .ref t_latest, .int t_latestSize, .ref t_made, .int t_many, .int t_askS, .int t_askR])), (t_registers, .inl (t_registers_c, 4, .inl t_registers_f)), (t_column, .inl (t_column_c, 3, .inl t_column_f)), (t_times, .inl (t_times_c, 13, .inl t_times_f)), (t_values, .inl (t_values_c, 39, .inl t_values_f)), (t_bytes, .inl (t_bytes_c, 280, .inl t_bytes_f)), (t_line, .inl (t_line_c, 80, .inl t_line_f)), (t_reply, .inl (t_reply_c, 80, .inl t_reply_f)), (t_latest, .inl (t_latest_c, 80, .inl t_latest_f)), (t_made, .inl (t_made_c, 300, .inl t_made_f))] (S := Unit) (fun v (_ : Unit) => v = r.1) (fun _ => [(t, .inr (6, [.int t_secret, .int r.2, .int t_time, .ref t_registers, .int t_capacity, .int t_period, .int t_columns, .ref t_column, .int t_entries, .ref t_times, .ref t_values, .int t_connected, .int t_expected, .int t_next, .int t_association, .ref t_bytes, .int t_size, .int t_sent, .ref t_line, .int t_count, .ref t_reply, .int t_told, .ref t_latest, .int t_latestSize, .ref t_made, .int t_many, .int t_askS, .int t_askR])), (t_registers, .inl (t_registers_c, 4, .inl t_registers_f)), (t_column, .inl (t_column_c, 3, .inl t_column_f)), (t_times, .inl (t_times_c, 13, .inl t_times_f)), (t_values, .inl (t_values_c, 39, .inl t_values_f)), (t_bytes, .inl (t_bytes_c, 280, .inl t_bytes_f)), (t_line, .inl (t_line_c, 80, .inl t_line_f)), (t_reply, .inl (t_reply_c, 80, .inl t_reply_f)), (t_latest, .inl (t_latest_c, 80, .inl t_latest_f)), (t_made, .inl (t_made_c, 300, .inl t_made_f))]) := by
  refine bs_CI.mk (by decide +kernel) (bs_ler rfl) ?_
  intro p e s m below meth c ls A hx hb hr hml hlk hown hB hN hP hK hD hS hA hl
  refine bs_genQ (fun Q hQ => ?_)
  have hJ13 : ∀ (v1 : Int32) (s0 : Int32) (t_thrown : Int32) (ls : Array Slot) (H : Heap) (locs : List Loc), mm_Mo_register_J13 F v1 s0 t_thrown t_registers_f = some r → lv_has ls 2 [(0, .ref t), (1, .int v1)] → va_P D bs_cl [(t, .inr (6, [.int t_secret, .int t_thrown, .int t_time, .ref t_registers, .int t_capacity, .int t_period, .int t_columns, .ref t_column, .int t_entries, .ref t_times, .ref t_values, .int t_connected, .int t_expected, .int t_next, .int t_association, .ref t_bytes, .int t_size, .int t_sent, .ref t_line, .int t_count, .ref t_reply, .int t_told, .ref t_latest, .int t_latestSize, .ref t_made, .int t_many, .int t_askS, .int t_askR])), (t_registers, .inl (t_registers_c, 4, .inl t_registers_f)), (t_column, .inl (t_column_c, 3, .inl t_column_f)), (t_times, .inl (t_times_c, 13, .inl t_times_f)), (t_values, .inl (t_values_c, 39, .inl t_values_f)), (t_bytes, .inl (t_bytes_c, 280, .inl t_bytes_f)), (t_line, .inl (t_line_c, 80, .inl t_line_f)), (t_reply, .inl (t_reply_c, 80, .inl t_reply_f)), (t_latest, .inl (t_latest_c, 80, .inl t_latest_f)), (t_made, .inl (t_made_c, 300, .inl t_made_f))] H → va_D A [(t, .inr (6, [.int t_secret, .int t_thrown, .int t_time, .ref t_registers, .int t_capacity, .int t_period, .int t_columns, .ref t_column, .int t_entries, .ref t_times, .ref t_values, .int t_connected, .int t_expected, .int t_next, .int t_association, .ref t_bytes, .int t_size, .int t_sent, .ref t_line, .int t_count, .ref t_reply, .int t_told, .ref t_latest, .int t_latestSize, .ref t_made, .int t_many, .int t_askS, .int t_askR])), (t_registers, .inl (t_registers_c, 4, .inl t_registers_f)), (t_column, .inl (t_column_c, 3, .inl t_column_f)), (t_times, .inl (t_times_c, 13, .inl t_times_f)), (t_values, .inl (t_values_c, 39, .inl t_values_f)), (t_bytes, .inl (t_bytes_c, 280, .inl t_bytes_f)), (t_line, .inl (t_line_c, 80, .inl t_line_f)), (t_reply, .inl (t_reply_c, 80, .inl t_reply_f)), (t_latest, .inl (t_latest_c, 80, .inl t_latest_f)), (t_made, .inl (t_made_c, 300, .inl t_made_f))] → va_S A s.heap H locs → W p l e (bs_rm 1) s m [.ref t, .int i1].toArray below meth c H locs 0 0 Q (F0 m 13 ls [.int s0, .ref t]) := by
    intro v1 s0 t_thrown ls H locs hm hl hP hD hS
    have hm := (mq_Mo_register_J13 F v1 s0 t_thrown t_registers_f).symm.trans hm
    refine va_put (ci := 6) (v := .int s0) (ty := .int) (C := cn_Mo) (T := cf_Mo) (N := 28) hx hb hB ki_Mo ct_Mo cp_Mo cd_Mo hown hK hP hD hS 0 rfl rfl 1 (by decide) (hB _ kw_fl_Mo_47) (fun _ h => h) rfl (by decide +kernel) rfl rfl (bs_ltr rfl) dc_Mo_register_13 (fun H locs hP hD hS => ?_)
    obtain ⟨hP, hD⟩ := bs_say [(t, .inr (6, [.int t_secret, .int s0, .int t_time, .ref t_registers, .int t_capacity, .int t_period, .int t_columns, .ref t_column, .int t_entries, .ref t_times, .ref t_values, .int t_connected, .int t_expected, .int t_next, .int t_association, .ref t_bytes, .int t_size, .int t_sent, .ref t_line, .int t_count, .ref t_reply, .int t_told, .ref t_latest, .int t_latestSize, .ref t_made, .int t_many, .int t_askS, .int t_askR])), (t_registers, .inl (t_registers_c, 4, .inl t_registers_f)), (t_column, .inl (t_column_c, 3, .inl t_column_f)), (t_times, .inl (t_times_c, 13, .inl t_times_f)), (t_values, .inl (t_values_c, 39, .inl t_values_f)), (t_bytes, .inl (t_bytes_c, 280, .inl t_bytes_f)), (t_line, .inl (t_line_c, 80, .inl t_line_f)), (t_reply, .inl (t_reply_c, 80, .inl t_reply_f)), (t_latest, .inl (t_latest_c, 80, .inl t_latest_f)), (t_made, .inl (t_made_c, 300, .inl t_made_f))] hP hD
    refine lv_aload_n hx hb dc_Mo_register_16 rfl (lv_at hl 0 rfl) ?_
    refine va_get (ci := 6) (v := .int s0) (C := cn_Mo) (T := cf_Mo) (N := 28) hx hb hB ki_Mo hown hK hP 0 rfl rfl 1 (by decide) (hB _ kw_fl_Mo_47) (fun _ h => h) rfl dc_Mo_register_17 ?_
    refine lv_if_le (tgt := 27) hx hb dc_Mo_register_20 (by decide) (fun h20 => ?_) (fun h20 => ?_)
    · have hm := bs_pos h20 hm
      refine lv_aload_n hx hb dc_Mo_register_27 rfl (lv_at hl 0 rfl) ?_
      refine va_get (ci := 6) (v := .ref t_registers) (C := cn_Mo) (T := cf_Mo) (N := 28) hx hb hB ki_Mo hown hK hP 0 rfl rfl 3 (by decide) (hB _ kw_fl_Mo_7) (fun _ h => h) rfl dc_Mo_register_28 ?_
      refine lv_iload_n hx hb dc_Mo_register_31 rfl (lv_at hl 1 rfl) ?_
      obtain ⟨hz32, hm⟩ := bs_nn hm
      refine va_iald hx hb hK hP 1 0 rfl rfl hz32 dc_Mo_register_32 ?_
      cases hm
      subst hQ
      exact bs_retI hx hb hr hlk () rfl hP hD hS dc_Mo_register_33
    · have hm := bs_neg h20 hm
      refine lv_iconst (v := 0) hx hb dc_Mo_register_23 (by decide +kernel) ?_
      refine lv_goto (tgt := 33) hx hb dc_Mo_register_24 (by decide) ?_
      cases hm
      subst hQ
      exact bs_retI hx hb hr hlk () rfl hP hD hS dc_Mo_register_33
  have hl : lv_has ls 2 [(0, .ref t), (1, .int i1)] := hl
  have hm := (mq_Mo_register F i1 t_thrown t_registers_f).symm.trans hm
  refine lv_aload_n hx hb dc_Mo_register_0 rfl (lv_at hl 0 rfl) ?_
  refine lv_iload_n hx hb dc_Mo_register_1 rfl (lv_at hl 1 rfl) ?_
  obtain ⟨x2, hx2, hm⟩ := bs_bind hm
  refine bs_callSi 1 [(t, .inr (6, [.int t_secret, .int t_thrown, .int t_time, .ref t_registers, .int t_capacity, .int t_period, .int t_columns, .ref t_column, .int t_entries, .ref t_times, .ref t_values, .int t_connected, .int t_expected, .int t_next, .int t_association, .ref t_bytes, .int t_size, .int t_sent, .ref t_line, .int t_count, .ref t_reply, .int t_told, .ref t_latest, .int t_latestSize, .ref t_made, .int t_many, .int t_askS, .int t_askR])), (t_registers, .inl (t_registers_c, 4, .inl t_registers_f)), (t_column, .inl (t_column_c, 3, .inl t_column_f)), (t_times, .inl (t_times_c, 13, .inl t_times_f)), (t_values, .inl (t_values_c, 39, .inl t_values_f)), (t_bytes, .inl (t_bytes_c, 280, .inl t_bytes_f)), (t_line, .inl (t_line_c, 80, .inl t_line_f)), (t_reply, .inl (t_reply_c, 80, .inl t_reply_f)), (t_latest, .inl (t_latest_c, 80, .inl t_latest_f)), (t_made, .inl (t_made_c, 300, .inl t_made_f))] (fun _ => [(t, .inr (6, [.int t_secret, .int t_thrown, .int t_time, .ref t_registers, .int t_capacity, .int t_period, .int t_columns, .ref t_column, .int t_entries, .ref t_times, .ref t_values, .int t_connected, .int t_expected, .int t_next, .int t_association, .ref t_bytes, .int t_size, .int t_sent, .ref t_line, .int t_count, .ref t_reply, .int t_told, .ref t_latest, .int t_latestSize, .ref t_made, .int t_many, .int t_askS, .int t_askR])), (t_registers, .inl (t_registers_c, 4, .inl t_registers_f)), (t_column, .inl (t_column_c, 3, .inl t_column_f)), (t_times, .inl (t_times_c, 13, .inl t_times_f)), (t_values, .inl (t_values_c, 39, .inl t_values_f)), (t_bytes, .inl (t_bytes_c, 280, .inl t_bytes_f)), (t_line, .inl (t_line_c, 80, .inl t_line_f)), (t_reply, .inl (t_reply_c, 80, .inl t_reply_f)), (t_latest, .inl (t_latest_c, 80, .inl t_latest_f)), (t_made, .inl (t_made_c, 300, .inl t_made_f))]) [.ref t] hx hb hml hown hB hN hK hP hD hS hA (ct_Mo_isRegister l D F i1 x2 hx2) kw_cd_Mo_isRegister kw_ml_Mo_63 kw_st_Mo_isRegister kw_in_Mo kd_Mo_isRegister (by decide) [] [0, 1, 2, 3, 4, 5, 6, 7, 8, 9] rfl rfl (by decide) [] rfl [0, 1, 2, 3, 4, 5, 6, 7, 8, 9] (by decide) (fun _ => rfl) rfl hl.1 (bs_ler rfl) (by decide) dc_Mo_register_2 rfl (fun v2q _ H locs hq2 hP hD hS => ?_)
  have hq2 := hq2.symm
  subst hq2
  refine lv_if_eq (tgt := 12) hx hb dc_Mo_register_5 (by decide) (fun h5 => ?_) (fun h5 => ?_)
  · have hm := bs_pos h5 hm
    refine lv_iconst (v := 1) hx hb dc_Mo_register_12 (by decide +kernel) ?_
    exact hJ13 i1 1 t_thrown ls _ _ hm hl hP hD hS
  · have hm := bs_neg h5 hm
    refine lv_iconst (v := 0) hx hb dc_Mo_register_8 (by decide +kernel) ?_
    refine lv_goto (tgt := 13) hx hb dc_Mo_register_9 (by decide) ?_
    exact hJ13 i1 0 t_thrown ls _ _ hm hl hP hD hS
set_option maxHeartbeats 2000000 in
set_option maxRecDepth 100000 in
theorem ct_Mo_entries (l : Launch) (D : va_G) (F : Nat) (t : Nat) (t_registers : Nat) (t_column : Nat) (t_times : Nat) (t_values : Nat) (t_bytes : Nat) (t_line : Nat) (t_reply : Nat) (t_latest : Nat) (t_made : Nat) (t_registers_c : ClassId) (t_column_c : ClassId) (t_times_c : ClassId) (t_values_c : ClassId) (t_bytes_c : ClassId) (t_line_c : ClassId) (t_reply_c : ClassId) (t_latest_c : ClassId) (t_made_c : ClassId) (t_secret : Int32) (t_thrown : Int32) (t_time : Int32) (t_capacity : Int32) (t_period : Int32) (t_columns : Int32) (t_entries : Int32) (t_connected : Int32) (t_expected : Int32) (t_next : Int32) (t_association : Int32) (t_size : Int32) (t_sent : Int32) (t_count : Int32) (t_told : Int32) (t_latestSize : Int32) (t_many : Int32) (t_askS : Int32) (t_askR : Int32) (t_registers_f : Nat → Int32) (t_column_f : Nat → Int32) (t_times_f : Nat → Int32) (t_values_f : Nat → Int32) (t_bytes_f : Nat → Int32) (t_line_f : Nat → Int32) (t_reply_f : Nat → Int32) (t_latest_f : Nat → Int32) (t_made_f : Nat → Int32) (r : Int32 × Int32) (hm : mm_Mo_entries F t_thrown t_entries = some r) :
    bs_CI l my_Mo_entries mb_Mo_entries 1 .int (bs_rm 0) D [.ref t] [(t_registers_c, .int), (t_column_c, .int), (t_times_c, .int), (t_values_c, .int), (t_bytes_c, .int), (t_line_c, .int), (t_reply_c, .int), (t_latest_c, .int), (t_made_c, .int)] [(t, .inr (6, [.int t_secret, .int t_thrown, .int t_time, .ref t_registers, .int t_capacity, .int t_period, .int t_columns, .ref t_column, .int t_entries, .ref t_times, .ref t_values, .int t_connected, .int t_expected, .int t_next, .int t_association, .ref t_bytes, .int t_size, .int t_sent, .ref t_line, .int t_count, .ref t_reply, .int t_told, .ref t_latest, .int t_latestSize, .ref t_made, .int t_many, .int t_askS, .int t_askR])), (t_registers, .inl (t_registers_c, 4, .inl t_registers_f)), (t_column, .inl (t_column_c, 3, .inl t_column_f)), (t_times, .inl (t_times_c, 13, .inl t_times_f)), (t_values, .inl (t_values_c, 39, .inl t_values_f)), (t_bytes, .inl (t_bytes_c, 280, .inl t_bytes_f)), (t_line, .inl (t_line_c, 80, .inl t_line_f)), (t_reply, .inl (t_reply_c, 80, .inl t_reply_f)), (t_latest, .inl (t_latest_c, 80, .inl t_latest_f)), (t_made, .inl (t_made_c, 300, .inl t_made_f))] (S := Unit) (fun v (_ : Unit) => v = r.1) (fun _ => [(t, .inr (6, [.int t_secret, .int r.2, .int t_time, .ref t_registers, .int t_capacity, .int t_period, .int t_columns, .ref t_column, .int t_entries, .ref t_times, .ref t_values, .int t_connected, .int t_expected, .int t_next, .int t_association, .ref t_bytes, .int t_size, .int t_sent, .ref t_line, .int t_count, .ref t_reply, .int t_told, .ref t_latest, .int t_latestSize, .ref t_made, .int t_many, .int t_askS, .int t_askR])), (t_registers, .inl (t_registers_c, 4, .inl t_registers_f)), (t_column, .inl (t_column_c, 3, .inl t_column_f)), (t_times, .inl (t_times_c, 13, .inl t_times_f)), (t_values, .inl (t_values_c, 39, .inl t_values_f)), (t_bytes, .inl (t_bytes_c, 280, .inl t_bytes_f)), (t_line, .inl (t_line_c, 80, .inl t_line_f)), (t_reply, .inl (t_reply_c, 80, .inl t_reply_f)), (t_latest, .inl (t_latest_c, 80, .inl t_latest_f)), (t_made, .inl (t_made_c, 300, .inl t_made_f))]) := by
  refine bs_CI.mk (by decide +kernel) (bs_ler rfl) ?_
  intro p e s m below meth c ls A hx hb hr hml hlk hown hB hN hP hK hD hS hA hl
  refine bs_genQ (fun Q hQ => ?_)
  have hl : lv_has ls 1 [(0, .ref t)] := hl
  have hm := (mq_Mo_entries F t_thrown t_entries).symm.trans hm
  refine lv_aload_n hx hb dc_Mo_entries_0 rfl (lv_at hl 0 rfl) ?_
  refine lv_iconst (v := 0) hx hb dc_Mo_entries_1 (by decide +kernel) ?_
  refine va_put (ci := 6) (v := .int 0) (ty := .int) (C := cn_Mo) (T := cf_Mo) (N := 28) hx hb hB ki_Mo ct_Mo cp_Mo cd_Mo hown hK hP hD hS 0 rfl rfl 1 (by decide) (hB _ kw_fl_Mo_47) (fun _ h => h) rfl (by decide +kernel) rfl rfl (bs_ltr rfl) dc_Mo_entries_2 (fun H locs hP hD hS => ?_)
  obtain ⟨hP, hD⟩ := bs_say [(t, .inr (6, [.int t_secret, .int 0, .int t_time, .ref t_registers, .int t_capacity, .int t_period, .int t_columns, .ref t_column, .int t_entries, .ref t_times, .ref t_values, .int t_connected, .int t_expected, .int t_next, .int t_association, .ref t_bytes, .int t_size, .int t_sent, .ref t_line, .int t_count, .ref t_reply, .int t_told, .ref t_latest, .int t_latestSize, .ref t_made, .int t_many, .int t_askS, .int t_askR])), (t_registers, .inl (t_registers_c, 4, .inl t_registers_f)), (t_column, .inl (t_column_c, 3, .inl t_column_f)), (t_times, .inl (t_times_c, 13, .inl t_times_f)), (t_values, .inl (t_values_c, 39, .inl t_values_f)), (t_bytes, .inl (t_bytes_c, 280, .inl t_bytes_f)), (t_line, .inl (t_line_c, 80, .inl t_line_f)), (t_reply, .inl (t_reply_c, 80, .inl t_reply_f)), (t_latest, .inl (t_latest_c, 80, .inl t_latest_f)), (t_made, .inl (t_made_c, 300, .inl t_made_f))] hP hD
  refine lv_aload_n hx hb dc_Mo_entries_5 rfl (lv_at hl 0 rfl) ?_
  refine va_get (ci := 6) (v := .int t_entries) (C := cn_Mo) (T := cf_Mo) (N := 28) hx hb hB ki_Mo hown hK hP 0 rfl rfl 8 (by decide) (hB _ kw_fl_Mo_50) (fun _ h => h) rfl dc_Mo_entries_6 ?_
  cases hm
  subst hQ
  exact bs_retI hx hb hr hlk () rfl hP hD hS dc_Mo_entries_9
