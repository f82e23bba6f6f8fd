theorem bx_dead {P : Prop} {n : Nat} (h0 : ¬ n = 0) (h : n = 0) : P := absurd h h0
theorem kx_fit_IAE : Bundle.fit "java/lang/IllegalArgumentException" = true := by decide +kernel
set_option maxRecDepth 100000 in
theorem kx_cl_IAE : (Cond.classLink cn_Lp 42 "java/lang/IllegalArgumentException") ∈ bs_big := bs_of (i := 435) rfl rfl
set_option maxRecDepth 100000 in
theorem kx_in_IAE : (Cond.initialized "java/lang/IllegalArgumentException") ∈ bs_big := bs_of (i := 12) rfl rfl
set_option maxRecDepth 100000 in
theorem kx_is_IAE : (Cond.instantiable "java/lang/IllegalArgumentException" 6) ∈ bs_big := bs_of (i := 436) rfl rfl
theorem kx_fit_ISE : Bundle.fit "java/lang/IllegalStateException" = true := by decide +kernel
set_option maxRecDepth 100000 in
theorem kx_cl_ISE : (Cond.classLink cn_Lp 92 "java/lang/IllegalStateException") ∈ bs_big := bs_of (i := 573) rfl rfl
set_option maxRecDepth 100000 in
theorem kx_in_ISE : (Cond.initialized "java/lang/IllegalStateException") ∈ bs_big := bs_of (i := 15) rfl rfl
set_option maxRecDepth 100000 in
theorem kx_is_ISE : (Cond.instantiable "java/lang/IllegalStateException" 6) ∈ bs_big := bs_of (i := 574) rfl rfl
theorem kx_fit_IOB : Bundle.fit "java/lang/IndexOutOfBoundsException" = true := by decide +kernel
set_option maxRecDepth 100000 in
theorem kx_cl_IOB : (Cond.classLink cn_Lp 54 "java/lang/IndexOutOfBoundsException") ∈ bs_big := bs_of (i := 513) rfl rfl
set_option maxRecDepth 100000 in
theorem kx_in_IOB : (Cond.initialized "java/lang/IndexOutOfBoundsException") ∈ bs_big := bs_of (i := 13) rfl rfl
set_option maxRecDepth 100000 in
theorem kx_is_IOB : (Cond.instantiable "java/lang/IndexOutOfBoundsException" 6) ∈ bs_big := bs_of (i := 514) rfl rfl
theorem kx_fit_NSE : Bundle.fit "java/util/NoSuchElementException" = true := by decide +kernel
set_option maxRecDepth 100000 in
theorem kx_cl_NSE : (Cond.classLink cn_Lp 77 "java/util/NoSuchElementException") ∈ bs_big := bs_of (i := 543) rfl rfl
set_option maxRecDepth 100000 in
theorem kx_in_NSE : (Cond.initialized "java/util/NoSuchElementException") ∈ bs_big := bs_of (i := 14) rfl rfl
set_option maxRecDepth 100000 in
theorem kx_is_NSE : (Cond.instantiable "java/util/NoSuchElementException" 6) ∈ bs_big := bs_of (i := 544) rfl rfl
theorem bx_run0 (F : Nat) : ∀ (k : Nat) {v1 v2 a1 : Int32} {a2 : Nat → Int32} {a3 a4 a5 a6 a7 : Int32} {a8 a9 : Nat → Int32} {r : Nat × Int32 × Int32 × Int32 × (Nat → Int32)}, mm_Lp_run_L21 F k v1 v2 a1 a2 a3 a4 a5 a6 a7 a8 a9 = some r → r.1 = 0 := by
  intro k
  induction k with
  | zero => intro _ _ _ _ _ _ _ _ _ _ _ _ hm; exact (bs_no hm).elim
  | succ k ih =>
    intro v1 v2 a1 a2 a3 a4 a5 a6 a7 a8 a9 r hm
    have hm := (mq_Lp_run_L21 F k v1 v2 a1 a2 a3 a4 a5 a6 a7 a8 a9).symm.trans hm
    by_cases h : v1 ≤ v2
    · have hm := bs_pos h hm
      cases hm; rfl
    · have hm := bs_neg h hm
      obtain ⟨_, _, hm⟩ := bs_bind hm
      exact ih hm
set_option maxHeartbeats 2000000 in
set_option maxRecDepth 100000 in
theorem cx_Lp_run (l : Launch) (hfl : l.flags = pinnedFlags ++ [noTraceFlag]) (D : va_G) (F : Nat) (t : Nat) (t_line : Nat) (t_line_bytes : Nat) (t_answered : Nat) (t_answered_bytes : Nat) (t_asker : Nat) (t_connection : Nat) (t_connection_meter : Nat) (t_connection_meter_registers : Nat) (t_connection_meter_profile : Nat) (t_connection_meter_profile_columns : Nat) (t_connection_meter_profile_ring : Nat) (t_connection_request : Nat) (t_connection_request_bytes : Nat) (t_connection_latest : Nat) (t_connection_latest_bytes : Nat) (t_connection_value : Nat) (t_connection_value_bytes : Nat) (t_line_bytes_c : ClassId) (t_answered_bytes_c : ClassId) (t_connection_meter_registers_c : ClassId) (t_connection_meter_profile_columns_c : ClassId) (t_connection_meter_profile_ring_c : ClassId) (t_connection_request_bytes_c : ClassId) (t_connection_latest_bytes_c : ClassId) (t_connection_value_bytes_c : ClassId) (t_line_size : Int32) (t_line_bytes_f : Nat → Int32) (t_answered_size : Int32) (t_answered_bytes_f : Nat → Int32) (t_asker_s : Int32) (t_asker_r : Int32) (t_connection_secret : Int32) (t_connection_connected : Int32) (t_connection_expected : Int32) (t_connection_next : Int32) (t_connection_association : Int32) (t_connection_blocksSent : Int32) (t_connection_meter_now : Int32) (t_connection_meter_registers_f : Nat → Int32) (t_connection_meter_profile_columnCount : Int32) (t_connection_meter_profile_capacity : Int32) (t_connection_meter_profile_period : Int32) (t_connection_meter_profile_first : Int32) (t_connection_meter_profile_size : Int32) (t_connection_meter_profile_columns_f : Nat → Int32) (t_connection_meter_profile_ring_f : Nat → Int32) (t_connection_request_size : Int32) (t_connection_request_bytes_f : Nat → Int32) (t_connection_latest_size : Int32) (t_connection_latest_bytes_f : Nat → Int32) (t_connection_value_size : Int32) (t_connection_value_bytes_f : Nat → Int32) (i1 : Int32) (r : Nat × Int32 × Int32 × Int32 × (Nat → Int32)) (hm : mm_Lp_run F i1 t_connection_meter_now t_connection_meter_registers_f t_connection_meter_profile_columnCount t_connection_meter_profile_capacity t_connection_meter_profile_period t_connection_meter_profile_first t_connection_meter_profile_size t_connection_meter_profile_columns_f t_connection_meter_profile_ring_f = some r) (h0 : ¬ r.1 = 0) :
    bx_CT l my_Lp_run mb_Lp_run 3 (none) bx_rm D [.ref t, .int i1] [(t_line_bytes_c, .int), (t_answered_bytes_c, .int), (t_connection_meter_registers_c, .int), (t_connection_meter_profile_columns_c, .int), (t_connection_meter_profile_ring_c, .int), (t_connection_request_bytes_c, .int), (t_connection_latest_bytes_c, .int), (t_connection_value_bytes_c, .int)] [(t, .inr (5, [.ref t_line, .ref t_answered, .ref t_asker, .ref t_connection, .ref t_connection_meter])), (t_line, .inr (4, [.ref t_line_bytes, .int t_line_size])), (t_line_bytes, .inl (t_line_bytes_c, 80, .inl t_line_bytes_f)), (t_answered, .inr (4, [.ref t_answered_bytes, .int t_answered_size])), (t_answered_bytes, .inl (t_answered_bytes_c, 80, .inl t_answered_bytes_f)), (t_asker, .inr (0, [.int t_asker_s, .int t_asker_r])), (t_connection, .inr (1, [.int t_connection_secret, .ref t_connection_meter, .ref t_connection_request, .ref t_connection_latest, .ref t_connection_value, .int t_connection_connected, .int t_connection_expected, .int t_connection_next, .int t_connection_association, .int t_connection_blocksSent])), (t_connection_meter, .inr (2, [.ref t_connection_meter_registers, .ref t_connection_meter_profile, .int t_connection_meter_now])), (t_connection_meter_registers, .inl (t_connection_meter_registers_c, 3, .inl t_connection_meter_registers_f)), (t_connection_meter_profile, .inr (3, [.ref t_connection_meter_profile_columns, .ref t_connection_meter_profile_ring, .int t_connection_meter_profile_columnCount, .int t_connection_meter_profile_capacity, .int t_connection_meter_profile_period, .int t_connection_meter_profile_first, .int t_connection_meter_profile_size])), (t_connection_meter_profile_columns, .inl (t_connection_meter_profile_columns_c, 3, .inl t_connection_meter_profile_columns_f)), (t_connection_meter_profile_ring, .inl (t_connection_meter_profile_ring_c, 48, .inl t_connection_meter_profile_ring_f)), (t_connection_request, .inr (4, [.ref t_connection_request_bytes, .int t_connection_request_size])), (t_connection_request_bytes, .inl (t_connection_request_bytes_c, 60, .inl t_connection_request_bytes_f)), (t_connection_latest, .inr (4, [.ref t_connection_latest_bytes, .int t_connection_latest_size])), (t_connection_latest_bytes, .inl (t_connection_latest_bytes_c, 80, .inl t_connection_latest_bytes_f)), (t_connection_value, .inr (4, [.ref t_connection_value_bytes, .int t_connection_value_size])), (t_connection_value_bytes, .inl (t_connection_value_bytes_c, 266, .inl t_connection_value_bytes_f))] (bx_ex r.1) := by
  refine bx_CT.mk hfl (by decide +kernel) (bs_ler rfl) ?_
  intro p e s m below meth c ls hx htr hb hml hlk hex hown hB hN hZ hP0 hK hl
  refine bs_genQ (fun Q hQ => ?_)
  have hS := va_S.rf (A := bx_S0 s) (H0 := s.heap)
  have hP := hP0
  have hl : lv_has ls 3 [(0, .ref t), (1, .int i1)] := hl
  have hm := (mq_Lp_run F i1 t_connection_meter_now t_connection_meter_registers_f t_connection_meter_profile_columnCount t_connection_meter_profile_capacity t_connection_meter_profile_period t_connection_meter_profile_first t_connection_meter_profile_size t_connection_meter_profile_columns_f t_connection_meter_profile_ring_f).symm.trans hm
  refine lv_iload_n hx hb dc_Lp_run_0 rfl (lv_at hl 1 rfl) ?_
  refine lv_if_lt (tgt := 11) hx hb dc_Lp_run_1 (by decide) (fun h1 => ?_) (fun h1 => ?_)
  · have hm := bs_pos h1 hm
    cases hm
    subst hQ
    exact bx_throw bx_at_IAE kx_cl_IAE kx_in_IAE kx_is_IAE kx_fit_IAE hx htr hb hml hlk hex hown hB hZ hl.1 (by decide) hS dc_Lp_run_11 dc_Lp_run_14 dc_Lp_run_15 dc_Lp_run_18
  · have hm := bs_neg h1 hm
    refine lv_iload_n hx hb dc_Lp_run_4 rfl (lv_at hl 1 rfl) ?_
    refine lv_sipush (v := 1000) hx hb dc_Lp_run_5 (by decide +kernel) ?_
    refine lv_icmp_le (tgt := 19) hx hb dc_Lp_run_8 (by decide) (fun h8 => ?_) (fun h8 => ?_)
    · have hm := bs_pos h8 hm
      exact bx_dead h0 (bx_run0 _ _ hm)
    · have hm := bs_neg h8 hm
      cases hm
      subst hQ
      exact bx_throw bx_at_IAE kx_cl_IAE kx_in_IAE kx_is_IAE kx_fit_IAE hx htr hb hml hlk hex hown hB hZ hl.1 (by decide) hS dc_Lp_run_11 dc_Lp_run_14 dc_Lp_run_15 dc_Lp_run_18
theorem cy_Lp_run (F : Nat) (i1 : Int32) (t_connection_meter_now : Int32) (t_connection_meter_registers_f : Nat → Int32) (t_connection_meter_profile_columnCount : Int32) (t_connection_meter_profile_capacity : Int32) (t_connection_meter_profile_period : Int32) (t_connection_meter_profile_first : Int32) (t_connection_meter_profile_size : Int32) (t_connection_meter_profile_columns_f : Nat → Int32) (t_connection_meter_profile_ring_f : Nat → Int32) {r : Nat × Int32 × Int32 × Int32 × (Nat → Int32)} (hm : mm_Lp_run F i1 t_connection_meter_now t_connection_meter_registers_f t_connection_meter_profile_columnCount t_connection_meter_profile_capacity t_connection_meter_profile_period t_connection_meter_profile_first t_connection_meter_profile_size t_connection_meter_profile_columns_f t_connection_meter_profile_ring_f = some r) (h0 : ¬ r.1 = 0) : r.2.1 = t_connection_meter_now ∧ r.2.2.1 = t_connection_meter_profile_first ∧ r.2.2.2.1 = t_connection_meter_profile_size ∧ r.2.2.2.2 = t_connection_meter_profile_ring_f := by
  have hm := (mq_Lp_run F i1 t_connection_meter_now t_connection_meter_registers_f t_connection_meter_profile_columnCount t_connection_meter_profile_capacity t_connection_meter_profile_period t_connection_meter_profile_first t_connection_meter_profile_size t_connection_meter_profile_columns_f t_connection_meter_profile_ring_f).symm.trans hm
  by_cases hc1 : i1 < 0
  · have hm := bs_pos hc1 hm
    cases hm
    exact ⟨rfl, rfl, rfl, rfl⟩
  · have hm := bs_neg hc1 hm
    by_cases hc2 : i1 ≤ 1000
    · have hm := bs_pos hc2 hm
      exact absurd (bx_run0 _ _ hm) h0
    · have hm := bs_neg hc2 hm
      cases hm
      exact ⟨rfl, rfl, rfl, rfl⟩

set_option maxHeartbeats 2000000 in
set_option maxRecDepth 100000 in
theorem cx_Lp_count (l : Launch) (hfl : l.flags = pinnedFlags ++ [noTraceFlag]) (D : va_G) (F : Nat) (t : Nat) (t_line : Nat) (t_line_bytes : Nat) (t_answered : Nat) (t_answered_bytes : Nat) (t_asker : Nat) (t_connection : Nat) (t_connection_meter : Nat) (t_connection_meter_registers : Nat) (t_connection_meter_profile : Nat) (t_connection_meter_profile_columns : Nat) (t_connection_meter_profile_ring : Nat) (t_connection_request : Nat) (t_connection_request_bytes : Nat) (t_connection_latest : Nat) (t_connection_latest_bytes : Nat) (t_connection_value : Nat) (t_connection_value_bytes : Nat) (t_line_bytes_c : ClassId) (t_answered_bytes_c : ClassId) (t_connection_meter_registers_c : ClassId) (t_connection_meter_profile_columns_c : ClassId) (t_connection_meter_profile_ring_c : ClassId) (t_connection_request_bytes_c : ClassId) (t_connection_latest_bytes_c : ClassId) (t_connection_value_bytes_c : ClassId) (t_line_size : Int32) (t_line_bytes_f : Nat → Int32) (t_answered_size : Int32) (t_answered_bytes_f : Nat → Int32) (t_asker_s : Int32) (t_asker_r : Int32) (t_connection_secret : Int32) (t_connection_connected : Int32) (t_connection_expected : Int32) (t_connection_next : Int32) (t_connection_association : Int32) (t_connection_blocksSent : Int32) (t_connection_meter_now : Int32) (t_connection_meter_registers_f : Nat → Int32) (t_connection_meter_profile_columnCount : Int32) (t_connection_meter_profile_capacity : Int32) (t_connection_meter_profile_period : Int32) (t_connection_meter_profile_first : Int32) (t_connection_meter_profile_size : Int32) (t_connection_meter_profile_columns_f : Nat → Int32) (t_connection_meter_profile_ring_f : Nat → Int32) (t_connection_request_size : Int32) (t_connection_request_bytes_f : Nat → Int32) (t_connection_latest_size : Int32) (t_connection_latest_bytes_f : Nat → Int32) (t_connection_value_size : Int32) (t_connection_value_bytes_f : Nat → Int32) (i1 : Int32) (i2 : Int32) (r : Nat × Int32 × (Nat → Int32)) (hm : mm_Lp_count F i1 i2 t_connection_meter_registers_f = some r) (h0 : ¬ r.1 = 0) :
    bx_CT l my_Lp_count mb_Lp_count 3 (some .int) bx_rm D [.ref t, .int i1, .int i2] [(t_line_bytes_c, .int), (t_answered_bytes_c, .int), (t_connection_meter_registers_c, .int), (t_connection_meter_profile_columns_c, .int), (t_connection_meter_profile_ring_c, .int), (t_connection_request_bytes_c, .int), (t_connection_latest_bytes_c, .int), (t_connection_value_bytes_c, .int)] [(t, .inr (5, [.ref t_line, .ref t_answered, .ref t_asker, .ref t_connection, .ref t_connection_meter])), (t_line, .inr (4, [.ref t_line_bytes, .int t_line_size])), (t_line_bytes, .inl (t_line_bytes_c, 80, .inl t_line_bytes_f)), (t_answered, .inr (4, [.ref t_answered_bytes, .int t_answered_size])), (t_answered_bytes, .inl (t_answered_bytes_c, 80, .inl t_answered_bytes_f)), (t_asker, .inr (0, [.int t_asker_s, .int t_asker_r])), (t_connection, .inr (1, [.int t_connection_secret, .ref t_connection_meter, .ref t_connection_request, .ref t_connection_latest, .ref t_connection_value, .int t_connection_connected, .int t_connection_expected, .int t_connection_next, .int t_connection_association, .int t_connection_blocksSent])), (t_connection_meter, .inr (2, [.ref t_connection_meter_registers, .ref t_connection_meter_profile, .int t_connection_meter_now])), (t_connection_meter_registers, .inl (t_connection_meter_registers_c, 3, .inl t_connection_meter_registers_f)), (t_connection_meter_profile, .inr (3, [.ref t_connection_meter_profile_columns, .ref t_connection_meter_profile_ring, .int t_connection_meter_profile_columnCount, .int t_connection_meter_profile_capacity, .int t_connection_meter_profile_period, .int t_connection_meter_profile_first, .int t_connection_meter_profile_size])), (t_connection_meter_profile_columns, .inl (t_connection_meter_profile_columns_c, 3, .inl t_connection_meter_profile_columns_f)), (t_connection_meter_profile_ring, .inl (t_connection_meter_profile_ring_c, 48, .inl t_connection_meter_profile_ring_f)), (t_connection_request, .inr (4, [.ref t_connection_request_bytes, .int t_connection_request_size])), (t_connection_request_bytes, .inl (t_connection_request_bytes_c, 60, .inl t_connection_request_bytes_f)), (t_connection_latest, .inr (4, [.ref t_connection_latest_bytes, .int t_connection_latest_size])), (t_connection_latest_bytes, .inl (t_connection_latest_bytes_c, 80, .inl t_connection_latest_bytes_f)), (t_connection_value, .inr (4, [.ref t_connection_value_bytes, .int t_connection_value_size])), (t_connection_value_bytes, .inl (t_connection_value_bytes_c, 266, .inl t_connection_value_bytes_f))] (bx_ex r.1) := by
  refine bx_CT.mk hfl (by decide +kernel) (bs_ler rfl) ?_
  intro p e s m below meth c ls hx htr hb hml hlk hex hown hB hN hZ hP0 hK hl
  refine bs_genQ (fun Q hQ => ?_)
  have hS := va_S.rf (A := bx_S0 s) (H0 := s.heap)
  have hP := hP0
  have hl : lv_has ls 3 [(0, .ref t), (1, .int i1), (2, .int i2)] := hl
  have hm := (mq_Lp_count F i1 i2 t_connection_meter_registers_f).symm.trans hm
  refine lv_iload_n hx hb dc_Lp_count_0 rfl (lv_at hl 1 rfl) ?_
  obtain ⟨x1, hx1, hm⟩ := bs_bind hm
  refine bs_callSi 1 [] (fun _ => []) [] hx hb hml hown hB hN hK bx_nilP bx_nilD hS (fun _ h => h) (ct_Mt_isRegister l D F i1 x1 hx1) kw_cd_Mt_isRegister kw_ml_Lp_50 kw_st_Mt_isRegister kw_in_Mt kd_Mt_isRegister (by decide) [] [] rfl rfl (by decide) [] rfl [] (by decide) (fun _ => rfl) rfl hl.1 (bs_ler rfl) (by decide) dc_Lp_count_1 rfl (fun v1q _ H locs hq1 _ _ hS => ?_)
  have hP := bx_keep hP0 hS
  have hq1 := hq1.symm
  subst hq1
  refine lv_if_ne (tgt := 15) hx hb dc_Lp_count_4 (by decide) (fun h4 => ?_) (fun h4 => ?_)
  · have hm := bs_neg h4 hm
    obtain ⟨hz26, hm⟩ := bs_nn hm
    obtain ⟨hz29, hm⟩ := bs_nn hm
    obtain ⟨hz40, hm⟩ := bs_nn hm
    cases hm
    exact bx_dead h0 rfl
  · have hm := bs_pos h4 hm
    cases hm
    subst hQ
    exact bx_throw bx_at_IOB kx_cl_IOB kx_in_IOB kx_is_IOB kx_fit_IOB hx htr hb hml hlk hex hown hB hZ hl.1 (by decide) hS dc_Lp_count_7 dc_Lp_count_10 dc_Lp_count_11 dc_Lp_count_14
theorem cy_Lp_count (F : Nat) (i1 : Int32) (i2 : Int32) (t_connection_meter_registers_f : Nat → Int32) {r : Nat × Int32 × (Nat → Int32)} (hm : mm_Lp_count F i1 i2 t_connection_meter_registers_f = some r) (h0 : ¬ r.1 = 0) : r.2.2 = t_connection_meter_registers_f := by
  have hm := (mq_Lp_count F i1 i2 t_connection_meter_registers_f).symm.trans hm
  obtain ⟨x1, _, hm⟩ := bs_bind hm
  by_cases hc1 : x1 = 0
  · have hm := bs_pos hc1 hm
    cases hm
    exact rfl
  · have hm := bs_neg hc1 hm
    by_cases hc2 : (i1 - 1) < 0 ∨ 3 ≤ (i1 - 1).toNatClampNeg
    · have hm := bs_pos hc2 hm
      exact (bs_no hm).elim
    · have hm := bs_neg hc2 hm
      by_cases hc3 : (i1 - 1) < 0 ∨ 3 ≤ (i1 - 1).toNatClampNeg
      · have hm := bs_pos hc3 hm
        exact (bs_no hm).elim
      · have hm := bs_neg hc3 hm
        by_cases hc4 : (i1 - 1) < 0 ∨ 3 ≤ (i1 - 1).toNatClampNeg
        · have hm := bs_pos hc4 hm
          exact (bs_no hm).elim
        · have hm := bs_neg hc4 hm
          cases hm
          exact absurd rfl h0

set_option maxHeartbeats 2000000 in
set_option maxRecDepth 100000 in
theorem cx_Lp_register (l : Launch) (hfl : l.flags = pinnedFlags ++ [noTraceFlag]) (D : va_G) (F : Nat) (t : Nat) (t_line : Nat) (t_line_bytes : Nat) (t_answered : Nat) (t_answered_bytes : Nat) (t_asker : Nat) (t_connection : Nat) (t_connection_meter : Nat) (t_connection_meter_registers : Nat) (t_connection_meter_profile : Nat) (t_connection_meter_profile_columns : Nat) (t_connection_meter_profile_ring : Nat) (t_connection_request : Nat) (t_connection_request_bytes : Nat) (t_connection_latest : Nat) (t_connection_latest_bytes : Nat) (t_connection_value : Nat) (t_connection_value_bytes : Nat) (t_line_bytes_c : ClassId) (t_answered_bytes_c : ClassId) (t_connection_meter_registers_c : ClassId) (t_connection_meter_profile_columns_c : ClassId) (t_connection_meter_profile_ring_c : ClassId) (t_connection_request_bytes_c : ClassId) (t_connection_latest_bytes_c : ClassId) (t_connection_value_bytes_c : ClassId) (t_line_size : Int32) (t_line_bytes_f : Nat → Int32) (t_answered_size : Int32) (t_answered_bytes_f : Nat → Int32) (t_asker_s : Int32) (t_asker_r : Int32) (t_connection_secret : Int32) (t_connection_connected : Int32) (t_connection_expected : Int32) (t_connection_next : Int32) (t_connection_association : Int32) (t_connection_blocksSent : Int32) (t_connection_meter_now : Int32) (t_connection_meter_registers_f : Nat → Int32) (t_connection_meter_profile_columnCount : Int32) (t_connection_meter_profile_capacity : Int32) (t_connection_meter_profile_period : Int32) (t_connection_meter_profile_first : Int32) (t_connection_meter_profile_size : Int32) (t_connection_meter_profile_columns_f : Nat → Int32) (t_connection_meter_profile_ring_f : Nat → Int32) (t_connection_request_size : Int32) (t_connection_request_bytes_f : Nat → Int32) (t_connection_latest_size : Int32) (t_connection_latest_bytes_f : Nat → Int32) (t_connection_value_size : Int32) (t_connection_value_bytes_f : Nat → Int32) (i1 : Int32) (r : Nat × Int32) (hm : mm_Lp_register F i1 t_connection_meter_registers_f = some r) (h0 : ¬ r.1 = 0) :
    bx_CT l my_Lp_register mb_Lp_register 2 (some .int) bx_rm D [.ref t, .int i1] [(t_line_bytes_c, .int), (t_answered_bytes_c, .int), (t_connection_meter_registers_c, .int), (t_connection_meter_profile_columns_c, .int), (t_connection_meter_profile_ring_c, .int), (t_connection_request_bytes_c, .int), (t_connection_latest_bytes_c, .int), (t_connection_value_bytes_c, .int)] [(t, .inr (5, [.ref t_line, .ref t_answered, .ref t_asker, .ref t_connection, .ref t_connection_meter])), (t_line, .inr (4, [.ref t_line_bytes, .int t_line_size])), (t_line_bytes, .inl (t_line_bytes_c, 80, .inl t_line_bytes_f)), (t_answered, .inr (4, [.ref t_answered_bytes, .int t_answered_size])), (t_answered_bytes, .inl (t_answered_bytes_c, 80, .inl t_answered_bytes_f)), (t_asker, .inr (0, [.int t_asker_s, .int t_asker_r])), (t_connection, .inr (1, [.int t_connection_secret, .ref t_connection_meter, .ref t_connection_request, .ref t_connection_latest, .ref t_connection_value, .int t_connection_connected, .int t_connection_expected, .int t_connection_next, .int t_connection_association, .int t_connection_blocksSent])), (t_connection_meter, .inr (2, [.ref t_connection_meter_registers, .ref t_connection_meter_profile, .int t_connection_meter_now])), (t_connection_meter_registers, .inl (t_connection_meter_registers_c, 3, .inl t_connection_meter_registers_f)), (t_connection_meter_profile, .inr (3, [.ref t_connection_meter_profile_columns, .ref t_connection_meter_profile_ring, .int t_connection_meter_profile_columnCount, .int t_connection_meter_profile_capacity, .int t_connection_meter_profile_period, .int t_connection_meter_profile_first, .int t_connection_meter_profile_size])), (t_connection_meter_profile_columns, .inl (t_connection_meter_profile_columns_c, 3, .inl t_connection_meter_profile_columns_f)), (t_connection_meter_profile_ring, .inl (t_connection_meter_profile_ring_c, 48, .inl t_connection_meter_profile_ring_f)), (t_connection_request, .inr (4, [.ref t_connection_request_bytes, .int t_connection_request_size])), (t_connection_request_bytes, .inl (t_connection_request_bytes_c, 60, .inl t_connection_request_bytes_f)), (t_connection_latest, .inr (4, [.ref t_connection_latest_bytes, .int t_connection_latest_size])), (t_connection_latest_bytes, .inl (t_connection_latest_bytes_c, 80, .inl t_connection_latest_bytes_f)), (t_connection_value, .inr (4, [.ref t_connection_value_bytes, .int t_connection_value_size])), (t_connection_value_bytes, .inl (t_connection_value_bytes_c, 266, .inl t_connection_value_bytes_f))] (bx_ex r.1) := by
  refine bx_CT.mk hfl (by decide +kernel) (bs_ler rfl) ?_
  intro p e s m below meth c ls hx htr hb hml hlk hex hown hB hN hZ hP0 hK hl
  refine bs_genQ (fun Q hQ => ?_)
  have hS := va_S.rf (A := bx_S0 s) (H0 := s.heap)
  have hP := hP0
  have hl : lv_has ls 2 [(0, .ref t), (1, .int i1)] := hl
  have hm := (mq_Lp_register F i1 t_connection_meter_registers_f).symm.trans hm
  refine lv_iload_n hx hb dc_Lp_register_0 rfl (lv_at hl 1 rfl) ?_
  obtain ⟨x1, hx1, hm⟩ := bs_bind hm
  refine bs_callSi 1 [] (fun _ => []) [] hx hb hml hown hB hN hK bx_nilP bx_nilD hS (fun _ h => h) (ct_Mt_isRegister l D F i1 x1 hx1) kw_cd_Mt_isRegister kw_ml_Lp_50 kw_st_Mt_isRegister kw_in_Mt kd_Mt_isRegister (by decide) [] [] rfl rfl (by decide) [] rfl [] (by decide) (fun _ => rfl) rfl hl.1 (bs_ler rfl) (by decide) dc_Lp_register_1 rfl (fun v1q _ H locs hq1 _ _ hS => ?_)
  have hP := bx_keep hP0 hS
  have hq1 := hq1.symm
  subst hq1
  refine lv_if_ne (tgt := 15) hx hb dc_Lp_register_4 (by decide) (fun h4 => ?_) (fun h4 => ?_)
  · have hm := bs_neg h4 hm
    obtain ⟨hz25, hm⟩ := bs_nn hm
    cases hm
    exact bx_dead h0 rfl
  · have hm := bs_pos h4 hm
    cases hm
    subst hQ
    exact bx_throw bx_at_IOB kx_cl_IOB kx_in_IOB kx_is_IOB kx_fit_IOB hx htr hb hml hlk hex hown hB hZ hl.1 (by decide) hS dc_Lp_register_7 dc_Lp_register_10 dc_Lp_register_11 dc_Lp_register_14

set_option maxHeartbeats 2000000 in
set_option maxRecDepth 100000 in
theorem cx_Lp_entry (l : Launch) (hfl : l.flags = pinnedFlags ++ [noTraceFlag]) (D : va_G) (F : Nat) (t : Nat) (t_line : Nat) (t_line_bytes : Nat) (t_answered : Nat) (t_answered_bytes : Nat) (t_asker : Nat) (t_connection : Nat) (t_connection_meter : Nat) (t_connection_meter_registers : Nat) (t_connection_meter_profile : Nat) (t_connection_meter_profile_columns : Nat) (t_connection_meter_profile_ring : Nat) (t_connection_request : Nat) (t_connection_request_bytes : Nat) (t_connection_latest : Nat) (t_connection_latest_bytes : Nat) (t_connection_value : Nat) (t_connection_value_bytes : Nat) (t_line_bytes_c : ClassId) (t_answered_bytes_c : ClassId) (t_connection_meter_registers_c : ClassId) (t_connection_meter_profile_columns_c : ClassId) (t_connection_meter_profile_ring_c : ClassId) (t_connection_request_bytes_c : ClassId) (t_connection_latest_bytes_c : ClassId) (t_connection_value_bytes_c : ClassId) (t_line_size : Int32) (t_line_bytes_f : Nat → Int32) (t_answered_size : Int32) (t_answered_bytes_f : Nat → Int32) (t_asker_s : Int32) (t_asker_r : Int32) (t_connection_secret : Int32) (t_connection_connected : Int32) (t_connection_expected : Int32) (t_connection_next : Int32) (t_connection_association : Int32) (t_connection_blocksSent : Int32) (t_connection_meter_now : Int32) (t_connection_meter_registers_f : Nat → Int32) (t_connection_meter_profile_columnCount : Int32) (t_connection_meter_profile_capacity : Int32) (t_connection_meter_profile_period : Int32) (t_connection_meter_profile_first : Int32) (t_connection_meter_profile_size : Int32) (t_connection_meter_profile_columns_f : Nat → Int32) (t_connection_meter_profile_ring_f : Nat → Int32) (t_connection_request_size : Int32) (t_connection_request_bytes_f : Nat → Int32) (t_connection_latest_size : Int32) (t_connection_latest_bytes_f : Nat → Int32) (t_connection_value_size : Int32) (t_connection_value_bytes_f : Nat → Int32) (i1 : Int32) (i2 : Int32) (r : Nat × Int32) (hm : mm_Lp_entry F i1 i2 t_connection_meter_profile_columnCount t_connection_meter_profile_first t_connection_meter_profile_size t_connection_meter_profile_ring_f = some r) (h0 : ¬ r.1 = 0) :
    bx_CT l my_Lp_entry mb_Lp_entry 3 (some .int) bx_rm D [.ref t, .int i1, .int i2] [(t_line_bytes_c, .int), (t_answered_bytes_c, .int), (t_connection_meter_registers_c, .int), (t_connection_meter_profile_columns_c, .int), (t_connection_meter_profile_ring_c, .int), (t_connection_request_bytes_c, .int), (t_connection_latest_bytes_c, .int), (t_connection_value_bytes_c, .int)] [(t, .inr (5, [.ref t_line, .ref t_answered, .ref t_asker, .ref t_connection, .ref t_connection_meter])), (t_line, .inr (4, [.ref t_line_bytes, .int t_line_size])), (t_line_bytes, .inl (t_line_bytes_c, 80, .inl t_line_bytes_f)), (t_answered, .inr (4, [.ref t_answered_bytes, .int t_answered_size])), (t_answered_bytes, .inl (t_answered_bytes_c, 80, .inl t_answered_bytes_f)), (t_asker, .inr (0, [.int t_asker_s, .int t_asker_r])), (t_connection, .inr (1, [.int t_connection_secret, .ref t_connection_meter, .ref t_connection_request, .ref t_connection_latest, .ref t_connection_value, .int t_connection_connected, .int t_connection_expected, .int t_connection_next, .int t_connection_association, .int t_connection_blocksSent])), (t_connection_meter, .inr (2, [.ref t_connection_meter_registers, .ref t_connection_meter_profile, .int t_connection_meter_now])), (t_connection_meter_registers, .inl (t_connection_meter_registers_c, 3, .inl t_connection_meter_registers_f)), (t_connection_meter_profile, .inr (3, [.ref t_connection_meter_profile_columns, .ref t_connection_meter_profile_ring, .int t_connection_meter_profile_columnCount, .int t_connection_meter_profile_capacity, .int t_connection_meter_profile_period, .int t_connection_meter_profile_first, .int t_connection_meter_profile_size])), (t_connection_meter_profile_columns, .inl (t_connection_meter_profile_columns_c, 3, .inl t_connection_meter_profile_columns_f)), (t_connection_meter_profile_ring, .inl (t_connection_meter_profile_ring_c, 48, .inl t_connection_meter_profile_ring_f)), (t_connection_request, .inr (4, [.ref t_connection_request_bytes, .int t_connection_request_size])), (t_connection_request_bytes, .inl (t_connection_request_bytes_c, 60, .inl t_connection_request_bytes_f)), (t_connection_latest, .inr (4, [.ref t_connection_latest_bytes, .int t_connection_latest_size])), (t_connection_latest_bytes, .inl (t_connection_latest_bytes_c, 80, .inl t_connection_latest_bytes_f)), (t_connection_value, .inr (4, [.ref t_connection_value_bytes, .int t_connection_value_size])), (t_connection_value_bytes, .inl (t_connection_value_bytes_c, 266, .inl t_connection_value_bytes_f))] (bx_ex r.1) := by
  refine bx_CT.mk hfl (by decide +kernel) (bs_ler rfl) ?_
  intro p e s m below meth c ls hx htr hb hml hlk hex hown hB hN hZ hP0 hK hl
  refine bs_genQ (fun Q hQ => ?_)
  have hS := va_S.rf (A := bx_S0 s) (H0 := s.heap)
  have hP := hP0
  have hl : lv_has ls 3 [(0, .ref t), (1, .int i1), (2, .int i2)] := hl
  have hm := (mq_Lp_entry F i1 i2 t_connection_meter_profile_columnCount t_connection_meter_profile_first t_connection_meter_profile_size t_connection_meter_profile_ring_f).symm.trans hm
  refine lv_iload_n hx hb dc_Lp_entry_0 rfl (lv_at hl 1 rfl) ?_
  refine lv_if_lt (tgt := 18) hx hb dc_Lp_entry_1 (by decide) (fun h1 => ?_) (fun h1 => ?_)
  · have hm := bs_pos h1 hm
    cases hm
    subst hQ
    exact bx_throw bx_at_IOB kx_cl_IOB kx_in_IOB kx_is_IOB kx_fit_IOB hx htr hb hml hlk hex hown hB hZ hl.1 (by decide) hS dc_Lp_entry_18 dc_Lp_entry_21 dc_Lp_entry_22 dc_Lp_entry_25
  · have hm := bs_neg h1 hm
    refine lv_iload_n hx hb dc_Lp_entry_4 rfl (lv_at hl 1 rfl) ?_
    refine lv_aload_n hx hb dc_Lp_entry_5 rfl (lv_at hl 0 rfl) ?_
    refine va_get (ci := 5) (v := .ref t_connection_meter) (C := cn_Lp) (T := cf_Lp) (N := 5) hx hb hB ki_Lp hown hK hP 0 rfl rfl 4 (by decide) (hB _ kw_fl_Lp_41) (fun _ h => h) rfl dc_Lp_entry_6 ?_
    refine va_getN (ci := 2) (v := .ref t_connection_meter_profile) (C := cn_Mt) (T := cf_Mt) (N := 3) hx hb hB ki_Mt hown hK hP 7 rfl rfl 1 (by decide) (hN.use kn_Lp_65) (fun _ h => h) rfl dc_Lp_entry_9 ?_
    refine va_getN (ci := 3) (v := .int t_connection_meter_profile_size) (C := cn_Pf) (T := cf_Pf) (N := 7) hx hb hB ki_Pf hown hK hP 9 rfl rfl 6 (by decide) (hN.use kn_Lp_69) (fun _ h => h) rfl dc_Lp_entry_12 ?_
    refine lv_icmp_lt (tgt := 26) hx hb dc_Lp_entry_15 (by decide) (fun h15 => ?_) (fun h15 => ?_)
    · have hm := bs_pos h15 hm
      refine lv_iload_n hx hb dc_Lp_entry_26 rfl (lv_at hl 2 rfl) ?_
      refine lv_if_lt (tgt := 44) hx hb dc_Lp_entry_27 (by decide) (fun h27 => ?_) (fun h27 => ?_)
      · have hm := bs_pos h27 hm
        cases hm
        subst hQ
        exact bx_throw bx_at_NSE kx_cl_NSE kx_in_NSE kx_is_NSE kx_fit_NSE hx htr hb hml hlk hex hown hB hZ hl.1 (by decide) hS dc_Lp_entry_44 dc_Lp_entry_47 dc_Lp_entry_48 dc_Lp_entry_51
      · have hm := bs_neg h27 hm
        refine lv_iload_n hx hb dc_Lp_entry_30 rfl (lv_at hl 2 rfl) ?_
        refine lv_aload_n hx hb dc_Lp_entry_31 rfl (lv_at hl 0 rfl) ?_
        refine va_get (ci := 5) (v := .ref t_connection_meter) (C := cn_Lp) (T := cf_Lp) (N := 5) hx hb hB ki_Lp hown hK hP 0 rfl rfl 4 (by decide) (hB _ kw_fl_Lp_41) (fun _ h => h) rfl dc_Lp_entry_32 ?_
        refine va_getN (ci := 2) (v := .ref t_connection_meter_profile) (C := cn_Mt) (T := cf_Mt) (N := 3) hx hb hB ki_Mt hown hK hP 7 rfl rfl 1 (by decide) (hN.use kn_Lp_65) (fun _ h => h) rfl dc_Lp_entry_35 ?_
        refine va_getN (ci := 3) (v := .int t_connection_meter_profile_columnCount) (C := cn_Pf) (T := cf_Pf) (N := 7) hx hb hB ki_Pf hown hK hP 9 rfl rfl 2 (by decide) (hN.use kn_Lp_74) (fun _ h => h) rfl dc_Lp_entry_38 ?_
        refine lv_icmp_le (tgt := 52) hx hb dc_Lp_entry_41 (by decide) (fun h41 => ?_) (fun h41 => ?_)
        · have hm := bs_pos h41 hm
          obtain ⟨x61, hx61, hm⟩ := bs_bind hm
          cases hm
          exact bx_dead h0 rfl
        · have hm := bs_neg h41 hm
          cases hm
          subst hQ
          exact bx_throw bx_at_NSE kx_cl_NSE kx_in_NSE kx_is_NSE kx_fit_NSE hx htr hb hml hlk hex hown hB hZ hl.1 (by decide) hS dc_Lp_entry_44 dc_Lp_entry_47 dc_Lp_entry_48 dc_Lp_entry_51
    · have hm := bs_neg h15 hm
      cases hm
      subst hQ
      exact bx_throw bx_at_IOB kx_cl_IOB kx_in_IOB kx_is_IOB kx_fit_IOB hx htr hb hml hlk hex hown hB hZ hl.1 (by decide) hS dc_Lp_entry_18 dc_Lp_entry_21 dc_Lp_entry_22 dc_Lp_entry_25

set_option maxHeartbeats 2000000 in
set_option maxRecDepth 100000 in
theorem cx_Lp_put (l : Launch) (hfl : l.flags = pinnedFlags ++ [noTraceFlag]) (D : va_G) (F : Nat) (t : Nat) (t_line : Nat) (t_line_bytes : Nat) (t_answered : Nat) (t_answered_bytes : Nat) (t_asker : Nat) (t_connection : Nat) (t_connection_meter : Nat) (t_connection_meter_registers : Nat) (t_connection_meter_profile : Nat) (t_connection_meter_profile_columns : Nat) (t_connection_meter_profile_ring : Nat) (t_connection_request : Nat) (t_connection_request_bytes : Nat) (t_connection_latest : Nat) (t_connection_latest_bytes : Nat) (t_connection_value : Nat) (t_connection_value_bytes : Nat) (t_line_bytes_c : ClassId) (t_answered_bytes_c : ClassId) (t_connection_meter_registers_c : ClassId) (t_connection_meter_profile_columns_c : ClassId) (t_connection_meter_profile_ring_c : ClassId) (t_connection_request_bytes_c : ClassId) (t_connection_latest_bytes_c : ClassId) (t_connection_value_bytes_c : ClassId) (t_line_size : Int32) (t_line_bytes_f : Nat → Int32) (t_answered_size : Int32) (t_answered_bytes_f : Nat → Int32) (t_asker_s : Int32) (t_asker_r : Int32) (t_connection_secret : Int32) (t_connection_connected : Int32) (t_connection_expected : Int32) (t_connection_next : Int32) (t_connection_association : Int32) (t_connection_blocksSent : Int32) (t_connection_meter_now : Int32) (t_connection_meter_registers_f : Nat → Int32) (t_connection_meter_profile_columnCount : Int32) (t_connection_meter_profile_capacity : Int32) (t_connection_meter_profile_period : Int32) (t_connection_meter_profile_first : Int32) (t_connection_meter_profile_size : Int32) (t_connection_meter_profile_columns_f : Nat → Int32) (t_connection_meter_profile_ring_f : Nat → Int32) (t_connection_request_size : Int32) (t_connection_request_bytes_f : Nat → Int32) (t_connection_latest_size : Int32) (t_connection_latest_bytes_f : Nat → Int32) (t_connection_value_size : Int32) (t_connection_value_bytes_f : Nat → Int32) (i1 : Int32) (r : Nat × Int32 × Int32 × (Nat → Int32)) (hm : mm_Lp_put F i1 t_line_size t_line_bytes_f = some r) (h0 : ¬ r.1 = 0) :
    bx_CT l my_Lp_put mb_Lp_put 2 (some .int) bx_rm D [.ref t, .int i1] [(t_line_bytes_c, .int), (t_answered_bytes_c, .int), (t_connection_meter_registers_c, .int), (t_connection_meter_profile_columns_c, .int), (t_connection_meter_profile_ring_c, .int), (t_connection_request_bytes_c, .int), (t_connection_latest_bytes_c, .int), (t_connection_value_bytes_c, .int)] [(t, .inr (5, [.ref t_line, .ref t_answered, .ref t_asker, .ref t_connection, .ref t_connection_meter])), (t_line, .inr (4, [.ref t_line_bytes, .int t_line_size])), (t_line_bytes, .inl (t_line_bytes_c, 80, .inl t_line_bytes_f)), (t_answered, .inr (4, [.ref t_answered_bytes, .int t_answered_size])), (t_answered_bytes, .inl (t_answered_bytes_c, 80, .inl t_answered_bytes_f)), (t_asker, .inr (0, [.int t_asker_s, .int t_asker_r])), (t_connection, .inr (1, [.int t_connection_secret, .ref t_connection_meter, .ref t_connection_request, .ref t_connection_latest, .ref t_connection_value, .int t_connection_connected, .int t_connection_expected, .int t_connection_next, .int t_connection_association, .int t_connection_blocksSent])), (t_connection_meter, .inr (2, [.ref t_connection_meter_registers, .ref t_connection_meter_profile, .int t_connection_meter_now])), (t_connection_meter_registers, .inl (t_connection_meter_registers_c, 3, .inl t_connection_meter_registers_f)), (t_connection_meter_profile, .inr (3, [.ref t_connection_meter_profile_columns, .ref t_connection_meter_profile_ring, .int t_connection_meter_profile_columnCount, .int t_connection_meter_profile_capacity, .int t_connection_meter_profile_period, .int t_connection_meter_profile_first, .int t_connection_meter_profile_size])), (t_connection_meter_profile_columns, .inl (t_connection_meter_profile_columns_c, 3, .inl t_connection_meter_profile_columns_f)), (t_connection_meter_profile_ring, .inl (t_connection_meter_profile_ring_c, 48, .inl t_connection_meter_profile_ring_f)), (t_connection_request, .inr (4, [.ref t_connection_request_bytes, .int t_connection_request_size])), (t_connection_request_bytes, .inl (t_connection_request_bytes_c, 60, .inl t_connection_request_bytes_f)), (t_connection_latest, .inr (4, [.ref t_connection_latest_bytes, .int t_connection_latest_size])), (t_connection_latest_bytes, .inl (t_connection_latest_bytes_c, 80, .inl t_connection_latest_bytes_f)), (t_connection_value, .inr (4, [.ref t_connection_value_bytes, .int t_connection_value_size])), (t_connection_value_bytes, .inl (t_connection_value_bytes_c, 266, .inl t_connection_value_bytes_f))] (bx_ex r.1) := by
  refine bx_CT.mk hfl (by decide +kernel) (bs_ler rfl) ?_
  intro p e s m below meth c ls hx htr hb hml hlk hex hown hB hN hZ hP0 hK hl
  refine bs_genQ (fun Q hQ => ?_)
  have hS := va_S.rf (A := bx_S0 s) (H0 := s.heap)
  have hP := hP0
  have hl : lv_has ls 2 [(0, .ref t), (1, .int i1)] := hl
  have hm := (mq_Lp_put F i1 t_line_size t_line_bytes_f).symm.trans hm
  refine lv_iload_n hx hb dc_Lp_put_0 rfl (lv_at hl 1 rfl) ?_
  obtain ⟨x1, hx1, hm⟩ := bs_bind hm
  refine bs_callSi 1 [] (fun _ => []) [] hx hb hml hown hB hN hK bx_nilP bx_nilD hS (fun _ h => h) (ct_Rw_isByte l D F i1 x1 hx1) kw_cd_Rw_isByte kw_ml_Lp_88 kw_st_Rw_isByte kw_in_Rw kd_Rw_isByte (by decide) [] [] rfl rfl (by decide) [] rfl [] (by decide) (fun _ => rfl) rfl hl.1 (bs_ler rfl) (by decide) dc_Lp_put_1 rfl (fun v1q _ H locs hq1 _ _ hS => ?_)
  have hP := bx_keep hP0 hS
  have hq1 := hq1.symm
  subst hq1
  refine lv_if_ne (tgt := 15) hx hb dc_Lp_put_4 (by decide) (fun h4 => ?_) (fun h4 => ?_)
  · have hm := bs_neg h4 hm
    refine lv_aload_n hx hb dc_Lp_put_15 rfl (lv_at hl 0 rfl) ?_
    refine va_get (ci := 5) (v := .ref t_line) (C := cn_Lp) (T := cf_Lp) (N := 5) hx hb hB ki_Lp hown hK hP 0 rfl rfl 0 (by decide) (hB _ kw_fl_Lp_14) (fun _ h => h) rfl dc_Lp_put_16 ?_
    refine va_getN (ci := 4) (v := .int t_line_size) (C := cn_Rw) (T := cf_Rw) (N := 2) hx hb hB ki_Rw hown hK hP 1 rfl rfl 1 (by decide) (hN.use kn_Lp_91) (fun _ h => h) rfl dc_Lp_put_19 ?_
    refine lv_bipush (v := 80) hx hb dc_Lp_put_22 (by decide +kernel) ?_
    refine lv_icmp_lt (tgt := 35) hx hb dc_Lp_put_24 (by decide) (fun h24 => ?_) (fun h24 => ?_)
    · have hm := bs_pos h24 hm
      obtain ⟨x40, hx40, hm⟩ := bs_bind hm
      cases hm
      exact bx_dead h0 rfl
    · have hm := bs_neg h24 hm
      cases hm
      subst hQ
      exact bx_throw bx_at_ISE kx_cl_ISE kx_in_ISE kx_is_ISE kx_fit_ISE hx htr hb hml hlk hex hown hB hZ hl.1 (by decide) hS dc_Lp_put_27 dc_Lp_put_30 dc_Lp_put_31 dc_Lp_put_34
  · have hm := bs_pos h4 hm
    cases hm
    subst hQ
    exact bx_throw bx_at_IAE kx_cl_IAE kx_in_IAE kx_is_IAE kx_fit_IAE hx htr hb hml hlk hex hown hB hZ hl.1 (by decide) hS dc_Lp_put_7 dc_Lp_put_10 dc_Lp_put_11 dc_Lp_put_14
theorem cy_Lp_put (F : Nat) (i1 : Int32) (t_line_size : Int32) (t_line_bytes_f : Nat → Int32) {r : Nat × Int32 × Int32 × (Nat → Int32)} (hm : mm_Lp_put F i1 t_line_size t_line_bytes_f = some r) (h0 : ¬ r.1 = 0) : r.2.2.1 = t_line_size ∧ r.2.2.2 = t_line_bytes_f := by
  have hm := (mq_Lp_put F i1 t_line_size t_line_bytes_f).symm.trans hm
  obtain ⟨x1, _, hm⟩ := bs_bind hm
  by_cases hc1 : x1 = 0
  · have hm := bs_pos hc1 hm
    cases hm
    exact ⟨rfl, rfl⟩
  · have hm := bs_neg hc1 hm
    by_cases hc2 : t_line_size < 80
    · have hm := bs_pos hc2 hm
      obtain ⟨x40, _, hm⟩ := bs_bind hm
      cases hm
      exact absurd rfl h0
    · have hm := bs_neg hc2 hm
      cases hm
      exact ⟨rfl, rfl⟩

set_option maxHeartbeats 2000000 in
set_option maxRecDepth 100000 in
theorem cx_Lp_putInt (l : Launch) (hfl : l.flags = pinnedFlags ++ [noTraceFlag]) (D : va_G) (F : Nat) (t : Nat) (t_line : Nat) (t_line_bytes : Nat) (t_answered : Nat) (t_answered_bytes : Nat) (t_asker : Nat) (t_connection : Nat) (t_connection_meter : Nat) (t_connection_meter_registers : Nat) (t_connection_meter_profile : Nat) (t_connection_meter_profile_columns : Nat) (t_connection_meter_profile_ring : Nat) (t_connection_request : Nat) (t_connection_request_bytes : Nat) (t_connection_latest : Nat) (t_connection_latest_bytes : Nat) (t_connection_value : Nat) (t_connection_value_bytes : Nat) (t_line_bytes_c : ClassId) (t_answered_bytes_c : ClassId) (t_connection_meter_registers_c : ClassId) (t_connection_meter_profile_columns_c : ClassId) (t_connection_meter_profile_ring_c : ClassId) (t_connection_request_bytes_c : ClassId) (t_connection_latest_bytes_c : ClassId) (t_connection_value_bytes_c : ClassId) (t_line_size : Int32) (t_line_bytes_f : Nat → Int32) (t_answered_size : Int32) (t_answered_bytes_f : Nat → Int32) (t_asker_s : Int32) (t_asker_r : Int32) (t_connection_secret : Int32) (t_connection_connected : Int32) (t_connection_expected : Int32) (t_connection_next : Int32) (t_connection_association : Int32) (t_connection_blocksSent : Int32) (t_connection_meter_now : Int32) (t_connection_meter_registers_f : Nat → Int32) (t_connection_meter_profile_columnCount : Int32) (t_connection_meter_profile_capacity : Int32) (t_connection_meter_profile_period : Int32) (t_connection_meter_profile_first : Int32) (t_connection_meter_profile_size : Int32) (t_connection_meter_profile_columns_f : Nat → Int32) (t_connection_meter_profile_ring_f : Nat → Int32) (t_connection_request_size : Int32) (t_connection_request_bytes_f : Nat → Int32) (t_connection_latest_size : Int32) (t_connection_latest_bytes_f : Nat → Int32) (t_connection_value_size : Int32) (t_connection_value_bytes_f : Nat → Int32) (i1 : Int32) (r : Nat × Int32 × Int32 × (Nat → Int32)) (hm : mm_Lp_putInt F i1 t_line_size t_line_bytes_f = some r) (h0 : ¬ r.1 = 0) :
    bx_CT l my_Lp_putInt mb_Lp_putInt 2 (some .int) bx_rm D [.ref t, .int i1] [(t_line_bytes_c, .int), (t_answered_bytes_c, .int), (t_connection_meter_registers_c, .int), (t_connection_meter_profile_columns_c, .int), (t_connection_meter_profile_ring_c, .int), (t_connection_request_bytes_c, .int), (t_connection_latest_bytes_c, .int), (t_connection_value_bytes_c, .int)] [(t, .inr (5, [.ref t_line, .ref t_answered, .ref t_asker, .ref t_connection, .ref t_connection_meter])), (t_line, .inr (4, [.ref t_line_bytes, .int t_line_size])), (t_line_bytes, .inl (t_line_bytes_c, 80, .inl t_line_bytes_f)), (t_answered, .inr (4, [.ref t_answered_bytes, .int t_answered_size])), (t_answered_bytes, .inl (t_answered_bytes_c, 80, .inl t_answered_bytes_f)), (t_asker, .inr (0, [.int t_asker_s, .int t_asker_r])), (t_connection, .inr (1, [.int t_connection_secret, .ref t_connection_meter, .ref t_connection_request, .ref t_connection_latest, .ref t_connection_value, .int t_connection_connected, .int t_connection_expected, .int t_connection_next, .int t_connection_association, .int t_connection_blocksSent])), (t_connection_meter, .inr (2, [.ref t_connection_meter_registers, .ref t_connection_meter_profile, .int t_connection_meter_now])), (t_connection_meter_registers, .inl (t_connection_meter_registers_c, 3, .inl t_connection_meter_registers_f)), (t_connection_meter_profile, .inr (3, [.ref t_connection_meter_profile_columns, .ref t_connection_meter_profile_ring, .int t_connection_meter_profile_columnCount, .int t_connection_meter_profile_capacity, .int t_connection_meter_profile_period, .int t_connection_meter_profile_first, .int t_connection_meter_profile_size])), (t_connection_meter_profile_columns, .inl (t_connection_meter_profile_columns_c, 3, .inl t_connection_meter_profile_columns_f)), (t_connection_meter_profile_ring, .inl (t_connection_meter_profile_ring_c, 48, .inl t_connection_meter_profile_ring_f)), (t_connection_request, .inr (4, [.ref t_connection_request_bytes, .int t_connection_request_size])), (t_connection_request_bytes, .inl (t_connection_request_bytes_c, 60, .inl t_connection_request_bytes_f)), (t_connection_latest, .inr (4, [.ref t_connection_latest_bytes, .int t_connection_latest_size])), (t_connection_latest_bytes, .inl (t_connection_latest_bytes_c, 80, .inl t_connection_latest_bytes_f)), (t_connection_value, .inr (4, [.ref t_connection_value_bytes, .int t_connection_value_size])), (t_connection_value_bytes, .inl (t_connection_value_bytes_c, 266, .inl t_connection_value_bytes_f))] (bx_ex r.1) := by
  refine bx_CT.mk hfl (by decide +kernel) (bs_ler rfl) ?_
  intro p e s m below meth c ls hx htr hb hml hlk hex hown hB hN hZ hP0 hK hl
  refine bs_genQ (fun Q hQ => ?_)
  have hS := va_S.rf (A := bx_S0 s) (H0 := s.heap)
  have hP := hP0
  have hl : lv_has ls 2 [(0, .ref t), (1, .int i1)] := hl
  have hm := (mq_Lp_putInt F i1 t_line_size t_line_bytes_f).symm.trans hm
  refine lv_aload_n hx hb dc_Lp_putInt_0 rfl (lv_at hl 0 rfl) ?_
  refine va_get (ci := 5) (v := .ref t_line) (C := cn_Lp) (T := cf_Lp) (N := 5) hx hb hB ki_Lp hown hK hP 0 rfl rfl 0 (by decide) (hB _ kw_fl_Lp_14) (fun _ h => h) rfl dc_Lp_putInt_1 ?_
  refine va_getN (ci := 4) (v := .int t_line_size) (C := cn_Rw) (T := cf_Rw) (N := 2) hx hb hB ki_Rw hown hK hP 1 rfl rfl 1 (by decide) (hN.use kn_Lp_91) (fun _ h => h) rfl dc_Lp_putInt_4 ?_
  refine lv_iconst (v := 4) hx hb dc_Lp_putInt_7 (by decide +kernel) ?_
  refine lv_iadd hx hb dc_Lp_putInt_8 ?_
  refine lv_bipush (v := 80) hx hb dc_Lp_putInt_9 (by decide +kernel) ?_
  refine lv_icmp_le (tgt := 22) hx hb dc_Lp_putInt_11 (by decide) (fun h11 => ?_) (fun h11 => ?_)
  · have hm := bs_pos h11 hm
    obtain ⟨x27, hx27, hm⟩ := bs_bind hm
    cases hm
    exact bx_dead h0 rfl
  · have hm := bs_neg h11 hm
    cases hm
    subst hQ
    exact bx_throw bx_at_ISE kx_cl_ISE kx_in_ISE kx_is_ISE kx_fit_ISE hx htr hb hml hlk hex hown hB hZ hl.1 (by decide) hS dc_Lp_putInt_14 dc_Lp_putInt_17 dc_Lp_putInt_18 dc_Lp_putInt_21
theorem cy_Lp_putInt (F : Nat) (i1 : Int32) (t_line_size : Int32) (t_line_bytes_f : Nat → Int32) {r : Nat × Int32 × Int32 × (Nat → Int32)} (hm : mm_Lp_putInt F i1 t_line_size t_line_bytes_f = some r) (h0 : ¬ r.1 = 0) : r.2.2.1 = t_line_size ∧ r.2.2.2 = t_line_bytes_f := by
  have hm := (mq_Lp_putInt F i1 t_line_size t_line_bytes_f).symm.trans hm
  by_cases hc1 : (t_line_size + 4) ≤ 80
  · have hm := bs_pos hc1 hm
    obtain ⟨x27, _, hm⟩ := bs_bind hm
    cases hm
    exact absurd rfl h0
  · have hm := bs_neg hc1 hm
    cases hm
    exact ⟨rfl, rfl⟩

set_option maxHeartbeats 2000000 in
set_option maxRecDepth 100000 in
theorem cx_Lp_poke (l : Launch) (hfl : l.flags = pinnedFlags ++ [noTraceFlag]) (D : va_G) (F : Nat) (t : Nat) (t_line : Nat) (t_line_bytes : Nat) (t_answered : Nat) (t_answered_bytes : Nat) (t_asker : Nat) (t_connection : Nat) (t_connection_meter : Nat) (t_connection_meter_registers : Nat) (t_connection_meter_profile : Nat) (t_connection_meter_profile_columns : Nat) (t_connection_meter_profile_ring : Nat) (t_connection_request : Nat) (t_connection_request_bytes : Nat) (t_connection_latest : Nat) (t_connection_latest_bytes : Nat) (t_connection_value : Nat) (t_connection_value_bytes : Nat) (t_line_bytes_c : ClassId) (t_answered_bytes_c : ClassId) (t_connection_meter_registers_c : ClassId) (t_connection_meter_profile_columns_c : ClassId) (t_connection_meter_profile_ring_c : ClassId) (t_connection_request_bytes_c : ClassId) (t_connection_latest_bytes_c : ClassId) (t_connection_value_bytes_c : ClassId) (t_line_size : Int32) (t_line_bytes_f : Nat → Int32) (t_answered_size : Int32) (t_answered_bytes_f : Nat → Int32) (t_asker_s : Int32) (t_asker_r : Int32) (t_connection_secret : Int32) (t_connection_connected : Int32) (t_connection_expected : Int32) (t_connection_next : Int32) (t_connection_association : Int32) (t_connection_blocksSent : Int32) (t_connection_meter_now : Int32) (t_connection_meter_registers_f : Nat → Int32) (t_connection_meter_profile_columnCount : Int32) (t_connection_meter_profile_capacity : Int32) (t_connection_meter_profile_period : Int32) (t_connection_meter_profile_first : Int32) (t_connection_meter_profile_size : Int32) (t_connection_meter_profile_columns_f : Nat → Int32) (t_connection_meter_profile_ring_f : Nat → Int32) (t_connection_request_size : Int32) (t_connection_request_bytes_f : Nat → Int32) (t_connection_latest_size : Int32) (t_connection_latest_bytes_f : Nat → Int32) (t_connection_value_size : Int32) (t_connection_value_bytes_f : Nat → Int32) (i1 : Int32) (i2 : Int32) (r : Nat × (Nat → Int32)) (hm : mm_Lp_poke F i1 i2 t_line_size t_line_bytes_f = some r) (h0 : ¬ r.1 = 0) :
    bx_CT l my_Lp_poke mb_Lp_poke 3 (none) bx_rm D [.ref t, .int i1, .int i2] [(t_line_bytes_c, .int), (t_answered_bytes_c, .int), (t_connection_meter_registers_c, .int), (t_connection_meter_profile_columns_c, .int), (t_connection_meter_profile_ring_c, .int), (t_connection_request_bytes_c, .int), (t_connection_latest_bytes_c, .int), (t_connection_value_bytes_c, .int)] [(t, .inr (5, [.ref t_line, .ref t_answered, .ref t_asker, .ref t_connection, .ref t_connection_meter])), (t_line, .inr (4, [.ref t_line_bytes, .int t_line_size])), (t_line_bytes, .inl (t_line_bytes_c, 80, .inl t_line_bytes_f)), (t_answered, .inr (4, [.ref t_answered_bytes, .int t_answered_size])), (t_answered_bytes, .inl (t_answered_bytes_c, 80, .inl t_answered_bytes_f)), (t_asker, .inr (0, [.int t_asker_s, .int t_asker_r])), (t_connection, .inr (1, [.int t_connection_secret, .ref t_connection_meter, .ref t_connection_request, .ref t_connection_latest, .ref t_connection_value, .int t_connection_connected, .int t_connection_expected, .int t_connection_next, .int t_connection_association, .int t_connection_blocksSent])), (t_connection_meter, .inr (2, [.ref t_connection_meter_registers, .ref t_connection_meter_profile, .int t_connection_meter_now])), (t_connection_meter_registers, .inl (t_connection_meter_registers_c, 3, .inl t_connection_meter_registers_f)), (t_connection_meter_profile, .inr (3, [.ref t_connection_meter_profile_columns, .ref t_connection_meter_profile_ring, .int t_connection_meter_profile_columnCount, .int t_connection_meter_profile_capacity, .int t_connection_meter_profile_period, .int t_connection_meter_profile_first, .int t_connection_meter_profile_size])), (t_connection_meter_profile_columns, .inl (t_connection_meter_profile_columns_c, 3, .inl t_connection_meter_profile_columns_f)), (t_connection_meter_profile_ring, .inl (t_connection_meter_profile_ring_c, 48, .inl t_connection_meter_profile_ring_f)), (t_connection_request, .inr (4, [.ref t_connection_request_bytes, .int t_connection_request_size])), (t_connection_request_bytes, .inl (t_connection_request_bytes_c, 60, .inl t_connection_request_bytes_f)), (t_connection_latest, .inr (4, [.ref t_connection_latest_bytes, .int t_connection_latest_size])), (t_connection_latest_bytes, .inl (t_connection_latest_bytes_c, 80, .inl t_connection_latest_bytes_f)), (t_connection_value, .inr (4, [.ref t_connection_value_bytes, .int t_connection_value_size])), (t_connection_value_bytes, .inl (t_connection_value_bytes_c, 266, .inl t_connection_value_bytes_f))] (bx_ex r.1) := by
  refine bx_CT.mk hfl (by decide +kernel) (bs_ler rfl) ?_
  intro p e s m below meth c ls hx htr hb hml hlk hex hown hB hN hZ hP0 hK hl
  refine bs_genQ (fun Q hQ => ?_)
  have hS := va_S.rf (A := bx_S0 s) (H0 := s.heap)
  have hP := hP0
  have hl : lv_has ls 3 [(0, .ref t), (1, .int i1), (2, .int i2)] := hl
  have hm := (mq_Lp_poke F i1 i2 t_line_size t_line_bytes_f).symm.trans hm
  refine lv_iload_n hx hb dc_Lp_poke_0 rfl (lv_at hl 1 rfl) ?_
  refine lv_if_lt (tgt := 15) hx hb dc_Lp_poke_1 (by decide) (fun h1 => ?_) (fun h1 => ?_)
  · have hm := bs_pos h1 hm
    cases hm
    subst hQ
    exact bx_throw bx_at_IOB kx_cl_IOB kx_in_IOB kx_is_IOB kx_fit_IOB hx htr hb hml hlk hex hown hB hZ hl.1 (by decide) hS dc_Lp_poke_15 dc_Lp_poke_18 dc_Lp_poke_19 dc_Lp_poke_22
  · have hm := bs_neg h1 hm
    refine lv_iload_n hx hb dc_Lp_poke_4 rfl (lv_at hl 1 rfl) ?_
    refine lv_aload_n hx hb dc_Lp_poke_5 rfl (lv_at hl 0 rfl) ?_
    refine va_get (ci := 5) (v := .ref t_line) (C := cn_Lp) (T := cf_Lp) (N := 5) hx hb hB ki_Lp hown hK hP 0 rfl rfl 0 (by decide) (hB _ kw_fl_Lp_14) (fun _ h => h) rfl dc_Lp_poke_6 ?_
    refine va_getN (ci := 4) (v := .int t_line_size) (C := cn_Rw) (T := cf_Rw) (N := 2) hx hb hB ki_Rw hown hK hP 1 rfl rfl 1 (by decide) (hN.use kn_Lp_91) (fun _ h => h) rfl dc_Lp_poke_9 ?_
    refine lv_icmp_lt (tgt := 23) hx hb dc_Lp_poke_12 (by decide) (fun h12 => ?_) (fun h12 => ?_)
    · have hm := bs_pos h12 hm
      refine lv_iload_n hx hb dc_Lp_poke_23 rfl (lv_at hl 2 rfl) ?_
      obtain ⟨x24, hx24, hm⟩ := bs_bind hm
      refine bs_callSi 1 [] (fun _ => []) [] hx hb hml hown hB hN hK bx_nilP bx_nilD hS (fun _ h => h) (ct_Rw_isByte l D F i2 x24 hx24) kw_cd_Rw_isByte kw_ml_Lp_88 kw_st_Rw_isByte kw_in_Rw kd_Rw_isByte (by decide) [] [] rfl rfl (by decide) [] rfl [] (by decide) (fun _ => rfl) rfl hl.1 (bs_ler rfl) (by decide) dc_Lp_poke_24 rfl (fun v24q _ H locs hq24 _ _ hS => ?_)
      have hP := bx_keep hP0 hS
      have hq24 := hq24.symm
      subst hq24
      refine lv_if_ne (tgt := 38) hx hb dc_Lp_poke_27 (by decide) (fun h27 => ?_) (fun h27 => ?_)
      · have hm := bs_neg h27 hm
        obtain ⟨x44, hx44, hm⟩ := bs_bind hm
        cases hm
        exact bx_dead h0 rfl
      · have hm := bs_pos h27 hm
        cases hm
        subst hQ
        exact bx_throw bx_at_IAE kx_cl_IAE kx_in_IAE kx_is_IAE kx_fit_IAE hx htr hb hml hlk hex hown hB hZ hl.1 (by decide) hS dc_Lp_poke_30 dc_Lp_poke_33 dc_Lp_poke_34 dc_Lp_poke_37
    · have hm := bs_neg h12 hm
      cases hm
      subst hQ
      exact bx_throw bx_at_IOB kx_cl_IOB kx_in_IOB kx_is_IOB kx_fit_IOB hx htr hb hml hlk hex hown hB hZ hl.1 (by decide) hS dc_Lp_poke_15 dc_Lp_poke_18 dc_Lp_poke_19 dc_Lp_poke_22
theorem cy_Lp_poke (F : Nat) (i1 : Int32) (i2 : Int32) (t_line_size : Int32) (t_line_bytes_f : Nat → Int32) {r : Nat × (Nat → Int32)} (hm : mm_Lp_poke F i1 i2 t_line_size t_line_bytes_f = some r) (h0 : ¬ r.1 = 0) : r.2 = t_line_bytes_f := by
  have hm := (mq_Lp_poke F i1 i2 t_line_size t_line_bytes_f).symm.trans hm
  by_cases hc1 : i1 < 0
  · have hm := bs_pos hc1 hm
    cases hm
    exact rfl
  · have hm := bs_neg hc1 hm
    by_cases hc2 : i1 < t_line_size
    · have hm := bs_pos hc2 hm
      obtain ⟨x24, _, hm⟩ := bs_bind hm
      by_cases hc3 : x24 = 0
      · have hm := bs_pos hc3 hm
        cases hm
        exact rfl
      · have hm := bs_neg hc3 hm
        obtain ⟨x44, _, hm⟩ := bs_bind hm
        cases hm
        exact absurd rfl h0
    · have hm := bs_neg hc2 hm
      cases hm
      exact rfl

set_option maxHeartbeats 2000000 in
set_option maxRecDepth 100000 in
theorem cx_Lp_frame (l : Launch) (hfl : l.flags = pinnedFlags ++ [noTraceFlag]) (D : va_G) (F : Nat) (t : Nat) (t_line : Nat) (t_line_bytes : Nat) (t_answered : Nat) (t_answered_bytes : Nat) (t_asker : Nat) (t_connection : Nat) (t_connection_meter : Nat) (t_connection_meter_registers : Nat) (t_connection_meter_profile : Nat) (t_connection_meter_profile_columns : Nat) (t_connection_meter_profile_ring : Nat) (t_connection_request : Nat) (t_connection_request_bytes : Nat) (t_connection_latest : Nat) (t_connection_latest_bytes : Nat) (t_connection_value : Nat) (t_connection_value_bytes : Nat) (t_line_bytes_c : ClassId) (t_answered_bytes_c : ClassId) (t_connection_meter_registers_c : ClassId) (t_connection_meter_profile_columns_c : ClassId) (t_connection_meter_profile_ring_c : ClassId) (t_connection_request_bytes_c : ClassId) (t_connection_latest_bytes_c : ClassId) (t_connection_value_bytes_c : ClassId) (t_line_size : Int32) (t_line_bytes_f : Nat → Int32) (t_answered_size : Int32) (t_answered_bytes_f : Nat → Int32) (t_asker_s : Int32) (t_asker_r : Int32) (t_connection_secret : Int32) (t_connection_connected : Int32) (t_connection_expected : Int32) (t_connection_next : Int32) (t_connection_association : Int32) (t_connection_blocksSent : Int32) (t_connection_meter_now : Int32) (t_connection_meter_registers_f : Nat → Int32) (t_connection_meter_profile_columnCount : Int32) (t_connection_meter_profile_capacity : Int32) (t_connection_meter_profile_period : Int32) (t_connection_meter_profile_first : Int32) (t_connection_meter_profile_size : Int32) (t_connection_meter_profile_columns_f : Nat → Int32) (t_connection_meter_profile_ring_f : Nat → Int32) (t_connection_request_size : Int32) (t_connection_request_bytes_f : Nat → Int32) (t_connection_latest_size : Int32) (t_connection_latest_bytes_f : Nat → Int32) (t_connection_value_size : Int32) (t_connection_value_bytes_f : Nat → Int32) (i1 : Int32) (r : Nat × Int32 × Int32 × (Nat → Int32)) (hm : mm_Lp_frame F i1 t_line_size t_line_bytes_f = some r) (h0 : ¬ r.1 = 0) :
    bx_CT l my_Lp_frame mb_Lp_frame 2 (some .int) bx_rm D [.ref t, .int i1] [(t_line_bytes_c, .int), (t_answered_bytes_c, .int), (t_connection_meter_registers_c, .int), (t_connection_meter_profile_columns_c, .int), (t_connection_meter_profile_ring_c, .int), (t_connection_request_bytes_c, .int), (t_connection_latest_bytes_c, .int), (t_connection_value_bytes_c, .int)] [(t, .inr (5, [.ref t_line, .ref t_answered, .ref t_asker, .ref t_connection, .ref t_connection_meter])), (t_line, .inr (4, [.ref t_line_bytes, .int t_line_size])), (t_line_bytes, .inl (t_line_bytes_c, 80, .inl t_line_bytes_f)), (t_answered, .inr (4, [.ref t_answered_bytes, .int t_answered_size])), (t_answered_bytes, .inl (t_answered_bytes_c, 80, .inl t_answered_bytes_f)), (t_asker, .inr (0, [.int t_asker_s, .int t_asker_r])), (t_connection, .inr (1, [.int t_connection_secret, .ref t_connection_meter, .ref t_connection_request, .ref t_connection_latest, .ref t_connection_value, .int t_connection_connected, .int t_connection_expected, .int t_connection_next, .int t_connection_association, .int t_connection_blocksSent])), (t_connection_meter, .inr (2, [.ref t_connection_meter_registers, .ref t_connection_meter_profile, .int t_connection_meter_now])), (t_connection_meter_registers, .inl (t_connection_meter_registers_c, 3, .inl t_connection_meter_registers_f)), (t_connection_meter_profile, .inr (3, [.ref t_connection_meter_profile_columns, .ref t_connection_meter_profile_ring, .int t_connection_meter_profile_columnCount, .int t_connection_meter_profile_capacity, .int t_connection_meter_profile_period, .int t_connection_meter_profile_first, .int t_connection_meter_profile_size])), (t_connection_meter_profile_columns, .inl (t_connection_meter_profile_columns_c, 3, .inl t_connection_meter_profile_columns_f)), (t_connection_meter_profile_ring, .inl (t_connection_meter_profile_ring_c, 48, .inl t_connection_meter_profile_ring_f)), (t_connection_request, .inr (4, [.ref t_connection_request_bytes, .int t_connection_request_size])), (t_connection_request_bytes, .inl (t_connection_request_bytes_c, 60, .inl t_connection_request_bytes_f)), (t_connection_latest, .inr (4, [.ref t_connection_latest_bytes, .int t_connection_latest_size])), (t_connection_latest_bytes, .inl (t_connection_latest_bytes_c, 80, .inl t_connection_latest_bytes_f)), (t_connection_value, .inr (4, [.ref t_connection_value_bytes, .int t_connection_value_size])), (t_connection_value_bytes, .inl (t_connection_value_bytes_c, 266, .inl t_connection_value_bytes_f))] (bx_ex r.1) := by
  refine bx_CT.mk hfl (by decide +kernel) (bs_ler rfl) ?_
  intro p e s m below meth c ls hx htr hb hml hlk hex hown hB hN hZ hP0 hK hl
  refine bs_genQ (fun Q hQ => ?_)
  have hS := va_S.rf (A := bx_S0 s) (H0 := s.heap)
  have hP := hP0
  have hl : lv_has ls 2 [(0, .ref t), (1, .int i1)] := hl
  have hm := (mq_Lp_frame F i1 t_line_size t_line_bytes_f).symm.trans hm
  refine lv_iload_n hx hb dc_Lp_frame_0 rfl (lv_at hl 1 rfl) ?_
  obtain ⟨x1, hx1, hm⟩ := bs_bind hm
  refine bs_callSi 1 [] (fun _ => []) [] hx hb hml hown hB hN hK bx_nilP bx_nilD hS (fun _ h => h) (ct_Rw_isByte l D F i1 x1 hx1) kw_cd_Rw_isByte kw_ml_Lp_88 kw_st_Rw_isByte kw_in_Rw kd_Rw_isByte (by decide) [] [] rfl rfl (by decide) [] rfl [] (by decide) (fun _ => rfl) rfl hl.1 (bs_ler rfl) (by decide) dc_Lp_frame_1 rfl (fun v1q _ H locs hq1 _ _ hS => ?_)
  have hP := bx_keep hP0 hS
  have hq1 := hq1.symm
  subst hq1
  refine lv_if_ne (tgt := 15) hx hb dc_Lp_frame_4 (by decide) (fun h4 => ?_) (fun h4 => ?_)
  · have hm := bs_neg h4 hm
    refine lv_aload_n hx hb dc_Lp_frame_15 rfl (lv_at hl 0 rfl) ?_
    refine va_get (ci := 5) (v := .ref t_line) (C := cn_Lp) (T := cf_Lp) (N := 5) hx hb hB ki_Lp hown hK hP 0 rfl rfl 0 (by decide) (hB _ kw_fl_Lp_14) (fun _ h => h) rfl dc_Lp_frame_16 ?_
    refine va_getN (ci := 4) (v := .int t_line_size) (C := cn_Rw) (T := cf_Rw) (N := 2) hx hb hB ki_Rw hown hK hP 1 rfl rfl 1 (by decide) (hN.use kn_Lp_91) (fun _ h => h) rfl dc_Lp_frame_19 ?_
    refine lv_bipush (v := 60) hx hb dc_Lp_frame_22 (by decide +kernel) ?_
    refine lv_icmp_le (tgt := 35) hx hb dc_Lp_frame_24 (by decide) (fun h24 => ?_) (fun h24 => ?_)
    · have hm := bs_pos h24 hm
      obtain ⟨x40, hx40, hm⟩ := bs_bind hm
      cases hm
      exact bx_dead h0 rfl
    · have hm := bs_neg h24 hm
      cases hm
      subst hQ
      exact bx_throw bx_at_ISE kx_cl_ISE kx_in_ISE kx_is_ISE kx_fit_ISE hx htr hb hml hlk hex hown hB hZ hl.1 (by decide) hS dc_Lp_frame_27 dc_Lp_frame_30 dc_Lp_frame_31 dc_Lp_frame_34
  · have hm := bs_pos h4 hm
    cases hm
    subst hQ
    exact bx_throw bx_at_IAE kx_cl_IAE kx_in_IAE kx_is_IAE kx_fit_IAE hx htr hb hml hlk hex hown hB hZ hl.1 (by decide) hS dc_Lp_frame_7 dc_Lp_frame_10 dc_Lp_frame_11 dc_Lp_frame_14
theorem cy_Lp_frame (F : Nat) (i1 : Int32) (t_line_size : Int32) (t_line_bytes_f : Nat → Int32) {r : Nat × Int32 × Int32 × (Nat → Int32)} (hm : mm_Lp_frame F i1 t_line_size t_line_bytes_f = some r) (h0 : ¬ r.1 = 0) : r.2.2.1 = t_line_size ∧ r.2.2.2 = t_line_bytes_f := by
  have hm := (mq_Lp_frame F i1 t_line_size t_line_bytes_f).symm.trans hm
  obtain ⟨x1, _, hm⟩ := bs_bind hm
  by_cases hc1 : x1 = 0
  · have hm := bs_pos hc1 hm
    cases hm
    exact ⟨rfl, rfl⟩
  · have hm := bs_neg hc1 hm
    by_cases hc2 : t_line_size ≤ 60
    · have hm := bs_pos hc2 hm
      obtain ⟨x40, _, hm⟩ := bs_bind hm
      cases hm
      exact absurd rfl h0
    · have hm := bs_neg hc2 hm
      cases hm
      exact ⟨rfl, rfl⟩

set_option maxHeartbeats 2000000 in
set_option maxRecDepth 100000 in
theorem cx_Lp_ask (l : Launch) (hfl : l.flags = pinnedFlags ++ [noTraceFlag]) (D : va_G) (F : Nat) (t : Nat) (t_line : Nat) (t_line_bytes : Nat) (t_answered : Nat) (t_answered_bytes : Nat) (t_asker : Nat) (t_connection : Nat) (t_connection_meter : Nat) (t_connection_meter_registers : Nat) (t_connection_meter_profile : Nat) (t_connection_meter_profile_columns : Nat) (t_connection_meter_profile_ring : Nat) (t_connection_request : Nat) (t_connection_request_bytes : Nat) (t_connection_latest : Nat) (t_connection_latest_bytes : Nat) (t_connection_value : Nat) (t_connection_value_bytes : Nat) (t_line_bytes_c : ClassId) (t_answered_bytes_c : ClassId) (t_connection_meter_registers_c : ClassId) (t_connection_meter_profile_columns_c : ClassId) (t_connection_meter_profile_ring_c : ClassId) (t_connection_request_bytes_c : ClassId) (t_connection_latest_bytes_c : ClassId) (t_connection_value_bytes_c : ClassId) (t_line_size : Int32) (t_line_bytes_f : Nat → Int32) (t_answered_size : Int32) (t_answered_bytes_f : Nat → Int32) (t_asker_s : Int32) (t_asker_r : Int32) (t_connection_secret : Int32) (t_connection_connected : Int32) (t_connection_expected : Int32) (t_connection_next : Int32) (t_connection_association : Int32) (t_connection_blocksSent : Int32) (t_connection_meter_now : Int32) (t_connection_meter_registers_f : Nat → Int32) (t_connection_meter_profile_columnCount : Int32) (t_connection_meter_profile_capacity : Int32) (t_connection_meter_profile_period : Int32) (t_connection_meter_profile_first : Int32) (t_connection_meter_profile_size : Int32) (t_connection_meter_profile_columns_f : Nat → Int32) (t_connection_meter_profile_ring_f : Nat → Int32) (t_connection_request_size : Int32) (t_connection_request_bytes_f : Nat → Int32) (t_connection_latest_size : Int32) (t_connection_latest_bytes_f : Nat → Int32) (t_connection_value_size : Int32) (t_connection_value_bytes_f : Nat → Int32) (r : Nat × Int32 × Int32 × (Nat → Int32)) (hm : mm_Lp_ask F t_line_size t_line_bytes_f t_asker_s t_asker_r = some r) (h0 : ¬ r.1 = 0) :
    bx_CT l my_Lp_ask mb_Lp_ask 1 (some .int) bx_rm D [.ref t] [(t_line_bytes_c, .int), (t_answered_bytes_c, .int), (t_connection_meter_registers_c, .int), (t_connection_meter_profile_columns_c, .int), (t_connection_meter_profile_ring_c, .int), (t_connection_request_bytes_c, .int), (t_connection_latest_bytes_c, .int), (t_connection_value_bytes_c, .int)] [(t, .inr (5, [.ref t_line, .ref t_answered, .ref t_asker, .ref t_connection, .ref t_connection_meter])), (t_line, .inr (4, [.ref t_line_bytes, .int t_line_size])), (t_line_bytes, .inl (t_line_bytes_c, 80, .inl t_line_bytes_f)), (t_answered, .inr (4, [.ref t_answered_bytes, .int t_answered_size])), (t_answered_bytes, .inl (t_answered_bytes_c, 80, .inl t_answered_bytes_f)), (t_asker, .inr (0, [.int t_asker_s, .int t_asker_r])), (t_connection, .inr (1, [.int t_connection_secret, .ref t_connection_meter, .ref t_connection_request, .ref t_connection_latest, .ref t_connection_value, .int t_connection_connected, .int t_connection_expected, .int t_connection_next, .int t_connection_association, .int t_connection_blocksSent])), (t_connection_meter, .inr (2, [.ref t_connection_meter_registers, .ref t_connection_meter_profile, .int t_connection_meter_now])), (t_connection_meter_registers, .inl (t_connection_meter_registers_c, 3, .inl t_connection_meter_registers_f)), (t_connection_meter_profile, .inr (3, [.ref t_connection_meter_profile_columns, .ref t_connection_meter_profile_ring, .int t_connection_meter_profile_columnCount, .int t_connection_meter_profile_capacity, .int t_connection_meter_profile_period, .int t_connection_meter_profile_first, .int t_connection_meter_profile_size])), (t_connection_meter_profile_columns, .inl (t_connection_meter_profile_columns_c, 3, .inl t_connection_meter_profile_columns_f)), (t_connection_meter_profile_ring, .inl (t_connection_meter_profile_ring_c, 48, .inl t_connection_meter_profile_ring_f)), (t_connection_request, .inr (4, [.ref t_connection_request_bytes, .int t_connection_request_size])), (t_connection_request_bytes, .inl (t_connection_request_bytes_c, 60, .inl t_connection_request_bytes_f)), (t_connection_latest, .inr (4, [.ref t_connection_latest_bytes, .int t_connection_latest_size])), (t_connection_latest_bytes, .inl (t_connection_latest_bytes_c, 80, .inl t_connection_latest_bytes_f)), (t_connection_value, .inr (4, [.ref t_connection_value_bytes, .int t_connection_value_size])), (t_connection_value_bytes, .inl (t_connection_value_bytes_c, 266, .inl t_connection_value_bytes_f))] (bx_ex r.1) := by
  refine bx_CT.mk hfl (by decide +kernel) (bs_ler rfl) ?_
  intro p e s m below meth c ls hx htr hb hml hlk hex hown hB hN hZ hP0 hK hl
  refine bs_genQ (fun Q hQ => ?_)
  have hS := va_S.rf (A := bx_S0 s) (H0 := s.heap)
  have hP := hP0
  have hl : lv_has ls 1 [(0, .ref t)] := hl
  have hm := (mq_Lp_ask F t_line_size t_line_bytes_f t_asker_s t_asker_r).symm.trans hm
  refine lv_aload_n hx hb dc_Lp_ask_0 rfl (lv_at hl 0 rfl) ?_
  refine va_get (ci := 5) (v := .ref t_line) (C := cn_Lp) (T := cf_Lp) (N := 5) hx hb hB ki_Lp hown hK hP 0 rfl rfl 0 (by decide) (hB _ kw_fl_Lp_14) (fun _ h => h) rfl dc_Lp_ask_1 ?_
  refine va_getN (ci := 4) (v := .int t_line_size) (C := cn_Rw) (T := cf_Rw) (N := 2) hx hb hB ki_Rw hown hK hP 1 rfl rfl 1 (by decide) (hN.use kn_Lp_91) (fun _ h => h) rfl dc_Lp_ask_4 ?_
  refine lv_if_eq (tgt := 22) hx hb dc_Lp_ask_7 (by decide) (fun h7 => ?_) (fun h7 => ?_)
  · have hm := bs_pos h7 hm
    cases hm
    subst hQ
    exact bx_throw bx_at_ISE kx_cl_ISE kx_in_ISE kx_is_ISE kx_fit_ISE hx htr hb hml hlk hex hown hB hZ hl.1 (by decide) hS dc_Lp_ask_22 dc_Lp_ask_25 dc_Lp_ask_26 dc_Lp_ask_29
  · have hm := bs_neg h7 hm
    refine lv_aload_n hx hb dc_Lp_ask_10 rfl (lv_at hl 0 rfl) ?_
    refine va_get (ci := 5) (v := .ref t_line) (C := cn_Lp) (T := cf_Lp) (N := 5) hx hb hB ki_Lp hown hK hP 0 rfl rfl 0 (by decide) (hB _ kw_fl_Lp_14) (fun _ h => h) rfl dc_Lp_ask_11 ?_
    refine va_getN (ci := 4) (v := .int t_line_size) (C := cn_Rw) (T := cf_Rw) (N := 2) hx hb hB ki_Rw hown hK hP 1 rfl rfl 1 (by decide) (hN.use kn_Lp_91) (fun _ h => h) rfl dc_Lp_ask_14 ?_
    refine lv_bipush (v := 60) hx hb dc_Lp_ask_17 (by decide +kernel) ?_
    refine lv_icmp_le (tgt := 30) hx hb dc_Lp_ask_19 (by decide) (fun h19 => ?_) (fun h19 => ?_)
    · have hm := bs_pos h19 hm
      obtain ⟨x48, hx48, hm⟩ := bs_bind hm
      obtain ⟨x51, hx51, hm⟩ := bs_bind hm
      cases hm
      exact bx_dead h0 rfl
    · have hm := bs_neg h19 hm
      cases hm
      subst hQ
      exact bx_throw bx_at_ISE kx_cl_ISE kx_in_ISE kx_is_ISE kx_fit_ISE hx htr hb hml hlk hex hown hB hZ hl.1 (by decide) hS dc_Lp_ask_22 dc_Lp_ask_25 dc_Lp_ask_26 dc_Lp_ask_29
theorem cy_Lp_ask (F : Nat) (t_line_size : Int32) (t_line_bytes_f : Nat → Int32) (t_asker_s : Int32) (t_asker_r : Int32) {r : Nat × Int32 × Int32 × (Nat → Int32)} (hm : mm_Lp_ask F t_line_size t_line_bytes_f t_asker_s t_asker_r = some r) (h0 : ¬ r.1 = 0) : r.2.2.1 = t_line_size ∧ r.2.2.2 = t_line_bytes_f := by
  have hm := (mq_Lp_ask F t_line_size t_line_bytes_f t_asker_s t_asker_r).symm.trans hm
  by_cases hc1 : t_line_size = 0
  · have hm := bs_pos hc1 hm
    cases hm
    exact ⟨rfl, rfl⟩
  · have hm := bs_neg hc1 hm
    by_cases hc2 : t_line_size ≤ 60
    · have hm := bs_pos hc2 hm
      obtain ⟨x48, _, hm⟩ := bs_bind hm
      obtain ⟨x51, _, hm⟩ := bs_bind hm
      cases hm
      exact absurd rfl h0
    · have hm := bs_neg hc2 hm
      cases hm
      exact ⟨rfl, rfl⟩

set_option maxHeartbeats 2000000 in
set_option maxRecDepth 100000 in
theorem cx_Lp_reply (l : Launch) (hfl : l.flags = pinnedFlags ++ [noTraceFlag]) (D : va_G) (F : Nat) (t : Nat) (t_line : Nat) (t_line_bytes : Nat) (t_answered : Nat) (t_answered_bytes : Nat) (t_asker : Nat) (t_connection : Nat) (t_connection_meter : Nat) (t_connection_meter_registers : Nat) (t_connection_meter_profile : Nat) (t_connection_meter_profile_columns : Nat) (t_connection_meter_profile_ring : Nat) (t_connection_request : Nat) (t_connection_request_bytes : Nat) (t_connection_latest : Nat) (t_connection_latest_bytes : Nat) (t_connection_value : Nat) (t_connection_value_bytes : Nat) (t_line_bytes_c : ClassId) (t_answered_bytes_c : ClassId) (t_connection_meter_registers_c : ClassId) (t_connection_meter_profile_columns_c : ClassId) (t_connection_meter_profile_ring_c : ClassId) (t_connection_request_bytes_c : ClassId) (t_connection_latest_bytes_c : ClassId) (t_connection_value_bytes_c : ClassId) (t_line_size : Int32) (t_line_bytes_f : Nat → Int32) (t_answered_size : Int32) (t_answered_bytes_f : Nat → Int32) (t_asker_s : Int32) (t_asker_r : Int32) (t_connection_secret : Int32) (t_connection_connected : Int32) (t_connection_expected : Int32) (t_connection_next : Int32) (t_connection_association : Int32) (t_connection_blocksSent : Int32) (t_connection_meter_now : Int32) (t_connection_meter_registers_f : Nat → Int32) (t_connection_meter_profile_columnCount : Int32) (t_connection_meter_profile_capacity : Int32) (t_connection_meter_profile_period : Int32) (t_connection_meter_profile_first : Int32) (t_connection_meter_profile_size : Int32) (t_connection_meter_profile_columns_f : Nat → Int32) (t_connection_meter_profile_ring_f : Nat → Int32) (t_connection_request_size : Int32) (t_connection_request_bytes_f : Nat → Int32) (t_connection_latest_size : Int32) (t_connection_latest_bytes_f : Nat → Int32) (t_connection_value_size : Int32) (t_connection_value_bytes_f : Nat → Int32) (i1 : Int32) (r : Nat × Int32) (hm : mm_Lp_reply F i1 t_answered_size t_answered_bytes_f = some r) (h0 : ¬ r.1 = 0) :
    bx_CT l my_Lp_reply mb_Lp_reply 2 (some .int) bx_rm D [.ref t, .int i1] [(t_line_bytes_c, .int), (t_answered_bytes_c, .int), (t_connection_meter_registers_c, .int), (t_connection_meter_profile_columns_c, .int), (t_connection_meter_profile_ring_c, .int), (t_connection_request_bytes_c, .int), (t_connection_latest_bytes_c, .int), (t_connection_value_bytes_c, .int)] [(t, .inr (5, [.ref t_line, .ref t_answered, .ref t_asker, .ref t_connection, .ref t_connection_meter])), (t_line, .inr (4, [.ref t_line_bytes, .int t_line_size])), (t_line_bytes, .inl (t_line_bytes_c, 80, .inl t_line_bytes_f)), (t_answered, .inr (4, [.ref t_answered_bytes, .int t_answered_size])), (t_answered_bytes, .inl (t_answered_bytes_c, 80, .inl t_answered_bytes_f)), (t_asker, .inr (0, [.int t_asker_s, .int t_asker_r])), (t_connection, .inr (1, [.int t_connection_secret, .ref t_connection_meter, .ref t_connection_request, .ref t_connection_latest, .ref t_connection_value, .int t_connection_connected, .int t_connection_expected, .int t_connection_next, .int t_connection_association, .int t_connection_blocksSent])), (t_connection_meter, .inr (2, [.ref t_connection_meter_registers, .ref t_connection_meter_profile, .int t_connection_meter_now])), (t_connection_meter_registers, .inl (t_connection_meter_registers_c, 3, .inl t_connection_meter_registers_f)), (t_connection_meter_profile, .inr (3, [.ref t_connection_meter_profile_columns, .ref t_connection_meter_profile_ring, .int t_connection_meter_profile_columnCount, .int t_connection_meter_profile_capacity, .int t_connection_meter_profile_period, .int t_connection_meter_profile_first, .int t_connection_meter_profile_size])), (t_connection_meter_profile_columns, .inl (t_connection_meter_profile_columns_c, 3, .inl t_connection_meter_profile_columns_f)), (t_connection_meter_profile_ring, .inl (t_connection_meter_profile_ring_c, 48, .inl t_connection_meter_profile_ring_f)), (t_connection_request, .inr (4, [.ref t_connection_request_bytes, .int t_connection_request_size])), (t_connection_request_bytes, .inl (t_connection_request_bytes_c, 60, .inl t_connection_request_bytes_f)), (t_connection_latest, .inr (4, [.ref t_connection_latest_bytes, .int t_connection_latest_size])), (t_connection_latest_bytes, .inl (t_connection_latest_bytes_c, 80, .inl t_connection_latest_bytes_f)), (t_connection_value, .inr (4, [.ref t_connection_value_bytes, .int t_connection_value_size])), (t_connection_value_bytes, .inl (t_connection_value_bytes_c, 266, .inl t_connection_value_bytes_f))] (bx_ex r.1) := by
  refine bx_CT.mk hfl (by decide +kernel) (bs_ler rfl) ?_
  intro p e s m below meth c ls hx htr hb hml hlk hex hown hB hN hZ hP0 hK hl
  refine bs_genQ (fun Q hQ => ?_)
  have hS := va_S.rf (A := bx_S0 s) (H0 := s.heap)
  have hP := hP0
  have hl : lv_has ls 2 [(0, .ref t), (1, .int i1)] := hl
  have hm := (mq_Lp_reply F i1 t_answered_size t_answered_bytes_f).symm.trans hm
  refine lv_iload_n hx hb dc_Lp_reply_0 rfl (lv_at hl 1 rfl) ?_
  refine lv_if_lt (tgt := 15) hx hb dc_Lp_reply_1 (by decide) (fun h1 => ?_) (fun h1 => ?_)
  · have hm := bs_pos h1 hm
    cases hm
    subst hQ
    exact bx_throw bx_at_IOB kx_cl_IOB kx_in_IOB kx_is_IOB kx_fit_IOB hx htr hb hml hlk hex hown hB hZ hl.1 (by decide) hS dc_Lp_reply_15 dc_Lp_reply_18 dc_Lp_reply_19 dc_Lp_reply_22
  · have hm := bs_neg h1 hm
    refine lv_iload_n hx hb dc_Lp_reply_4 rfl (lv_at hl 1 rfl) ?_
    refine lv_aload_n hx hb dc_Lp_reply_5 rfl (lv_at hl 0 rfl) ?_
    refine va_get (ci := 5) (v := .ref t_answered) (C := cn_Lp) (T := cf_Lp) (N := 5) hx hb hB ki_Lp hown hK hP 0 rfl rfl 1 (by decide) (hB _ kw_fl_Lp_18) (fun _ h => h) rfl dc_Lp_reply_6 ?_
    refine va_getN (ci := 4) (v := .int t_answered_size) (C := cn_Rw) (T := cf_Rw) (N := 2) hx hb hB ki_Rw hown hK hP 3 rfl rfl 1 (by decide) (hN.use kn_Lp_91) (fun _ h => h) rfl dc_Lp_reply_9 ?_
    refine lv_icmp_lt (tgt := 23) hx hb dc_Lp_reply_12 (by decide) (fun h12 => ?_) (fun h12 => ?_)
    · have hm := bs_pos h12 hm
      obtain ⟨x28, hx28, hm⟩ := bs_bind hm
      cases hm
      exact bx_dead h0 rfl
    · have hm := bs_neg h12 hm
      cases hm
      subst hQ
      exact bx_throw bx_at_IOB kx_cl_IOB kx_in_IOB kx_is_IOB kx_fit_IOB hx htr hb hml hlk hex hown hB hZ hl.1 (by decide) hS dc_Lp_reply_15 dc_Lp_reply_18 dc_Lp_reply_19 dc_Lp_reply_22

