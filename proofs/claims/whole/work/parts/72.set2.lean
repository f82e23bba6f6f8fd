/-! .. a number -/
theorem pu_10 : ¬ (1 : Int32) = 0 := by decide +kernel
theorem sn_both {F o a : Nat} {now cc cap per first size mtime mcap mper mcc msize rsz : Int32} {reg cols ring mreg mcols times values rf lf : Nat → Int32} {rq : List Nat} (hF : 20 < F) (ho : o < 5) (hst : st_ok o a) (hn3 : ¬ (o = 4 ∧ a = 3)) (hB : pu_B rq) (hrq : rw_is 60 rsz rf rq) (hln : ln_is lf rq) (h3 : 3 ≤ rq.length)
    (h : me_rel now reg cc cap per first size cols ring mtime mcap mper mcc msize mreg mcols times values) :
    ∃ rc rm res, mm_Mt_set_J71 F 60 (nI o) (nI a) now reg cc cap per first size cols rsz rf = some rc ∧ mm_Mo_set_J90 F (nI o) (nI a) (nI (rq.length - 3)) mtime mcap mper mcc msize mreg mcols lf = some rm ∧ rc.1 = nI res ∧ rm.1 = nI res ∧ res < 256 ∧
      me_rel rc.2.1 rc.2.2.1 rc.2.2.2.1 rc.2.2.2.2.1 rc.2.2.2.2.2.1 rc.2.2.2.2.2.2.1 rc.2.2.2.2.2.2.2.1 rc.2.2.2.2.2.2.2.2 ring rm.2.1 rm.2.2.1 rm.2.2.2.1 rm.2.2.2.2.1 rm.2.2.2.2.2.1 rm.2.2.2.2.2.2.1 rm.2.2.2.2.2.2.2 times values := by
  have h60 := hrq.2.1
  have ha : a = 2 ∨ a = 4 ∨ a = 8 := by
    unfold st_ok at hst
    split at hst
    · rcases hst with q | q | q
      · exact absurd ⟨‹_›, q⟩ hn3
      · exact Or.inr (Or.inl q)
      · exact Or.inr (Or.inr q)
    · exact Or.inl hst
  have hr1 := rg_is (F := F) (o := o) (by omega)
  have fail : ∃ rc rm res, some ((12 : Int32), now, reg, cc, cap, per, first, size, cols) = some rc ∧ some ((12 : Int32), mtime, mcap, mper, mcc, msize, mreg, mcols) = some rm ∧ rc.1 = nI res ∧ rm.1 = nI res ∧ res < 256 ∧
      me_rel rc.2.1 rc.2.2.1 rc.2.2.2.1 rc.2.2.2.2.1 rc.2.2.2.2.2.1 rc.2.2.2.2.2.2.1 rc.2.2.2.2.2.2.2.1 rc.2.2.2.2.2.2.2.2 ring rm.2.1 rm.2.2.1 rm.2.2.2.1 rm.2.2.2.2.1 rm.2.2.2.2.2.1 rm.2.2.2.2.2.2.1 rm.2.2.2.2.2.2.2 times values :=
    ⟨_, _, 12, rfl, rfl, rfl, rfl, by decide, h⟩
  obtain ⟨nowN, R, C, E, capN, perN, hnow, hnl, hmt, hrc, hrm, hc, hm⟩ := id h
  rw [mq_Mt_set_J71, mq_Mt_takeNumber, pu_b hr1, pu_z1, mq_Mo_set_J90]
  by_cases h8 : rq.length = 8
  case neg =>
    have e8 : ¬ rsz = 8 := by rw [hrq.1]; exact pu_ne 8 8 h8
    rw [if_neg (show ¬ nI (rq.length - 3) = 5 from pu_ne 5 5 (by omega))]
    by_cases hR : 1 ≤ o ∧ o ≤ 3
    · rw [if_pos hR, mq_Mt_takeNumber_J13, if_neg e8, pu_s, if_pos rfl]; exact fail
    · rw [if_neg hR, mq_Mt_takeNumber_J13, if_neg e8, pu_s, if_pos rfl]; exact fail
  have e8 : rsz = 8 := by rw [hrq.1, h8]; rfl
  obtain ⟨t, ht⟩ := pu_get (l := rq) (i := 3) (by omega)
  obtain ⟨b4, hb4⟩ := pu_get (l := rq) (i := 4) (by omega)
  obtain ⟨b5, hb5⟩ := pu_get (l := rq) (i := 5) (by omega)
  obtain ⟨b6, hb6⟩ := pu_get (l := rq) (i := 6) (by omega)
  obtain ⟨b7, hb7⟩ := pu_get (l := rq) (i := 7) (by omega)
  have htb := hB t (List.mem_of_getElem? ht)
  have ec3 : mm_Rw_at F 60 3 rsz rf = some (nI t) := pu_at_in (i := 3) hrq ht
  have em3 : mm_Mo_at F 3 lf = some (nI t) := pl_at (i := 3) hln ht h60
  have ec4 : mm_Rw_intAt F 60 4 rsz rf = some (pu_int b4 b5 b6 b7) := pu_intAt (i := 4) hrq hb4 hb5 hb6 hb7
  have em4 : mm_Mo_intAt F 4 lf = some (pu_int b4 b5 b6 b7) := pl_int (i := 4) hln h60 hb4 hb5 hb6 hb7
  generalize pu_int b4 b5 b6 b7 = v at ec4 em4
  rw [if_pos (show nI (rq.length - 3) = 5 from pu_eq 5 5 (by omega)), pu_b em3]
  by_cases hR : 1 ≤ o ∧ o ≤ 3
  · obtain ⟨o1, o3⟩ := hR
    rw [if_pos ⟨o1, o3⟩, mq_Mt_takeNumber_J13, if_pos e8, pu_b ec3, if_neg (show ¬ nI o ≤ 0 from nI_nle (by omega) (by omega)), if_neg (show ¬ (4 : Int32) ≤ nI o from pu_ncle 4 4 (by omega)), mq_Mo_set_J115]
    by_cases q1 : t = 5
    case neg => rw [if_neg (pu_ne 5 5 q1), if_neg (pu_ne 5 5 q1), pu_s, if_pos rfl]; exact fail
    rw [if_pos (pu_eq 5 5 q1), if_pos (pu_eq 5 5 q1), pu_b ec4, pu_b em4, pu_b hr1, pu_z1, if_pos ⟨o1, o3⟩, show nI o - 1 = nI (o - 1) from pk_sub (b := 1) o1, if_neg (nI_in (by omega) (by omega)), nI_clamp (by omega), pu_s, if_neg pu_10, if_neg (show ¬ nI o ≤ 0 from nI_nle (by omega) (by omega)), if_neg (show ¬ (4 : Int32) ≤ nI o from pu_ncle 4 4 (by omega)), if_neg (nI_in (by omega) (by omega)), nI_clamp (by omega)]
    exact ⟨_, _, 0, rfl, rfl, nI_0.symm, nI_0.symm, by decide, nowN, upd R o v, C, E, capN, perN, hnow, hnl, hmt, hrc.set o1 v, hrm.set v, hc, hm⟩
  · rw [if_neg hR, mq_Mt_takeNumber_J13, if_pos e8, pu_b ec3, pu_b ec4, pu_b hr1, pu_z1, if_neg hR]
    have hJ : (if nI o ≤ 0 then mm_Mo_set_J113 F (nI o) (nI a) (nI t) mtime mcap mper mcc msize mreg mcols lf else if 4 ≤ nI o then mm_Mo_set_J113 F (nI o) (nI a) (nI t) mtime mcap mper mcc msize mreg mcols lf else mm_Mo_set_J115 F (nI o) (nI a) 5 (nI t) mtime mcap mper mcc msize mreg mcols lf) = (if nI t = 6 then mm_Mo_set_J147 F (nI o) (nI a) v mtime mcap mper mcc msize mreg mcols else some (12, mtime, mcap, mper, mcc, msize, mreg, mcols)) := by
      have hJ2 : mm_Mo_set_J113 F (nI o) (nI a) (nI t) mtime mcap mper mcc msize mreg mcols lf = (if nI t = 6 then mm_Mo_set_J147 F (nI o) (nI a) v mtime mcap mper mcc msize mreg mcols else some (12, mtime, mcap, mper, mcc, msize, mreg, mcols)) := by
        rw [mq_Mo_set_J113, mq_Mo_set_J115, pu_b em4]
        by_cases o0 : o = 0
        · rw [if_pos (show nI o ≤ 0 from pu_le 0 0 (by omega))]
        · rw [if_neg (show ¬ nI o ≤ 0 from nI_nle (by omega) (by omega)), if_pos (show (4 : Int32) ≤ nI o from pu_cle 4 4 (by omega))]
      by_cases o0 : o = 0
      · rw [if_pos (show nI o ≤ 0 from pu_le 0 0 (by omega)), hJ2]
      · rw [if_neg (show ¬ nI o ≤ 0 from nI_nle (by omega) (by omega)), if_pos (show (4 : Int32) ≤ nI o from pu_cle 4 4 (by omega)), hJ2]
    rw [hJ]
    by_cases q1 : t = 6
    case neg => rw [if_neg (pu_ne 6 6 q1), if_neg (pu_ne 6 6 q1), pu_s, if_pos rfl]; exact fail
    rw [if_pos (pu_eq 6 6 q1), if_pos (pu_eq 6 6 q1), mq_Mo_set_J147]
    by_cases o4 : o = 4
    · rw [if_pos (pu_eq 4 4 o4)]
      have o0 : ¬ nI o = 0 := pu_ne 0 0 (by omega)
      by_cases a4 : a = 4
      · rw [if_pos (pu_eq 4 4 a4), mq_Pf_takePeriod]
        by_cases hv : v < 0
        · rw [if_pos hv, if_neg (fun q => Int32.not_le.mpr hv q), pu_s, if_pos (Or.inl rfl), pu_s, if_pos rfl]; exact fail
        obtain ⟨j, hj, hvj⟩ := nI_of hv
        rw [if_neg hv, if_pos (Int32.not_lt.mp hv), pu_s, if_pos (Or.inr rfl), pu_s, if_neg pu_10, if_neg (pu_ne 8 8 (by omega)), mq_Mo_set_J174, if_neg o0, if_pos (pu_eq 4 4 a4), mq_Mo_set_J207, if_pos (pu_eq 4 4 o4), if_neg (pu_ne 8 8 (by omega))]
        obtain ⟨⟨w1, w2, w3, w4, w5, w6, w7, w8, w9⟩, c1, c2, c3, c4⟩ := hc
        obtain ⟨-, m1, m2, m3, m4⟩ := hm
        have hw : ab_wf C E capN j := ⟨w1, w2, w3, w4, w5, hj, w7, w8, w9⟩
        exact ⟨_, _, 0, rfl, rfl, nI_0.symm, nI_0.symm, by decide, nowN, R, C, E, capN, j, hnow, hnl, hmt, hrc, hrm, ⟨hw, c1, c2, hvj, c4⟩, ⟨hw, m1, m2, hvj, m4⟩⟩
      · have a8 : a = 8 := by
          unfold st_ok at hst
          rw [if_pos o4] at hst
          omega
        rw [if_neg (pu_ne 4 4 a4), mq_Pf_takeCapacity]
        by_cases hv : v < 0
        · rw [if_pos hv, if_pos (show v < 1 from Int32.lt_trans hv (by decide +kernel)), pu_s, if_pos (Or.inl rfl), pu_s, if_pos rfl]; exact fail
        obtain ⟨j, hj, hvj⟩ := nI_of hv
        rw [if_neg hv, if_pos (pu_eq 8 8 a8), hvj]
        by_cases j1 : j < 1
        · rw [if_pos (pu_lt 1 1 j1), if_pos (pu_lt 1 1 j1), pu_s, if_pos (Or.inl rfl), pu_s, if_pos rfl]; exact fail
        rw [if_neg (pu_nlt 1 1 (by omega)), if_neg (pu_nlt 1 1 (by omega))]
        by_cases j12 : j ≤ 12
        · rw [if_pos (pu_le 12 12 j12), if_pos (pu_le 12 12 j12), pu_b (show mm_Pf_forget F first size = some (0, 0) from rfl), pu_s, if_pos (Or.inr rfl), pu_s, if_neg pu_10, mq_Mo_set_J174, if_neg o0, if_neg (pu_ne 4 4 a4), mq_Mo_set_J207, if_pos (pu_eq 4 4 o4), if_pos (pu_eq 8 8 a8)]
          obtain ⟨⟨w1, w2, w3, w4, w5, w6, w7, w8, w9⟩, c1, c2, c3, c4, c5, -⟩ := hc
          obtain ⟨-, m1, m2, m3, m4, m5, -⟩ := hm
          have hw : ab_wf C [] j perN := ⟨w1, w2, w3, by omega, j12, w6, Nat.zero_le _, fun _ he => absurd he List.not_mem_nil, fun _ he => absurd he List.not_mem_nil⟩
          exact ⟨_, _, 0, rfl, rfl, nI_0.symm, nI_0.symm, by decide, nowN, R, C, [], j, perN, hnow, hnl, hmt, hrc, hrm, ⟨hw, c1, rfl, c3, nI_0.symm, c5, 0, nI_0.symm, by decide, fun i e k x hi => by simp at hi⟩, ⟨hw, m1, rfl, m3, nI_0.symm, m5, fun i e hi => by simp at hi⟩⟩
        · rw [if_neg (pu_nle 12 12 (by omega)), if_neg (pu_nle 12 12 (by omega)), pu_s, if_pos (Or.inl rfl), pu_s, if_pos rfl]; exact fail
    · have o0 : o = 0 := by omega
      have a2 : a = 2 := by
        unfold st_ok at hst
        rw [if_neg o4] at hst
        exact hst
      rw [if_neg (pu_ne 4 4 o4), mq_Mt_takeTime]
      by_cases hv : v < 0
      · rw [if_pos hv, if_neg (fun q => Int32.not_le.mpr hv q), pu_s, if_pos (Or.inl rfl), pu_s, if_pos rfl]; exact fail
      obtain ⟨j, hj, hvj⟩ := nI_of hv
      rw [if_neg hv, if_pos (Int32.not_lt.mp hv), pu_s, if_pos (Or.inr rfl), pu_s, if_neg pu_10, if_neg (pu_ne 8 8 (by omega)), mq_Mo_set_J174, if_pos (pu_eq 0 0 o0 nI_0.symm), mq_Mo_set_J207, if_neg (pu_ne 4 4 o4)]
      exact ⟨_, _, 0, rfl, rfl, nI_0.symm, nI_0.symm, by decide, j, R, C, E, capN, perN, hvj, hj, rfl, hrc, hrm, hc, hm⟩
