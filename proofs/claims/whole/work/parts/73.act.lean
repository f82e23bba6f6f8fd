theorem st_both {F o a g ag : Nat} {now cc cap per first size mtime mcap mper mcc msize rsz : Int32} {reg cols ring mreg mcols times values rf lf : Nat → Int32} {rq : List Nat} (hF : 20 < F) (hro : rq[1]? = some o) (hra : rq[2]? = some a) (hg : g = 1 ∧ ag = 2 ∨ g = 0 ∧ ¬ ag = 2 ∧ ag < 3) (hB : pu_B rq) (hrq : rw_is 60 rsz rf rq) (hln : ln_is lf rq)
    (h : me_rel now reg cc cap per first size cols ring mtime mcap mper mcc msize mreg mcols times values) :
    ∃ rc rm res, mm_Mt_set F 60 (nI g) now reg cc cap per first size cols rsz rf = some rc ∧ mm_Mo_set F (nI o) (nI a) (nI (rq.length - 3)) mtime mcap mper mcc msize (nI ag) mreg mcols lf = some rm ∧ rc.1 = nI res ∧ rm.1 = nI res ∧ res < 256 ∧
      me_rel rc.2.1 rc.2.2.1 rc.2.2.2.1 rc.2.2.2.2.1 rc.2.2.2.2.2.1 rc.2.2.2.2.2.2.1 rc.2.2.2.2.2.2.2.1 rc.2.2.2.2.2.2.2.2 ring rm.2.1 rm.2.2.1 rm.2.2.2.1 rm.2.2.2.2.1 rm.2.2.2.2.2.1 rm.2.2.2.2.2.2.1 rm.2.2.2.2.2.2.2 times values := by
  have h3 : 3 ≤ rq.length := (List.getElem?_eq_some_iff.mp hra).1
  have h60 := hrq.2.1
  have hob := hB o (List.mem_of_getElem? hro)
  have hab := hB a (List.mem_of_getElem? hra)
  have fail : ∀ n : Nat, n < 256 → ∃ rc rm res, some (nI n, now, reg, cc, cap, per, first, size, cols) = some rc ∧ some (nI n, mtime, mcap, mper, mcc, msize, mreg, mcols) = some rm ∧ rc.1 = nI res ∧ rm.1 = nI res ∧ res < 256 ∧
      me_rel rc.2.1 rc.2.2.1 rc.2.2.2.1 rc.2.2.2.2.1 rc.2.2.2.2.2.1 rc.2.2.2.2.2.2.1 rc.2.2.2.2.2.2.2.1 rc.2.2.2.2.2.2.2.2 ring rm.2.1 rm.2.2.1 rm.2.2.2.1 rm.2.2.2.2.1 rm.2.2.2.2.2.1 rm.2.2.2.2.2.2.1 rm.2.2.2.2.2.2.2 times values :=
    fun n hn => ⟨_, _, n, rfl, rfl, rfl, rfl, hn, h⟩
  rw [mq_Mt_set, pu_b (show mm_Rw_at F 60 1 rsz rf = some (nI o) from pu_at_in (i := 1) hrq hro), pu_b (show mm_Rw_at F 60 2 rsz rf = some (nI a) from pu_at_in (i := 2) hrq hra), pu_b (ob_c hob), pu_z1, mq_Mo_set]
  by_cases h5 : o < 5
  case neg => rw [if_neg h5, if_neg (pu_nle 4 4 (by omega))]; exact fail 4 (by decide)
  rw [if_pos h5, if_pos (pu_le 4 4 (by omega)), pu_b (at_c h5 hab), pu_b (at_m h5 hab), pu_z1, pu_z1]
  by_cases hat : at_ok o a
  case neg => rw [if_neg hat, if_neg hat]; exact fail 9 (by decide)
  rw [if_pos hat, if_pos hat]
  have hJ : (if 4 ≤ nI o then (if nI a = 3 then mm_Mo_set_J52 F (nI o) (nI a) (nI (rq.length - 3)) mtime mcap mper mcc msize (nI ag) mreg mcols lf else (if nI a = 4 then mm_Mo_set_J52 F (nI o) (nI a) (nI (rq.length - 3)) mtime mcap mper mcc msize (nI ag) mreg mcols lf else (if nI a = 8 then mm_Mo_set_J52 F (nI o) (nI a) (nI (rq.length - 3)) mtime mcap mper mcc msize (nI ag) mreg mcols lf else mm_Mo_set_J57 F (nI o) (nI a) (nI (rq.length - 3)) 0 mtime mcap mper mcc msize (nI ag) mreg mcols lf)))
      else (if nI a = 2 then mm_Mo_set_J57 F (nI o) (nI a) (nI (rq.length - 3)) 1 mtime mcap mper mcc msize (nI ag) mreg mcols lf else mm_Mo_set_J57 F (nI o) (nI a) (nI (rq.length - 3)) 0 mtime mcap mper mcc msize (nI ag) mreg mcols lf)) =
      mm_Mo_set_J57 F (nI o) (nI a) (nI (rq.length - 3)) (if st_ok o a then 1 else 0) mtime mcap mper mcc msize (nI ag) mreg mcols lf := by
    by_cases o4 : o = 4
    · rw [if_pos (show (4 : Int32) ≤ nI o from pu_cle 4 4 (by omega))]
      by_cases a3 : a = 3
      · rw [if_pos (pu_eq 3 3 a3), if_pos (show st_ok o a by unfold st_ok; rw [if_pos o4]; exact Or.inl a3)]; rfl
      rw [if_neg (pu_ne 3 3 a3)]
      by_cases a4 : a = 4
      · rw [if_pos (pu_eq 4 4 a4), if_pos (show st_ok o a by unfold st_ok; rw [if_pos o4]; exact Or.inr (Or.inl a4))]; rfl
      rw [if_neg (pu_ne 4 4 a4)]
      by_cases a8 : a = 8
      · rw [if_pos (pu_eq 8 8 a8), if_pos (show st_ok o a by unfold st_ok; rw [if_pos o4]; exact Or.inr (Or.inr a8))]; rfl
      · rw [if_neg (pu_ne 8 8 a8), if_neg (show ¬ st_ok o a by unfold st_ok; rw [if_pos o4]; omega)]
    · rw [if_neg (show ¬ (4 : Int32) ≤ nI o from pu_ncle 4 4 (by omega))]
      by_cases a2 : a = 2
      · rw [if_pos (pu_eq 2 2 a2), if_pos (show st_ok o a by unfold st_ok; rw [if_neg o4]; exact a2)]
      · rw [if_neg (pu_ne 2 2 a2), if_neg (show ¬ st_ok o a by unfold st_ok; rw [if_neg o4]; exact a2)]
  rw [hJ, mq_Mo_set_J57]
  rcases hg with ⟨rfl, rfl⟩ | ⟨rfl, hag, hag3⟩
  case inr => rw [if_pos nI_0, if_neg (pu_ne 2 2 hag)]; exact fail 3 (by decide)
  rw [if_neg (show ¬ nI 1 = 0 by decide +kernel), pu_b (st_c h5 hab), pu_z1, if_pos (show nI 2 = 2 from rfl), pu_z1]
  by_cases hst : st_ok o a
  case neg => rw [if_neg hst, if_neg hst]; exact fail 3 (by decide)
  rw [if_pos hst, if_pos hst]
  by_cases o4 : o = 4
  · rw [if_pos (pu_eq 4 4 o4), if_pos (pu_eq 4 4 o4)]
    by_cases a3 : a = 3
    · rw [if_pos (pu_eq 3 3 a3), if_pos (pu_eq 3 3 a3)]
      obtain ⟨nowN, R, C, E, capN, perN, hnow, hnl, hmt, hrc, hrm, hc, hm⟩ := id h
      obtain ⟨rc, rm, e1, e2, hq, C', E', c1, m1⟩ := cq_both (F := F) hF hB hrq hln h3 hc hm
      rw [pu_b e1, pu_b e2]
      rcases hq with ⟨q1, q2⟩ | ⟨q1, q2⟩
      · rw [if_pos q1]
        exact ⟨_, _, 12, rfl, rfl, rfl, q2, by decide, nowN, R, C', E', capN, perN, hnow, hnl, hmt, hrc, hrm, c1, m1⟩
      · rw [if_neg (by rw [q1]; exact pu_10)]
        exact ⟨_, _, 0, rfl, rfl, nI_0.symm, by rw [nI_0]; exact q2, by decide, nowN, R, C', E', capN, perN, hnow, hnl, hmt, hrc, hrm, c1, m1⟩
    · rw [if_neg (pu_ne 3 3 a3), if_neg (pu_ne 3 3 a3)]
      exact sn_both hF h5 hst (fun q => a3 q.2) hB hrq hln h3 h
  · rw [if_neg (pu_ne 4 4 o4), if_neg (pu_ne 4 4 o4)]
    exact sn_both hF h5 hst (fun q => o4 q.1) hB hrq hln h3 h
abbrev mt_ok (o m : Nat) : Prop := if o = 0 then m = 3 else if o = 4 then m = 1 ∨ m = 2 else m = 1
theorem mt_c0 : ∀ o, o < 5 → ∀ a, a < 256 → mm_Mt_isMethod 0 (nI o) (nI a) = some (if mt_ok o a then 1 else 0) := by decide +kernel
theorem mt_c {F o a : Nat} (ho : o < 5) (ha : a < 256) : mm_Mt_isMethod F (nI o) (nI a) = some (if mt_ok o a then 1 else 0) := mt_c0 o ho a ha
theorem ac_both {F o m p g ag : Nat} {now cc cap per first size mtime mcap mper mcc msize rsz : Int32} {reg cols ring mreg mcols times values rf : Nat → Int32} {rq : List Nat} (hF : 20 < F) (hro : rq[1]? = some o) (hrm' : rq[2]? = some m) (hrp : rq[3]? = some p) (hg : g = 1 ∧ ag = 2 ∨ g = 0 ∧ ¬ ag = 2 ∧ ag < 3) (hB : pu_B rq) (hrq : rw_is 60 rsz rf rq)
    (h : me_rel now reg cc cap per first size cols ring mtime mcap mper mcc msize mreg mcols times values) :
    ∃ rc rm res, mm_Mt_act F 60 (nI g) now reg cc cap first size cols ring rsz rf = some rc ∧ mm_Mo_act F (nI o) (nI m) (nI p) mtime mcap mcc msize (nI ag) mreg mcols times values = some rm ∧ rc.1 = nI res ∧ rm.1 = nI res ∧ res < 256 ∧
      me_rel rc.2.1 rc.2.2.1 cc cap per rc.2.2.2.1 rc.2.2.2.2.1 cols rc.2.2.2.2.2 rm.2.1 mcap mper mcc rm.2.2.1 rm.2.2.2.1 mcols rm.2.2.2.2.1 rm.2.2.2.2.2 := by
  have hob := hB o (List.mem_of_getElem? hro)
  have hmb := hB m (List.mem_of_getElem? hrm')
  have hpb := hB p (List.mem_of_getElem? hrp)
  have fail : ∀ n : Nat, n < 256 → ∃ rc rm res, some (nI n, now, reg, first, size, ring) = some rc ∧ some (nI n, mtime, msize, mreg, times, values) = some rm ∧ rc.1 = nI res ∧ rm.1 = nI res ∧ res < 256 ∧
      me_rel rc.2.1 rc.2.2.1 cc cap per rc.2.2.2.1 rc.2.2.2.2.1 cols rc.2.2.2.2.2 rm.2.1 mcap mper mcc rm.2.2.1 rm.2.2.2.1 mcols rm.2.2.2.2.1 rm.2.2.2.2.2 :=
    fun n hn => ⟨_, _, n, rfl, rfl, rfl, rfl, hn, h⟩
  obtain ⟨nowN, R, C, E, capN, perN, hnow, hnl, hmt, hrc, hrm, hc, hm⟩ := id h
  rw [mq_Mt_act, pu_b (show mm_Rw_at F 60 1 rsz rf = some (nI o) from pu_at_in (i := 1) hrq hro), pu_b (show mm_Rw_at F 60 2 rsz rf = some (nI m) from pu_at_in (i := 2) hrq hrm'), pu_b (show mm_Rw_at F 60 3 rsz rf = some (nI p) from pu_at_in (i := 3) hrq hrp), pu_b (ob_c hob), pu_z1, mq_Mo_act]
  by_cases h5 : o < 5
  case neg => rw [if_neg h5, if_neg (pu_nle 4 4 (by omega))]; exact fail 4 (by decide)
  rw [if_pos h5, if_pos (pu_le 4 4 (by omega)), pu_b (mt_c h5 hmb), pu_z1]
  have hJ : (if nI o = 0 then (if nI m = 3 then mm_Mo_act_J57 F (nI o) (nI m) (nI p) 1 mtime mcap mcc msize (nI ag) mreg mcols times values else mm_Mo_act_J57 F (nI o) (nI m) (nI p) 0 mtime mcap mcc msize (nI ag) mreg mcols times values)
      else (if 4 ≤ nI o then (if nI m = 1 then mm_Mo_act_J52 F (nI o) (nI m) (nI p) mtime mcap mcc msize (nI ag) mreg mcols times values else (if nI m = 2 then mm_Mo_act_J52 F (nI o) (nI m) (nI p) mtime mcap mcc msize (nI ag) mreg mcols times values else mm_Mo_act_J57 F (nI o) (nI m) (nI p) 0 mtime mcap mcc msize (nI ag) mreg mcols times values))
      else (if nI m = 1 then mm_Mo_act_J57 F (nI o) (nI m) (nI p) 1 mtime mcap mcc msize (nI ag) mreg mcols times values else mm_Mo_act_J57 F (nI o) (nI m) (nI p) 0 mtime mcap mcc msize (nI ag) mreg mcols times values))) =
      mm_Mo_act_J57 F (nI o) (nI m) (nI p) (if mt_ok o m then 1 else 0) mtime mcap mcc msize (nI ag) mreg mcols times values := by
    by_cases o0 : o = 0
    · rw [if_pos (pu_eq 0 0 o0 nI_0.symm)]
      by_cases m3 : m = 3
      · rw [if_pos (pu_eq 3 3 m3), if_pos (show mt_ok o m by unfold mt_ok; rw [if_pos o0]; exact m3)]
      · rw [if_neg (pu_ne 3 3 m3), if_neg (show ¬ mt_ok o m by unfold mt_ok; rw [if_pos o0]; exact m3)]
    rw [if_neg (pu_ne 0 0 o0 (by omega) (by decide) nI_0.symm)]
    by_cases o4 : o = 4
    · rw [if_pos (show (4 : Int32) ≤ nI o from pu_cle 4 4 (by omega))]
      by_cases m1 : m = 1
      · rw [if_pos (pu_eq 1 1 m1), if_pos (show mt_ok o m by unfold mt_ok; rw [if_neg o0, if_pos o4]; exact Or.inl m1)]; rfl
      rw [if_neg (pu_ne 1 1 m1)]
      by_cases m2 : m = 2
      · rw [if_pos (pu_eq 2 2 m2), if_pos (show mt_ok o m by unfold mt_ok; rw [if_neg o0, if_pos o4]; exact Or.inr m2)]; rfl
      · rw [if_neg (pu_ne 2 2 m2), if_neg (show ¬ mt_ok o m by unfold mt_ok; rw [if_neg o0, if_pos o4]; omega)]
    · rw [if_neg (show ¬ (4 : Int32) ≤ nI o from pu_ncle 4 4 (by omega))]
      by_cases m1 : m = 1
      · rw [if_pos (pu_eq 1 1 m1), if_pos (show mt_ok o m by unfold mt_ok; rw [if_neg o0, if_neg o4]; exact m1)]
      · rw [if_neg (pu_ne 1 1 m1), if_neg (show ¬ mt_ok o m by unfold mt_ok; rw [if_neg o0, if_neg o4]; exact m1)]
  rw [hJ, mq_Mo_act_J57, pu_z1]
  by_cases hmk : mt_ok o m
  case neg => rw [if_neg hmk, if_neg hmk]; exact fail 9 (by decide)
  rw [if_pos hmk, if_pos hmk]
  rcases hg with ⟨rfl, rfl⟩ | ⟨rfl, hag, hag3⟩
  case inr => rw [if_pos nI_0, if_neg (pu_ne 2 2 hag)]; exact fail 3 (by decide)
  rw [if_neg (show ¬ nI 1 = 0 by decide +kernel), if_pos (show nI 2 = 2 from rfl)]
  by_cases o0 : o = 0
  · have e0 : nI o = 0 := pu_eq 0 0 o0 nI_0.symm
    rw [if_pos e0, if_pos e0, mq_Mt_roundTime]
    by_cases p0 : p = 0
    · rw [if_neg (show ¬ (0 : Int32) < nI p from pu_ncl 0 0 (by omega) (by decide) nI_0.symm), pu_s, if_pos (pu_eq 0 0 p0 nI_0.symm)]; exact fail 13 (by decide)
    · have hp1 : ¬ nI p = 0 := nI_ne0 (by omega) (by omega)
      have hle : nowN % p ≤ nowN := Nat.mod_le _ _
      have hdm : nowN / p * p = nowN - nowN % p := by have := Nat.div_add_mod nowN p; rw [Nat.mul_comm]; omega
      rw [if_pos (show (0 : Int32) < nI p from pu_cl 0 0 (by omega) (by omega) nI_0.symm), if_neg hp1, pu_s, if_neg hp1, mq_Mo_act_J88, if_pos e0, if_neg hp1, hmt, hnow, show bs_rem (nI nowN) (nI p) = nI (nowN % p) from pk_rem hnl (by omega) (by omega), pk_sub hle, pk_div hnl (by omega) (by omega), pk_mul, hdm]
      exact ⟨_, _, 0, rfl, rfl, nI_0.symm, nI_0.symm, by decide, nowN - nowN % p, R, C, E, capN, perN, rfl, by omega, rfl, hrc, hrm, hc, hm⟩
  have e0 : ¬ nI o = 0 := nI_ne0 (by omega) (by omega)
  rw [if_neg e0, if_neg e0, pu_b (rg_is hob), pu_z1, mq_Mo_act_J88, if_neg e0]
  by_cases o4 : o = 4
  · rw [if_neg (show ¬ (1 ≤ o ∧ o ≤ 3) by omega), if_pos (show (4 : Int32) ≤ nI o from pu_cle 4 4 (by omega))]
    by_cases m1 : m = 1
    · rw [if_pos (pu_eq 1 1 m1), if_pos (pu_eq 1 1 m1), pu_b (show mm_Pf_forget F first size = some (0, 0) from rfl)]
      exact ⟨_, _, 0, rfl, rfl, nI_0.symm, nI_0.symm, by decide, nowN, R, C, [], capN, perN, hnow, hnl, hmt, hrc, hrm, hc.empty, hm.empty⟩
    · have hn0 : ¬ now < 0 := by rw [hnow]; exact nI_pos hnl
      obtain ⟨r1, e1, h1⟩ := pf_capture (F := F) (t := now) (by omega) hc hrc hn0
      obtain ⟨r2, e2, h2⟩ := pm_capture (F := F) (t := mtime) (by omega) hm hrm (by rw [hmt]; exact hn0)
      rw [if_neg (pu_ne 1 1 m1), if_neg (pu_ne 1 1 m1), pu_b e1, pu_b e2]
      rw [hmt] at h2
      exact ⟨_, _, 0, rfl, rfl, nI_0.symm, nI_0.symm, by decide, nowN, R, C, _, capN, perN, hnow, hnl, hmt, hrc, hrm, h1, h2⟩
  · have o1 : 1 ≤ o := by omega
    rw [if_pos (show 1 ≤ o ∧ o ≤ 3 by omega), if_neg (show ¬ (4 : Int32) ≤ nI o from pu_ncle 4 4 (by omega)), show nI o - 1 = nI (o - 1) from pk_sub (b := 1) o1, if_neg (nI_in (by omega) (by omega)), nI_clamp (by omega), if_neg (nI_in (by omega) (by omega)), nI_clamp (by omega)]
    exact ⟨_, _, 0, rfl, rfl, nI_0.symm, nI_0.symm, by decide, nowN, upd R o 0, C, E, capN, perN, hnow, hnl, hmt, hrc.set o1 0, hrm.set 0, hc, hm⟩
