/-! .. calls on the meter -/
abbrev me9 (now : Int32) (reg : Nat → Int32) (cc cap per first size : Int32) (cols ring : Nat → Int32) (mtime mcap mper mcc msize : Int32) (mreg mcols times values : Nat → Int32) : Prop := me_rel now reg cc cap per first size cols ring mtime mcap mper mcc msize mreg mcols times values
theorem ir_c {F : Nat} (i : Int32) : (mm_Mt_isRegister F i = some 0 ∧ mm_Mo_isRegister F i = some 0) ∨ ∃ o, i = nI o ∧ 1 ≤ o ∧ o ≤ 3 ∧ mm_Mt_isRegister F i = some 1 ∧ mm_Mo_isRegister F i = some 1 := by
  rw [mq_Mt_isRegister, mq_Mo_isRegister]
  by_cases h1 : i < 1
  · rw [if_pos h1]
    exact Or.inl ⟨rfl, rfl⟩
  rw [if_neg h1]
  by_cases h3 : 3 < i
  · rw [if_pos h3]
    exact Or.inl ⟨rfl, rfl⟩
  · have h0 : ¬ i < 0 := fun q => h1 (Int32.lt_trans q (by decide +kernel))
    obtain ⟨o, ho, rfl⟩ := nI_of h0
    have o1 : 1 ≤ o := by
      by_cases w : o < 1
      · exact absurd (pu_lt 1 1 w) h1
      · omega
    have o3 : o ≤ 3 := by
      by_cases w : 3 < o
      · exact absurd (pu_cl 3 3 w) h3
      · omega
    rw [if_neg h3]
    exact Or.inr ⟨o, rfl, o1, o3, rfl, rfl⟩
theorem count_both {F : Nat} {i1 i2 now cc cap per first size mtime mcap mper mcc msize th : Int32} {reg cols ring mreg mcols times values : Nat → Int32} (h : me_rel now reg cc cap per first size cols ring mtime mcap mper mcc msize mreg mcols times values) :
    ∃ rc rm, mm_Lp_count F i1 i2 reg = some rc ∧ mm_Mo_count F i1 i2 th mreg = some rm ∧ me_rel now rc.2.2 cc cap per first size cols ring mtime mcap mper mcc msize rm.2.2 mcols times values ∧ (rc.1 = 0 ∧ rm.2.1 = 0 ∧ rc.2.1 = rm.1 ∨ rc.1 = 3 ∧ rm.2.1 = 1) := by
  rw [mq_Lp_count, mq_Mo_count]
  rcases ir_c (F := F) i1 with ⟨e1, e2⟩ | ⟨o, rfl, o1, o3, e1, e2⟩
  · rw [pu_b e1, pu_b e2, if_pos rfl, if_pos rfl, mq_Mo_count_J13, if_neg (by decide +kernel)]
    exact ⟨_, _, rfl, rfl, h, Or.inr ⟨rfl, rfl⟩⟩
  · obtain ⟨nowN, R, C, E, capN, perN, hnow, hnl, hmt, hrc, hrm, hc, hm⟩ := h
    rw [pu_b e1, pu_b e2, if_neg pu_10, if_neg pu_10, mq_Mo_count_J13, if_pos (show (0 : Int32) ≤ 0 by decide +kernel), show nI o - 1 = nI (o - 1) from pk_sub (b := 1) o1, if_neg (nI_in (by omega) (by decide)), if_neg (nI_in (by omega) (by decide)), if_neg (nI_in (by omega) (by decide)), nI_clamp (by omega), if_neg (nI_in (by omega) (by decide)), if_neg (nI_in (by omega) (by decide)), if_neg (nI_in (by omega) (by decide)), nI_clamp (by omega), hrc o o1 o3, hrm o o1 o3]
    refine ⟨_, _, rfl, rfl, ⟨nowN, upd R o (R o + i2), C, E, capN, perN, hnow, hnl, hmt, hrc.set o1 _, hrm.set _, hc, hm⟩, Or.inl ⟨rfl, rfl, ?_⟩⟩
    show upd reg (o - 1) (R o + i2) (o - 1) = upd mreg o (R o + i2) o
    rw [pk_us, pk_us]
theorem register_both {F : Nat} {i1 now cc cap per first size mtime mcap mper mcc msize th : Int32} {reg cols ring mreg mcols times values : Nat → Int32} (h : me_rel now reg cc cap per first size cols ring mtime mcap mper mcc msize mreg mcols times values) :
    ∃ rc rm, mm_Lp_register F i1 reg = some rc ∧ mm_Mo_register F i1 th mreg = some rm ∧ (rc.1 = 0 ∧ rm.2 = 0 ∧ rc.2 = rm.1 ∨ rc.1 = 3 ∧ rm.2 = 1) := by
  rw [mq_Lp_register, mq_Mo_register]
  rcases ir_c (F := F) i1 with ⟨e1, e2⟩ | ⟨o, rfl, o1, o3, e1, e2⟩
  · rw [pu_b e1, pu_b e2, if_pos rfl, if_pos rfl, mq_Mo_register_J13, if_neg (by decide +kernel)]
    exact ⟨_, _, rfl, rfl, Or.inr ⟨rfl, rfl⟩⟩
  · obtain ⟨nowN, R, C, E, capN, perN, hnow, hnl, hmt, hrc, hrm, hc, hm⟩ := h
    rw [pu_b e1, pu_b e2, if_neg pu_10, if_neg pu_10, mq_Mo_register_J13, if_pos (show (0 : Int32) ≤ 0 by decide +kernel), show nI o - 1 = nI (o - 1) from pk_sub (b := 1) o1, if_neg (nI_in (by omega) (by decide)), nI_clamp (by omega), if_neg (nI_in (by omega) (by decide)), nI_clamp (by omega), hrc o o1 o3, hrm o o1 o3]
    exact ⟨_, _, rfl, rfl, Or.inl ⟨rfl, rfl, rfl⟩⟩
theorem entry_both {F : Nat} {i1 i2 now cc cap per first size mtime mcap mper mcc msize th : Int32} {reg cols ring mreg mcols times values : Nat → Int32} (h : me_rel now reg cc cap per first size cols ring mtime mcap mper mcc msize mreg mcols times values) :
    ∃ rc rm, mm_Lp_entry F i1 i2 cc first size ring = some rc ∧ mm_Mo_entry F i1 i2 th mcc msize times values = some rm ∧ (rc.1 = 0 ∧ rm.2 = 0 ∧ rc.2 = rm.1 ∨ rc.1 = 3 ∧ rm.2 = 1 ∨ rc.1 = 4 ∧ rm.2 = 2) := by
  obtain ⟨nowN, R, C, E, capN, perN, hnow, hnl, hmt, hrc, hrm, ⟨⟨w1, w2, w3, w4, w5, w6, w7, w8, w9⟩, hcc, hcap, hper, hs, hcols, fN, hf, hfN, hr⟩, ⟨-, mcc', -, -, ms', -, htv⟩⟩ := h
  rw [mq_Lp_entry, mq_Mo_entry, hs, ms', hcc, mcc']
  by_cases q1 : i1 < 0
  · rw [if_pos q1, if_pos q1, mq_Mo_entry_J13, mq_Mo_entry_J34, if_neg (by decide +kernel)]
    exact ⟨_, _, rfl, rfl, Or.inr (Or.inl ⟨rfl, rfl⟩)⟩
  obtain ⟨i, hi, rfl⟩ := nI_of q1
  rw [if_neg q1, if_neg q1]
  by_cases q2 : i < E.length
  case neg =>
    rw [if_neg (nI_nlt (by omega) hi), if_neg (nI_nlt (by omega) hi), mq_Mo_entry_J13, mq_Mo_entry_J34, if_neg (by decide +kernel)]
    exact ⟨_, _, rfl, rfl, Or.inr (Or.inl ⟨rfl, rfl⟩)⟩
  rw [if_pos (nI_lt q2 (by omega)), if_pos (nI_lt q2 (by omega))]
  by_cases q3 : i2 < 0
  · rw [if_pos q3, if_pos q3, mq_Mo_entry_J29, mq_Mo_entry_J34, if_neg (by decide +kernel)]
    exact ⟨_, _, rfl, rfl, Or.inr (Or.inr ⟨rfl, rfl⟩)⟩
  obtain ⟨k, hk, rfl⟩ := nI_of q3
  rw [if_neg q3, if_neg q3]
  by_cases q4 : k ≤ C.length
  case neg =>
    rw [if_neg (nI_ge (by omega) hk), if_neg (nI_ge (by omega) hk), mq_Mo_entry_J29, mq_Mo_entry_J34, if_neg (by decide +kernel)]
    exact ⟨_, _, rfl, rfl, Or.inr (Or.inr ⟨rfl, rfl⟩)⟩
  have hel := w8 E[i] (List.getElem_mem q2)
  have hkl : k < E[i].length := by omega
  obtain ⟨x, hx⟩ : ∃ x, E[i][k]? = some x := ⟨E[i][k], List.getElem?_eq_getElem hkl⟩
  have hrx := hr i E[i] k x (List.getElem?_eq_getElem q2) hx
  obtain ⟨t1, t2⟩ := htv i E[i] (List.getElem?_eq_getElem q2)
  have e0 : bs_rem (first + nI i) 12 * 4 = nI ((fN + i) % 12 * 4) := by
    rw [hf, nI_add, show bs_rem (nI (fN + i)) 12 = nI ((fN + i) % 12) from pk_rem (d := 12) (by omega) (by omega) (by omega)]
    exact pk_mul _ 4
  rw [if_pos (nI_le q4 (by omega)), if_pos (nI_le q4 (by omega)), mq_Pf_at, pu_b (show mm_Pf_start F (nI i) first = some _ from rfl), e0, nI_add, if_neg (nI_in (by omega) (by decide)), nI_clamp (by omega), hrx, pu_s, mq_Mo_entry_J34, if_pos (show (0 : Int32) ≤ 0 by decide +kernel)]
  cases k with
  | zero =>
    rw [if_pos (show nI 0 = 0 from nI_0), if_neg (nI_in (by omega) (by decide)), nI_clamp hi, t1 x hx]
    exact ⟨_, _, rfl, rfl, Or.inl ⟨rfl, rfl, rfl⟩⟩
  | succ k =>
    have e3 : (3 : Int32) * nI i = nI (3 * i) := pk_mul 3 i
    have e4 : nI (3 * i) + nI (k + 1) - 1 = nI (3 * i + k) := by
      rw [nI_add, show nI (3 * i + (k + 1)) - 1 = nI (3 * i + (k + 1) - 1) from pk_sub (b := 1) (by omega)]
      congr 1
    rw [if_neg (show ¬ nI (k + 1) = 0 from nI_ne0 (by omega) hk), e3, e4, if_neg (nI_in (by omega) (by decide)), nI_clamp (by omega), t2 k x hx]
    exact ⟨_, _, rfl, rfl, Or.inl ⟨rfl, rfl, rfl⟩⟩
/-! a second, then run -/
theorem mx : (2147483647 : Int32) = nI 2147483647 := rfl
theorem run_loop {F n : Nat} {cc cap per mcap mper mcc : Int32} {reg cols mreg mcols : Nat → Int32} (hF : 100 < F) (hn : n ≤ 1000) :
    ∀ (k i : Nat) (now first size mtime msize : Int32) (ring times values : Nat → Int32), i ≤ n → n - i < k → me_rel now reg cc cap per first size cols ring mtime mcap mper mcc msize mreg mcols times values →
      ∃ rc rm, mm_Lp_run_L21 F k (nI n) (nI i) now reg cc cap per first size cols ring = some rc ∧ mm_Mo_run_L22 F k (nI n) (nI i) 0 mtime mcap mper mcc msize mreg mcols times values = some rm ∧ rc.1 = 0 ∧ rm.1 = 0 ∧
        me_rel rc.2.1 reg cc cap per rc.2.2.1 rc.2.2.2.1 cols rc.2.2.2.2 rm.2.1 mcap mper mcc rm.2.2.1 mreg mcols rm.2.2.2.1 rm.2.2.2.2 := by
  intro k
  induction k with
  | zero => intro i now first size mtime msize ring times values _ h; omega
  | succ k ih =>
    intro i now first size mtime msize ring times values hi hk h
    rw [mq_Lp_run_L21, mq_Mo_run_L22]
    by_cases hin : n ≤ i
    · rw [if_pos (nI_le hin (by omega)), if_pos (nI_le hin (by omega))]
      exact ⟨_, _, rfl, rfl, rfl, rfl, h⟩
    rw [if_neg (nI_ge (by omega) (by omega)), if_neg (nI_ge (by omega) (by omega)), if_pos rfl, nI_1]
    obtain ⟨nowN, R, C, E, capN, perN, hnow, hnl, hmt, hrc, hrm, hc, hm⟩ := h
    have hper : per = nI perN := hc.2.2.2.1
    have hmper : mper = nI perN := hm.2.2.2.1
    have hpl : perN < 2 ^ 31 := hc.1.2.2.2.2.2.1
    -- one second at the new time t
    have sec : ∀ (tN : Nat), tN < 2 ^ 31 → ∃ rc rm, (mm_Mt_passSecond_J20 F (nI tN) now reg cc cap per first size cols ring).bind (fun x30 => mm_Lp_run_L21 F k (nI n) (nI (i + 1)) x30.1 reg cc cap per x30.2.1 x30.2.2.1 cols x30.2.2.2) = some rc ∧
        (if mper ≤ 0 then mm_Mo_run_L22 F k (nI n) (nI (i + 1)) 0 (nI tN) mcap mper mcc msize mreg mcols times values else (if mper = 0 then none else (if bs_rem (nI tN) mper = 0 then (mm_Mo_capture F (nI tN) mcap mcc msize mreg mcols times values).bind fun x77 => mm_Mo_run_L22 F k (nI n) (nI (i + 1)) 0 (nI tN) mcap mper mcc x77.1 mreg mcols x77.2.1 x77.2.2 else mm_Mo_run_L22 F k (nI n) (nI (i + 1)) 0 (nI tN) mcap mper mcc msize mreg mcols times values))) = some rm ∧ rc.1 = 0 ∧ rm.1 = 0 ∧
        me_rel rc.2.1 reg cc cap per rc.2.2.1 rc.2.2.2.1 cols rc.2.2.2.2 rm.2.1 mcap mper mcc rm.2.2.1 mreg mcols rm.2.2.2.1 rm.2.2.2.2 := by
      intro tN htN
      rw [mq_Mt_passSecond_J20]
      by_cases p0 : perN = 0
      · rw [if_pos (show per = 0 by rw [hper]; exact pu_eq 0 0 p0 nI_0.symm), pu_s, if_pos (show mper ≤ 0 by rw [hmper]; exact pu_le 0 0 (by omega) (by decide) nI_0.symm)]
        exact ih (i + 1) _ _ _ _ _ _ _ _ (by omega) (by omega) ⟨tN, R, C, E, capN, perN, rfl, htN, rfl, hrc, hrm, hc, hm⟩
      · have hp : ¬ per = 0 := by rw [hper]; exact nI_ne0 (by omega) hpl
        have hmp : ¬ mper = 0 := by rw [hmper]; exact nI_ne0 (by omega) hpl
        have hrem : bs_rem (nI tN) per = nI (tN % perN) := by rw [hper]; exact pk_rem htN (by omega) hpl
        have hmrem : bs_rem (nI tN) mper = nI (tN % perN) := by rw [hmper]; exact pk_rem htN (by omega) hpl
        have hml : tN % perN < 2 ^ 31 := Nat.lt_of_le_of_lt (Nat.mod_le _ _) htN
        rw [if_neg hp, if_neg hp, hrem, if_neg (show ¬ mper ≤ 0 by rw [hmper]; exact nI_nle (by omega) hpl), if_neg hmp, hmrem]
        by_cases q : tN % perN = 0
        · have hn0 : ¬ nI tN < 0 := nI_pos htN
          obtain ⟨r1, e1, h1⟩ := pf_capture (F := F) (t := nI tN) (by omega) hc hrc hn0
          obtain ⟨r2, e2, h2⟩ := pm_capture (F := F) (t := nI tN) (by omega) hm hrm hn0
          rw [if_pos (pu_eq 0 0 q nI_0.symm), if_pos (pu_eq 0 0 q nI_0.symm), pu_b e1, pu_s, pu_b e2]
          exact ih (i + 1) _ _ _ _ _ _ _ _ (by omega) (by omega) ⟨tN, R, C, _, capN, perN, rfl, htN, rfl, hrc, hrm, h1, h2⟩
        · rw [if_neg (pu_ne 0 0 q hml (by decide) nI_0.symm), if_neg (pu_ne 0 0 q hml (by decide) nI_0.symm), pu_s]
          exact ih (i + 1) _ _ _ _ _ _ _ _ (by omega) (by omega) ⟨tN, R, C, E, capN, perN, rfl, htN, rfl, hrc, hrm, hc, hm⟩
    rw [mq_Mt_passSecond, hmt]
    by_cases q : nowN = 2147483647
    · have e1 : now = 2147483647 := by rw [hnow, q]; rfl
      have s0 := sec 0 (by decide)
      rw [nI_0] at s0
      rw [if_pos e1, if_pos e1]
      exact s0
    · have e1 : ¬ now = 2147483647 := by rw [hnow]; exact pu_ne 2147483647 2147483647 q hnl
      have s1 := sec (nowN + 1) (by omega)
      rw [← nI_1, ← hnow] at s1
      rw [if_neg e1, if_neg e1]
      exact s1
theorem run_both {F : Nat} {i1 now cc cap per first size mtime mcap mper mcc msize th : Int32} {reg cols ring mreg mcols times values : Nat → Int32} (hF : 1500 < F) (h : me_rel now reg cc cap per first size cols ring mtime mcap mper mcc msize mreg mcols times values) :
    ∃ rc rm, mm_Lp_run F i1 now reg cc cap per first size cols ring = some rc ∧ mm_Mo_run F i1 th mtime mcap mper mcc msize mreg mcols times values = some rm ∧ (rc.1 = 0 ∧ rm.1 = 0 ∨ rc.1 = 1 ∧ rm.1 = 1) ∧
      me_rel rc.2.1 reg cc cap per rc.2.2.1 rc.2.2.2.1 cols rc.2.2.2.2 rm.2.1 mcap mper mcc rm.2.2.1 mreg mcols rm.2.2.2.1 rm.2.2.2.2 := by
  have stop : ∀ v : Int32, ∃ rm, mm_Mo_run_L22 F F v 0 1 mtime mcap mper mcc msize mreg mcols times values = some rm ∧ rm = (1, mtime, msize, times, values) := by
    intro v
    obtain ⟨k, rfl⟩ : ∃ k, F = k + 1 := ⟨F - 1, by omega⟩
    rw [mq_Mo_run_L22, if_neg pu_10]
    split <;> exact ⟨_, rfl, rfl⟩
  rw [mq_Lp_run, mq_Mo_run]
  by_cases q1 : i1 < 0
  · obtain ⟨rm, e, hrm⟩ := stop i1
    rw [if_pos q1, if_pos q1, e, hrm]
    exact ⟨_, _, rfl, rfl, Or.inr ⟨rfl, rfl⟩, h⟩
  obtain ⟨n, hn, rfl⟩ := nI_of q1
  rw [if_neg q1, if_neg q1]
  by_cases q2 : n ≤ 1000
  · obtain ⟨rc, rm, e1, e2, k1, k2, k3⟩ := run_loop (F := F) (n := n) (by omega) q2 F 0 now first size mtime msize ring times values (by omega) (by omega) h
    rw [nI_0] at e1 e2
    rw [if_pos (pu_le 1000 1000 q2), if_pos (pu_le 1000 1000 q2), e1, e2]
    exact ⟨_, _, rfl, rfl, Or.inl ⟨k1, k2⟩, k3⟩
  · obtain ⟨rm, e, hrm⟩ := stop (nI n)
    rw [if_neg (pu_nle 1000 1000 (by omega)), if_neg (pu_nle 1000 1000 (by omega)), e, hrm]
    exact ⟨_, _, rfl, rfl, Or.inr ⟨rfl, rfl⟩, h⟩
theorem link_both {F : Nat} {conn exp nxt asc lsz mconn mexp mnxt masc mlsz th : Int32} {lat mlat : Nat → Int32} (h : cs_rel conn exp nxt asc lsz lat mconn mexp mnxt masc mlsz mlat) :
    ∃ rc rm, mm_Lp_link F conn exp nxt asc = some rc ∧ mm_Mo_link F th mconn mexp mnxt masc = some rm ∧ rc = rm.1 ∧ rm.2 = 0 := by
  obtain ⟨e, n, ag, L, hconn, rfl, rfl, rfl, he, rfl, rfl, hn, rfl, rfl, hag, hL, rfl, hmL, hLB, hL7⟩ := h
  rw [mq_Lp_link, mq_Cn_state, mq_Mo_link]
  rcases hconn with rfl | rfl
  · rw [if_pos rfl, if_pos rfl, pu_s]
    exact ⟨_, _, rfl, rfl, rfl, rfl⟩
  · rw [if_neg pu_10, if_neg pu_10, pu_s]
    exact ⟨_, _, rfl, rfl, rfl, rfl⟩
