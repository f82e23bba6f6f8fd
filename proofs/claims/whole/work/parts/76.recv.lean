abbrev rv_C : Type := Int32 × Int32 × Int32 × Int32 × Int32 × Int32 × (Nat → Int32) × Int32 × Int32 × Int32 × Int32 × Int32 × (Nat → Int32) × (Nat → Int32) × Int32 × (Nat → Int32) × Int32 × (Nat → Int32) × Int32 × (Nat → Int32) × Int32 × (Nat → Int32)
abbrev rv_M : Type := Int32 × Int32 × Int32 × Int32 × Int32 × Int32 × Int32 × Int32 × Int32 × Int32 × Int32 × Int32 × Int32 × Int32 × (Nat → Int32) × (Nat → Int32) × (Nat → Int32) × (Nat → Int32) × (Nat → Int32) × (Nat → Int32) × (Nat → Int32) × (Nat → Int32)
abbrev rv_ok (c : rv_C) (m : rv_M) : Prop := cs_rel c.1 c.2.1 c.2.2.1 c.2.2.2.1 c.2.2.2.2.2.2.2.2.2.2.2.2.2.2.2.2.1 c.2.2.2.2.2.2.2.2.2.2.2.2.2.2.2.2.2.1 m.2.2.2.2.2.1 m.2.2.2.2.2.2.1 m.2.2.2.2.2.2.2.1 m.2.2.2.2.2.2.2.2.1 m.2.2.2.2.2.2.2.2.2.2.2.2.1 m.2.2.2.2.2.2.2.2.2.2.2.2.2.2.2.2.2.2.2.2.1 ∧
  me_rel c.2.2.2.2.2.1 c.2.2.2.2.2.2.1 c.2.2.2.2.2.2.2.1 c.2.2.2.2.2.2.2.2.1 c.2.2.2.2.2.2.2.2.2.1 c.2.2.2.2.2.2.2.2.2.2.1 c.2.2.2.2.2.2.2.2.2.2.2.1 c.2.2.2.2.2.2.2.2.2.2.2.2.1 c.2.2.2.2.2.2.2.2.2.2.2.2.2.1 m.1 m.2.1 m.2.2.1 m.2.2.2.1 m.2.2.2.2.1 m.2.2.2.2.2.2.2.2.2.2.2.2.2.2.1 m.2.2.2.2.2.2.2.2.2.2.2.2.2.2.2.1 m.2.2.2.2.2.2.2.2.2.2.2.2.2.2.2.2.1 m.2.2.2.2.2.2.2.2.2.2.2.2.2.2.2.2.2.1 ∧
  lv_rel c.2.2.2.2.1 c.2.2.2.2.2.2.2.2.2.2.2.2.2.2.2.2.2.2.1 c.2.2.2.2.2.2.2.2.2.2.2.2.2.2.2.2.2.2.2.1 m.2.2.2.2.2.2.2.2.2.1 m.2.2.2.2.2.2.2.2.2.2.1 m.2.2.2.2.2.2.2.2.2.2.2.2.2.2.2.2.2.2.1 ∧ re_rel c.2.2.2.2.2.2.2.2.2.2.2.2.2.2.2.2.2.2.2.2.1 c.2.2.2.2.2.2.2.2.2.2.2.2.2.2.2.2.2.2.2.2.2 m.2.2.2.2.2.2.2.2.2.2.2.1 m.2.2.2.2.2.2.2.2.2.2.2.2.2.2.2.2.2.2.2.1
theorem rv_both {F : Nat} {secret conn exp nxt asc bs now cc cap per first size qsz lsz vsz nsz psz mtime mcap mper mcc msize mconn mexp mnxt masc msz ms mlsz many : Int32} {reg cols ring qf lat vf nf pf mreg mcols times values mb mline reply mlat made : Nat → Int32} {l : List Nat}
    (hF : 300 < F) (hln : rw_is 80 nsz nf l) (hml : fb mline l) (hB : pu_B l) (hok : pu_ok l) (hps : rw_is 80 psz pf []) (hcs : cs_rel conn exp nxt asc lsz lat mconn mexp mnxt masc mlsz mlat) (hme : me_rel now reg cc cap per first size cols ring mtime mcap mper mcc msize mreg mcols times values) (hlv : lv_rel bs vsz vf msz ms mb) :
    ∃ rc rm, mm_Cn_receive F 80 80 secret conn exp nxt asc bs now reg cc cap per first size cols ring qsz qf lsz lat vsz vf nsz nf psz pf = some rc ∧
      mm_Mo_look F (nI (if l.length = 7 then 0 else l.length - 9)) secret mtime mcap mper mcc msize mconn mexp mnxt masc msz ms 0 mlsz many mreg mcols times values mb mline reply mlat made = some rm ∧ rv_ok rc rm := by
  have hl80 := hln.2.1
  have hlen := hok.1
  obtain ⟨c, hc⟩ := pu_get (l := l) (i := 3) (by omega)
  have hcb := hB c (List.mem_of_getElem? hc)
  have c3 : (3 : Int32).toNatClampNeg = 3 := by decide +kernel
  have hcs' := hcs
  obtain ⟨e, n, ag, L, hconn, hmc, rfl, rfl, he, rfl, rfl, hn, rfl, rfl, hag, hL, rfl, hmL, hLB, hL7⟩ := hcs
  have none_re : re_rel psz pf 0 reply := ⟨[], hps, nI_0.symm, fb_nil _, fun x hx => (by cases hx), Or.inl rfl⟩
  rw [mq_Cn_receive, pu_b (show mm_Rw_at F 80 3 nsz nf = some (nI c) from pu_at_in (i := 3) hln hc), mq_Mo_look, c3, hml 3 c hc]
  by_cases h7 : l.length = 7
  · have e7 : nsz = 7 := by rw [hln.1, h7]; rfl
    have n0 : nI (if l.length = 7 then 0 else l.length - 9) = 0 := by rw [if_pos h7]; exact nI_0
    rw [if_pos e7, n0, mq_Cn_receiveBare]
    by_cases q1 : c = 147
    · obtain ⟨x1, e1, g1⟩ := wr_bare (F := F) (c := 115) (by omega) (by decide) hps
      obtain ⟨y1, d1, k1, k2⟩ := rc_bare (F := F) (c := 115) (told := 0) (reply := reply) (by omega) (by decide)
      rw [if_pos (pu_eq 147 147 q1), if_pos (pu_eq 147 147 q1), if_pos rfl, mq_Cn_connect, pu_b (show mm_Rw_drop F lsz = some 0 from rfl), pu_s, pu_b (show mm_Fr_wrap F 80 115 psz pf = some x1 from e1), pu_s, pu_b (show mm_Mo_replyControl F 115 0 reply = some y1 from d1)]
      exact ⟨_, _, rfl, rfl, ⟨0, 0, 0, [], Or.inr rfl, rfl, nI_0.symm, nI_0.symm, by decide, nI_0.symm, nI_0.symm, by decide, nI_0.symm, nI_0.symm, by decide, pu_empty lat (by decide), nI_0.symm, fb_nil _, fun x hx => (by cases hx), Or.inl rfl⟩, hme, Or.inl ⟨rfl, rfl⟩, bare_rel (by decide) g1 k1 k2⟩
    rw [if_neg (pu_ne 147 147 q1), if_neg (pu_ne 147 147 q1), mq_Mo_look_J57]
    by_cases q2 : c = 83
    · rw [if_pos (pu_eq 83 83 q2), if_pos (pu_eq 83 83 q2), if_pos rfl, hmc]
      rcases hconn with rfl | rfl
      · obtain ⟨x1, e1, g1⟩ := wr_bare (F := F) (c := 31) (by omega) (by decide) hps
        obtain ⟨y1, d1, k1, k2⟩ := rc_bare (F := F) (c := 31) (told := 0) (reply := reply) (by omega) (by decide)
        rw [if_pos rfl, if_pos rfl, pu_b (show mm_Fr_wrap F 80 31 psz pf = some x1 from e1), pu_s, pu_b (show mm_Mo_replyControl F 31 0 reply = some y1 from d1)]
        exact ⟨_, _, rfl, rfl, ⟨e, n, ag, L, Or.inl rfl, rfl, rfl, rfl, he, rfl, rfl, hn, rfl, rfl, hag, hL, rfl, hmL, hLB, hL7⟩, hme, hlv, bare_rel (by decide) g1 k1 k2⟩
      · obtain ⟨x1, e1, g1⟩ := wr_bare (F := F) (c := 115) (by omega) (by decide) hps
        obtain ⟨y1, d1, k1, k2⟩ := rc_bare (F := F) (c := 115) (told := 0) (reply := reply) (by omega) (by decide)
        rw [if_neg pu_10, if_neg pu_10, pu_b (show mm_Fr_wrap F 80 115 psz pf = some x1 from e1), pu_s, pu_b (show mm_Mo_replyControl F 115 0 reply = some y1 from d1)]
        exact ⟨_, _, rfl, rfl, ⟨e, n, ag, L, Or.inl rfl, rfl, rfl, rfl, he, rfl, rfl, hn, rfl, rfl, hag, hL, rfl, hmL, hLB, hL7⟩, hme, hlv, bare_rel (by decide) g1 k1 k2⟩
    rw [if_neg (pu_ne 83 83 q2), if_neg (pu_ne 83 83 q2), pu_s, mq_Mo_look_J93, if_pos (show (0 : Int32) ≤ 0 by decide +kernel)]
    exact ⟨_, _, rfl, rfl, hcs', hme, hlv, none_re⟩
  have hl10 : 10 ≤ l.length := by omega
  have hl69 : l.length ≤ 69 := by omega
  have e7 : ¬ nsz = 7 := by rw [hln.1]; exact pu_ne 7 7 h7
  rw [if_neg e7, if_neg h7]
  have nn0 : ¬ nI (l.length - 9) = 0 := nI_ne0 (by omega) (by omega)
  have hJ : (if nI c = 147 then (if nI (l.length - 9) = 0 then (mm_Mo_replyControl F 115 0 reply).bind fun x51 => some (mtime, mcap, mper, mcc, msize, 1, 0, 0, 0, 0, ms, x51.1, 0, many, mreg, mcols, times, values, mb, x51.2, mlat, made) else mm_Mo_look_J57 F (nI (l.length - 9)) (nI c) secret mtime mcap mper mcc msize mconn (nI e) (nI n) (nI ag) msz ms 0 (nI L.length) many mreg mcols times values mb mline reply mlat made) else mm_Mo_look_J57 F (nI (l.length - 9)) (nI c) secret mtime mcap mper mcc msize mconn (nI e) (nI n) (nI ag) msz ms 0 (nI L.length) many mreg mcols times values mb mline reply mlat made) = mm_Mo_look_J93 F (nI (l.length - 9)) (nI c) secret mtime mcap mper mcc msize mconn (nI e) (nI n) (nI ag) msz ms 0 (nI L.length) many mreg mcols times values mb mline reply mlat made := by
    have j57 : mm_Mo_look_J57 F (nI (l.length - 9)) (nI c) secret mtime mcap mper mcc msize mconn (nI e) (nI n) (nI ag) msz ms 0 (nI L.length) many mreg mcols times values mb mline reply mlat made = mm_Mo_look_J93 F (nI (l.length - 9)) (nI c) secret mtime mcap mper mcc msize mconn (nI e) (nI n) (nI ag) msz ms 0 (nI L.length) many mreg mcols times values mb mline reply mlat made := by
      rw [mq_Mo_look_J57, if_neg nn0]
      split <;> rfl
    rw [if_neg nn0, j57]
    split <;> rfl
  rw [hJ, mq_Mo_look_J93, if_neg (nI_nle (by omega) (by omega)), mo_rem 2 (d := 2) rfl (by omega) (by decide) (by decide), mo_div 16 (d := 16) rfl (by omega) (by decide) (by decide), mo_rem 2 (d := 2) rfl (by omega) (by decide) (by decide), mo_div 2 (d := 2) rfl (by omega) (by decide) (by decide), mo_rem 8 (d := 8) rfl (by omega) (by decide) (by decide), mo_div 32 (d := 32) rfl (by omega) (by decide) (by decide)]
  by_cases hi : is_inf c
  case neg =>
    have hmod : (if nI (c % 2) = 0 then (if nI (c / 16 % 2) = 1 then (mm_Mo_inform F (nI (c / 2 % 8)) (nI (c / 32)) (nI (l.length - 9)) secret mtime mcap mper mcc msize mconn (nI e) (nI n) (nI ag) msz ms 0 (nI L.length) many mreg mcols times values mb mline reply mlat made).bind fun x125 => some (x125.1, x125.2.1, x125.2.2.1, x125.2.2.2.1, x125.2.2.2.2.1, mconn, x125.2.2.2.2.2.1, x125.2.2.2.2.2.2.1, x125.2.2.2.2.2.2.2.1, x125.2.2.2.2.2.2.2.2.1, x125.2.2.2.2.2.2.2.2.2.1, x125.2.2.2.2.2.2.2.2.2.2.1, x125.2.2.2.2.2.2.2.2.2.2.2.1, x125.2.2.2.2.2.2.2.2.2.2.2.2.1, x125.2.2.2.2.2.2.2.2.2.2.2.2.2.1, x125.2.2.2.2.2.2.2.2.2.2.2.2.2.2.1, x125.2.2.2.2.2.2.2.2.2.2.2.2.2.2.2.1, x125.2.2.2.2.2.2.2.2.2.2.2.2.2.2.2.2.1, x125.2.2.2.2.2.2.2.2.2.2.2.2.2.2.2.2.2.1, x125.2.2.2.2.2.2.2.2.2.2.2.2.2.2.2.2.2.2.1, x125.2.2.2.2.2.2.2.2.2.2.2.2.2.2.2.2.2.2.2.1, x125.2.2.2.2.2.2.2.2.2.2.2.2.2.2.2.2.2.2.2.2) else some (mtime, mcap, mper, mcc, msize, mconn, nI e, nI n, nI ag, msz, ms, 0, nI L.length, many, mreg, mcols, times, values, mb, reply, mlat, made)) else some (mtime, mcap, mper, mcc, msize, mconn, nI e, nI n, nI ag, msz, ms, 0, nI L.length, many, mreg, mcols, times, values, mb, reply, mlat, made)) = some (mtime, mcap, mper, mcc, msize, mconn, nI e, nI n, nI ag, msz, ms, (0 : Int32), nI L.length, many, mreg, mcols, times, values, mb, reply, mlat, made) := by
      by_cases w1 : c % 2 = 0
      · rw [if_pos (pu_eq 0 0 w1 nI_0.symm), if_neg (pu_ne 1 1 (fun w => hi ⟨w1, w⟩))]
      · rw [if_neg (pu_ne 0 0 w1 (by omega) (by decide) nI_0.symm)]
    rw [hmod, pu_b (fr_isinf hcb), pu_z1, if_neg hi]
    rcases hconn with rfl | rfl
    · rw [if_pos rfl]
      exact ⟨_, _, rfl, rfl, hcs', hme, hlv, none_re⟩
    · have hla : mm_Cn_isLatestAgain F (nI c) (nI e) (nI n) lsz = some 0 := by
        rw [mq_Cn_isLatestAgain, pu_b (fr_before he), pu_b (fr_before hn), pu_b (fr_info (by omega) (by omega)), if_neg (pu_nn (by omega) (by omega) (by omega))]
        split <;> rfl
      rw [if_neg pu_10, pu_b (fr_info he hn), if_neg (pu_nn (by omega) (by omega) (by omega)), pu_b hla, if_pos rfl, pu_b (fr_isinf hcb), pu_z1, if_neg hi]
      exact ⟨_, _, rfl, rfl, hcs', hme, hlv, none_re⟩
  rw [if_pos (pu_eq 0 0 hi.1 nI_0.symm), if_pos (pu_eq 1 1 hi.2), pu_b (fr_isinf hcb), pu_z1, if_pos hi, mq_Mo_inform, hmc]
  rcases hconn with rfl | rfl
  · obtain ⟨x1, e1, g1⟩ := wr_bare (F := F) (c := 31) (by omega) (by decide) hps
    obtain ⟨y1, d1, k1, k2⟩ := rc_bare (F := F) (c := 31) (told := 0) (reply := reply) (by omega) (by decide)
    rw [if_pos rfl, if_pos rfl, pu_b (show mm_Fr_wrap F 80 31 psz pf = some x1 from e1), pu_b (show mm_Mo_replyControl F 31 0 reply = some y1 from d1), pu_s]
    exact ⟨_, _, rfl, rfl, ⟨e, n, ag, L, Or.inl rfl, rfl, rfl, rfl, he, rfl, rfl, hn, rfl, rfl, hag, hL, rfl, hmL, hLB, hL7⟩, hme, hlv, bare_rel (by decide) g1 k1 k2⟩
  rw [if_neg pu_10, if_neg pu_10, pu_b (fr_info he hn)]
  by_cases hx : c = 16 + 2 * e + 32 * n
  · have hs : c / 2 % 8 = e := by omega
    have hr : c / 32 = n := by omega
    have eps : mm_Fr_payloadSize F nsz = some (nI (l.length - 9)) := by
      show some (nsz - 6 - 3) = _
      rw [hln.1, show nI l.length - 6 = nI (l.length - 6) from pk_sub (b := 6) (by omega), show nI (l.length - 6) - 3 = nI (l.length - 6 - 3) from pk_sub (b := 3) (by omega)]
      congr 2
    obtain ⟨x2, e2, g2⟩ := pu_addPart (F := F) (a := 6) (c := l.length - 9) (pu_empty (N := 60) qf (by decide)) hln (by omega) (by simp; omega) (by omega)
    rw [List.nil_append] at g2
    have hpl := pay_len (l := l) hl10
    obtain ⟨rc, rm, e3, d3, ag', out, h1, h2, h3, h4, h5, h6, h7', h8, h9, h10⟩ := an_both (F := F) (secret := secret) (many := many) (made := made) hF (by rw [hpl]; omega) ((hB.drop 6).take (l.length - 9)) g2 (pay_ln hml) hps hag hme hlv
    rw [hpl] at d3
    obtain ⟨x4, e4, g4⟩ := pu_wrap (F := F) (c := 16 + 2 * n + 32 * ((e + 1) % 8)) h6 h8 (by omega) (by omega) (by omega) (by omega)
    obtain ⟨x5, e5, g5⟩ := pu_addPart (F := F) (a := 0) (c := (pu_fr (16 + 2 * n + 32 * ((e + 1) % 8)) out).length) (pu_empty (N := 80) lat (by decide)) g4 (by omega) (by rw [pu_fr_len]; simp; split <;> omega) (by rw [pu_fr_len]; split <;> omega)
    rw [nI_0, ← g4.1] at e5
    rw [List.nil_append, List.drop_zero, List.take_of_length_le (Nat.le_refl _)] at g5
    obtain ⟨reply', mlat', d6, k6, k7⟩ := i72 (F := F) (v4 := n) (e' := (e + 1) % 8) (told := 0) (mlsz := nI L.length) (reply := reply) (by omega) hn (by omega) h7'.2.2.2 h8 h9 h10 F 0 mlat (by omega) (by omega) (fun j x _ hj => by omega)
    rw [nI_0] at d6
    rw [if_pos (congrArg nI hx), pu_b (show mm_Rw_drop F qsz = some 0 from rfl), pu_b eps, pu_b (show mm_Rw_addPart F 60 80 6 (nI (l.length - 9)) 0 qf nsz nf = some x2 from e2), pu_b e3, pu_b (fr_after he), pu_b (fr_info hn (by omega)), pu_b e4, pu_b (fr_after hn), pu_b (show mm_Rw_drop F lsz = some 0 from rfl), pu_b e5,
      if_pos (congrArg nI hs), if_pos (congrArg nI hr), pu_b d3, nI_1 e, nI_1 n, mo_rem 8 (d := 8) rfl (by omega) (by decide) (by decide), mo_rem 8 (d := 8) rfl (by omega) (by decide) (by decide), h7'.1, pu_b d6]
    refine ⟨_, _, rfl, rfl, ⟨(e + 1) % 8, (n + 1) % 8, ag', _, Or.inr rfl, rfl, rfl, rfl, by omega, rfl, rfl, by omega, h2, h3, h1, g5, rfl, k7, pu_frB (by omega) h8 (by omega), Or.inr (by rw [pu_fr_len]; split <;> omega)⟩, h4, h5, ⟨_, g4, rfl, k6, pu_frB (by omega) h8 (by omega), Or.inr (by rw [pu_fr_len]; split <;> omega)⟩⟩
  have hinf : (if nI (c / 2 % 8) = nI e then (if nI (c / 32) = nI n then (mm_Mo_answer F (nI (l.length - 9)) secret mtime mcap mper mcc msize (nI ag) msz ms many mreg mcols times values mb mline made).bind fun x66 => mm_Mo_inform_L72 F F (nI n) 0 x66.1 x66.2.1 x66.2.2.1 x66.2.2.2.1 x66.2.2.2.2.1 (bs_rem (nI e + 1) 8) (bs_rem (nI n + 1) 8) x66.2.2.2.2.2.1 x66.2.2.2.2.2.2.1 x66.2.2.2.2.2.2.2.1 0 (nI L.length) x66.2.2.2.2.2.2.2.2.1 x66.2.2.2.2.2.2.2.2.2.1 x66.2.2.2.2.2.2.2.2.2.2.1 x66.2.2.2.2.2.2.2.2.2.2.2.1 x66.2.2.2.2.2.2.2.2.2.2.2.2.1 x66.2.2.2.2.2.2.2.2.2.2.2.2.2.1 reply mlat x66.2.2.2.2.2.2.2.2.2.2.2.2.2.2 else mm_Mo_inform_J141 F (nI (c / 2 % 8)) (nI (c / 32)) mtime mcap mper mcc msize (nI e) (nI n) (nI ag) msz ms 0 (nI L.length) many mreg mcols times values mb reply mlat made) else mm_Mo_inform_J141 F (nI (c / 2 % 8)) (nI (c / 32)) mtime mcap mper mcc msize (nI e) (nI n) (nI ag) msz ms 0 (nI L.length) many mreg mcols times values mb reply mlat made) = mm_Mo_inform_J141 F (nI (c / 2 % 8)) (nI (c / 32)) mtime mcap mper mcc msize (nI e) (nI n) (nI ag) msz ms 0 (nI L.length) many mreg mcols times values mb reply mlat made := by
    by_cases w1 : c / 2 % 8 = e
    · rw [if_pos (congrArg nI w1), if_neg (pu_nn (by omega) (by omega) (by omega))]
    · rw [if_neg (pu_nn (by omega) (by omega) w1)]
  have hla : mm_Cn_isLatestAgain F (nI c) (nI e) (nI n) lsz = some (if 0 < L.length ∧ c = 16 + 2 * ((e + 7) % 8) + 32 * ((n + 7) % 8) then 1 else 0) := by
    rw [mq_Cn_isLatestAgain, hL.1, pu_b (fr_before he), pu_b (fr_before hn), pu_b (fr_info (by omega) (by omega))]
    have hL80 := hL.2.1
    by_cases w0 : 0 < L.length
    · rw [if_neg (nI_nle w0 (by omega))]
      by_cases w1 : c = 16 + 2 * ((e + 7) % 8) + 32 * ((n + 7) % 8)
      · rw [if_pos (congrArg nI w1), if_pos ⟨w0, w1⟩]
      · rw [if_neg (pu_nn (by omega) (by omega) w1), if_neg (fun q => w1 q.2)]
    · rw [if_pos (show nI L.length ≤ 0 from pu_le 0 0 (by omega) (by decide) nI_0.symm), if_neg (fun q => w0 q.1)]
  have e17 : (17 : Int32) + 32 * nI e = nI (17 + 32 * e) := by rw [show (32 : Int32) * nI e = nI (32 * e) from pk_mul 32 e]; exact nI_add 17 _
  rw [if_neg (pu_nn (by omega) (by omega) hx), hinf, pu_b hla, pu_z1, mq_Mo_inform_J141, show nI e + 7 = nI (e + 7) from nI_add e 7, show nI n + 7 = nI (n + 7) from nI_add n 7, mo_rem 8 (d := 8) rfl (by omega) (by decide) (by decide), mo_rem 8 (d := 8) rfl (by omega) (by decide) (by decide), e17]
  have hL80 := hL.2.1
  by_cases hA : 0 < L.length ∧ c = 16 + 2 * ((e + 7) % 8) + 32 * ((n + 7) % 8)
  · obtain ⟨x1, e1, g1⟩ := pu_addPart (F := F) (a := 0) (c := L.length) hps hL (by omega) (by simp; omega) (by omega)
    rw [nI_0, ← hL.1] at e1
    rw [List.nil_append, List.drop_zero, List.take_of_length_le (Nat.le_refl _)] at g1
    obtain ⟨reply', d1, k1⟩ := rl_all (F := F) (told := 0) (reply := reply) (by omega) hmL hL80
    rw [if_pos hA, pu_b e1, if_pos (congrArg nI (by omega)), if_pos (congrArg nI (by omega)), if_neg (nI_nle hA.1 (by omega)), pu_b d1, pu_s]
    exact ⟨_, _, rfl, rfl, ⟨e, n, ag, L, Or.inr rfl, rfl, rfl, rfl, he, rfl, rfl, hn, rfl, rfl, hag, hL, rfl, hmL, hLB, hL7⟩, hme, hlv, ⟨L, g1, rfl, k1, hLB, hL7⟩⟩
  · obtain ⟨x1, e1, g1⟩ := wr_bare (F := F) (c := 17 + 32 * e) (by omega) (by omega) hps
    obtain ⟨y1, d1, k1, k2⟩ := rc_bare (F := F) (c := 17 + 32 * e) (told := 0) (reply := reply) (by omega) (by omega)
    rw [if_neg hA, pu_b (fr_isinf hcb), pu_z1, if_pos hi, pu_b e1]
    have fin : rv_ok (1, nI e, nI n, nI ag, bs, now, reg, cc, cap, per, first, size, cols, ring, qsz, qf, lsz, lat, vsz, vf, x1.1, x1.2) (mtime, mcap, mper, mcc, msize, 1, nI e, nI n, nI ag, msz, ms, y1.1, nI L.length, many, mreg, mcols, times, values, mb, y1.2, mlat, made) :=
      ⟨⟨e, n, ag, L, Or.inr rfl, rfl, rfl, rfl, he, rfl, rfl, hn, rfl, rfl, hag, hL, rfl, hmL, hLB, hL7⟩, hme, hlv, bare_rel (by omega) g1 k1 k2⟩
    by_cases w1 : c / 2 % 8 = (e + 7) % 8
    · rw [if_pos (congrArg nI w1)]
      by_cases w2 : c / 32 = (n + 7) % 8
      · rw [if_pos (congrArg nI w2), if_pos (show nI L.length ≤ 0 from pu_le 0 0 (by omega) (by decide) nI_0.symm), pu_b d1, pu_s]
        exact ⟨_, _, rfl, rfl, fin⟩
      · rw [if_neg (pu_nn (by omega) (by omega) w2), pu_b d1, pu_s]
        exact ⟨_, _, rfl, rfl, fin⟩
    · rw [if_neg (pu_nn (by omega) (by omega) w1), pu_b d1, pu_s]
      exact ⟨_, _, rfl, rfl, fin⟩
