/-! The whole state, on both sides -/
def ln_rel (nsz : Int32) (nf : Nat → Int32) (mcount : Int32) (mline : Nat → Int32) : Prop := ∃ l : List Nat, rw_is 80 nsz nf l ∧ mcount = nI l.length ∧ fb mline l ∧ pu_B l
def ak_rel (ks kr mks mkr : Int32) : Prop := ∃ s r : Nat, ks = nI s ∧ kr = nI r ∧ mks = nI s ∧ mkr = nI r ∧ s < 8 ∧ r < 8
def al_rel (nsz : Int32) (nf : Nat → Int32) (asz : Int32) (af : Nat → Int32) (ks : Int32) (kr : Int32) (secret : Int32) (conn : Int32) (exp : Int32) (nxt : Int32) (asc : Int32) (bs : Int32) (now : Int32) (reg : Nat → Int32) (cc : Int32) (cap : Int32) (per : Int32) (first : Int32) (size : Int32) (cols : Nat → Int32) (ring : Nat → Int32) (qsz : Int32) (qf : Nat → Int32) (lsz : Int32) (lat : Nat → Int32) (vsz : Int32) (vf : Nat → Int32) (msecret : Int32) (thrown : Int32) (mtime : Int32) (mcap : Int32) (mper : Int32) (mcc : Int32) (msize : Int32) (mconn : Int32) (mexp : Int32) (mnxt : Int32) (masc : Int32) (msz : Int32) (ms : Int32) (mcount : Int32) (told : Int32) (mlsz : Int32) (many : Int32) (mks : Int32) (mkr : Int32) (mreg : Nat → Int32) (mcols : Nat → Int32) (times : Nat → Int32) (values : Nat → Int32) (mb : Nat → Int32) (mline : Nat → Int32) (reply : Nat → Int32) (mlat : Nat → Int32) (made : Nat → Int32) : Prop :=
  msecret = secret ∧ ln_rel nsz nf mcount mline ∧ re_rel asz af told reply ∧ ak_rel ks kr mks mkr ∧ cs_rel conn exp nxt asc lsz lat mconn mexp mnxt masc mlsz mlat ∧ me_rel now reg cc cap per first size cols ring mtime mcap mper mcc msize mreg mcols times values ∧ lv_rel bs vsz vf msz ms mb
theorem he_both {F : Nat} {asz ks kr told mks mkr : Int32} {af reply : Nat → Int32} (hr : re_rel asz af told reply) (hk : ak_rel ks kr mks mkr) :
    ∃ rc, mm_As_hear F 80 ks kr asz af = some rc ∧ ((told ≤ 0 ∧ rc = (ks, kr)) ∨ (¬ told ≤ 0 ∧ ∃ rm, mm_Mo_hear F (reply 3) mks mkr = some rm ∧ ak_rel rc.1 rc.2 rm.1 rm.2)) := by
  obtain ⟨out, h1, rfl, h3, h4, h5⟩ := hr
  obtain ⟨s, r, rfl, rfl, rfl, rfl, hs, hr⟩ := hk
  have h80 := h1.2.1
  rw [mq_As_hear]
  rcases h5 with rfl | h7
  · rw [pu_b (show mm_Rw_at F 80 3 asz af = some (-1) from pu_at_out (i := 3) h1 (by simp) (by decide)), if_neg (by decide +kernel), pu_b (fr_after hs), pu_b (fr_info hr (by omega))]
    have hne : ¬ (-1 : Int32) = nI (16 + 2 * r + 32 * ((s + 1) % 8)) := by
      intro q
      have h0 : (-1 : Int32) < 0 := by decide +kernel
      rw [q] at h0
      exact nI_pos (by omega) h0
    rw [if_neg hne]
    exact ⟨_, rfl, Or.inl ⟨by decide +kernel, rfl⟩⟩
  · obtain ⟨c, hc⟩ := pu_get (l := out) (i := 3) (by omega)
    have hcb := h4 c (List.mem_of_getElem? hc)
    have hnt : ¬ nI out.length ≤ 0 := nI_nle (by omega) (by omega)
    rw [pu_b (show mm_Rw_at F 80 3 asz af = some (nI c) from pu_at_in (i := 3) h1 hc), h3 3 c hc, mq_Mo_hear, mo_rem 2 (d := 2) rfl (by omega) (by decide) (by decide), mo_div 16 (d := 16) rfl (by omega) (by decide) (by decide), mo_rem 2 (d := 2) rfl (by omega) (by decide) (by decide), mo_div 2 (d := 2) rfl (by omega) (by decide) (by decide), mo_rem 8 (d := 8) rfl (by omega) (by decide) (by decide), mo_div 32 (d := 32) rfl (by omega) (by decide) (by decide), nI_1 s, nI_1 r, mo_rem 8 (d := 8) rfl (by omega) (by decide) (by decide), mo_rem 8 (d := 8) rfl (by omega) (by decide) (by decide)]
    by_cases q1 : c = 115
    · rw [if_pos (pu_eq 115 115 q1), if_pos (pu_eq 115 115 q1)]
      exact ⟨_, rfl, Or.inr ⟨hnt, _, rfl, 0, 0, nI_0.symm, nI_0.symm, nI_0.symm, nI_0.symm, by decide, by decide⟩⟩
    rw [if_neg (pu_ne 115 115 q1), if_neg (pu_ne 115 115 q1), pu_b (fr_after hs), pu_b (fr_info hr (by omega))]
    by_cases q2 : c = 16 + 2 * r + 32 * ((s + 1) % 8)
    · rw [if_pos (congrArg nI q2), pu_b (fr_after hs), pu_b (fr_after hr), if_pos (pu_eq 0 0 (by omega) nI_0.symm), if_pos (pu_eq 1 1 (by omega)), if_pos (congrArg nI (by omega)), if_pos (congrArg nI (by omega))]
      exact ⟨_, rfl, Or.inr ⟨hnt, _, rfl, (s + 1) % 8, (r + 1) % 8, rfl, rfl, rfl, rfl, by omega, by omega⟩⟩
    · rw [if_neg (pu_nn (by omega) (by omega) q2)]
      refine ⟨_, rfl, Or.inr ⟨hnt, (nI s, nI r), ?_, s, r, rfl, rfl, rfl, rfl, hs, hr⟩⟩
      by_cases w1 : c % 2 = 0
      case neg => rw [if_neg (pu_ne 0 0 w1 (by omega) (by decide) nI_0.symm)]
      rw [if_pos (pu_eq 0 0 w1 nI_0.symm)]
      by_cases w2 : c / 16 % 2 = 1
      case neg => rw [if_neg (pu_ne 1 1 w2)]
      rw [if_pos (pu_eq 1 1 w2)]
      by_cases w3 : c / 2 % 8 = r
      case neg => rw [if_neg (pu_nn (by omega) (by omega) w3)]
      rw [if_pos (congrArg nI w3), if_neg (pu_nn (by omega) (by omega) (by omega))]
theorem dv_both {F : Nat} {i1 : Int32} {nsz asz ks kr secret conn exp nxt asc bs now cc cap per first size qsz lsz vsz msecret thrown mtime mcap mper mcc msize mconn mexp mnxt masc msz ms mcount told mlsz many mks mkr : Int32} {nf af reg cols ring qf lat vf mreg mcols times values mb mline reply mlat made : Nat → Int32} (hF : 300 < F)
    (h : al_rel nsz nf asz af ks kr secret conn exp nxt asc bs now reg cc cap per first size cols ring qsz qf lsz lat vsz vf msecret thrown mtime mcap mper mcc msize mconn mexp mnxt masc msz ms mcount told mlsz many mks mkr mreg mcols times values mb mline reply mlat made) :
    ∃ rc rm, mm_Lp_deliver F i1 nsz nf asz af ks kr secret conn exp nxt asc bs now reg cc cap per first size cols ring qsz qf lsz lat vsz vf = some rc ∧ mm_Mo_deliver F i1 msecret thrown mtime mcap mper mcc msize mconn mexp mnxt masc msz ms mcount told mlsz many mks mkr mreg mcols times values mb mline reply mlat made = some rm ∧ rc.1 = rm.1 ∧ rm.2.1 = 0 ∧ al_rel rc.2.1 nf rc.2.2.1 rc.2.2.2.1 rc.2.2.2.2.1 rc.2.2.2.2.2.1 secret rc.2.2.2.2.2.2.1 rc.2.2.2.2.2.2.2.1 rc.2.2.2.2.2.2.2.2.1 rc.2.2.2.2.2.2.2.2.2.1 rc.2.2.2.2.2.2.2.2.2.2.1 rc.2.2.2.2.2.2.2.2.2.2.2.1 rc.2.2.2.2.2.2.2.2.2.2.2.2.1 rc.2.2.2.2.2.2.2.2.2.2.2.2.2.1 rc.2.2.2.2.2.2.2.2.2.2.2.2.2.2.1 rc.2.2.2.2.2.2.2.2.2.2.2.2.2.2.2.1 rc.2.2.2.2.2.2.2.2.2.2.2.2.2.2.2.2.1 rc.2.2.2.2.2.2.2.2.2.2.2.2.2.2.2.2.2.1 rc.2.2.2.2.2.2.2.2.2.2.2.2.2.2.2.2.2.2.1 rc.2.2.2.2.2.2.2.2.2.2.2.2.2.2.2.2.2.2.2.1 rc.2.2.2.2.2.2.2.2.2.2.2.2.2.2.2.2.2.2.2.2.1 rc.2.2.2.2.2.2.2.2.2.2.2.2.2.2.2.2.2.2.2.2.2.1 rc.2.2.2.2.2.2.2.2.2.2.2.2.2.2.2.2.2.2.2.2.2.2.1 rc.2.2.2.2.2.2.2.2.2.2.2.2.2.2.2.2.2.2.2.2.2.2.2.1 rc.2.2.2.2.2.2.2.2.2.2.2.2.2.2.2.2.2.2.2.2.2.2.2.2.1 rc.2.2.2.2.2.2.2.2.2.2.2.2.2.2.2.2.2.2.2.2.2.2.2.2.2 msecret rm.2.1 rm.2.2.1 rm.2.2.2.1 rm.2.2.2.2.1 rm.2.2.2.2.2.1 rm.2.2.2.2.2.2.1 rm.2.2.2.2.2.2.2.1 rm.2.2.2.2.2.2.2.2.1 rm.2.2.2.2.2.2.2.2.2.1 rm.2.2.2.2.2.2.2.2.2.2.1 rm.2.2.2.2.2.2.2.2.2.2.2.1 rm.2.2.2.2.2.2.2.2.2.2.2.2.1 rm.2.2.2.2.2.2.2.2.2.2.2.2.2.1 rm.2.2.2.2.2.2.2.2.2.2.2.2.2.2.1 rm.2.2.2.2.2.2.2.2.2.2.2.2.2.2.2.1 rm.2.2.2.2.2.2.2.2.2.2.2.2.2.2.2.2.1 rm.2.2.2.2.2.2.2.2.2.2.2.2.2.2.2.2.2.1 rm.2.2.2.2.2.2.2.2.2.2.2.2.2.2.2.2.2.2.1 rm.2.2.2.2.2.2.2.2.2.2.2.2.2.2.2.2.2.2.2.1 rm.2.2.2.2.2.2.2.2.2.2.2.2.2.2.2.2.2.2.2.2.1 rm.2.2.2.2.2.2.2.2.2.2.2.2.2.2.2.2.2.2.2.2.2.1 rm.2.2.2.2.2.2.2.2.2.2.2.2.2.2.2.2.2.2.2.2.2.2.1 rm.2.2.2.2.2.2.2.2.2.2.2.2.2.2.2.2.2.2.2.2.2.2.2.1 mline rm.2.2.2.2.2.2.2.2.2.2.2.2.2.2.2.2.2.2.2.2.2.2.2.2.1 rm.2.2.2.2.2.2.2.2.2.2.2.2.2.2.2.2.2.2.2.2.2.2.2.2.2.1 rm.2.2.2.2.2.2.2.2.2.2.2.2.2.2.2.2.2.2.2.2.2.2.2.2.2.2 := by
  obtain ⟨rfl, ⟨l, hl, rfl, hml, hB⟩, hre, hak, hcs, hme, hlv⟩ := h
  have h80 := hl.2.1
  have c3 : (3 : Int32).toNatClampNeg = 3 := by decide +kernel
  obtain ⟨b1, e1, o1, n1⟩ := pu_isFrame (F := F) hl hB (by omega)
  obtain ⟨b2, e2, o2, n2⟩ := pu_payloadOf (F := F) hml h80 hB (by omega)
  rw [mq_Lp_deliver, pu_b (show mm_Rw_drop F asz = some 0 from rfl), pu_b e1, mq_Mo_deliver, pu_b e2]
  have hem : rw_is 80 0 af [] := pu_empty af (by decide)
  by_cases hok : pu_ok l
  · rw [o1 hok, o2 hok, if_neg pu_10, if_neg (nI_pos (by split <;> omega))]
    obtain ⟨rc, rm, e3, e4, k1, k2, k3, k4⟩ := rv_both (F := F) (secret := msecret) (qsz := qsz) (qf := qf) (many := many) (made := made) (reply := reply) hF hl hml hB hok hem hcs hme hlv
    rw [pu_b e3, pu_b e4, mq_Lp_deliver_J32, pu_b (show mm_Rw_drop F nsz = some 0 from rfl), mq_Mo_deliver_J24]
    by_cases hi : i1 = 0
    · obtain ⟨rk, ek, hk⟩ := he_both (F := F) k4 hak
      have htold := k4
      obtain ⟨out, w1, w2, w3, w4, w5⟩ := htold
      rw [if_pos hi, if_pos hi, pu_b ek, c3]
      rcases hk with ⟨t0, rfl⟩ | ⟨t0, rmk, ekm, hk2⟩
      · rw [if_pos t0]
        exact ⟨_, _, rfl, rfl, by rw [w2]; exact w1.1, rfl, rfl, ⟨[], pu_empty nf (by decide), nI_0.symm, fb_nil _, fun x hx => (by cases hx)⟩, k4, hak, k1, k2, k3⟩
      · rw [if_neg t0, pu_b ekm]
        exact ⟨_, _, rfl, rfl, by rw [w2]; exact w1.1, rfl, rfl, ⟨[], pu_empty nf (by decide), nI_0.symm, fb_nil _, fun x hx => (by cases hx)⟩, k4, hk2, k1, k2, k3⟩
    · rw [if_neg hi, if_neg hi, pu_b (show mm_Rw_drop F _ = some 0 from rfl)]
      exact ⟨_, _, rfl, rfl, rfl, rfl, rfl, ⟨[], pu_empty nf (by decide), nI_0.symm, fb_nil _, fun x hx => (by cases hx)⟩, ⟨[], pu_empty _ (by decide), nI_0.symm, fb_nil _, fun x hx => (by cases hx), Or.inl rfl⟩, hak, k1, k2, k3⟩
  · rw [n1 hok, n2 hok, if_pos rfl, if_pos (show (-1 : Int32) < 0 by decide +kernel), mq_Lp_deliver_J32, pu_b (show mm_Rw_drop F nsz = some 0 from rfl), mq_Mo_deliver_J24]
    have hre0 : re_rel 0 af 0 reply := ⟨[], hem, nI_0.symm, fb_nil _, fun x hx => (by cases hx), Or.inl rfl⟩
    by_cases hi : i1 = 0
    · obtain ⟨rk, ek, hk⟩ := he_both (F := F) hre0 hak
      rw [if_pos hi, if_pos hi, pu_b ek]
      rcases hk with ⟨t0, rfl⟩ | ⟨t0, -⟩
      · rw [if_pos t0]
        exact ⟨_, _, rfl, rfl, rfl, rfl, rfl, ⟨[], pu_empty nf (by decide), nI_0.symm, fb_nil _, fun x hx => (by cases hx)⟩, hre0, hak, hcs, hme, hlv⟩
      · exact absurd (show (0 : Int32) ≤ 0 by decide +kernel) t0
    · rw [if_neg hi, if_neg hi, pu_b (show mm_Rw_drop F 0 = some 0 from rfl)]
      exact ⟨_, _, rfl, rfl, rfl, rfl, rfl, ⟨[], pu_empty nf (by decide), nI_0.symm, fb_nil _, fun x hx => (by cases hx)⟩, hre0, hak, hcs, hme, hlv⟩
