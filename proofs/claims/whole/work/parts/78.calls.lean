/-! The other calls, on both sides at once -/
theorem ib_c {F : Nat} (i : Int32) : (i < 0 ∧ mm_Rw_isByte F i = some 0) ∨ ∃ b, i = nI b ∧ b < 2 ^ 31 ∧ ¬ i < 0 ∧ (b ≤ 255 ∧ mm_Rw_isByte F i = some 1 ∧ i ≤ 255 ∨ ¬ b ≤ 255 ∧ mm_Rw_isByte F i = some 0 ∧ ¬ i ≤ 255) := by
  by_cases h : i < 0
  · refine Or.inl ⟨h, ?_⟩
    rw [mq_Rw_isByte, if_pos h]
  · obtain ⟨b, hb, rfl⟩ := nI_of h
    refine Or.inr ⟨b, rfl, hb, h, ?_⟩
    rw [mq_Rw_isByte, if_neg h]
    by_cases q : b ≤ 255
    · rw [if_neg (pu_ncl 255 255 q)]
      exact Or.inl ⟨q, rfl, pu_le 255 255 q⟩
    · rw [if_pos (pu_cl 255 255 (by omega))]
      exact Or.inr ⟨q, rfl, pu_nle 255 255 (by omega)⟩
theorem put_both {F : Nat} {i1 nsz mcount th : Int32} {nf mline : Nat → Int32} (h : ln_rel nsz nf mcount mline) :
    ∃ rc rm, mm_Lp_put F i1 nsz nf = some rc ∧ mm_Mo_put F i1 th mcount mline = some rm ∧ ln_rel rc.2.2.1 rc.2.2.2 rm.2.2.1 rm.2.2.2 ∧ (rc.1 = 0 ∧ rm.2.1 = 0 ∧ rc.2.1 = rm.1 ∨ rc.1 = 1 ∧ rm.2.1 = 1 ∨ rc.1 = 2 ∧ rm.2.1 = 2) := by
  have h' := h
  obtain ⟨l, hl, rfl, hml, hB⟩ := h
  have h80 := hl.2.1
  rw [mq_Lp_put, mq_Mo_put]
  rcases ib_c (F := F) i1 with ⟨q, e⟩ | ⟨b, rfl, hb, q, ⟨w, e, k⟩ | ⟨w, e, k⟩⟩
  · rw [pu_b e, if_pos rfl, if_pos q, mq_Mo_put_J12, mq_Mo_put_J30, if_neg (by decide +kernel)]
    exact ⟨_, _, rfl, rfl, h', Or.inr (Or.inl ⟨rfl, rfl⟩)⟩
  · rw [pu_b e, if_neg pu_10, if_neg q, if_pos k, hl.1]
    by_cases h8 : l.length = 80
    · rw [if_neg (pu_nlt 80 80 (by omega)), if_pos (pu_eq 80 80 h8), mq_Mo_put_J30, if_neg (by decide +kernel)]
      exact ⟨_, _, rfl, rfl, hl.1 ▸ h', Or.inr (Or.inr ⟨rfl, rfl⟩)⟩
    · obtain ⟨x1, e1, g1⟩ := pu_add (F := F) (x := b) (hl.1 ▸ hl) (by omega)
      rw [if_pos (pu_lt 80 80 (by omega)), pu_b e1, if_neg (pu_ne 80 80 h8), mq_Mo_put_J30, if_pos (show (0 : Int32) ≤ 0 by decide +kernel), if_neg (nI_in (by omega) (by omega)), nI_clamp (by omega), nI_1]
      refine ⟨_, _, rfl, rfl, ⟨l ++ [b], g1, by simp, hml.push b, hB.app (fun x hx => ?_)⟩, Or.inl ⟨rfl, rfl, ?_⟩⟩
      · rw [List.mem_singleton] at hx
        omega
      · rw [g1.1]
        simp
  · rw [pu_b e, if_pos rfl, if_neg q, if_neg k, mq_Mo_put_J12, mq_Mo_put_J30, if_neg (by decide +kernel)]
    exact ⟨_, _, rfl, rfl, h', Or.inr (Or.inl ⟨rfl, rfl⟩)⟩
theorem pi_model {F : Nat} {v th : Int32} {f : Nat → Int32} {l : List Nat} (hF : 5 < F) (hf : fb f l) (hl : l.length + 4 ≤ 80) : ∃ f', mm_Mo_putInt_L29 F F v 3 th (nI l.length) f = some (nI (l.length + 4), th, nI (l.length + 4), f') ∧ fb f' (l ++ pu_by v) := by
  obtain ⟨k, rfl⟩ : ∃ k, F = k + 5 := ⟨F - 5, by omega⟩
  have g : ∀ j, j < 80 → ¬ (nI j < 0 ∨ 80 ≤ (nI j).toNatClampNeg) := fun j hj => nI_in hj (by decide)
  have u : ∀ (s : Int32) (k : Nat), ((s.toUInt32 &&& Int32.toUInt32 31).toBitVec % 32).toNat = k → bs_ushr v s &&& 255 = nI (v.toBitVec.toNat / 2 ^ k % 256) := fun s k hs => pu_ushr255 v s k hs
  have a1 : nI l.length + 1 = nI (l.length + 1) := nI_add _ 1
  have a2 : nI (l.length + 1) + 1 = nI (l.length + 2) := nI_add _ 1
  have a3 : nI (l.length + 2) + 1 = nI (l.length + 3) := nI_add _ 1
  have a4 : nI (l.length + 3) + 1 = nI (l.length + 4) := nI_add _ 1
  rw [mq_Mo_putInt_L29, if_neg (by decide +kernel), if_neg (g _ (by omega)), a1, mq_Mo_putInt_L29, if_neg (by decide +kernel), if_neg (g _ (by omega)), a2, mq_Mo_putInt_L29, if_neg (by decide +kernel), if_neg (g _ (by omega)), a3, mq_Mo_putInt_L29, if_neg (by decide +kernel), if_neg (g _ (by omega)), a4, mq_Mo_putInt_L29, if_pos (by decide +kernel),
    u _ 24 (by decide +kernel), u _ 16 (by decide +kernel), u _ 8 (by decide +kernel), u _ 0 (by decide +kernel), nI_clamp (by omega), nI_clamp (by omega), nI_clamp (by omega), nI_clamp (by omega)]
  refine ⟨_, rfl, ?_⟩
  have h := pu_upd4 (a := v.toBitVec.toNat / 2 ^ 24 % 256) (b := v.toBitVec.toNat / 2 ^ 16 % 256) (c := v.toBitVec.toNat / 2 ^ 8 % 256) (d := v.toBitVec.toNat / 2 ^ 0 % 256) hf
  have e : pu_by v = [v.toBitVec.toNat / 2 ^ 24 % 256, v.toBitVec.toNat / 2 ^ 16 % 256, v.toBitVec.toNat / 2 ^ 8 % 256, v.toBitVec.toNat / 2 ^ 0 % 256] := by
    have := v.toBitVec.isLt
    have e24 : v.toBitVec.toNat / 2 ^ 24 % 256 = v.toBitVec.toNat / 2 ^ 24 := Nat.mod_eq_of_lt (by omega)
    rw [e24, show v.toBitVec.toNat / 2 ^ 0 = v.toBitVec.toNat by omega]
    rfl
  rw [e]
  exact h
theorem putInt_both {F : Nat} {i1 nsz mcount th : Int32} {nf mline : Nat → Int32} (hF : 20 < F) (h : ln_rel nsz nf mcount mline) :
    ∃ rc rm, mm_Lp_putInt F i1 nsz nf = some rc ∧ mm_Mo_putInt F i1 th mcount mline = some rm ∧ ln_rel rc.2.2.1 rc.2.2.2 rm.2.2.1 rm.2.2.2 ∧ (rc.1 = 0 ∧ rm.2.1 = 0 ∧ rc.2.1 = rm.1 ∨ rc.1 = 2 ∧ rm.2.1 = 1) := by
  have h' := h
  obtain ⟨l, hl, rfl, hml, hB⟩ := h
  have h80 := hl.2.1
  rw [mq_Lp_putInt, mq_Mo_putInt]
  by_cases q : l.length ≤ 76
  · obtain ⟨x1, e1, g1⟩ := pu_addInt (F := F) (v := i1) hl (by omega)
    obtain ⟨f', e2, g2⟩ := pi_model (F := F) (v := i1) (th := 0) (by omega) hml (by omega)
    rw [if_pos (show nsz + 4 ≤ 80 by rw [hl.1, show nI l.length + 4 = nI (l.length + 4) from nI_add _ 4]; exact pu_le 80 80 (by omega)), pu_b e1, if_pos (pu_le 76 76 q), e2]
    refine ⟨_, _, rfl, rfl, ⟨l ++ pu_by i1, g1, by simp [pu_by_len], g2, hB.app (pu_by_lt i1)⟩, Or.inl ⟨rfl, rfl, ?_⟩⟩
    rw [g1.1]
    simp [pu_by_len]
  · rw [if_neg (show ¬ nsz + 4 ≤ 80 by rw [hl.1, show nI l.length + 4 = nI (l.length + 4) from nI_add _ 4]; exact pu_nle 80 80 (by omega)), if_neg (pu_nle 76 76 (by omega))]
    exact ⟨_, _, rfl, rfl, h', Or.inr ⟨rfl, rfl⟩⟩
theorem poke_both {F : Nat} {i1 i2 nsz mcount th : Int32} {nf mline : Nat → Int32} (h : ln_rel nsz nf mcount mline) :
    ∃ rc rm, mm_Lp_poke F i1 i2 nsz nf = some rc ∧ mm_Mo_poke F i1 i2 th mcount mline = some rm ∧ ln_rel nsz rc.2 mcount rm.2 ∧ (rc.1 = 0 ∧ rm.1 = 0 ∨ rc.1 = 3 ∧ rm.1 = 1 ∨ rc.1 = 1 ∧ rm.1 = 2) := by
  have h' := h
  obtain ⟨l, hl, rfl, hml, hB⟩ := h
  have h80 := hl.2.1
  rw [mq_Lp_poke, mq_Mo_poke]
  by_cases q1 : i1 < 0
  · rw [if_pos q1, if_pos q1, mq_Mo_poke_J13]
    exact ⟨_, _, rfl, rfl, h', Or.inr (Or.inl ⟨rfl, rfl⟩)⟩
  obtain ⟨i, hi, rfl⟩ := nI_of q1
  rw [if_neg q1, if_neg q1, hl.1]
  by_cases q2 : i < l.length
  case neg =>
    rw [if_neg (nI_nlt (by omega) hi), if_neg (nI_nlt (by omega) hi), mq_Mo_poke_J13]
    exact ⟨_, _, rfl, rfl, hl.1 ▸ h', Or.inr (Or.inl ⟨rfl, rfl⟩)⟩
  rw [if_pos (nI_lt q2 (by omega)), if_pos (nI_lt q2 (by omega))]
  rcases ib_c (F := F) i2 with ⟨q, e⟩ | ⟨b, rfl, hb, q, ⟨w, e, k⟩ | ⟨w, e, k⟩⟩
  · rw [pu_b e, if_pos rfl, if_pos q, mq_Mo_poke_J28]
    exact ⟨_, _, rfl, rfl, hl.1 ▸ h', Or.inr (Or.inr ⟨rfl, rfl⟩)⟩
  · obtain ⟨f1, e1, g1⟩ := pu_change (F := F) (i := i) (x := b) (hl.1 ▸ hl) q2
    rw [pu_b e, if_neg pu_10, pu_b e1, if_neg q, if_pos k, if_neg (nI_in (by omega) (by decide)), nI_clamp hi]
    refine ⟨_, _, rfl, rfl, ⟨l.set i b, g1, by simp, hml.set i b, fun x hx => ?_⟩, Or.inl ⟨rfl, rfl⟩⟩
    rcases List.mem_or_eq_of_mem_set hx with w' | w'
    · exact hB x w'
    · omega
  · rw [pu_b e, if_pos rfl, if_neg q, if_neg k, mq_Mo_poke_J28]
    exact ⟨_, _, rfl, rfl, hl.1 ▸ h', Or.inr (Or.inr ⟨rfl, rfl⟩)⟩
theorem wrap_both {F c : Nat} {nsz : Int32} {nf mline : Nat → Int32} {l : List Nat} (hF : 100 < F) (hc : c < 256) (hl : rw_is 80 nsz nf l) (hml : fb mline l) (hB : pu_B l) (h60 : l.length ≤ 60) :
    ∃ x y, mm_Fr_wrap F 80 (nI c) nsz nf = some x ∧ mm_Mo_wrapLine F (nI c) (nI l.length) mline = some y ∧ ln_rel x.1 x.2 y.2.1 y.2.2 ∧ x.1 = y.1 := by
  obtain ⟨x, e1, g1⟩ := pu_wrap (F := F) (c := c) hl hB (by omega) hc (by omega) (by omega)
  obtain ⟨f', e2, g2⟩ := pu_mwl (F := F) (c := c) hml hB hc h60 hF
  exact ⟨x, _, e1, e2, ⟨_, g1, rfl, g2, pu_frB hc hB (by omega)⟩, g1.1⟩
theorem frame_both {F : Nat} {i1 nsz mcount th : Int32} {nf mline : Nat → Int32} (hF : 100 < F) (h : ln_rel nsz nf mcount mline) :
    ∃ rc rm, mm_Lp_frame F i1 nsz nf = some rc ∧ mm_Mo_frame F i1 th mcount mline = some rm ∧ ln_rel rc.2.2.1 rc.2.2.2 rm.2.2.1 rm.2.2.2 ∧ (rc.1 = 0 ∧ rm.2.1 = 0 ∧ rc.2.1 = rm.1 ∨ rc.1 = 1 ∧ rm.2.1 = 1 ∨ rc.1 = 2 ∧ rm.2.1 = 2) := by
  have h' := h
  obtain ⟨l, hl, rfl, hml, hB⟩ := h
  have h80 := hl.2.1
  rw [mq_Lp_frame, mq_Mo_frame]
  rcases ib_c (F := F) i1 with ⟨q, e⟩ | ⟨b, rfl, hb, q, ⟨w, e, k⟩ | ⟨w, e, k⟩⟩
  · rw [pu_b e, if_pos rfl, if_pos q, mq_Mo_frame_J12]
    exact ⟨_, _, rfl, rfl, h', Or.inr (Or.inl ⟨rfl, rfl⟩)⟩
  · rw [pu_b e, if_neg pu_10, if_neg q, if_pos k]
    by_cases h60 : l.length ≤ 60
    · obtain ⟨x, y, e1, e2, g, ev⟩ := wrap_both (F := F) (c := b) hF (by omega) hl hml hB h60
      rw [if_pos (show nsz ≤ 60 by rw [hl.1]; exact pu_le 60 60 h60), if_pos (pu_le 60 60 h60), pu_b e1, pu_b e2]
      exact ⟨_, _, rfl, rfl, g, Or.inl ⟨rfl, rfl, ev⟩⟩
    · rw [if_neg (show ¬ nsz ≤ 60 by rw [hl.1]; exact pu_nle 60 60 (by omega)), if_neg (pu_nle 60 60 (by omega))]
      exact ⟨_, _, rfl, rfl, h', Or.inr (Or.inr ⟨rfl, rfl⟩)⟩
  · rw [pu_b e, if_pos rfl, if_neg q, if_neg k, mq_Mo_frame_J12]
    exact ⟨_, _, rfl, rfl, h', Or.inr (Or.inl ⟨rfl, rfl⟩)⟩
theorem ask_both {F : Nat} {nsz mcount th ks kr mks mkr : Int32} {nf mline : Nat → Int32} (hF : 100 < F) (h : ln_rel nsz nf mcount mline) (hk : ak_rel ks kr mks mkr) :
    ∃ rc rm, mm_Lp_ask F nsz nf ks kr = some rc ∧ mm_Mo_ask F th mcount mks mkr mline = some rm ∧ ln_rel rc.2.2.1 rc.2.2.2 rm.2.2.1 rm.2.2.2 ∧ (rc.1 = 0 ∧ rm.2.1 = 0 ∧ rc.2.1 = rm.1 ∨ rc.1 = 2 ∧ rm.2.1 = 1) := by
  have h' := h
  obtain ⟨l, hl, rfl, hml, hB⟩ := h
  obtain ⟨s, r, rfl, rfl, rfl, rfl, hs, hr⟩ := hk
  have h80 := hl.2.1
  rw [mq_Lp_ask, mq_Mo_ask]
  by_cases h0 : l.length = 0
  · rw [if_pos (show nsz = 0 by rw [hl.1]; exact pu_eq 0 0 h0 nI_0.symm), if_pos (pu_eq 0 0 h0 nI_0.symm), mq_Mo_ask_J17, mq_Mo_ask_J22, if_neg (by decide +kernel)]
    exact ⟨_, _, rfl, rfl, h', Or.inr ⟨rfl, rfl⟩⟩
  rw [if_neg (show ¬ nsz = 0 by rw [hl.1]; exact nI_ne0 (by omega) (by omega)), if_neg (nI_ne0 (by omega) (by omega))]
  by_cases h60 : l.length ≤ 60
  · obtain ⟨x, y, e1, e2, g, ev⟩ := wrap_both (F := F) (c := 16 + 2 * s + 32 * r) hF (by omega) hl hml hB h60
    have ec : (16 : Int32) + 2 * nI s + 32 * nI r = nI (16 + 2 * s + 32 * r) := by
      rw [show (2 : Int32) * nI s = nI (2 * s) from pk_mul 2 _, show (16 : Int32) + nI (2 * s) = nI (16 + 2 * s) from nI_add 16 _, show (32 : Int32) * nI r = nI (32 * r) from pk_mul 32 _, nI_add]
    rw [if_pos (show nsz ≤ 60 by rw [hl.1]; exact pu_le 60 60 h60), if_pos (pu_le 60 60 h60), pu_b (fr_info hs hr), pu_b e1, mq_Mo_ask_J22, if_pos (show (0 : Int32) ≤ 0 by decide +kernel), ec, pu_b e2]
    exact ⟨_, _, rfl, rfl, g, Or.inl ⟨rfl, rfl, ev⟩⟩
  · rw [if_neg (show ¬ nsz ≤ 60 by rw [hl.1]; exact pu_nle 60 60 (by omega)), if_neg (pu_nle 60 60 (by omega)), mq_Mo_ask_J17, mq_Mo_ask_J22, if_neg (by decide +kernel)]
    exact ⟨_, _, rfl, rfl, h', Or.inr ⟨rfl, rfl⟩⟩
theorem reply_both {F : Nat} {i1 asz told th : Int32} {af reply : Nat → Int32} (h : re_rel asz af told reply) :
    ∃ rc rm, mm_Lp_reply F i1 asz af = some rc ∧ mm_Mo_reply F i1 th told reply = some rm ∧ (rc.1 = 0 ∧ rm.2 = 0 ∧ rc.2 = rm.1 ∨ rc.1 = 3 ∧ rm.2 = 1) := by
  obtain ⟨l, hl, rfl, hml, hB, -⟩ := h
  have h80 := hl.2.1
  rw [mq_Lp_reply, mq_Mo_reply]
  by_cases q1 : i1 < 0
  · rw [if_pos q1, if_pos q1, mq_Mo_reply_J13, mq_Mo_reply_J18, if_neg (by decide +kernel)]
    exact ⟨_, _, rfl, rfl, Or.inr ⟨rfl, rfl⟩⟩
  obtain ⟨i, hi, rfl⟩ := nI_of q1
  rw [if_neg q1, if_neg q1]
  by_cases q2 : i < l.length
  · obtain ⟨x, hx⟩ := pu_get q2
    rw [if_pos (show nI i < asz by rw [hl.1]; exact nI_lt q2 (by omega)), if_pos (nI_lt q2 (by omega)), pu_b (pu_at_in hl hx), mq_Mo_reply_J18, if_pos (show (0 : Int32) ≤ 0 by decide +kernel), if_neg (nI_in (by omega) (by decide)), nI_clamp hi, hml i x hx]
    exact ⟨_, _, rfl, rfl, Or.inl ⟨rfl, rfl, rfl⟩⟩
  · rw [if_neg (show ¬ nI i < asz by rw [hl.1]; exact nI_nlt (by omega) hi), if_neg (nI_nlt (by omega) hi), mq_Mo_reply_J13, mq_Mo_reply_J18, if_neg (by decide +kernel)]
    exact ⟨_, _, rfl, rfl, Or.inr ⟨rfl, rfl⟩⟩
