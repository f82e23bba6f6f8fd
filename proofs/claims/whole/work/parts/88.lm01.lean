-- the law's cases on the mirrors
theorem lb {α β : Type} {x : Option α} {f : α → Option β} {a : α} {r : β} (h : x = some a) (k : f a = some r) : x.bind f = some r := by rw [h]; exact k
theorem lg0 (v : Int64) : lg_cmp v v = 0 := by
  unfold lg_cmp
  rw [if_neg (by simp only [gt_iff_lt, Int64.lt_iff_toInt_lt]; omega), if_pos rfl]
theorem lgu (o : Nat → Int64) (k : Nat) (v : Int64) : lg_cmp (vp_updL o k v k) v = 0 := by
  have : vp_updL o k v k = v := by simp [vp_updL]
  rw [this]; exact lg0 v
theorem l01 : ¬ ((0 : Int32) < 0 ∨ 1 ≤ (0 : Int32).toNatClampNeg) := by decide +kernel
theorem l1n : ¬ (1 : Int32) = 0 := by decide +kernel
theorem l2n : ¬ (2 : Int32) = 0 := by decide +kernel
theorem lnn {n a b : Nat} (h : n = a) (hab : (a == b) = false) : ¬ n = b := by subst h; simpa using hab

theorem lm_run {F : Nat} {i1 now cc cap per first size mtime mcap mper mcc msize th : Int32} {reg cols ring mreg mcols times values : Nat → Int32} (hF : 1500 < F) (h : me_rel now reg cc cap per first size cols ring mtime mcap mper mcc msize mreg mcols times values) :
    ∃ x y, mm_La_run F i1 now reg cc cap per first size cols ring = some x ∧ mm_Mo_run F i1 th mtime mcap mper mcc msize mreg mcols times values = some y ∧ y.1 = x.1 ∧ me_rel x.2.1 reg cc cap per x.2.2.1 x.2.2.2.1 cols x.2.2.2.2 y.2.1 mcap mper mcc y.2.2.1 mreg mcols y.2.2.2.1 y.2.2.2.2 := by
  obtain ⟨rc, rm, hc, hm, ho, hr⟩ := run_both (F := F) (i1 := i1) (th := th) hF h
  rcases ho with ⟨a, b⟩ | ⟨a, b⟩
  · exact ⟨_, rm, (mq_La_run F i1 now reg cc cap per first size cols ring).trans (lb hc ((if_pos a))), hm, b, hr⟩
  · exact ⟨_, rm, (mq_La_run F i1 now reg cc cap per first size cols ring).trans (lb hc ((if_neg (lnn a rfl)).trans (if_pos a))), hm, b, hr⟩
theorem lm_count {F : Nat} {i1 i2 now cc cap per first size mtime mcap mper mcc msize th : Int32} {reg cols ring mreg mcols times values : Nat → Int32} {o : Nat → Int64} (h : me_rel now reg cc cap per first size cols ring mtime mcap mper mcc msize mreg mcols times values) :
    ∃ x y, mm_La_count F 1 i1 i2 reg o = some x ∧ mm_Mo_count F i1 i2 th mreg = some y ∧ y.2.1 = x.1 ∧ (x.1 = 0 → lg_cmp (x.2.2 ((0 : Int32).toNatClampNeg)) y.1.toInt64 = 0) ∧ me_rel now x.2.1 cc cap per first size cols ring mtime mcap mper mcc msize y.2.2 mcols times values := by
  obtain ⟨rc, rm, hc, hm, hr, ho⟩ := count_both (F := F) (i1 := i1) (i2 := i2) (th := th) h
  rcases ho with ⟨a, b, c⟩ | ⟨a, b⟩
  · exact ⟨_, rm, (mq_La_count F 1 i1 i2 reg o).trans (lb hc ((if_pos a).trans (if_neg l01))), hm, b, (by intro _; rw [← c]; exact lgu _ _ _), hr⟩
  · exact ⟨_, rm, (mq_La_count F 1 i1 i2 reg o).trans (lb hc ((if_neg (lnn a rfl)).trans (if_pos a))), hm, b, fun q => absurd q l1n, hr⟩
theorem lm_register {F : Nat} {i1 now cc cap per first size mtime mcap mper mcc msize th : Int32} {reg cols ring mreg mcols times values : Nat → Int32} {o : Nat → Int64} (h : me_rel now reg cc cap per first size cols ring mtime mcap mper mcc msize mreg mcols times values) :
    ∃ x y, mm_La_register F 1 i1 reg o = some x ∧ mm_Mo_register F i1 th mreg = some y ∧ y.2 = x.1 ∧ (x.1 = 0 → lg_cmp (x.2 ((0 : Int32).toNatClampNeg)) y.1.toInt64 = 0) := by
  obtain ⟨rc, rm, hc, hm, ho⟩ := register_both (F := F) (i1 := i1) (th := th) h
  rcases ho with ⟨a, b, c⟩ | ⟨a, b⟩
  · exact ⟨_, rm, (mq_La_register F 1 i1 reg o).trans (lb hc ((if_pos a).trans (if_neg l01))), hm, b, (by intro _; rw [← c]; exact lgu _ _ _)⟩
  · exact ⟨_, rm, (mq_La_register F 1 i1 reg o).trans (lb hc ((if_neg (lnn a rfl)).trans (if_pos a))), hm, b, fun q => absurd q l1n⟩
theorem lm_entry {F : Nat} {i1 i2 now cc cap per first size mtime mcap mper mcc msize th : Int32} {reg cols ring mreg mcols times values : Nat → Int32} {o : Nat → Int64} (h : me_rel now reg cc cap per first size cols ring mtime mcap mper mcc msize mreg mcols times values) :
    ∃ x y, mm_La_entry F 1 i1 i2 cc first size ring o = some x ∧ mm_Mo_entry F i1 i2 th mcc msize times values = some y ∧ y.2 = x.1 ∧ (x.1 = 0 → lg_cmp (x.2 ((0 : Int32).toNatClampNeg)) y.1.toInt64 = 0) := by
  obtain ⟨rc, rm, hc, hm, ho⟩ := entry_both (F := F) (i1 := i1) (i2 := i2) (th := th) h
  rcases ho with ⟨a, b, c⟩ | ⟨a, b⟩ | ⟨a, b⟩
  · exact ⟨_, rm, (mq_La_entry F 1 i1 i2 cc first size ring o).trans (lb hc ((if_pos a).trans (if_neg l01))), hm, b, (by intro _; rw [← c]; exact lgu _ _ _)⟩
  · exact ⟨_, rm, (mq_La_entry F 1 i1 i2 cc first size ring o).trans (lb hc ((if_neg (lnn a rfl)).trans (if_pos a))), hm, b, fun q => absurd q l1n⟩
  · exact ⟨_, rm, (mq_La_entry F 1 i1 i2 cc first size ring o).trans (lb hc ((if_neg (lnn a rfl)).trans ((if_neg (lnn a rfl)).trans (if_pos a)))), hm, b, fun q => absurd q l2n⟩
theorem lm_put {F : Nat} {i1 nsz mcount th : Int32} {nf mline : Nat → Int32} {o : Nat → Int64} (h : ln_rel nsz nf mcount mline) :
    ∃ x y, mm_La_put F 1 i1 nsz nf o = some x ∧ mm_Mo_put F i1 th mcount mline = some y ∧ y.2.1 = x.1 ∧ (x.1 = 0 → lg_cmp (x.2.2.2 ((0 : Int32).toNatClampNeg)) y.1.toInt64 = 0) ∧ ln_rel x.2.1 x.2.2.1 y.2.2.1 y.2.2.2 := by
  obtain ⟨rc, rm, hc, hm, hr, ho⟩ := put_both (F := F) (i1 := i1) (th := th) h
  rcases ho with ⟨a, b, c⟩ | ⟨a, b⟩ | ⟨a, b⟩
  · exact ⟨_, rm, (mq_La_put F 1 i1 nsz nf o).trans (lb hc ((if_pos a).trans (if_neg l01))), hm, b, (by intro _; rw [← c]; exact lgu _ _ _), hr⟩
  · exact ⟨_, rm, (mq_La_put F 1 i1 nsz nf o).trans (lb hc ((if_neg (lnn a rfl)).trans (if_pos a))), hm, b, fun q => absurd q l1n, hr⟩
  · exact ⟨_, rm, (mq_La_put F 1 i1 nsz nf o).trans (lb hc ((if_neg (lnn a rfl)).trans ((if_neg (lnn a rfl)).trans (if_pos a)))), hm, b, fun q => absurd q l2n, hr⟩
theorem lm_putInt {F : Nat} {i1 nsz mcount th : Int32} {nf mline : Nat → Int32} {o : Nat → Int64} (hF : 20 < F) (h : ln_rel nsz nf mcount mline) :
    ∃ x y, mm_La_putInt F 1 i1 nsz nf o = some x ∧ mm_Mo_putInt F i1 th mcount mline = some y ∧ y.2.1 = x.1 ∧ (x.1 = 0 → lg_cmp (x.2.2.2 ((0 : Int32).toNatClampNeg)) y.1.toInt64 = 0) ∧ ln_rel x.2.1 x.2.2.1 y.2.2.1 y.2.2.2 := by
  obtain ⟨rc, rm, hc, hm, hr, ho⟩ := putInt_both (F := F) (i1 := i1) (th := th) hF h
  rcases ho with ⟨a, b, c⟩ | ⟨a, b⟩
  · exact ⟨_, rm, (mq_La_putInt F 1 i1 nsz nf o).trans (lb hc ((if_pos a).trans (if_neg l01))), hm, b, (by intro _; rw [← c]; exact lgu _ _ _), hr⟩
  · exact ⟨_, rm, (mq_La_putInt F 1 i1 nsz nf o).trans (lb hc ((if_neg (lnn a rfl)).trans (if_pos a))), hm, b, fun q => absurd q l1n, hr⟩
theorem lm_poke {F : Nat} {i1 i2 nsz mcount th : Int32} {nf mline : Nat → Int32} (h : ln_rel nsz nf mcount mline) :
    ∃ x y, mm_La_poke F i1 i2 nsz nf = some x ∧ mm_Mo_poke F i1 i2 th mcount mline = some y ∧ y.1 = x.1 ∧ ln_rel nsz x.2 mcount y.2 := by
  obtain ⟨rc, rm, hc, hm, hr, ho⟩ := poke_both (F := F) (i1 := i1) (i2 := i2) (th := th) h
  rcases ho with ⟨a, b⟩ | ⟨a, b⟩ | ⟨a, b⟩
  · exact ⟨_, rm, (mq_La_poke F i1 i2 nsz nf).trans (lb hc ((if_pos a))), hm, b, hr⟩
  · exact ⟨_, rm, (mq_La_poke F i1 i2 nsz nf).trans (lb hc ((if_neg (lnn a rfl)).trans (if_pos a))), hm, b, hr⟩
  · exact ⟨_, rm, (mq_La_poke F i1 i2 nsz nf).trans (lb hc ((if_neg (lnn a rfl)).trans ((if_neg (lnn a rfl)).trans (if_pos a)))), hm, b, hr⟩
theorem lm_frame {F : Nat} {i1 nsz mcount th : Int32} {nf mline : Nat → Int32} {o : Nat → Int64} (hF : 100 < F) (h : ln_rel nsz nf mcount mline) :
    ∃ x y, mm_La_frame F 1 i1 nsz nf o = some x ∧ mm_Mo_frame F i1 th mcount mline = some y ∧ y.2.1 = x.1 ∧ (x.1 = 0 → lg_cmp (x.2.2.2 ((0 : Int32).toNatClampNeg)) y.1.toInt64 = 0) ∧ ln_rel x.2.1 x.2.2.1 y.2.2.1 y.2.2.2 := by
  obtain ⟨rc, rm, hc, hm, hr, ho⟩ := frame_both (F := F) (i1 := i1) (th := th) hF h
  rcases ho with ⟨a, b, c⟩ | ⟨a, b⟩ | ⟨a, b⟩
  · exact ⟨_, rm, (mq_La_frame F 1 i1 nsz nf o).trans (lb hc ((if_pos a).trans (if_neg l01))), hm, b, (by intro _; rw [← c]; exact lgu _ _ _), hr⟩
  · exact ⟨_, rm, (mq_La_frame F 1 i1 nsz nf o).trans (lb hc ((if_neg (lnn a rfl)).trans (if_pos a))), hm, b, fun q => absurd q l1n, hr⟩
  · exact ⟨_, rm, (mq_La_frame F 1 i1 nsz nf o).trans (lb hc ((if_neg (lnn a rfl)).trans ((if_neg (lnn a rfl)).trans (if_pos a)))), hm, b, fun q => absurd q l2n, hr⟩
theorem lm_ask {F : Nat} {nsz mcount th ks kr mks mkr : Int32} {nf mline : Nat → Int32} {o : Nat → Int64} (hF : 100 < F) (h : ln_rel nsz nf mcount mline) (hk : ak_rel ks kr mks mkr) :
    ∃ x y, mm_La_ask F 1 nsz nf ks kr o = some x ∧ mm_Mo_ask F th mcount mks mkr mline = some y ∧ y.2.1 = x.1 ∧ (x.1 = 0 → lg_cmp (x.2.2.2 ((0 : Int32).toNatClampNeg)) y.1.toInt64 = 0) ∧ ln_rel x.2.1 x.2.2.1 y.2.2.1 y.2.2.2 := by
  obtain ⟨rc, rm, hc, hm, hr, ho⟩ := ask_both (F := F) (th := th) hF h hk
  rcases ho with ⟨a, b, c⟩ | ⟨a, b⟩
  · exact ⟨_, rm, (mq_La_ask F 1 nsz nf ks kr o).trans (lb hc ((if_pos a).trans (if_neg l01))), hm, b, (by intro _; rw [← c]; exact lgu _ _ _), hr⟩
  · exact ⟨_, rm, (mq_La_ask F 1 nsz nf ks kr o).trans (lb hc ((if_neg (lnn a rfl)).trans (if_pos a))), hm, b, fun q => absurd q l1n, hr⟩
theorem lm_reply {F : Nat} {i1 asz told th : Int32} {af reply : Nat → Int32} {o : Nat → Int64} (h : re_rel asz af told reply) :
    ∃ x y, mm_La_reply F 1 i1 asz af o = some x ∧ mm_Mo_reply F i1 th told reply = some y ∧ y.2 = x.1 ∧ (x.1 = 0 → lg_cmp (x.2 ((0 : Int32).toNatClampNeg)) y.1.toInt64 = 0) := by
  obtain ⟨rc, rm, hc, hm, ho⟩ := reply_both (F := F) (i1 := i1) (th := th) h
  rcases ho with ⟨a, b, c⟩ | ⟨a, b⟩
  · exact ⟨_, rm, (mq_La_reply F 1 i1 asz af o).trans (lb hc ((if_pos a).trans (if_neg l01))), hm, b, (by intro _; rw [← c]; exact lgu _ _ _)⟩
  · exact ⟨_, rm, (mq_La_reply F 1 i1 asz af o).trans (lb hc ((if_neg (lnn a rfl)).trans (if_pos a))), hm, b, fun q => absurd q l1n⟩
theorem lm_entries {now cc cap per first size mtime mcap mper mcc msize : Int32} {reg cols ring mreg mcols times values : Nat → Int32} (h : me_rel now reg cc cap per first size cols ring mtime mcap mper mcc msize mreg mcols times values) : size = msize := by
  obtain ⟨nowN, R, C, E, capN, perN, h1, h2, h3, h4, h5, ⟨_, _, _, _, h6, _⟩, ⟨_, _, _, _, h7, _⟩⟩ := h
  rw [h6, h7]
theorem lm_time {now cc cap per first size mtime mcap mper mcc msize : Int32} {reg cols ring mreg mcols times values : Nat → Int32} (h : me_rel now reg cc cap per first size cols ring mtime mcap mper mcc msize mreg mcols times values) : now = mtime := by
  obtain ⟨nowN, R, C, E, capN, perN, h1, h2, h3, _⟩ := h
  exact h3.symm
theorem lm_clear {F : Nat} {nsz mcount : Int32} {nf mline : Nat → Int32} (h : ln_rel nsz nf mcount mline) : ∃ x, mm_Lp_clear F nsz = some x ∧ ln_rel x nf 0 mline :=
  ⟨0, rfl, [], ⟨rfl, Nat.zero_le _, by decide, fun i x h => by simp at h⟩, rfl, fun i x h => by simp at h, fun x h => by simp at h⟩
theorem l15 (v : Int32) : ∃ j : Nat, j < 16 ∧ v &&& 15 = nI j := by
  refine ⟨v.toBitVec.toNat &&& 15, Nat.lt_of_le_of_lt Nat.and_le_right (by decide), Int32.toBitVec_inj.mp ?_⟩
  show v.toBitVec &&& 15#32 = BitVec.ofNat 32 (v.toBitVec.toNat &&& 15)
  apply BitVec.eq_of_toNat_eq
  have e : v.toBitVec.toNat &&& 15 < 2 ^ 32 := Nat.lt_of_le_of_lt Nat.and_le_right (by decide)
  simp only [BitVec.toNat_and, BitVec.toNat_ofNat]
  rw [Nat.mod_eq_of_lt e]
