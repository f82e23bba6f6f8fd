/-! A frame that comes, on both sides at once -/
theorem fr_info {F e n : Nat} (he : e < 8) (hn : n < 8) : mm_Fr_information F (nI e) (nI n) = some (nI (16 + 2 * e + 32 * n)) := by
  rw [mq_Fr_information, show (2 : Int32) * nI e = nI (2 * e) from pk_mul 2 e, show (16 : Int32) + nI (2 * e) = nI (16 + 2 * e) from nI_add 16 _, show (32 : Int32) * nI n = nI (32 * n) from pk_mul 32 n, nI_add]
theorem fr_after0 : ∀ e, e < 8 → mm_Fr_after 0 (nI e) = some (nI ((e + 1) % 8)) := by decide +kernel
theorem fr_before0 : ∀ e, e < 8 → mm_Fr_before 0 (nI e) = some (nI ((e + 7) % 8)) := by decide +kernel
theorem fr_after {F e : Nat} (he : e < 8) : mm_Fr_after F (nI e) = some (nI ((e + 1) % 8)) := fr_after0 e he
theorem fr_before {F e : Nat} (he : e < 8) : mm_Fr_before F (nI e) = some (nI ((e + 7) % 8)) := fr_before0 e he
abbrev is_inf (c : Nat) : Prop := c % 2 = 0 ∧ c / 16 % 2 = 1
theorem fr_isinf0 : ∀ c, c < 256 → mm_Fr_isInformation 0 (nI c) = some (if is_inf c then 1 else 0) := by decide +kernel
theorem fr_isinf {F c : Nat} (hc : c < 256) : mm_Fr_isInformation F (nI c) = some (if is_inf c then 1 else 0) := fr_isinf0 c hc
theorem mo_rem {c d : Nat} (D : Int32) (hD : D = nI d) (hc : c < 2 ^ 31) (h0 : 0 < d) (hd : d < 2 ^ 31) : bs_rem (nI c) D = nI (c % d) := by subst hD; exact pk_rem hc h0 hd
theorem mo_div {c d : Nat} (D : Int32) (hD : D = nI d) (hc : c < 2 ^ 31) (h0 : 0 < d) (hd : d < 2 ^ 31) : nI c / D = nI (c / d) := by subst hD; exact pk_div hc h0 hd
/-- what the two sides keep of the line: connected, numbers, association, the latest frame -/
def cs_rel (conn exp nxt asc lsz : Int32) (lf : Nat → Int32) (mconn mexp mnxt masc mlsz : Int32) (mlf : Nat → Int32) : Prop :=
  ∃ (e n ag : Nat) (L : List Nat), (conn = 0 ∨ conn = 1) ∧ mconn = conn ∧ exp = nI e ∧ mexp = nI e ∧ e < 8 ∧ nxt = nI n ∧ mnxt = nI n ∧ n < 8 ∧ asc = nI ag ∧ masc = nI ag ∧ ag < 3 ∧ rw_is 80 lsz lf L ∧ mlsz = nI L.length ∧ fb mlf L ∧ pu_B L ∧ (L = [] ∨ 7 ≤ L.length)
/-- .. and the reply -/
def re_rel (psz : Int32) (pf : Nat → Int32) (told : Int32) (reply : Nat → Int32) : Prop := ∃ out : List Nat, rw_is 80 psz pf out ∧ told = nI out.length ∧ fb reply out ∧ pu_B out ∧ (out = [] ∨ 7 ≤ out.length)
theorem rl_copy {F : Nat} {told : Int32} {latest : Nat → Int32} {L : List Nat} (hf : fb latest L) (hl : L.length ≤ 80) :
    ∀ (k i : Nat) (reply : Nat → Int32), i ≤ L.length → L.length - i < k → fb reply (L.take i) → ∃ reply', mm_Mo_replyLatest_L2 F k (nI i) told (nI L.length) reply latest = some (nI L.length, reply') ∧ fb reply' L := by
  intro k
  induction k with
  | zero => intro i reply _ h; omega
  | succ k ih =>
    intro i reply hi hk hb
    rw [mq_Mo_replyLatest_L2]
    by_cases hin : L.length ≤ i
    · rw [if_pos (nI_le hin (by omega))]
      rw [List.take_of_length_le hin] at hb
      exact ⟨reply, rfl, hb⟩
    · have hlt : i < L.length := by omega
      rw [if_neg (nI_ge (by omega) (by omega)), if_neg (nI_in (by omega) (by omega)), if_neg (nI_in (by omega) (by omega)), nI_clamp (by omega), hf i _ (List.getElem?_eq_getElem hlt), nI_1]
      refine ih (i + 1) _ (by omega) (by omega) ?_
      have h1 := hb.push L[i]
      rw [List.length_take, Nat.min_eq_left (by omega)] at h1
      rw [List.take_succ_eq_append_getElem hlt]
      exact h1
theorem rl_all {F : Nat} {told : Int32} {latest reply : Nat → Int32} {L : List Nat} (hF : 100 < F) (hf : fb latest L) (hl : L.length ≤ 80) : ∃ reply', mm_Mo_replyLatest F told (nI L.length) reply latest = some (nI L.length, reply') ∧ fb reply' L := by
  obtain ⟨r, e, h⟩ := rl_copy (F := F) (told := told) hf hl F 0 reply (by omega) (by omega) (fb_nil _)
  rw [nI_0] at e
  exact ⟨r, e, h⟩
theorem rc_bare {F c : Nat} {told : Int32} {reply : Nat → Int32} (hF : 100 < F) (hc : c < 256) : ∃ r, mm_Mo_replyControl F (nI c) told reply = some r ∧ r.1 = nI (pu_fr c []).length ∧ fb r.2 (pu_fr c []) := by
  obtain ⟨f', e, h⟩ := pu_mwrap (F := F) (N := 80) (f := reply) (l := []) (c := c) (fun i x hx => by simp at hx) (fun x hx => by cases hx) hc (by simp) (by simp) (by decide) (by simp; omega)
  rw [show nI ([] : List Nat).length = 0 from nI_0] at e
  rw [mq_Mo_replyControl, pu_b e]
  exact ⟨_, rfl, rfl, h⟩
theorem fr_len0 (c : Nat) : (pu_fr c []).length = 7 := by rw [pu_fr_len, if_pos rfl]
theorem wr_bare {F c : Nat} {psz : Int32} {pf : Nat → Int32} (hF : 100 < F) (hc : c < 256) (hps : rw_is 80 psz pf []) : ∃ r, mm_Fr_wrap F 80 (nI c) psz pf = some r ∧ rw_is 80 r.1 r.2 (pu_fr c []) :=
  pu_wrap hps (fun x hx => by cases hx) (by simp) hc (by simp) (by simp; omega)
theorem bare_rel {c : Nat} {psz told : Int32} {pf reply : Nat → Int32} (hc : c < 256) (h1 : rw_is 80 psz pf (pu_fr c [])) (h2 : told = nI (pu_fr c []).length) (h3 : fb reply (pu_fr c [])) : re_rel psz pf told reply :=
  ⟨_, h1, h2, h3, pu_frB hc (fun x hx => by cases hx) (by simp), Or.inr (by rw [fr_len0]; exact Nat.le_refl _)⟩
theorem i72 {F v4 e' : Nat} {mtime mcap mper mcc msize masc msz ms told mlsz : Int32} {mnext : Int32} {mreg mcols times values mb reply made : Nat → Int32} {p : List Nat} (hF : 100 < F) (hv : v4 < 8) (he : e' < 8) (hp : fb made p) (hpB : pu_B p) (hp1 : 1 ≤ p.length) (hp2 : p.length ≤ 44) :
    ∀ (k i : Nat) (latest : Nat → Int32), i ≤ p.length → p.length - i < k → (∀ (j x : Nat), p[j]? = some x → j < i → latest (j + 6) = nI x) →
      ∃ reply' latest', mm_Mo_inform_L72 F k (nI v4) (nI i) mtime mcap mper mcc msize (nI e') mnext masc msz ms told mlsz (nI p.length) mreg mcols times values mb reply latest made =
          some (mtime, mcap, mper, mcc, msize, nI e', mnext, masc, msz, ms, nI (pu_fr (16 + 2 * v4 + 32 * e') p).length, nI (pu_fr (16 + 2 * v4 + 32 * e') p).length, nI p.length, mreg, mcols, times, values, mb, reply', latest', made) ∧
        fb reply' (pu_fr (16 + 2 * v4 + 32 * e') p) ∧ fb latest' (pu_fr (16 + 2 * v4 + 32 * e') p) := by
  intro k
  induction k with
  | zero => intro i latest _ h; omega
  | succ k ih =>
    intro i latest hi hk hb
    rw [mq_Mo_inform_L72]
    by_cases hin : p.length ≤ i
    · have ec : (16 : Int32) + 2 * nI v4 + 32 * nI e' = nI (16 + 2 * v4 + 32 * e') := by
        rw [show (2 : Int32) * nI v4 = nI (2 * v4) from pk_mul 2 _, show (16 : Int32) + nI (2 * v4) = nI (16 + 2 * v4) from nI_add 16 _, show (32 : Int32) * nI e' = nI (32 * e') from pk_mul 32 _, nI_add]
      obtain ⟨latest', e1, h1⟩ := pu_mwrap (F := F) (N := 80) (f := latest) (l := p) (c := 16 + 2 * v4 + 32 * e') (fun j x hx => hb j x hx (by have := (List.getElem?_eq_some_iff.mp hx).1; omega)) hpB (by omega) (by omega) (by omega) (by decide) (by omega)
      obtain ⟨reply', e2, h2⟩ := rl_all (F := F) (told := told) (reply := reply) hF h1 (by rw [pu_fr_len]; split <;> omega)
      rw [if_pos (nI_le hin (by omega)), ec, pu_b e1, pu_b e2]
      exact ⟨reply', latest', rfl, h2, h1⟩
    · have hlt : i < p.length := by omega
      have e6 : (6 : Int32) + nI i = nI (6 + i) := nI_add 6 i
      rw [if_neg (nI_ge (by omega) (by omega)), if_neg (nI_in (by omega) (by omega)), e6, if_neg (nI_in (by omega) (by omega)), nI_clamp (by omega), nI_clamp (by omega), hp i _ (List.getElem?_eq_getElem hlt), nI_1]
      refine ih (i + 1) _ (by omega) (by omega) (fun j x hx hj => ?_)
      by_cases hji : j = i
      · subst hji
        rw [Nat.add_comm 6 j, pk_us]
        rw [List.getElem?_eq_getElem hlt] at hx
        cases hx
        rfl
      · rw [pk_un (by omega)]
        exact hb j x hx (by omega)
/-- the payload of a frame -/
theorem pay_ln {lf : Nat → Int32} {l : List Nat} (h : fb lf l) : ln_is lf ((l.drop 6).take (l.length - 9)) := by
  intro i x hx
  rw [List.getElem?_take] at hx
  split at hx
  · rw [List.getElem?_drop] at hx
    exact h _ x hx
  · cases hx
theorem pay_len {l : List Nat} (h : 10 ≤ l.length) : ((l.drop 6).take (l.length - 9)).length = l.length - 9 := by rw [List.length_take, List.length_drop]; omega
