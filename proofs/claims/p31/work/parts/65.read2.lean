-- ===== reads: class and reference =====
section
variable {T : Nat} {Z Z' : Nat → Nat} {ly : VLy} {sk : VSk} {ck : VCk} {st : VSt} {b s r x : Nat}
theorem RK.congr (h : RK sk Z) (e : ∀ k, k < 36 → k % 9 ≠ 6 → k % 9 ≠ 7 → Z' k = Z k) : RK sk Z' := fun s hs => by
  have := h s hs
  unfold gt at *
  rw [e (9 * s) (by omega) (by omega) (by omega), e (9 * s + 1) (by omega) (by omega) (by omega), e (9 * s + 2) (by omega) (by omega) (by omega), e (9 * s + 3) (by omega) (by omega) (by omega), e (9 * s + 4) (by omega) (by omega) (by omega), e (9 * s + 5) (by omega) (by omega) (by omega), e (9 * s + 8) (by omega) (by omega) (by omega)]
  exact this
def tlZ (Z : Nat → Nat) (s : Nat) : Nat → Nat := zu Z (9 * s + 8) (Z (9 * s + 8) + 1)
theorem k_tell (h : RK sk Z) (hs : s < 4) (hp : Z (9 * s) = 1) : ∃ w, f_X3_tellRead sk (nI s) = some w ∧ RK w (tlZ Z s) := by
  unfold f_X3_tellRead
  rw [p_slot hs, Option.bind_some, if_neg (by decide), p_ard hs (by omega), Option.bind_some, p_aup hs (by omega), Option.bind_some]
  refine ⟨_, rfl, fun q hq => ?_⟩
  have := h q hq
  have h8 := (h s hs).2.2.2.1
  have en : ∀ k, k ≠ 9 * s + 8 → tlZ Z s k = Z k := fun k hk => zu_ne hk
  unfold gt at *
  rw [en (9 * q) (by omega), en (9 * q + 1) (by omega), en (9 * q + 2) (by omega), en (9 * q + 3) (by omega), en (9 * q + 4) (by omega), en (9 * q + 5) (by omega)]
  refine ⟨this.1, this.2.1, this.2.2.1, ?_, this.2.2.2.2.1, this.2.2.2.2.2⟩
  dsimp only
  by_cases e : q = s
  · subst e
    rw [upd_eq, h8, if_pos hp, if_pos hp, show tlZ Z q (9 * q + 8) = Z (9 * q + 8) + 1 from zu_eq, i1, nI_add]
  · rw [upd_ne _ _ e, en (9 * q + 8) (by omega)]
    exact this.2.2.2.1
theorem rs_left (hc : canN Z b) : leftN Z (rsN Z b) := by
  unfold rsN
  by_cases e : leftN Z (slotN Z b)
  · rw [if_pos e]; exact e
  · rw [if_neg e]; exact hc.elim (fun q => absurd q e) (fun q => q.2)
theorem rs_plug (W : WF T Z) (hc : canN Z b) : Z (9 * rsN Z b) = 1 := (W.1 _ (rs_lt Z b)).2.2.2.2.2.2.1 (rs_left hc).1
theorem k_delay (W : WF T Z) (h : RK sk Z) (hs : s < 4) (hp : Z (9 * s) = 1) : f_X3_delayIn sk (nI s) = some (nI (Z (9 * s + 3))) := by
  unfold f_X3_delayIn
  rw [p_entry hs (by omega), Option.bind_some, (h s hs).2.2.1, show gt Z s 3 = Z (9 * s + 3) from if_pos hp]
theorem k_rrow (W : WF T Z) (h : RK sk Z) (hs : s < 4) (hp : Z (9 * s) = 1) {n : Nat} (hn : n < 2 ^ 30) : f_X3_rankRow sk (nI s) (nI n) = some (nI (2 * s + rkN Z s n)) := by
  unfold f_X3_rankRow
  rw [k_rank h W hs hp hn, Option.bind_some, i2, pk_mul, nI_add]
theorem s_rrank (W : WF T Z) (h : RS st Z) (hb : b < blkN Z) (hc : canN Z b) : f_X2_readRankOf st (nI b) = some (nI (2 * rsN Z b + rrN Z b)) := by
  have hn := rn_lt W hb hc
  have hf : b_X2_readRankOf_47 st (nI (rsN Z b)) (nI (rnN Z b)) = some (nI (2 * rsN Z b + rrN Z b)) := by
    unfold b_X2_readRankOf_47
    rw [k_rrow W h.1 (rs_lt Z b) (rs_plug W hc) (by omega)]; rfl
  unfold f_X2_readRankOf
  rw [s_rs W h hb, if_pos hc, Option.bind_some, l_slot W h.2.1 hb, Option.bind_some]
  by_cases e : leftN Z (slotN Z b)
  · have e1 : rsN Z b = slotN Z b := by unfold rsN; rw [if_pos e]
    have e2 : rnN Z b = numN Z b := by unfold rnN; rw [if_pos e]
    rw [if_pos (by rw [e1])]
    unfold b_X2_readRankOf_23
    rw [if_pos rfl, l_num W h.2.1 hb, Option.bind_some, ← e2]
    exact hf
  · have h3 : Z 40 = 3 := hc.elim (fun q => absurd q e) (fun q => q.1)
    have e1 : rsN Z b = slN Z 1 b := by unfold rsN; rw [if_neg e]
    have e2 : rnN Z b = nuN Z 1 b := by unfold rnN; rw [if_neg e]
    have hm := mir_slot h3 b
    have hsl := slot_lt Z b
    have hrl := rs_lt Z b
    rw [if_neg (fun q => by have := (nI_eq (show rsN Z b < 2 ^ 31 by omega) (show slotN Z b < 2 ^ 31 by omega)).mp q; omega)]
    unfold b_X2_readRankOf_23
    rw [if_neg (by decide), l_num2 W h.2.1 hb, if_pos h3, Option.bind_some, ← e2]
    exact hf
theorem RI.congr {v : VI5} (h : RI v Z) (e : ∀ k, k = 46 ∨ k = 47 ∨ k = 42 ∨ k = 43 ∨ k = 45 → Z' k = Z k) : RI v Z' := by
  unfold RI
  rw [e 46 (by omega), e 47 (by omega), e 42 (by omega), e 43 (by omega), e 45 (by omega)]
  exact h
theorem s_one (W : WF T Z) (hT : T < 2 ^ 24) (h : RS st Z) (hb : b < blkN Z) (hc : canN Z b) : ∃ st', f_X2_readOne st (nI b) = some (nI (Z (48 + 12 * slotN Z b + numN Z b)), st') ∧ RS st' (oneZ Z b) := by
  have hsq := SQ_one (Z := Z) b
  have h1 := s_rs W h hb
  rw [if_pos hc] at h1
  have h2 := s_rrank W h hb hc
  obtain ⟨hk, hl, hcl, hv, hi⟩ := id h
  have hs := rs_lt Z b
  have hr := rr_le Z b
  have h3 := k_delay W hk hs (rs_plug W hc)
  obtain ⟨ck', h4, r4, w4⟩ := c_single W hT hcl.t hs hr
  obtain ⟨sk', h5, r5⟩ := k_tell hk hs (rs_plug W hc)
  have e42 : oneZ Z b 42 = Z 42 + 1 := by
    unfold oneZ tkZ nwZ wtZ
    rw [zu_ne (by omega), zu_eq, zu_ne (by omega), zu_ne (by omega)]
  have h6 : RS (sk', st.2.1, ck', st.2.2.2.1, (st.2.2.2.2.1, st.2.2.2.2.2.1, (st.2.2.2.2.2.2.1 + 1), st.2.2.2.2.2.2.2)) (oneZ Z b) := by
    refine ⟨r5.congr (fun k k1 k2 k3 => ?_), hsq.sl.ly hl, (r4.congr (fun k hk => ?_)).c ?_, hsq.sl.vl (fun k h1 _ => hsq k (by omega)) W hv, ?_⟩
    · unfold oneZ tkZ nwZ wtZ tlZ
      rw [zu_ne (k := 41) (by omega), zu_ne (k := 42) (by omega)]
      by_cases e : k = 9 * rsN Z b + 8
      · subst e
        rw [zu_eq, zu_eq, zu_ne (by omega), zu_ne (by omega)]
      · rw [zu_ne e, zu_ne e, zu_ne (by omega), zu_ne (by omega), zu_ne (by omega)]
    · unfold oneZ o1Z
      have e3 : wtZ Z (frN Z b) (9 * rsN Z b + 3) = Z (9 * rsN Z b + 3) := by unfold wtZ; rw [zu_ne (by omega), zu_ne (by omega)]
      unfold nwZ
      rw [e3]
      unfold tkZ
      by_cases e : k = 41
      · subst e
        rw [zu_eq, zu_eq, zu_ne (by omega), zu_ne (by omega), zu_ne (by omega), zu_ne (by omega)]; rfl
      · rw [zu_ne e, zu_ne e, zu_ne (by omega), zu_ne (by omega)]; rfl
    · rw [w4 rfl hcl.2.2]
      congr 1
      unfold oneZ o1Z nwZ tkZ
      rw [zu_ne (by omega), zu_ne (by omega), zu_ne (by omega), zu_ne (by omega), zu_ne (by omega), zu_ne (by omega)]; rfl
    · unfold RI
      rw [e42, hsq 46 (by omega), hsq 47 (by omega), hsq 45 (by omega)]
      have e43 : oneZ Z b 43 = Z 43 := by
        unfold oneZ tkZ nwZ wtZ
        rw [zu_ne (by omega), zu_ne (by omega), zu_ne (by omega), zu_ne (by omega), zu_ne (by omega), zu_ne (by omega)]
      rw [e43]
      refine ⟨hi.1, hi.2.1, ?_, hi.2.2.2⟩
      dsimp only
      rw [hi.2.2.1, i1, nI_add]
  refine ⟨_, ?_, h6⟩
  unfold f_X2_readOne
  rw [h1, Option.bind_some, h2, Option.bind_some, h3, Option.bind_some, h4, Option.bind_some, h5, Option.bind_some]
  have := s_held W h hb
  rw [show f_X2_heldBy (sk', st.2.1, ck', st.2.2.2.1, (st.2.2.2.2.1, st.2.2.2.2.2.1, (st.2.2.2.2.2.2.1 + 1), st.2.2.2.2.2.2.2)) (nI b) = f_X2_heldBy st (nI b) from rfl, this]; rfl
-- the reference's
end
