-- ===== reads: class and reference =====
section
variable {T : Nat} {Z Z' : Nat → Nat} {ly : VLy} {sk : VSk} {ck : VCk} {st : VSt} {m : VM} {b s r x : Nat}
theorem RK.congr (h : RK sk Z) (e : ∀ k, k < 36 → k % 9 ≠ 6 → k % 9 ≠ 7 → Z' k = Z k) : RK sk Z' := fun s hs => by
  have := h s hs
  unfold gt at *
  rw [e (9 * s) (by omega) (by omega) (by omega), e (9 * s + 1) (by omega) (by omega) (by omega), e (9 * s + 2) (by omega) (by omega) (by omega), e (9 * s + 3) (by omega) (by omega) (by omega), e (9 * s + 4) (by omega) (by omega) (by omega), e (9 * s + 5) (by omega) (by omega) (by omega), e (9 * s + 8) (by omega) (by omega) (by omega)]
  exact this
def tlZ (Z : Nat → Nat) (s : Nat) : Nat → Nat := zu Z (9 * s + 8) (Z (9 * s + 8) + 1)
theorem k_tell (h : RK sk Z) (hs : s < 4) (hp : Z (9 * s) = 1) : ∃ w, f_X3_tellRead sk (nI s) = some w ∧ RK w (tlZ Z s) := by
  unfold f_X3_tellRead
  rw [p_slot hs, Option.bind_some, if_neg (by decide), p_ard hs (by omega), Option.bind_some, p_aup hs (by omega), Option.bind_some]
  refine ⟨_, rfl, fun q hq => ?_⟩
  have := h q hq
  have h8 := (h s hs).2.2.2.1
  have en : ∀ k, k ≠ 9 * s + 8 → tlZ Z s k = Z k := fun k hk => zu_ne hk
  unfold gt at *
  rw [en (9 * q) (by omega), en (9 * q + 1) (by omega), en (9 * q + 2) (by omega), en (9 * q + 3) (by omega), en (9 * q + 4) (by omega), en (9 * q + 5) (by omega)]
  refine ⟨this.1, this.2.1, this.2.2.1, ?_, this.2.2.2.2.1, this.2.2.2.2.2⟩
  dsimp only
  by_cases e : q = s
  · subst e
    rw [upd_eq, h8, if_pos hp, if_pos hp, show tlZ Z q (9 * q + 8) = Z (9 * q + 8) + 1 from zu_eq, i1, nI_add]
  · rw [upd_ne _ _ e, en (9 * q + 8) (by omega)]
    exact this.2.2.2.1
theorem rs_left (hc : canN Z b) : leftN Z (rsN Z b) := by
  unfold rsN
  by_cases e : leftN Z (slotN Z b)
  · rw [if_pos e]; exact e
  · rw [if_neg e]; exact hc.elim (fun q => absurd q e) (fun q => q.2)
theorem rs_plug (W : WF T Z) (hc : canN Z b) : Z (9 * rsN Z b) = 1 := (W.1 _ (rs_lt Z b)).2.2.2.2.2.2.1 (rs_left hc).1
theorem k_delay (W : WF T Z) (h : RK sk Z) (hs : s < 4) (hp : Z (9 * s) = 1) : f_X3_delayIn sk (nI s) = some (nI (Z (9 * s + 3))) := by
  unfold f_X3_delayIn
  rw [p_entry hs (by omega), Option.bind_some, (h s hs).2.2.1, show gt Z s 3 = Z (9 * s + 3) from if_pos hp]
theorem k_rrow (W : WF T Z) (h : RK sk Z) (hs : s < 4) (hp : Z (9 * s) = 1) {n : Nat} (hn : n < 2 ^ 30) : f_X3_rankRow sk (nI s) (nI n) = some (nI (2 * s + rkN Z s n)) := by
  unfold f_X3_rankRow
  rw [k_rank h W hs hp hn, Option.bind_some, i2, pk_mul, nI_add]
theorem s_rrank (W : WF T Z) (h : RS st Z) (hb : b < blkN Z) (hc : canN Z b) : f_X2_readRankOf st (nI b) = some (nI (2 * rsN Z b + rrN Z b)) := by
  have hn := rn_lt W hb hc
  have hf : b_X2_readRankOf_47 st (nI (rsN Z b)) (nI (rnN Z b)) = some (nI (2 * rsN Z b + rrN Z b)) := by
    unfold b_X2_readRankOf_47
    rw [k_rrow W h.1 (rs_lt Z b) (rs_plug W hc) (by omega)]; rfl
  unfold f_X2_readRankOf
  rw [s_rs W h hb, if_pos hc, Option.bind_some, l_slot W h.2.1 hb, Option.bind_some]
  by_cases e : leftN Z (slotN Z b)
  · have e1 : rsN Z b = slotN Z b := by unfold rsN; rw [if_pos e]
    have e2 : rnN Z b = numN Z b := by unfold rnN; rw [if_pos e]
    rw [if_pos (by rw [e1])]
    unfold b_X2_readRankOf_23
    rw [if_pos rfl, l_num W h.2.1 hb, Option.bind_some, ← e2]
    exact hf
  · have h3 : Z 40 = 3 := hc.elim (fun q => absurd q e) (fun q => q.1)
    have e1 : rsN Z b = slN Z 1 b := by unfold rsN; rw [if_neg e]
    have e2 : rnN Z b = nuN Z 1 b := by unfold rnN; rw [if_neg e]
    have hm := mir_slot h3 b
    have hsl := slot_lt Z b
    have hrl := rs_lt Z b
    rw [if_neg (fun q => by have := (nI_eq (show rsN Z b < 2 ^ 31 by omega) (show slotN Z b < 2 ^ 31 by omega)).mp q; omega)]
    unfold b_X2_readRankOf_23
    rw [if_neg (by decide), l_num2 W h.2.1 hb, if_pos h3, Option.bind_some, ← e2]
    exact hf
theorem RI.congr {v : VI5} (h : RI v Z) (e : ∀ k, k = 46 ∨ k = 47 ∨ k = 42 ∨ k = 43 ∨ k = 45 → Z' k = Z k) : RI v Z' := by
  unfold RI
  rw [e 46 (by omega), e 47 (by omega), e 42 (by omega), e 43 (by omega), e 45 (by omega)]
  exact h
theorem s_one (W : WF T Z) (hT : T < 2 ^ 24) (h : RS st Z) (hb : b < blkN Z) (hc : canN Z b) : ∃ st', f_X2_readOne st (nI b) = some (nI (Z (48 + 12 * slotN Z b + numN Z b)), st') ∧ RS st' (oneZ Z b) := by
  have hsq := SQ_one (Z := Z) b
  have h1 := s_rs W h hb
  rw [if_pos hc] at h1
  have h2 := s_rrank W h hb hc
  obtain ⟨hk, hl, hcl, hv, hi⟩ := id h
  have hs := rs_lt Z b
  have hr := rr_le Z b
  have h3 := k_delay W hk hs (rs_plug W hc)
  obtain ⟨ck', h4, r4, w4⟩ := c_single W hT hcl.t hs hr
  obtain ⟨sk', h5, r5⟩ := k_tell hk hs (rs_plug W hc)
  have e42 : oneZ Z b 42 = Z 42 + 1 := by
    unfold oneZ tkZ nwZ wtZ
    rw [zu_ne (by omega), zu_eq, zu_ne (by omega), zu_ne (by omega)]
  have h6 : RS (sk', st.2.1, ck', st.2.2.2.1, (st.2.2.2.2.1, st.2.2.2.2.2.1, (st.2.2.2.2.2.2.1 + 1), st.2.2.2.2.2.2.2)) (oneZ Z b) := by
    refine ⟨r5.congr (fun k k1 k2 k3 => ?_), hsq.sl.ly hl, (r4.congr (fun k hk => ?_)).c ?_, hsq.sl.vl (fun k h1 _ => hsq k (by omega)) W hv, ?_⟩
    · unfold oneZ tkZ nwZ wtZ tlZ
      rw [zu_ne (k := 41) (by omega), zu_ne (k := 42) (by omega)]
      by_cases e : k = 9 * rsN Z b + 8
      · subst e
        rw [zu_eq, zu_eq, zu_ne (by omega), zu_ne (by omega)]
      · rw [zu_ne e, zu_ne e, zu_ne (by omega), zu_ne (by omega), zu_ne (by omega)]
    · unfold oneZ o1Z
      have e3 : wtZ Z (frN Z b) (9 * rsN Z b + 3) = Z (9 * rsN Z b + 3) := by unfold wtZ; rw [zu_ne (by omega), zu_ne (by omega)]
      unfold nwZ
      rw [e3]
      unfold tkZ
      by_cases e : k = 41
      · subst e
        rw [zu_eq, zu_eq, zu_ne (by omega), zu_ne (by omega), zu_ne (by omega), zu_ne (by omega)]; rfl
      · rw [zu_ne e, zu_ne e, zu_ne (by omega), zu_ne (by omega)]; rfl
    · rw [w4 rfl hcl.2.2]
      congr 1
      unfold oneZ o1Z nwZ tkZ
      rw [zu_ne (by omega), zu_ne (by omega), zu_ne (by omega), zu_ne (by omega), zu_ne (by omega), zu_ne (by omega)]; rfl
    · unfold RI
      rw [e42, hsq 46 (by omega), hsq 47 (by omega), hsq 45 (by omega)]
      have e43 : oneZ Z b 43 = Z 43 := by
        unfold oneZ tkZ nwZ wtZ
        rw [zu_ne (by omega), zu_ne (by omega), zu_ne (by omega), zu_ne (by omega), zu_ne (by omega), zu_ne (by omega)]
      rw [e43]
      refine ⟨hi.1, hi.2.1, ?_, hi.2.2.2⟩
      dsimp only
      rw [hi.2.2.1, i1, nI_add]
  refine ⟨_, ?_, h6⟩
  unfold f_X2_readOne
  rw [h1, Option.bind_some, h2, Option.bind_some, h3, Option.bind_some, h4, Option.bind_some, h5, Option.bind_some]
  have := s_held W h hb
  rw [show f_X2_heldBy (sk', st.2.1, ck', st.2.2.2.1, (st.2.2.2.2.1, st.2.2.2.2.2.1, (st.2.2.2.2.2.2.1 + 1), st.2.2.2.2.2.2.2)) (nI b) = f_X2_heldBy st (nI b) from rfl, this]; rfl
theorem s_two (W : WF T Z) (hT : T + 9 < 2 ^ 24) (h : RS st Z) (hb : b + 1 < blkN Z) (hc : canN Z b) (hc2 : canN Z (b + 1)) : ∃ st', f_X2_readTwo st (nI b) = some (nI (Z (48 + 12 * slotN Z b + numN Z b) + Z (48 + 12 * slotN Z (b + 1) + numN Z (b + 1))), st') ∧ RS st' (twoZ Z b) := by
  have hsq := SQ_two (Z := Z) b
  have hb0 : b < blkN Z := by omega
  have h1 := s_rs W h hb0
  rw [if_pos hc] at h1
  have h1b := s_rs W h hb
  rw [if_pos hc2] at h1b
  have h2 := s_rrank W h hb0 hc
  have h2b := s_rrank W h hb hc2
  obtain ⟨hk, hl, hcl, hv, hi⟩ := id h
  have hs := rs_lt Z b
  have hr := rr_le Z b
  have hs2 := rs_lt Z (b + 1)
  have hr2 := rr_le Z (b + 1)
  have h3 := k_delay W hk hs (rs_plug W hc)
  have h3b := k_delay W hk hs2 (rs_plug W hc2)
  obtain ⟨ck', h4, r4, w4⟩ := c_pair W hT hcl.t hs hr hs2 hr2
  obtain ⟨sk', h5, r5⟩ := k_tell hk hs (rs_plug W hc)
  have hp2 : tlZ Z (rsN Z b) (9 * rsN Z (b + 1)) = 1 := by
    unfold tlZ
    rw [zu_ne (by omega)]
    exact rs_plug W hc2
  obtain ⟨sk2, h6, r6⟩ := k_tell r5 hs2 hp2
  have ew : ∀ k, k ≠ 41 → k ≠ 44 → w2Z Z b k = Z k := fun k k1 k2 => by unfold w2Z wtZ; rw [zu_ne k1, zu_ne k2, zu_ne k1, zu_ne k2]
  have e42 : twoZ Z b 42 = Z 42 + 2 := by
    unfold twoZ tkZ
    rw [zu_ne (by omega), zu_ne (by omega)]
    unfold nwZ
    rw [zu_eq, zu_eq, ew 42 (by omega) (by omega)]
  have e43 : twoZ Z b 43 = Z 43 + 1 := by
    unfold twoZ tkZ
    rw [zu_ne (by omega), zu_eq]
  have h7 : RS (sk2, st.2.1, ck', st.2.2.2.1, (st.2.2.2.2.1, st.2.2.2.2.2.1, (st.2.2.2.2.2.2.1 + 2), (st.2.2.2.2.2.2.2.1 + 1), st.2.2.2.2.2.2.2.2)) (twoZ Z b) := by
    refine ⟨r6.congr (fun k k1 k2 k3 => ?_), hsq.sl.ly hl, (r4.congr (fun k hk => ?_)).c ?_, hsq.sl.vl (fun k h1 _ => hsq k (by omega)) W hv, ?_⟩
    · unfold twoZ tkZ
      rw [zu_ne (k := 41) (by omega), zu_ne (k := 43) (by omega)]
      unfold nwZ tlZ
      rw [zu_ne (k := 42) (by omega)]
      by_cases e2 : k = 9 * rsN Z (b + 1) + 8
      · subst e2
        rw [zu_eq, zu_eq, zu_ne (show 9 * rsN Z (b + 1) + 8 ≠ 42 by omega)]
        by_cases e1 : 9 * rsN Z (b + 1) + 8 = 9 * rsN Z b + 8
        · rw [e1, zu_eq, zu_eq, ew _ (by omega) (by omega)]
        · rw [zu_ne e1, zu_ne e1, zu_ne (by omega), ew _ (by omega) (by omega)]
      · rw [zu_ne e2, zu_ne e2, zu_ne (show k ≠ 9 * rsN Z (b + 1) + (6 + rrN Z (b + 1)) by omega), zu_ne (show k ≠ 42 by omega)]
        by_cases e1 : k = 9 * rsN Z b + 8
        · rw [e1, zu_eq, zu_eq, ew _ (by omega) (by omega)]
        · rw [zu_ne e1, zu_ne e1, zu_ne (by omega), ew _ (by omega) (by omega)]
    · have e3 : w2Z Z b (9 * rsN Z b + 3) = Z (9 * rsN Z b + 3) := ew _ (by omega) (by omega)
      have e4 : w2Z Z b (9 * rsN Z (b + 1) + 3) = Z (9 * rsN Z (b + 1) + 3) := ew _ (by omega) (by omega)
      have en1 : ∀ k, nwZ (w2Z Z b) (rsN Z b) (rrN Z b) k = if k = 42 then w2Z Z b 42 + 1 else if k = 9 * rsN Z b + 8 then w2Z Z b (9 * rsN Z b + 8) + 1 else if k = 9 * rsN Z b + (6 + rrN Z b) then w2Z Z b 41 + w2Z Z b (9 * rsN Z b + 3) else w2Z Z b k := fun k => rfl
      have ho : ∀ k, o2Z Z (rsN Z b) (rrN Z b) (rsN Z (b + 1)) (rrN Z (b + 1)) k = if k = 41 then (if 41 = 9 * rsN Z (b + 1) + (6 + rrN Z (b + 1)) then w2Z Z b 41 + Z (9 * rsN Z (b + 1) + 3) else if 41 = 9 * rsN Z b + (6 + rrN Z b) then w2Z Z b 41 + Z (9 * rsN Z b + 3) else w2Z Z b 41) + 1 else if k = 9 * rsN Z (b + 1) + (6 + rrN Z (b + 1)) then w2Z Z b 41 + Z (9 * rsN Z (b + 1) + 3) else if k = 9 * rsN Z b + (6 + rrN Z b) then w2Z Z b 41 + Z (9 * rsN Z b + 3) else w2Z Z b k := fun k => rfl
      have ht : ∀ k, twoZ Z b k = if k = 41 then (if 41 = 43 then Z 43 + 1 else nwZ (nwZ (w2Z Z b) (rsN Z b) (rrN Z b)) (rsN Z (b + 1)) (rrN Z (b + 1)) 41) + 1 else if k = 43 then Z 43 + 1 else nwZ (nwZ (w2Z Z b) (rsN Z b) (rrN Z b)) (rsN Z (b + 1)) (rrN Z (b + 1)) k := fun k => rfl
      have en2 : ∀ k, nwZ (nwZ (w2Z Z b) (rsN Z b) (rrN Z b)) (rsN Z (b + 1)) (rrN Z (b + 1)) k = if k = 42 then nwZ (w2Z Z b) (rsN Z b) (rrN Z b) 42 + 1 else if k = 9 * rsN Z (b + 1) + 8 then nwZ (w2Z Z b) (rsN Z b) (rrN Z b) (9 * rsN Z (b + 1) + 8) + 1 else if k = 9 * rsN Z (b + 1) + (6 + rrN Z (b + 1)) then nwZ (w2Z Z b) (rsN Z b) (rrN Z b) 41 + nwZ (w2Z Z b) (rsN Z b) (rrN Z b) (9 * rsN Z (b + 1) + 3) else nwZ (w2Z Z b) (rsN Z b) (rrN Z b) k := fun k => rfl
      have en41 : nwZ (w2Z Z b) (rsN Z b) (rrN Z b) 41 = w2Z Z b 41 := by rw [en1, if_neg (by omega), if_neg (by omega), if_neg (by omega)]
      have en3 : nwZ (w2Z Z b) (rsN Z b) (rrN Z b) (9 * rsN Z (b + 1) + 3) = Z (9 * rsN Z (b + 1) + 3) := by rw [en1, if_neg (by omega), if_neg (by omega), if_neg (by omega), e4]
      rw [ht, ho]
      by_cases e : k = 41
      · subst e
        rw [if_pos rfl, if_pos rfl, if_neg (by omega), if_neg (by omega), if_neg (by omega), en2, if_neg (by omega), if_neg (by omega), if_neg (by omega), en41]
      · rw [if_neg e, if_neg e, if_neg (by omega), en2, if_neg (by omega), if_neg (by omega)]
        by_cases ea : k = 9 * rsN Z (b + 1) + (6 + rrN Z (b + 1))
        · rw [if_pos ea, if_pos ea, en41, en3]
        · rw [if_neg ea, if_neg ea, en1, if_neg (by omega), if_neg (by omega), e3]
    · rw [w4 rfl hcl.2.2]
      congr 1
      unfold twoZ o2Z nwZ tkZ
      rw [zu_ne (by omega), zu_ne (by omega), zu_ne (by omega), zu_ne (by omega), zu_ne (by omega), zu_ne (by omega), zu_ne (by omega), zu_ne (by omega), zu_ne (by omega), zu_ne (by omega), zu_ne (by omega)]; rfl
    · unfold RI
      rw [e42, e43, hsq 46 (by omega), hsq 47 (by omega), hsq 45 (by omega)]
      refine ⟨hi.1, hi.2.1, ?_, ?_, hi.2.2.2.2⟩
      · dsimp only
        rw [hi.2.2.1, i2, nI_add]
      · dsimp only
        rw [hi.2.2.2.1, i1, nI_add]
  refine ⟨_, ?_, h7⟩
  unfold f_X2_readTwo
  rw [i1, nI_add, ← i1, h1, Option.bind_some, h1b, Option.bind_some, h2, Option.bind_some, h3, Option.bind_some, h2b, Option.bind_some, h3b, Option.bind_some, h4, Option.bind_some, h5, Option.bind_some, h6, Option.bind_some]
  have ha := s_held W h hb0
  have hbb := s_held W h hb
  rw [show f_X2_heldBy (sk2, st.2.1, ck', st.2.2.2.1, (st.2.2.2.2.1, st.2.2.2.2.2.1, (st.2.2.2.2.2.2.1 + 2), (st.2.2.2.2.2.2.2.1 + 1), st.2.2.2.2.2.2.2.2)) (nI b) = f_X2_heldBy st (nI b) from rfl, ha, Option.bind_some, show f_X2_heldBy (sk2, st.2.1, ck', st.2.2.2.1, (st.2.2.2.2.1, st.2.2.2.2.2.1, (st.2.2.2.2.2.2.1 + 2), (st.2.2.2.2.2.2.2.1 + 1), st.2.2.2.2.2.2.2.2)) (nI (b + 1)) = f_X2_heldBy st (nI (b + 1)) from rfl, hbb, Option.bind_some, nI_add]
-- the reference's
theorem m_free (W : WF T Z) (h : RZ m.2.1 Z) (hb : b < blkN Z) (hc : canN Z b) : f_X6_freeFrom m (nI b) = some (nI (frN Z b)) := by
  have hs := rs_lt Z b
  have hr := rr_le Z b
  unfold f_X6_freeFrom
  rw [m_rs W h hb hc, Option.bind_some, m_rn W h hb hc, Option.bind_some, m_rank W h hs (by have := rn_lt W hb hc; omega), Option.bind_some, i6, nI_add, m_of h hs (show 6 + rkN Z (rsN Z b) (rnN Z b) < 9 from by unfold rrN at hr; omega)]; rfl
theorem m_wait (W : WF T Z) (hT : T < 2 ^ 24) (h : RZ m.2.1 Z) (hx : x ≤ Z 41 + 9) : ∃ z', f_X6_waitFor m (nI x) = some (m.1, z', m.2.2) ∧ RZ z' (wtZ Z x) := by
  have h41 : Z 41 ≤ T := W.2.2.2.1
  unfold f_X6_waitFor
  rw [i41, m_at h (by omega) (by omega), Option.bind_some]
  simp (discharger := omega) only [nI_ltI]
  by_cases e : Z 41 < x
  · rw [if_pos e, show (44 : Int32) = nI 44 from rfl, m_at h (by omega) (by omega), Option.bind_some, Option.bind_some, pk_sub (by omega), nI_add, m_aup m (by omega), Option.bind_some, p_aup (by omega) (by omega), Option.bind_some]
    refine ⟨_, rfl, RZ_congr (RZ_zu (RZ_zu h (k := 44) (x := Z 44 + (x - Z 41)) (by omega)) (k := 41) (x := x) (by omega)) (fun k hk => ?_)⟩
    unfold wtZ zu
    rw [show max (Z 41) x = x by omega]
  · rw [if_neg e]
    refine ⟨_, rfl, RZ_congr h (fun k hk => ?_)⟩
    unfold wtZ zu
    by_cases a : k = 41
    · rw [if_pos a, a]; omega
    · rw [if_neg a]
      by_cases a4 : k = 44
      · rw [if_pos a4, a4]; omega
      · rw [if_neg a4]
theorem m_now (W : WF T Z) (h : RZ m.2.1 Z) (hb : b < blkN Z) (hc : canN Z b) : ∃ z', f_X6_readNow m (nI b) = some (nI (Z (48 + 12 * slotN Z b + numN Z b)), (m.1, z', m.2.2)) ∧ RZ z' (nwZ Z (rsN Z b) (rrN Z b)) := by
  have hs := rs_lt Z b
  have hr := rr_le Z b
  have hrr : rkN Z (rsN Z b) (rnN Z b) = rrN Z b := rfl
  have W' := WF_nw W hs hr
  have hsq := SQ_nw (Z := Z) hs hr
  unfold f_X6_readNow
  rw [m_rs W h hb hc, Option.bind_some, m_rn W h hb hc, Option.bind_some, m_rank W h hs (by have := rn_lt W hb hc; omega), Option.bind_some, hrr, i41, m_at h (by omega) (by omega), Option.bind_some, i3, m_of h hs (by omega), Option.bind_some, i6, nI_add, nI_add, m_put _ hs (by omega), Option.bind_some]
  have r1 : RZ (upd m.2.1 (9 * rsN Z b + (6 + rrN Z b)) (nI (Z 41 + Z (9 * rsN Z b + 3)))) (zu Z (9 * rsN Z b + (6 + rrN Z b)) (Z 41 + Z (9 * rsN Z b + 3))) := RZ_zu h (by omega)
  rw [i8, m_of (m := (m.1, upd m.2.1 (9 * rsN Z b + (6 + rrN Z b)) (nI (Z 41 + Z (9 * rsN Z b + 3))), m.2.2)) r1 hs (by omega), Option.bind_some, i1, nI_add, m_put _ hs (by omega), Option.bind_some, zu_ne (by omega)]
  have r2 := RZ_zu r1 (k := 9 * rsN Z b + 8) (x := Z (9 * rsN Z b + 8) + 1) (by omega)
  rw [show (42 : Int32) = nI 42 from rfl]
  dsimp only
  rw [p_ard (by omega) (by omega), Option.bind_some, upd_ne _ _ (by omega), upd_ne _ _ (by omega), show m.2.1 42 = nI (Z 42) from h 42 (by omega), nI_add, p_aup (by omega) (by omega), Option.bind_some]
  have r3 : RZ _ (nwZ Z (rsN Z b) (rrN Z b)) := RZ_zu r2 (k := 42) (x := Z 42 + 1) (by omega)
  have hv := m_val (m := (m.1, upd (upd (upd m.2.1 (9 * rsN Z b + (6 + rrN Z b)) (nI (Z 41 + Z (9 * rsN Z b + 3)))) (9 * rsN Z b + 8) (nI (Z (9 * rsN Z b + 8) + 1))) 42 (nI (Z 42 + 1)), m.2.2)) W' r3 (b := b) (by rw [hsq.sl.blk]; exact hb) ((hsq.can b).mpr hc)
  rw [hsq.sl.slot, hsq.sl.num, hsq _ (show _ by omega)] at hv
  refine ⟨_, ?_, r3⟩
  rw [hv, Option.bind_some]
theorem m_tick (h : RZ m.2.1 Z) : ∃ z', (∀ (K : (Nat → Int32) → Option (Int32 × VM)), ((ard 96 m.2.1 41).bind fun a => (aup 96 m.2.1 41 (a + 1)).bind fun q => K q) = K z') ∧ RZ z' (tkZ Z) := by
  refine ⟨upd m.2.1 41 (nI (Z 41 + 1)), fun K => ?_, RZ_zu h (by omega)⟩
  rw [i41, m_at h (by omega) (by omega), Option.bind_some, i1, nI_add, m_aup m (by omega), Option.bind_some]
theorem m_one (W : WF T Z) (hT : T < 2 ^ 24) (h : RZ m.2.1 Z) (hb : b < blkN Z) (hc : canN Z b) : ∃ z', f_X6_doRead m (nI b) = some (nI (Z (48 + 12 * slotN Z b + numN Z b)), (m.1, z', m.2.2)) ∧ RZ z' (oneZ Z b) := by
  have hs := rs_lt Z b
  have hr := rr_le Z b
  have hf : frN Z b ≤ Z 41 + 9 := fr_le W hs hr
  obtain ⟨z1, h1, r1⟩ := m_wait W hT h (x := frN Z b) hf
  have W1 := WF_wt W hf
  have q1 := SQ_wt (Z := Z) (frN Z b)
  obtain ⟨z2, h2, r2⟩ := m_now (m := (m.1, z1, m.2.2)) W1 r1 (b := b) (by rw [q1.sl.blk]; exact hb) ((q1.can b).mpr hc)
  rw [q1.rs, q1.rr] at r2
  rw [q1.sl.slot, q1.sl.num, q1 _ (show _ by omega)] at h2
  obtain ⟨z3, h3, r3⟩ := m_tick (m := (m.1, z2, m.2.2)) r2
  refine ⟨z3, ?_, r3⟩
  unfold f_X6_doRead
  rw [m_free W h hb hc, Option.bind_some, h1, Option.bind_some, h2, Option.bind_some]
  exact h3 _
theorem m_two (W : WF T Z) (hT : T + 9 < 2 ^ 24) (h : RZ m.2.1 Z) (hb : b + 1 < blkN Z) (hc : canN Z b) (hc2 : canN Z (b + 1)) : ∃ z', f_X6_readPair m (nI b) = some (nI (Z (48 + 12 * slotN Z b + numN Z b) + Z (48 + 12 * slotN Z (b + 1) + numN Z (b + 1))), (m.1, z', m.2.2)) ∧ RZ z' (twoZ Z b) := by
  have hb0 : b < blkN Z := by omega
  have hs := rs_lt Z b
  have hr := rr_le Z b
  have hs2 := rs_lt Z (b + 1)
  have hr2 := rr_le Z (b + 1)
  have hf : frN Z b ≤ Z 41 + 9 := fr_le W hs hr
  have hf2 : frN Z (b + 1) ≤ Z 41 + 9 := fr_le W hs2 hr2
  obtain ⟨z1, h1, r1⟩ := m_wait W (by omega) h (x := frN Z b) hf
  have W1 := WF_wt W hf
  have q1 := SQ_wt (Z := Z) (frN Z b)
  have e2 : frN (wtZ Z (frN Z b)) (b + 1) = frN Z (b + 1) := by
    show wtZ Z (frN Z b) (9 * rsN (wtZ Z (frN Z b)) (b + 1) + (6 + rrN (wtZ Z (frN Z b)) (b + 1))) = _
    rw [q1.rs, q1.rr]
    show wtZ Z (frN Z b) (9 * rsN Z (b + 1) + (6 + rrN Z (b + 1))) = Z (9 * rsN Z (b + 1) + (6 + rrN Z (b + 1)))
    unfold wtZ
    rw [zu_ne (by omega), zu_ne (by omega)]
  have hx2 : frN Z (b + 1) ≤ wtZ Z (frN Z b) 41 + 9 := by
    have e41 : wtZ Z (frN Z b) 41 = max (Z 41) (frN Z b) := zu_eq
    have : frN Z (b + 1) ≤ Z 41 + 9 := hf2
    omega
  have f2 := m_free (m := (m.1, z1, m.2.2)) W1 r1 (b := b + 1) (by rw [q1.sl.blk]; exact hb) ((q1.can _).mpr hc2)
  rw [e2] at f2
  obtain ⟨z2, h2, r2⟩ := m_wait (m := (m.1, z1, m.2.2)) W1 (by omega) r1 hx2
  have W2 := WF_wt W1 hx2
  have q2 : SQ Z (w2Z Z b) := q1.trans (SQ_wt (frN Z (b + 1)))
  obtain ⟨z3, h3, r3⟩ := m_now (m := (m.1, z2, m.2.2)) W2 r2 (b := b) (by show b < blkN (w2Z Z b); rw [q2.sl.blk]; exact hb0) ((q2.can b).mpr hc)
  change RZ z3 (nwZ (w2Z Z b) (rsN (w2Z Z b) b) (rrN (w2Z Z b) b)) at r3
  change f_X6_readNow _ _ = some (nI (w2Z Z b (48 + 12 * slotN (w2Z Z b) b + numN (w2Z Z b) b)), _) at h3
  rw [q2.rs, q2.rr] at r3
  rw [q2.sl.slot, q2.sl.num, q2 _ (show _ by omega)] at h3
  have W3 := WF_nw W2 hs hr
  have q3 : SQ Z (nwZ (w2Z Z b) (rsN Z b) (rrN Z b)) := q2.trans (SQ_nw hs hr)
  obtain ⟨z4, h4, r4⟩ := m_now (m := (m.1, z3, m.2.2)) W3 r3 (b := b + 1) (by show b + 1 < blkN (nwZ (w2Z Z b) (rsN Z b) (rrN Z b)); rw [q3.sl.blk]; exact hb) ((q3.can _).mpr hc2)
  change RZ z4 (nwZ (nwZ (w2Z Z b) (rsN Z b) (rrN Z b)) (rsN (nwZ (w2Z Z b) (rsN Z b) (rrN Z b)) (b + 1)) (rrN (nwZ (w2Z Z b) (rsN Z b) (rrN Z b)) (b + 1))) at r4
  change f_X6_readNow _ _ = some (nI (nwZ (w2Z Z b) (rsN Z b) (rrN Z b) (48 + 12 * slotN (nwZ (w2Z Z b) (rsN Z b) (rrN Z b)) (b + 1) + numN (nwZ (w2Z Z b) (rsN Z b) (rrN Z b)) (b + 1))), _) at h4
  rw [q3.rs, q3.rr] at r4
  rw [q3.sl.slot, q3.sl.num, q3 _ (show _ by omega)] at h4
  have e43 : nwZ (nwZ (w2Z Z b) (rsN Z b) (rrN Z b)) (rsN Z (b + 1)) (rrN Z (b + 1)) 43 = Z 43 := by
    unfold nwZ w2Z wtZ
    rw [zu_ne (by omega), zu_ne (by omega), zu_ne (by omega), zu_ne (by omega), zu_ne (by omega), zu_ne (by omega), zu_ne (by omega), zu_ne (by omega), zu_ne (by omega), zu_ne (by omega)]
  have h5 : ard 96 z4 43 = some (nI (Z 43)) := by
    rw [show (43 : Int32) = nI 43 from rfl, m_at (m := (m.1, z4, m.2.2)) r4 (by omega) (by omega), e43]
  have r5 := RZ_zu r4 (k := 43) (x := Z 43 + 1) (by omega)
  obtain ⟨z6, h6, r6⟩ := m_tick (m := (m.1, upd z4 43 (nI (Z 43 + 1)), m.2.2)) r5
  refine ⟨z6, ?_, r6⟩
  unfold f_X6_readPair
  rw [i1, nI_add, ← i1, m_free W h hb0 hc, Option.bind_some, h1, Option.bind_some, f2, Option.bind_some, h2, Option.bind_some, h3, Option.bind_some]
  dsimp only
  rw [h4, Option.bind_some]
  dsimp only
  rw [h5, Option.bind_some, i1, nI_add, nI_add, show (43 : Int32) = nI 43 from rfl, p_aup (by omega) (by omega), Option.bind_some, ← i1]
  exact h6 _
end
theorem L_read_in {c c' : VC} {o : Nat → Int64} {a1 x : Int32} (h : f_X5_read c a1 = some (.inr (x, c'))) : f_L_read c o a1 = some (0, c', vp_updL o 0 x.toInt64) := by unfold f_L_read; rw [h]; rfl
theorem op_read {T : Nat} (hT24 : T < 2 ^ 24) (c : VC) (mo : VM) (o : Nat → Int64) (a1 : Int32) (h : Iv T (c, (mo, o))) : Ok (T + 12) (callG (f_L_read c o a1) (f_X6_read mo a1)) := by
  unfold f_X6_read
  have hall := h
  obtain ⟨Z, SZ, n, KZ, kp, tx, len, hS, hT⟩ := h
  have hS0 := hS
  obtain ⟨W, hR, hZ, -⟩ := hS0
  rcases blk_or W hR hZ a1 with ⟨h1, g1⟩ | ⟨b, hb, rfl, h1, g1⟩
  · have e1 : f_X5_read c a1 = some (.inl (1, c)) := by unfold f_X5_read; rw [h1]; rfl
    refine ⟨_, Iv.thr (t' := 1) (o' := o) hall (by omega), callG_th (c' := c) (x := 0) (k := 1) (by unfold f_L_read; rw [e1]; rfl) ?_ (by decide)⟩
    rw [g1]; rfl
  have hbl := W.blk
  have hcan := s_can W hR (b := b) (by omega)
  have hcc : (decide (b < blkN Z ∧ canN Z b)) = decide (canN Z b) := by simp [hb]
  rw [hcc] at hcan
  rw [g1, Option.bind_some, if_neg (by decide), m_can W hZ hb, Option.bind_some]
  by_cases e : canN Z b
  · rw [if_neg (bI_t e)]
    obtain ⟨c', m2, SZ', n', hsv, hrec, hI, htx, hg0, hz, hm2⟩ := save hS
    have hR' : RS (gSt c' 0) Z := by rw [hg0]; exact hR
    have hZ2 : RZ m2.1 Z := by rw [hz]; exact hZ
    obtain ⟨z', hm, hz'⟩ := m_one (m := (0, m2)) W hT24 hZ2 hb e
    obtain ⟨st', hst, hRS⟩ := s_one W hT24 hR' hb e
    have hcl : f_X5_read c (nI b) = some (.inr (nI (Z (48 + 12 * slotN Z b + numN Z b)), sSt c' 0 st')) := by
      unfold f_X5_read
      rw [h1, Option.bind_some, if_neg (by decide), hcan, Option.bind_some, if_neg (bI_t e), hsv, Option.bind_some, hst, Option.bind_some]
    have hm' : b_X6_read_26 mo (nI b) 0 = some (nI (Z (48 + 12 * slotN Z b + numN Z b)), (0, z', m2.2)) := by
      unfold b_X6_read_26
      rw [if_neg (by decide), hrec, Option.bind_some, hm, Option.bind_some]
    exact op_end (Z' := oneZ Z b) hI (by omega) hT htx hm2 (L_read_in hcl) hm' (gSt_sSt0 _ _) (fun k hk _ => gSt_ne _ _ hk) rfl (WF_one W b) hRS hz'
  · rw [if_pos (bI_f e)]
    have e1 : f_X5_read c (nI b) = some (.inl (3, c)) := by unfold f_X5_read; rw [h1, Option.bind_some, if_neg (by decide), hcan, Option.bind_some, if_pos (bI_f e)]
    exact ⟨_, Iv.thr (t' := 2) (o' := o) hall (by omega), callG_th (c' := c) (x := 0) (k := 2) (by unfold f_L_read; rw [e1]; rfl) rfl (by decide)⟩
