-- ===== the reference's looks =====
theorem i5 : (5 : Int32) = nI 5 := rfl
theorem i6 : (6 : Int32) = nI 6 := rfl
theorem i7 : (7 : Int32) = nI 7 := rfl
theorem i8 : (8 : Int32) = nI 8 := rfl
theorem i9 : (9 : Int32) = nI 9 := rfl
theorem i12 : (12 : Int32) = nI 12 := rfl
theorem i36 : (36 : Int32) = nI 36 := rfl
theorem i40 : (40 : Int32) = nI 40 := rfl
theorem i41 : (41 : Int32) = nI 41 := rfl
theorem i48 : (48 : Int32) = nI 48 := rfl
theorem i96 : (96 : Int32) = nI 96 := rfl
theorem p_in {x lo hi : Nat} (hx : x < 2 ^ 31) (hl : lo < 2 ^ 31) (hh : hi < 2 ^ 31) : f_X6_in (nI x) (nI lo) (nI hi) = some (bI (decide (lo ≤ x ∧ x ≤ hi))) := by
  unfold f_X6_in
  simp (discharger := omega) only [nI_ltI]
  by_cases e : x < lo
  · rw [if_pos e, bI_f (by omega)]
  · rw [if_neg e]
    by_cases e2 : hi < x
    · rw [if_pos e2, bI_f (by omega)]
    · rw [if_neg e2, bI_T (by omega)]
theorem p_within {x lo hi : Nat} (hx : x < 2 ^ 31) (hl : lo < 2 ^ 31) (hh : hi < 2 ^ 31) : f_X5_isWithin (nI x) (nI lo) (nI hi) = some (bI (decide (lo ≤ x ∧ x ≤ hi))) := p_in hx hl hh
theorem p_in_neg {x lo hi : Int32} (hx : x < 0) (hl : ¬ lo < 0) : f_X6_in x lo hi = some 0 := by
  unfold f_X6_in
  rw [if_pos]
  rw [Int32.lt_iff_toInt_lt] at *
  omega
theorem kI_n {k : Nat} (h : k ≤ 3) : (kI k = -nI 1) ↔ k = 0 := kI_m h
theorem bck_b (b : Bool) : bck (bI b) = some (bI b) := by cases b <;> rfl
section
variable {T : Nat} {Z : Nat → Nat} {m : VM} {b s : Nat}
theorem m_at (h : RZ m.2.1 Z) {k : Nat} (hk : k < 96) (h4 : k ≠ 40) : ard 96 m.2.1 (nI k) = some (nI (Z k)) := by
  rw [p_ard hk (by omega), h k hk]
  unfold zOf
  rw [if_neg h4]
theorem m_40 (h : RZ m.2.1 Z) : ard 96 m.2.1 (nI 40) = some (kI (Z 40)) := by
  rw [p_ard (by omega) (by omega), h 40 (by omega)]; rfl
theorem m_of (h : RZ m.2.1 Z) {w : Nat} (hs : s < 4) (hw : w < 9) : f_X6_of m (nI s) (nI w) = some (nI (Z (9 * s + w))) := by
  unfold f_X6_of
  rw [i9, pk_mul, nI_add, m_at h (by omega) (by omega)]; rfl
theorem m_there (W : WF T Z) (h : RZ m.2.1 Z) (hs : s < 4) : f_X6_isThere m (nI s) = some (bI (decide (Z (9 * s) = 1))) := by
  obtain ⟨w0, w1, w2, w3, w4, w5, w6, w7, w8, w9, w10, w11⟩ := W.1 s hs
  unfold f_X6_isThere
  rw [i0, m_of h hs (by omega), Option.bind_some]
  simp (discharger := omega) only [i1, nI_eq, Nat.add_zero, bo_if]
theorem m_left (W : WF T Z) (h : RZ m.2.1 Z) (hs : s < 4) : f_X6_isLeft m (nI s) = some (bI (decide (leftN Z s))) := by
  obtain ⟨w0, w1, w2, w3, w4, w5, w6, w7, w8, w9, w10, w11⟩ := W.1 s hs
  unfold f_X6_isLeft
  rw [i5, m_of h hs (by omega), Option.bind_some, i4, m_of h hs (by omega), Option.bind_some]
  simp (discharger := omega) only [i1, i0, nI_eq]
  by_cases e : Z (9 * s + 5) = 1
  · rw [if_pos e]
    by_cases e2 : Z (9 * s + 4) = 0
    · rw [if_pos e2, bI_T ⟨e, e2⟩]; rfl
    · rw [if_neg e2, bI_f (fun q => e2 q.2)]; rfl
  · rw [if_neg e, bI_f (fun q => e q.1)]; rfl
theorem m_room0 (h : RZ m.2.1 Z) : f_X6_room m (nI 0) = some (nI (roomA Z)) := by
  unfold f_X6_room
  simp only [i36, i2, i1, pk_mul, nI_add, Nat.reduceMul, Nat.reduceAdd]
  rw [m_at h (by omega) (by omega), Option.bind_some, m_at h (by omega) (by omega), Option.bind_some, nI_add]; rfl
theorem m_room1 (h : RZ m.2.1 Z) : f_X6_room m (nI 1) = some (nI (roomB Z)) := by
  unfold f_X6_room
  simp only [i36, i2, i1, pk_mul, nI_add, Nat.reduceMul, Nat.reduceAdd]
  rw [m_at h (by omega) (by omega), Option.bind_some, m_at h (by omega) (by omega), Option.bind_some, nI_add]; rfl
theorem m_les (W : WF T Z) (h : RZ m.2.1 Z) : f_X6_lesserRoom m = some (nI (lesN Z)) := by
  have := W.room
  unfold f_X6_lesserRoom lesN
  simp (discharger := omega) only [i0, i1, m_room0 h, m_room1 h, Option.bind_some, nI_ltI, sn_if]
  apply sn_eq
  split <;> omega
theorem m_blk (W : WF T Z) (h : RZ m.2.1 Z) : f_X6_blocks m = some (nI (blkN Z)) := by
  have := W.room
  unfold f_X6_blocks blkN
  rw [i40, m_40 h, Option.bind_some, Option.bind_some]
  simp (discharger := omega) only [i0, i1, i2, m_room0 h, m_room1 h, m_les W h, Option.bind_some, kI_2 W.2.1, kI_n W.2.1, nI_add, sn_if]
theorem m_wide (W : WF T Z) (h : RZ m.2.1 Z) : f_X6_wideBlocks m = some (nI (wideN Z)) := by
  unfold f_X6_wideBlocks wideN
  rw [i40, m_40 h, Option.bind_some]
  simp (discharger := omega) only [i0, i2, m_les W h, Option.bind_some, kI_0 W.2.1, pk_mul, sn_if]
theorem m_isBlk (W : WF T Z) (h : RZ m.2.1 Z) (hb : b < 2 ^ 31) : f_X6_isBlock m (nI b) = some (bI (decide (b < blkN Z))) := by
  have := W.blk
  unfold f_X6_isBlock
  rw [m_blk W h, Option.bind_some]
  by_cases e : blkN Z = 0
  · rw [e]
    unfold f_X6_in
    rw [i0, if_neg (nI_nlt (Nat.zero_le _) hb), if_pos (by rw [show nI 0 - 1 = (-1 : Int32) from rfl, Int32.lt_iff_toInt_lt, nI_toInt hb]; show (-1 : Int) < _; omega)]
    rw [bI_f (by omega)]; rfl
  · rw [i1, pk_sub (by omega), i0, p_in hb (by omega) (by omega), Option.bind_some, bck_b, Option.bind_some]
    congr 2
    simp only [Nat.zero_le, true_and, decide_eq_decide]
    omega
theorem m_isBlk_neg {x : Int32} (W : WF T Z) (h : RZ m.2.1 Z) (hx : x < 0) : f_X6_isBlock m x = some 0 := by
  unfold f_X6_isBlock
  rw [m_blk W h, Option.bind_some, p_in_neg hx (by decide)]; rfl
theorem e_mod {n : Nat} (h : n < 2 ^ 31) : nI n - nI n / nI 2 * nI 2 = nI (n % 2) := pk_rem h (by omega) (by omega)
theorem m_chan (W : WF T Z) (h : RZ m.2.1 Z) (hb : b < blkN Z) : f_X6_channelOf m (nI b) = some (nI (chN Z b)) := by
  have hr := W.room
  have hk := W.2.1
  have hbl := W.blk
  unfold f_X6_channelOf chN
  rw [i40, m_40 h, Option.bind_some, Option.bind_some]
  simp (discharger := omega) only [i0, i1, i2, m_room0 h, m_room1 h, m_les W h, m_wide W h, Option.bind_some, kI_2 W.2.1, kI_1 W.2.1, nI_ltI, e_mod, sn_if]
theorem m_ix (W : WF T Z) (h : RZ m.2.1 Z) (hb : b < blkN Z) : f_X6_inChannel m (nI b) = some (nI (ixN Z b)) := by
  have hr := W.room
  have hk := W.2.1
  have hbl := W.blk
  unfold f_X6_inChannel ixN
  rw [i40, m_40 h, Option.bind_some, Option.bind_some]
  simp (discharger := omega) only [i0, i1, i2, m_room0 h, m_room1 h, m_les W h, m_wide W h, Option.bind_some, kI_2 W.2.1, kI_1 W.2.1, nI_ltI, pk_div]
  unfold blkN at hb
  unfold wideN at *
  rcases kind_cases hk with e | e | e | e <;> simp [e] at hb ⊢
  all_goals (repeat' split)
  all_goals (try rfl)
  all_goals (first | (exfalso; omega) | (rw [pk_sub (by omega)]))
theorem m_slotIn (W : WF T Z) (h : RZ m.2.1 Z) {c i : Nat} (hc : c ≤ 1) (hi : i < 2 ^ 30) : f_X6_slotIn m (nI c) (nI i) = some (nI (slN Z c i)) := by
  have hm := W.mp
  unfold f_X6_slotIn slN
  rcases (show c = 0 ∨ c = 1 by omega) with rfl | rfl
  all_goals simp only [i36, i2, i1, pk_mul, nI_add, Nat.reduceMul, Nat.reduceAdd]
  all_goals rw [m_at h (by omega) (by omega), Option.bind_some]
  all_goals simp (discharger := omega) only [nI_ltI, sn_if]
theorem m_numIn (W : WF T Z) (h : RZ m.2.1 Z) {c i : Nat} (hc : c ≤ 1) (hi : i < 2 ^ 30) : f_X6_numberIn m (nI c) (nI i) = some (nI (nuN Z c i)) := by
  have hm := W.mp
  unfold f_X6_numberIn nuN
  rcases (show c = 0 ∨ c = 1 by omega) with rfl | rfl
  all_goals simp only [i36, i2, i1, pk_mul, nI_add, Nat.reduceMul, Nat.reduceAdd]
  all_goals rw [m_at h (by omega) (by omega), Option.bind_some, Option.bind_some]
  all_goals simp (discharger := omega) only [nI_ltI]
  all_goals split
  all_goals first | rfl | rw [pk_sub (by omega)]
theorem m_slot (W : WF T Z) (h : RZ m.2.1 Z) (hb : b < blkN Z) : f_X6_slotOf m (nI b) = some (nI (slotN Z b)) := by
  have hbl := W.blk
  have := ix_lt Z b
  unfold f_X6_slotOf
  rw [m_chan W h hb, Option.bind_some, m_ix W h hb, Option.bind_some, m_slotIn W h (ch_le Z b) (by omega)]; rfl
theorem m_num (W : WF T Z) (h : RZ m.2.1 Z) (hb : b < blkN Z) : f_X6_numberOf m (nI b) = some (nI (numN Z b)) := by
  have hbl := W.blk
  have := ix_lt Z b
  unfold f_X6_numberOf
  rw [m_chan W h hb, Option.bind_some, m_ix W h hb, Option.bind_some, m_numIn W h (ch_le Z b) (by omega)]; rfl
theorem m_slot2 (W : WF T Z) (h : RZ m.2.1 Z) (hb : b < blkN Z) : f_X6_secondSlot m (nI b) = some (if Z 40 = 3 then nI (slN Z 1 b) else -1) := by
  have := W.blk
  unfold f_X6_secondSlot
  rw [i40, m_40 h, Option.bind_some, i1, m_slotIn W h (by omega) (by omega), Option.bind_some]
  simp only [i2, kI_2 W.2.1]
  split <;> rfl
theorem m_num2 (W : WF T Z) (h : RZ m.2.1 Z) (hb : b < blkN Z) : f_X6_secondNumber m (nI b) = some (if Z 40 = 3 then nI (nuN Z 1 b) else -1) := by
  have := W.blk
  unfold f_X6_secondNumber
  rw [i40, m_40 h, Option.bind_some, i1, m_numIn W h (by omega) (by omega), Option.bind_some]
  simp only [i2, kI_2 W.2.1]
  split <;> rfl
theorem m_can (W : WF T Z) (h : RZ m.2.1 Z) (hb : b < blkN Z) : f_X6_isLeftFor m (nI b) = some (bI (decide (canN Z b))) := by
  unfold f_X6_isLeftFor
  rw [m_slot W h hb, Option.bind_some, m_left W h (slot_lt Z b), Option.bind_some, i40, m_40 h, Option.bind_some, m_slot2 W h hb, Option.bind_some]
  simp only [i2, kI_2 W.2.1]
  by_cases e : leftN Z (slotN Z b)
  · rw [if_neg (bI_t e), bI_T (Or.inl e)]
  · rw [if_pos (bI_f e)]
    by_cases e3 : Z 40 = 3
    · rw [if_pos e3, if_pos e3, m_left W h (sl_lt (by omega)), Option.bind_some]
      by_cases e4 : leftN Z (slN Z 1 b)
      · rw [if_neg (bI_t e4), bI_T (Or.inr ⟨e3, e4⟩)]
      · rw [if_pos (bI_f e4), bI_f (fun q => q.elim e (fun q => e4 q.2))]
    · rw [if_neg e3, bI_f (fun q => q.elim e (fun q => e3 q.1))]
theorem m_rs (W : WF T Z) (h : RZ m.2.1 Z) (hb : b < blkN Z) (hc : canN Z b) : f_X6_readSlot m (nI b) = some (nI (rsN Z b)) := by
  unfold f_X6_readSlot rsN
  rw [m_slot W h hb, Option.bind_some, m_left W h (slot_lt Z b), Option.bind_some, m_slot2 W h hb, Option.bind_some, Option.bind_some]
  by_cases e : leftN Z (slotN Z b)
  · rw [if_neg (bI_t e), if_pos e]
  · rw [if_pos (bI_f e), if_neg e, if_pos (hc.elim (fun q => absurd q e) (fun q => q.1))]
theorem m_rn (W : WF T Z) (h : RZ m.2.1 Z) (hb : b < blkN Z) (hc : canN Z b) : f_X6_readNumber m (nI b) = some (nI (rnN Z b)) := by
  unfold f_X6_readNumber rnN
  rw [m_slot W h hb, Option.bind_some, m_left W h (slot_lt Z b), Option.bind_some, m_num2 W h hb, Option.bind_some, m_num W h hb, Option.bind_some]
  by_cases e : leftN Z (slotN Z b)
  · rw [if_neg (bI_t e), if_pos e]
  · rw [if_pos (bI_f e), if_neg e, if_pos (hc.elim (fun q => absurd q e) (fun q => q.1))]
end
