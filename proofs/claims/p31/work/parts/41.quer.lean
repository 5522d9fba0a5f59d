theorem bI_t {c : Prop} [Decidable c] (h : c) : ¬ bI (decide c) = 0 := by rw [decide_eq_true h]; decide
theorem bI_f {c : Prop} [Decidable c] (h : ¬ c) : bI (decide c) = 0 := by rw [decide_eq_false h]; rfl
theorem bI_T {c : Prop} [Decidable c] (h : c) : bI (decide c) = 1 := by rw [decide_eq_true h]; rfl
-- ===== the sticks: class =====
section
variable {T : Nat} {Z : Nat → Nat} {ly : VLy} {sk : VSk} {ck : VCk} {st : VSt} {b s : Nat}
theorem k_plug (W : WF T Z) (h : RK sk Z) (hs : s < 4) : f_X3_isPlugged sk (nI s) = some (bI (decide (Z (9 * s) = 1))) := by
  obtain ⟨w0, w1, w2, w3, w4, w5, w6, w7, w8, w9, w10, w11⟩ := W.1 s hs
  unfold f_X3_isPlugged
  rw [p_entry hs (by omega), Option.bind_some, (h s hs).1]
  unfold gt
  by_cases e : Z (9 * s) = 1
  · rw [if_pos e, i0, if_pos (nI_lt (by omega) (by omega))]
    simp [e, bI]; rfl
  · rw [if_neg e, i0, if_neg (by decide)]
    simp [e, bI]
theorem k_mapped (W : WF T Z) (h : RK sk Z) (hs : s < 4) : f_X3_isMapped sk (nI s) = some (bI (decide (Z (9 * s + 5) = 1))) := by
  obtain ⟨w0, w1, w2, w3, w4, w5, w6, w7, w8, w9, w10, w11⟩ := W.1 s hs
  unfold f_X3_isMapped
  rw [p_slot hs, Option.bind_some, if_neg (by decide), p_ard hs (by omega), Option.bind_some, (h s hs).2.2.2.2.2]
  rcases (show Z (9 * s + 5) = 0 ∨ Z (9 * s + 5) = 1 by omega) with e | e <;> rw [e] <;> rfl
theorem k_failed (W : WF T Z) (h : RK sk Z) (hs : s < 4) : f_X3_hasFailed sk (nI s) = some (bI (decide (Z (9 * s) = 1 ∧ Z (9 * s + 4) = 1))) := by
  obtain ⟨w0, w1, w2, w3, w4, w5, w6, w7, w8, w9, w10, w11⟩ := W.1 s hs
  unfold f_X3_hasFailed
  rw [p_slot hs, Option.bind_some, if_neg (by decide), p_ard hs (by omega), Option.bind_some, (h s hs).2.2.2.2.1]
  unfold gt
  rcases (show Z (9 * s) = 0 ∨ Z (9 * s) = 1 by omega) with e | e <;> rcases (show Z (9 * s + 4) = 0 ∨ Z (9 * s + 4) = 1 by omega) with e2 | e2 <;> rw [e, e2] <;> rfl
theorem k_good (W : WF T Z) (h : RK sk Z) (hs : s < 4) : f_X3_isGood sk (nI s) = some (bI (decide (Z (9 * s) = 1 ∧ Z (9 * s + 4) = 0))) := by
  obtain ⟨w0, w1, w2, w3, w4, w5, w6, w7, w8, w9, w10, w11⟩ := W.1 s hs
  unfold f_X3_isGood
  rw [p_slot hs, Option.bind_some, if_neg (by decide), p_ard hs (by omega), Option.bind_some, (h s hs).1, p_ard hs (by omega), Option.bind_some, (h s hs).2.2.2.2.1]
  unfold gt
  rcases (show Z (9 * s) = 0 ∨ Z (9 * s) = 1 by omega) with e | e
  · rw [e]; rfl
  · rw [if_pos e, if_pos e, i0, if_pos (nI_lt (by omega) (by omega)), e]
    rcases (show Z (9 * s + 4) = 0 ∨ Z (9 * s + 4) = 1 by omega) with e2 | e2 <;> rw [e2] <;> rfl
theorem k_left (W : WF T Z) (h : RK sk Z) (hs : s < 4) : f_X3_isLeft sk (nI s) = some (bI (decide (leftN Z s))) := by
  obtain ⟨w0, w1, w2, w3, w4, w5, w6, w7, w8, w9, w10, w11⟩ := W.1 s hs
  unfold f_X3_isLeft
  rw [p_slot hs, Option.bind_some, if_neg (by decide), p_ard hs (by omega), Option.bind_some, (h s hs).2.2.2.2.2, p_ard hs (by omega), Option.bind_some, (h s hs).2.2.2.2.1]
  unfold gt leftN
  rcases (show Z (9 * s + 5) = 0 ∨ Z (9 * s + 5) = 1 by omega) with e | e
  · rw [e]; rfl
  · rw [if_pos (w6 e), e]
    rcases (show Z (9 * s + 4) = 0 ∨ Z (9 * s + 4) = 1 by omega) with e2 | e2 <;> rw [e2] <;> rfl
theorem k_left_m : f_X3_isLeft sk (-1) = some (bI false) := rfl
theorem k_gsz (W : WF T Z) (h : RK sk Z) (hs : s < 4) : f_X3_goodSizeIn sk (nI s) = some (nI (gs Z s)) := by
  unfold f_X3_goodSizeIn
  rw [k_good W h hs, Option.bind_some, p_entry hs (by omega), Option.bind_some, (h s hs).1]
  unfold gs gt
  by_cases e : Z (9 * s) = 1 ∧ Z (9 * s + 4) = 0
  · rw [if_neg (by simp [e, bI]; decide), if_pos e.1, if_pos e]
  · rw [if_pos (by simp [e, bI]; rfl), if_neg e]; rfl
theorem k_rank (h : RK sk Z) (W : WF T Z) (hs : s < 4) (hm : Z (9 * s) = 1) {n : Nat} (hn : n < 2 ^ 30) : f_X3_rankOf sk (nI s) (nI n) = some (nI (rkN Z s n)) := by
  obtain ⟨w0, w1, w2, w3, w4, w5, w6, w7, w8, w9, w10, w11⟩ := W.1 s hs
  unfold f_X3_rankOf
  rw [p_entry hs (by omega), Option.bind_some, (h s hs).2.1]
  unfold gt rkN
  rw [if_pos hm]
  simp (discharger := omega) only [i0, i1, i2, nI_eq, e_and, sn_if]
-- ===== the layout, a block's second place =====
theorem sl_lt {c i : Nat} (hc : c ≤ 1) : slN Z c i < 4 := by unfold slN; split <;> omega
theorem l_slot2 (W : WF T Z) (h : RLy ly Z) (hb : b < blkN Z) : f_X1_slotAgainOf ly (nI b) = some (if Z 40 = 3 then nI (slN Z 1 b) else -1) := by
  have := W.blk
  unfold f_X1_slotAgainOf
  rw [l_mir W.2.1 h, Option.bind_some, i1, l_slotAt W h (by omega) (by omega), Option.bind_some]
  by_cases e : Z 40 = 3
  · rw [if_neg (by simp [e, bI]; decide), if_pos e]
  · rw [if_pos (by simp [e, bI]; rfl), if_neg e]
theorem l_num2 (W : WF T Z) (h : RLy ly Z) (hb : b < blkN Z) : f_X1_numberAgainOf ly (nI b) = some (if Z 40 = 3 then nI (nuN Z 1 b) else -1) := by
  have := W.blk
  unfold f_X1_numberAgainOf
  rw [l_mir W.2.1 h, Option.bind_some, i1, l_numAt W h (by omega) (by omega), Option.bind_some]
  by_cases e : Z 40 = 3
  · rw [if_neg (by simp [e, bI]; decide), if_pos e]
  · rw [if_pos (by simp [e, bI]; rfl), if_neg e]
theorem s_has (W : WF T Z) (h : RS st Z) (hb : b < 2 ^ 31) : f_X2_hasBlock st (nI b) = some (bI (decide (b < blkN Z))) := by
  have := W.blk
  unfold f_X2_hasBlock
  rw [h.2.1.2.2.2.2.2.1]
  simp (discharger := omega) only [i0, i1, nI_ltI, Nat.not_lt_zero, if_false, bo_if]
theorem slot_lt (Z : Nat → Nat) (b : Nat) : slotN Z b < 4 := sl_lt (ch_le _ _)
theorem s_rs (W : WF T Z) (h : RS st Z) (hb : b < blkN Z) : f_X2_readSlotOf st (nI b) = some (if canN Z b then nI (rsN Z b) else -1) := by
  unfold f_X2_readSlotOf
  rw [l_slot W h.2.1 hb, Option.bind_some, k_left W h.1 (slot_lt Z b), Option.bind_some, l_slot2 W h.2.1 hb]
  unfold canN rsN
  by_cases e : leftN Z (slotN Z b)
  · rw [if_neg (bI_t e), if_pos (Or.inl e), if_pos e]
  · rw [if_pos (bI_f e), if_neg e, Option.bind_some]
    by_cases e3 : Z 40 = 3
    · rw [if_pos e3, k_left W h.1 (sl_lt (by omega)), Option.bind_some]
      by_cases e4 : leftN Z (slN Z 1 b)
      · rw [if_neg (bI_t e4), if_pos (Or.inr ⟨e3, e4⟩)]
      · rw [if_pos (bI_f e4), if_neg (fun q => q.elim e (fun q => e4 q.2))]
    · rw [if_neg e3, k_left_m, Option.bind_some, if_pos (by decide), if_neg (fun q => q.elim e (fun q => e3 q.1))]
theorem rs_lt (Z : Nat → Nat) (b : Nat) : rsN Z b < 4 := by unfold rsN; split <;> exact sl_lt (by first | omega | exact ch_le _ _)
theorem nI_m1 {n : Nat} (h : n < 4) : ¬ nI n = -1 := by rcases slot_cases h with rfl | rfl | rfl | rfl <;> decide
theorem s_can (W : WF T Z) (h : RS st Z) (hb : b < 2 ^ 31) : f_X2_canRead st (nI b) = some (bI (decide (b < blkN Z ∧ canN Z b))) := by
  unfold f_X2_canRead
  rw [s_has W h hb, Option.bind_some]
  by_cases e : b < blkN Z
  · rw [if_neg (bI_t e), s_rs W h e, Option.bind_some]
    by_cases e2 : canN Z b
    · rw [if_pos e2, if_neg (nI_m1 (rs_lt Z b))]
      rw [bI_T ⟨e, e2⟩]
    · rw [if_neg e2, if_pos rfl, bI_f (fun q => e2 q.2)]
  · rw [if_pos (bI_f e), bI_f (fun q => e q.1)]
end
