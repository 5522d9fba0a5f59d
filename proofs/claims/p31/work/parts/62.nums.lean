-- ===== slot, where, count =====
def snI (Z : Nat → Nat) (s j : Nat) : Int32 := if Z (9 * s) = 1 then (if j = 5 then nI (Z (9 * s + 6)) else if j = 6 then (if Z (9 * s + 2) = 2 then nI (Z (9 * s + 7)) else mI) else if j = 7 then nI (Z (9 * s + 8)) else nI (Z (9 * s + 1 + j))) else mI
def bnI (Z : Nat → Nat) (b j : Nat) : Int32 :=
  if j = 0 then nI (slotN Z b) else if j = 1 then nI (numN Z b) else if j = 2 then (if Z (9 * slotN Z b + 5) = 1 then nI (rkN Z (slotN Z b) (numN Z b)) else mI) else if j = 3 then (if Z 40 = 3 then nI 2 else if b < wideN Z then nI 1 else nI 0) else if j = 4 then (if Z 40 = 3 then nI (slN Z 1 b) else mI) else if j = 5 then (if Z 40 = 3 then nI (nuN Z 1 b) else mI) else bI (decide (canN Z b))
def lostN (Z : Nat → Nat) : Nat → Nat
  | 0 => 0
  | k + 1 => lostN Z k + (if canN Z k then 0 else 1)
def sumV (Z : Nat → Nat) : Nat → Nat
  | 0 => 0
  | k + 1 => sumV Z k + (if canN Z k then Z (48 + 12 * slotN Z k + numN Z k) else 0)
theorem lostN_s (Z : Nat → Nat) (k : Nat) : lostN Z (k + 1) = lostN Z k + (if canN Z k then 0 else 1) := rfl
theorem sumV_s (Z : Nat → Nat) (k : Nat) : sumV Z (k + 1) = sumV Z k + (if canN Z k then Z (48 + 12 * slotN Z k + numN Z k) else 0) := rfl
def cnI (Z : Nat → Nat) (n j : Nat) : Int32 :=
  if j = 0 then nI (onesN Z) else if j = 1 then nI (badsN Z) else if j = 2 then nI (blkN Z) else if j = 3 then nI (wideN Z) else if j = 4 then nI (Z 41) else if j = 5 then nI (Z 42) else if j = 6 then nI (Z 43) else if j = 7 then nI (Z 44) else if j = 8 then nI (lostN Z (blkN Z)) else if j = 9 then nI (Z 45) else if j = 10 then nI (sumV Z (blkN Z)) else nI n
theorem ite_nI {j k : Nat} (hj : j < 2 ^ 31) (hk : k < 2 ^ 31) {α : Type} (A B : α) : (if nI j = nI k then A else B) = if j = k then A else B := by
  by_cases e : j = k
  · rw [if_pos e, if_pos (by rw [e])]
  · rw [if_neg e, if_neg (fun q => e ((nI_eq hj hk).mp q))]
theorem bI_if (b : Bool) : (if bI b = 0 then some (0 : Int32) else some 1) = some (bI b) := by cases b <;> rfl
section
variable {T : Nat} {Z : Nat → Nat} {ly : VLy} {sk : VSk} {ck : VCk} {st : VSt} {b s : Nat}
theorem s_slotNo (W : WF T Z) (h : RS st Z) (hs : s < 4) {j : Nat} (hj : j ≤ 7) : f_X2_slotNumber st (nI s) (nI j) = some (snI Z s j) := by
  obtain ⟨w0, w1, w2, w3, w4, w5, w6, w7, w8, w9, w10, w11⟩ := W.1 s hs
  obtain ⟨hk, hl, hc, hv, hi⟩ := h
  obtain ⟨k1, k2, k3, k4, k5, k6⟩ := hk s hs
  unfold f_X2_slotNumber snI
  rw [k_plug W hk hs, Option.bind_some]
  by_cases e : ¬ Z (9 * s) = 1
  · rw [if_pos (bI_f e), if_neg e]; rfl
  replace e := Decidable.not_not.mp e
  rw [if_neg (bI_t e), if_pos e]
  have g : ∀ w, gt Z s w = Z (9 * s + w) := fun w => if_pos e
  rw [g] at k1 k2 k3 k4 k5
  have hz : f_X3_sizeIn st.1 (nI s) = some (nI (Z (9 * s + 1))) := by unfold f_X3_sizeIn; rw [p_entry hs (by omega), Option.bind_some, k1]
  have hr : f_X3_ranksIn st.1 (nI s) = some (nI (Z (9 * s + 2))) := by unfold f_X3_ranksIn; rw [p_entry hs (by omega), Option.bind_some, k2]
  have hd : f_X3_delayIn st.1 (nI s) = some (nI (Z (9 * s + 3))) := by unfold f_X3_delayIn; rw [p_entry hs (by omega), Option.bind_some, k3]
  have hn : f_X3_readsIn st.1 (nI s) = some (nI (Z (9 * s + 8))) := by unfold f_X3_readsIn; rw [p_entry hs (by omega), Option.bind_some, k4]
  have hf : f_X3_hasFailed st.1 (nI s) = some (nI (Z (9 * s + 4))) := by
    rw [k_failed W hk hs]
    rcases (show Z (9 * s + 4) = 0 ∨ Z (9 * s + 4) = 1 by omega) with e2 | e2 <;> rw [e, e2] <;> rfl
  have hm : f_X3_isMapped st.1 (nI s) = some (nI (Z (9 * s + 5))) := by
    rw [k_mapped W hk hs]
    rcases (show Z (9 * s + 5) = 0 ∨ Z (9 * s + 5) = 1 by omega) with e2 | e2 <;> rw [e2] <;> rfl
  have hf0 : f_X0_freeFrom st.2.2.1 (nI s) (nI 0) = some (nI (Z (9 * s + 6))) := by
    unfold f_X0_freeFrom
    rw [i2, pk_mul, nI_add, Nat.add_zero, p_entry (by omega) (by omega), Option.bind_some, (hc.1 s hs).1]
  have hf1 : f_X0_freeFrom st.2.2.1 (nI s) (nI 1) = some (nI (Z (9 * s + 7))) := by
    unfold f_X0_freeFrom
    rw [i2, pk_mul, nI_add, p_entry (by omega) (by omega), Option.bind_some, (hc.1 s hs).2]
  have h01 : ∀ x, x ≤ 1 → (if x = 0 then some (nI 0) else some (nI 1)) = some (nI x) := fun x hx => by
    rcases (show x = 0 ∨ x = 1 by omega) with rfl | rfl <;> rfl
  rcases (show j = 0 ∨ j = 1 ∨ j = 2 ∨ j = 3 ∨ j = 4 ∨ j = 5 ∨ j = 6 ∨ j = 7 by omega) with rfl | rfl | rfl | rfl | rfl | rfl | rfl | rfl
  all_goals simp (discharger := omega) only [i0, i1, i2, i3, i4, i5, i6, nI_eq, Nat.reduceEqDiff, if_true, if_false, hz, hr, hd, hn, hf, hm, hf0, hf1, Option.bind_some, Nat.add_assoc, Nat.reduceAdd, h01]
  split <;> rfl
theorem s_blkNo (W : WF T Z) (h : RS st Z) (hb : b < blkN Z) {j : Nat} (hj : j ≤ 6) : f_X2_blockNumber st (nI b) (nI j) = some (bnI Z b j) := by
  have hbl := W.blk
  have hn := num_lt W hb
  obtain ⟨hk, hl, hc, hv, hi⟩ := h
  unfold f_X2_blockNumber bnI
  have hr : f_X2_rankOrNone st (nI (slotN Z b)) (nI (numN Z b)) = some (if Z (9 * slotN Z b + 5) = 1 then nI (rkN Z (slotN Z b) (numN Z b)) else mI) := by
    obtain ⟨w0, w1, w2, w3, w4, w5, w6, w7, w8, w9, w10, w11⟩ := W.1 _ (slot_lt Z b)
    unfold f_X2_rankOrNone
    rw [k_mapped W hk (slot_lt Z b), Option.bind_some]
    by_cases e : Z (9 * slotN Z b + 5) = 1
    · rw [if_neg (bI_t e), if_pos e, k_rank hk W (slot_lt Z b) (w6 e) (by omega), Option.bind_some]
    · rw [if_pos (bI_f e), if_neg e]; rfl
  have hc2 := s_can W ⟨hk, hl, hc, hv, hi⟩ (b := b) (by omega)
  have hw : f_X1_isWide st.2.1 (nI b) = some (bI (decide (b < wideN Z))) := by
    unfold f_X1_isWide
    rw [hl.2.2.2.2.2.2]
    simp (discharger := omega) only [nI_ltI, i0, i1, bo_if]
  have hcc : (decide (b < blkN Z ∧ canN Z b)) = decide (canN Z b) := by simp [hb]
  rw [hcc] at hc2
  rcases (show j = 0 ∨ j = 1 ∨ j = 2 ∨ j = 3 ∨ j = 4 ∨ j = 5 ∨ j = 6 by omega) with rfl | rfl | rfl | rfl | rfl | rfl | rfl
  all_goals rw [i0, i1, i2, i3, i4, i5]
  all_goals simp (discharger := omega) only [nI_eq, Nat.reduceEqDiff, if_true, if_false]
  · rw [l_slot W hl hb, Option.bind_some]
  · rw [l_num W hl hb, Option.bind_some]
  · rw [l_slot W hl hb, Option.bind_some, l_num W hl hb, Option.bind_some, hr, Option.bind_some]
  · rw [l_mir W.2.1 hl, Option.bind_some, hw, Option.bind_some]
    by_cases e : Z 40 = 3
    · rw [if_neg (bI_tn e), if_pos e]
    · rw [if_pos (bI_fn e), if_neg e]
      by_cases e2 : b < wideN Z
      · rw [if_neg (bI_tn e2), if_pos e2]
      · rw [if_pos (bI_fn e2), if_neg e2]
  · rw [l_slot2 W hl hb, Option.bind_some]; rfl
  · rw [l_num2 W hl hb, Option.bind_some]; rfl
  · rw [hc2, Option.bind_some]; exact bI_if _
theorem s_lostL (W : WF T Z) (h : RS st Z) : ∀ (d j n : Nat), j + d = blkN Z → d < n → l_X2_lostBlocks_4 st n (nI (lostN Z j)) (nI j) = some (nI (lostN Z (blkN Z))) := by
  have hbl := W.blk
  intro d
  induction d with
  | zero =>
    intro j n hj hn
    obtain ⟨n, rfl⟩ := Nat.exists_eq_succ_of_ne_zero (show n ≠ 0 by omega)
    unfold l_X2_lostBlocks_4
    rw [h.2.1.2.2.2.2.2.1, if_neg (nI_nlt (by omega) (by omega)), show j = blkN Z by omega]
  | succ d ih =>
    intro j n hj hn
    obtain ⟨n, rfl⟩ := Nat.exists_eq_succ_of_ne_zero (show n ≠ 0 by omega)
    unfold l_X2_lostBlocks_4
    rw [h.2.1.2.2.2.2.2.1, if_pos (nI_lt (by omega) (by omega)), s_can W h (by omega), Option.bind_some]
    have := ih (j + 1) n (by omega) (by omega)
    rw [lostN_s] at this
    rw [i0, i1, nI_add, nI_add, nI_add]
    by_cases e : canN Z j
    · rw [if_neg (bI_tn ⟨by omega, e⟩)]
      rw [if_pos e] at this; exact this
    · rw [if_pos (bI_fn (fun q => e q.2))]
      rw [if_neg e] at this; exact this
theorem s_lost (W : WF T Z) (h : RS st Z) : f_X2_lostBlocks st = some (nI (lostN Z (blkN Z))) := s_lostL W h (blkN Z) 0 FU (by omega) (by have := W.blk; have : FU = 1000 := rfl; omega)
theorem s_sumL (W : WF T Z) (h : RS st Z) : ∀ (d j n : Nat), j + d = blkN Z → d < n → l_X2_sumOfValues_4 st n (nI (sumV Z j)) (nI j) = some (nI (sumV Z (blkN Z))) := by
  have hbl := W.blk
  intro d
  induction d with
  | zero =>
    intro j n hj hn
    obtain ⟨n, rfl⟩ := Nat.exists_eq_succ_of_ne_zero (show n ≠ 0 by omega)
    unfold l_X2_sumOfValues_4
    rw [h.2.1.2.2.2.2.2.1, if_neg (nI_nlt (by omega) (by omega)), show j = blkN Z by omega]
  | succ d ih =>
    intro j n hj hn
    obtain ⟨n, rfl⟩ := Nat.exists_eq_succ_of_ne_zero (show n ≠ 0 by omega)
    unfold l_X2_sumOfValues_4
    rw [h.2.1.2.2.2.2.2.1, if_pos (nI_lt (by omega) (by omega)), s_can W h (by omega), Option.bind_some, s_held W h (by omega), Option.bind_some]
    have := ih (j + 1) n (by omega) (by omega)
    rw [sumV_s] at this
    rw [i0, i1, nI_add, nI_add, nI_add]
    by_cases e : canN Z j
    · rw [if_neg (bI_tn ⟨by omega, e⟩)]
      rw [if_pos e] at this; exact this
    · rw [if_pos (bI_fn (fun q => e q.2))]
      rw [if_neg e] at this; exact this
theorem s_sum (W : WF T Z) (h : RS st Z) : f_X2_sumOfValues st = some (nI (sumV Z (blkN Z))) := s_sumL W h (blkN Z) 0 FU (by omega) (by have := W.blk; have : FU = 1000 := rfl; omega)
theorem c_count {c : VC} {n : Nat} (W : WF T Z) (h : RS (gSt c 0) Z) (hn : c.2.2.2.2.2.2.2.1 = nI n) {j : Nat} (hj : j ≤ 11) : f_X5_countOf c (nI j) = some (cnI Z n j) := by
  obtain ⟨hk, hl, hc, hv, hi⟩ := h
  have h1 := k_plugs W (sk := c.1 0) hk
  have h2 := k_fails W (sk := c.1 0) hk
  have h3 := s_lost W ⟨hk, hl, hc, hv, hi⟩
  have h4 := s_sum W ⟨hk, hl, hc, hv, hi⟩
  have l1 : (c.2.1 0).2.2.2.2.2.1 = nI (blkN Z) := hl.2.2.2.2.2.1
  have l2 : (c.2.1 0).2.2.2.2.2.2 = nI (wideN Z) := hl.2.2.2.2.2.2
  have l3 : (c.2.2.1 0).2.1 = nI (Z 41) := hc.2.1
  have l4 : (c.2.2.1 0).2.2 = nI (Z 44) := hc.2.2
  have l5 : (c.2.2.2.2.1 0).2.2.1 = nI (Z 42) := hi.2.2.1
  have l6 : (c.2.2.2.2.1 0).2.2.2.1 = nI (Z 43) := hi.2.2.2.1
  have l7 : (c.2.2.2.2.1 0).2.2.2.2 = nI (Z 45) := hi.2.2.2.2
  unfold f_X5_countOf cnI
  rw [h1, h2, h3, h4, l1, l2, l3, l4, l5, l6, l7, hn, Option.bind_some, Option.bind_some, Option.bind_some, Option.bind_some]
  rw [i0, i1, i2, i3, i4, i5, i6, i7, i8, i9, show (10 : Int32) = nI 10 from rfl]
  rw [ite_nI (by omega) (by omega), ite_nI (by omega) (by omega), ite_nI (by omega) (by omega), ite_nI (by omega) (by omega), ite_nI (by omega) (by omega), ite_nI (by omega) (by omega), ite_nI (by omega) (by omega), ite_nI (by omega) (by omega), ite_nI (by omega) (by omega), ite_nI (by omega) (by omega), ite_nI (by omega) (by omega)]
  by_cases h20 : j = 0
  · rw [if_pos h20, if_pos h20]
  rw [if_neg h20, if_neg h20]
  by_cases h21 : j = 1
  · rw [if_pos h21, if_pos h21]
  rw [if_neg h21, if_neg h21]
  by_cases h22 : j = 2
  · rw [if_pos h22, if_pos h22]
  rw [if_neg h22, if_neg h22]
  by_cases h23 : j = 3
  · rw [if_pos h23, if_pos h23]
  rw [if_neg h23, if_neg h23]
  by_cases h24 : j = 4
  · rw [if_pos h24, if_pos h24]
  rw [if_neg h24, if_neg h24]
  by_cases h25 : j = 5
  · rw [if_pos h25, if_pos h25]
  rw [if_neg h25, if_neg h25]
  by_cases h26 : j = 6
  · rw [if_pos h26, if_pos h26]
  rw [if_neg h26, if_neg h26]
  by_cases h27 : j = 7
  · rw [if_pos h27, if_pos h27]
  rw [if_neg h27, if_neg h27]
  by_cases h28 : j = 8
  · rw [if_pos h28, if_pos h28]
  rw [if_neg h28, if_neg h28]
  by_cases h29 : j = 9
  · rw [if_pos h29, if_pos h29]
  rw [if_neg h29, if_neg h29]
  by_cases h30 : j = 10
  · rw [if_pos h30, if_pos h30]
  rw [if_neg h30, if_neg h30]
end
