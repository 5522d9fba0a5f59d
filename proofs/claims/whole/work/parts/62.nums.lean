-- ===== slot, where, count =====
def snI (Z : Nat → Nat) (s j : Nat) : Int32 := if Z (9 * s) = 1 then (if j = 5 then nI (Z (9 * s + 6)) else if j = 6 then (if Z (9 * s + 2) = 2 then nI (Z (9 * s + 7)) else mI) else if j = 7 then nI (Z (9 * s + 8)) else nI (Z (9 * s + 1 + j))) else mI
def bnI (Z : Nat → Nat) (b j : Nat) : Int32 :=
  if j = 0 then nI (slotN Z b) else if j = 1 then nI (numN Z b) else if j = 2 then (if Z (9 * slotN Z b + 5) = 1 then nI (rkN Z (slotN Z b) (numN Z b)) else mI) else if j = 3 then (if Z 40 = 3 then nI 2 else if b < wideN Z then nI 1 else nI 0) else if j = 4 then (if Z 40 = 3 then nI (slN Z 1 b) else mI) else if j = 5 then (if Z 40 = 3 then nI (nuN Z 1 b) else mI) else bI (decide (canN Z b))
def lostN (Z : Nat → Nat) : Nat → Nat
  | 0 => 0
  | k + 1 => lostN Z k + (if canN Z k then 0 else 1)
def sumV (Z : Nat → Nat) : Nat → Nat
  | 0 => 0
  | k + 1 => sumV Z k + (if canN Z k then Z (48 + 12 * slotN Z k + numN Z k) else 0)
theorem lostN_s (Z : Nat → Nat) (k : Nat) : lostN Z (k + 1) = lostN Z k + (if canN Z k then 0 else 1) := rfl
theorem sumV_s (Z : Nat → Nat) (k : Nat) : sumV Z (k + 1) = sumV Z k + (if canN Z k then Z (48 + 12 * slotN Z k + numN Z k) else 0) := rfl
def cnI (Z : Nat → Nat) (n j : Nat) : Int32 :=
  if j = 0 then nI (onesN Z) else if j = 1 then nI (badsN Z) else if j = 2 then nI (blkN Z) else if j = 3 then nI (wideN Z) else if j = 4 then nI (Z 41) else if j = 5 then nI (Z 42) else if j = 6 then nI (Z 43) else if j = 7 then nI (Z 44) else if j = 8 then nI (lostN Z (blkN Z)) else if j = 9 then nI (Z 45) else if j = 10 then nI (sumV Z (blkN Z)) else nI n
theorem ite_nI {j k : Nat} (hj : j < 2 ^ 31) (hk : k < 2 ^ 31) {α : Type} (A B : α) : (if nI j = nI k then A else B) = if j = k then A else B := by
  by_cases e : j = k
  · rw [if_pos e, if_pos (by rw [e])]
  · rw [if_neg e, if_neg (fun q => e ((nI_eq hj hk).mp q))]
theorem bI_if (b : Bool) : (if bI b = 0 then some (0 : Int32) else some 1) = some (bI b) := by cases b <;> rfl
section
variable {T : Nat} {Z : Nat → Nat} {ly : VLy} {sk : VSk} {ck : VCk} {st : VSt} {m : VM} {b s : Nat}
theorem s_slotNo (W : WF T Z) (h : RS st Z) (hs : s < 4) {j : Nat} (hj : j ≤ 7) : f_X2_slotNumber st (nI s) (nI j) = some (snI Z s j) := by
  obtain ⟨w0, w1, w2, w3, w4, w5, w6, w7, w8, w9, w10, w11⟩ := W.1 s hs
  obtain ⟨hk, hl, hc, hv, hi⟩ := h
  obtain ⟨k1, k2, k3, k4, k5, k6⟩ := hk s hs
  unfold f_X2_slotNumber snI
  rw [k_plug W hk hs, Option.bind_some]
  by_cases e : ¬ Z (9 * s) = 1
  · rw [if_pos (bI_f e), if_neg e]; rfl
  replace e := Decidable.not_not.mp e
  rw [if_neg (bI_t e), if_pos e]
  have g : ∀ w, gt Z s w = Z (9 * s + w) := fun w => if_pos e
  rw [g] at k1 k2 k3 k4 k5
  have hz : f_X3_sizeIn st.1 (nI s) = some (nI (Z (9 * s + 1))) := by unfold f_X3_sizeIn; rw [p_entry hs (by omega), Option.bind_some, k1]
  have hr : f_X3_ranksIn st.1 (nI s) = some (nI (Z (9 * s + 2))) := by unfold f_X3_ranksIn; rw [p_entry hs (by omega), Option.bind_some, k2]
  have hd : f_X3_delayIn st.1 (nI s) = some (nI (Z (9 * s + 3))) := by unfold f_X3_delayIn; rw [p_entry hs (by omega), Option.bind_some, k3]
  have hn : f_X3_readsIn st.1 (nI s) = some (nI (Z (9 * s + 8))) := by unfold f_X3_readsIn; rw [p_entry hs (by omega), Option.bind_some, k4]
  have hf : f_X3_hasFailed st.1 (nI s) = some (nI (Z (9 * s + 4))) := by
    rw [k_failed W hk hs]
    rcases (show Z (9 * s + 4) = 0 ∨ Z (9 * s + 4) = 1 by omega) with e2 | e2 <;> rw [e, e2] <;> rfl
  have hm : f_X3_isMapped st.1 (nI s) = some (nI (Z (9 * s + 5))) := by
    rw [k_mapped W hk hs]
    rcases (show Z (9 * s + 5) = 0 ∨ Z (9 * s + 5) = 1 by omega) with e2 | e2 <;> rw [e2] <;> rfl
  have hf0 : f_X0_freeFrom st.2.2.1 (nI s) (nI 0) = some (nI (Z (9 * s + 6))) := by
    unfold f_X0_freeFrom
    rw [i2, pk_mul, nI_add, Nat.add_zero, p_entry (by omega) (by omega), Option.bind_some, (hc.1 s hs).1]
  have hf1 : f_X0_freeFrom st.2.2.1 (nI s) (nI 1) = some (nI (Z (9 * s + 7))) := by
    unfold f_X0_freeFrom
    rw [i2, pk_mul, nI_add, p_entry (by omega) (by omega), Option.bind_some, (hc.1 s hs).2]
  have h01 : ∀ x, x ≤ 1 → (if x = 0 then some (nI 0) else some (nI 1)) = some (nI x) := fun x hx => by
    rcases (show x = 0 ∨ x = 1 by omega) with rfl | rfl <;> rfl
  rcases (show j = 0 ∨ j = 1 ∨ j = 2 ∨ j = 3 ∨ j = 4 ∨ j = 5 ∨ j = 6 ∨ j = 7 by omega) with rfl | rfl | rfl | rfl | rfl | rfl | rfl | rfl
  all_goals simp (discharger := omega) only [i0, i1, i2, i3, i4, i5, i6, nI_eq, Nat.reduceEqDiff, if_true, if_false, hz, hr, hd, hn, hf, hm, hf0, hf1, Option.bind_some, Nat.add_assoc, Nat.reduceAdd, h01]
  split <;> rfl
theorem m_slotNo (W : WF T Z) (h : RZ m.2.1 Z) (hs : s < 4) {j : Nat} (hj : j ≤ 7) : f_X6_slotNow m (nI s) (nI j) = some (snI Z s j) := by
  obtain ⟨w0, w1, w2, w3, w4, w5, w6, w7, w8, w9, w10, w11⟩ := W.1 s hs
  unfold f_X6_slotNow snI
  rw [m_there W h hs, Option.bind_some]
  by_cases e : ¬ Z (9 * s) = 1
  · rw [if_pos (bI_f e), if_neg e]; rfl
  replace e := Decidable.not_not.mp e
  rw [if_neg (bI_t e), if_pos e, i1, nI_add]
  simp (discharger := omega) only [i5, i6, i7, i2, nI_eq]
  by_cases h5 : j = 5
  · rw [if_pos h5, if_pos h5, m_of h hs (by omega), Option.bind_some]
  rw [if_neg h5, if_neg h5]
  by_cases h6 : j = 6
  · rw [if_pos h6, if_pos h6, m_of h hs (by omega), Option.bind_some, m_of h hs (by omega)]
    simp (discharger := omega) only [nI_eq, Option.bind_some]
    split <;> rfl
  rw [if_neg h6, if_neg h6]
  by_cases h7 : j = 7
  · rw [if_pos h7, if_pos h7, i8, m_of h hs (by omega), Option.bind_some]
  rw [if_neg h7, if_neg h7, m_of h hs (by omega), Option.bind_some, ← Nat.add_assoc]
theorem m_rank (W : WF T Z) (h : RZ m.2.1 Z) (hs : s < 4) {n : Nat} (hn : n < 2 ^ 30) : f_X6_rankOf m (nI s) (nI n) = some (nI (rkN Z s n)) := by
  obtain ⟨w0, w1, w2, w3, w4, w5, w6, w7, w8, w9, w10, w11⟩ := W.1 s hs
  unfold f_X6_rankOf rkN
  rw [i2, m_of h hs (by omega), Option.bind_some, e_mod (by omega), i0]
  simp (discharger := omega) only [nI_eq, sn_if]
theorem s_blkNo (W : WF T Z) (h : RS st Z) (hb : b < blkN Z) {j : Nat} (hj : j ≤ 6) : f_X2_blockNumber st (nI b) (nI j) = some (bnI Z b j) := by
  have hbl := W.blk
  have hn := num_lt W hb
  obtain ⟨hk, hl, hc, hv, hi⟩ := h
  unfold f_X2_blockNumber bnI
  have hr : f_X2_rankOrNone st (nI (slotN Z b)) (nI (numN Z b)) = some (if Z (9 * slotN Z b + 5) = 1 then nI (rkN Z (slotN Z b) (numN Z b)) else mI) := by
    obtain ⟨w0, w1, w2, w3, w4, w5, w6, w7, w8, w9, w10, w11⟩ := W.1 _ (slot_lt Z b)
    unfold f_X2_rankOrNone
    rw [k_mapped W hk (slot_lt Z b), Option.bind_some]
    by_cases e : Z (9 * slotN Z b + 5) = 1
    · rw [if_neg (bI_t e), if_pos e, k_rank hk W (slot_lt Z b) (w6 e) (by omega), Option.bind_some]
    · rw [if_pos (bI_f e), if_neg e]; rfl
  have hc2 := s_can W ⟨hk, hl, hc, hv, hi⟩ (b := b) (by omega)
  have hw : f_X1_isWide st.2.1 (nI b) = some (bI (decide (b < wideN Z))) := by
    unfold f_X1_isWide
    rw [hl.2.2.2.2.2.2]
    simp (discharger := omega) only [nI_ltI, i0, i1, bo_if]
  have hcc : (decide (b < blkN Z ∧ canN Z b)) = decide (canN Z b) := by simp [hb]
  rw [hcc] at hc2
  rcases (show j = 0 ∨ j = 1 ∨ j = 2 ∨ j = 3 ∨ j = 4 ∨ j = 5 ∨ j = 6 by omega) with rfl | rfl | rfl | rfl | rfl | rfl | rfl
  all_goals rw [i0, i1, i2, i3, i4, i5]
  all_goals simp (discharger := omega) only [nI_eq, Nat.reduceEqDiff, if_true, if_false]
  · rw [l_slot W hl hb, Option.bind_some]
  · rw [l_num W hl hb, Option.bind_some]
  · rw [l_slot W hl hb, Option.bind_some, l_num W hl hb, Option.bind_some, hr, Option.bind_some]
  · rw [l_mir W.2.1 hl, Option.bind_some, hw, Option.bind_some]
    by_cases e : Z 40 = 3
    · rw [if_neg (bI_tn e), if_pos e]
    · rw [if_pos (bI_fn e), if_neg e]
      by_cases e2 : b < wideN Z
      · rw [if_neg (bI_tn e2), if_pos e2]
      · rw [if_pos (bI_fn e2), if_neg e2]
  · rw [l_slot2 W hl hb, Option.bind_some]; rfl
  · rw [l_num2 W hl hb, Option.bind_some]; rfl
  · rw [hc2, Option.bind_some]; exact bI_if _
theorem m_blkNo (W : WF T Z) (h : RZ m.2.1 Z) (hb : b < blkN Z) {j : Nat} (hj : j ≤ 6) : f_X6_whereNow m (nI b) (nI j) = some (bnI Z b j) := by
  have hbl := W.blk
  have hn := num_lt W hb
  obtain ⟨w0, w1, w2, w3, w4, w5, w6, w7, w8, w9, w10, w11⟩ := W.1 _ (slot_lt Z b)
  unfold f_X6_whereNow bnI
  rw [m_slot W h hb, Option.bind_some]
  rcases (show j = 0 ∨ j = 1 ∨ j = 2 ∨ j = 3 ∨ j = 4 ∨ j = 5 ∨ j = 6 by omega) with rfl | rfl | rfl | rfl | rfl | rfl | rfl
  all_goals rw [i0, i1, i2, i3, i4, i5]
  all_goals simp (discharger := omega) only [nI_eq, Nat.reduceEqDiff, if_true, if_false]
  · rw [m_num W h hb, Option.bind_some]
  · rw [m_of h (slot_lt Z b) (by omega), Option.bind_some, m_num W h hb, Option.bind_some, m_rank W h (slot_lt Z b) (by omega), Option.bind_some]
    simp (discharger := omega) only [nI_eq]
    split <;> rfl
  · rw [i40, m_40 h, Option.bind_some, m_wide W h, Option.bind_some]
    simp (discharger := omega) only [kI_2 W.2.1, nI_ltI]
    split
    · rfl
    · split <;> rfl
  · rw [m_slot2 W h hb, Option.bind_some]; rfl
  · rw [m_num2 W h hb, Option.bind_some]; rfl
  · rw [m_can W h hb, Option.bind_some]; exact bI_if _
theorem s_lostL (W : WF T Z) (h : RS st Z) : ∀ (d j n : Nat), j + d = blkN Z → d < n → l_X2_lostBlocks_4 st n (nI (lostN Z j)) (nI j) = some (nI (lostN Z (blkN Z))) := by
  have hbl := W.blk
  intro d
  induction d with
  | zero =>
    intro j n hj hn
    obtain ⟨n, rfl⟩ := Nat.exists_eq_succ_of_ne_zero (show n ≠ 0 by omega)
    unfold l_X2_lostBlocks_4
    rw [h.2.1.2.2.2.2.2.1, if_neg (nI_nlt (by omega) (by omega)), show j = blkN Z by omega]
  | succ d ih =>
    intro j n hj hn
    obtain ⟨n, rfl⟩ := Nat.exists_eq_succ_of_ne_zero (show n ≠ 0 by omega)
    unfold l_X2_lostBlocks_4
    rw [h.2.1.2.2.2.2.2.1, if_pos (nI_lt (by omega) (by omega)), s_can W h (by omega), Option.bind_some]
    have := ih (j + 1) n (by omega) (by omega)
    rw [lostN_s] at this
    rw [i0, i1, nI_add, nI_add, nI_add]
    by_cases e : canN Z j
    · rw [if_neg (bI_tn ⟨by omega, e⟩)]
      rw [if_pos e] at this; exact this
    · rw [if_pos (bI_fn (fun q => e q.2))]
      rw [if_neg e] at this; exact this
theorem s_lost (W : WF T Z) (h : RS st Z) : f_X2_lostBlocks st = some (nI (lostN Z (blkN Z))) := s_lostL W h (blkN Z) 0 FU (by omega) (by have := W.blk; have : FU = 1000 := rfl; omega)
theorem s_sumL (W : WF T Z) (h : RS st Z) : ∀ (d j n : Nat), j + d = blkN Z → d < n → l_X2_sumOfValues_4 st n (nI (sumV Z j)) (nI j) = some (nI (sumV Z (blkN Z))) := by
  have hbl := W.blk
  intro d
  induction d with
  | zero =>
    intro j n hj hn
    obtain ⟨n, rfl⟩ := Nat.exists_eq_succ_of_ne_zero (show n ≠ 0 by omega)
    unfold l_X2_sumOfValues_4
    rw [h.2.1.2.2.2.2.2.1, if_neg (nI_nlt (by omega) (by omega)), show j = blkN Z by omega]
  | succ d ih =>
    intro j n hj hn
    obtain ⟨n, rfl⟩ := Nat.exists_eq_succ_of_ne_zero (show n ≠ 0 by omega)
    unfold l_X2_sumOfValues_4
    rw [h.2.1.2.2.2.2.2.1, if_pos (nI_lt (by omega) (by omega)), s_can W h (by omega), Option.bind_some, s_held W h (by omega), Option.bind_some]
    have := ih (j + 1) n (by omega) (by omega)
    rw [sumV_s] at this
    rw [i0, i1, nI_add, nI_add, nI_add]
    by_cases e : canN Z j
    · rw [if_neg (bI_tn ⟨by omega, e⟩)]
      rw [if_pos e] at this; exact this
    · rw [if_pos (bI_fn (fun q => e q.2))]
      rw [if_neg e] at this; exact this
theorem s_sum (W : WF T Z) (h : RS st Z) : f_X2_sumOfValues st = some (nI (sumV Z (blkN Z))) := s_sumL W h (blkN Z) 0 FU (by omega) (by have := W.blk; have : FU = 1000 := rfl; omega)
theorem m_lostL (W : WF T Z) (h : RZ m.2.1 Z) : ∀ (d j n : Nat), j + d = blkN Z → d < n → l_X6_lost_4 m n (nI (lostN Z j)) (nI j) = some (nI (lostN Z (blkN Z))) := by
  have hbl := W.blk
  intro d
  induction d with
  | zero =>
    intro j n hj hn
    obtain ⟨n, rfl⟩ := Nat.exists_eq_succ_of_ne_zero (show n ≠ 0 by omega)
    unfold l_X6_lost_4
    rw [m_blk W h, Option.bind_some, if_neg (nI_nlt (by omega) (by omega)), show j = blkN Z by omega]
  | succ d ih =>
    intro j n hj hn
    obtain ⟨n, rfl⟩ := Nat.exists_eq_succ_of_ne_zero (show n ≠ 0 by omega)
    unfold l_X6_lost_4
    rw [m_blk W h, Option.bind_some, if_pos (nI_lt (by omega) (by omega)), m_can W h (by omega), Option.bind_some]
    have := ih (j + 1) n (by omega) (by omega)
    rw [lostN_s] at this
    rw [i0, i1, nI_add, nI_add, nI_add]
    by_cases e : canN Z j
    · rw [if_neg (bI_tn e)]
      rw [if_pos e] at this; exact this
    · rw [if_pos (bI_fn e)]
      rw [if_neg e] at this; exact this
theorem m_lost (W : WF T Z) (h : RZ m.2.1 Z) : f_X6_lost m = some (nI (lostN Z (blkN Z))) := m_lostL W h (blkN Z) 0 FU (by omega) (by have := W.blk; have : FU = 1000 := rfl; omega)
theorem m_sumL (W : WF T Z) (h : RZ m.2.1 Z) : ∀ (d j n : Nat), j + d = blkN Z → d < n → l_X6_values_4 m n (nI (sumV Z j)) (nI j) = some (nI (sumV Z (blkN Z))) := by
  have hbl := W.blk
  intro d
  induction d with
  | zero =>
    intro j n hj hn
    obtain ⟨n, rfl⟩ := Nat.exists_eq_succ_of_ne_zero (show n ≠ 0 by omega)
    unfold l_X6_values_4
    rw [m_blk W h, Option.bind_some, if_neg (nI_nlt (by omega) (by omega)), show j = blkN Z by omega]
  | succ d ih =>
    intro j n hj hn
    obtain ⟨n, rfl⟩ := Nat.exists_eq_succ_of_ne_zero (show n ≠ 0 by omega)
    unfold l_X6_values_4
    rw [m_blk W h, Option.bind_some, if_pos (nI_lt (by omega) (by omega)), m_can W h (by omega), Option.bind_some]
    have := ih (j + 1) n (by omega) (by omega)
    rw [sumV_s] at this
    rw [i0, i1, nI_add, nI_add]
    by_cases e : canN Z j
    · rw [if_neg (bI_tn e), m_val W h (by omega) e, Option.bind_some, nI_add]
      rw [if_pos e] at this; exact this
    · rw [if_pos (bI_fn e)]
      rw [if_neg e] at this; exact this
theorem m_sum (W : WF T Z) (h : RZ m.2.1 Z) : f_X6_values m = some (nI (sumV Z (blkN Z))) := m_sumL W h (blkN Z) 0 FU (by omega) (by have := W.blk; have : FU = 1000 := rfl; omega)
theorem c_count {c : VC} {n : Nat} (W : WF T Z) (h : RS (gSt c 0) Z) (hn : c.2.2.2.2.2.2.2.1 = nI n) {j : Nat} (hj : j ≤ 11) : f_X5_countOf c (nI j) = some (cnI Z n j) := by
  obtain ⟨hk, hl, hc, hv, hi⟩ := h
  have h1 := k_plugs W (sk := c.1 0) hk
  have h2 := k_fails W (sk := c.1 0) hk
  have h3 := s_lost W ⟨hk, hl, hc, hv, hi⟩
  have h4 := s_sum W ⟨hk, hl, hc, hv, hi⟩
  have l1 : (c.2.1 0).2.2.2.2.2.1 = nI (blkN Z) := hl.2.2.2.2.2.1
  have l2 : (c.2.1 0).2.2.2.2.2.2 = nI (wideN Z) := hl.2.2.2.2.2.2
  have l3 : (c.2.2.1 0).2.1 = nI (Z 41) := hc.2.1
  have l4 : (c.2.2.1 0).2.2 = nI (Z 44) := hc.2.2
  have l5 : (c.2.2.2.2.1 0).2.2.1 = nI (Z 42) := hi.2.2.1
  have l6 : (c.2.2.2.2.1 0).2.2.2.1 = nI (Z 43) := hi.2.2.2.1
  have l7 : (c.2.2.2.2.1 0).2.2.2.2 = nI (Z 45) := hi.2.2.2.2
  unfold f_X5_countOf cnI
  rw [h1, h2, h3, h4, l1, l2, l3, l4, l5, l6, l7, hn, Option.bind_some, Option.bind_some, Option.bind_some, Option.bind_some]
  rw [i0, i1, i2, i3, i4, i5, i6, i7, i8, i9, show (10 : Int32) = nI 10 from rfl]
  rw [ite_nI (by omega) (by omega), ite_nI (by omega) (by omega), ite_nI (by omega) (by omega), ite_nI (by omega) (by omega), ite_nI (by omega) (by omega), ite_nI (by omega) (by omega), ite_nI (by omega) (by omega), ite_nI (by omega) (by omega), ite_nI (by omega) (by omega), ite_nI (by omega) (by omega), ite_nI (by omega) (by omega)]
  by_cases h20 : j = 0
  · rw [if_pos h20, if_pos h20]
  rw [if_neg h20, if_neg h20]
  by_cases h21 : j = 1
  · rw [if_pos h21, if_pos h21]
  rw [if_neg h21, if_neg h21]
  by_cases h22 : j = 2
  · rw [if_pos h22, if_pos h22]
  rw [if_neg h22, if_neg h22]
  by_cases h23 : j = 3
  · rw [if_pos h23, if_pos h23]
  rw [if_neg h23, if_neg h23]
  by_cases h24 : j = 4
  · rw [if_pos h24, if_pos h24]
  rw [if_neg h24, if_neg h24]
  by_cases h25 : j = 5
  · rw [if_pos h25, if_pos h25]
  rw [if_neg h25, if_neg h25]
  by_cases h26 : j = 6
  · rw [if_pos h26, if_pos h26]
  rw [if_neg h26, if_neg h26]
  by_cases h27 : j = 7
  · rw [if_pos h27, if_pos h27]
  rw [if_neg h27, if_neg h27]
  by_cases h28 : j = 8
  · rw [if_pos h28, if_pos h28]
  rw [if_neg h28, if_neg h28]
  by_cases h29 : j = 9
  · rw [if_pos h29, if_pos h29]
  rw [if_neg h29, if_neg h29]
  by_cases h30 : j = 10
  · rw [if_pos h30, if_pos h30]
  rw [if_neg h30, if_neg h30]
theorem m_count {n : Nat} (W : WF T Z) (h : RZ m.2.1 Z) (hn : m.2.2.2.2.1 = nI n) {j : Nat} (hj : j ≤ 11) : f_X6_countNow m (nI j) = some (cnI Z n j) := by
  unfold f_X6_countNow cnI
  rw [m_ones W h, m_bads W h, m_blk W h, m_wide W h, i41, m_at h (by omega) (by omega), show (42 : Int32) = nI 42 from rfl, m_at h (by omega) (by omega), show (43 : Int32) = nI 43 from rfl, m_at h (by omega) (by omega), show (44 : Int32) = nI 44 from rfl, m_at h (by omega) (by omega), m_lost W h, show (45 : Int32) = nI 45 from rfl, m_at h (by omega) (by omega), m_sum W h, hn]
  simp only [Option.bind_some]
  rw [i0, i1, i2, i3, i4, i5, i6, i7, i8, i9, show (10 : Int32) = nI 10 from rfl]
  rw [ite_nI (by omega) (by omega), ite_nI (by omega) (by omega), ite_nI (by omega) (by omega), ite_nI (by omega) (by omega), ite_nI (by omega) (by omega), ite_nI (by omega) (by omega), ite_nI (by omega) (by omega), ite_nI (by omega) (by omega), ite_nI (by omega) (by omega), ite_nI (by omega) (by omega), ite_nI (by omega) (by omega)]
  by_cases h20 : j = 0
  · rw [if_pos h20, if_pos h20]
  rw [if_neg h20, if_neg h20]
  by_cases h21 : j = 1
  · rw [if_pos h21, if_pos h21]
  rw [if_neg h21, if_neg h21]
  by_cases h22 : j = 2
  · rw [if_pos h22, if_pos h22]
  rw [if_neg h22, if_neg h22]
  by_cases h23 : j = 3
  · rw [if_pos h23, if_pos h23]
  rw [if_neg h23, if_neg h23]
  by_cases h24 : j = 4
  · rw [if_pos h24, if_pos h24]
  rw [if_neg h24, if_neg h24]
  by_cases h25 : j = 5
  · rw [if_pos h25, if_pos h25]
  rw [if_neg h25, if_neg h25]
  by_cases h26 : j = 6
  · rw [if_pos h26, if_pos h26]
  rw [if_neg h26, if_neg h26]
  by_cases h27 : j = 7
  · rw [if_pos h27, if_pos h27]
  rw [if_neg h27, if_neg h27]
  by_cases h28 : j = 8
  · rw [if_pos h28, if_pos h28]
  rw [if_neg h28, if_neg h28]
  by_cases h29 : j = 9
  · rw [if_pos h29, if_pos h29]
  rw [if_neg h29, if_neg h29]
  by_cases h30 : j = 10
  · rw [if_pos h30, if_pos h30]
  rw [if_neg h30, if_neg h30]
theorem blk_or (W : WF T Z) (h : RS st Z) (hz : RZ m.2.1 Z) (x : Int32) : (f_X2_hasBlock st x = some 0 ∧ f_X6_isBlock m x = some 0) ∨ ∃ b, b < blkN Z ∧ x = nI b ∧ f_X2_hasBlock st x = some 1 ∧ f_X6_isBlock m x = some 1 := by
  by_cases h0 : x < 0
  · left
    refine ⟨?_, m_isBlk_neg W hz h0⟩
    unfold f_X2_hasBlock
    rw [if_pos h0]
  · obtain ⟨j, hj, rfl⟩ := nI_of h0
    have h1 := s_has W h hj
    have h2 := m_isBlk W hz hj
    by_cases e : j < blkN Z
    · right
      rw [bI_T e] at h1 h2
      exact ⟨j, e, rfl, h1, h2⟩
    · left
      rw [bI_f e] at h1 h2
      exact ⟨h1, h2⟩
end
theorem L_slot_in {c : VC} {o : Nat → Int64} {a1 a2 x : Int32} (h : f_X5_slot c a1 a2 = some (.inr x)) : f_L_slot c o a1 a2 = some (0, c, vp_updL o 0 x.toInt64) := by unfold f_L_slot; rw [h]; rfl
theorem op_slot {T : Nat} (c : VC) (mo : VM) (o : Nat → Int64) (a1 a2 : Int32) (h : Iv T (c, (mo, o))) : Ok T (callG (f_L_slot c o a1 a2) (f_X6_slot mo a1 a2)) := by
  unfold f_X6_slot
  rcases slot_or a1 with ⟨h1, g1⟩ | ⟨s, hs, rfl⟩
  · have e1 : f_X5_slot c a1 a2 = some (.inl 1) := by unfold f_X5_slot; rw [h1]; rfl
    refine ⟨_, Iv.thr (t' := 1) (o' := o) h (by omega), callG_th (c' := c) (x := 0) (k := 1) (by unfold f_L_slot; rw [e1]; rfl) ?_ (by decide)⟩
    rw [g1]; rfl
  rw [m_isSlot hs, Option.bind_some, if_neg (by decide)]
  rcases w_or a2 (lo := 0) (hi := 7) (by omega) (by omega) with ⟨h1, g1⟩ | ⟨j, p1, q1, rfl, h1, g1⟩
  · have e1 : f_X5_slot c (nI s) a2 = some (.inl 2) := by unfold f_X5_slot; rw [p_slot hs, Option.bind_some, if_neg (by decide), show f_X5_isWithin a2 0 7 = some 0 from h1]; rfl
    refine ⟨_, Iv.thr (t' := 2) (o' := o) h (by omega), callG_th (c' := c) (x := 0) (k := 2) (by unfold f_L_slot; rw [e1]; rfl) ?_ (by decide)⟩
    rw [show f_X6_in a2 0 7 = some 0 from g1]; rfl
  have hall := h
  obtain ⟨Z, SZ, n, KZ, kp, tx, len, hS, hT⟩ := h
  obtain ⟨W, hR, hZ, -⟩ := hS
  have h2 : f_X5_slot c (nI s) (nI j) = some (.inr (snI Z s j)) := by
    unfold f_X5_slot
    rw [p_slot hs, Option.bind_some, if_neg (by decide), show f_X5_isWithin (nI j) 0 7 = some 1 from h1, Option.bind_some, if_neg (by decide), s_slotNo W hR hs q1]; rfl
  have h3 : b_X6_slot_27 mo (nI s) (nI j) 0 = some (snI Z s j, (0, mo.2)) := by
    unfold b_X6_slot_27
    rw [if_neg (by decide), m_slotNo (m := (0, mo.2)) W hZ hs q1]; rfl
  rw [show f_X6_in (nI j) 0 7 = some 1 from g1, Option.bind_some, if_neg (by decide)]
  exact ⟨_, Iv.thr (t' := 0) (o' := _) hall (Nat.le_refl _), callG_ok (L_slot_in h2) h3⟩
theorem L_where_in {c : VC} {o : Nat → Int64} {a1 a2 x : Int32} (h : f_X5_where c a1 a2 = some (.inr x)) : f_L_where c o a1 a2 = some (0, c, vp_updL o 0 x.toInt64) := by unfold f_L_where; rw [h]; rfl
theorem op_where {T : Nat} (c : VC) (mo : VM) (o : Nat → Int64) (a1 a2 : Int32) (h : Iv T (c, (mo, o))) : Ok T (callG (f_L_where c o a1 a2) (f_X6_where mo a1 a2)) := by
  unfold f_X6_where
  have hall := h
  obtain ⟨Z, SZ, n, KZ, kp, tx, len, hS, hT⟩ := h
  obtain ⟨W, hR, hZ, -⟩ := hS
  rcases blk_or W hR hZ a1 with ⟨h1, g1⟩ | ⟨b, hb, rfl, h1, g1⟩
  · have e1 : f_X5_where c a1 a2 = some (.inl 1) := by unfold f_X5_where; rw [h1]; rfl
    refine ⟨_, Iv.thr (t' := 1) (o' := o) hall (by omega), callG_th (c' := c) (x := 0) (k := 1) (by unfold f_L_where; rw [e1]; rfl) ?_ (by decide)⟩
    rw [g1]; rfl
  rw [g1, Option.bind_some, if_neg (by decide)]
  rcases w_or a2 (lo := 0) (hi := 6) (by omega) (by omega) with ⟨h2, g2⟩ | ⟨j, p1, q1, rfl, h2, g2⟩
  · have e1 : f_X5_where c (nI b) a2 = some (.inl 2) := by unfold f_X5_where; rw [h1, Option.bind_some, if_neg (by decide), show f_X5_isWithin a2 0 6 = some 0 from h2]; rfl
    refine ⟨_, Iv.thr (t' := 2) (o' := o) hall (by omega), callG_th (c' := c) (x := 0) (k := 2) (by unfold f_L_where; rw [e1]; rfl) ?_ (by decide)⟩
    rw [show f_X6_in a2 0 6 = some 0 from g2]; rfl
  have h3 : f_X5_where c (nI b) (nI j) = some (.inr (bnI Z b j)) := by
    unfold f_X5_where
    rw [h1, Option.bind_some, if_neg (by decide), show f_X5_isWithin (nI j) 0 6 = some 1 from h2, Option.bind_some, if_neg (by decide), s_blkNo W hR hb q1]; rfl
  have h4 : b_X6_where_28 mo (nI b) (nI j) 0 = some (bnI Z b j, (0, mo.2)) := by
    unfold b_X6_where_28
    rw [if_neg (by decide), m_blkNo (m := (0, mo.2)) W hZ hb q1]; rfl
  rw [show f_X6_in (nI j) 0 6 = some 1 from g2, Option.bind_some, if_neg (by decide)]
  exact ⟨_, Iv.thr (t' := 0) (o' := _) hall (Nat.le_refl _), callG_ok (L_where_in h3) h4⟩
theorem L_count_in {c : VC} {o : Nat → Int64} {a1 x : Int32} (h : f_X5_count c a1 = some (.inr x)) : f_L_count c o a1 = some (0, c, vp_updL o 0 x.toInt64) := by unfold f_L_count; rw [h]; rfl
theorem op_count {T : Nat} (c : VC) (mo : VM) (o : Nat → Int64) (a1 : Int32) (h : Iv T (c, (mo, o))) : Ok T (callG (f_L_count c o a1) (f_X6_count mo a1)) := by
  unfold f_X6_count
  rcases w_or a1 (lo := 0) (hi := 11) (by omega) (by omega) with ⟨h1, g1⟩ | ⟨j, p1, q1, rfl, h1, g1⟩
  · have e1 : f_X5_count c a1 = some (.inl 2) := by unfold f_X5_count; rw [show f_X5_isWithin a1 0 11 = some 0 from h1]; rfl
    refine ⟨_, Iv.thr (t' := 1) (o' := o) h (by omega), callG_th (c' := c) (x := 0) (k := 1) (by unfold f_L_count; rw [e1]; rfl) ?_ (by decide)⟩
    rw [show f_X6_in a1 0 11 = some 0 from g1]; rfl
  have hall := h
  obtain ⟨Z, SZ, n, KZ, kp, tx, len, hS, hT⟩ := h
  obtain ⟨W, hR, hZ, b4, b5, b6, -⟩ := hS
  have h2 : f_X5_count c (nI j) = some (.inr (cnI Z n j)) := by
    unfold f_X5_count
    rw [show f_X5_isWithin (nI j) 0 11 = some 1 from h1, Option.bind_some, if_neg (by decide), c_count W hR b5 q1]; rfl
  have h3 : b_X6_count_16 mo (nI j) 0 = some (cnI Z n j, (0, mo.2)) := by
    unfold b_X6_count_16
    rw [if_neg (by decide), m_count (m := (0, mo.2)) W hZ b6 q1]; rfl
  rw [show f_X6_in (nI j) 0 11 = some 1 from g1, Option.bind_some, if_neg (by decide)]
  exact ⟨_, Iv.thr (t' := 0) (o' := _) hall (Nat.le_refl _), callG_ok (L_count_in h2) h3⟩
