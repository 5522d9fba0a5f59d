-- ===== sums over the slots; why a machine does not start; the values =====
def sum4 (f : Nat → Nat) : Nat := f 0 + f 1 + f 2 + f 3
def onesN (Z : Nat → Nat) : Nat := sum4 (fun s => if Z (9 * s) = 1 then 1 else 0)
def badsN (Z : Nat → Nat) : Nat := sum4 (fun s => if Z (9 * s) = 1 ∧ Z (9 * s + 4) = 1 then 1 else 0)
def grA (Z : Nat → Nat) : Nat := gs Z 0 + gs Z 1
def grB (Z : Nat → Nat) : Nat := gs Z 2 + gs Z 3
def whyN (Z : Nat → Nat) (map : Nat) : Nat := if grA Z + grB Z = 0 then 1 else if map = 2 then (if grA Z = 0 then 2 else if grB Z = 0 then 2 else 0) else 0
theorem bI_i {c : Prop} [Decidable c] : bI (decide c) = nI (if c then 1 else 0) := by by_cases h : c <;> simp [h, bI]
theorem bI_tn {c : Prop} [Decidable c] (h : c) : ¬ bI (decide c) = nI 0 := bI_t h
theorem bI_fn {c : Prop} [Decidable c] (h : ¬ c) : bI (decide c) = nI 0 := bI_f h
section
variable {T : Nat} {Z : Nat → Nat} {ly : VLy} {sk : VSk} {ck : VCk} {st : VSt} {b s : Nat}
theorem gs_le (W : WF T Z) (hs : s < 4) : gs Z s ≤ 12 := by
  have := (W.1 s hs).2.1
  unfold gs
  split <;> omega
theorem gr_le (W : WF T Z) : grA Z ≤ 24 ∧ grB Z ≤ 24 := by
  have h0 := gs_le W (s := 0) (by omega)
  have h1 := gs_le W (s := 1) (by omega)
  have h2 := gs_le W (s := 2) (by omega)
  have h3 := gs_le W (s := 3) (by omega)
  unfold grA grB
  omega
theorem k_plugL (W : WF T Z) (h : RK sk Z) {a n : Nat} (hs : s < 4) : l_X3_pluggedOnes_4 sk (n + 1) (nI a) (nI s) = l_X3_pluggedOnes_4 sk n (nI (a + if Z (9 * s) = 1 then 1 else 0)) (nI (s + 1)) := by
  rw [l_X3_pluggedOnes_4, i4, if_pos (nI_lt hs (by omega)), k_plug W h hs, Option.bind_some, i0, i1, nI_add, nI_add, nI_add]
  by_cases e : Z (9 * s) = 1
  · rw [if_neg (bI_tn e), if_pos e]
  · rw [if_pos (bI_fn e), if_neg e]
theorem k_plugs (W : WF T Z) (h : RK sk Z) : f_X3_pluggedOnes sk = some (nI (onesN Z)) := by
  show l_X3_pluggedOnes_4 sk (999 + 1) (nI 0) (nI 0) = _
  rw [k_plugL W h (by omega), show (999 : Nat) = 998 + 1 from rfl, k_plugL W h (by omega), show (998 : Nat) = 997 + 1 from rfl, k_plugL W h (by omega), show (997 : Nat) = 996 + 1 from rfl, k_plugL W h (by omega), show (996 : Nat) = 995 + 1 from rfl, l_X3_pluggedOnes_4, if_neg (by decide)]
  unfold onesN sum4
  simp only [Nat.zero_add]
theorem k_failL (W : WF T Z) (h : RK sk Z) {a n : Nat} (hs : s < 4) : l_X3_failedOnes_4 sk (n + 1) (nI a) (nI s) = l_X3_failedOnes_4 sk n (nI (a + if Z (9 * s) = 1 ∧ Z (9 * s + 4) = 1 then 1 else 0)) (nI (s + 1)) := by
  rw [l_X3_failedOnes_4, i4, if_pos (nI_lt hs (by omega)), k_failed W h hs, Option.bind_some, i0, i1, nI_add, nI_add, nI_add]
  by_cases e : Z (9 * s) = 1 ∧ Z (9 * s + 4) = 1
  · rw [if_neg (bI_tn e), if_pos e]
  · rw [if_pos (bI_fn e), if_neg e]
theorem k_fails (W : WF T Z) (h : RK sk Z) : f_X3_failedOnes sk = some (nI (badsN Z)) := by
  show l_X3_failedOnes_4 sk (999 + 1) (nI 0) (nI 0) = _
  rw [k_failL W h (by omega), show (999 : Nat) = 998 + 1 from rfl, k_failL W h (by omega), show (998 : Nat) = 997 + 1 from rfl, k_failL W h (by omega), show (997 : Nat) = 996 + 1 from rfl, k_failL W h (by omega), show (996 : Nat) = 995 + 1 from rfl, l_X3_failedOnes_4, if_neg (by decide)]
  unfold badsN sum4
  simp only [Nat.zero_add]
theorem k_hind (W : WF T Z) (h : RK sk Z) {map : Nat} (hm : map ≤ 2) : f_X3_hindrance sk (nI map) = some (nI (whyN Z map)) := by
  have := gr_le W
  unfold f_X3_hindrance
  rw [i0, i1, i2, i3, k_gsz W h (by omega), Option.bind_some, k_gsz W h (by omega), Option.bind_some, k_gsz W h (by omega), Option.bind_some, k_gsz W h (by omega), Option.bind_some, nI_add, nI_add, nI_add]
  unfold whyN
  change (if nI (grA Z + grB Z) = nI 0 then some (nI 1) else if nI map = nI 2 then if nI (grA Z) = nI 0 then some (nI 2) else if nI (grB Z) = nI 0 then some (nI 2) else some (nI 0) else some (nI 0)) = _
  simp (discharger := omega) only [nI_eq, sn_if]
-- places
theorem ix_room (hb : b < blkN Z) (hk : Z 40 ≤ 3) : (chN Z b = 0 → ixN Z b < roomA Z) ∧ (chN Z b = 1 → ixN Z b < roomB Z) := by
  have hl := lesN_le Z
  unfold blkN at hb
  unfold chN ixN wideN at *
  rcases kind_cases hk with e | e | e | e <;> simp [e] at hb ⊢
  all_goals (repeat' split)
  all_goals omega
theorem num_lt (W : WF T Z) (hb : b < blkN Z) : numN Z b < 12 := by
  have hm := W.mp
  have h1 := ix_room hb W.2.1
  have h2 := ch_le Z b
  unfold numN nuN
  rcases (show chN Z b = 0 ∨ chN Z b = 1 by omega) with e | e <;> rw [e] <;> simp only [Nat.reduceMul, Nat.reduceAdd]
  · have := h1.1 e
    unfold roomA at this
    split <;> omega
  · have := h1.2 e
    unfold roomB at this
    split <;> omega
theorem num2_lt (W : WF T Z) (hb : b < blkN Z) (h3 : Z 40 = 3) : nuN Z 1 b < 12 := by
  have hm := W.mp
  have hl := lesN_le Z
  unfold blkN at hb
  rw [if_neg (by omega), if_pos h3] at hb
  unfold roomB at hl
  unfold nuN
  simp only [Nat.reduceMul, Nat.reduceAdd]
  split <;> omega
theorem bk_inv (W : WF T Z) (hb : b < blkN Z) : bkN Z (slotN Z b) (numN Z b) = b := by
  have hm := W.mp
  have hr := W.room
  have h1 := ix_room hb W.2.1
  have h2 := ch_le Z b
  have hl := lesN_le Z
  have hi : ixS Z (slotN Z b) (numN Z b) = ixN Z b ∧ (slotN Z b) / 2 = chN Z b ∧ (slotN Z b < 2 ↔ chN Z b = 0) := by
    unfold slotN numN slN nuN ixS
    rcases (show chN Z b = 0 ∨ chN Z b = 1 by omega) with e | e <;> rw [e] <;> simp only [Nat.reduceMul, Nat.reduceAdd]
    · by_cases q : ixN Z b < Z 36
      · simp [q]
      · simp [q]; omega
    · by_cases q : ixN Z b < Z 38
      · simp [q]
      · simp [q]; omega
  unfold bkN
  rw [hi.1, hi.2.1]
  simp only [hi.2.2]
  clear hi
  unfold blkN at hb
  unfold chN ixN wideN at *
  rcases kind_cases W.2.1 with e | e | e | e <;> simp [e] at hb h1 h2 ⊢
  all_goals (repeat' split)
  all_goals omega
theorem bk_inv2 (W : WF T Z) (hb : b < blkN Z) (h3 : Z 40 = 3) : bkN Z (slN Z 1 b) (nuN Z 1 b) = b := by
  have hm := W.mp
  have hl := lesN_le Z
  unfold blkN at hb
  rw [if_neg (by omega), if_pos h3] at hb
  unfold bkN ixS slN nuN
  rw [if_pos h3]
  simp only [Nat.reduceMul, Nat.reduceAdd]
  by_cases q : b < Z 38
  · simp [q]
  · simp [q]; omega
theorem place_inj {b2 : Nat} (W : WF T Z) (hb : b < blkN Z) (hb2 : b2 < blkN Z) (h : 48 + 12 * slotN Z b + numN Z b = 48 + 12 * slotN Z b2 + numN Z b2) : b = b2 := by
  have h1 := num_lt W hb
  have h2 := num_lt W hb2
  have e1 : slotN Z b = slotN Z b2 := by omega
  have e2 : numN Z b = numN Z b2 := by omega
  rw [← bk_inv W hb, ← bk_inv W hb2, e1, e2]
theorem s_held (W : WF T Z) (h : RS st Z) (hb : b < blkN Z) : f_X2_heldBy st (nI b) = some (nI (Z (48 + 12 * slotN Z b + numN Z b))) := by
  have := W.blk
  unfold f_X2_heldBy
  rw [p_entry (by omega) (by omega), Option.bind_some, h.2.2.2.1 b hb]
theorem rn_lt (W : WF T Z) (hb : b < blkN Z) (hc : canN Z b) : rnN Z b < 12 := by
  unfold rnN
  split
  · exact num_lt W hb
  · next e => exact num2_lt W hb (hc.elim (fun q => absurd q e) (fun q => q.1))
theorem val_eq (W : WF T Z) (hb : b < blkN Z) (hc : canN Z b) : Z (48 + 12 * rsN Z b + rnN Z b) = Z (48 + 12 * slotN Z b + numN Z b) := by
  unfold rsN rnN
  by_cases e : leftN Z (slotN Z b)
  · rw [if_pos e, if_pos e]
  · rw [if_neg e, if_neg e]
    exact (W.2.2.2.2.2.2.2.2.2.2.2 (hc.elim (fun q => absurd q e) (fun q => q.1)) b hb).symm
end
