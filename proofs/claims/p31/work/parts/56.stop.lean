-- ===== the map is forgotten =====
def ftZ (Z : Nat → Nat) (j : Nat) : Nat → Nat := fun k => if k = 40 then 0 else if 36 ≤ k ∧ k < 36 + j then 0 else if k < 9 * j ∧ k % 9 = 5 then 0 else Z k
def forgetZ (Z : Nat → Nat) : Nat → Nat := ftZ Z 4
theorem fg_at {Z : Nat → Nat} {s w : Nat} (hs : s < 4) (hw : w < 9) : forgetZ Z (9 * s + w) = if w = 5 then 0 else Z (9 * s + w) := by
  unfold forgetZ ftZ
  rw [if_neg (by omega), if_neg (by omega)]
  by_cases e : w = 5
  · rw [if_pos e, if_pos (by omega)]
  · rw [if_neg e, if_neg (by omega)]
theorem fg_0 {Z : Nat → Nat} {s : Nat} (hs : s < 4) : forgetZ Z (9 * s) = Z (9 * s) := (fg_at (w := 0) hs (by omega)).trans (if_neg (by omega))
theorem fg_mp {Z : Nat → Nat} {k : Nat} (h1 : 36 ≤ k) (h2 : k ≤ 40) : forgetZ Z k = 0 := by
  unfold forgetZ ftZ
  by_cases e : k = 40
  · rw [if_pos e]
  · rw [if_neg e, if_pos (by omega)]
theorem fg_hi {Z : Nat → Nat} {k : Nat} (h : 40 < k) : forgetZ Z k = Z k := by
  unfold forgetZ ftZ
  rw [if_neg (by omega), if_neg (by omega), if_neg (by omega)]
theorem fg_rm (Z : Nat → Nat) : roomA (forgetZ Z) = 0 ∧ roomB (forgetZ Z) = 0 ∧ lesN (forgetZ Z) = 0 ∧ blkN (forgetZ Z) = 0 ∧ wideN (forgetZ Z) = 0 := by
  have h1 : roomA (forgetZ Z) = 0 := by unfold roomA; rw [fg_mp (by omega) (by omega), fg_mp (by omega) (by omega)]
  have h2 : roomB (forgetZ Z) = 0 := by unfold roomB; rw [fg_mp (by omega) (by omega), fg_mp (by omega) (by omega)]
  have h4 : forgetZ Z 40 = 0 := fg_mp (by omega) (by omega)
  refine ⟨h1, h2, ?_, ?_, ?_⟩
  · unfold lesN; rw [h1, h2]; rfl
  · unfold blkN; rw [if_pos h4]
  · unfold wideN; rw [if_neg (by omega)]
theorem WF_forget {T : Nat} {Z : Nat → Nat} (W : WF T Z) : WF T (forgetZ Z) := by
  obtain ⟨a0, a1, a2, a3, a4, a5, a6, a7, a8, a9, a10, a11⟩ := W
  refine ⟨fun q hq => ?_, ?_, ?_, ?_, ?_, ?_, ?_, ?_, ?_, ?_, ?_, ?_⟩
  · obtain ⟨w0, w1, w2, w3, w4, w5, w6, w7, w8, w9, w10, w11⟩ := a0 q hq
    rw [fg_0 hq, fg_at (w := 1) hq (by omega), fg_at (w := 2) hq (by omega), fg_at (w := 3) hq (by omega), fg_at (w := 4) hq (by omega), fg_at (w := 5) hq (by omega), fg_at (w := 6) hq (by omega), fg_at (w := 7) hq (by omega), fg_at (w := 8) hq (by omega), fg_mp (k := 36 + q) (by omega) (by omega), fg_hi (k := 41) (by omega)]
    simp only [Nat.reduceEqDiff, if_true, if_false]
    exact ⟨w0, w1, w2, w3, w4, by omega, (by simp), w7, w8, w9, by omega, w11⟩
  · rw [fg_mp (by omega) (by omega)]; omega
  · intro _ q hq
    rw [fg_mp (by omega) (by omega), fg_at hq (by omega)]
    exact ⟨rfl, rfl⟩
  · rw [fg_hi (by omega)]; exact a3
  · rw [fg_hi (by omega)]; exact a4
  · rw [fg_hi (by omega)]; exact a5
  · rw [fg_hi (by omega)]; exact a6
  · rw [fg_hi (by omega)]; exact a7
  · rw [fg_hi (by omega)]; exact a8
  · rw [fg_hi (by omega)]; exact a9
  · intro k h1 h2
    rw [fg_hi (by omega)]; exact a10 k h1 h2
  · intro e
    rw [fg_mp (by omega) (by omega)] at e
    omega
theorem k_unL (v : VSk) {s n : Nat} (hs : s < 4) : l_X3_unmapAll_2 (n + 1) v (nI s) = l_X3_unmapAll_2 n (v.1, v.2.1, v.2.2.1, v.2.2.2.1, v.2.2.2.2.1, upd v.2.2.2.2.2 s (nI 0)) (nI (s + 1)) := by
  rw [l_X3_unmapAll_2, i4, if_pos (nI_lt hs (by omega)), i0, p_aupz hs (by omega) (by omega), Option.bind_some, i1, nI_add]
theorem k_unmap (v : VSk) : f_X3_unmapAll v = some (v.1, v.2.1, v.2.2.1, v.2.2.2.1, v.2.2.2.2.1, upd (upd (upd (upd v.2.2.2.2.2 0 (nI 0)) 1 (nI 0)) 2 (nI 0)) 3 (nI 0)) := by
  show l_X3_unmapAll_2 (999 + 1) v (nI 0) = _
  rw [k_unL _ (by omega), show (999 : Nat) = 998 + 1 from rfl, k_unL _ (by omega), show (998 : Nat) = 997 + 1 from rfl, k_unL _ (by omega), show (997 : Nat) = 996 + 1 from rfl, k_unL _ (by omega), show (996 : Nat) = 995 + 1 from rfl, l_X3_unmapAll_2, if_neg (by decide)]
theorem s_end {T : Nat} {Z : Nat → Nat} {st : VSt} (W : WF T Z) (h : RS st Z) : ∃ w, f_X2_end st = some w ∧ RS w (forgetZ Z) := by
  obtain ⟨hk, hl, hc, hv, hi⟩ := h
  obtain ⟨r1, r2, r3, r4, r5⟩ := fg_rm Z
  have he : f_X2_end st = some ((st.1.1, st.1.2.1, st.1.2.2.1, st.1.2.2.2.1, st.1.2.2.2.2.1, upd (upd (upd (upd st.1.2.2.2.2.2 0 (nI 0)) 1 (nI 0)) 2 (nI 0)) 3 (nI 0)), (-1, (fun i => if i < 4 then 0 else st.2.1.2.1 i), 0, 0, 0, 0, 0), st.2.2) := by
    unfold f_X2_end f_X1_clear f_fill
    rw [Option.bind_some, Option.bind_some, k_unmap, Option.bind_some]
  refine ⟨_, he, ?_⟩
  · refine ⟨fun q hq => ?_, ⟨?_, fun q hq => ?_, ?_, ?_, ?_, ?_, ?_⟩, ⟨fun q hq => ?_, ?_, ?_⟩, fun b hb => ?_, ?_⟩
    · have := hk q hq
      have g : ∀ j, j < 9 → j ≠ 5 → gt (forgetZ Z) q j = gt Z q j := fun j hj h5 => by unfold gt; rw [fg_0 hq, fg_at hq hj, if_neg h5]
      rw [g 1 (by omega) (by omega), g 2 (by omega) (by omega), g 3 (by omega) (by omega), g 8 (by omega) (by omega), g 4 (by omega) (by omega), fg_at hq (by omega), if_pos rfl]
      refine ⟨this.1, this.2.1, this.2.2.1, this.2.2.2.1, this.2.2.2.2.1, ?_⟩
      rcases slot_cases hq with rfl | rfl | rfl | rfl <;> simp [upd]
    · rw [fg_mp (by omega) (by omega)]; rfl
    · rw [fg_mp (by omega) (by omega)]; simp [hq]; rfl
    · rw [r1]; rfl
    · rw [r2]; rfl
    · rw [r3]; rfl
    · rw [r4]; rfl
    · rw [r5]; rfl
    · rw [fg_at (w := 6) hq (by omega), fg_at (w := 7) hq (by omega), if_neg (by omega), if_neg (by omega)]; exact hc.1 q hq
    · rw [fg_hi (by omega)]; exact hc.2.1
    · rw [fg_hi (by omega)]; exact hc.2.2
    · rw [r4] at hb; omega
    · unfold RI
      rw [fg_hi (by omega), fg_hi (by omega), fg_hi (by omega), fg_hi (by omega), fg_hi (by omega)]
      exact hi
