-- ===== a slot's row is written; what does not change then =====
def rowZ (Z : Nat → Nat) (s : Nat) (g : Nat → Nat) : Nat → Nat := fun k => if k < 36 ∧ k / 9 = s then g (k % 9) else Z k
theorem rowZ_at {Z : Nat → Nat} {s s' w : Nat} {g : Nat → Nat} (hs : s' < 4) (hw : w < 9) : rowZ Z s g (9 * s' + w) = if s' = s then g w else Z (9 * s' + w) := by
  unfold rowZ
  have h1 : (9 * s' + w) / 9 = s' := by omega
  have h2 : (9 * s' + w) % 9 = w := by omega
  rw [h1, h2]
  by_cases e : s' = s
  · rw [if_pos ⟨by omega, e⟩, if_pos e]
  · rw [if_neg (fun q => e q.2), if_neg e]
theorem rowZ_0 {Z : Nat → Nat} {s s' : Nat} {g : Nat → Nat} (hs : s' < 4) : rowZ Z s g (9 * s') = if s' = s then g 0 else Z (9 * s') := rowZ_at (w := 0) hs (by omega)
theorem rowZ_hi {Z : Nat → Nat} {s k : Nat} {g : Nat → Nat} (hk : 36 ≤ k) : rowZ Z s g k = Z k := by unfold rowZ; rw [if_neg (by omega)]
theorem rowZ_id (Z : Nat → Nat) (s : Nat) : rowZ Z s (fun j => Z (9 * s + j)) = Z := by
  funext k
  unfold rowZ
  by_cases e : k < 36 ∧ k / 9 = s
  · rw [if_pos e]
    show Z (9 * s + k % 9) = Z k
    rw [show 9 * s + k % 9 = k by omega]
  · rw [if_neg e]
def gput (g : Nat → Nat) (w x : Nat) : Nat → Nat := fun j => if j = w then x else g j
-- the layout hangs on five numbers
def SL (Z Z' : Nat → Nat) : Prop := ∀ k, 36 ≤ k → k ≤ 40 → Z' k = Z k
section
variable {Z Z' : Nat → Nat}
theorem SL.rm (h : SL Z Z') : roomA Z' = roomA Z ∧ roomB Z' = roomB Z := by
  unfold roomA roomB
  rw [h 36 (by omega) (by omega), h 37 (by omega) (by omega), h 38 (by omega) (by omega), h 39 (by omega) (by omega)]
  exact ⟨rfl, rfl⟩
theorem SL.les (h : SL Z Z') : lesN Z' = lesN Z := by unfold lesN; rw [h.rm.1, h.rm.2]
theorem SL.blk (h : SL Z Z') : blkN Z' = blkN Z := by unfold blkN; rw [h.rm.1, h.rm.2, h.les, h 40 (by omega) (by omega)]
theorem SL.wide (h : SL Z Z') : wideN Z' = wideN Z := by unfold wideN; rw [h.les, h 40 (by omega) (by omega)]
theorem SL.ch (h : SL Z Z') (b : Nat) : chN Z' b = chN Z b := by unfold chN; rw [h.rm.1, h.rm.2, h.wide, h 40 (by omega) (by omega)]
theorem SL.ix (h : SL Z Z') (b : Nat) : ixN Z' b = ixN Z b := by unfold ixN; rw [h.rm.1, h.wide, h.les, h 40 (by omega) (by omega)]
theorem SL.sl (h : SL Z Z') {c i : Nat} (hc : c ≤ 1) : slN Z' c i = slN Z c i := by unfold slN; rw [h (36 + 2 * c) (by omega) (by omega)]
theorem SL.nu (h : SL Z Z') {c i : Nat} (hc : c ≤ 1) : nuN Z' c i = nuN Z c i := by unfold nuN; rw [h (36 + 2 * c) (by omega) (by omega)]
theorem SL.slot (h : SL Z Z') (b : Nat) : slotN Z' b = slotN Z b := by unfold slotN; rw [h.ch, h.ix, h.sl (ch_le _ _)]
theorem SL.num (h : SL Z Z') (b : Nat) : numN Z' b = numN Z b := by unfold numN; rw [h.ch, h.ix, h.nu (ch_le _ _)]
theorem SL.ly (h : SL Z Z') {ly : VLy} (r : RLy ly Z) : RLy ly Z' := by
  unfold RLy
  rw [h.rm.1, h.rm.2, h.les, h.blk, h.wide, h 40 (by omega) (by omega)]
  exact ⟨r.1, fun s hs => by rw [h (36 + s) (by omega) (by omega)]; exact r.2.1 s hs, r.2.2⟩
theorem SL.vl (h : SL Z Z') {vl : Nat → Int32} (hv : ∀ k, 48 ≤ k → k < 96 → Z' k = Z k) {T : Nat} (W : WF T Z) (r : RV vl Z) : RV vl Z' := by
  intro b hb
  rw [h.blk] at hb
  have h1 := slot_lt Z b
  have h2 := num_lt W hb
  rw [h.slot, h.num, hv _ (by omega) (by omega)]
  exact r b hb
theorem SL.row (s : Nat) (g : Nat → Nat) : SL Z (rowZ Z s g) := fun k h1 _ => rowZ_hi h1
end
/-- the row of a slot that keeps to the bounds -/
def GR (T : Nat) (Z g : Nat → Nat) : Prop := g 0 ≤ 1 ∧ g 1 ≤ 12 ∧ g 2 ≤ 2 ∧ g 3 ≤ 9 ∧ g 4 ≤ 1 ∧ g 5 ≤ 1 ∧ (g 5 = 1 → g 0 = 1) ∧ g 6 ≤ Z 41 + 9 ∧ g 7 ≤ Z 41 + 9 ∧ g 8 ≤ T ∧ (g 0 = 1 → 1 ≤ g 1)
theorem WF.row {T : Nat} {Z : Nat → Nat} (W : WF T Z) {s : Nat} {g : Nat → Nat} (hg : GR T Z g) (h5 : Z 40 = 0 → g 5 = 0) : WF T (rowZ Z s g) := by
  have hs := SL.row (Z := Z) s g
  refine ⟨fun q hq => ?_, ?_, ?_, ?_, ?_, ?_, ?_, ?_, ?_, ?_, ?_, ?_⟩
  · obtain ⟨w0, w1, w2, w3, w4, w5, w6, w7, w8, w9, w10, w11⟩ := W.1 q hq
    obtain ⟨g0, g1, g2, g3, g4, g5, g6, g7, g8, g9, g10⟩ := hg
    rw [rowZ_0 hq, rowZ_at hq (by omega), rowZ_at hq (by omega), rowZ_at hq (by omega), rowZ_at hq (by omega), rowZ_at hq (by omega), rowZ_at hq (by omega), rowZ_at hq (by omega), rowZ_at hq (by omega), rowZ_hi (by omega), rowZ_hi (by omega)]
    by_cases e : q = s
    · simp only [e, if_true]
      subst e
      exact ⟨g0, g1, g2, g3, g4, g5, g6, g7, g8, g9, w10, g10⟩
    · simp only [e, if_false]
      exact ⟨w0, w1, w2, w3, w4, w5, w6, w7, w8, w9, w10, w11⟩
  · rw [rowZ_hi (by omega)]; exact W.2.1
  · rw [rowZ_hi (by omega)]
    intro e q hq
    rw [rowZ_hi (by omega), rowZ_at hq (by omega)]
    have := W.2.2.1 e q hq
    refine ⟨this.1, ?_⟩
    split
    · exact h5 e
    · exact this.2
  · rw [rowZ_hi (by omega)]; exact W.2.2.2.1
  · rw [rowZ_hi (by omega)]; exact W.2.2.2.2.1
  · rw [rowZ_hi (by omega)]; exact W.2.2.2.2.2.1
  · rw [rowZ_hi (by omega)]; exact W.2.2.2.2.2.2.1
  · rw [rowZ_hi (by omega)]; exact W.2.2.2.2.2.2.2.1
  · rw [rowZ_hi (by omega)]; exact W.2.2.2.2.2.2.2.2.1
  · rw [rowZ_hi (by omega)]; exact W.2.2.2.2.2.2.2.2.2.1
  · intro k h1 h2
    rw [rowZ_hi (by omega)]; exact W.2.2.2.2.2.2.2.2.2.2.1 k h1 h2
  · rw [rowZ_hi (by omega)]
    intro e b hb
    rw [hs.blk] at hb
    have a1 := slot_lt Z b
    rw [hs.slot, hs.num, hs.sl (by omega), hs.nu (by omega), rowZ_hi (by omega), rowZ_hi (by omega)]
    exact W.2.2.2.2.2.2.2.2.2.2.2 e b hb
theorem WF.mono {T T' : Nat} {Z : Nat → Nat} (W : WF T Z) (h : T ≤ T') : WF T' Z := by
  obtain ⟨a0, a1, a2, a3, a4, a5, a6, a7, a8, a9, a10, a11⟩ := W
  refine ⟨fun s hs => ?_, a1, a2, by omega, by omega, by omega, by omega, by omega, a8, a9, a10, a11⟩
  obtain ⟨w0, w1, w2, w3, w4, w5, w6, w7, w8, w9, w10, w11⟩ := a0 s hs
  exact ⟨w0, w1, w2, w3, w4, w5, w6, w7, w8, by omega, w10, w11⟩
theorem gt_row {Z : Nat → Nat} {s q j : Nat} {g : Nat → Nat} (hq : q < 4) (hj : j < 9) : gt (rowZ Z s g) q j = if q = s then (if g 0 = 1 then g j else 0) else gt Z q j := by
  unfold gt
  rw [rowZ_0 hq, rowZ_at hq hj]
  by_cases e : q = s
  · simp only [e, if_true]
  · simp only [e, if_false]
-- the whole invariant
