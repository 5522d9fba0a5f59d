-- ===== write =====
def wrZ (Z : Nat → Nat) (b v : Nat) : Nat → Nat := fun k => if k = 48 + 12 * slotN Z b + numN Z b ∨ (Z 40 = 3 ∧ k = 48 + 12 * slN Z 1 b + nuN Z 1 b) then v else Z k
theorem ard_up {n : Nat} {f : Nat → Int32} {k p : Nat} {x : Int32} (hk : k < n) (hn : n < 2 ^ 31) (h : k ≠ p) : ard n (upd f p x) (nI k) = ard n f (nI k) := by
  rw [p_ard hk hn, p_ard hk hn, upd_ne _ _ h]
section
variable {T : Nat} {Z : Nat → Nat} {ly : VLy} {sk : VSk} {ck : VCk} {st : VSt} {b s v : Nat}
theorem wr_SL (Z : Nat → Nat) (b v : Nat) : SL Z (wrZ Z b v) := fun k _ h2 => by
  unfold wrZ
  rw [if_neg (by omega)]
theorem wr_lo {k : Nat} (h : k < 48) : wrZ Z b v k = Z k := by unfold wrZ; rw [if_neg (by omega)]
theorem mir_slot (h3 : Z 40 = 3) (b : Nat) : slotN Z b < 2 ∧ 2 ≤ slN Z 1 b := by
  unfold slotN
  have : chN Z b = 0 := by unfold chN; rw [if_pos h3]
  rw [this]
  unfold slN
  constructor
  · split <;> omega
  · split <;> omega
theorem wr_at (W : WF T Z) (hb : b < blkN Z) {b2 : Nat} (hb2 : b2 < blkN Z) : wrZ Z b v (48 + 12 * slotN Z b2 + numN Z b2) = if b2 = b then v else Z (48 + 12 * slotN Z b2 + numN Z b2) := by
  unfold wrZ
  by_cases e : b2 = b
  · subst e; rw [if_pos (Or.inl rfl), if_pos rfl]
  · rw [if_neg e, if_neg]
    rintro (q | ⟨q3, q⟩)
    · exact e (place_inj W hb2 hb q)
    · have h1 := mir_slot q3 b
      have h2 := mir_slot q3 b2
      have h3 := num_lt W hb2
      have h4 := num2_lt W hb q3
      omega
theorem wr_at2 (W : WF T Z) (hb : b < blkN Z) {b2 : Nat} (hb2 : b2 < blkN Z) (q3 : Z 40 = 3) : wrZ Z b v (48 + 12 * slN Z 1 b2 + nuN Z 1 b2) = if b2 = b then v else Z (48 + 12 * slN Z 1 b2 + nuN Z 1 b2) := by
  unfold wrZ
  by_cases e : b2 = b
  · subst e; rw [if_pos (Or.inr ⟨q3, rfl⟩), if_pos rfl]
  · rw [if_neg e, if_neg]
    have h1 := mir_slot q3 b
    have h2 := mir_slot q3 b2
    have h3 := num2_lt W hb2 q3
    have h4 := num2_lt W hb q3
    rintro (q | ⟨_, q⟩)
    · have h5 := num_lt W hb
      omega
    · have e1 : slN Z 1 b2 = slN Z 1 b := by omega
      have e2 : nuN Z 1 b2 = nuN Z 1 b := by omega
      apply e
      rw [← bk_inv2 W hb2 q3, ← bk_inv2 W hb q3, e1, e2]
theorem WF_wr (W : WF T Z) (hb : b < blkN Z) (hv : v ≤ 99) : WF T (wrZ Z b v) := by
  have hs := wr_SL Z b v
  obtain ⟨a0, a1, a2, a3, a4, a5, a6, a7, a8, a9, a10, a11⟩ := id W
  refine ⟨fun q hq => ?_, ?_, ?_, ?_, ?_, ?_, ?_, ?_, ?_, ?_, ?_, ?_⟩
  · have := a0 q hq
    rw [wr_lo (k := 9 * q) (by omega), wr_lo (k := 9 * q + 1) (by omega), wr_lo (k := 9 * q + 2) (by omega), wr_lo (k := 9 * q + 3) (by omega), wr_lo (k := 9 * q + 4) (by omega), wr_lo (k := 9 * q + 5) (by omega), wr_lo (k := 9 * q + 6) (by omega), wr_lo (k := 9 * q + 7) (by omega), wr_lo (k := 9 * q + 8) (by omega), wr_lo (k := 36 + q) (by omega), wr_lo (k := 41) (by omega)]
    exact this
  · rw [wr_lo (by omega)]; exact a1
  · rw [wr_lo (by omega)]
    intro e q hq
    rw [wr_lo (by omega), wr_lo (by omega)]
    exact a2 e q hq
  · rw [wr_lo (by omega)]; exact a3
  · rw [wr_lo (by omega)]; exact a4
  · rw [wr_lo (by omega)]; exact a5
  · rw [wr_lo (by omega)]; exact a6
  · rw [wr_lo (by omega)]; exact a7
  · rw [wr_lo (by omega)]; exact a8
  · rw [wr_lo (by omega)]; exact a9
  · intro k h1 h2
    unfold wrZ
    split
    · exact hv
    · exact a10 k h1 h2
  · rw [wr_lo (by omega)]
    intro e b2 hb2
    rw [hs.blk] at hb2
    rw [hs.slot, hs.num, hs.sl (by omega), hs.nu (by omega), wr_at W hb hb2, wr_at2 W hb hb2 e, a11 e b2 hb2]
theorem s_exch (W : WF T Z) (h : RS st Z) (hb : b < blkN Z) : f_X2_exchange st (nI b) (nI v) = some (nI (Z (48 + 12 * slotN Z b + numN Z b)), (st.1, st.2.1, st.2.2.1, upd st.2.2.2.1 b (nI v), st.2.2.2.2)) := by
  have := W.blk
  unfold f_X2_exchange
  rw [s_held W h hb, Option.bind_some, if_neg (nI_pos (by omega)), i48, if_pos (nI_lt (by omega) (by omega)), p_aup (by omega) (by omega)]; rfl
theorem wr_RS (W : WF T Z) (h : RS st Z) (hb : b < blkN Z) : RS (st.1, st.2.1, st.2.2.1, upd st.2.2.2.1 b (nI v), st.2.2.2.2) (wrZ Z b v) := by
  obtain ⟨hk, hl, hc, hv, hi⟩ := h
  have hs := wr_SL Z b v
  refine ⟨fun q hq => ?_, hs.ly hl, ⟨fun q hq => ?_, ?_, ?_⟩, fun b2 hb2 => ?_, ?_⟩
  · have := hk q hq
    unfold gt at *
    rw [wr_lo (k := 9 * q) (by omega), wr_lo (k := 9 * q + 1) (by omega), wr_lo (k := 9 * q + 2) (by omega), wr_lo (k := 9 * q + 3) (by omega), wr_lo (k := 9 * q + 4) (by omega), wr_lo (k := 9 * q + 5) (by omega), wr_lo (k := 9 * q + 8) (by omega)]
    exact this
  · rw [wr_lo (by omega), wr_lo (by omega)]; exact hc.1 q hq
  · rw [wr_lo (by omega)]; exact hc.2.1
  · rw [wr_lo (by omega)]; exact hc.2.2
  · rw [hs.blk] at hb2
    rw [hs.slot, hs.num, wr_at W hb hb2]
    dsimp only
    unfold upd
    by_cases e : b2 = b
    · rw [if_pos e, if_pos e]
    · rw [if_neg e, if_neg e]; exact hv b2 hb2
  · unfold RI
    rw [wr_lo (by omega), wr_lo (by omega), wr_lo (by omega), wr_lo (by omega), wr_lo (by omega)]
    exact hi
end
