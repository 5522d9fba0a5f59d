-- ===== rest and set =====
def zu (Z : Nat → Nat) (k x : Nat) : Nat → Nat := fun j => if j = k then x else Z j
theorem zu_ne {Z : Nat → Nat} {k x j : Nat} (h : j ≠ k) : zu Z k x j = Z j := if_neg h
theorem zu_eq {Z : Nat → Nat} {k x : Nat} : zu Z k x k = x := if_pos rfl
section
variable {T : Nat} {Z : Nat → Nat} {k x : Nat} {st : VSt}
theorem zu_SL (h : 40 < k) : SL Z (zu Z k x) := fun j _ h2 => zu_ne (by omega)
theorem zu_gt (h : 40 < k) {s j : Nat} (hs : s < 4) (hj : j < 9) : gt (zu Z k x) s j = gt Z s j := by unfold gt; rw [zu_ne (by omega), zu_ne (by omega)]
theorem zu_K (h : 40 < k) {sk : VSk} (r : RK sk Z) : RK sk (zu Z k x) := fun s hs => by
  rw [zu_gt h hs (by omega), zu_gt h hs (by omega), zu_gt h hs (by omega), zu_gt h hs (by omega), zu_gt h hs (by omega), zu_ne (by omega)]
  exact r s hs
theorem WF_zu (W : WF T Z) {T' : Nat} (h : 40 < k) (h2 : k < 48) (hT : T ≤ T') (h41 : k = 41 → Z 41 ≤ x) (hx : (k = 46 → x ≤ 2) ∧ (k = 47 → x ≤ 1) ∧ x ≤ T' + 2) (hx2 : k < 46 → x ≤ T') : WF T' (zu Z k x) := by
  obtain ⟨a0, a1, a2, a3, a4, a5, a6, a7, a8, a9, a10, a11⟩ := W.mono hT
  have hs := zu_SL (Z := Z) (x := x) h
  have ev : ∀ j, zu Z k x j = if j = k then x else Z j := fun _ => rfl
  refine ⟨fun q hq => ?_, ?_, ?_, ?_, ?_, ?_, ?_, ?_, ?_, ?_, ?_, ?_⟩
  · obtain ⟨w0, w1, w2, w3, w4, w5, w6, w7, w8, w9, w10, w11⟩ := a0 q hq
    rw [zu_ne (j := 9 * q) (by omega), zu_ne (j := 9 * q + 1) (by omega), zu_ne (j := 9 * q + 2) (by omega), zu_ne (j := 9 * q + 3) (by omega), zu_ne (j := 9 * q + 4) (by omega), zu_ne (j := 9 * q + 5) (by omega), zu_ne (j := 9 * q + 6) (by omega), zu_ne (j := 9 * q + 7) (by omega), zu_ne (j := 9 * q + 8) (by omega), zu_ne (j := 36 + q) (by omega)]
    refine ⟨w0, w1, w2, w3, w4, w5, w6, ?_, ?_, w9, w10, w11⟩
    · rw [ev 41]; split <;> omega
    · rw [ev 41]; split <;> omega
  · rw [zu_ne (by omega)]; exact a1
  · rw [zu_ne (by omega)]
    intro e q hq
    rw [zu_ne (by omega), zu_ne (by omega)]
    exact a2 e q hq
  · rw [ev 41]; split <;> omega
  · rw [ev 42]; split <;> omega
  · rw [ev 43]; split <;> omega
  · rw [ev 44]; split <;> omega
  · rw [ev 45]; split <;> omega
  · rw [ev 46]; split <;> omega
  · rw [ev 47]; split <;> omega
  · intro j h1 h2
    rw [zu_ne (by omega)]; exact a10 j h1 h2
  · rw [zu_ne (by omega)]
    intro e b hb
    rw [hs.blk] at hb
    have b1 := slot_lt Z b
    rw [hs.slot, hs.num, hs.sl (by omega), hs.nu (by omega), zu_ne (by omega), zu_ne (by omega)]
    exact a11 e b hb
end
