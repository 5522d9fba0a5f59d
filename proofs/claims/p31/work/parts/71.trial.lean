-- ===== what would be =====
abbrev M0 : Type := (Nat → Int32) × Int32 × (Nat → Int32) × Int32 × (Nat → Int32) × Int32 × Int32 × Int32
-- started
def stN (Z : Nat → Nat) (map what : Nat) : Nat := if whyN Z map = 0 then (if what = 0 then blkN (mapZ Z map) else wideN (mapZ Z map)) else 0
theorem gLy (c : VC) (w : VLy) {k : Nat} (h : k < 8) : gSt (sLy c 8 w) k = gSt c k := by
  unfold gSt sLy
  simp only [va_up_ne _ _ (show k ≠ 8 by omega)]
theorem gCk8 (c : VC) (w : VCk) {k : Nat} (h : k < 8) : gSt (sCk c 8 w) k = gSt c k := by
  unfold gSt sCk
  simp only [va_up_ne _ _ (show k ≠ 8 by omega)]
section
variable {T : Nat} {Z : Nat → Nat} {map what : Nat} {c : VC}
theorem c_started (W : WF T Z) (h : RK (c.1 0) Z) (hm : map ≤ 2) (hw : what ≤ 1) : ∃ c', f_X5_blocksIfStarted c (nI map) (nI what) = some (nI (stN Z map what), c') ∧ (∀ k, k < 8 → gSt c' k = gSt c k) ∧ c'.2.2.2.2.2 = c.2.2.2.2.2 := by
  have hy := whyN_le Z map
  unfold f_X5_blocksIfStarted stN
  rw [k_hind W h hm, Option.bind_some, i0]
  simp (discharger := omega) only [nI_eq]
  by_cases e : whyN Z map = 0
  · rw [if_pos e, if_pos e]
    obtain ⟨w, h1, h2⟩ := l_lay (ly := c.2.1 8) W h hm
    rw [h1, Option.bind_some]
    refine ⟨sLy c 8 w, ?_, fun k hk => gLy c w hk, rfl⟩
    rw [sLy_get, h2.2.2.2.2.2.1, h2.2.2.2.2.2.2]
    split <;> rfl
  · rw [if_neg e, if_neg e]
    exact ⟨c, rfl, fun k _ => rfl, rfl⟩
end
