def mapZ (Z : Nat → Nat) (map : Nat) : Nat → Nat := fun k => if 48 ≤ k then 0 else mkZ Z map 4 k
def zrW (z : Nat → Int32) (j : Nat) : Nat → Int32 := fun k => if 48 ≤ k ∧ k < j then nI 0 else z k
theorem zrW_succ (z : Nat → Int32) {j : Nat} (h : 48 ≤ j) : upd (zrW z j) j (nI 0) = zrW z (j + 1) := by
  funext k
  unfold upd zrW
  by_cases e : k = j
  · rw [if_pos e, if_pos (by omega)]
  · rw [if_neg e]
    by_cases q : 48 ≤ k ∧ k < j
    · rw [if_pos q, if_pos (by omega)]
    · rw [if_neg q, if_neg (by omega)]
theorem zrW_0 (z : Nat → Int32) : zrW z 48 = z := by funext k; unfold zrW; rw [if_neg (by omega)]
