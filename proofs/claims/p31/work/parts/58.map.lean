-- ===== a map is made =====
theorem kI_succ (n : Nat) : kI (n + 1) = nI n := nI_pred n
def gd (Z : Nat → Nat) (s : Nat) : Nat := if Z (9 * s) = 1 ∧ Z (9 * s + 4) = 0 then 1 else 0
def mkZ (Z : Nat → Nat) (map j : Nat) : Nat → Nat := fun k =>
  if k = 40 then map + 1 else if 36 ≤ k ∧ k < 40 then (if k < 36 + j then gs Z (k - 36) else 0) else if k < 36 ∧ k % 9 = 5 then (if k < 9 * j then gd Z (k / 9) else 0) else if k < 9 * j ∧ k < 36 ∧ (k % 9 = 6 ∨ k % 9 = 7) then Z 41 else Z k
theorem mkZ_at {Z : Nat → Nat} {map j s w : Nat} (hs : s < 4) (hw : w < 9) : mkZ Z map j (9 * s + w) = if w = 5 then (if s < j then gd Z s else 0) else if s < j ∧ (w = 6 ∨ w = 7) then Z 41 else Z (9 * s + w) := by
  unfold mkZ
  rw [if_neg (by omega), if_neg (by omega)]
  by_cases e : w = 5
  · rw [if_pos (by omega), if_pos e, show (9 * s + w) / 9 = s by omega]
    by_cases e2 : s < j
    · rw [if_pos (by omega), if_pos e2]
    · rw [if_neg (by omega), if_neg e2]
  · rw [if_neg (by omega), if_neg e]
    by_cases e2 : s < j ∧ (w = 6 ∨ w = 7)
    · rw [if_pos e2, if_pos (by omega)]
    · rw [if_neg e2, if_neg (by omega)]
theorem mkZ_0 {Z : Nat → Nat} {map j s : Nat} (hs : s < 4) : mkZ Z map j (9 * s) = Z (9 * s) := by
  have := mkZ_at (Z := Z) (map := map) (j := j) (w := 0) hs (by omega)
  simpa using this
theorem mkZ_mp {Z : Nat → Nat} {map j s : Nat} (hs : s < 4) : mkZ Z map j (36 + s) = if s < j then gs Z s else 0 := by
  unfold mkZ
  rw [if_neg (by omega), if_pos (by omega), show 36 + s - 36 = s by omega]
  by_cases e : s < j
  · rw [if_pos (by omega), if_pos e]
  · rw [if_neg (by omega), if_neg e]
theorem mkZ_40 {Z : Nat → Nat} {map j : Nat} : mkZ Z map j 40 = map + 1 := if_pos rfl
theorem mkZ_hi {Z : Nat → Nat} {map j k : Nat} (h : 40 < k) : mkZ Z map j k = Z k := by
  unfold mkZ
  rw [if_neg (by omega), if_neg (by omega), if_neg (by omega), if_neg (by omega)]
theorem mkZ_ne {Z : Nat → Nat} {map j k : Nat} (h1 : k ≠ 36 + j) (h2 : k ≠ 9 * j + 5) (h3 : k ≠ 9 * j + 6) (h4 : k ≠ 9 * j + 7) : mkZ Z map (j + 1) k = mkZ Z map j k := by
  unfold mkZ
  by_cases a : k = 40
  · rw [if_pos a, if_pos a]
  rw [if_neg a, if_neg a]
  by_cases b : 36 ≤ k ∧ k < 40
  · rw [if_pos b, if_pos b]
    by_cases e : k < 36 + j
    · rw [if_pos e, if_pos (by omega)]
    · rw [if_neg e, if_neg (by omega)]
  rw [if_neg b, if_neg b]
  by_cases d : k < 36 ∧ k % 9 = 5
  · rw [if_pos d, if_pos d]
    by_cases e : k < 9 * j
    · rw [if_pos e, if_pos (by omega)]
    · rw [if_neg e, if_neg (by omega)]
  rw [if_neg d, if_neg d]
  by_cases e : k < 9 * j ∧ k < 36 ∧ (k % 9 = 6 ∨ k % 9 = 7)
  · rw [if_pos e, if_pos (by omega)]
  · rw [if_neg e, if_neg (by omega)]
