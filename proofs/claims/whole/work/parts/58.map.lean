-- ===== a map is made =====
theorem kI_succ (n : Nat) : kI (n + 1) = nI n := nI_pred n
def gd (Z : Nat → Nat) (s : Nat) : Nat := if Z (9 * s) = 1 ∧ Z (9 * s + 4) = 0 then 1 else 0
def mkZ (Z : Nat → Nat) (map j : Nat) : Nat → Nat := fun k =>
  if k = 40 then map + 1 else if 36 ≤ k ∧ k < 40 then (if k < 36 + j then gs Z (k - 36) else 0) else if k < 36 ∧ k % 9 = 5 then (if k < 9 * j then gd Z (k / 9) else 0) else if k < 9 * j ∧ k < 36 ∧ (k % 9 = 6 ∨ k % 9 = 7) then Z 41 else Z k
theorem mkZ_at {Z : Nat → Nat} {map j s w : Nat} (hs : s < 4) (hw : w < 9) : mkZ Z map j (9 * s + w) = if w = 5 then (if s < j then gd Z s else 0) else if s < j ∧ (w = 6 ∨ w = 7) then Z 41 else Z (9 * s + w) := by
  unfold mkZ
  rw [if_neg (by omega), if_neg (by omega)]
  by_cases e : w = 5
  · rw [if_pos (by omega), if_pos e, show (9 * s + w) / 9 = s by omega]
    by_cases e2 : s < j
    · rw [if_pos (by omega), if_pos e2]
    · rw [if_neg (by omega), if_neg e2]
  · rw [if_neg (by omega), if_neg e]
    by_cases e2 : s < j ∧ (w = 6 ∨ w = 7)
    · rw [if_pos e2, if_pos (by omega)]
    · rw [if_neg e2, if_neg (by omega)]
theorem mkZ_0 {Z : Nat → Nat} {map j s : Nat} (hs : s < 4) : mkZ Z map j (9 * s) = Z (9 * s) := by
  have := mkZ_at (Z := Z) (map := map) (j := j) (w := 0) hs (by omega)
  simpa using this
theorem mkZ_mp {Z : Nat → Nat} {map j s : Nat} (hs : s < 4) : mkZ Z map j (36 + s) = if s < j then gs Z s else 0 := by
  unfold mkZ
  rw [if_neg (by omega), if_pos (by omega), show 36 + s - 36 = s by omega]
  by_cases e : s < j
  · rw [if_pos (by omega), if_pos e]
  · rw [if_neg (by omega), if_neg e]
theorem mkZ_40 {Z : Nat → Nat} {map j : Nat} : mkZ Z map j 40 = map + 1 := if_pos rfl
theorem mkZ_hi {Z : Nat → Nat} {map j k : Nat} (h : 40 < k) : mkZ Z map j k = Z k := by
  unfold mkZ
  rw [if_neg (by omega), if_neg (by omega), if_neg (by omega), if_neg (by omega)]
theorem mkZ_ne {Z : Nat → Nat} {map j k : Nat} (h1 : k ≠ 36 + j) (h2 : k ≠ 9 * j + 5) (h3 : k ≠ 9 * j + 6) (h4 : k ≠ 9 * j + 7) : mkZ Z map (j + 1) k = mkZ Z map j k := by
  unfold mkZ
  by_cases a : k = 40
  · rw [if_pos a, if_pos a]
  rw [if_neg a, if_neg a]
  by_cases b : 36 ≤ k ∧ k < 40
  · rw [if_pos b, if_pos b]
    by_cases e : k < 36 + j
    · rw [if_pos e, if_pos (by omega)]
    · rw [if_neg e, if_neg (by omega)]
  rw [if_neg b, if_neg b]
  by_cases d : k < 36 ∧ k % 9 = 5
  · rw [if_pos d, if_pos d]
    by_cases e : k < 9 * j
    · rw [if_pos e, if_pos (by omega)]
    · rw [if_neg e, if_neg (by omega)]
  rw [if_neg d, if_neg d]
  by_cases e : k < 9 * j ∧ k < 36 ∧ (k % 9 = 6 ∨ k % 9 = 7)
  · rw [if_pos e, if_pos (by omega)]
  · rw [if_neg e, if_neg (by omega)]
theorem mk_end {z : Nat → Int32} {Z : Nat → Nat} {map j : Nat} (hj : j < 4) (h : RZ z (zu (zu (mkZ Z map j) (36 + j) (gs Z j)) (9 * j + 5) (gd Z j))) : RZ (upd (upd z (9 * j + 6) (nI (Z 41))) (9 * j + 7) (nI (Z 41))) (mkZ Z map (j + 1)) := by
  refine RZ_congr (RZ_zu (RZ_zu h (by omega)) (by omega)) (fun k hk => ?_)
  by_cases e7 : k = 9 * j + 7
  · subst e7; rw [zu_eq, mkZ_at hj (by omega), if_neg (by omega), if_pos (by omega)]
  rw [zu_ne e7]
  by_cases e6 : k = 9 * j + 6
  · subst e6; rw [zu_eq, mkZ_at hj (by omega), if_neg (by omega), if_pos (by omega)]
  rw [zu_ne e6]
  by_cases e5 : k = 9 * j + 5
  · subst e5; rw [zu_eq, mkZ_at hj (by omega), if_pos rfl, if_pos (by omega)]
  rw [zu_ne e5]
  by_cases e3 : k = 36 + j
  · subst e3; rw [zu_eq, mkZ_mp hj, if_pos (by omega)]
  rw [zu_ne e3, mkZ_ne e3 e5 e6 e7]
theorem mk58 {K : VM → Int32 → Option VM} (m : VM) {Z : Nat → Nat} {j : Nat} (hj : j < 4) (h41 : m.2.1 41 = nI (Z 41)) : b_X6_makeMap_58 K m (nI j) = K (m.1, upd (upd m.2.1 (9 * j + 6) (nI (Z 41))) (9 * j + 7) (nI (Z 41)), m.2.2) (nI (j + 1)) := by
  unfold b_X6_makeMap_58
  rw [i41, p_ard (by omega) (by omega), Option.bind_some, h41, i6, m_put _ hj (by omega), Option.bind_some]
  dsimp only
  rw [p_ard (by omega) (by omega), Option.bind_some, upd_ne _ _ (by omega), h41, i7, m_put _ hj (by omega), Option.bind_some, i1, nI_add]
theorem mk_step {T : Nat} {Z : Nat → Nat} {m : VM} {map j n : Nat} (W : WF T Z) (hj : j < 4) (h : RZ m.2.1 (mkZ Z map j)) : ∃ z', l_X6_makeMap_14 (n + 1) m (nI j) = l_X6_makeMap_14 n (m.1, z', m.2.2) (nI (j + 1)) ∧ RZ z' (mkZ Z map (j + 1)) := by
  obtain ⟨w0, w1, w2, w3, w4, w5, w6, w7, w8, w9, w10, w11⟩ := W.1 j hj
  have h41 : m.2.1 41 = nI (Z 41) := by
    rw [h 41 (by omega)]
    unfold zOf
    rw [if_neg (by omega), mkZ_hi (by omega)]
  have hth : f_X6_isThere m (nI j) = some (bI (decide (Z (9 * j) = 1))) := by
    unfold f_X6_isThere
    rw [i0, m_of h hj (by omega), Option.bind_some, Nat.add_zero, mkZ_0 hj]
    simp (discharger := omega) only [i1, nI_eq, bo_if]
  have hof4 : f_X6_of m (nI j) 4 = some (nI (Z (9 * j + 4))) := by
    rw [i4, m_of h hj (by omega), mkZ_at hj (by omega), if_neg (by omega), if_neg (by omega)]
  have hof1 : f_X6_of m (nI j) 1 = some (nI (Z (9 * j + 1))) := by
    rw [i1, m_of h hj (by omega), mkZ_at hj (by omega), if_neg (by omega), if_neg (by omega)]
  rw [l_X6_makeMap_14, i4, if_pos (nI_lt hj (by omega)), hth, Option.bind_some, ← i4, hof4, Option.bind_some, hof1, Option.bind_some, i36, nI_add, p_aup (by omega) (by omega), Option.bind_some, i5, m_put _ hj (by omega), Option.bind_some, i0]
  simp (discharger := omega) only [nI_eq]
  by_cases e : Z (9 * j) = 1 ∧ Z (9 * j + 4) = 0
  · have eg : gs Z j = Z (9 * j + 1) := by unfold gs; rw [if_pos e]
    have ed : gd Z j = 1 := by unfold gd; rw [if_pos e]
    rw [if_neg (bI_tn e.1), if_pos e.2]
    refine ⟨_, mk58 (Z := Z) _ hj ?_, mk_end hj ?_⟩
    · dsimp only
      rw [upd_ne _ _ (by omega), upd_ne _ _ (by omega)]
      exact h41
    · rw [eg, ed, i1]
      exact RZ_zu (RZ_zu h (by omega)) (by omega)
  · have eg : gs Z j = 0 := by unfold gs; rw [if_neg e]
    have ed : gd Z j = 0 := by unfold gd; rw [if_neg e]
    have hz : RZ m.2.1 (zu (zu (mkZ Z map j) (36 + j) (gs Z j)) (9 * j + 5) (gd Z j)) := by
      rw [eg, ed]
      refine RZ_congr h (fun k hk => ?_)
      by_cases e5 : k = 9 * j + 5
      · subst e5; rw [zu_eq, mkZ_at hj (by omega), if_pos rfl, if_neg (by omega)]
      rw [zu_ne e5]
      by_cases e3 : k = 36 + j
      · subst e3; rw [zu_eq, mkZ_mp hj, if_neg (by omega)]
      rw [zu_ne e3]
    by_cases e1 : Z (9 * j) = 1
    · rw [if_neg (bI_tn e1), if_neg (fun q => e ⟨e1, q⟩)]
      exact ⟨_, mk58 (Z := Z) _ hj h41, mk_end hj hz⟩
    · rw [if_pos (bI_fn e1)]
      exact ⟨_, mk58 (Z := Z) _ hj h41, mk_end hj hz⟩
