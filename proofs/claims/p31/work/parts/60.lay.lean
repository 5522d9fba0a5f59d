-- ===== the map that is made: bounds, and the class's =====
section
variable {T : Nat} {Z : Nat → Nat} {map : Nat} {sk : VSk} {ly : VLy}
theorem mp_at {s w : Nat} (hs : s < 4) (hw : w < 9) : mapZ Z map (9 * s + w) = if w = 5 then gd Z s else if w = 6 ∨ w = 7 then Z 41 else Z (9 * s + w) := by
  unfold mapZ
  rw [if_neg (by omega), mkZ_at hs hw, if_pos hs]
  by_cases e : w = 5
  · rw [if_pos e, if_pos e]
  · rw [if_neg e, if_neg e]
    by_cases e2 : w = 6 ∨ w = 7
    · rw [if_pos ⟨hs, e2⟩, if_pos e2]
    · rw [if_neg (fun q => e2 q.2), if_neg e2]
theorem mp_0 {s : Nat} (hs : s < 4) : mapZ Z map (9 * s) = Z (9 * s) := by
  have := mp_at (Z := Z) (map := map) (w := 0) hs (by omega)
  simpa using this
theorem mp_mp {s : Nat} (hs : s < 4) : mapZ Z map (36 + s) = gs Z s := by
  unfold mapZ
  rw [if_neg (by omega), mkZ_mp hs, if_pos hs]
theorem mp_40 : mapZ Z map 40 = map + 1 := rfl
theorem mp_mid {k : Nat} (h : 40 < k) (h2 : k < 48) : mapZ Z map k = Z k := by
  unfold mapZ
  rw [if_neg (by omega), mkZ_hi h]
theorem mp_hi {k : Nat} (h : 48 ≤ k) : mapZ Z map k = 0 := if_pos h
theorem mp_room : roomA (mapZ Z map) = grA Z ∧ roomB (mapZ Z map) = grB Z := by
  have h0 := mp_mp (Z := Z) (map := map) (s := 0) (by omega)
  have h1 := mp_mp (Z := Z) (map := map) (s := 1) (by omega)
  have h2 := mp_mp (Z := Z) (map := map) (s := 2) (by omega)
  have h3 := mp_mp (Z := Z) (map := map) (s := 3) (by omega)
  unfold roomA roomB grA grB
  exact ⟨by rw [← h0, ← h1], by rw [← h2, ← h3]⟩
theorem gd_le (Z : Nat → Nat) (s : Nat) : gd Z s ≤ 1 ∧ (gd Z s = 1 → Z (9 * s) = 1 ∧ Z (9 * s + 4) = 0) := by
  unfold gd
  by_cases e : Z (9 * s) = 1 ∧ Z (9 * s + 4) = 0
  · rw [if_pos e]; exact ⟨by omega, fun _ => e⟩
  · rw [if_neg e]; exact ⟨by omega, fun q => by omega⟩
theorem WF_map (W : WF T Z) (hm : map ≤ 2) : WF T (mapZ Z map) := by
  obtain ⟨a0, a1, a2, a3, a4, a5, a6, a7, a8, a9, a10, a11⟩ := W
  refine ⟨fun q hq => ?_, ?_, ?_, ?_, ?_, ?_, ?_, ?_, ?_, ?_, ?_, ?_⟩
  · obtain ⟨w0, w1, w2, w3, w4, w5, w6, w7, w8, w9, w10, w11⟩ := a0 q hq
    rw [mp_0 hq, mp_at (w := 1) hq (by omega), mp_at (w := 2) hq (by omega), mp_at (w := 3) hq (by omega), mp_at (w := 4) hq (by omega), mp_at (w := 5) hq (by omega), mp_at (w := 6) hq (by omega), mp_at (w := 7) hq (by omega), mp_at (w := 8) hq (by omega), mp_mp hq, mp_mid (k := 41) (by omega) (by omega)]
    simp only [Nat.reduceEqDiff, if_true, if_false, or_self, or_false, false_or, or_true, true_or]
    have g := gd_le Z q
    have g2 : gs Z q ≤ 12 := by unfold gs; split <;> omega
    exact ⟨w0, w1, w2, w3, w4, g.1, fun e => (g.2 e).1, by omega, by omega, w9, g2, w11⟩
  · rw [mp_40]; omega
  · rw [mp_40]; omega
  · rw [mp_mid (by omega) (by omega)]; exact a3
  · rw [mp_mid (by omega) (by omega)]; exact a4
  · rw [mp_mid (by omega) (by omega)]; exact a5
  · rw [mp_mid (by omega) (by omega)]; exact a6
  · rw [mp_mid (by omega) (by omega)]; exact a7
  · rw [mp_mid (by omega) (by omega)]; exact a8
  · rw [mp_mid (by omega) (by omega)]; exact a9
  · intro k h1 _
    rw [mp_hi h1]; omega
  · intro _ b _
    rw [mp_hi (by omega), mp_hi (by omega)]
theorem lay_L (W : WF T Z) (h : RK sk Z) {n s : Nat} (hs : s < 4) : l_X1_lay_7 sk (n + 1) ly (nI s) = l_X1_lay_7 sk n (ly.1, upd ly.2.1 s (nI (gs Z s)), ly.2.2) (nI (s + 1)) := by
  rw [l_X1_lay_7, i4, if_pos (nI_lt hs (by omega)), k_gsz W h hs, Option.bind_some, p_aup hs (by omega), Option.bind_some, i1, nI_add]
theorem p_min {a b : Nat} (ha : a < 2 ^ 31) (hb : b < 2 ^ 31) : f_J9_min_7cf53 (nI a) (nI b) = some (nI (min a b)) := by
  unfold f_J9_min_7cf53
  simp (discharger := omega) only [nI_ltI, sn_if]
  apply sn_eq
  split <;> omega
theorem l_lay (W : WF T Z) (h : RK sk Z) (hm : map ≤ 2) : ∃ w, f_X1_lay ly sk (nI map) = some w ∧ RLy w (mapZ Z map) := by
  have hg := gr_le W
  obtain ⟨hA, hB⟩ := mp_room (Z := Z) (map := map)
  have hl : lesN (mapZ Z map) = min (grA Z) (grB Z) := by unfold lesN; rw [hA, hB]
  have hb : blkN (mapZ Z map) = if map = 2 then min (grA Z) (grB Z) else grA Z + grB Z := by
    unfold blkN
    rw [mp_40, if_neg (by omega), hl, hA, hB]
    by_cases e : map = 2
    · rw [if_pos e, if_pos (by omega)]
    · rw [if_neg e, if_neg (by omega)]
  have hw : wideN (mapZ Z map) = if map = 0 then 2 * min (grA Z) (grB Z) else 0 := by
    unfold wideN
    rw [mp_40, hl]
    by_cases e : map = 0
    · rw [if_pos e, if_pos (by omega)]
    · rw [if_neg e, if_neg (by omega)]
  have he : f_X1_lay ly sk (nI map) = some (nI map, upd (upd (upd (upd ly.2.1 0 (nI (gs Z 0))) 1 (nI (gs Z 1))) 2 (nI (gs Z 2))) 3 (nI (gs Z 3)), nI (grA Z), nI (grB Z), nI (min (grA Z) (grB Z)), nI (blkN (mapZ Z map)), nI (wideN (mapZ Z map))) := by
    show l_X1_lay_7 sk (999 + 1) (nI map, ly.2) (nI 0) = _
    rw [lay_L W h (by omega), show (999 : Nat) = 998 + 1 from rfl, lay_L W h (by omega), show (998 : Nat) = 997 + 1 from rfl, lay_L W h (by omega), show (997 : Nat) = 996 + 1 from rfl, lay_L W h (by omega), show (996 : Nat) = 995 + 1 from rfl, l_X1_lay_7, if_neg (by decide), i0, i1, i2, i3]
    dsimp only
    rw [p_ard (by omega) (by omega), Option.bind_some, p_ard (by omega) (by omega), Option.bind_some, p_ard (by omega) (by omega), Option.bind_some, p_ard (by omega) (by omega), Option.bind_some]
    simp only [upd, Nat.reduceEqDiff, if_true, if_false, Nat.zero_ne_one, nI_add]
    change ((f_J9_min_7cf53 (nI (grA Z)) (nI (grB Z))).bind _) = _
    rw [p_min (by omega) (by omega), Option.bind_some]
    unfold b_X1_lay_103
    rw [hb, hw]
    simp (discharger := omega) only [i0, i2, nI_eq, pk_mul]
    by_cases e2 : map = 2
    · have e0 : ¬ map = 0 := by omega
      rw [if_pos e2, if_pos e2, if_neg e0, if_neg e0]; rfl
    · rw [if_neg e2, if_neg e2]
      by_cases e0 : map = 0
      · rw [if_pos e0, if_pos e0]; rfl
      · rw [if_neg e0, if_neg e0]; rfl
  refine ⟨_, he, ?_, fun s hs => ?_, ?_, ?_, ?_, ?_, ?_⟩
  · rw [mp_40, kI_succ]
  · rw [mp_mp hs]
    rcases slot_cases hs with rfl | rfl | rfl | rfl <;> simp [upd]
  · rw [hA]
  · rw [hB]
  · rw [hl]
  · rfl
  · rfl
end
