def mapZ (Z : Nat → Nat) (map : Nat) : Nat → Nat := fun k => if 48 ≤ k then 0 else mkZ Z map 4 k
def zrW (z : Nat → Int32) (j : Nat) : Nat → Int32 := fun k => if 48 ≤ k ∧ k < j then nI 0 else z k
theorem zrW_succ (z : Nat → Int32) {j : Nat} (h : 48 ≤ j) : upd (zrW z j) j (nI 0) = zrW z (j + 1) := by
  funext k
  unfold upd zrW
  by_cases e : k = j
  · rw [if_pos e, if_pos (by omega)]
  · rw [if_neg e]
    by_cases q : 48 ≤ k ∧ k < j
    · rw [if_pos q, if_pos (by omega)]
    · rw [if_neg q, if_neg (by omega)]
theorem zrW_0 (z : Nat → Int32) : zrW z 48 = z := by funext k; unfold zrW; rw [if_neg (by omega)]
theorem mk95 (t : Int32) (z : Nat → Int32) (r : (Nat → Int32) × (Nat → Int32) × Int32 × (Nat → Int32) × Int32 × (Nat → Int32) × Int32 × Int32 × Int32) : ∀ (d j f : Nat), j + d = 96 → 48 ≤ j → d < f → l_X6_makeMap_95 f (t, zrW z j, r) (nI j) = some (t, zrW z 96, r) := by
  intro d
  induction d with
  | zero =>
    intro j f hj h48 hf
    obtain ⟨f, rfl⟩ := Nat.exists_eq_succ_of_ne_zero (show f ≠ 0 by omega)
    unfold l_X6_makeMap_95
    rw [i96, if_neg (nI_nlt (by omega) (by omega)), show j = 96 by omega]
  | succ d ih =>
    intro j f hj h48 hf
    obtain ⟨f, rfl⟩ := Nat.exists_eq_succ_of_ne_zero (show f ≠ 0 by omega)
    unfold l_X6_makeMap_95
    rw [i96, if_pos (nI_lt (by omega) (by omega)), i0]
    dsimp only
    rw [p_aup (by omega) (by omega), Option.bind_some, zrW_succ _ h48, i1, nI_add]
    exact ih (j + 1) f (by omega) (by omega) (by omega)
theorem RZ_map {z : Nat → Int32} {Z : Nat → Nat} {map : Nat} (h : RZ z (mkZ Z map 4)) : RZ (zrW z 96) (mapZ Z map) := by
  intro k hk
  unfold zrW zOf mapZ
  by_cases e : 48 ≤ k
  · rw [if_pos ⟨e, hk⟩, if_neg (by omega), if_pos e]
  · rw [if_neg (by omega), h k hk]
    unfold zOf
    by_cases e4 : k = 40
    · rw [if_pos e4, if_pos e4, if_neg (show ¬ 48 ≤ 40 by omega)]
    · rw [if_neg e4, if_neg e4, if_neg e]
theorem m_make {T : Nat} {Z : Nat → Nat} {m : VM} {map : Nat} (W : WF T Z) (h : RZ m.2.1 Z) : ∃ z', f_X6_makeMap m (nI map) = some (m.1, z', m.2.2) ∧ RZ z' (mapZ Z map) := by
  obtain ⟨z0, h0, r0⟩ := m_forget h
  have r1 : RZ (upd z0 40 (nI map)) (mkZ Z map 0) := by
    intro k hk
    unfold zOf
    by_cases e : k = 40
    · subst e
      rw [upd_eq, if_pos rfl, mkZ_40, kI_succ]
    · rw [upd_ne _ _ e, r0 k hk, if_neg e]
      unfold zOf
      rw [if_neg e]
      congr 1
      unfold forgetZ ftZ mkZ
      rw [if_neg e, if_neg e]
      by_cases a : 36 ≤ k ∧ k < 40
      · rw [if_pos (by omega), if_pos a, if_neg (by omega)]
      · rw [if_neg (by omega), if_neg a]
        by_cases b : k < 36 ∧ k % 9 = 5
        · rw [if_pos (by omega), if_pos b, if_neg (by omega)]
        · rw [if_neg (by omega), if_neg b, if_neg (by omega)]
  obtain ⟨z1, s1, q1⟩ := mk_step (m := (m.1, upd z0 40 (nI map), m.2.2)) (n := 999) W (by omega) r1
  obtain ⟨z2, s2, q2⟩ := mk_step (m := (m.1, z1, m.2.2)) (n := 998) W (by omega) q1
  obtain ⟨z3, s3, q3⟩ := mk_step (m := (m.1, z2, m.2.2)) (n := 997) W (by omega) q2
  obtain ⟨z4, s4, q4⟩ := mk_step (m := (m.1, z3, m.2.2)) (n := 996) W (by omega) q3
  refine ⟨_, ?_, RZ_map q4⟩
  unfold f_X6_makeMap
  rw [h0, Option.bind_some, i40]
  dsimp only
  rw [p_aup (by omega) (by omega), Option.bind_some]
  refine (s1.trans (s2.trans (s3.trans s4))).trans ?_
  show l_X6_makeMap_14 (995 + 1) _ _ = _
  rw [l_X6_makeMap_14, if_neg (by decide)]
  have := mk95 m.1 z4 m.2.2 48 48 FU (by omega) (by omega) (by decide)
  rw [zrW_0] at this
  exact this
