-- ===== the law holds =====
section
variable {T : Nat} {Z : Nat → Nat} {c : VC} {i Ln : Nat} {sc : Nat → Int32}
theorem t_cell (hL : Ln < 2 ^ 31) (hi : i < 2 ^ 31) : ∃ x, f_L_cell Ln sc (nI i) = some x := by
  unfold f_L_cell
  show ∃ x, (if nI i < nI Ln then _ else _) = some x
  simp (discharger := omega) only [nI_ltI]
  by_cases e : i < Ln
  · rw [if_pos e, p_ard e hL]; exact ⟨_, rfl⟩
  · rw [if_neg e]; exact ⟨_, rfl⟩
theorem t_246 {u : VRw} {K : (VC × VRw) → Int32 → Option Unit} {x8 : Int32} (h : IvC T c Z) (hT : T < 16000000) (hu : RG u Z) (r2 : R2 Z) (hi : i < 1000) : ∃ c', IvC T c' Z ∧ b_L_law_246 Ln sc K (c, u) (nI i) x8 1 = K (c', u) (nI (i + 1)) := by
  unfold b_L_law_246
  rw [if_neg (by decide)]
  dsimp only
  rw [t_isSo h (by omega) hu r2, Option.bind_some, if_neg (by decide)]
  obtain ⟨map, hm, em⟩ := t_low (((x8 >>> ((4 : Int32) &&& 31)) : Int32)) (n := 3) (by omega) (by omega)
  obtain ⟨c', e1, I1, -⟩ := t_swept h hT hu (map := map) (by omega)
  by_cases e : nI i - nI i / 4 * 4 = 3
  · rw [if_pos e, show (3 : Int32) = nI 3 from rfl, em, Option.bind_some, e1, Option.bind_some, if_neg (show ¬ ((1 : Int32), c').1 = 0 from (show ¬ (1 : Int32) = 0 by decide))]
    dsimp only
    rw [t_change I1 hu, Option.bind_some, if_neg (by decide), i1, nI_add]
    exact ⟨c', I1, rfl⟩
  · rw [if_neg e, i1, nI_add]
    exact ⟨c, h, rfl⟩
theorem t_b {u : VRw} {K : (VC × VRw) → Int32 → Option Unit} (hL : Ln < 2 ^ 31) (h : IvC T c Z) (hT : T + 99 < 16000000) (hu : RG u Z) (r2 : R2 Z) (hi : i < 1000) : ∃ c' u' Z', IvC (T + 99) c' Z' ∧ RG u' Z' ∧ R2 Z' ∧ f_L_law_b Ln sc K (c, u) (nI i) = K (c', u') (nI (i + 1)) := by
  have h206 : ∀ s8 s9 t0, ∃ c' u' Z', IvC (T + 99) c' Z' ∧ RG u' Z' ∧ R2 Z' ∧ b_L_law_206 Ln sc K (c, u) (nI i) s8 s9 t0 = K (c', u') (nI (i + 1)) := by
    intro s8 s9 t0
    obtain ⟨c1, u1, Z1, e1, I1, R1, q1⟩ := t_sticks h hu t0 s9
    obtain ⟨c2, I2, e2⟩ := t_246 (Ln := Ln) (sc := sc) (K := K) (x8 := s8) I1 (by omega) R1 (q1 r2) hi
    refine ⟨c2, u1, Z1, I2.mono (by omega), R1, q1 r2, ?_⟩
    unfold b_L_law_206
    dsimp only
    rw [e1, Option.bind_some]
    exact e2
  have h233 : ∀ s8 s9 t0, ∃ c' u' Z', IvC (T + 99) c' Z' ∧ RG u' Z' ∧ R2 Z' ∧ b_L_law_233 Ln sc K (c, u) (nI i) s8 s9 t0 = K (c', u') (nI (i + 1)) := by
    intro s8 s9 t0
    obtain ⟨c1, u1, Z1, e1, I1, R1, q1⟩ := t_act h (by omega) hu t0 s9
    obtain ⟨c2, I2, e2⟩ := t_246 (Ln := Ln) (sc := sc) (K := K) (x8 := s8) I1 (by omega) R1 (q1 r2) hi
    refine ⟨c2, u1, Z1, I2, R1, q1 r2, ?_⟩
    unfold b_L_law_233
    dsimp only
    rw [e1, Option.bind_some]
    exact e2
  have h193 : ∀ s8 s9, ∃ c' u' Z', IvC (T + 99) c' Z' ∧ RG u' Z' ∧ R2 Z' ∧ b_L_law_193 Ln sc K (c, u) (nI i) s8 s9 = K (c', u') (nI (i + 1)) := by
    intro s8 s9
    unfold b_L_law_193
    by_cases e : nI i < 4
    · rw [if_pos e]; exact h206 _ _ _
    · rw [if_neg e]; exact h206 _ _ _
  obtain ⟨x1, e1⟩ := t_cell (Ln := Ln) (sc := sc) (i := 2 * i) hL (by omega)
  obtain ⟨x2, e2⟩ := t_cell (Ln := Ln) (sc := sc) (i := 2 * i + 1) hL (by omega)
  unfold f_L_law_b
  rw [i2, pk_mul, e1, Option.bind_some, show (1 : Int32) = nI 1 from rfl, nI_add, e2, Option.bind_some]
  by_cases e : nI i < 4
  · rw [if_pos e]; exact h193 _ _
  · rw [if_neg e]
    obtain ⟨y, hy, ey⟩ := t_low (((x1 >>> ((8 : Int32) &&& 31)) : Int32)) (n := 6) (by omega) (by omega)
    rw [show (6 : Int32) = nI 6 from rfl, ey, Option.bind_some]
    by_cases c1 : nI y = 0
    · rw [if_pos c1]; exact h193 _ _
    · rw [if_neg c1]
      by_cases c2 : nI i = 4
      · rw [if_pos c2]; exact h233 _ _ _
      · rw [if_neg c2]; exact h233 _ _ _
theorem t_law (hL : Ln < 2 ^ 31) : ∀ (e i T : Nat) (c : VC) (u : VRw) (Z : Nat → Nat), i + e = 56 → T ≤ 99 * i → IvC T c Z → RG u Z → R2 Z → g_law Ln sc (e + 1) (c, u) (nI i) = some () := by
  intro e
  induction e with
  | zero =>
    intro i T c u Z hi hT h hu r2
    rw [g_law, show (56 : Int32) = nI 56 from rfl, if_neg (nI_nlt (by omega) (by omega))]
  | succ e ih =>
    intro i T c u Z hi hT h hu r2
    obtain ⟨c', u', Z', I', R', q', ee⟩ := t_b (Ln := Ln) (sc := sc) (K := fun v i => g_law Ln sc (e + 1) v i) (i := i) hL h (by omega) hu r2 (by omega)
    rw [g_law, show (56 : Int32) = nI 56 from rfl, if_pos (nI_lt (by omega) (by omega)), ee]
    exact ih (i + 1) (T + 99) c' u' Z' (by omega) (by omega) I' R' q'
end
-- the beginning
def Z0 : Nat → Nat := fun k => if k = 47 then 1 else 0
theorem Z0_ne {k : Nat} (h : k ≠ 47) : Z0 k = 0 := if_neg h
theorem Z0_47 : Z0 47 = 1 := rfl
theorem Z0_blk : blkN Z0 = 0 := rfl
theorem Z0_gt {s j : Nat} (hs : s < 4) : gt Z0 s j = 0 := by unfold gt; rw [if_neg (by rw [Z0_ne (by omega)]; omega)]
theorem IvC_0 : IvC 0 VC0 Z0 := by
  refine ⟨?_, ?_, ?_, 0, by omega, rfl⟩
  · refine ⟨fun s hs => ?_, ?_, fun _ s hs => ?_, ?_, ?_, ?_, ?_, ?_, ?_, ?_, fun k h1 h2 => ?_, fun z => ?_⟩
    · rw [Z0_ne (k := 9 * s) (by omega), Z0_ne (k := 9 * s + 1) (by omega), Z0_ne (k := 9 * s + 2) (by omega), Z0_ne (k := 9 * s + 3) (by omega), Z0_ne (k := 9 * s + 4) (by omega), Z0_ne (k := 9 * s + 5) (by omega), Z0_ne (k := 9 * s + 6) (by omega), Z0_ne (k := 9 * s + 7) (by omega), Z0_ne (k := 9 * s + 8) (by omega), Z0_ne (k := 36 + s) (by omega), Z0_ne (k := 41) (by omega)]
      omega
    · rw [Z0_ne (by omega)]; omega
    · exact ⟨Z0_ne (by omega), Z0_ne (by omega)⟩
    · rw [Z0_ne (by omega)]; omega
    · rw [Z0_ne (by omega)]; omega
    · rw [Z0_ne (by omega)]; omega
    · rw [Z0_ne (by omega)]; omega
    · rw [Z0_ne (by omega)]; omega
    · rw [Z0_ne (by omega)]; omega
    · rw [Z0_47]; omega
    · rw [Z0_ne (by omega)]; omega
    · rw [Z0_ne (by omega)] at z; omega
  · refine ⟨fun s hs => ?_, ⟨rfl, fun s hs => ?_, rfl, rfl, rfl, rfl, rfl⟩, ⟨fun s hs => ?_, rfl, rfl⟩, fun b hb => ?_, ⟨rfl, rfl, rfl, rfl, rfl⟩⟩
    · rw [Z0_gt hs, Z0_gt hs, Z0_gt hs, Z0_gt hs, Z0_gt hs, Z0_ne (by omega)]
      exact ⟨rfl, rfl, rfl, rfl, rfl, rfl⟩
    · rw [Z0_ne (by omega)]; rfl
    · rw [Z0_ne (by omega), Z0_ne (by omega)]; exact ⟨rfl, rfl⟩
    · rw [Z0_blk] at hb; omega
  · refine ⟨fun i hi => ?_, fun i j hi hj e => ?_⟩
    · show 2 ≤ 2 + i ∧ 2 + i < 8
      omega
    · have e2 : 2 + i = 2 + j := e
      omega
theorem RG_0 : RG (upd (upd z0 8 1) 9 (-1), z0, fl_part z0 mI 48, fl_part z0 mI 48, z0) Z0 := by
  refine ⟨⟨rfl, rfl, rfl, rfl, rfl, rfl, rfl, rfl, rfl, rfl⟩, fun s hs => ?_, fun b hb => ?_, fun b hb => ?_, fun b hb => ?_⟩
  · rw [Z0_gt hs, Z0_gt hs, Z0_ne (k := 9 * s + 5) (by omega)]
    refine ⟨rfl, rfl, rfl, fun z => ?_⟩
    rw [Z0_ne (by omega)] at z
    omega
  · show fl_part z0 mI 48 b = _
    unfold fl_part pI
    rw [if_pos hb, if_neg (by rw [Z0_blk]; omega)]
  · show fl_part z0 mI 48 b = _
    unfold fl_part qI
    rw [if_pos hb, if_neg (by rw [Z0_blk]; omega)]
  · rw [Z0_blk] at hb; omega
theorem R2_0 : R2 Z0 := fun s hs z => by
  rw [Z0_ne (by omega)] at z
  omega
theorem t_49 {Ln : Nat} {sc : Nat → Int32} {K : (VC × VRw) → Int32 → Option Unit} {g k p q v : Nat → Int32} {c : VC} : ∀ (e j f : Nat), j + e = 48 → e < f → ∃ f', l_L_law_49 Ln sc K f (c, (g, k, fl_part p mI j, fl_part q mI j, v)) (nI j) = l_L_law_49 Ln sc K (f' + 1) (c, (g, k, fl_part p mI 48, fl_part q mI 48, v)) (nI 48) := by
  intro e
  induction e with
  | zero =>
    intro j f hj hf
    obtain ⟨f, rfl⟩ := Nat.exists_eq_succ_of_ne_zero (show f ≠ 0 by omega)
    exact ⟨f, by rw [show j = 48 by omega]⟩
  | succ e ih =>
    intro j f hj hf
    obtain ⟨f, rfl⟩ := Nat.exists_eq_succ_of_ne_zero (show f ≠ 0 by omega)
    obtain ⟨f', h'⟩ := ih (j + 1) f (by omega) (by omega)
    refine ⟨f', ?_⟩
    rw [← h', l_L_law_49, i48, if_pos (nI_lt (by omega) (by omega))]
    dsimp only
    rw [im1, p_aup (by omega) (by omega), Option.bind_some, p_aup (by omega) (by omega), Option.bind_some, fl_part_up, fl_part_up, i1, nI_add]
theorem law_true (L : Nat) (xs : Nat → Int32) (hL : L ≤ 260) : g_start L xs = some () := by
  obtain ⟨c1, s1, I1, z1⟩ := t_swept IvC_0 (by omega) RG_0 (map := 0) (by omega)
  have hcnt : c1.2.2.2.2.2.2.2.1 = nI 0 := by rw [z1]; rfl
  have key := t_law (Ln := L) (sc := xs) (by omega) 56 0 0 c1 _ Z0 (by omega) (by omega) I1 RG_0 R2_0
  obtain ⟨f', e49⟩ := t_49 (Ln := L) (sc := xs) (K := fun v i => g_law L xs 57 v i) (g := upd (upd z0 8 1) 9 (-1)) (k := z0) (p := z0) (q := z0) (v := z0) (c := VC0) 48 0 FU (by omega) (by decide)
  rw [fl_part_0] at e49
  have e0 : g_start L xs = l_L_law_49 L xs (fun v i => g_law L xs 57 v i) FU (VC0, (upd (upd z0 8 1) 9 (-1), z0, z0, z0, z0)) 0 := by
    unfold g_start f_L_law_a VW0
    dsimp only
    rw [i8, p_aup (by omega) (by omega), Option.bind_some, i9, p_aup (by omega) (by omega), Option.bind_some]
  rw [e0]
  refine e49.trans ?_
  rw [l_L_law_49, if_neg (by decide)]
  dsimp only
  have s1' : f_L_isSwept VC0 (upd (upd z0 8 1) 9 (-1), z0, fl_part z0 mI 48, fl_part z0 mI 48, z0) 0 = some (1, c1) := s1
  rw [t_isSo IvC_0 (by omega) RG_0 R2_0, Option.bind_some, if_neg (by decide), s1', Option.bind_some, if_neg (show ¬ ((1 : Int32), c1).1 = 0 from (show ¬ (1 : Int32) = 0 by decide))]
  dsimp only
  rw [t_change I1 RG_0, Option.bind_some, if_neg (by decide), q_undo_0 hcnt, Option.bind_some, if_pos rfl]
  dsimp only
  rw [q_slot_48, Option.bind_some, if_pos rfl, q_slot_08, Option.bind_some, if_pos rfl]
  exact key
