-- ===== isSo: every number as the law has it =====
theorem fcmp_s {x : UInt32} (h : FP.Core.val32 x ≠ .nan) : Op.cmpValue (FP.fcmp x x) .l = 0 := by
  show Op.cmpValue (FP.Core.fcmp x x) .l = 0
  rw [FP.Core.fcmp_self h]; rfl
def b01 (c : Prop) [Decidable c] : Nat := if c then 1 else 0
theorem b01_t {c : Prop} [Decidable c] (h : c) : b01 c = 1 := if_pos h
theorem b01_f {c : Prop} [Decidable c] (h : ¬ c) : b01 c = 0 := if_neg h
section
variable {T : Nat} {Z Y : Nat → Nat} {g k p q v : Nat → Int32} {c : VC} {s n a b d i r m j : Nat}
theorem so_132 {K9 : Int32 → Int32 → Int32 → Option Int32} {K78 : Int32 → Int32 → Int32 → Int32 → Int32 → Option Int32} {u : VRw} {s6 s7 s8 s9 x : Int32} : b_L_isSo_132 c u K9 K78 s6 s7 s8 s9 (nI j) x x = K78 s6 s7 s8 s9 (nI (j + 1)) := by
  unfold b_L_isSo_132
  rw [if_pos rfl, i1, nI_add]
theorem so_k (W : WF T Z) (hk : RGk k Z) (hs : s < 4) (e : Z (9 * s) = 1) (hj : j < 8) (h6 : j = 6 → Z (9 * s + 2) = 2) : k (8 * s + j) = snI Z s j := by
  obtain ⟨h0, h3, h4, h1⟩ := hk s hs
  obtain ⟨k1, k2, k5, k6, k7⟩ := h1 e
  have g : ∀ w, gt Z s w = Z (9 * s + w) := fun w => if_pos e
  rw [g] at h0 h3
  unfold snI
  rw [if_pos e]
  rcases (show j = 0 ∨ j = 1 ∨ j = 2 ∨ j = 3 ∨ j = 4 ∨ j = 5 ∨ j = 6 ∨ j = 7 by omega) with rfl | rfl | rfl | rfl | rfl | rfl | rfl | rfl
  · exact h0
  · exact k1
  · exact k2
  · exact h3
  · exact h4
  · exact k5
  · have := h6 rfl
    simp only [Nat.reduceEqDiff, if_true, if_false, this]
    exact k6
  · exact k7
theorem so_slot {K9 : Int32 → Int32 → Int32 → Option Int32} {s6 s7 : Int32} (h : IvC T c Z) (hk : RGk k Z) (r2 : R2 Z) (hs : s < 4) (hj : j < 8) : l_L_isSo_78 c (g, k, p, q, v) K9 (n + 1) s6 s7 (nI s) (nI (b01 (Z (9 * s) = 1))) (nI j) = l_L_isSo_78 c (g, k, p, q, v) K9 n s6 s7 (nI s) (nI (b01 (Z (9 * s) = 1))) (nI (j + 1)) := by
  have W := h.1
  obtain ⟨w0, w1, w2, w3, w4, w5, w6, w7, w8, w9, w10, w11⟩ := W.1 s hs
  rw [l_L_isSo_78, i8, if_pos (nI_lt hj (by omega)), q_slot h hs (by omega), Option.bind_some]
  dsimp only
  by_cases e : Z (9 * s) = 1
  · obtain ⟨h0, h3, h4, h1⟩ := hk s hs
    obtain ⟨k1, k2, k5, k6, k7⟩ := h1 e
    have hr := r2 s hs e
    rw [b01_t e, i0, if_neg (show ¬ nI 1 = nI 0 by decide), i6, pk_mul, nI_add, i1, nI_add, p_ard (by omega) (by omega), Option.bind_some, k1]
    simp (discharger := omega) only [nI_eq]
    by_cases e6 : j = 6
    · rw [if_pos e6]
      by_cases er : Z (9 * s + 2) = 1
      · have hsn : snI Z s j = mI := by
          subst e6
          unfold snI
          rw [if_pos e]
          simp only [Nat.reduceEqDiff, if_true, if_false]
          rw [if_neg (by omega)]
        rw [if_pos er, hsn, imn, so_132]
      · rw [if_neg er, p_ard (by omega) (by omega), Option.bind_some, so_k W hk hs e hj (fun _ => by omega), so_132]
    · rw [if_neg e6, p_ard (by omega) (by omega), Option.bind_some, so_k W hk hs e hj (fun z => absurd z e6), so_132]
  · have hsn : snI Z s j = mI := by unfold snI; rw [if_neg e]
    rw [b01_f e, hsn, i0, if_pos rfl, im1, so_132]
theorem so_78 {K9 : Int32 → Int32 → Int32 → Option Int32} {s6 s7 : Int32} (h : IvC T c Z) (hk : RGk k Z) (r2 : R2 Z) (hs : s < 4) : ∀ (e j f : Nat), j + e = 8 → e < f → l_L_isSo_78 c (g, k, p, q, v) K9 f s6 s7 (nI s) (nI (b01 (Z (9 * s) = 1))) (nI j) = K9 s6 s7 (nI (s + 1)) := by
  intro e
  induction e with
  | zero =>
    intro j f hj hf
    obtain ⟨f, rfl⟩ := Nat.exists_eq_succ_of_ne_zero (show f ≠ 0 by omega)
    rw [l_L_isSo_78, i8, if_neg (nI_nlt (by omega) (by omega)), i1, nI_add]
  | succ e ih =>
    intro j f hj hf
    obtain ⟨f, rfl⟩ := Nat.exists_eq_succ_of_ne_zero (show f ≠ 0 by omega)
    rw [so_slot h hk r2 hs (by omega)]
    exact ih (j + 1) f (by omega) (by omega)
theorem so_L (h : IvC T c Z) (hk : RGk k Z) (r2 : R2 Z) (hs : s < 4) : l_L_isSo_9 c (g, k, p, q, v) (n + 1) (nI a) (nI b) (nI s) = l_L_isSo_9 c (g, k, p, q, v) n (nI (a + if Z (9 * s) = 1 then 1 else 0)) (nI (b + if Z (9 * s) = 1 ∧ Z (9 * s + 4) = 1 then 1 else 0)) (nI (s + 1)) := by
  have W := h.1
  obtain ⟨h0, h3, -, -⟩ := hk s hs
  have hp1 := gt1_pos W hs
  have hp2 := gt1_lt W hs
  have hp4 := gt4_le W hs
  have h78 := fun (y z : Int32) => so_78 (g := g) (p := p) (q := q) (v := v) (K9 := l_L_isSo_9 c (g, k, p, q, v) n) (s6 := y) (s7 := z) h hk r2 hs 8 0 FU (by omega) (by decide)
  rw [l_L_isSo_9, i4, if_pos (nI_lt hs (by omega)), i8, pk_mul]
  dsimp only
  rw [p_ard (by omega) (by omega), Option.bind_some, h0, i0]
  simp (discharger := omega) only [nI_ltI, hp1]
  by_cases e : Z (9 * s) = 1
  · rw [b01_t e] at h78
    have eg4 : gt Z s 4 = Z (9 * s + 4) := if_pos e
    rw [if_pos e, if_pos e]
    unfold b_L_isSo_30
    rw [i1, if_neg (show ¬ nI 1 = 0 by decide)]
    unfold b_L_isSo_44
    dsimp only
    rw [i0, if_neg (show ¬ nI 1 = nI 0 by decide), i8, pk_mul, i3, nI_add, p_ard (by omega) (by omega), Option.bind_some, h3, i1, nI_add, nI_add, nI_add]
    simp (discharger := omega) only [nI_eq]
    by_cases e4 : gt Z s 4 = 1
    · rw [if_pos e4, if_pos ⟨e, by omega⟩]
      exact h78 _ _
    · rw [if_neg e4, if_neg (fun z => e4 (by omega))]
      exact h78 _ _
  · rw [b01_f e] at h78
    rw [if_neg e, if_neg e]
    unfold b_L_isSo_30
    rw [i0, if_pos rfl]
    unfold b_L_isSo_44
    dsimp only
    rw [i0, if_pos rfl, nI_add, nI_add, if_neg (fun z => e z.1)]
    exact h78 _ _
theorem so_294 (h : IvC T c Z) (hT : T < 2 ^ 24) (hu : RG (g, k, p, q, v) Z) : b_L_isSo_294 c (g, k, p, q, v) 1 = some 1 := by
  have W := h.1
  have hbl := W.blk
  have h41 : Z 41 ≤ T := W.2.2.2.1
  have h42 : Z 42 ≤ T := W.2.2.2.2.1
  have hg := hu.1
  dsimp only at hg
  have hsh := shX_no W
  have hmn := mnX_no W hT
  have e363 : b_L_isSo_351 c (g, k, p, q, v) (mnX Z) (mnX Z) = some 1 := by
    unfold b_L_isSo_351
    rw [if_pos (fcmp_s hmn), t_blocks h hu, Option.bind_some, if_neg (by decide)]
  have e324 : b_L_isSo_324 c (g, k, p, q, v) (shX Z) (shX Z) = some 1 := by
    unfold b_L_isSo_324
    dsimp only
    rw [if_pos (cmp_self hsh), q_mean h hT, Option.bind_some, i3, p_ard (by omega) (by omega), Option.bind_some, hg.2.2.2.1, i0, i2, p_ard (by omega) (by omega), Option.bind_some, hg.2.2.1, Option.bind_some]
    simp (discharger := omega) only [nI_eq]
    by_cases e : Z 42 = 0
    · have em : mnX Z = FP.fconst0 := if_pos e
      rw [if_pos e]
      rw [em] at e363 ⊢
      exact e363
    · have em : mnX Z = FP.fdiv (FP.i2f (nI (Z 41))) (FP.i2f (nI (Z 42))) := if_neg e
      rw [if_neg e, ← em, fck_ok hmn, Option.bind_some]
      exact e363
  unfold b_L_isSo_294
  dsimp only
  rw [if_neg (by decide), q_share h, Option.bind_some, i0, p_ard (by omega) (by omega), Option.bind_some, hg.1, i1, p_ard (by omega) (by omega), Option.bind_some, hg.2.1, Option.bind_some]
  simp (discharger := omega) only [nI_eq]
  by_cases e : blkN Z = 0
  · have em : shX Z = FP.dconst0 := if_pos e
    rw [if_pos e]
    rw [em] at e324 ⊢
    exact e324
  · have em : shX Z = FP.ddiv (FP.i2d (nI (wideN Z))) (FP.i2d (nI (blkN Z))) := if_neg e
    rw [if_neg e, ← em, dck_ok hsh, Option.bind_some]
    exact e324
theorem t_isSo {u : VRw} (h : IvC T c Z) (hT : T < 2 ^ 24) (hu : RG u Z) (r2 : R2 Z) : f_L_isSo c u = some 1 := by
  obtain ⟨g, k, p, q, v⟩ := u
  have hu0 := hu
  obtain ⟨hg, hk, hp, hq, hv⟩ := hu
  dsimp only at hg hk hp hq hv
  have h46 : Z 46 ≤ 2 := h.1.2.2.2.2.2.2.2.2.1
  have c0 : nth (f_X5_count c (nI 0)) = some (nI (onesN Z)) := by obtain ⟨n, e⟩ := q_count h (j := 0) (by omega); exact e
  have c1 : nth (f_X5_count c (nI 1)) = some (nI (badsN Z)) := by obtain ⟨n, e⟩ := q_count h (j := 1) (by omega); exact e
  have c2 : nth (f_X5_count c (nI 2)) = some (nI (blkN Z)) := by obtain ⟨n, e⟩ := q_count h (j := 2) (by omega); exact e
  have c3 : nth (f_X5_count c (nI 3)) = some (nI (wideN Z)) := by obtain ⟨n, e⟩ := q_count h (j := 3) (by omega); exact e
  have c4 : nth (f_X5_count c (nI 4)) = some (nI (Z 41)) := by obtain ⟨n, e⟩ := q_count h (j := 4) (by omega); exact e
  have c5 : nth (f_X5_count c (nI 5)) = some (nI (Z 42)) := by obtain ⟨n, e⟩ := q_count h (j := 5) (by omega); exact e
  have c6 : nth (f_X5_count c (nI 6)) = some (nI (Z 43)) := by obtain ⟨n, e⟩ := q_count h (j := 6) (by omega); exact e
  have c7 : nth (f_X5_count c (nI 7)) = some (nI (Z 44)) := by obtain ⟨n, e⟩ := q_count h (j := 7) (by omega); exact e
  have c9 : nth (f_X5_count c (nI 9)) = some (nI (Z 45)) := by obtain ⟨n, e⟩ := q_count h (j := 9) (by omega); exact e
  have s0 : nth (f_X5_setting c (nI 0)) = some (nI (Z 46)) := q_setting (s := 0) h (by omega)
  have s1 : nth (f_X5_setting c (nI 1)) = some (nI (Z 47)) := q_setting (s := 1) h (by omega)
  have ag : ∀ i, i < 10 → ard 10 g (nI i) = some (g i) := fun i hi => p_ard hi (by omega)
  obtain ⟨a0, a1, a2, a3, a4, a5, a6, a7, a8, a9⟩ := hg
  show l_L_isSo_9 c (g, k, p, q, v) (999 + 1) (nI 0) (nI 0) (nI 0) = _
  rw [so_L h hk r2 (by omega), show (999 : Nat) = 998 + 1 from rfl, so_L h hk r2 (by omega), show (998 : Nat) = 997 + 1 from rfl, so_L h hk r2 (by omega), show (997 : Nat) = 996 + 1 from rfl, so_L h hk r2 (by omega), show (996 : Nat) = 995 + 1 from rfl]
  have eO : 0 + (if Z (9 * 0) = 1 then 1 else 0) + (if Z (9 * (0 + 1)) = 1 then 1 else 0) + (if Z (9 * (0 + 1 + 1)) = 1 then 1 else 0) + (if Z (9 * (0 + 1 + 1 + 1)) = 1 then 1 else 0) = onesN Z := by rw [Nat.zero_add (if Z (9 * 0) = 1 then 1 else 0)]; rfl
  have eB : 0 + (if Z (9 * 0) = 1 ∧ Z (9 * 0 + 4) = 1 then 1 else 0) + (if Z (9 * (0 + 1)) = 1 ∧ Z (9 * (0 + 1) + 4) = 1 then 1 else 0) + (if Z (9 * (0 + 1 + 1)) = 1 ∧ Z (9 * (0 + 1 + 1) + 4) = 1 then 1 else 0) + (if Z (9 * (0 + 1 + 1 + 1)) = 1 ∧ Z (9 * (0 + 1 + 1 + 1) + 4) = 1 then 1 else 0) = badsN Z := by rw [Nat.zero_add (if Z (9 * 0) = 1 ∧ Z (9 * 0 + 4) = 1 then 1 else 0)]; rfl
  rw [eO, eB]
  rw [l_L_isSo_9, if_neg (by decide), i0, i1, i2, i3, i4, i5, i6, i7, i8, i9]
  dsimp only
  rw [c0, Option.bind_some, if_pos rfl, c1, Option.bind_some, if_pos rfl, c2, Option.bind_some, ag 0 (by omega), Option.bind_some, a0, if_pos rfl, c3, Option.bind_some, ag 1 (by omega), Option.bind_some, a1, if_pos rfl, c4, Option.bind_some, ag 2 (by omega), Option.bind_some, a2, if_pos rfl, c5, Option.bind_some, ag 3 (by omega), Option.bind_some, a3, if_pos rfl, c6, Option.bind_some, ag 4 (by omega), Option.bind_some, a4, if_pos rfl, c7, Option.bind_some, ag 5 (by omega), Option.bind_some, a5, if_pos rfl, c9, Option.bind_some, ag 6 (by omega), Option.bind_some, a6, if_pos rfl, s0, Option.bind_some, ag 7 (by omega), Option.bind_some, a7, if_pos rfl, s1, Option.bind_some, ag 8 (by omega), Option.bind_some, a8, if_pos rfl, q_why h, Option.bind_some, Option.bind_some, t_why h.1 hk (by omega), Option.bind_some, if_pos rfl]
  exact so_294 h hT hu0
end
