-- ===== the law's call of plug, pull, fail =====
section
variable {T : Nat} {Z Y : Nat → Nat} {g k p q v : Nat → Int32} {c : VC} {s n a b d i : Nat}
theorem t_and1 (x : Int32) : ∃ j, j ≤ 1 ∧ x &&& 1 = nI j := by
  obtain ⟨j, hj, e⟩ := pk_andE x (m := 1) 1 (by decide)
  exact ⟨j, by omega, e⟩
theorem gt1_pos (W : WF T Z) (hs : s < 4) : (0 < gt Z s 1) ↔ Z (9 * s) = 1 := by
  obtain ⟨w0, w1, w2, w3, w4, w5, w6, w7, w8, w9, w10, w11⟩ := W.1 s hs
  unfold gt
  by_cases e : Z (9 * s) = 1
  · rw [if_pos e]; have := w11 e; omega
  · rw [if_neg e]; omega
theorem gt1_lt (W : WF T Z) (hs : s < 4) : gt Z s 1 < 13 := by
  obtain ⟨w0, w1, w2, w3, w4, w5, w6, w7, w8, w9, w10, w11⟩ := W.1 s hs
  unfold gt
  split <;> omega
theorem t_cntL {x7 x9 x10 x11 : Int32} (W : WF T Y) (hk : RGk k Y) (hs : s < 4) : l_L_sticks_218 (n + 1) (c, (g, k, p, q, v)) x7 x9 x10 x11 (nI a) (nI (8 * s)) = l_L_sticks_218 n (c, (g, k, p, q, v)) x7 x9 x10 x11 (nI (a + if Y (9 * s) = 1 then 1 else 0)) (nI (8 * (s + 1))) := by
  have h1 := gt1_pos W hs
  have h2 := gt1_lt W hs
  obtain ⟨h0, -⟩ := hk s hs
  rw [l_L_sticks_218, i32, if_pos (nI_lt (by omega) (by omega))]
  dsimp only
  rw [p_ard (by omega) (by omega), Option.bind_some, h0, i0, i1, i8, nI_add, nI_add, nI_add]
  simp (discharger := omega) only [nI_ltI, h1]
  rw [show 8 * (s + 1) = 8 * s + 8 by omega]
  by_cases e : Y (9 * s) = 1
  · rw [if_pos e, if_pos e]
  · rw [if_neg e, if_neg e]
theorem t_cnt {x7 x9 x10 x11 : Int32} (W : WF T Y) (hk : RGk k Y) : l_L_sticks_218 FU (c, (g, k, p, q, v)) x7 x9 x10 x11 0 0 = (f_L_plug c x7 x9 x10 x11).bind fun x => if x.1 = nI (onesN Y) then some (1, (x.2, (g, k, p, q, v))) else some (0, (x.2, (g, k, p, q, v))) := by
  show l_L_sticks_218 (999 + 1) (c, (g, k, p, q, v)) x7 x9 x10 x11 (nI 0) (nI (8 * 0)) = _
  rw [t_cntL W hk (by omega), show (999 : Nat) = 998 + 1 from rfl, t_cntL W hk (by omega), show (998 : Nat) = 997 + 1 from rfl, t_cntL W hk (by omega), show (997 : Nat) = 996 + 1 from rfl, t_cntL W hk (by omega), show (996 : Nat) = 995 + 1 from rfl, l_L_sticks_218, if_neg (by decide)]
  unfold onesN sum4
  rw [Nat.zero_add]
theorem t_clrL (hs : s < 4) : ∀ (e j f : Nat), j + e = 8 * s + 8 → 8 * s ≤ j → e < f → l_L_sticks_153 f (c, (g, fzr k (8 * s) j, p, q, v)) (nI s) (nI a) (nI b) (nI d) (nI j) = l_L_sticks_218 FU (c, (g, plgK k s a b d, p, q, v)) (nI s) (nI a) (nI b) (nI d) 0 0 := by
  intro e
  induction e with
  | zero =>
    intro j f hj hj2 hf
    obtain ⟨f, rfl⟩ := Nat.exists_eq_succ_of_ne_zero (show f ≠ 0 by omega)
    rw [l_L_sticks_153, i8, pk_mul, nI_add, if_neg (nI_nlt (by omega) (by omega)), show j = 8 * s + 8 by omega]
    dsimp only
    rw [p_aup (by omega) (by omega), Option.bind_some, i1, nI_add, p_aup (by omega) (by omega), Option.bind_some, i2, nI_add, p_aup (by omega) (by omega), Option.bind_some]
    rfl
  | succ e ih =>
    intro j f hj hj2 hf
    obtain ⟨f, rfl⟩ := Nat.exists_eq_succ_of_ne_zero (show f ≠ 0 by omega)
    rw [l_L_sticks_153, i8, pk_mul, nI_add, if_pos (nI_lt (by omega) (by omega))]
    dsimp only
    rw [p_aup (by omega) (by omega), Option.bind_some, i0, fzr_s _ (by omega), i1, nI_add]
    exact ih (j + 1) f (by omega) (by omega) (by omega)
/-- a plugged stick has ranks -/
def R2 (Z : Nat → Nat) : Prop := ∀ s, s < 4 → Z (9 * s) = 1 → 1 ≤ Z (9 * s + 2)
theorem R2.congr (h : R2 Z) (e : ∀ j, j < 36 → j % 9 < 3 → Y j = Z j) : R2 Y := fun s hs z => by
  rw [e _ (by omega) (by omega)] at z ⊢
  exact h s hs z
theorem R2.row {G : Nat → Nat} (h : R2 Z) (e : s < 4 → G 0 = 1 → 1 ≤ G 2) : R2 (rowZ Z s G) := fun q hq z => by
  rw [rowZ_0 hq] at z
  rw [rowZ_at hq (by omega)]
  by_cases c : q = s
  · rw [if_pos c] at z ⊢
    exact e (by omega) z
  · rw [if_neg c] at z ⊢
    exact h q hq z
/-- one call that went as the law says -/
def Went (T : Nat) (Z : Nat → Nat) (r : Option (Int32 × (VC × VRw))) : Prop := ∃ c' u' Z', r = some (1, (c', u')) ∧ IvC T c' Z' ∧ RG u' Z' ∧ (R2 Z → R2 Z')
theorem t_sticks {u : VRw} (h : IvC T c Z) (hu : RG u Z) (a1 a2 : Int32) : Went T Z (f_L_sticks (c, u) a1 a2) := by
  obtain ⟨g, k, p, q, v⟩ := u
  have hu0 := hu
  obtain ⟨hg, hk, hp, hq, hv⟩ := hu
  dsimp only at hg hk hp hq hv
  have W := h.1
  obtain ⟨s, hs, es⟩ := t_low a2 (n := 4) (by omega) (by omega)
  obtain ⟨r, hr, er⟩ := t_low a1 (n := 4) (by omega) (by omega)
  obtain ⟨h0, h3, -, -⟩ := hk s hs
  have hp1 := gt1_pos W hs
  have hp2 := gt1_lt W hs
  have hp4 := gt4_le W hs
  have els : f_L_isLeft 32 k (nI (12 * s)) = some (bI (decide (leftN Z s))) := t_left (n := 0) W hk hs (by omega)
  have euse : f_L_used 10 g 48 p 48 q (nI s) = some (nI (usedN Z s)) := t_used W hg.1 hp hq hs
  unfold f_L_sticks
  rw [i4, es, Option.bind_some, er, Option.bind_some, i2]
  simp (discharger := omega) only [nI_ltI]
  by_cases e : r < 2
  · rw [if_pos e]
    obtain ⟨j2, hj2, e2⟩ := t_low (((a2 >>> ((nI 2 : Int32) &&& 31)) : Int32)) (n := 12) (by omega) (by omega)
    obtain ⟨j4, hj4, e4⟩ := t_low (((a2 >>> ((7 : Int32) &&& 31)) : Int32)) (n := 9) (by omega) (by omega)
    obtain ⟨j3, hj3, e3⟩ := t_and1 (((a2 >>> ((6 : Int32) &&& 31)) : Int32))
    rw [i12, e2, Option.bind_some, i9, e4, Option.bind_some, e3, i8, pk_mul, i1, nI_add, nI_add, nI_add]
    rw [p_ard (by omega) (by omega), Option.bind_some, h0, i0]
    simp (discharger := omega) only [nI_ltI, hp1]
    by_cases eP : Z (9 * s) = 1
    · rw [if_pos eP, q_plug_n h hs (by omega) (by omega) (by omega) eP, Option.bind_some, if_pos rfl, ← i0, ← i1, ← i4, q_plug_1, Option.bind_some, if_pos rfl, q_plug_2 hs, Option.bind_some, if_pos rfl, q_plug_3 hs, Option.bind_some, if_pos rfl, q_plug_4 hs, Option.bind_some, if_pos rfl]
      exact ⟨c, _, Z, rfl, h, hu0, id⟩
    · rw [if_neg eP]
      obtain ⟨c', hc, hI⟩ := q_plug_y h hs (a := 1 + j2) (b := 1 + j3) (d := 1 + j4) (by omega) (by omega) (by omega) eP
      have hk' := plgK_ok (s := s) (a := 1 + j2) (b := 1 + j3) (d := 1 + j4) hk
      have hl := t_clrL (c := c) (g := g) (k := k) (p := p) (q := q) (v := v) (a := 1 + j2) (b := 1 + j3) (d := 1 + j4) hs 8 (8 * s) FU (by omega) (by omega) (by decide)
      rw [fzr_0] at hl
      rw [hl, t_cnt hI.1 hk', hc, Option.bind_some, if_pos rfl]
      exact ⟨c', _, _, rfl, hI, hu0.row W hk', fun r2 => r2.row (fun _ _ => by rw [(plugG_at Z s (1 + j2) (1 + j3) (1 + j4)).2.2.1]; omega)⟩
  · rw [if_neg e, i12, pk_mul]
    rw [els, Option.bind_some]
    simp (discharger := omega) only [nI_eq]
    by_cases e2 : r = 2
    · rw [if_pos e2, i8, pk_mul, p_ard (by omega) (by omega), Option.bind_some, h0, i0]
      simp (discharger := omega) only [nI_eq]
      by_cases eP : Z (9 * s) = 1
      · rw [if_neg (by omega), p_aup (by omega) (by omega), Option.bind_some, i3, nI_add, p_aup (by omega) (by omega), Option.bind_some, nI_add, p_aup (by omega) (by omega), Option.bind_some]
        obtain ⟨c', hc, hI⟩ := q_pull_y h hs eP
        have hk' := pulK_ok (s := s) hk
        rw [hc, Option.bind_some, euse]
        dsimp only
        by_cases eL : leftN Z s
        · rw [if_neg (bI_tn eL), if_pos eL, Option.bind_some]
          unfold b_L_sticks_384
          rw [if_pos rfl]
          exact ⟨c', _, _, rfl, hI, hu0.row W hk', fun r2 => r2.row (fun _ z => absurd z (by simp [pullG, gput]))⟩
        · rw [if_pos (bI_fn eL), if_neg eL]
          unfold b_L_sticks_384
          rw [if_pos rfl]
          exact ⟨c', _, _, rfl, hI, hu0.row W hk', fun r2 => r2.row (fun _ z => absurd z (by simp [pullG, gput]))⟩
      · rw [if_pos (by omega), q_pull_n h hs eP, Option.bind_some, if_pos rfl]
        dsimp only
        rw [← i4, q_pull_4, Option.bind_some, if_pos rfl]
        exact ⟨c, _, Z, rfl, h, hu0, id⟩
    · rw [if_neg e2, i8, pk_mul, p_ard (by omega) (by omega), Option.bind_some, h0, i0, i3, nI_add, p_ard (by omega) (by omega), Option.bind_some, h3, i1]
      simp (discharger := omega) only [nI_eq]
      have e418 : ¬ (Z (9 * s) = 1 ∧ Z (9 * s + 4) = 0) → Went T Z (b_L_sticks_418 (c, (g, k, p, q, v)) (nI s)) := fun ne => by
        unfold b_L_sticks_418
        dsimp only
        rw [q_fail_n h hs ne, Option.bind_some, if_pos rfl, q_fail_m, Option.bind_some, if_pos rfl]
        exact ⟨c, _, Z, rfl, h, hu0, id⟩
      by_cases eP : gt Z s 1 = 0
      · rw [if_pos eP]
        exact e418 (by omega)
      · rw [if_neg eP]
        have eP1 : Z (9 * s) = 1 := by omega
        have eg4 : gt Z s 4 = Z (9 * s + 4) := if_pos eP1
        by_cases e4 : gt Z s 4 = 1
        · rw [if_pos e4]
          exact e418 (by omega)
        · rw [if_neg e4, p_aup (by omega) (by omega), Option.bind_some]
          obtain ⟨c', hc, hI⟩ := q_fail_y h hs (by omega)
          have hk' := faiK_ok hk hs eP1
          rw [hc, Option.bind_some, euse]
          dsimp only
          by_cases eL : leftN Z s
          · rw [if_neg (bI_tn eL), if_pos eL, Option.bind_some]
            unfold b_L_sticks_481
            rw [if_pos rfl]
            exact ⟨c', _, _, rfl, hI, hu0.row W hk', fun r2 => r2.row (fun hs z => r2 s hs z)⟩
          · rw [if_pos (bI_fn eL), if_neg eL]
            unfold b_L_sticks_481
            rw [if_pos rfl]
            exact ⟨c', _, _, rfl, hI, hu0.row W hk', fun r2 => r2.row (fun hs z => r2 s hs z)⟩
end
