-- ===== the law makes a map =====
section
variable {T : Nat} {Z : Nat → Nat} {g k p q v : Nat → Int32} {map b s n c i j : Nat}
theorem mp_les : lesN (mapZ Z map) = min (grA Z) (grB Z) := by
  obtain ⟨hA, hB⟩ := mp_room (Z := Z) (map := map)
  unfold lesN
  rw [hA, hB]
theorem mp_blk : blkN (mapZ Z map) = if map = 2 then min (grA Z) (grB Z) else grA Z + grB Z := by
  obtain ⟨hA, hB⟩ := mp_room (Z := Z) (map := map)
  unfold blkN
  rw [mp_40, if_neg (by omega), mp_les, hA, hB]
  by_cases e : map = 2
  · rw [if_pos e, if_pos (by omega)]
  · rw [if_neg e, if_neg (by omega)]
theorem mp_wide : wideN (mapZ Z map) = if map = 0 then 2 * min (grA Z) (grB Z) else 0 := by
  unfold wideN
  rw [mp_40, mp_les]
  by_cases e : map = 0
  · rw [if_pos e, if_pos (by omega)]
  · rw [if_neg e, if_neg (by omega)]
-- the slots
def KJ (Z : Nat → Nat) (j : Nat) (k : Nat → Int32) : Prop := ∀ s, s < 4 → k (8 * s) = nI (gt Z s 1) ∧ k (8 * s + 3) = nI (gt Z s 4) ∧ (s < j → k (8 * s + 4) = nI (gd Z s) ∧ k (8 * s + 5) = nI (Z 41) ∧ k (8 * s + 6) = nI (Z 41)) ∧ (Z (9 * s) = 1 → k (8 * s + 1) = nI (Z (9 * s + 2)) ∧ k (8 * s + 2) = nI (Z (9 * s + 3)) ∧ k (8 * s + 7) = nI (Z (9 * s + 8)))
theorem KJ_0 (h : RGk k Z) : KJ Z 0 k := fun s hs => by
  obtain ⟨h0, h3, h4, h1⟩ := h s hs
  exact ⟨h0, h3, fun z => absurd z (Nat.not_lt_zero _), fun z => ⟨(h1 z).1, (h1 z).2.1, (h1 z).2.2.2.2⟩⟩
theorem KJ_s (h : KJ Z j k) (hj : j < 4) : KJ Z (j + 1) (upd (upd (upd k (8 * j + 4) (nI (gd Z j))) (8 * j + 5) (nI (Z 41))) (8 * j + 6) (nI (Z 41))) := fun s hs => by
  obtain ⟨h0, h3, h4, h1⟩ := h s hs
  refine ⟨?_, ?_, fun z => ⟨?_, ?_, ?_⟩, fun z => ⟨?_, ?_, ?_⟩⟩
  · rw [upd_ne _ _ (by omega), upd_ne _ _ (by omega), upd_ne _ _ (by omega)]; exact h0
  · rw [upd_ne _ _ (by omega), upd_ne _ _ (by omega), upd_ne _ _ (by omega)]; exact h3
  · rw [upd_ne _ _ (by omega), upd_ne _ _ (by omega)]
    by_cases e : s = j
    · subst e; rw [upd_eq]
    · rw [upd_ne _ _ (by omega)]; exact (h4 (by omega)).1
  · rw [upd_ne _ _ (by omega)]
    by_cases e : s = j
    · subst e; rw [upd_eq]
    · rw [upd_ne _ _ (by omega), upd_ne _ _ (by omega)]; exact (h4 (by omega)).2.1
  · by_cases e : s = j
    · subst e; rw [upd_eq]
    · rw [upd_ne _ _ (by omega), upd_ne _ _ (by omega), upd_ne _ _ (by omega)]; exact (h4 (by omega)).2.2
  · rw [upd_ne _ _ (by omega), upd_ne _ _ (by omega), upd_ne _ _ (by omega)]; exact (h1 z).1
  · rw [upd_ne _ _ (by omega), upd_ne _ _ (by omega), upd_ne _ _ (by omega)]; exact (h1 z).2.1
  · rw [upd_ne _ _ (by omega), upd_ne _ _ (by omega), upd_ne _ _ (by omega)]; exact (h1 z).2.2
theorem KJ_4 (h : KJ Z 4 k) : RGk k (mapZ Z map) := fun s hs => by
  obtain ⟨h0, h3, h4, h1⟩ := h s hs
  obtain ⟨a4, a5, a6⟩ := h4 hs
  have g : ∀ w, w < 9 → w ≠ 5 → w ≠ 6 → w ≠ 7 → mapZ Z map (9 * s + w) = Z (9 * s + w) := fun w hw h5 h6 h7 => by rw [mp_at hs hw, if_neg h5, if_neg (by omega)]
  unfold gt at *
  rw [mp_0 hs, g 1 (by omega) (by omega) (by omega) (by omega), g 4 (by omega) (by omega) (by omega) (by omega), mp_at (w := 5) hs (by omega), if_pos rfl, g 2 (by omega) (by omega) (by omega) (by omega), g 3 (by omega) (by omega) (by omega) (by omega), g 8 (by omega) (by omega) (by omega) (by omega), mp_at (w := 6) hs (by omega), mp_at (w := 7) hs (by omega), if_neg (show ¬ (6 : Nat) = 5 by omega), if_neg (show ¬ (7 : Nat) = 5 by omega), if_pos (show (6 : Nat) = 6 ∨ (6 : Nat) = 7 by omega), if_pos (show (7 : Nat) = 6 ∨ (7 : Nat) = 7 by omega)]
  exact ⟨h0, h3, a4, fun z => ⟨(h1 z).1, (h1 z).2.1, a5, a6, (h1 z).2.2⟩⟩
theorem mk_slotL (W : WF T Z) (h2 : g 2 = nI (Z 41)) (h : KJ Z j k) (hj : j < 4) : l_L_make_242 (n + 1) (g, k, p, q, v) (nI (8 * j)) = l_L_make_242 n (g, upd (upd (upd k (8 * j + 4) (nI (gd Z j))) (8 * j + 5) (nI (Z 41))) (8 * j + 6) (nI (Z 41)), p, q, v) (nI (8 * (j + 1))) := by
  obtain ⟨w0, w1, w2, w3, w4, w5, w6, w7, w8, w9, w10, w11⟩ := W.1 j hj
  obtain ⟨h0, h3, -, -⟩ := h j hj
  have e275 : ∀ t, b_L_make_275 (l_L_make_242 n) (g, k, p, q, v) (nI (8 * j)) (nI t) (nI (8 * j + 4)) = l_L_make_242 n (g, upd (upd (upd k (8 * j + 4) (nI t)) (8 * j + 5) (nI (Z 41))) (8 * j + 6) (nI (Z 41)), p, q, v) (nI (8 * (j + 1))) := by
    intro t
    unfold b_L_make_275
    dsimp only
    rw [p_aup (by omega) (by omega), Option.bind_some, i2, p_ard (by omega) (by omega), Option.bind_some, h2, i5, nI_add, p_aup (by omega) (by omega), Option.bind_some, Option.bind_some, i6, nI_add, p_aup (by omega) (by omega), Option.bind_some, i8, nI_add, show 8 * j + 8 = 8 * (j + 1) by omega]
  have hg4 := gt4_le W hj
  rw [l_L_make_242, i32, if_pos (nI_lt (by omega) (by omega))]
  dsimp only
  rw [p_ard (by omega) (by omega), Option.bind_some, h0, i3, nI_add, p_ard (by omega) (by omega), Option.bind_some, h3, i0, i1, i4, nI_add, e275, e275]
  have hg1 : gt Z j 1 < 13 := by unfold gt; split <;> omega
  simp (discharger := omega) only [nI_ltI, nI_eq]
  have e1 : (0 < gt Z j 1) ↔ Z (9 * j) = 1 := by
    unfold gt
    by_cases e : Z (9 * j) = 1
    · rw [if_pos e]; have := w11 e; omega
    · rw [if_neg e]; omega
  simp only [e1]
  unfold gd gt
  by_cases e : Z (9 * j) = 1
  · simp only [e, if_true, true_and]
    by_cases e2 : Z (9 * j + 4) = 0
    · rw [if_pos e2, if_pos e2]
    · rw [if_neg e2, if_neg e2]
  · simp only [e, if_false, false_and]
theorem mk_slots (W : WF T Z) (h2 : g 2 = nI (Z 41)) (h : RGk k Z) : ∃ k', l_L_make_242 FU (g, k, p, q, v) 0 = some (g, k', p, q, v) ∧ RGk k' (mapZ Z map) := by
  have a0 := KJ_0 h
  have a1 := KJ_s a0 (by omega)
  have a2 := KJ_s a1 (by omega)
  have a3 := KJ_s a2 (by omega)
  have a4 := KJ_s a3 (by omega)
  refine ⟨_, ?_, KJ_4 a4⟩
  show l_L_make_242 (999 + 1) (g, k, p, q, v) (nI (8 * 0)) = _
  rw [mk_slotL W h2 a0 (by omega), show (999 : Nat) = 998 + 1 from rfl, mk_slotL W h2 a1 (by omega), show (998 : Nat) = 997 + 1 from rfl, mk_slotL W h2 a2 (by omega), show (997 : Nat) = 996 + 1 from rfl, mk_slotL W h2 a3 (by omega), show (996 : Nat) = 995 + 1 from rfl, l_L_make_242, if_neg (by decide)]
-- the blocks
def PJ (Y : Nat → Nat) (j : Nat) (p : Nat → Int32) : Prop := ∀ b, b < 48 → p b = if b < j then nI (pN Y b) else mI
def QJ (Y : Nat → Nat) (j : Nat) (q : Nat → Int32) : Prop := ∀ b, b < 48 → q b = if b < j ∧ Y 40 = 3 then nI (qN Y b) else mI
theorem PJ_s {Y : Nat → Nat} (h : PJ Y j p) (hj : j < 48) : PJ Y (j + 1) (upd p j (nI (pN Y j))) := fun b hb => by
  by_cases e : b = j
  · subst e; rw [upd_eq, if_pos (by omega)]
  · rw [upd_ne _ _ e, h b hb]
    by_cases e2 : b < j
    · rw [if_pos e2, if_pos (by omega)]
    · rw [if_neg e2, if_neg (by omega)]
theorem QJ_s {Y : Nat → Nat} (h : QJ Y j q) (hj : j < 48) (h3 : Y 40 = 3) : QJ Y (j + 1) (upd q j (nI (qN Y j))) := fun b hb => by
  by_cases e : b = j
  · subst e; rw [upd_eq, if_pos ⟨by omega, h3⟩]
  · rw [upd_ne _ _ e, h b hb]
    by_cases e2 : b < j
    · rw [if_pos ⟨e2, h3⟩, if_pos ⟨by omega, h3⟩]
    · rw [if_neg (fun z => e2 z.1), if_neg (by omega)]
theorem QJ_n {Y : Nat → Nat} (h : QJ Y j q) (h3 : Y 40 ≠ 3) : QJ Y (j + 1) q := fun b hb => by
  rw [h b hb, if_neg (fun z => h3 z.2), if_neg (fun z => h3 z.2)]
theorem mk_blkL (W : WF T Z) (hm : map ≤ 2) (hk : RGk k Z) (h0 : g 0 = nI (blkN (mapZ Z map))) (h1 : g 1 = nI (wideN (mapZ Z map))) : ∀ (d j f : Nat) (p q : Nat → Int32), j + d = blkN (mapZ Z map) → d < f → PJ (mapZ Z map) j p → QJ (mapZ Z map) j q → ∃ p' q', l_L_make_106 f (g, k, p, q, v) (nI map) (nI (grA Z)) (nI (grB Z)) (nI (min (grA Z) (grB Z))) (nI j) = l_L_make_242 FU (g, k, p', q', v) 0 ∧ RGp p' (mapZ Z map) ∧ RGq q' (mapZ Z map) := by
  have W' := WF_map W hm
  have hbl := W'.blk
  have hgr := gr_le W
  obtain ⟨hA, hB⟩ := mp_room (Z := Z) (map := map)
  have h40 : mapZ Z map 40 = map + 1 := mp_40
  intro d
  induction d with
  | zero =>
    intro j f p q hj hf hp hq
    obtain ⟨f, rfl⟩ := Nat.exists_eq_succ_of_ne_zero (show f ≠ 0 by omega)
    refine ⟨p, q, ?_, fun b hb => ?_, fun b hb => ?_⟩
    · rw [l_L_make_106, i0]
      dsimp only
      rw [p_ard (by omega) (by omega), Option.bind_some, h0, if_neg (nI_nlt (by omega) (by omega))]
    · rw [hp b hb]; unfold pI; rw [show blkN (mapZ Z map) = j by omega]
    · rw [hq b hb]; unfold qI; rw [show blkN (mapZ Z map) = j by omega]
  | succ d ih =>
    intro j f p q hj hf hp hq
    obtain ⟨f, rfl⟩ := Nat.exists_eq_succ_of_ne_zero (show f ≠ 0 by omega)
    have hb : j < blkN (mapZ Z map) := by omega
    have hix := ix_room hb W'.2.1
    rw [hA, hB] at hix
    have hch := ch_le (mapZ Z map) j
    have hpl : ∀ c i, chN (mapZ Z map) j = c → ixN (mapZ Z map) j = i → f_L_place 32 k (nI c) (nI i) = some (nI (pN (mapZ Z map) j)) := by
      intro c i e1 e2
      have hix2 := ix_lt (mapZ Z map) j
      have hi : i < grN Z c := by
        subst e1; subst e2
        unfold grN
        rcases (show chN (mapZ Z map) j = 0 ∨ chN (mapZ Z map) j = 1 by omega) with e | e
        · rw [if_pos e]; exact hix.1 e
        · rw [if_neg (by omega)]; exact hix.2 e
      rw [t_place (map := map) W hk (by omega) (by omega), if_pos hi]
      unfold pN slotN numN
      rw [e1, e2]
    have hPs := PJ_s hp (show j < 48 by omega)
    have go := ih (j + 1) f
    rw [l_L_make_106, i0]
    dsimp only
    rw [p_ard (by omega) (by omega), Option.bind_some, h0, if_pos (nI_lt hb (by omega)), i1, i2]
    simp (discharger := omega) only [nI_eq, nI_ltI]
    by_cases m2 : map = 2
    · have c0 : chN (mapZ Z map) j = 0 := by unfold chN; rw [if_pos (by omega)]
      have x0 : ixN (mapZ Z map) j = j := by unfold ixN; rw [if_pos (by omega)]
      have hbb : j < grN Z 1 := by unfold grN; rw [if_neg (by omega)]; have := mp_blk (Z := Z) (map := map); rw [if_pos m2] at this; omega
      have hpq : f_L_place 32 k (nI 1) (nI j) = some (nI (qN (mapZ Z map) j)) := by
        rw [t_place (map := map) W hk (by omega) (by omega), if_pos hbb]; rfl
      rw [if_pos m2, hpl 0 j c0 x0, Option.bind_some, p_aup (by omega) (by omega), Option.bind_some, hpq, Option.bind_some, p_aup (by omega) (by omega), Option.bind_some, nI_add]
      exact go _ _ (by omega) (by omega) hPs (QJ_s hq (by omega) (by omega))
    · rw [if_neg m2]
      have hQs := QJ_n hq (show mapZ Z map 40 ≠ 3 by omega)
      by_cases m1 : map = 1
      · rw [if_pos m1]
        by_cases e : j < grA Z
        · have c0 : chN (mapZ Z map) j = 0 := by unfold chN; rw [if_neg (by omega), if_pos (by omega), hA, if_pos e]
          have x0 : ixN (mapZ Z map) j = j := by unfold ixN; rw [if_neg (by omega), if_pos (by omega), hA, if_pos e]
          rw [if_pos e, hpl 0 j c0 x0, Option.bind_some, p_aup (by omega) (by omega), Option.bind_some, nI_add]
          exact go _ _ (by omega) (by omega) hPs hQs
        · have c0 : chN (mapZ Z map) j = 1 := by unfold chN; rw [if_neg (by omega), if_pos (by omega), hA, if_neg e]
          have x0 : ixN (mapZ Z map) j = j - grA Z := by unfold ixN; rw [if_neg (by omega), if_pos (by omega), hA, if_neg e]
          rw [if_neg e, pk_sub (by omega), hpl 1 (j - grA Z) c0 x0, Option.bind_some, p_aup (by omega) (by omega), Option.bind_some, nI_add]
          exact go _ _ (by omega) (by omega) hPs hQs
      · rw [if_neg m1, p_ard (by omega) (by omega), Option.bind_some, h1]
        simp (discharger := omega) only [nI_ltI]
        by_cases e : j < wideN (mapZ Z map)
        · have c0 : chN (mapZ Z map) j = j % 2 := by unfold chN; rw [if_neg (by omega), if_neg (by omega), if_pos e]
          have x0 : ixN (mapZ Z map) j = j / 2 := by unfold ixN; rw [if_neg (by omega), if_neg (by omega), if_pos e]
          rw [if_pos e, pk_rem (by omega) (by omega) (by omega), pk_div (by omega) (by omega) (by omega), hpl (j % 2) (j / 2) c0 x0, Option.bind_some, p_aup (by omega) (by omega), Option.bind_some, nI_add]
          exact go _ _ (by omega) (by omega) hPs hQs
        · have x0 : ixN (mapZ Z map) j = j - min (grA Z) (grB Z) := by unfold ixN; rw [if_neg (by omega), if_neg (by omega), if_neg e, mp_les]
          have hw := mp_wide (Z := Z) (map := map)
          rw [if_pos (by omega)] at hw
          have e224 : ∀ c, chN (mapZ Z map) j = c → b_L_make_224 (l_L_make_106 f) (g, k, p, q, v) (nI map) (nI (grA Z)) (nI (grB Z)) (nI (min (grA Z) (grB Z))) (nI j) (nI c) (nI j) = l_L_make_106 f (g, k, upd p j (nI (pN (mapZ Z map) j)), q, v) (nI map) (nI (grA Z)) (nI (grB Z)) (nI (min (grA Z) (grB Z))) (nI (j + 1)) := by
            intro c hc
            unfold b_L_make_224
            dsimp only
            rw [pk_sub (by omega), hpl c _ hc x0, Option.bind_some, p_aup (by omega) (by omega), Option.bind_some, i1, nI_add]
          rw [if_neg e]
          by_cases e2 : grB Z < grA Z
          · rw [if_pos e2, e224 0 (by unfold chN; rw [if_neg (by omega), if_neg (by omega), if_neg e, hA, hB, if_pos e2])]
            exact go _ _ (by omega) (by omega) hPs hQs
          · rw [if_neg e2, e224 1 (by unfold chN; rw [if_neg (by omega), if_neg (by omega), if_neg e, hA, hB, if_neg e2])]
            exact go _ _ (by omega) (by omega) hPs hQs
theorem mk_fillL {s5 s6 s7 s8 : Int32} : ∀ (d j f : Nat), j + d = 48 → d < f → l_L_make_74 f (g, k, fl_part p mI j, fl_part q mI j, fl_part v (nI 0) j) s5 s6 s7 s8 (nI j) = l_L_make_106 FU (g, k, fl_part p mI 48, fl_part q mI 48, fl_part v (nI 0) 48) s5 s6 s7 s8 0 := by
  intro d
  induction d with
  | zero =>
    intro j f hj hf
    obtain ⟨f, rfl⟩ := Nat.exists_eq_succ_of_ne_zero (show f ≠ 0 by omega)
    rw [l_L_make_74, show j = 48 by omega, if_neg (by decide)]
  | succ d ih =>
    intro j f hj hf
    obtain ⟨f, rfl⟩ := Nat.exists_eq_succ_of_ne_zero (show f ≠ 0 by omega)
    rw [l_L_make_74, i48, if_pos (nI_lt (by omega) (by omega))]
    dsimp only
    rw [p_aup (by omega) (by omega), Option.bind_some, im1, p_aup (by omega) (by omega), Option.bind_some, p_aup (by omega) (by omega), Option.bind_some, i0, fl_part_up, fl_part_up, fl_part_up, i1, nI_add]
    exact ih (j + 1) f (by omega) (by omega)
theorem fl_part_0 (f : Nat → Int32) (x : Int32) : fl_part f x 0 = f := by funext j; unfold fl_part; rw [if_neg (Nat.not_lt_zero j)]
theorem t_make (W : WF T Z) (hm : map ≤ 2) (hg : RGg g Z) (hk : RGk k Z) : ∃ u', f_L_make (g, k, p, q, v) (nI map) = some u' ∧ RG u' (mapZ Z map) := by
  have W' := WF_map W hm
  have hbl := W'.blk
  have hgr := gr_le W
  obtain ⟨a0, a1, a2, a3, a4, a5, a6, a7, a8, a9⟩ := hg
  have hfu : FU = 1000 := rfl
  obtain ⟨p', q', e1, r1, r2⟩ := mk_blkL (g := upd (upd (upd g 9 (nI map)) 0 (nI (blkN (mapZ Z map)))) 1 (nI (wideN (mapZ Z map)))) (v := fl_part v (nI 0) 48) W hm hk (by rw [upd_ne _ _ (by omega), upd_eq]) (by rw [upd_eq]) (blkN (mapZ Z map)) 0 FU (fl_part p mI 48) (fl_part q mI 48) (by omega) (by omega) (fun b hb => by unfold fl_part; rw [if_pos hb, if_neg (by omega)]) (fun b hb => by unfold fl_part; rw [if_pos hb, if_neg (by omega)])
  obtain ⟨k', e2, r3⟩ := mk_slots (map := map) (g := upd (upd (upd g 9 (nI map)) 0 (nI (blkN (mapZ Z map)))) 1 (nI (wideN (mapZ Z map)))) (p := p') (q := q') (v := fl_part v (nI 0) 48) W (by rw [upd_ne _ _ (by omega), upd_ne _ _ (by omega), upd_ne _ _ (by omega)]; exact a2) hk
  have hgg : RGg (upd (upd (upd g 9 (nI map)) 0 (nI (blkN (mapZ Z map)))) 1 (nI (wideN (mapZ Z map)))) (mapZ Z map) := by
    refine ⟨?_, ?_, ?_, ?_, ?_, ?_, ?_, ?_, ?_, ?_⟩
    · rw [upd_ne _ _ (by omega), upd_eq]
    · rw [upd_eq]
    · rw [upd_ne _ _ (by omega), upd_ne _ _ (by omega), upd_ne _ _ (by omega), mp_mid (by omega) (by omega)]; exact a2
    · rw [upd_ne _ _ (by omega), upd_ne _ _ (by omega), upd_ne _ _ (by omega), mp_mid (by omega) (by omega)]; exact a3
    · rw [upd_ne _ _ (by omega), upd_ne _ _ (by omega), upd_ne _ _ (by omega), mp_mid (by omega) (by omega)]; exact a4
    · rw [upd_ne _ _ (by omega), upd_ne _ _ (by omega), upd_ne _ _ (by omega), mp_mid (by omega) (by omega)]; exact a5
    · rw [upd_ne _ _ (by omega), upd_ne _ _ (by omega), upd_ne _ _ (by omega), mp_mid (by omega) (by omega)]; exact a6
    · rw [upd_ne _ _ (by omega), upd_ne _ _ (by omega), upd_ne _ _ (by omega), mp_mid (by omega) (by omega)]; exact a7
    · rw [upd_ne _ _ (by omega), upd_ne _ _ (by omega), upd_ne _ _ (by omega), mp_mid (by omega) (by omega)]; exact a8
    · rw [upd_ne _ _ (by omega), upd_ne _ _ (by omega), upd_eq, mp_40, kI_succ]
  have hvv : RGv (fl_part v (nI 0) 48) (mapZ Z map) := by
    refine fun b hb => ⟨?_, fun h3 => ?_⟩
    · have := pN_lt W' hb
      unfold fl_part
      rw [if_pos this, mp_hi (by omega)]
    · have := qN_lt W' hb h3
      unfold fl_part
      rw [if_pos this, mp_hi (by omega)]
  refine ⟨(upd (upd (upd g 9 (nI map)) 0 (nI (blkN (mapZ Z map)))) 1 (nI (wideN (mapZ Z map))), k', p', q', fl_part v (nI 0) 48), ?_, ⟨hgg, r3, r1, r2, hvv⟩⟩
  · have e74 : ∀ g', l_L_make_74 FU (g', k, p, q, v) (nI map) (nI (grA Z)) (nI (grB Z)) (nI (min (grA Z) (grB Z))) 0 = l_L_make_106 FU (g', k, fl_part p mI 48, fl_part q mI 48, fl_part v (nI 0) 48) (nI map) (nI (grA Z)) (nI (grB Z)) (nI (min (grA Z) (grB Z))) 0 := by
      intro g'
      have := mk_fillL (g := g') (k := k) (p := p) (q := q) (v := v) (s5 := nI map) (s6 := nI (grA Z)) (s7 := nI (grB Z)) (s8 := nI (min (grA Z) (grB Z))) 48 0 FU (by omega) (by omega)
      rw [fl_part_0, fl_part_0, fl_part_0] at this
      exact this
    have e54 : ∀ g', b_L_make_54 (g', k, p, q, v) (nI map) (nI (grA Z)) (nI (grB Z)) (nI (min (grA Z) (grB Z))) (nI (blkN (mapZ Z map))) 0 = l_L_make_74 FU (upd (upd g' 0 (nI (blkN (mapZ Z map)))) 1 (nI (wideN (mapZ Z map))), k, p, q, v) (nI map) (nI (grA Z)) (nI (grB Z)) (nI (min (grA Z) (grB Z))) 0 := by
      intro g'
      unfold b_L_make_54
      dsimp only
      rw [i0, p_aup (by omega) (by omega), Option.bind_some, i2, i1, pk_mul, p_aup (by omega) (by omega), Option.bind_some, p_aup (by omega) (by omega), Option.bind_some, mp_wide]
      simp (discharger := omega) only [nI_eq]
      by_cases m0 : map = 0
      · rw [if_pos m0, if_pos m0]
      · rw [if_neg m0, if_neg m0]
    have e28 : b_L_make_28 (g, k, p, q, v) (nI map) (nI (grA Z)) (nI (grB Z)) (nI (min (grA Z) (grB Z))) = b_L_make_54 (upd g 9 (nI map), k, p, q, v) (nI map) (nI (grA Z)) (nI (grB Z)) (nI (min (grA Z) (grB Z))) (nI (blkN (mapZ Z map))) 0 := by
      unfold b_L_make_28
      dsimp only
      rw [i9, p_aup (by omega) (by omega), Option.bind_some, i2, nI_add, mp_blk]
      simp (discharger := omega) only [nI_eq]
      by_cases m2 : map = 2
      · rw [if_pos m2, if_pos m2]
      · rw [if_neg m2, if_neg m2]
    have efin : b_L_make_28 (g, k, p, q, v) (nI map) (nI (grA Z)) (nI (grB Z)) (nI (min (grA Z) (grB Z))) = some (upd (upd (upd g 9 (nI map)) 0 (nI (blkN (mapZ Z map)))) 1 (nI (wideN (mapZ Z map))), k', p', q', fl_part v (nI 0) 48) := by
      rw [e28, e54, e74]
      exact e1.trans e2
    unfold f_L_make
    dsimp only
    rw [i0, t_good0 W hk, Option.bind_some, i1, t_good1 W hk, Option.bind_some]
    simp (discharger := omega) only [nI_ltI]
    by_cases e : grA Z < grB Z
    · rw [if_pos e, ← efin, show min (grA Z) (grB Z) = grA Z by omega]
    · rw [if_neg e, ← efin, show min (grA Z) (grB Z) = grB Z by omega]
end
