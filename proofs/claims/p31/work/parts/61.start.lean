-- ===== start =====
theorem whyN_le (Z : Nat → Nat) (map : Nat) : whyN Z map ≤ 2 := by
  unfold whyN
  by_cases a : grA Z + grB Z = 0
  · rw [if_pos a]; omega
  rw [if_neg a]
  by_cases b : map = 2
  · rw [if_pos b]
    by_cases d : grA Z = 0
    · rw [if_pos d]; omega
    rw [if_neg d]
    by_cases d2 : grB Z = 0
    · rw [if_pos d2]; omega
    · rw [if_neg d2]; omega
  · rw [if_neg b]; omega
theorem k_mgL {Z : Nat → Nat} {sk : VSk} (f : Nat → Int32) {s n : Nat} (hs : s < 4) (h : ∀ q, q < 4 → f_X3_isGood sk (nI q) = some (nI (gd Z q))) : l_X3_mapGoodOnes_2 (n + 1) (sk.1, sk.2.1, sk.2.2.1, sk.2.2.2.1, sk.2.2.2.2.1, f) (nI s) = l_X3_mapGoodOnes_2 n (sk.1, sk.2.1, sk.2.2.1, sk.2.2.2.1, sk.2.2.2.2.1, upd f s (nI (gd Z s))) (nI (s + 1)) := by
  have h2 : f_X3_isGood (sk.1, sk.2.1, sk.2.2.1, sk.2.2.2.1, sk.2.2.2.2.1, f) (nI s) = some (nI (gd Z s)) := h s hs
  rw [l_X3_mapGoodOnes_2, i4, if_pos (nI_lt hs (by omega)), h2, Option.bind_some, p_aupz hs (by omega) (gd_le Z s).1, Option.bind_some, i1, nI_add]
theorem gd_bI {Z : Nat → Nat} {s : Nat} : bI (decide (Z (9 * s) = 1 ∧ Z (9 * s + 4) = 0)) = nI (gd Z s) := by
  unfold gd
  by_cases e : Z (9 * s) = 1 ∧ Z (9 * s + 4) = 0
  · rw [if_pos e, bI_T e]; rfl
  · rw [if_neg e, bI_f e]; rfl
theorem good_ext (sk : VSk) (f : Nat → Int32) (x : Int32) : f_X3_isGood (sk.1, sk.2.1, sk.2.2.1, sk.2.2.2.1, sk.2.2.2.2.1, f) x = f_X3_isGood sk x := rfl
theorem k_mapGood {T : Nat} {Z : Nat → Nat} {sk : VSk} (W : WF T Z) (h : RK sk Z) : f_X3_mapGoodOnes sk = some (sk.1, sk.2.1, sk.2.2.1, sk.2.2.2.1, sk.2.2.2.2.1, upd (upd (upd (upd sk.2.2.2.2.2 0 (nI (gd Z 0))) 1 (nI (gd Z 1))) 2 (nI (gd Z 2))) 3 (nI (gd Z 3))) := by
  have g : ∀ q, q < 4 → f_X3_isGood sk (nI q) = some (nI (gd Z q)) := fun q hq => by rw [k_good W h hq, gd_bI]
  show l_X3_mapGoodOnes_2 (999 + 1) (sk.1, sk.2.1, sk.2.2.1, sk.2.2.2.1, sk.2.2.2.2.1, sk.2.2.2.2.2) (nI 0) = _
  rw [k_mgL _ (by omega) g, show (999 : Nat) = 998 + 1 from rfl, k_mgL _ (by omega) g, show (998 : Nat) = 997 + 1 from rfl, k_mgL _ (by omega) g, show (997 : Nat) = 996 + 1 from rfl, k_mgL _ (by omega) g, show (996 : Nat) = 995 + 1 from rfl, l_X3_mapGoodOnes_2, if_neg (by decide)]
theorem s_begin {T : Nat} {Z : Nat → Nat} {st : VSt} (W : WF T Z) (h : RS st Z) : ∃ w, f_X2_begin st = some w ∧ RS w (zu (mapZ Z (Z 46)) 45 (Z 45 + 1)) := by
  have h46 : Z 46 ≤ 2 := W.2.2.2.2.2.2.2.2.1
  have hb : blkN (mapZ Z (Z 46)) ≤ 48 := (WF_map W h46).blk.1
  obtain ⟨hk, hl, hc, hv, hi⟩ := h
  obtain ⟨ly', hly, hr⟩ := l_lay (ly := st.2.1) W hk h46
  have he : f_X2_begin st = some ((st.1.1, st.1.2.1, st.1.2.2.1, st.1.2.2.2.1, st.1.2.2.2.2.1, upd (upd (upd (upd st.1.2.2.2.2.2 0 (nI (gd Z 0))) 1 (nI (gd Z 1))) 2 (nI (gd Z 2))) 3 (nI (gd Z 3))), ly', ((fun i => if i < 8 then st.2.2.1.2.1 else st.2.2.1.1 i), st.2.2.1.2), (fun i => if i < 48 then 0 else st.2.2.2.1 i), (st.2.2.2.2.1, st.2.2.2.2.2.1, st.2.2.2.2.2.2.1, st.2.2.2.2.2.2.2.1, st.2.2.2.2.2.2.2.2 + 1)) := by
    unfold f_X2_begin f_X0_freeAllNow f_fill
    rw [hi.1, hly, Option.bind_some, k_mapGood W hk, Option.bind_some, Option.bind_some, Option.bind_some]; rfl
  have hsl := zu_SL (Z := mapZ Z (Z 46)) (k := 45) (x := Z 45 + 1) (by omega)
  refine ⟨_, he, ?_⟩
  refine ⟨fun q hq => ?_, hsl.ly hr, ⟨fun q hq => ?_, ?_, ?_⟩, fun b hb2 => ?_, ?_⟩
  · have := hk q hq
    have g : ∀ j, j < 9 → j ≠ 5 → j ≠ 6 → j ≠ 7 → gt (zu (mapZ Z (Z 46)) 45 (Z 45 + 1)) q j = gt Z q j := fun j hj h5 h6 h7 => by
      unfold gt
      rw [zu_ne (by omega), zu_ne (by omega), mp_0 hq, mp_at hq hj, if_neg h5, if_neg (show ¬ (j = 6 ∨ j = 7) by omega)]
    rw [g 1 (by omega) (by omega) (by omega) (by omega), g 2 (by omega) (by omega) (by omega) (by omega), g 3 (by omega) (by omega) (by omega) (by omega), g 8 (by omega) (by omega) (by omega) (by omega), g 4 (by omega) (by omega) (by omega) (by omega), zu_ne (by omega), mp_at hq (by omega), if_pos rfl]
    refine ⟨this.1, this.2.1, this.2.2.1, this.2.2.2.1, this.2.2.2.2.1, ?_⟩
    rcases slot_cases hq with rfl | rfl | rfl | rfl <;> simp [upd]
  · have e6 : mapZ Z (Z 46) (9 * q + 6) = Z 41 := by rw [mp_at hq (by omega), if_neg (by omega), if_pos (Or.inl rfl)]
    have e7 : mapZ Z (Z 46) (9 * q + 7) = Z 41 := by rw [mp_at hq (by omega), if_neg (by omega), if_pos (Or.inr rfl)]
    rw [zu_ne (by omega), zu_ne (by omega), e6, e7]
    exact ⟨(if_pos (show 2 * q < 8 by omega)).trans hc.2.1, (if_pos (show 2 * q + 1 < 8 by omega)).trans hc.2.1⟩
  · rw [zu_ne (by omega), mp_mid (by omega) (by omega)]; exact hc.2.1
  · rw [zu_ne (by omega), mp_mid (by omega) (by omega)]; exact hc.2.2
  · rw [hsl.blk] at hb2
    have h1 := slot_lt (mapZ Z (Z 46)) b
    have h2 := num_lt (WF_map W h46) hb2
    dsimp only
    rw [if_pos (by omega), hsl.slot, hsl.num, zu_ne (by omega), mp_hi (by omega)]; rfl
  · unfold RI
    rw [zu_ne (j := 46) (by omega), zu_ne (j := 47) (by omega), zu_ne (j := 42) (by omega), zu_ne (j := 43) (by omega), zu_eq, mp_mid (k := 46) (by omega) (by omega), mp_mid (k := 47) (by omega) (by omega), mp_mid (k := 42) (by omega) (by omega), mp_mid (k := 43) (by omega) (by omega)]
    refine ⟨hi.1, hi.2.1, hi.2.2.1, hi.2.2.2.1, ?_⟩
    dsimp only
    rw [hi.2.2.2.2, i1, nI_add]
