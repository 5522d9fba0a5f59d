-- ===== the class's calls, by what the law asks of them =====
def IvC (T : Nat) (c : VC) (Z : Nat → Nat) : Prop := WF T Z ∧ RS (gSt c 0) Z ∧ PO c.2.2.2.2.2.2.2.2 ∧ ∃ n, n ≤ 6 ∧ c.2.2.2.2.2.2.2.1 = nI n
theorem p_within {x lo hi : Nat} (hx : x < 2 ^ 31) (hl : lo < 2 ^ 31) (hh : hi < 2 ^ 31) : f_X5_isWithin (nI x) (nI lo) (nI hi) = some (bI (decide (lo ≤ x ∧ x ≤ hi))) := by
  unfold f_X5_isWithin
  simp (discharger := omega) only [nI_ltI]
  by_cases e : x < lo
  · rw [if_pos e, bI_f (by omega)]
  · rw [if_neg e]
    by_cases e2 : hi < x
    · rw [if_pos e2, bI_f (by omega)]
    · rw [if_neg e2, bI_T (by omega)]
theorem p_win {x lo hi : Nat} (h : lo ≤ x ∧ x ≤ hi) (hh : hi < 2 ^ 31) : f_X5_isWithin (nI x) (nI lo) (nI hi) = some 1 := by
  rw [p_within (by omega) (by omega) hh, bI_T h]
theorem i11 : (11 : Int32) = nI 11 := rfl
theorem i99 : (99 : Int32) = nI 99 := rfl
theorem i100 : (100 : Int32) = nI 100 := rfl
section
variable {T : Nat} {Z : Nat → Nat} {c : VC} {s b j a d : Nat}
theorem sv (h : IvC T c Z) : ∃ c', f_X5_saveState c = some c' ∧ IvC T c' Z := by
  obtain ⟨W, hR, hP, n, hn, hs⟩ := h
  obtain ⟨w, -, hsv⟩ := c_save hP hn hs W hR
  refine ⟨_, hsv, W, ?_, ?_, ?_⟩
  · by_cases e : n = 6
    · rw [if_pos e]
      have hk := (hP.1 0 (by omega)).1
      show RS (gSt (sSt c (c.2.2.2.2.2.2.2.2 0) w) 0) Z
      rw [gSt_ne _ _ (show (0 : Nat) ≠ c.2.2.2.2.2.2.2.2 0 by omega)]; exact hR
    · rw [if_neg e]
      have hk := (hP.1 n (by omega)).1
      show RS (gSt (sSt c (c.2.2.2.2.2.2.2.2 n) w) 0) Z
      rw [gSt_ne _ _ (show (0 : Nat) ≠ c.2.2.2.2.2.2.2.2 n by omega)]; exact hR
  · by_cases e : n = 6
    · rw [if_pos e]; exact rotP_PO hP
    · rw [if_neg e]; exact hP
  · by_cases e : n = 6
    · rw [if_pos e]; exact ⟨6, by omega, rfl⟩
    · rw [if_neg e]; exact ⟨n + 1, by omega, rfl⟩
theorem IvC.fin {T' : Nat} {c' c2 : VC} {Z' : Nat → Nat} {v : VSt} (h : IvC T c' Z) (h1 : gSt c2 0 = v) (h2 : c2.2.2.2.2.2.2 = c'.2.2.2.2.2.2) (W' : WF T' Z') (R : RS v Z') : IvC T' c2 Z' := by
  refine ⟨W', h1.symm ▸ R, ?_, ?_⟩
  · rw [h2]; exact h.2.2.1
  · rw [h2]; exact h.2.2.2
theorem IvC.same {c2 : VC} (h : IvC T c Z) (h1 : gSt c2 0 = gSt c 0) (h2 : c2.2.2.2.2.2 = c.2.2.2.2.2) : IvC T c2 Z := by
  refine ⟨h.1, h1.symm ▸ h.2.1, ?_, ?_⟩
  · rw [h2]; exact h.2.2.1
  · rw [h2]; exact h.2.2.2
-- plug
theorem q_plug_1 : f_L_plug c 4 0 1 1 = some (-31, c) := by
  have e : f_X5_plug c 4 0 1 1 = some (.inl (1, c)) := by unfold f_X5_plug; rw [show f_X5_isSlot 4 = some 0 from rfl]; rfl
  unfold f_L_plug; rw [e]; rfl
theorem q_plug_2 (hs : s < 4) : f_L_plug c (nI s) 13 1 1 = some (-32, c) := by
  have e : f_X5_plug c (nI s) 13 1 1 = some (.inl (2, c)) := by unfold f_X5_plug; rw [p_slot hs, Option.bind_some, if_neg (by decide), show f_X5_isWithin 13 1 12 = some 0 from rfl]; rfl
  unfold f_L_plug; rw [e]; rfl
theorem q_plug_3 (hs : s < 4) : f_L_plug c (nI s) 1 3 1 = some (-32, c) := by
  have e : f_X5_plug c (nI s) 1 3 1 = some (.inl (2, c)) := by unfold f_X5_plug; rw [p_slot hs, Option.bind_some, if_neg (by decide), show f_X5_isWithin 1 1 12 = some 1 from rfl, Option.bind_some, if_neg (by decide), show f_X5_isWithin 3 1 2 = some 0 from rfl]; rfl
  unfold f_L_plug; rw [e]; rfl
theorem q_plug_4 (hs : s < 4) : f_L_plug c (nI s) 1 1 10 = some (-32, c) := by
  have e : f_X5_plug c (nI s) 1 1 10 = some (.inl (2, c)) := by unfold f_X5_plug; rw [p_slot hs, Option.bind_some, if_neg (by decide), show f_X5_isWithin 1 1 12 = some 1 from rfl, Option.bind_some, if_neg (by decide), show f_X5_isWithin 1 1 2 = some 1 from rfl, Option.bind_some, if_neg (by decide), show f_X5_isWithin 10 1 9 = some 0 from rfl]; rfl
  unfold f_L_plug; rw [e]; rfl
theorem q_plug (h : IvC T c Z) (hs : s < 4) (ha : 1 ≤ a ∧ a ≤ 12) (hb : 1 ≤ b ∧ b ≤ 2) (hd : 1 ≤ d ∧ d ≤ 9) : f_X5_plug c (nI s) (nI a) (nI b) (nI d) = if bI (decide (Z (9 * s) = 1)) = 0 then ((f_X5_saveState c).bind fun x82 => (f_X3_put (x82.1 0) (nI s) (nI a) (nI b) (nI d)).bind fun x97 => (f_X0_freeSlot ((sSk x82 0 x97).2.2.1 0) (nI s)).bind fun x108 => (f_X3_pluggedOnes ((sCk (sSk x82 0 x97) 0 x108).1 0)).bind fun x118 => some (.inr (x118, (sCk (sSk x82 0 x97) 0 x108)))) else some (.inl (3, c)) := by
  have hc1 : ∀ X : Int32 → Option ((Nat × VC) ⊕ (Int32 × VC)), (f_X3_isPlugged (c.1 0) (nI s)).bind X = X (bI (decide (Z (9 * s) = 1))) := fun X => by rw [show c.1 0 = (gSt c 0).1 from rfl, k_plug h.1 h.2.1.1 hs, Option.bind_some]
  unfold f_X5_plug
  rw [p_slot hs, Option.bind_some, if_neg (by decide), show (1 : Int32) = nI 1 from rfl, show (12 : Int32) = nI 12 from rfl, show (2 : Int32) = nI 2 from rfl, i9, p_within (by omega) (by omega) (by omega), Option.bind_some, if_neg (bI_t ha), p_within (by omega) (by omega) (by omega), Option.bind_some, if_neg (bI_t hb), p_within (by omega) (by omega) (by omega), Option.bind_some, if_neg (bI_t hd), hc1]
theorem q_plug_n (h : IvC T c Z) (hs : s < 4) (ha : 1 ≤ a ∧ a ≤ 12) (hb : 1 ≤ b ∧ b ≤ 2) (hd : 1 ≤ d ∧ d ≤ 9) (e : Z (9 * s) = 1) : f_L_plug c (nI s) (nI a) (nI b) (nI d) = some (-33, c) := by
  have hpre := q_plug h hs ha hb hd
  rw [if_neg (bI_t e)] at hpre
  unfold f_L_plug; rw [hpre]; rfl
theorem q_plug_y (h : IvC T c Z) (hs : s < 4) (ha : 1 ≤ a ∧ a ≤ 12) (hb : 1 ≤ b ∧ b ≤ 2) (hd : 1 ≤ d ∧ d ≤ 9) (e : ¬ Z (9 * s) = 1) : ∃ c', f_L_plug c (nI s) (nI a) (nI b) (nI d) = some (nI (onesN (rowZ Z s (plugG Z s a b d))), c') ∧ IvC T c' (rowZ Z s (plugG Z s a b d)) := by
  have hpre := q_plug h hs ha hb hd
  rw [if_pos (bI_f e)] at hpre
  obtain ⟨c', hsv, hI⟩ := sv h
  have W := h.1
  have hR' := hI.2.1
  have W' : WF T (rowZ Z s (plugG Z s a b d)) := by
    obtain ⟨p0, p1, p2', p3', p4', p5, p6, p7, p8⟩ := plugG_at Z s a b d
    refine W.row ⟨?_, ?_, ?_, ?_, ?_, ?_, ?_, ?_, ?_, ?_, ?_⟩ (fun _ => p5) <;> omega
  have hRS := plug_RS (a := a) (b := b) (d := d) W hR' hs
  rw [hsv, Option.bind_some, k_put _ hs, Option.bind_some] at hpre
  rw [c_freeSlot _ hs, Option.bind_some] at hpre
  have hpl := k_plugs W' hRS.1
  have hfin := hpre.trans (bind_inr (f := f_X3_pluggedOnes _) ((congrArg f_X3_pluggedOnes (va_up_self _ _ _)).trans hpl))
  refine ⟨_, by unfold f_L_plug; rw [hfin]; rfl, ?_⟩
  refine hI.fin ?_ rfl W' hRS
  unfold gSt sCk sSk
  simp only [va_up_self]
-- pull
theorem q_pull_4 : f_L_pull c 4 = some (-31, c) := by
  have e : f_X5_pull c 4 = some (.inl (1, c)) := by unfold f_X5_pull; rw [show f_X5_isSlot 4 = some 0 from rfl]; rfl
  unfold f_L_pull; rw [e]; rfl
theorem q_pull_n (h : IvC T c Z) (hs : s < 4) (e : ¬ Z (9 * s) = 1) : f_L_pull c (nI s) = some (-33, c) := by
  have hc1 := k_plug h.1 h.2.1.1 hs
  have hpre : f_X5_pull c (nI s) = some (.inl (3, c)) := by
    unfold f_X5_pull
    rw [p_slot hs, Option.bind_some, if_neg (by decide)]
    refine (congrArg (fun q => Option.bind q _) hc1).trans ?_
    rw [Option.bind_some, if_pos (bI_f e)]
  unfold f_L_pull; rw [hpre]; rfl
theorem q_pull_y (h : IvC T c Z) (hs : s < 4) (e : Z (9 * s) = 1) : ∃ c', f_L_pull c (nI s) = some (nI (if leftN Z s then usedN Z s else 0), c') ∧ IvC T c' (rowZ Z s (pullG Z s)) := by
  have W := h.1
  have hc1 := k_plug h.1 h.2.1.1 hs
  have hpre : f_X5_pull c (nI s) = ((f_X5_saveState c).bind fun x42 => (f_X2_usedPlaces (gSt x42 0) (nI s)).bind fun x50 => (f_X3_take (x42.1 0) (nI s)).bind fun x62 => some (.inr (x50, (sSk x42 0 x62)))) := by
    unfold f_X5_pull
    rw [p_slot hs, Option.bind_some, if_neg (by decide)]
    refine (congrArg (fun q => Option.bind q _) hc1).trans ?_
    rw [Option.bind_some, if_neg (bI_t e)]
  obtain ⟨c', hsv, hI⟩ := sv h
  have hR' := hI.2.1
  have W' : WF T (rowZ Z s (pullG Z s)) := by
    obtain ⟨w0, w1, w2, w3, w4, w5, w6, w7, w8, w9, w10, w11⟩ := W.1 s hs
    refine W.row ⟨?_, ?_, ?_, ?_, ?_, ?_, ?_, ?_, ?_, ?_, ?_⟩ (fun _ => ?_) <;> simp [pullG, gput] <;> omega
  rw [hsv, Option.bind_some, s_used W hR' hs, Option.bind_some] at hpre
  unfold f_X3_take at hpre
  rw [k_put _ hs, Option.bind_some, Option.bind_some] at hpre
  refine ⟨_, by unfold f_L_pull; rw [hpre]; rfl, ?_⟩
  exact hI.fin (gSk0 _ _) rfl W' (pull_RS W hR' hs)
-- fail
theorem q_fail_m : f_L_fail c (-1) = some (-31, c) := by
  have e : f_X5_fail c (-1) = some (.inl (1, c)) := by unfold f_X5_fail; rw [show f_X5_isSlot (-1) = some 0 from rfl]; rfl
  unfold f_L_fail; rw [e]; rfl
theorem q_fail_n (h : IvC T c Z) (hs : s < 4) (e : ¬ (Z (9 * s) = 1 ∧ Z (9 * s + 4) = 0)) : f_L_fail c (nI s) = some (-33, c) := by
  have hc1 := k_good h.1 h.2.1.1 hs
  have hpre : f_X5_fail c (nI s) = some (.inl (3, c)) := by
    unfold f_X5_fail
    rw [p_slot hs, Option.bind_some, if_neg (by decide)]
    refine (congrArg (fun q => Option.bind q _) hc1).trans ?_
    rw [Option.bind_some, if_pos (bI_f e)]
  unfold f_L_fail; rw [hpre]; rfl
theorem q_fail_y (h : IvC T c Z) (hs : s < 4) (e : Z (9 * s) = 1 ∧ Z (9 * s + 4) = 0) : ∃ c', f_L_fail c (nI s) = some (nI (if leftN Z s then usedN Z s else 0), c') ∧ IvC T c' (rowZ Z s (failG Z s)) := by
  have W := h.1
  obtain ⟨w0, w1, w2, w3, w4, w5, w6, w7, w8, w9, w10, w11⟩ := W.1 s hs
  have hc1 := k_good h.1 h.2.1.1 hs
  have hpre : f_X5_fail c (nI s) = ((f_X5_saveState c).bind fun x42 => (f_X2_usedPlaces (gSt x42 0) (nI s)).bind fun x50 => (f_X3_spoil (x42.1 0) (nI s)).bind fun x62 => some (.inr (x50, (sSk x42 0 x62)))) := by
    unfold f_X5_fail
    rw [p_slot hs, Option.bind_some, if_neg (by decide)]
    refine (congrArg (fun q => Option.bind q _) hc1).trans ?_
    rw [Option.bind_some, if_neg (bI_t e)]
  obtain ⟨c', hsv, hI⟩ := sv h
  have hR' := hI.2.1
  have W' : WF T (rowZ Z s (failG Z s)) := by
    refine W.row ⟨?_, ?_, ?_, ?_, ?_, ?_, ?_, ?_, ?_, ?_, ?_⟩ (fun q => ?_) <;> simp [failG, gput]
    all_goals first | omega | exact (W.2.2.1 q s hs).2
  rw [hsv, Option.bind_some, s_used W hR' hs, Option.bind_some, k_spoil _ hs, Option.bind_some] at hpre
  refine ⟨_, by unfold f_L_fail; rw [hpre]; rfl, ?_⟩
  exact hI.fin (gSk0 _ _) rfl W' (fail_RS W hR' hs e.1)
-- start, stop
theorem q_start_pre (h : IvC T c Z) : f_X5_start c = if whyN Z (Z 46) = 0 then ((f_X5_saveState c).bind fun x31 => (f_X2_begin (gSt x31 0)).bind fun x38 => some (.inr (((sSt x31 0 x38).2.1 0).2.2.2.2.2.1, (sSt x31 0 x38)))) else some (.inl (3, c)) := by
  have h46 : Z 46 ≤ 2 := h.1.2.2.2.2.2.2.2.2.1
  have hset : (c.2.2.2.2.1 0).1 = nI (Z 46) := h.2.1.2.2.2.2.1
  have hwle := whyN_le Z (Z 46)
  unfold f_X5_start
  rw [hset, show c.1 0 = (gSt c 0).1 from rfl, k_hind h.1 h.2.1.1 h46, Option.bind_some, i0]
  simp (discharger := omega) only [nI_eq]
theorem q_start_n (h : IvC T c Z) (e : ¬ whyN Z (Z 46) = 0) : f_L_start c = some (-33, c) := by
  have hpre := q_start_pre h
  rw [if_neg e] at hpre
  unfold f_L_start; rw [hpre]; rfl
theorem q_start_y (h : IvC T c Z) (e : whyN Z (Z 46) = 0) : ∃ c', f_L_start c = some (nI (blkN (mapZ Z (Z 46))), c') ∧ IvC (T + 1) c' (zu (mapZ Z (Z 46)) 45 (Z 45 + 1)) := by
  have hpre := q_start_pre h
  rw [if_pos e] at hpre
  have W := h.1
  have h46 : Z 46 ≤ 2 := W.2.2.2.2.2.2.2.2.1
  have h45 : Z 45 ≤ T := W.2.2.2.2.2.2.2.1
  obtain ⟨c', hsv, hI⟩ := sv h
  have hR' := hI.2.1
  obtain ⟨w, hw, hRw⟩ := s_begin W hR'
  have hsl := zu_SL (Z := mapZ Z (Z 46)) (k := 45) (x := Z 45 + 1) (by omega)
  have W' : WF (T + 1) (zu (mapZ Z (Z 46)) 45 (Z 45 + 1)) := WF_zu (WF_map W h46) (by omega) (by omega) (by omega) (fun q => by omega) ⟨fun q => by omega, fun q => by omega, by omega⟩ (fun _ => by omega)
  have hbk : ((sSt c' 0 w).2.1 0).2.2.2.2.2.1 = nI (blkN (mapZ Z (Z 46))) := by
    rw [sSt_g2, ← hsl.blk]; exact hRw.2.1.2.2.2.2.2.1
  rw [hsv, Option.bind_some, hw, Option.bind_some, hbk] at hpre
  refine ⟨_, by unfold f_L_start; rw [hpre]; rfl, ?_⟩
  exact hI.fin (gSt_sSt0 _ _) rfl W' hRw
theorem q_stop_n (h : IvC T c Z) (e : Z 40 = 0) : f_L_stop c = some (-33, c) := by
  have hk : (c.2.1 0).1 = kI (Z 40) := h.2.1.2.1.1
  have e1 : f_X5_stop c = some (.inl (3, c)) := by
    unfold f_X5_stop f_X1_isLaid
    rw [hk, if_pos ((kI_m h.1.2.1).mpr e)]; rfl
  unfold f_L_stop; rw [e1]; rfl
theorem q_stop_y (h : IvC T c Z) (e : ¬ Z 40 = 0) : ∃ c', f_L_stop c = some (nI (blkN Z), c') ∧ IvC T c' (forgetZ Z) := by
  have W := h.1
  have hk : (c.2.1 0).1 = kI (Z 40) := h.2.1.2.1.1
  obtain ⟨c', hsv, hI⟩ := sv h
  have hR' := hI.2.1
  obtain ⟨w, hw, hRw⟩ := s_end W hR'
  have hcl : f_X5_stop c = some (.inr (nI (blkN Z), sSt c' 0 w)) := by
    unfold f_X5_stop f_X1_isLaid
    rw [hk, if_neg (fun q => e ((kI_m W.2.1).mp q)), Option.bind_some, if_neg (by decide), hsv, Option.bind_some, hw, Option.bind_some, show (c'.2.1 0).2.2.2.2.2.1 = nI (blkN Z) from hR'.2.1.2.2.2.2.2.1]
  refine ⟨_, by unfold f_L_stop; rw [hcl]; rfl, ?_⟩
  exact hI.fin (gSt_sSt0 _ _) rfl (WF_forget W) hRw
-- write
theorem has_y (h : IvC T c Z) (hb : b < blkN Z) : f_X2_hasBlock (gSt c 0) (nI b) = some 1 := by
  have hbl := h.1.blk
  rw [s_has h.1 h.2.1 (by omega), bI_T hb]
theorem has_n (h : IvC T c Z) (hb : blkN Z ≤ b) (hb2 : b < 2 ^ 31) : f_X2_hasBlock (gSt c 0) (nI b) = some 0 := by
  rw [s_has h.1 h.2.1 hb2, bI_f (by omega)]
theorem can_c (h : IvC T c Z) (hb : b < blkN Z) : f_X2_canRead (gSt c 0) (nI b) = some (bI (decide (canN Z b))) := by
  have hbl := h.1.blk
  have hcan := s_can h.1 h.2.1 (b := b) (by omega)
  have hcc : (decide (b < blkN Z ∧ canN Z b)) = decide (canN Z b) := by simp [hb]
  rw [hcc] at hcan
  exact hcan
theorem q_write_1 (h : IvC T c Z) (hb : blkN Z ≤ b) (hb2 : b < 2 ^ 31) (y : Int32) : f_L_write c (nI b) y = some (-31, c) := by
  have e : f_X5_write c (nI b) y = some (.inl (1, c)) := by unfold f_X5_write; rw [has_n h hb hb2]; rfl
  unfold f_L_write; rw [e]; rfl
theorem q_write_m (y : Int32) : f_L_write c (-1) y = some (-31, c) := by
  have e : f_X5_write c (-1) y = some (.inl (1, c)) := by unfold f_X5_write f_X2_hasBlock; rw [if_pos (by decide)]; rfl
  unfold f_L_write; rw [e]; rfl
theorem q_write_2 (h : IvC T c Z) (hb : b < blkN Z) : f_L_write c (nI b) 100 = some (-32, c) := by
  have e : f_X5_write c (nI b) 100 = some (.inl (2, c)) := by unfold f_X5_write; rw [has_y h hb, Option.bind_some, if_neg (by decide), show f_X5_isWithin 100 0 99 = some 0 from rfl]; rfl
  unfold f_L_write; rw [e]; rfl
theorem q_write_n (h : IvC T c Z) (hb : b < blkN Z) (hj : j ≤ 99) (e : ¬ canN Z b) : f_L_write c (nI b) (nI j) = some (-33, c) := by
  have e : f_X5_write c (nI b) (nI j) = some (.inl (3, c)) := by
    unfold f_X5_write
    rw [has_y h hb, Option.bind_some, if_neg (by decide), i0, i99, p_win ⟨Nat.zero_le _, hj⟩ (by omega), Option.bind_some, if_neg (by decide), can_c h hb, Option.bind_some, if_pos (bI_fn e)]
  unfold f_L_write; rw [e]; rfl
theorem q_write_y (h : IvC T c Z) (hb : b < blkN Z) (hj : j ≤ 99) (e : canN Z b) : ∃ c', f_L_write c (nI b) (nI j) = some (nI (Z (48 + 12 * slotN Z b + numN Z b)), c') ∧ IvC T c' (wrZ Z b j) := by
  obtain ⟨c', hsv, hI⟩ := sv h
  have hR' := hI.2.1
  have hcl : f_X5_write c (nI b) (nI j) = some (.inr (nI (Z (48 + 12 * slotN Z b + numN Z b)), sSt c' 0 ((gSt c' 0).1, (gSt c' 0).2.1, (gSt c' 0).2.2.1, upd (gSt c' 0).2.2.2.1 b (nI j), (gSt c' 0).2.2.2.2))) := by
    unfold f_X5_write
    rw [has_y h hb, Option.bind_some, if_neg (by decide), i0, i99, p_win ⟨Nat.zero_le _, hj⟩ (by omega), Option.bind_some, if_neg (by decide), can_c h hb, Option.bind_some, if_neg (bI_tn e), hsv, Option.bind_some, s_exch h.1 hR' hb, Option.bind_some]
  refine ⟨_, by unfold f_L_write; rw [hcl]; rfl, ?_⟩
  exact hI.fin (gSt_sSt0 _ _) rfl (WF_wr h.1 hb hj) (wr_RS h.1 hR' hb)
-- read
theorem q_read_1 (h : IvC T c Z) (hb : blkN Z ≤ b) (hb2 : b < 2 ^ 31) : f_L_read c (nI b) = some (-31, c) := by
  have e : f_X5_read c (nI b) = some (.inl (1, c)) := by unfold f_X5_read; rw [has_n h hb hb2]; rfl
  unfold f_L_read; rw [e]; rfl
theorem q_read_n (h : IvC T c Z) (hb : b < blkN Z) (e : ¬ canN Z b) : f_L_read c (nI b) = some (-33, c) := by
  have e : f_X5_read c (nI b) = some (.inl (3, c)) := by
    unfold f_X5_read
    rw [has_y h hb, Option.bind_some, if_neg (by decide), can_c h hb, Option.bind_some, if_pos (bI_f e)]
  unfold f_L_read; rw [e]; rfl
theorem q_read_y (h : IvC T c Z) (hT : T < 2 ^ 24) (hb : b < blkN Z) (e : canN Z b) : ∃ c', f_L_read c (nI b) = some (nI (Z (48 + 12 * slotN Z b + numN Z b)), c') ∧ IvC (T + 12) c' (oneZ Z b) := by
  obtain ⟨c', hsv, hI⟩ := sv h
  have hR' := hI.2.1
  obtain ⟨st', hst, hRS⟩ := s_one h.1 hT hR' hb e
  have hcl : f_X5_read c (nI b) = some (.inr (nI (Z (48 + 12 * slotN Z b + numN Z b)), sSt c' 0 st')) := by
    unfold f_X5_read
    rw [has_y h hb, Option.bind_some, if_neg (by decide), can_c h hb, Option.bind_some, if_neg (bI_t e), hsv, Option.bind_some, hst, Option.bind_some]
  refine ⟨_, by unfold f_L_read; rw [hcl]; rfl, ?_⟩
  exact hI.fin (gSt_sSt0 _ _) rfl (WF_one h.1 b) hRS
-- rest
theorem q_rest_0 : f_L_rest c 0 = some (-32, c) := by
  have e : f_X5_rest c 0 = some (.inl (2, c)) := by unfold f_X5_rest; rw [show f_X5_isWithin 0 1 99 = some 0 from rfl]; rfl
  unfold f_L_rest; rw [e]; rfl
theorem q_rest_100 : f_L_rest c 100 = some (-32, c) := by
  have e : f_X5_rest c 100 = some (.inl (2, c)) := by unfold f_X5_rest; rw [show f_X5_isWithin 100 1 99 = some 0 from rfl]; rfl
  unfold f_L_rest; rw [e]; rfl
theorem q_rest (h : IvC T c Z) (h1 : 1 ≤ j) (h2 : j ≤ 99) : ∃ c', f_L_rest c (nI j) = some (nI (Z 41 + j), c') ∧ IvC (T + 99) c' (zu Z 41 (Z 41 + j)) := by
  obtain ⟨c', hsv, hI⟩ := sv h
  have hR' := hI.2.1
  have W := h.1
  have hcl : f_X5_rest c (nI j) = some (.inr (nI (Z 41 + j), sCk c' 0 ((gSt c' 0).2.2.1.1, nI (Z 41 + j), (gSt c' 0).2.2.1.2.2))) := by
    unfold f_X5_rest
    rw [i1, i99, p_win ⟨h1, h2⟩ (by omega), Option.bind_some, if_neg (by decide), hsv, Option.bind_some]
    unfold f_X0_pass
    rw [Option.bind_some]
    have e2 : (c'.2.2.1 0).2.1 = nI (Z 41) := hR'.2.2.1.2.1
    have e3 : ((sCk c' 0 ((c'.2.2.1 0).1, (c'.2.2.1 0).2.1 + nI j, (c'.2.2.1 0).2.2)).2.2.1 0).2.1 = nI (Z 41 + j) := by
      rw [sCk_get, e2]
      exact nI_add _ _
    rw [e3, e2, nI_add]; rfl
  refine ⟨_, by unfold f_L_rest; rw [hcl]; rfl, ?_⟩
  refine hI.fin (gCk0 _ _) rfl (WF_zu W (by omega) (by omega) (by omega) (fun _ => by omega) ⟨fun q => by omega, fun q => by omega, by have := W.2.2.2.1; omega⟩ (fun _ => by have := W.2.2.2.1; omega)) ?_
  obtain ⟨hk, hl, hc, hv, hi⟩ := hR'
  have hsl := zu_SL (Z := Z) (k := 41) (x := Z 41 + j) (by omega)
  refine ⟨zu_K (by omega) hk, hsl.ly hl, ⟨fun q hq => ?_, zu_eq.symm ▸ rfl, ?_⟩, hsl.vl (fun k h1 _ => zu_ne (by omega)) W hv, ?_⟩
  · rw [zu_ne (by omega), zu_ne (by omega)]; exact hc.1 q hq
  · rw [zu_ne (by omega)]; exact hc.2.2
  · unfold RI
    rw [zu_ne (by omega), zu_ne (by omega), zu_ne (by omega), zu_ne (by omega), zu_ne (by omega)]
    exact hi
-- set
theorem q_set_12 : f_L_set c 1 2 = some (-32, c) := by
  have e : f_X5_set c 1 2 = some (.inl (2, c)) := by unfold f_X5_set; rw [show f_X5_isWithin 1 0 1 = some 1 from rfl, Option.bind_some, if_neg (by decide), if_neg (by decide)]; unfold b_X5_set_30; rw [show f_X5_isWithin 2 0 1 = some 0 from rfl]; rfl
  unfold f_L_set; rw [e]; rfl
theorem q_set_20 : f_L_set c 2 0 = some (-31, c) := by
  have e : f_X5_set c 2 0 = some (.inl (1, c)) := by unfold f_X5_set; rw [show f_X5_isWithin 2 0 1 = some 0 from rfl]; rfl
  unfold f_L_set; rw [e]; rfl
theorem q_set (h : IvC T c Z) (hs : s ≤ 1) (hj : j ≤ 2 - s) : ∃ c', f_L_set c (nI s) (nI j) = some (nI (Z (46 + s)), c') ∧ IvC T c' (zu Z (46 + s) j) := by
  obtain ⟨c', hsv, hI⟩ := sv h
  have hR' := hI.2.1
  have W := h.1
  have hpre : f_X5_set c (nI s) (nI j) = b_X5_set_30 c (nI s) (nI j) (nI (2 - s)) (nI 0) (nI j) := by
    unfold f_X5_set
    rw [i0, i1, p_win ⟨Nat.zero_le _, hs⟩ (by omega), Option.bind_some, if_neg (by decide)]
    rcases (show s = 0 ∨ s = 1 by omega) with rfl | rfl <;> rfl
  unfold b_X5_set_30 at hpre
  rw [p_win ⟨Nat.zero_le _, hj⟩ (by omega), Option.bind_some, if_neg (by decide), hsv, Option.bind_some] at hpre
  have hex : f_X2_exchangeSetting (gSt c' 0) (nI s) (nI j) = some (nI (Z (46 + s)), ((gSt c' 0).1, (gSt c' 0).2.1, (gSt c' 0).2.2.1, (gSt c' 0).2.2.2.1, (if 46 + s = 46 then (nI j, (gSt c' 0).2.2.2.2.2) else ((gSt c' 0).2.2.2.2.1, nI j, (gSt c' 0).2.2.2.2.2.2)))) := by
    have i1' := hR'.2.2.2.2.1
    have i2' := hR'.2.2.2.2.2.1
    unfold f_X2_exchangeSetting f_X2_settingOf
    rcases (show s = 0 ∨ s = 1 by omega) with rfl | rfl
    · rw [if_neg (by decide), Option.bind_some, if_neg (by decide), if_pos rfl, i1']
    · rw [if_pos (by decide), Option.bind_some, if_pos (by decide), if_neg (by omega), i2']
  rw [hex, Option.bind_some] at hpre
  refine ⟨_, by unfold f_L_set; rw [hpre]; rfl, ?_⟩
  exact hI.fin (gSt_sSt0 _ _) rfl (WF_zu W (by omega) (by omega) (by omega) (fun q => by omega) ⟨fun q => by omega, fun q => by omega, by omega⟩ (fun q => by omega)) (set_RS W hR' (by omega))
-- looks
theorem q_slot (h : IvC T c Z) (hs : s < 4) (hj : j ≤ 7) : nth (f_X5_slot c (nI s) (nI j)) = some (snI Z s j) := by
  refine nth_inr ?_
  unfold f_X5_slot
  rw [p_slot hs, Option.bind_some, if_neg (by decide), i0, i7, p_win ⟨Nat.zero_le _, hj⟩ (by omega), Option.bind_some, if_neg (by decide), s_slotNo h.1 h.2.1 hs hj]; rfl
theorem q_slot_48 : f_L_slot c 4 8 = some (-31) := by
  have e : f_X5_slot c 4 8 = some (.inl 1) := by unfold f_X5_slot; rw [show f_X5_isSlot 4 = some 0 from rfl]; rfl
  unfold f_L_slot; rw [e]; rfl
theorem q_slot_08 : f_L_slot c 0 8 = some (-32) := by
  have e : f_X5_slot c 0 8 = some (.inl 2) := by unfold f_X5_slot; rw [show f_X5_isSlot 0 = some 1 from rfl, Option.bind_some, if_neg (by decide), show f_X5_isWithin 8 0 7 = some 0 from rfl]; rfl
  unfold f_L_slot; rw [e]; rfl
theorem q_where (h : IvC T c Z) (hb : b < blkN Z) (hj : j ≤ 6) : nth (f_X5_where c (nI b) (nI j)) = some (bnI Z b j) := by
  refine nth_inr ?_
  unfold f_X5_where
  rw [has_y h hb, Option.bind_some, if_neg (by decide), i0, i6, p_win ⟨Nat.zero_le _, hj⟩ (by omega), Option.bind_some, if_neg (by decide), s_blkNo h.1 h.2.1 hb hj]; rfl
theorem q_where_n (h : IvC T c Z) : f_L_where c (nI (blkN Z)) 7 = some (-31) := by
  have hbl := h.1.blk
  have e : f_X5_where c (nI (blkN Z)) 7 = some (.inl 1) := by unfold f_X5_where; rw [has_n h (Nat.le_refl _) (by omega)]; rfl
  unfold f_L_where; rw [e]; rfl
theorem q_lies (h : IvC T c Z) (hs : s < 4) (hj : j < 12) : nth (f_X5_lies c (nI s) (nI j)) = some (bkI Z s j) := by
  refine nth_inr ?_
  unfold f_X5_lies
  rw [p_slot hs, Option.bind_some, if_neg (by decide), i0, i11, p_win ⟨Nat.zero_le _, by omega⟩ (by omega), Option.bind_some, if_neg (by decide)]
  refine (congrArg (fun q => Option.bind q _) (show f_X1_blockAt (c.2.1 0) (nI s) (nI j) = some (bkI Z s j) from l_at h.1 h.2.1.2.1 hs hj)).trans ?_
  rfl
theorem q_lies_012 : f_L_lies c 0 12 = some (-31) := by
  have e : f_X5_lies c 0 12 = some (.inl 1) := by unfold f_X5_lies; rw [show f_X5_isSlot 0 = some 1 from rfl, Option.bind_some, if_neg (by decide), show f_X5_isWithin 12 0 11 = some 0 from rfl]; rfl
  unfold f_L_lies; rw [e]; rfl
theorem q_lies_40 : f_L_lies c 4 0 = some (-31) := by
  have e : f_X5_lies c 4 0 = some (.inl 1) := by unfold f_X5_lies; rw [show f_X5_isSlot 4 = some 0 from rfl]; rfl
  unfold f_L_lies; rw [e]; rfl
theorem q_count (h : IvC T c Z) (hj : j ≤ 11) : ∃ n, nth (f_X5_count c (nI j)) = some (cnI Z n j) := by
  obtain ⟨W, hR, -, n, -, hn⟩ := h
  refine ⟨n, nth_inr ?_⟩
  unfold f_X5_count
  rw [i0, i11, p_win ⟨Nat.zero_le _, hj⟩ (by omega), Option.bind_some, if_neg (by decide), c_count W hR hn hj]; rfl
theorem q_setting (h : IvC T c Z) (hs : s ≤ 1) : nth (f_X5_setting c (nI s)) = some (nI (Z (46 + s))) := by
  have hR := h.2.1
  refine nth_inr ?_
  unfold f_X5_setting f_X2_settingOf
  rw [i0, i1, p_win ⟨Nat.zero_le _, hs⟩ (by omega), Option.bind_some, if_neg (by decide)]
  rcases (show s = 0 ∨ s = 1 by omega) with rfl | rfl
  · rw [if_neg (by decide), Option.bind_some, hR.2.2.2.2.1]
  · rw [if_pos (by decide), Option.bind_some, hR.2.2.2.2.2.1]
theorem q_why (h : IvC T c Z) : f_X5_why c = some (nI (whyN Z (Z 46))) := by
  unfold f_X5_why
  rw [show (c.2.2.2.2.1 0).1 = nI (Z 46) from h.2.1.2.2.2.2.1, show c.1 0 = (gSt c 0).1 from rfl, k_hind h.1 h.2.1.1 h.1.2.2.2.2.2.2.2.2.1]; rfl
theorem q_sweep (h : IvC T c Z) (hT : T < 16000000) {map : Nat} (hm : map ≤ 2) : ∃ c', nth (f_X5_sweep c (nI map)) = some (swI Z map, c') ∧ IvC T c' Z ∧ c'.2.2.2.2.2 = c.2.2.2.2.2 := by
  obtain ⟨c', g1, g2, g3⟩ := c_swept (c := c) h.1 hT h.2.1.1 hm
  refine ⟨c', nth_inr ?_, h.same (g2 0 (by omega)) g3, g3⟩
  unfold f_X5_sweep
  rw [i0, i2, p_win ⟨Nat.zero_le _, hm⟩ (by omega), Option.bind_some, if_neg (by decide), g1]; rfl
theorem q_if (h : IvC T c Z) {map what : Nat} (hm : map ≤ 2) (hw : what ≤ 1) : ∃ c', nth (f_X5_ifStarted c (nI map) (nI what)) = some (nI (stN Z map what), c') ∧ IvC T c' Z ∧ c'.2.2.2.2.2 = c.2.2.2.2.2 := by
  obtain ⟨c', g1, g2, g3⟩ := c_started (c := c) h.1 h.2.1.1 hm hw
  refine ⟨c', nth_inr ?_, h.same (g2 0 (by omega)) g3, g3⟩
  unfold f_X5_ifStarted
  rw [i0, i1, i2, p_win ⟨Nat.zero_le _, hm⟩ (by omega), Option.bind_some, if_neg (by decide), p_win ⟨Nat.zero_le _, hw⟩ (by omega), Option.bind_some, if_neg (by decide), g1]; rfl
theorem q_undo_0 (h : c.2.2.2.2.2.2.2.1 = nI 0) : f_L_undo c = some (-33, c) := by
  have e : f_X5_undo c = some (.inl (3, c)) := by unfold f_X5_undo; rw [h, if_pos (by decide)]
  unfold f_L_undo; rw [e]; rfl
theorem q_best (h : IvC T c Z) : f_X5_bestChange c = some (bcZ Z).1 := c_best h.1 h.2.1.1
theorem q_share (h : IvC T c Z) : f_X5_wideShare c = some (shX Z) := c_share h.1 h.2.1.2.1
theorem q_mean (h : IvC T c Z) (hT : T < 2 ^ 24) : f_X5_meanTicks c = some (mnX Z) := c_mean h.1 hT h.2.1
end
