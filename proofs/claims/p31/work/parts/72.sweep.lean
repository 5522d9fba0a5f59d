-- ===== sweep =====
section
variable {T : Nat} {Z : Nat → Nat} {b map : Nat} {ly : VLy} {c : VC}
theorem one_o1 (Z : Nat → Nat) (b : Nat) : ∀ k, (k < 36 ∧ (k % 9 = 6 ∨ k % 9 = 7)) ∨ k = 41 → oneZ Z b k = o1Z Z (rsN Z b) (rrN Z b) k := fun k hk => by
  have hs := rs_lt Z b
  have hr := rr_le Z b
  unfold oneZ o1Z
  have e3 : wtZ Z (frN Z b) (9 * rsN Z b + 3) = Z (9 * rsN Z b + 3) := by unfold wtZ; rw [zu_ne (by omega), zu_ne (by omega)]
  unfold nwZ
  rw [e3]
  unfold tkZ
  by_cases e : k = 41
  · subst e
    rw [zu_eq, zu_eq, zu_ne (by omega), zu_ne (by omega), zu_ne (by omega), zu_ne (by omega)]; rfl
  · rw [zu_ne e, zu_ne e, zu_ne (by omega), zu_ne (by omega)]; rfl
theorem two_o2 (Z : Nat → Nat) (b : Nat) : ∀ k, (k < 36 ∧ (k % 9 = 6 ∨ k % 9 = 7)) ∨ k = 41 → twoZ Z b k = o2Z Z (rsN Z b) (rrN Z b) (rsN Z (b + 1)) (rrN Z (b + 1)) k := fun k hk => by
  have hs := rs_lt Z b
  have hr := rr_le Z b
  have hs2 := rs_lt Z (b + 1)
  have hr2 := rr_le Z (b + 1)
  have ew : ∀ k, k ≠ 41 → k ≠ 44 → w2Z Z b k = Z k := fun k k1 k2 => by unfold w2Z wtZ; rw [zu_ne k1, zu_ne k2, zu_ne k1, zu_ne k2]
  have e3 : w2Z Z b (9 * rsN Z b + 3) = Z (9 * rsN Z b + 3) := ew _ (by omega) (by omega)
  have e4 : w2Z Z b (9 * rsN Z (b + 1) + 3) = Z (9 * rsN Z (b + 1) + 3) := ew _ (by omega) (by omega)
  have en1 : ∀ k, nwZ (w2Z Z b) (rsN Z b) (rrN Z b) k = if k = 42 then w2Z Z b 42 + 1 else if k = 9 * rsN Z b + 8 then w2Z Z b (9 * rsN Z b + 8) + 1 else if k = 9 * rsN Z b + (6 + rrN Z b) then w2Z Z b 41 + w2Z Z b (9 * rsN Z b + 3) else w2Z Z b k := fun k => rfl
  have ho : ∀ k, o2Z Z (rsN Z b) (rrN Z b) (rsN Z (b + 1)) (rrN Z (b + 1)) k = if k = 41 then (if 41 = 9 * rsN Z (b + 1) + (6 + rrN Z (b + 1)) then w2Z Z b 41 + Z (9 * rsN Z (b + 1) + 3) else if 41 = 9 * rsN Z b + (6 + rrN Z b) then w2Z Z b 41 + Z (9 * rsN Z b + 3) else w2Z Z b 41) + 1 else if k = 9 * rsN Z (b + 1) + (6 + rrN Z (b + 1)) then w2Z Z b 41 + Z (9 * rsN Z (b + 1) + 3) else if k = 9 * rsN Z b + (6 + rrN Z b) then w2Z Z b 41 + Z (9 * rsN Z b + 3) else w2Z Z b k := fun k => rfl
  have ht : ∀ k, twoZ Z b k = if k = 41 then (if 41 = 43 then Z 43 + 1 else nwZ (nwZ (w2Z Z b) (rsN Z b) (rrN Z b)) (rsN Z (b + 1)) (rrN Z (b + 1)) 41) + 1 else if k = 43 then Z 43 + 1 else nwZ (nwZ (w2Z Z b) (rsN Z b) (rrN Z b)) (rsN Z (b + 1)) (rrN Z (b + 1)) k := fun k => rfl
  have en2 : ∀ k, nwZ (nwZ (w2Z Z b) (rsN Z b) (rrN Z b)) (rsN Z (b + 1)) (rrN Z (b + 1)) k = if k = 42 then nwZ (w2Z Z b) (rsN Z b) (rrN Z b) 42 + 1 else if k = 9 * rsN Z (b + 1) + 8 then nwZ (w2Z Z b) (rsN Z b) (rrN Z b) (9 * rsN Z (b + 1) + 8) + 1 else if k = 9 * rsN Z (b + 1) + (6 + rrN Z (b + 1)) then nwZ (w2Z Z b) (rsN Z b) (rrN Z b) 41 + nwZ (w2Z Z b) (rsN Z b) (rrN Z b) (9 * rsN Z (b + 1) + 3) else nwZ (w2Z Z b) (rsN Z b) (rrN Z b) k := fun k => rfl
  have en41 : nwZ (w2Z Z b) (rsN Z b) (rrN Z b) 41 = w2Z Z b 41 := by rw [en1, if_neg (by omega), if_neg (by omega), if_neg (by omega)]
  have en3 : nwZ (w2Z Z b) (rsN Z b) (rrN Z b) (9 * rsN Z (b + 1) + 3) = Z (9 * rsN Z (b + 1) + 3) := by rw [en1, if_neg (by omega), if_neg (by omega), if_neg (by omega), e4]
  rw [ht, ho]
  by_cases e : k = 41
  · subst e
    rw [if_pos rfl, if_pos rfl, if_neg (by omega), if_neg (by omega), if_neg (by omega), en2, if_neg (by omega), if_neg (by omega), if_neg (by omega), en41]
  · rw [if_neg e, if_neg e, if_neg (by omega), en2, if_neg (by omega), if_neg (by omega)]
    by_cases ea : k = 9 * rsN Z (b + 1) + (6 + rrN Z (b + 1))
    · rw [if_pos ea, if_pos ea, en41, en3]
    · rw [if_neg ea, if_neg ea, en1, if_neg (by omega), if_neg (by omega), e3]
theorem num_lt2 (W : WF T Z) (hb : b < blkN Z) : numN Z b < Z (36 + slotN Z b) := by
  have h1 := ix_room hb W.2.1
  have h2 := ch_le Z b
  unfold roomA roomB at h1
  unfold slotN numN slN nuN
  rcases (show chN Z b = 0 ∨ chN Z b = 1 by omega) with e | e <;> rw [e] <;> simp only [Nat.reduceMul, Nat.reduceAdd]
  · have h3 := h1.1 e
    by_cases q : ixN Z b < Z 36
    · rw [if_pos q, if_pos q]; exact q
    · rw [if_neg q, if_neg q]
      show _ < Z 37
      omega
  · have h3 := h1.2 e
    by_cases q : ixN Z b < Z 38
    · rw [if_pos q, if_pos q]; exact q
    · rw [if_neg q, if_neg q]
      show _ < Z 39
      omega
theorem fresh (W : WF T Z) (hm : map ≤ 2) (hb : b < blkN (mapZ Z map)) : leftN (mapZ Z map) (slotN (mapZ Z map) b) ∧ Z (9 * slotN (mapZ Z map) b) = 1 := by
  have hs := slot_lt (mapZ Z map) b
  have h1 := num_lt2 (WF_map W hm) hb
  rw [mp_mp hs] at h1
  have h2 : Z (9 * slotN (mapZ Z map) b) = 1 ∧ Z (9 * slotN (mapZ Z map) b + 4) = 0 := by
    by_cases e : Z (9 * slotN (mapZ Z map) b) = 1 ∧ Z (9 * slotN (mapZ Z map) b + 4) = 0
    · exact e
    · have : gs Z (slotN (mapZ Z map) b) = 0 := by unfold gs; rw [if_neg e]
      omega
  refine ⟨⟨?_, ?_⟩, h2.1⟩
  · rw [mp_at hs (by omega), if_pos rfl]
    unfold gd
    rw [if_pos h2]
  · rw [mp_at hs (by omega), if_neg (by omega), if_neg (by omega)]
    exact h2.2
def lpZ : Nat → (Nat → Nat) → Nat → (Nat → Nat)
  | 0, Y, _ => Y
  | f + 1, Y, b => if b < blkN Y then (if b < wideN Y then lpZ f (twoZ Y b) (b + 2) else lpZ f (oneZ Y b) (b + 1)) else Y
def swI (Z : Nat → Nat) (map : Nat) : Int32 := if whyN Z map = 0 then nI (lpZ 49 (mapZ Z map) 0 41 - Z 41) else mI
theorem wide_ev (Z : Nat → Nat) (hk : Z 40 ≤ 3) : wideN Z % 2 = 0 ∧ wideN Z ≤ blkN Z := by
  have := lesN_le Z
  unfold wideN blkN
  rcases kind_cases hk with e | e | e | e <;> simp [e] <;> omega
theorem l_begins (W : WF T Z) (h : RLy ly Z) (hb : b < 2 ^ 30) : f_X1_beginsPair ly (nI b) = some (bI (decide (b < wideN Z ∧ b % 2 = 0))) := by
  have hbl := W.blk
  unfold f_X1_beginsPair f_X1_isWide
  rw [h.2.2.2.2.2.2, i1, i0, e_and (by omega)]
  simp (discharger := omega) only [nI_ltI]
  by_cases e : b < wideN Z
  · rw [if_pos e, Option.bind_some, if_neg (by decide)]
    simp (discharger := omega) only [nI_eq]
    by_cases e2 : b % 2 = 0
    · rw [if_pos e2, bI_T ⟨e, e2⟩]; rfl
    · rw [if_neg e2, bI_f (fun q => e2 q.2)]; rfl
  · rw [if_neg e, Option.bind_some, if_pos rfl, bI_f (fun q => e q.1)]; rfl
theorem t_rank {Y : Nat → Nat} (W : WF T Z) (hm : map ≤ 2) (hq : SQ (mapZ Z map) Y) (hK : RK (c.1 0) Z) (hL : RLy (c.2.1 8) (mapZ Z map)) (hb : b < blkN (mapZ Z map)) : f_X5_trialRank c (nI b) = some (nI (2 * rsN Y b + rrN Y b)) ∧ f_X5_trialDelay c (nI b) = some (nI (Y (9 * rsN Y b + 3))) := by
  have W' := WF_map W hm
  have hs := slot_lt (mapZ Z map) b
  have hn := num_lt W' hb
  obtain ⟨f1, f2⟩ := fresh W hm hb
  have e1 : rsN Y b = slotN (mapZ Z map) b := by rw [hq.rs]; unfold rsN; rw [if_pos f1]
  have e2 : rnN (mapZ Z map) b = numN (mapZ Z map) b := by unfold rnN; rw [if_pos f1]
  have e3 : rsN (mapZ Z map) b = slotN (mapZ Z map) b := by unfold rsN; rw [if_pos f1]
  have e4 : rrN Y b = rkN Z (slotN (mapZ Z map) b) (numN (mapZ Z map) b) := by
    rw [hq.rr]
    unfold rrN rkN
    have e6 : mapZ Z map (9 * slotN (mapZ Z map) b + 2) = Z (9 * slotN (mapZ Z map) b + 2) := by rw [mp_at hs (by omega), if_neg (by omega), if_neg (by omega)]
    rw [e3, e2, e6]
  have e5 : Y (9 * slotN (mapZ Z map) b + 3) = Z (9 * slotN (mapZ Z map) b + 3) := by
    rw [hq _ (by omega), mp_at hs (by omega), if_neg (by omega), if_neg (by omega)]
  constructor
  · unfold f_X5_trialRank
    rw [l_slot W' hL hb, Option.bind_some, l_num W' hL hb, Option.bind_some, k_rrow W hK hs f2 (by omega), Option.bind_some, e1, e4]
  · unfold f_X5_trialDelay
    rw [l_slot W' hL hb, Option.bind_some, k_delay W hK hs f2, Option.bind_some, e1, e5]
theorem c_sweepL (W : WF T Z) (hm : map ≤ 2) : ∀ (f : Nat) (Y : Nat → Nat) (b T n : Nat) (c : VC), WF T Y → T + 24 * f + 100 < 2 ^ 24 → SQ (mapZ Z map) Y → (b % 2 = 0 ∨ wideN (mapZ Z map) ≤ b) → b ≤ 100 → blkN (mapZ Z map) ≤ b + f → f < n → RK (c.1 0) Z → RLy (c.2.1 8) (mapZ Z map) → RCt (Z 41) (c.2.2.1 8) Y → ∃ c', l_X5_sweepTicks_42 n c (nI b) = some (nI (lpZ (f + 1) Y b 41 - Z 41), c') ∧ (∀ k, k < 8 → gSt c' k = gSt c k) ∧ c'.2.2.2.2.2 = c.2.2.2.2.2 := by
  have W' := WF_map W hm
  have hbl := W'.blk
  obtain ⟨hev, hwb⟩ := wide_ev (mapZ Z map) W'.2.1
  intro f
  induction f with
  | zero =>
    intro Y b T n c WY hT hq hbe hb100 hbf hn hK hL hC
    obtain ⟨n, rfl⟩ := Nat.exists_eq_succ_of_ne_zero (show n ≠ 0 by omega)
    refine ⟨c, ?_, fun k _ => rfl, rfl⟩
    rw [l_X5_sweepTicks_42, hL.2.2.2.2.2.1, if_neg (nI_nlt (by omega) (by omega)), hC.2.2]
    unfold lpZ
    rw [if_neg (by rw [hq.sl.blk]; omega)]
  | succ f ih =>
    intro Y b T n c WY hT hq hbe hb100 hbf hn hK hL hC
    obtain ⟨n, rfl⟩ := Nat.exists_eq_succ_of_ne_zero (show n ≠ 0 by omega)
    by_cases e : b < blkN (mapZ Z map)
    · obtain ⟨t1, t2⟩ := t_rank W hm hq hK hL e
      have hbg := l_begins W' hL (b := b) (by omega)
      by_cases e2 : b < wideN (mapZ Z map)
      · have e3 : b % 2 = 0 := by omega
        have e4 : b + 1 < blkN (mapZ Z map) := by omega
        obtain ⟨t3, t4⟩ := t_rank W hm hq hK hL e4
        obtain ⟨ck', k1, k2, -⟩ := c_pair WY (by omega) hC (rs_lt Y b) (rr_le Y b) (rs_lt Y (b + 1)) (rr_le Y (b + 1))
        obtain ⟨c', g1, g2, g3⟩ := ih (twoZ Y b) (b + 2) (T + 24) n (sCk c 8 ck') (WF_two WY b) (by omega) (hq.trans (SQ_two b)) (by omega) (by omega) (by omega) (by omega) hK hL (by rw [sCk_get]; exact k2.congr (two_o2 Y b))
        refine ⟨c', ?_, fun k hk => (g2 k hk).trans (gCk8 c ck' hk), g3⟩
        rw [l_X5_sweepTicks_42, hL.2.2.2.2.2.1, if_pos (nI_lt e (by omega)), t1, Option.bind_some, hbg, Option.bind_some, if_neg (bI_t ⟨e2, e3⟩), i1, nI_add, t3, Option.bind_some, t2, Option.bind_some, t4, Option.bind_some, k1, Option.bind_some, i2, nI_add, g1]
        conv => rhs; unfold lpZ
        rw [if_pos (by rw [hq.sl.blk]; exact e), if_pos (by rw [hq.sl.wide]; exact e2)]
      · obtain ⟨ck', k1, k2, -⟩ := c_single WY (by omega) hC (rs_lt Y b) (rr_le Y b)
        obtain ⟨c', g1, g2, g3⟩ := ih (oneZ Y b) (b + 1) (T + 24) n (sCk c 8 ck') ((WF_one WY b).mono (by omega)) (by omega) (hq.trans (SQ_one b)) (by omega) (by omega) (by omega) (by omega) hK hL (by rw [sCk_get]; exact k2.congr (one_o1 Y b))
        refine ⟨c', ?_, fun k hk => (g2 k hk).trans (gCk8 c ck' hk), g3⟩
        rw [l_X5_sweepTicks_42, hL.2.2.2.2.2.1, if_pos (nI_lt e (by omega)), t1, Option.bind_some, hbg, Option.bind_some, if_pos (bI_f (fun z => e2 z.1)), t2, Option.bind_some, k1, Option.bind_some, i1, nI_add, g1]
        conv => rhs; unfold lpZ
        rw [if_pos (by rw [hq.sl.blk]; exact e), if_neg (by rw [hq.sl.wide]; exact e2)]
    · refine ⟨c, ?_, fun k _ => rfl, rfl⟩
      rw [l_X5_sweepTicks_42, hL.2.2.2.2.2.1, if_neg (nI_nlt (by omega) (by omega)), hC.2.2]
      unfold lpZ
      rw [if_neg (by rw [hq.sl.blk]; omega)]
theorem c_swept (W : WF T Z) (hT : T < 16000000) (h : RK (c.1 0) Z) (hm : map ≤ 2) : ∃ c', f_X5_sweepTicks c (nI map) = some (swI Z map, c') ∧ (∀ k, k < 8 → gSt c' k = gSt c k) ∧ c'.2.2.2.2.2 = c.2.2.2.2.2 := by
  have hy := whyN_le Z map
  have W' := WF_map W hm
  have hbl := W'.blk
  have hfu : FU = 1000 := rfl
  unfold f_X5_sweepTicks swI
  rw [k_hind W h hm, Option.bind_some, i0]
  simp (discharger := omega) only [nI_eq]
  by_cases e : whyN Z map = 0
  · rw [if_pos e, if_pos e]
    obtain ⟨w, h1, h2⟩ := l_lay (ly := c.2.1 8) W h hm
    rw [h1, Option.bind_some]
    have hr : f_X0_reset ((sLy c 8 w).2.2.1 8) = some (fun i => if i < 8 then 0 else (c.2.2.1 8).1 i, 0, 0) := rfl
    rw [hr, Option.bind_some]
    obtain ⟨c', g1, g2, g3⟩ := c_sweepL W hm 48 (mapZ Z map) 0 T FU (sCk (sLy c 8 w) 8 (fun i => if i < 8 then 0 else (c.2.2.1 8).1 i, 0, 0)) W' (by omega) (SQ.refl _) (by omega) (by omega) (by omega) (by omega) h (by
      show RLy ((sLy c 8 w).2.1 8) _
      rw [sLy_get]; exact h2) (by
      rw [sCk_get]
      refine ⟨fun s hs r hr => ?_, ?_, ?_⟩
      · rw [mp_at hs (by omega), if_neg (by omega), if_pos (by omega)]
        refine ⟨Nat.le_refl _, ?_⟩
        dsimp only
        rw [if_pos (by omega), Nat.sub_self]; rfl
      · rw [mp_mid (by omega) (by omega)]; exact Nat.le_refl _
      · rw [mp_mid (by omega) (by omega), Nat.sub_self]; rfl)
    exact ⟨c', g1, fun k hk => (g2 k hk).trans ((gCk8 _ _ hk).trans (gLy c w hk)), g3⟩
  · rw [if_neg e, if_neg e]
    exact ⟨c, rfl, fun k _ => rfl, rfl⟩
theorem one_41 (Y : Nat → Nat) (b : Nat) : Y 41 ≤ oneZ Y b 41 := by
  have hs := rs_lt Y b
  have hr := rr_le Y b
  unfold oneZ tkZ nwZ
  rw [zu_eq, zu_ne (by omega), zu_ne (by omega), zu_ne (by omega)]
  unfold wtZ
  rw [zu_eq]
  omega
theorem two_41 (Y : Nat → Nat) (b : Nat) : Y 41 ≤ twoZ Y b 41 := by
  have hs := rs_lt Y b
  have hr := rr_le Y b
  have hs2 := rs_lt Y (b + 1)
  have hr2 := rr_le Y (b + 1)
  unfold twoZ tkZ nwZ
  rw [zu_eq, zu_ne (by omega), zu_ne (by omega), zu_ne (by omega), zu_ne (by omega), zu_ne (by omega), zu_ne (by omega), zu_ne (by omega)]
  unfold w2Z wtZ
  rw [zu_eq, zu_eq]
  omega
end
