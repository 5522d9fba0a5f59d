-- ===== the law's rows after one call =====
theorem RGg.sl {g : Nat → Int32} {Z Z' : Nat → Nat} (h : RGg g Z) (e : SL Z Z') (e2 : ∀ j, 41 ≤ j → j ≤ 47 → Z' j = Z j) : RGg g Z' := by
  unfold RGg
  rw [e.blk, e.wide, e2 41 (by omega) (by omega), e2 42 (by omega) (by omega), e2 43 (by omega) (by omega), e2 44 (by omega) (by omega), e2 45 (by omega) (by omega), e2 46 (by omega) (by omega), e2 47 (by omega) (by omega), e 40 (by omega) (by omega)]
  exact h
section
variable {T : Nat} {Z Z' : Nat → Nat} {g k k' p q v : Nat → Int32} {G : Nat → Nat} {b s n c i j x : Nat}
theorem RGk.row (h : RGk k Z) (ho : ∀ j, j < 32 → j / 8 ≠ s → k' j = k j) (hin : k' (8 * s) = nI (if G 0 = 1 then G 1 else 0) ∧ k' (8 * s + 3) = nI (if G 0 = 1 then G 4 else 0) ∧ k' (8 * s + 4) = nI (G 5) ∧ (G 0 = 1 → k' (8 * s + 1) = nI (G 2) ∧ k' (8 * s + 2) = nI (G 3) ∧ k' (8 * s + 5) = nI (G 6) ∧ k' (8 * s + 6) = nI (G 7) ∧ k' (8 * s + 7) = nI (G 8))) : RGk k' (rowZ Z s G) := by
  intro q hq
  rw [gt_row hq (by omega), gt_row hq (by omega), rowZ_0 hq, rowZ_at (w := 5) hq (by omega), rowZ_at (w := 2) hq (by omega), rowZ_at (w := 3) hq (by omega), rowZ_at (w := 6) hq (by omega), rowZ_at (w := 7) hq (by omega), rowZ_at (w := 8) hq (by omega)]
  by_cases e : q = s
  · subst e
    simp only [if_true]
    exact hin
  · simp only [e, if_false]
    rw [ho (8 * q) (by omega) (by omega), ho (8 * q + 1) (by omega) (by omega), ho (8 * q + 2) (by omega) (by omega), ho (8 * q + 3) (by omega) (by omega), ho (8 * q + 4) (by omega) (by omega), ho (8 * q + 5) (by omega) (by omega), ho (8 * q + 6) (by omega) (by omega), ho (8 * q + 7) (by omega) (by omega)]
    exact h q hq
theorem RG.row (W : WF T Z) (h : RG (g, k, p, q, v) Z) (hk : RGk k' (rowZ Z s G)) : RG (g, k', p, q, v) (rowZ Z s G) :=
  ⟨RGg.sl h.1 (SL.row s G) (fun j h1 _ => rowZ_hi (by omega)), hk, RGp.sl h.2.2.1 (SL.row s G), RGq.sl h.2.2.2.1 (SL.row s G), RGv.sl h.2.2.2.2 W (SL.row s G) (fun j h1 _ => rowZ_hi (by omega))⟩
theorem RG_zu (W : WF T Z) (h : RG (g, k, p, q, v) Z) (h1 : 41 ≤ j) (h2 : j ≤ 47) : RG (upd g (j - 39) (nI x), k, p, q, v) (zu Z j x) := by
  obtain ⟨⟨a0, a1, a2, a3, a4, a5, a6, a7, a8, a9⟩, hk, hp, hq, hv⟩ := h
  have hsl := zu_SL (Z := Z) (k := j) (x := x) (by omega)
  have hj : ∀ i m, i = m - 39 → 41 ≤ m → m ≤ 47 → g i = nI (Z m) → upd g (j - 39) (nI x) i = nI (zu Z j x m) := by
    intro i m hi hm1 hm2 e
    by_cases ej : m = j
    · subst ej; subst hi; rw [upd_eq, zu_eq]
    · rw [upd_ne _ _ (by omega), zu_ne ej]; exact e
  refine ⟨⟨?_, ?_, hj 2 41 rfl (by omega) (by omega) a2, hj 3 42 rfl (by omega) (by omega) a3, hj 4 43 rfl (by omega) (by omega) a4, hj 5 44 rfl (by omega) (by omega) a5, hj 6 45 rfl (by omega) (by omega) a6, hj 7 46 rfl (by omega) (by omega) a7, hj 8 47 rfl (by omega) (by omega) a8, ?_⟩, hk.congr (fun j hj => zu_ne (by omega)), hp.sl hsl, hq.sl hsl, hv.sl W hsl (fun k h1 _ => zu_ne (by omega))⟩
  · rw [hsl.blk]
    show upd g (j - 39) (nI x) 0 = _
    rw [upd_ne _ _ (by omega)]; exact a0
  · rw [hsl.wide]
    show upd g (j - 39) (nI x) 1 = _
    rw [upd_ne _ _ (by omega)]; exact a1
  · show upd g (j - 39) (nI x) 9 = _
    rw [upd_ne _ _ (by omega), zu_ne (by omega)]; exact a9
-- plug
def fzr (k : Nat → Int32) (a j : Nat) : Nat → Int32 := fun i => if a ≤ i ∧ i < j then nI 0 else k i
theorem fzr_s (k : Nat → Int32) {a j : Nat} (h : a ≤ j) : upd (fzr k a j) j (nI 0) = fzr k a (j + 1) := by
  funext i
  unfold upd fzr
  by_cases e : i = j
  · rw [if_pos e, if_pos (by omega)]
  · rw [if_neg e]
    by_cases q : a ≤ i ∧ i < j
    · rw [if_pos q, if_pos (by omega)]
    · rw [if_neg q, if_neg (by omega)]
theorem fzr_0 (k : Nat → Int32) (a : Nat) : fzr k a a = k := by funext i; unfold fzr; rw [if_neg (by omega)]
def plgK (k : Nat → Int32) (s a b d : Nat) : Nat → Int32 := upd (upd (upd (fzr k (8 * s) (8 * s + 8)) (8 * s) (nI a)) (8 * s + 1) (nI b)) (8 * s + 2) (nI d)
theorem plgK_ok {a d : Nat} (h : RGk k Z) : RGk (plgK k s a b d) (rowZ Z s (plugG Z s a b d)) := by
  obtain ⟨p0, p1, p2, p3, p4, p5, p6, p7, p8⟩ := plugG_at Z s a b d
  refine h.row (fun j hj he => ?_) ?_
  · unfold plgK fzr
    rw [upd_ne _ _ (by omega), upd_ne _ _ (by omega), upd_ne _ _ (by omega), if_neg (by omega)]
  · rw [p0, p1, p2, p3, p4, p5, p6, p7, p8]
    have hz : ∀ i, 3 ≤ i → i < 8 → plgK k s a b d (8 * s + i) = nI 0 := fun i h1 h2 => by
      unfold plgK fzr
      rw [upd_ne _ _ (by omega), upd_ne _ _ (by omega), upd_ne _ _ (by omega), if_pos (by omega)]
    refine ⟨?_, hz 3 (by omega) (by omega), hz 4 (by omega) (by omega), fun _ => ⟨?_, ?_, hz 5 (by omega) (by omega), hz 6 (by omega) (by omega), hz 7 (by omega) (by omega)⟩⟩
    · unfold plgK
      rw [upd_ne _ _ (by omega), upd_ne _ _ (by omega), upd_eq]; rfl
    · unfold plgK
      rw [upd_ne _ _ (by omega), upd_eq]
    · unfold plgK
      rw [upd_eq]
-- pull
theorem pulK_ok (h : RGk k Z) : RGk (upd (upd (upd k (8 * s) (nI 0)) (8 * s + 3) (nI 0)) (8 * s + 4) (nI 0)) (rowZ Z s (pullG Z s)) := by
  refine h.row (fun j hj he => ?_) ⟨?_, ?_, ?_, fun z => ?_⟩
  · rw [upd_ne _ _ (by omega), upd_ne _ _ (by omega), upd_ne _ _ (by omega)]
  · rw [upd_ne _ _ (by omega), upd_ne _ _ (by omega), upd_eq]; rfl
  · rw [upd_ne _ _ (by omega), upd_eq]; rfl
  · rw [upd_eq]; rfl
  · exact absurd z (by simp [pullG, gput])
-- fail
theorem faiK_ok (h : RGk k Z) (hs : s < 4) (hp : Z (9 * s) = 1) : RGk (upd k (8 * s + 3) (nI 1)) (rowZ Z s (failG Z s)) := by
  obtain ⟨h0, h3, h4, h1⟩ := h s hs
  unfold gt at h0
  refine h.row (fun j hj he => ?_) ⟨?_, ?_, ?_, fun z => ?_⟩
  · rw [upd_ne _ _ (by omega)]
  · rw [upd_ne _ _ (by omega)]; exact h0
  · rw [upd_eq]
    show nI 1 = nI (if Z (9 * s) = 1 then 1 else 0)
    rw [if_pos hp]
  · rw [upd_ne _ _ (by omega)]; exact h4
  · rw [upd_ne _ _ (by omega), upd_ne _ _ (by omega), upd_ne _ _ (by omega), upd_ne _ _ (by omega), upd_ne _ _ (by omega)]; exact h1 hp
-- write
theorem t_val (W : WF T Z) (hv : RGv v Z) (hb : b < blkN Z) (hc : canN Z b) : ard 48 v (nI (12 * rsN Z b + rnN Z b)) = some (nI (Z (48 + 12 * slotN Z b + numN Z b))) := by
  have hr := rn_lt W hb hc
  have hs := rs_lt Z b
  have hve := val_eq W hb hc
  obtain ⟨h1, h2⟩ := hv b hb
  rw [p_ard (by omega) (by omega), ← hve]
  unfold rsN rnN
  by_cases e : leftN Z (slotN Z b)
  · rw [if_pos e, if_pos e]; exact congrArg some h1
  · rw [if_neg e, if_neg e]
    exact congrArg some (h2 (hc.elim (fun z => absurd z e) (fun z => z.1)))
theorem wrV_ok (W : WF T Z) (hv : RGv v Z) {v' : Nat → Int32} (e : ∀ i, v' i = if i = pN Z b ∨ (Z 40 = 3 ∧ i = qN Z b) then nI j else v i) : RGv v' (wrZ Z b j) := by
  have hsl := wr_SL Z b j
  have hw : ∀ i, i < 48 → v i = nI (Z (48 + i)) → v' i = nI (wrZ Z b j (48 + i)) := by
    intro i hi h
    rw [e]
    unfold wrZ
    by_cases c1 : i = pN Z b ∨ (Z 40 = 3 ∧ i = qN Z b)
    · rw [if_pos c1, if_pos]
      unfold pN qN at c1
      omega
    · rw [if_neg c1, if_neg]
      · exact h
      · unfold pN qN at c1
        omega
  intro b2 hb2
  rw [hsl.blk] at hb2
  obtain ⟨h1, h2⟩ := hv b2 hb2
  have hp := pN_lt W hb2
  unfold pN qN at *
  rw [hsl.slot, hsl.num, hsl.sl (by omega), hsl.nu (by omega), wr_lo (k := 40) (by omega)]
  refine ⟨?_, fun h3 => ?_⟩
  · rw [show 48 + 12 * slotN Z b2 + numN Z b2 = 48 + (12 * slotN Z b2 + numN Z b2) by omega]
    refine hw _ hp ?_
    rw [h1]
    congr 2
    omega
  · have hq := qN_lt W hb2 h3
    unfold qN at hq
    rw [show 48 + 12 * slN Z 1 b2 + nuN Z 1 b2 = 48 + (12 * slN Z 1 b2 + nuN Z 1 b2) by omega]
    refine hw _ hq ?_
    rw [h2 h3]
    congr 2
    omega
theorem RG.wr (W : WF T Z) (h : RG (g, k, p, q, v) Z) {v' : Nat → Int32} (e : ∀ i, v' i = if i = pN Z b ∨ (Z 40 = 3 ∧ i = qN Z b) then nI j else v i) : RG (g, k, p, q, v') (wrZ Z b j) :=
  ⟨RGg.sl h.1 (wr_SL Z b j) (fun m _ h2 => wr_lo (by omega)), RGk.congr h.2.1 (fun m hm => wr_lo (by omega)), RGp.sl h.2.2.1 (wr_SL Z b j), RGq.sl h.2.2.2.1 (wr_SL Z b j), wrV_ok W h.2.2.2.2 e⟩
-- stop
theorem kI_lt {z : Nat} (h : z ≤ 3) : (kI z < 0) ↔ z = 0 := by rcases kind_cases h with rfl | rfl | rfl | rfl <;> decide
def stK (k : Nat → Int32) (j : Nat) : Nat → Int32 := fun i => if i < 8 * j ∧ i % 8 = 4 then nI 0 else k i
theorem stK_s (k : Nat → Int32) (j : Nat) : upd (stK k j) (8 * j + 4) (nI 0) = stK k (j + 1) := by
  funext i
  unfold upd stK
  by_cases e : i = 8 * j + 4
  · rw [if_pos e, if_pos (by omega)]
  · rw [if_neg e]
    by_cases q : i < 8 * j ∧ i % 8 = 4
    · rw [if_pos q, if_pos (by omega)]
    · rw [if_neg q, if_neg (by omega)]
theorem stK_0 (k : Nat → Int32) : stK k 0 = k := by funext i; unfold stK; rw [if_neg (by omega)]
theorem RG.forget (h : RG (g, k, p, q, v) Z) {p' q' : Nat → Int32} (hp : ∀ b, b < 48 → p' b = mI) (hq : ∀ b, b < 48 → q' b = mI) : RG (upd (upd (upd g 0 (nI 0)) 1 (nI 0)) 9 mI, stK k 4, p', q', v) (forgetZ Z) := by
  obtain ⟨⟨a0, a1, a2, a3, a4, a5, a6, a7, a8, a9⟩, hk, -, -, -⟩ := h
  obtain ⟨r1, r2, r3, r4, r5⟩ := fg_rm Z
  have hg : ∀ i, i ≠ 0 → i ≠ 1 → i ≠ 9 → upd (upd (upd g 0 (nI 0)) 1 (nI 0)) 9 mI i = g i := fun i h0 h1 h9 => by
    rw [upd_ne _ _ h9, upd_ne _ _ h1, upd_ne _ _ h0]
  refine ⟨⟨?_, ?_, ?_, ?_, ?_, ?_, ?_, ?_, ?_, ?_⟩, fun s hs => ?_, fun b hb => ?_, fun b hb => ?_, fun b hb => ?_⟩
  · show upd (upd (upd g 0 (nI 0)) 1 (nI 0)) 9 mI 0 = _
    rw [upd_ne _ _ (by omega), upd_ne _ _ (by omega), upd_eq, r4]
  · show upd (upd (upd g 0 (nI 0)) 1 (nI 0)) 9 mI 1 = _
    rw [upd_ne _ _ (by omega), upd_eq, r5]
  · exact (hg 2 (by omega) (by omega) (by omega)).trans (by rw [fg_hi (by omega)]; exact a2)
  · exact (hg 3 (by omega) (by omega) (by omega)).trans (by rw [fg_hi (by omega)]; exact a3)
  · exact (hg 4 (by omega) (by omega) (by omega)).trans (by rw [fg_hi (by omega)]; exact a4)
  · exact (hg 5 (by omega) (by omega) (by omega)).trans (by rw [fg_hi (by omega)]; exact a5)
  · exact (hg 6 (by omega) (by omega) (by omega)).trans (by rw [fg_hi (by omega)]; exact a6)
  · exact (hg 7 (by omega) (by omega) (by omega)).trans (by rw [fg_hi (by omega)]; exact a7)
  · exact (hg 8 (by omega) (by omega) (by omega)).trans (by rw [fg_hi (by omega)]; exact a8)
  · show upd (upd (upd g 0 (nI 0)) 1 (nI 0)) 9 mI 9 = _
    rw [upd_eq, fg_mp (by omega) (by omega)]; rfl
  · obtain ⟨h0, h3, h4, h1⟩ := hk s hs
    have hst : ∀ i, i < 8 → i ≠ 4 → stK k 4 (8 * s + i) = k (8 * s + i) := fun i hi h4 => by unfold stK; rw [if_neg (by omega)]
    have hst0 : stK k 4 (8 * s) = k (8 * s) := by unfold stK; rw [if_neg (by omega)]
    have hst4 : stK k 4 (8 * s + 4) = nI 0 := by unfold stK; rw [if_pos (by omega)]
    have gg : ∀ j, j < 9 → j ≠ 5 → gt (forgetZ Z) s j = gt Z s j := fun j hj h5 => by unfold gt; rw [fg_0 hs, fg_at hs hj, if_neg h5]
    have fg : ∀ j, j < 9 → j ≠ 5 → forgetZ Z (9 * s + j) = Z (9 * s + j) := fun j hj h5 => by rw [fg_at hs hj, if_neg h5]
    show stK k 4 (8 * s) = _ ∧ stK k 4 (8 * s + 3) = _ ∧ stK k 4 (8 * s + 4) = _ ∧ (_ → stK k 4 (8 * s + 1) = _ ∧ stK k 4 (8 * s + 2) = _ ∧ stK k 4 (8 * s + 5) = _ ∧ stK k 4 (8 * s + 6) = _ ∧ stK k 4 (8 * s + 7) = _)
    rw [hst0, hst4, hst 3 (by omega) (by omega), hst 1 (by omega) (by omega), hst 2 (by omega) (by omega), hst 5 (by omega) (by omega), hst 6 (by omega) (by omega), hst 7 (by omega) (by omega), gg 1 (by omega) (by omega), gg 4 (by omega) (by omega), fg_0 hs, fg 2 (by omega) (by omega), fg 3 (by omega) (by omega), fg 6 (by omega) (by omega), fg 7 (by omega) (by omega), fg 8 (by omega) (by omega), fg_at hs (by omega), if_pos rfl]
    exact ⟨h0, h3, rfl, h1⟩
  · show p' b = _
    rw [hp b hb]; unfold pI; rw [if_neg (by omega)]
  · show q' b = _
    rw [hq b hb]; unfold qI; rw [if_neg (by omega)]
  · omega
end
