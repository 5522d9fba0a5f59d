-- ===== the law's reads =====
def RGh (g : Nat → Int32) (Z : Nat → Nat) : Prop := g 0 = nI (blkN Z) ∧ g 1 = nI (wideN Z) ∧ g 3 = nI (Z 42) ∧ g 4 = nI (Z 43) ∧ g 5 = nI (Z 44) ∧ g 6 = nI (Z 45) ∧ g 7 = nI (Z 46) ∧ g 8 = nI (Z 47) ∧ g 9 = kI (Z 40)
theorem RGg.h {g : Nat → Int32} {Z : Nat → Nat} (h : RGg g Z) : RGh g Z := ⟨h.1, h.2.1, h.2.2.2⟩
theorem RGh.g {g : Nat → Int32} {Z : Nat → Nat} (h : RGh g Z) (h2 : g 2 = nI (Z 41)) : RGg g Z := ⟨h.1, h.2.1, h2, h.2.2⟩
section
variable {T : Nat} {Z Z' : Nat → Nat} {g k p q v : Nat → Int32} {b s n c i w r : Nat}
theorem RGp.sl (h : RGp p Z) (e : SL Z Z') : RGp p Z' := fun b hb => by
  rw [h b hb]
  unfold pI pN
  rw [e.blk, e.slot, e.num]
theorem RGq.sl (h : RGq q Z) (e : SL Z Z') : RGq q Z' := fun b hb => by
  rw [h b hb]
  unfold qI qN
  rw [e.blk, e.sl (by omega), e.nu (by omega), e 40 (by omega) (by omega)]
theorem RGv.sl (h : RGv v Z) (W : WF T Z) (e : SL Z Z') (e2 : ∀ k, 48 ≤ k → k < 96 → Z' k = Z k) : RGv v Z' := fun b hb => by
  rw [e.blk] at hb
  have h1 := pN_lt W hb
  unfold pN at *
  unfold qN
  rw [e.slot, e.num, e.sl (by omega), e.nu (by omega), e 40 (by omega) (by omega), e2 _ (by omega) (by omega)]
  refine ⟨(h b hb).1, fun h3 => ?_⟩
  have h4 := qN_lt W hb h3
  unfold qN at h4
  rw [e2 _ (by omega) (by omega)]
  exact (h b hb).2 h3
theorem RGk.congr (h : RGk k Z) (e : ∀ j, j < 36 → Z' j = Z j) : RGk k Z' := fun s hs => by
  have := h s hs
  unfold gt at *
  rw [e (9 * s) (by omega), e (9 * s + 1) (by omega), e (9 * s + 2) (by omega), e (9 * s + 3) (by omega), e (9 * s + 4) (by omega), e (9 * s + 5) (by omega), e (9 * s + 6) (by omega), e (9 * s + 7) (by omega), e (9 * s + 8) (by omega)]
  exact this
theorem tl_fr (W : WF T Z) (h : RGk k Z) (hc : canN Z b) : k (8 * rsN Z b + 5 + rrN Z b) = nI (frN Z b) := by
  have hr := rr_le Z b
  obtain ⟨-, -, -, h1⟩ := h _ (rs_lt Z b)
  obtain ⟨-, -, h5, h6, -⟩ := h1 (rs_plug W hc)
  unfold frN
  rcases (show rrN Z b = 0 ∨ rrN Z b = 1 by omega) with e | e <;> rw [e]
  · exact h5
  · exact h6
theorem t_rrank (W : WF T Z) (hk : RGk k Z) (hb : b < blkN Z) (hc : canN Z b) : f_L_rank 32 k (nI (12 * rsN Z b + rnN Z b)) = some (nI (8 * rsN Z b + 5 + rrN Z b)) := tl_rank W hk (rs_lt Z b) (rs_plug W hc) (rn_lt W hb hc)
/-- one turn of the waiting -/
theorem r9_in {K : VRw → Int32 → Int32 → Int32 → Int32 → Option VRw} {s4 s5 : Int32} {t0 t1 : Nat} (W : WF T Z) (hk : RGk k Z) (hp : RGp p Z) (hq : RGq q Z) (hb : i < blkN Z) (hc : canN Z i) (hT : T < 2 ^ 24) (hw : w < 2 ^ 30) (ht : i < t1 + t0) (ht2 : t1 + t0 < 2 ^ 30) : b_L_reads_23 K (g, k, p, q, v) s4 s5 (nI w) (nI i) (nI t0) (nI t1) (nI i) = K (g, k, p, q, v) s4 s5 (nI (max w (frN Z i))) (nI (i + 1)) := by
  have hr := rr_le Z i
  have hs := rs_lt Z i
  have hf : frN Z i ≤ Z 41 + 9 := fr_le W hs hr
  have h41 : Z 41 ≤ T := W.2.2.2.1
  unfold b_L_reads_23
  rw [nI_add, if_pos (nI_lt ht (by omega))]
  dsimp only
  rw [t_readAt W hk hp hq hb hc, Option.bind_some, t_rrank W hk hb hc, Option.bind_some, p_ard (by omega) (by omega), Option.bind_some, tl_fr W hk hc, i1, nI_add]
  simp (discharger := omega) only [nI_ltI]
  by_cases e : w < frN Z i
  · rw [if_pos e, show max w (frN Z i) = frN Z i by omega]
  · rw [if_neg e, show max w (frN Z i) = w by omega]
theorem r9_out {K : VRw → Int32 → Int32 → Int32 → Int32 → Option VRw} {s5 : Int32} {t0 t1 : Nat} (hg : RGg g Z) (hw : Z 41 ≤ w) (ht : t1 + t0 ≤ i) (hi : i < 2 ^ 30) : b_L_reads_23 K (g, k, p, q, v) (nI b) s5 (nI w) (nI i) (nI t0) (nI t1) (nI i) = l_L_reads_81 FU (upd g 5 (nI (Z 44 + (w - Z 41))), k, p, q, v) (nI b) s5 (nI w) (nI b) := by
  unfold b_L_reads_23
  rw [nI_add, if_neg (nI_nlt ht (by omega)), i5, i2]
  dsimp only
  rw [p_ard (by omega) (by omega), Option.bind_some, p_ard (by omega) (by omega), Option.bind_some, hg.2.2.2.2.2.1, hg.2.2.1, pk_sub hw, nI_add, p_aup (by omega) (by omega), Option.bind_some]
theorem RGk.nw (h : RGk k Z) (hs : s < 4) (hr : r ≤ 1) (hp : Z (9 * s) = 1) : RGk (upd (upd k (8 * s + 5 + r) (nI (Z 41 + Z (9 * s + 3)))) (8 * s + 7) (nI (Z (9 * s + 8) + 1))) (nwZ Z s r) := by
  intro q hq
  obtain ⟨h0, h3, h4, h1⟩ := h q hq
  have hsq := SQ_nw (Z := Z) hs hr
  have ev : ∀ k, nwZ Z s r k = if k = 42 then Z 42 + 1 else if k = 9 * s + 8 then Z (9 * s + 8) + 1 else if k = 9 * s + (6 + r) then Z 41 + Z (9 * s + 3) else Z k := fun k => rfl
  unfold gt at *
  rw [hsq (9 * q) (by omega), hsq (9 * q + 1) (by omega), hsq (9 * q + 2) (by omega), hsq (9 * q + 3) (by omega), hsq (9 * q + 4) (by omega), hsq (9 * q + 5) (by omega)]
  rw [upd_ne _ _ (show 8 * q ≠ 8 * s + 7 by omega), upd_ne _ _ (show 8 * q ≠ 8 * s + 5 + r by omega), upd_ne _ _ (show 8 * q + 3 ≠ 8 * s + 7 by omega), upd_ne _ _ (show 8 * q + 3 ≠ 8 * s + 5 + r by omega), upd_ne _ _ (show 8 * q + 4 ≠ 8 * s + 7 by omega), upd_ne _ _ (show 8 * q + 4 ≠ 8 * s + 5 + r by omega), upd_ne _ _ (show 8 * q + 1 ≠ 8 * s + 7 by omega), upd_ne _ _ (show 8 * q + 1 ≠ 8 * s + 5 + r by omega), upd_ne _ _ (show 8 * q + 2 ≠ 8 * s + 7 by omega), upd_ne _ _ (show 8 * q + 2 ≠ 8 * s + 5 + r by omega)]
  refine ⟨h0, h3, h4, fun hq1 => ?_⟩
  obtain ⟨a1, a2, a5, a6, a7⟩ := h1 hq1
  refine ⟨a1, a2, ?_, ?_, ?_⟩
  · rw [upd_ne _ _ (by omega), ev, if_neg (by omega), if_neg (by omega)]
    by_cases e : 9 * q + 6 = 9 * s + (6 + r)
    · rw [if_pos e, show 8 * q + 5 = 8 * s + 5 + r by omega, upd_eq]
    · rw [if_neg e, upd_ne _ _ (by omega)]; exact a5
  · rw [upd_ne _ _ (by omega), ev, if_neg (by omega), if_neg (by omega)]
    by_cases e : 9 * q + 7 = 9 * s + (6 + r)
    · rw [if_pos e, show 8 * q + 6 = 8 * s + 5 + r by omega, upd_eq]
    · rw [if_neg e, upd_ne _ _ (by omega)]; exact a6
  · rw [ev, if_neg (by omega)]
    by_cases e : 9 * q + 8 = 9 * s + 8
    · rw [if_pos e, show 8 * q + 7 = 8 * s + 7 by omega, upd_eq]
    · rw [if_neg e, if_neg (by omega), upd_ne _ _ (by omega), upd_ne _ _ (by omega)]; exact a7
theorem RGh.nw (h : RGh g Z) (hs : s < 4) (hr : r ≤ 1) : RGh (upd g 3 (nI (Z 42 + 1))) (nwZ Z s r) := by
  obtain ⟨a0, a1, a3, a4, a5, a6, a7, a8, a9⟩ := h
  have hsq := SQ_nw (Z := Z) hs hr
  have ev : ∀ k, nwZ Z s r k = if k = 42 then Z 42 + 1 else if k = 9 * s + 8 then Z (9 * s + 8) + 1 else if k = 9 * s + (6 + r) then Z 41 + Z (9 * s + 3) else Z k := fun k => rfl
  refine ⟨?_, ?_, ?_, ?_, ?_, ?_, ?_, ?_, ?_⟩
  · rw [upd_ne _ _ (by omega), hsq.sl.blk]; exact a0
  · rw [upd_ne _ _ (by omega), hsq.sl.wide]; exact a1
  · rw [upd_eq, ev, if_pos rfl]
  · rw [upd_ne _ _ (by omega), ev, if_neg (by omega), if_neg (by omega), if_neg (by omega)]; exact a4
  · rw [upd_ne _ _ (by omega), ev, if_neg (by omega), if_neg (by omega), if_neg (by omega)]; exact a5
  · rw [upd_ne _ _ (by omega), hsq 45 (by omega)]; exact a6
  · rw [upd_ne _ _ (by omega), hsq 46 (by omega)]; exact a7
  · rw [upd_ne _ _ (by omega), hsq 47 (by omega)]; exact a8
  · rw [upd_ne _ _ (by omega), hsq 40 (by omega)]; exact a9
/-- one turn of the reading -/
theorem r81_in {K : VRw → Int32 → Int32 → Int32 → Int32 → Option VRw} {s4 s5 : Int32} {t0 t1 : Nat} (W : WF T Z) (hg : RGh g Z) (hk : RGk k Z) (hp : RGp p Z) (hq : RGq q Z) (hb : i < blkN Z) (hc : canN Z i) (ht : i < t1 + t0) (ht2 : t1 + t0 < 2 ^ 30) : ∃ g' k', b_L_reads_95 K (g, k, p, q, v) s4 s5 (nI (Z 41)) (nI i) (nI t0) (nI t1) (nI i) = K (g', k', p, q, v) s4 s5 (nI (Z 41)) (nI (i + 1)) ∧ RGh g' (nwZ Z (rsN Z i) (rrN Z i)) ∧ RGk k' (nwZ Z (rsN Z i) (rrN Z i)) ∧ g' 2 = g 2 := by
  have hr := rr_le Z i
  have hs := rs_lt Z i
  have hn := rn_lt W hb hc
  obtain ⟨-, -, -, h1⟩ := hk _ hs
  obtain ⟨-, h2, -, -, h7⟩ := h1 (rs_plug W hc)
  refine ⟨upd g 3 (nI (Z 42 + 1)), upd (upd k (8 * rsN Z i + 5 + rrN Z i) (nI (Z 41 + Z (9 * rsN Z i + 3)))) (8 * rsN Z i + 7) (nI (Z (9 * rsN Z i + 8) + 1)), ?_, hg.nw hs hr, hk.nw hs hr (rs_plug W hc), upd_ne _ _ (by omega)⟩
  unfold b_L_reads_95
  rw [nI_add, if_pos (nI_lt ht (by omega))]
  dsimp only
  rw [t_readAt W hk hp hq hb hc, Option.bind_some, Option.bind_some, t_rrank W hk hb hc, Option.bind_some, i12, pk_div (by omega) (by omega) (by omega), show (12 * rsN Z i + rnN Z i) / 12 = rsN Z i by omega, i8, pk_mul, i2, nI_add, p_ard (by omega) (by omega), Option.bind_some, h2, nI_add, p_aup (by omega) (by omega), Option.bind_some, i7, nI_add, p_ard (by omega) (by omega), Option.bind_some, upd_ne _ _ (by omega), h7, i1, nI_add, p_aup (by omega) (by omega), Option.bind_some, i3, p_ard (by omega) (by omega), Option.bind_some, hg.2.2.1, nI_add, p_aup (by omega) (by omega), Option.bind_some, nI_add]
theorem r81_out {K : VRw → Int32 → Int32 → Int32 → Int32 → Option VRw} {s4 : Int32} {t0 t1 pr : Nat} (hg : RGh g Z) (ht : t1 + t0 ≤ i) (hi : i < 2 ^ 30) (hpr : pr ≤ 1) : ∃ g', b_L_reads_95 K (g, k, p, q, v) s4 (nI pr) (nI (Z 41)) (nI i) (nI t0) (nI t1) (nI i) = some (g', k, p, q, v) ∧ RGg g' (tkZ (zu Z 43 (Z 43 + pr))) := by
  obtain ⟨a0, a1, a3, a4, a5, a6, a7, a8, a9⟩ := hg
  have hsl : SL Z (tkZ (zu Z 43 (Z 43 + pr))) := fun k h1 h2 => by unfold tkZ; rw [zu_ne (by omega), zu_ne (by omega)]
  refine ⟨upd (upd g 4 (nI (Z 43 + pr))) 2 (nI (Z 41 + 1)), ?_, ?_⟩
  · unfold b_L_reads_95
    rw [nI_add, if_neg (nI_nlt ht (by omega)), i4]
    dsimp only
    rw [p_ard (by omega) (by omega), Option.bind_some, a4, i0, i1, i2]
    simp (discharger := omega) only [nI_eq, nI_add]
    rcases (show pr = 0 ∨ pr = 1 by omega) with rfl | rfl
    · rw [if_pos rfl, p_aup (by omega) (by omega), Option.bind_some, p_aup (by omega) (by omega), Option.bind_some]
    · rw [if_neg (by omega), p_aup (by omega) (by omega), Option.bind_some, p_aup (by omega) (by omega), Option.bind_some]
  · refine ⟨?_, ?_, ?_, ?_, ?_, ?_, ?_, ?_, ?_, ?_⟩
    · rw [upd_ne _ _ (by omega), upd_ne _ _ (by omega), hsl.blk]; exact a0
    · rw [upd_ne _ _ (by omega), upd_ne _ _ (by omega), hsl.wide]; exact a1
    · rw [upd_eq]
      unfold tkZ
      rw [zu_eq, zu_ne (by omega)]
    · rw [upd_ne _ _ (by omega), upd_ne _ _ (by omega)]; unfold tkZ; rw [zu_ne (by omega), zu_ne (by omega)]; exact a3
    · rw [upd_ne _ _ (by omega), upd_eq]; unfold tkZ; rw [zu_ne (by omega), zu_eq]
    · rw [upd_ne _ _ (by omega), upd_ne _ _ (by omega)]; unfold tkZ; rw [zu_ne (by omega), zu_ne (by omega)]; exact a5
    · rw [upd_ne _ _ (by omega), upd_ne _ _ (by omega)]; unfold tkZ; rw [zu_ne (by omega), zu_ne (by omega)]; exact a6
    · rw [upd_ne _ _ (by omega), upd_ne _ _ (by omega)]; unfold tkZ; rw [zu_ne (by omega), zu_ne (by omega)]; exact a7
    · rw [upd_ne _ _ (by omega), upd_ne _ _ (by omega)]; unfold tkZ; rw [zu_ne (by omega), zu_ne (by omega)]; exact a8
    · rw [upd_ne _ _ (by omega), upd_ne _ _ (by omega)]; unfold tkZ; rw [zu_ne (by omega), zu_ne (by omega)]; exact a9
theorem r9_L {v : VRw} {s4 s6 s7 : Int32} {pr : Nat} (hpr : pr ≤ 1) : l_L_reads_9 (n + 1) v s4 (nI pr) s6 s7 = b_L_reads_23 (l_L_reads_9 n) v s4 (nI pr) s6 s7 (nI (pr + 1)) s4 s7 := by
  rw [l_L_reads_9, i0, i1, i2]
  simp (discharger := omega) only [nI_eq]
  rcases (show pr = 0 ∨ pr = 1 by omega) with e | e
  · rw [if_pos e, e]
  · rw [if_neg (by omega), e]
theorem r81_L {v : VRw} {s4 s6 s7 : Int32} {pr : Nat} (hpr : pr ≤ 1) : l_L_reads_81 (n + 1) v s4 (nI pr) s6 s7 = b_L_reads_95 (l_L_reads_81 n) v s4 (nI pr) s6 s7 (nI (pr + 1)) s4 s7 := by
  rw [l_L_reads_81, i0, i1, i2]
  simp (discharger := omega) only [nI_eq]
  rcases (show pr = 0 ∨ pr = 1 by omega) with e | e
  · rw [if_pos e, e]
  · rw [if_neg (by omega), e]
theorem wt_44 {x : Nat} : wtZ Z x 44 = Z 44 + (x - Z 41) := by unfold wtZ; rw [zu_ne (by omega), zu_eq]
theorem wt_41 {x : Nat} : wtZ Z x 41 = max (Z 41) x := by unfold wtZ; rw [zu_eq]
theorem nw_41 (hs : s < 4) (hr : r ≤ 1) : nwZ Z s r 41 = Z 41 := by unfold nwZ; rw [zu_ne (by omega), zu_ne (by omega), zu_ne (by omega)]
theorem nw_43 (hs : s < 4) (hr : r ≤ 1) : nwZ Z s r 43 = Z 43 := by unfold nwZ; rw [zu_ne (by omega), zu_ne (by omega), zu_ne (by omega)]
/-- behind the waiting the ranks, the sticks and the map are as before -/
theorem RGh.wt (h : RGg g Z) {Y : Nat → Nat} (e : ∀ k, k ≠ 41 → k ≠ 44 → Y k = Z k) : RGh (upd g 5 (nI (Y 44))) Y := by
  obtain ⟨a0, a1, a2, a3, a4, a5, a6, a7, a8, a9⟩ := h
  have hsl : SL Z Y := fun k h1 h2 => e k (by omega) (by omega)
  refine ⟨?_, ?_, ?_, ?_, ?_, ?_, ?_, ?_, ?_⟩
  · rw [upd_ne _ _ (by omega), hsl.blk]; exact a0
  · rw [upd_ne _ _ (by omega), hsl.wide]; exact a1
  · rw [upd_ne _ _ (by omega), e 42 (by omega) (by omega)]; exact a3
  · rw [upd_ne _ _ (by omega), e 43 (by omega) (by omega)]; exact a4
  · rw [upd_eq]
  · rw [upd_ne _ _ (by omega), e 45 (by omega) (by omega)]; exact a6
  · rw [upd_ne _ _ (by omega), e 46 (by omega) (by omega)]; exact a7
  · rw [upd_ne _ _ (by omega), e 47 (by omega) (by omega)]; exact a8
  · rw [upd_ne _ _ (by omega), e 40 (by omega) (by omega)]; exact a9
theorem tk_lo (h : RGk k Z) {x : Nat} : RGk k (tkZ (zu Z 43 x)) := h.congr (fun j hj => by unfold tkZ; rw [zu_ne (by omega), zu_ne (by omega)])
theorem t_one (W : WF T Z) (hT : T < 2 ^ 24) {u : VRw} (h : RG u Z) (hb : b < blkN Z) (hc : canN Z b) : ∃ u', f_L_reads u (nI b) 0 = some u' ∧ RG u' (oneZ Z b) ∧ u'.2.2 = u.2.2 := by
  obtain ⟨g, k, p, q, v⟩ := u
  obtain ⟨hg, hk, hp, hq, hv⟩ := h
  dsimp only at hg hk hp hq hv
  have hbl := W.blk
  have h41 : Z 41 ≤ T := W.2.2.2.1
  have hf : frN Z b ≤ Z 41 + 9 := fr_le W (rs_lt Z b) (rr_le Z b)
  have hsq : SQ Z (wtZ Z (frN Z b)) := SQ_wt _
  have e41 : wtZ Z (frN Z b) 41 = max (Z 41) (frN Z b) := zu_eq
  have e44 : wtZ Z (frN Z b) 44 = Z 44 + (max (Z 41) (frN Z b) - Z 41) := by
    have : wtZ Z (frN Z b) 44 = Z 44 + (frN Z b - Z 41) := by unfold wtZ; rw [zu_ne (by omega), zu_eq]
    omega
  have hw : RGh (upd g 5 (nI (wtZ Z (frN Z b) 44))) (wtZ Z (frN Z b)) := RGh.wt hg (fun k k1 k2 => by unfold wtZ; rw [zu_ne k1, zu_ne k2])
  have hkw : RGk k (wtZ Z (frN Z b)) := hk.congr (fun j hj => by unfold wtZ; rw [zu_ne (by omega), zu_ne (by omega)])
  have W1 := WF_wt W hf
  obtain ⟨g1, k1, s1, r1, r2, -⟩ := r81_in (K := l_L_reads_81 999) (s4 := nI b) (s5 := nI 0) (t0 := 1) (t1 := b) (v := v) W1 hw hkw (hp.sl hsq.sl) (hq.sl hsq.sl) (i := b) (by rw [hsq.sl.blk]; exact hb) ((hsq.can b).mpr hc) (by omega) (by omega)
  have e41' : nwZ (wtZ Z (frN Z b)) (rsN (wtZ Z (frN Z b)) b) (rrN (wtZ Z (frN Z b)) b) 41 = wtZ Z (frN Z b) 41 := by
    have := rs_lt (wtZ Z (frN Z b)) b
    unfold nwZ
    rw [zu_ne (by omega), zu_ne (by omega), zu_ne (by have := rr_le (wtZ Z (frN Z b)) b; omega)]
  obtain ⟨g2, s2, r3⟩ := r81_out (K := l_L_reads_81 998) (k := k1) (p := p) (q := q) (v := v) (s4 := nI b) (t0 := 1) (t1 := b) (pr := 0) (i := b + 1) r1 (by omega) (by omega) (by omega)
  rw [e41'] at s2
  have hone : tkZ (zu (nwZ (wtZ Z (frN Z b)) (rsN (wtZ Z (frN Z b)) b) (rrN (wtZ Z (frN Z b)) b)) 43 (nwZ (wtZ Z (frN Z b)) (rsN (wtZ Z (frN Z b)) b) (rrN (wtZ Z (frN Z b)) b) 43 + 0)) = oneZ Z b := by
    unfold oneZ
    rw [hsq.rs, hsq.rr]
    congr 1
    funext j
    unfold zu
    by_cases e : j = 43
    · subst e; rw [if_pos rfl]; rfl
    · rw [if_neg e]
  have hr := tk_lo (x := (nwZ (wtZ Z (frN Z b)) (rsN (wtZ Z (frN Z b)) b) (rrN (wtZ Z (frN Z b)) b) 43 + 0)) r2
  rw [hone] at r3 hr
  have hs1 := SQ_one (Z := Z) b
  refine ⟨(g2, k1, p, q, v), ?_, ⟨r3, hr, hp.sl hs1.sl, hq.sl hs1.sl, hv.sl W hs1.sl (fun k k1 _ => hs1 k (by omega))⟩, rfl⟩
  unfold f_L_reads
  dsimp only
  rw [i2, p_ard (by omega) (by omega), Option.bind_some, hg.2.2.1]
  show l_L_reads_9 (999 + 1) _ _ (nI 0) _ _ = _
  rw [r9_L (by omega), show (0 : Nat) + 1 = 1 from rfl, r9_in W hk hp hq hb hc hT (by omega) (by omega) (by omega), show (999 : Nat) = 998 + 1 from rfl, r9_L (by omega), r9_out hg (by omega) (by omega) (by omega), ← e44, ← e41]
  show l_L_reads_81 (999 + 1) _ _ _ _ _ = _
  rw [r81_L (by omega), s1, show (999 : Nat) = 998 + 1 from rfl, r81_L (by omega), s2]
theorem t_two (W : WF T Z) (hT : T < 2 ^ 24) {u : VRw} (h : RG u Z) (hb : b + 1 < blkN Z) (hc : canN Z b) (hc2 : canN Z (b + 1)) : ∃ u', f_L_reads u (nI b) 1 = some u' ∧ RG u' (twoZ Z b) ∧ u'.2.2 = u.2.2 := by
  obtain ⟨g, k, p, q, v⟩ := u
  obtain ⟨hg, hk, hp, hq, hv⟩ := h
  dsimp only at hg hk hp hq hv
  have hbl := W.blk
  have h41 : Z 41 ≤ T := W.2.2.2.1
  have hf : frN Z b ≤ Z 41 + 9 := fr_le W (rs_lt Z b) (rr_le Z b)
  have hf2 : frN Z (b + 1) ≤ Z 41 + 9 := fr_le W (rs_lt Z (b + 1)) (rr_le Z (b + 1))
  have hsq : SQ Z (w2Z Z b) := (SQ_wt _).trans (SQ_wt _)
  have en : ∀ k, k ≠ 41 → k ≠ 44 → w2Z Z b k = Z k := fun k k1 k2 => by unfold w2Z wtZ; rw [zu_ne k1, zu_ne k2, zu_ne k1, zu_ne k2]
  have e41 : w2Z Z b 41 = max (max (Z 41) (frN Z b)) (frN Z (b + 1)) := by unfold w2Z wtZ; rw [zu_eq, zu_eq]
  have e44 : w2Z Z b 44 = Z 44 + (max (max (Z 41) (frN Z b)) (frN Z (b + 1)) - Z 41) := by
    have a : w2Z Z b 44 = wtZ Z (frN Z b) 44 + (frN Z (b + 1) - wtZ Z (frN Z b) 41) := wt_44
    have a1 : wtZ Z (frN Z b) 44 = Z 44 + (frN Z b - Z 41) := wt_44
    have a2 : wtZ Z (frN Z b) 41 = max (Z 41) (frN Z b) := wt_41
    omega
  have hw : RGh (upd g 5 (nI (w2Z Z b 44))) (w2Z Z b) := RGh.wt hg en
  have hkw : RGk k (w2Z Z b) := hk.congr (fun j hj => en j (by omega) (by omega))
  have W1 : WF (T + 9 + 9) (w2Z Z b) := WF_wt (WF_wt W hf) (by
    have a2 : wtZ Z (frN Z b) 41 = max (Z 41) (frN Z b) := zu_eq
    omega)
  obtain ⟨g1, k1, s1, r1, r2, -⟩ := r81_in (K := l_L_reads_81 999) (s4 := nI b) (s5 := nI 1) (t0 := 2) (t1 := b) (v := v) W1 hw hkw (hp.sl hsq.sl) (hq.sl hsq.sl) (i := b) (by rw [hsq.sl.blk]; omega) ((hsq.can b).mpr hc) (by omega) (by omega)
  rw [hsq.rs, hsq.rr] at r1 r2
  have W2 := WF_nw W1 (rs_lt Z b) (rr_le Z b)
  have hsq2 : SQ Z (nwZ (w2Z Z b) (rsN Z b) (rrN Z b)) := hsq.trans (SQ_nw (rs_lt Z b) (rr_le Z b))
  have e41b : nwZ (w2Z Z b) (rsN Z b) (rrN Z b) 41 = w2Z Z b 41 := nw_41 (rs_lt Z b) (rr_le Z b)
  obtain ⟨g2, k2, s2, r3, r4, -⟩ := r81_in (K := l_L_reads_81 998) (s4 := nI b) (s5 := nI 1) (t0 := 2) (t1 := b) (v := v) W2 r1 r2 (hp.sl hsq2.sl) (hq.sl hsq2.sl) (i := b + 1) (by rw [hsq2.sl.blk]; omega) ((hsq2.can _).mpr hc2) (by omega) (by omega)
  rw [hsq2.rs, hsq2.rr] at r3 r4
  rw [e41b] at s2
  have e41c : nwZ (nwZ (w2Z Z b) (rsN Z b) (rrN Z b)) (rsN Z (b + 1)) (rrN Z (b + 1)) 41 = w2Z Z b 41 := by
    rw [nw_41 (rs_lt Z _) (rr_le Z _), e41b]
  have e43 : nwZ (nwZ (w2Z Z b) (rsN Z b) (rrN Z b)) (rsN Z (b + 1)) (rrN Z (b + 1)) 43 = Z 43 := by
    rw [nw_43 (rs_lt Z _) (rr_le Z _), nw_43 (rs_lt Z _) (rr_le Z _), en 43 (by omega) (by omega)]
  obtain ⟨g3, s3, r5⟩ := r81_out (K := l_L_reads_81 997) (k := k2) (p := p) (q := q) (v := v) (s4 := nI b) (t0 := 2) (t1 := b) (pr := 1) (i := b + 1 + 1) r3 (by omega) (by omega) (by omega)
  rw [e41c] at s3
  rw [e43] at r5
  have hs1 := SQ_two (Z := Z) b
  have hr : RGk k2 (twoZ Z b) := tk_lo r4
  refine ⟨(g3, k2, p, q, v), ?_, ⟨r5, hr, hp.sl hs1.sl, hq.sl hs1.sl, hv.sl W hs1.sl (fun k k1 _ => hs1 k (by omega))⟩, rfl⟩
  unfold f_L_reads
  dsimp only
  rw [i2, p_ard (by omega) (by omega), Option.bind_some, hg.2.2.1]
  show l_L_reads_9 (999 + 1) _ _ (nI 1) _ _ = _
  rw [r9_L (by omega), show (1 : Nat) + 1 = 2 from rfl, r9_in W hk hp hq (by omega) hc hT (by omega) (by omega) (by omega), show (999 : Nat) = 998 + 1 from rfl, r9_L (by omega), r9_in W hk hp hq hb hc2 hT (by omega) (by omega) (by omega), show (998 : Nat) = 997 + 1 from rfl, r9_L (by omega), r9_out hg (by omega) (by omega) (by omega), ← e44, ← e41]
  show l_L_reads_81 (999 + 1) _ _ _ _ _ = _
  rw [r81_L (by omega), s1, show (999 : Nat) = 998 + 1 from rfl, r81_L (by omega), s2, show (998 : Nat) = 997 + 1 from rfl, r81_L (by omega), s3]
end
