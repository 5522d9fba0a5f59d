-- ===== isChange =====
def gsF (Z : Nat → Nat) (w : Nat → Int32) (s : Nat) : Nat → Int32 := fun i => if i < s then nI (gs Z i) else w i
theorem gsF_s (Z : Nat → Nat) (w : Nat → Int32) (s : Nat) : upd (gsF Z w s) s (nI (gs Z s)) = gsF Z w (s + 1) := by
  funext i
  unfold upd gsF
  by_cases e : i = s
  · rw [if_pos e, if_pos (by omega), e]
  · rw [if_neg e]
    by_cases q : i < s
    · rw [if_pos q, if_pos (by omega)]
    · rw [if_neg q, if_neg (by omega)]
theorem gsF_0 (Z : Nat → Nat) (w : Nat → Int32) : gsF Z w 0 = w := by funext i; unfold gsF; rw [if_neg (Nat.not_lt_zero i)]
theorem gsF_at (Z : Nat → Nat) (w : Nat → Int32) {i s : Nat} (h : i < s) : gsF Z w s i = nI (gs Z i) := if_pos h
def mcN (Z : Nat → Nat) (l g : Nat) : Nat := min (gs Z (swp l g 0) + gs Z (swp l g 1)) (gs Z (swp l g 2) + gs Z (swp l g 3))
section
variable {T : Nat} {Z Y : Nat → Nat} {g k p q v w : Nat → Int32} {c : VC} {s n a b d i r m j l e : Nat}
theorem wc_mc : wcN Z l e = 2 * mcN Z l e := rfl
theorem mc_le (W : WF T Z) (hl : l < 4) (he : e < 4) : mcN Z l e ≤ 24 := by
  have := wc_le W hl he
  rw [wc_mc] at this
  omega
theorem ic_L {K : (Nat → Int32) → Int32 → Int32 → Int32 → Option Int32} {s3 s4 s5 s6 s7 : Int32} (W : WF T Z) (hk : RGk k Z) (hs : s < 4) : l_L_isChange_69 c (g, k, p, q, v) K (n + 1) (gsF Z w s) s3 s4 s5 s6 s7 (nI s) = l_L_isChange_69 c (g, k, p, q, v) K n (gsF Z w (s + 1)) s3 s4 s5 s6 s7 (nI (s + 1)) := by
  obtain ⟨h0, h3, -, -⟩ := hk s hs
  have hp4 := gt4_le W hs
  rw [l_L_isChange_69, i4, if_pos (nI_lt hs (by omega))]
  dsimp only
  rw [i8, pk_mul, i3, nI_add, p_ard (by omega) (by omega), Option.bind_some, h3, p_ard (by omega) (by omega), Option.bind_some, h0, i0, i1, nI_add]
  simp (discharger := omega) only [nI_eq]
  have hg : gs Z s = if gt Z s 4 = 0 then gt Z s 1 else 0 := by
    unfold gt gs
    by_cases e : Z (9 * s) = 1
    · simp only [e, if_true, true_and]
    · simp only [e, if_false, false_and, if_true]
  by_cases e4 : gt Z s 4 = 0
  · rw [if_pos e4] at hg
    rw [if_pos e4, p_aup hs (by omega), Option.bind_some, ← hg, gsF_s]
  · rw [if_neg e4] at hg
    have := gsF_s Z w s
    rw [hg] at this
    rw [if_neg e4, p_aup hs (by omega), Option.bind_some, this]
theorem ic_69 {x4 : Int32} {K : (Nat → Int32) → Int32 → Int32 → Int32 → Option Int32} (W : WF T Z) (hk : RGk k Z) (hl : l < e) (he : e < 4) (hm : m ≤ 24) : ∃ w' m' x', l_L_isChange_69 c (g, k, p, q, v) K FU w (nI m) x4 (nI (4 * l + e)) (nI l) (nI e) 0 = K w' (nI m') x' (nI (4 * l + e + 1)) ∧ stepB Z (x4, 2 * m) l e = (x', 2 * m') ∧ m' ≤ 24 := by
  have hM := mc_le W (show l < 4 by omega) he
  refine ⟨upd (upd (gsF Z w 4) l (nI (gs Z e))) e (nI (gs Z l)), if m < mcN Z l e then mcN Z l e else m, if m < mcN Z l e then nI (4 * l + e) else x4, ?_, ?_, by split <;> omega⟩
  · have hu : ∀ s, s < 4 → upd (upd (gsF Z w 4) l (nI (gs Z e))) e (nI (gs Z l)) s = nI (gs Z (swp l e s)) := by
      intro s hs
      unfold upd swp
      by_cases e1 : s = e
      · rw [if_pos e1, if_neg (by omega), if_pos e1]
      · rw [if_neg e1]
        by_cases e2 : s = l
        · rw [if_pos e2, if_pos e2]
        · rw [if_neg e2, if_neg e2, if_neg e1, gsF_at Z w hs]
    have b0 := gs_le W (swp_lt (show l < 4 by omega) he (show 0 < 4 by omega))
    have b1 := gs_le W (swp_lt (show l < 4 by omega) he (show 1 < 4 by omega))
    have b2 := gs_le W (swp_lt (show l < 4 by omega) he (show 2 < 4 by omega))
    have b3 := gs_le W (swp_lt (show l < 4 by omega) he (show 3 < 4 by omega))
    have h162 : ∀ w', b_L_isChange_162 c (g, k, p, q, v) K w' (nI m) x4 (nI (4 * l + e)) (nI (mcN Z l e)) = K w' (nI (if m < mcN Z l e then mcN Z l e else m)) (if m < mcN Z l e then nI (4 * l + e) else x4) (nI (4 * l + e + 1)) := by
      intro w'
      unfold b_L_isChange_162 b_L_isChange_177
      rw [i1, nI_add]
      simp (discharger := omega) only [nI_ltI]
      by_cases z : m < mcN Z l e
      · rw [if_pos z, if_pos z, if_pos z, if_pos z]
      · rw [if_neg z, if_neg z, if_neg z, if_neg z]
    have e0 : l_L_isChange_69 c (g, k, p, q, v) K FU w (nI m) x4 (nI (4 * l + e)) (nI l) (nI e) 0 = l_L_isChange_69 c (g, k, p, q, v) K (999 + 1) (gsF Z w 0) (nI m) x4 (nI (4 * l + e)) (nI l) (nI e) (nI 0) := by rw [gsF_0]; rfl
    rw [e0, ic_L W hk (by omega), show (999 : Nat) = 998 + 1 from rfl, ic_L W hk (by omega), show (998 : Nat) = 997 + 1 from rfl, ic_L W hk (by omega), show (997 : Nat) = 996 + 1 from rfl, ic_L W hk (by omega), show (996 : Nat) = 995 + 1 from rfl, l_L_isChange_69, if_neg (by decide)]
    rw [show (0 : Nat) + 1 + 1 + 1 + 1 = 4 from rfl, p_ard (by omega) (by omega), Option.bind_some, p_ard (by omega) (by omega), Option.bind_some, gsF_at Z w (show l < 4 by omega), gsF_at Z w he, p_aup (by omega) (by omega), Option.bind_some, p_aup (by omega) (by omega), Option.bind_some]
    have ar : ∀ s, s < 4 → ard 4 (upd (upd (gsF Z w 4) l (nI (gs Z e))) e (nI (gs Z l))) (nI s) = some (nI (gs Z (swp l e s))) := fun s hs => by rw [p_ard hs (by omega), hu s hs]
    rw [i0, i1, i2, i3, ar 0 (by omega), Option.bind_some, ar 1 (by omega), Option.bind_some, ar 2 (by omega), Option.bind_some, ar 3 (by omega), Option.bind_some, nI_add, nI_add]
    simp (discharger := omega) only [nI_ltI]
    by_cases z : gs Z (swp l e 0) + gs Z (swp l e 1) < gs Z (swp l e 2) + gs Z (swp l e 3)
    · have em : mcN Z l e = gs Z (swp l e 0) + gs Z (swp l e 1) := by unfold mcN; omega
      rw [em] at h162
      rw [if_pos z, Option.bind_some, Option.bind_some, nI_add, h162, em]
    · have em : mcN Z l e = gs Z (swp l e 2) + gs Z (swp l e 3) := by unfold mcN; omega
      rw [em] at h162
      rw [if_neg z, Option.bind_some, Option.bind_some, nI_add, h162, em]
  · unfold stepB
    rw [wc_mc]
    by_cases z : m < mcN Z l e
    · rw [if_pos (show (x4, 2 * m).2 < 2 * mcN Z l e by show 2 * m < _; omega), if_pos z, if_pos z]
    · rw [if_neg (show ¬ (x4, 2 * m).2 < 2 * mcN Z l e by show ¬ 2 * m < _; omega), if_neg z, if_neg z]
theorem ic_one {x4 : Int32} (W : WF T Z) (hk : RGk k Z) (hl : l < e) (he : e < 4) (hm : m ≤ 24) : ∃ w' m' x', l_L_isChange_37 c (g, k, p, q, v) (n + 1) w (nI m) x4 (nI (4 * l + e)) = l_L_isChange_37 c (g, k, p, q, v) n w' (nI m') x' (nI (4 * l + e + 1)) ∧ stepB Z (x4, 2 * m) l e = (x', 2 * m') ∧ m' ≤ 24 := by
  obtain ⟨w', m', x', h1, h2, h3⟩ := ic_69 (w := w) (x4 := x4) (c := c) (g := g) (p := p) (q := q) (v := v) (K := l_L_isChange_37 c (g, k, p, q, v) n) W hk hl he hm
  refine ⟨w', m', x', ?_, h2, h3⟩
  rw [l_L_isChange_37, i12, if_pos (nI_lt (by omega) (by omega)), i4, pk_rem (by omega) (by omega) (by omega), pk_div (by omega) (by omega) (by omega), show (4 * l + e) / 4 = l by omega, show (4 * l + e) % 4 = e by omega, if_pos (nI_lt hl (by omega))]
  exact h1
theorem ic_skip {x3 x4 : Int32} {u : VRw} (h1 : j < 12) (h2 : ¬ j / 4 < j % 4) : l_L_isChange_37 c u (n + 1) w x3 x4 (nI j) = l_L_isChange_37 c u n w x3 x4 (nI (j + 1)) := by
  rw [l_L_isChange_37, i12, if_pos (nI_lt h1 (by omega)), i4, pk_rem (by omega) (by omega) (by omega), pk_div (by omega) (by omega) (by omega), if_neg (nI_nlt (by omega) (by omega)), i1, nI_add]
theorem t_change {u : VRw} (h : IvC T c Z) (hu : RG u Z) : f_L_isChange c u = some 1 := by
  obtain ⟨g, k, p, q, v⟩ := u
  obtain ⟨hg, hk, hp, hq, hv⟩ := hu
  dsimp only at hg hk hp hq hv
  have W := h.1
  have hgr := gr_le W
  have h00 : wcN Z 0 0 = 2 * min (grA Z) (grB Z) := rfl
  have main : l_L_isChange_37 c (g, k, p, q, v) FU z0 (nI (min (grA Z) (grB Z))) (-1) 1 = some 1 := by
    have hm0 : min (grA Z) (grB Z) ≤ 24 := by omega
    rw [show FU = 988 + 1 + 1 + 1 + 1 + 1 + 1 + 1 + 1 + 1 + 1 + 1 + 1 from rfl]
    obtain ⟨w1, m1, x1, a1, b1, d1⟩ := ic_one (n := 988 + 1 + 1 + 1 + 1 + 1 + 1 + 1 + 1 + 1 + 1 + 1) (w := z0) (x4 := mI) (c := c) (g := g) (p := p) (q := q) (v := v) (l := 0) (e := 1) W hk (by omega) (by omega) hm0
    obtain ⟨w2, m2, x2, a2, b2, d2⟩ := ic_one (n := 988 + 1 + 1 + 1 + 1 + 1 + 1 + 1 + 1 + 1 + 1) (w := w1) (x4 := x1) (c := c) (g := g) (p := p) (q := q) (v := v) (l := 0) (e := 2) W hk (by omega) (by omega) d1
    obtain ⟨w3, m3, x3, a3, b3, d3⟩ := ic_one (n := 988 + 1 + 1 + 1 + 1 + 1 + 1 + 1 + 1 + 1) (w := w2) (x4 := x2) (c := c) (g := g) (p := p) (q := q) (v := v) (l := 0) (e := 3) W hk (by omega) (by omega) d2
    obtain ⟨w4, m4, x4, a4, b4, d4⟩ := ic_one (n := 988 + 1 + 1 + 1 + 1 + 1 + 1) (w := w3) (x4 := x3) (c := c) (g := g) (p := p) (q := q) (v := v) (l := 1) (e := 2) W hk (by omega) (by omega) d3
    obtain ⟨w5, m5, x5, a5, b5, d5⟩ := ic_one (n := 988 + 1 + 1 + 1 + 1 + 1) (w := w4) (x4 := x4) (c := c) (g := g) (p := p) (q := q) (v := v) (l := 1) (e := 3) W hk (by omega) (by omega) d4
    obtain ⟨w6, m6, x6, a6, b6, d6⟩ := ic_one (n := 988 + 1) (w := w5) (x4 := x5) (c := c) (g := g) (p := p) (q := q) (v := v) (l := 2) (e := 3) W hk (by omega) (by omega) d5
    have hbc : (bcZ Z).1 = x6 := by
      unfold bcZ
      rw [h00, b1, b2, b3, b4, b5, b6]
    refine (show _ = _ from a1).trans ?_
    refine (show _ = _ from a2).trans ?_
    refine (show _ = _ from a3).trans ?_
    refine (ic_skip (j := 4) (by omega) (by omega)).trans ?_
    refine (ic_skip (j := 5) (by omega) (by omega)).trans ?_
    refine (show _ = _ from a4).trans ?_
    refine (show _ = _ from a5).trans ?_
    refine (ic_skip (j := 8) (by omega) (by omega)).trans ?_
    refine (ic_skip (j := 9) (by omega) (by omega)).trans ?_
    refine (ic_skip (j := 10) (by omega) (by omega)).trans ?_
    refine (show _ = _ from a6).trans ?_
    rw [l_L_isChange_37, if_neg (by decide), q_best h, Option.bind_some, hbc, if_pos rfl]
  unfold f_L_isChange f_L_isChange_i
  dsimp only
  rw [i0, t_good0 W hk, Option.bind_some, show (1 : Int32) = nI 1 from rfl, t_good1 W hk, Option.bind_some, Option.bind_some, Option.bind_some]
  simp (discharger := omega) only [nI_ltI]
  by_cases e : grA Z < grB Z
  · rw [if_pos e, show grA Z = min (grA Z) (grB Z) by omega]
    exact main
  · rw [if_neg e, show grB Z = min (grA Z) (grB Z) by omega]
    exact main
end
