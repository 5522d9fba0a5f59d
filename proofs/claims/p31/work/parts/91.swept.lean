-- ===== isSwept: the law's own sweep over rows made anew =====
def cpF (f f0 : Nat → Int32) (j : Nat) : Nat → Int32 := fun i => if i < j then f i else f0 i
theorem cpF_s (f f0 : Nat → Int32) (j : Nat) : upd (cpF f f0 j) j (f j) = cpF f f0 (j + 1) := by
  funext i
  unfold upd cpF
  by_cases e : i = j
  · rw [if_pos e, if_pos (by omega), e]
  · rw [if_neg e]
    by_cases q : i < j
    · rw [if_pos q, if_pos (by omega)]
    · rw [if_neg q, if_neg (by omega)]
theorem cpF_0 (f f0 : Nat → Int32) : cpF f f0 0 = f0 := by funext i; unfold cpF; rw [if_neg (Nat.not_lt_zero i)]
theorem cpF_at (f f0 : Nat → Int32) {i j : Nat} (h : i < j) : cpF f f0 j i = f i := if_pos h
section
variable {T : Nat} {Z Y : Nat → Nat} {g k p q v g1 k1 p1 q1 v1 : Nat → Int32} {c : VC} {s n a b d i r m j map : Nat}
theorem RGg.cp (h : RGg g Z) (f0 : Nat → Int32) : RGg (cpF g f0 10) Z := by
  unfold RGg
  rw [cpF_at g f0 (show 0 < 10 by omega), cpF_at g f0 (show 1 < 10 by omega), cpF_at g f0 (show 2 < 10 by omega), cpF_at g f0 (show 3 < 10 by omega), cpF_at g f0 (show 4 < 10 by omega), cpF_at g f0 (show 5 < 10 by omega), cpF_at g f0 (show 6 < 10 by omega), cpF_at g f0 (show 7 < 10 by omega), cpF_at g f0 (show 8 < 10 by omega), cpF_at g f0 (show 9 < 10 by omega)]
  exact h
theorem RGk.cp (h : RGk k Z) (f0 : Nat → Int32) : RGk (cpF k f0 32) Z := fun s hs => by
  rw [cpF_at k f0 (show 8 * s < 32 by omega), cpF_at k f0 (show 8 * s + 1 < 32 by omega), cpF_at k f0 (show 8 * s + 2 < 32 by omega), cpF_at k f0 (show 8 * s + 3 < 32 by omega), cpF_at k f0 (show 8 * s + 4 < 32 by omega), cpF_at k f0 (show 8 * s + 5 < 32 by omega), cpF_at k f0 (show 8 * s + 6 < 32 by omega), cpF_at k f0 (show 8 * s + 7 < 32 by omega)]
  exact h s hs
theorem sw_58 {x1 : Int32} : ∀ (e j f : Nat), j + e = 32 → e < f → ∃ f', l_L_isSwept_58 (g, k, p, q, v) f (c, (g1, cpF k k1 j, p1, q1, v1)) x1 (nI j) = l_L_isSwept_58 (g, k, p, q, v) (f' + 1) (c, (g1, cpF k k1 32, p1, q1, v1)) x1 (nI 32) := by
  intro e
  induction e with
  | zero =>
    intro j f hj hf
    obtain ⟨f, rfl⟩ := Nat.exists_eq_succ_of_ne_zero (show f ≠ 0 by omega)
    exact ⟨f, by rw [show j = 32 by omega]⟩
  | succ e ih =>
    intro j f hj hf
    obtain ⟨f, rfl⟩ := Nat.exists_eq_succ_of_ne_zero (show f ≠ 0 by omega)
    obtain ⟨f', h'⟩ := ih (j + 1) f (by omega) (by omega)
    refine ⟨f', ?_⟩
    rw [← h', l_L_isSwept_58, i32, if_pos (nI_lt (by omega) (by omega))]
    dsimp only
    rw [p_ard (by omega) (by omega), Option.bind_some, p_aup (by omega) (by omega), Option.bind_some, cpF_s, i1, nI_add]
theorem sw_33 {x1 : Int32} : ∀ (e j f : Nat), j + e = 10 → e < f → l_L_isSwept_33 (g, k, p, q, v) f (c, (cpF g g1 j, k1, p1, q1, v1)) x1 (nI j) = l_L_isSwept_58 (g, k, p, q, v) FU (c, (cpF g g1 10, k1, p1, q1, v1)) x1 0 := by
  intro e
  induction e with
  | zero =>
    intro j f hj hf
    obtain ⟨f, rfl⟩ := Nat.exists_eq_succ_of_ne_zero (show f ≠ 0 by omega)
    rw [l_L_isSwept_33, show j = 10 by omega, if_neg (by decide)]
  | succ e ih =>
    intro j f hj hf
    obtain ⟨f, rfl⟩ := Nat.exists_eq_succ_of_ne_zero (show f ≠ 0 by omega)
    rw [l_L_isSwept_33, show (10 : Int32) = nI 10 from rfl, if_pos (nI_lt (by omega) (by omega))]
    dsimp only
    rw [p_ard (by omega) (by omega), Option.bind_some, p_aup (by omega) (by omega), Option.bind_some, cpF_s, i1, nI_add]
    exact ih (j + 1) f (by omega) (by omega)
theorem sw_end (h : IvC T c Z) (hT : T < 16000000) (hg0 : RGg g Z) (hm : map ≤ 2) (hw : whyN Z map = 0) : ∃ c', IvC T c' Z ∧ c'.2.2.2.2.2 = c.2.2.2.2.2 ∧ ∀ (n b : Nat) (u : VRw) (YF : Nat → Nat), YF 41 = lpZ 49 (mapZ Z map) 0 41 → Z 41 ≤ YF 41 → RG u YF → SQ (mapZ Z map) YF → blkN (mapZ Z map) ≤ b → b < 2 ^ 20 → l_L_isSwept_138 (g, k, p, q, v) (n + 1) (c, u) (nI map) (nI b) = some (1, c') := by
  obtain ⟨c1, s1, I1, z1⟩ := q_sweep h hT hm
  obtain ⟨c2, s2, I2, z2⟩ := q_if I1 hm (what := 0) (by omega)
  obtain ⟨c3, s3, I3, z3⟩ := q_if I2 hm (what := 1) (by omega)
  refine ⟨c3, I3, z3.trans (z2.trans z1), fun n b u YF e41 hle hu hq hb hb2 => ?_⟩
  obtain ⟨gu, ku, pu, qu, vu⟩ := u
  have hgu := hu.1
  dsimp only at hgu
  have hsw : swI Z map = nI (YF 41 - Z 41) := by unfold swI; rw [if_pos hw, e41]
  have hst0 : stN Z map 0 = blkN YF := by unfold stN; rw [if_pos hw, if_pos rfl, hq.sl.blk]
  have hst1 : stN Z map 1 = wideN YF := by unfold stN; rw [if_pos hw, if_neg (by omega), hq.sl.wide]
  rw [hsw] at s1
  rw [hst0] at s2
  rw [hst1] at s3
  have hbY : blkN YF ≤ b := by rw [hq.sl.blk]; exact hb
  rw [l_L_isSwept_138]
  dsimp only
  rw [i0, i1, i2, p_ard (by omega) (by omega), Option.bind_some, hgu.1, if_neg (nI_nlt hbY (by omega)), s1, Option.bind_some, p_ard (by omega) (by omega), Option.bind_some, hgu.2.2.1, p_ard (by omega) (by omega), Option.bind_some, hg0.2.2.1, pk_sub hle, if_pos rfl, s2, Option.bind_some, Option.bind_some, if_pos rfl, s3, Option.bind_some, p_ard (by omega) (by omega), Option.bind_some, hgu.2.1, if_pos rfl]
theorem sw_L (W : WF T Z) (hm : map ≤ 2) {c' : VC} {v0 : VRw} (hend : ∀ (n b : Nat) (u : VRw) (YF : Nat → Nat), YF 41 = lpZ 49 (mapZ Z map) 0 41 → Z 41 ≤ YF 41 → RG u YF → SQ (mapZ Z map) YF → blkN (mapZ Z map) ≤ b → b < 2 ^ 20 → l_L_isSwept_138 v0 (n + 1) (c, u) (nI map) (nI b) = some (1, c')) : ∀ (f : Nat) (Y : Nat → Nat) (b T n : Nat) (u : VRw), WF T Y → T + 24 * f + 100 < 2 ^ 24 → SQ (mapZ Z map) Y → (b % 2 = 0 ∨ wideN (mapZ Z map) ≤ b) → b ≤ 100 → blkN (mapZ Z map) ≤ b + f → f < n → RG u Y → Z 41 ≤ Y 41 → lpZ (f + 1) Y b 41 = lpZ 49 (mapZ Z map) 0 41 → l_L_isSwept_138 v0 n (c, u) (nI map) (nI b) = some (1, c') := by
  have W' := WF_map W hm
  have hbl := W'.blk
  obtain ⟨hev, hwb⟩ := wide_ev (mapZ Z map) W'.2.1
  intro f
  induction f with
  | zero =>
    intro Y b T n u WY hT hq hbe hb100 hbf hn hu h41 hlp
    obtain ⟨n, rfl⟩ := Nat.exists_eq_succ_of_ne_zero (show n ≠ 0 by omega)
    unfold lpZ at hlp
    rw [if_neg (by rw [hq.sl.blk]; omega)] at hlp
    exact hend n b u Y hlp h41 hu hq (by omega) (by omega)
  | succ f ih =>
    intro Y b T n u WY hT hq hbe hb100 hbf hn hu h41 hlp
    obtain ⟨n, rfl⟩ := Nat.exists_eq_succ_of_ne_zero (show n ≠ 0 by omega)
    by_cases e : b < blkN (mapZ Z map)
    · have hbY : b < blkN Y := by rw [hq.sl.blk]; exact e
      have hblY := WY.blk
      have can0 : ∀ b, b < blkN (mapZ Z map) → canN Y b := fun b hb => (hq.can b).mpr (Or.inl (fresh W hm hb).1)
      obtain ⟨gu, ku, pu, qu, vu⟩ := u
      have hu0 := hu
      have hgu := hu.1
      dsimp only at hgu
      by_cases e2 : b < wideN (mapZ Z map)
      · have e3 : b % 2 = 0 := by omega
        have e4 : b + 1 < blkN (mapZ Z map) := by omega
        have hwY : b < wideN Y := by rw [hq.sl.wide]; exact e2
        obtain ⟨u', r1, r2, -⟩ := t_two WY (by omega) hu0 (b := b) (by rw [hq.sl.blk]; exact e4) (can0 b e) (can0 _ e4)
        have hw2 : wideN (twoZ Y b) = wideN Y := (SQ_two (Z := Y) b).sl.wide
        have hlp2 : lpZ (f + 1) (twoZ Y b) (b + 2) 41 = lpZ 49 (mapZ Z map) 0 41 := by
          rw [← hlp]
          conv => rhs; unfold lpZ
          rw [if_pos hbY, if_pos hwY]
        have go := ih (twoZ Y b) (b + 2) (T + 24) n u' (WF_two WY b) (by omega) (hq.trans (SQ_two b)) (by omega) (by omega) (by omega) (by omega) r2 (Nat.le_trans h41 (two_41 Y b)) hlp2
        rw [l_L_isSwept_138]
        dsimp only
        rw [i0, p_ard (by omega) (by omega), Option.bind_some, hgu.1, if_pos (nI_lt hbY (by omega)), show (1 : Int32) = nI 1 from rfl, p_ard (by omega) (by omega), Option.bind_some, hgu.2.1, if_pos (nI_lt hwY (by omega))]
        unfold b_L_isSwept_171
        dsimp only
        rw [show nI 1 = (1 : Int32) from rfl, r1, Option.bind_some, i1, p_ard (by omega) (by omega), Option.bind_some, r2.1.2.1, hw2, if_pos (nI_lt hwY (by omega)), i2, nI_add]
        exact go
      · have hwY : ¬ b < wideN Y := by rw [hq.sl.wide]; exact e2
        obtain ⟨u', r1, r2, -⟩ := t_one WY (by omega) hu0 (b := b) hbY (can0 b e)
        have hw2 : wideN (oneZ Y b) = wideN Y := (SQ_one (Z := Y) b).sl.wide
        have hlp2 : lpZ (f + 1) (oneZ Y b) (b + 1) 41 = lpZ 49 (mapZ Z map) 0 41 := by
          rw [← hlp]
          conv => rhs; unfold lpZ
          rw [if_pos hbY, if_neg hwY]
        have go := ih (oneZ Y b) (b + 1) (T + 24) n u' ((WF_one WY b).mono (by omega)) (by omega) (hq.trans (SQ_one b)) (by omega) (by omega) (by omega) (by omega) r2 (Nat.le_trans h41 (one_41 Y b)) hlp2
        rw [l_L_isSwept_138]
        dsimp only
        rw [show ard 10 gu 0 = some (gu 0) from p_ard (i := 0) (by omega) (by omega), Option.bind_some, hgu.1, if_pos (nI_lt hbY (by omega)), show ard 10 gu 1 = some (gu 1) from p_ard (i := 1) (by omega) (by omega), Option.bind_some, hgu.2.1, if_neg (nI_nlt (by omega) (by omega))]
        unfold b_L_isSwept_171
        dsimp only
        rw [r1, Option.bind_some, i1, p_ard (by omega) (by omega), Option.bind_some, r2.1.2.1, hw2, if_neg (nI_nlt (by omega) (by omega)), nI_add]
        exact go
    · conv at hlp => lhs; unfold lpZ
      rw [if_neg (by rw [hq.sl.blk]; omega)] at hlp
      exact hend n b u Y hlp h41 hu hq (by omega) (by omega)
theorem t_swept {u : VRw} (h : IvC T c Z) (hT : T < 16000000) (hu : RG u Z) (hm : map ≤ 2) : ∃ c', f_L_isSwept c u (nI map) = some (1, c') ∧ IvC T c' Z ∧ c'.2.2.2.2.2 = c.2.2.2.2.2 := by
  obtain ⟨g, k, p, q, v⟩ := u
  obtain ⟨hg, hk, hp, hq, hv⟩ := hu
  dsimp only at hg hk hp hq hv
  have W := h.1
  have W' := WF_map W hm
  have hbl := W'.blk
  have hfu : FU = 1000 := rfl
  have hwle := whyN_le Z map
  have e33 := sw_33 (g := g) (k := k) (p := p) (q := q) (v := v) (g1 := z0) (k1 := z0) (p1 := z0) (q1 := z0) (v1 := z0) (c := c) (x1 := nI map) 10 0 FU (by omega) (by omega)
  rw [cpF_0] at e33
  obtain ⟨f', e58⟩ := sw_58 (g := g) (k := k) (p := p) (q := q) (v := v) (g1 := cpF g z0 10) (k1 := z0) (p1 := z0) (q1 := z0) (v1 := z0) (c := c) (x1 := nI map) 32 0 FU (by omega) (by omega)
  rw [cpF_0] at e58
  have e0 : f_L_isSwept c (g, k, p, q, v) (nI map) = l_L_isSwept_58 (g, k, p, q, v) (f' + 1) (c, (cpF g z0 10, cpF k z0 32, z0, z0, z0)) (nI map) (nI 32) := e33.trans e58
  rw [e0, l_L_isSwept_58, if_neg (by decide)]
  dsimp only
  rw [t_why W hk (by omega), Option.bind_some, i0]
  simp (discharger := omega) only [nI_ltI]
  by_cases e : 0 < whyN Z map
  · obtain ⟨c1, s1, I1, z1⟩ := q_sweep h hT hm
    obtain ⟨c2, s2, I2, z2⟩ := q_if I1 hm (what := 0) (by omega)
    obtain ⟨c3, s3, I3, z3⟩ := q_if I2 hm (what := 1) (by omega)
    have hsw : swI Z map = mI := by unfold swI; rw [if_neg (by omega)]
    have hst : ∀ w, stN Z map w = 0 := fun w => by unfold stN; rw [if_neg (by omega)]
    rw [hsw] at s1
    rw [hst] at s2 s3
    rw [if_pos e, s1, Option.bind_some, if_pos (show (mI, c1).1 = -1 from rfl)]
    dsimp only
    rw [s2, Option.bind_some, if_pos rfl, i1, s3, Option.bind_some, if_pos rfl]
    exact ⟨c3, rfl, I3, z3.trans (z2.trans z1)⟩
  · obtain ⟨u1, m1, m2⟩ := t_make (map := map) (p := z0) (q := z0) (v := z0) W hm (hg.cp z0) (hk.cp z0)
    obtain ⟨c', I', z', hend⟩ := sw_end (k := k) (p := p) (q := q) (v := v) h hT hg hm (by omega)
    have e41 : mapZ Z map 41 = Z 41 := mp_mid (by omega) (by omega)
    rw [if_neg e, m1, Option.bind_some]
    refine ⟨c', ?_, I', z'⟩
    exact sw_L W hm hend 48 (mapZ Z map) 0 T FU u1 W' (by omega) (SQ.refl _) (by omega) (by omega) (by omega) (by omega) m2 (by omega) rfl
end
