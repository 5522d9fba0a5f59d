-- ===== bestChange =====
def swp (l g s : Nat) : Nat := if s = l then g else if s = g then l else s
def wcN (Z : Nat → Nat) (l g : Nat) : Nat := 2 * min (gs Z (swp l g 0) + gs Z (swp l g 1)) (gs Z (swp l g 2) + gs Z (swp l g 3))
def stepB (Z : Nat → Nat) (q : Int32 × Nat) (l g : Nat) : Int32 × Nat := if q.2 < wcN Z l g then (nI (4 * l + g), wcN Z l g) else q
def bcZ (Z : Nat → Nat) : Int32 × Nat := stepB Z (stepB Z (stepB Z (stepB Z (stepB Z (stepB Z (mI, wcN Z 0 0) 0 1) 0 2) 0 3) 1 2) 1 3) 2 3
theorem swp_lt {l g s : Nat} (hl : l < 4) (hg : g < 4) (hs : s < 4) : swp l g s < 4 := by unfold swp; split <;> (try split) <;> omega
section
variable {T : Nat} {Z : Nat → Nat} {sk : VSk} {l g s n : Nat}
theorem wc_le (W : WF T Z) (hl : l < 4) (hg : g < 4) : wcN Z l g ≤ 48 := by
  have h0 := gs_le W (swp_lt hl hg (show 0 < 4 by omega))
  have h1 := gs_le W (swp_lt hl hg (show 1 < 4 by omega))
  unfold wcN
  omega
theorem wic_L (W : WF T Z) (h : RK sk Z) (hl : l < 4) (hg : g < 4) (hs : s < 4) {a b : Nat} : l_X3_wideIfChanged_8 sk (n + 1) (nI l) (nI g) (nI a) (nI b) (nI s) = l_X3_wideIfChanged_8 sk n (nI l) (nI g) (nI (if s < 2 then a + gs Z (swp l g s) else a)) (nI (if s < 2 then b else b + gs Z (swp l g s))) (nI (s + 1)) := by
  have h36 : ∀ t, t < 4 → b_X3_wideIfChanged_36 sk (l_X3_wideIfChanged_8 sk n) (nI l) (nI g) (nI a) (nI b) (nI s) (nI t) = l_X3_wideIfChanged_8 sk n (nI l) (nI g) (nI (if s < 2 then a + gs Z t else a)) (nI (if s < 2 then b else b + gs Z t)) (nI (s + 1)) := fun t ht => by
    unfold b_X3_wideIfChanged_36
    rw [k_gsz W h ht, Option.bind_some, Option.bind_some, i2, i1, nI_add, nI_add, nI_add]
    simp (discharger := omega) only [nI_ltI]
    by_cases e : s < 2
    · rw [if_pos e, if_pos e, if_pos e]
    · rw [if_neg e, if_neg e, if_neg e]
  rw [l_X3_wideIfChanged_8, i4, if_pos (nI_lt hs (by omega)), ite_nI (by omega) (by omega), ite_nI (by omega) (by omega), h36 _ hg, h36 _ hl, h36 _ hs]
  unfold swp
  by_cases e : s = l
  · simp only [e, if_true]
  · rw [if_neg e]
    by_cases e2 : s = g
    · rw [if_pos e2, if_neg e, if_pos e2]
    · rw [if_neg e2, if_neg e, if_neg e2]
theorem k_wic (W : WF T Z) (h : RK sk Z) (hl : l < 4) (hg : g < 4) : f_X3_wideIfChanged sk (nI l) (nI g) = some (nI (wcN Z l g)) := by
  have g0 := gs_le W (swp_lt hl hg (show 0 < 4 by omega))
  have g1 := gs_le W (swp_lt hl hg (show 1 < 4 by omega))
  have g2 := gs_le W (swp_lt hl hg (show 2 < 4 by omega))
  have g3 := gs_le W (swp_lt hl hg (show 3 < 4 by omega))
  show l_X3_wideIfChanged_8 sk (999 + 1) (nI l) (nI g) (nI 0) (nI 0) (nI 0) = _
  rw [wic_L W h hl hg (by omega), show (999 : Nat) = 998 + 1 from rfl, wic_L W h hl hg (by omega), show (998 : Nat) = 997 + 1 from rfl, wic_L W h hl hg (by omega), show (997 : Nat) = 996 + 1 from rfl, wic_L W h hl hg (by omega), show (996 : Nat) = 995 + 1 from rfl, l_X3_wideIfChanged_8, if_neg (by decide)]
  simp only [Nat.reduceLT, if_true, if_false, Nat.zero_add, Nat.reduceAdd]
  rw [p_min (by omega) (by omega), Option.bind_some, i2, pk_mul]; rfl
theorem bc_in {c : VC} {K : Int32 → Int32 → Int32 → Option Int32} (W : WF T Z) (h : RK (c.1 0) Z) (hl : l < 4) (hg : g < 4) (q : Int32 × Nat) (hq : q.2 ≤ 48) : l_X5_bestChange_27 c K (n + 1) q.1 (nI q.2) (nI l) (nI g) = l_X5_bestChange_27 c K n (stepB Z q l g).1 (nI (stepB Z q l g).2) (nI l) (nI (g + 1)) ∧ (stepB Z q l g).2 ≤ 48 := by
  have hw := wc_le W hl hg
  constructor
  · rw [l_X5_bestChange_27, i4, if_pos (nI_lt hg (by omega)), k_wic W h hl hg, Option.bind_some, pk_mul, nI_add, i1, nI_add]
    simp (discharger := omega) only [nI_ltI]
    unfold stepB
    by_cases e : q.2 < wcN Z l g
    · rw [if_pos e, if_pos e]
    · rw [if_neg e, if_neg e]
  · unfold stepB
    split
    · exact hw
    · exact hq
theorem bc_end {c : VC} {K : Int32 → Int32 → Int32 → Option Int32} {a b : Int32} : l_X5_bestChange_27 c K (n + 1) a b (nI l) (nI 4) = K a b (nI (l + 1)) := by
  rw [l_X5_bestChange_27, if_neg (by decide), i1, nI_add]
theorem bc_out {c : VC} {a b : Int32} (hl : l < 4) : l_X5_bestChange_17 c (n + 1) a b (nI l) = l_X5_bestChange_27 c (l_X5_bestChange_17 c n) FU a b (nI l) (nI (l + 1)) := by
  rw [l_X5_bestChange_17, i4, if_pos (nI_lt hl (by omega)), i1, nI_add]
theorem c_best {c : VC} (W : WF T Z) (h : RK (c.1 0) Z) : f_X5_bestChange c = some (bcZ Z).1 := by
  have q0 : ((mI, wcN Z 0 0) : Int32 × Nat).2 ≤ 48 := wc_le W (by omega) (by omega)
  have s1 := fun K n => bc_in (c := c) (K := K) (n := n) W h (l := 0) (g := 1) (by omega) (by omega) (mI, wcN Z 0 0) q0
  have q1 := (s1 (fun _ _ _ => none) 0).2
  have s2 := fun K n => bc_in (c := c) (K := K) (n := n) W h (l := 0) (g := 2) (by omega) (by omega) _ q1
  have q2 := (s2 (fun _ _ _ => none) 0).2
  have s3 := fun K n => bc_in (c := c) (K := K) (n := n) W h (l := 0) (g := 3) (by omega) (by omega) _ q2
  have q3 := (s3 (fun _ _ _ => none) 0).2
  have s4 := fun K n => bc_in (c := c) (K := K) (n := n) W h (l := 1) (g := 2) (by omega) (by omega) _ q3
  have q4 := (s4 (fun _ _ _ => none) 0).2
  have s5 := fun K n => bc_in (c := c) (K := K) (n := n) W h (l := 1) (g := 3) (by omega) (by omega) _ q4
  have q5 := (s5 (fun _ _ _ => none) 0).2
  have s6 := fun K n => bc_in (c := c) (K := K) (n := n) W h (l := 2) (g := 3) (by omega) (by omega) _ q5
  unfold f_X5_bestChange
  have h0 : f_X3_wideIfChanged (c.1 0) 0 0 = some (nI (wcN Z 0 0)) := k_wic W h (l := 0) (g := 0) (by omega) (by omega)
  rw [h0, Option.bind_some]
  show l_X5_bestChange_17 c (999 + 1) mI (nI (wcN Z 0 0)) (nI 0) = _
  rw [bc_out (by omega), show FU = 996 + 1 + 1 + 1 + 1 from rfl]
  rw [(s1 _ _).1, (s2 _ _).1, (s3 _ _).1, bc_end, show (999 : Nat) = 998 + 1 from rfl, bc_out (by omega), show FU = 996 + 1 + 1 + 1 + 1 from rfl]
  rw [(s4 _ _).1, (s5 _ _).1, bc_end, show (998 : Nat) = 997 + 1 from rfl, bc_out (by omega), show FU = 996 + 1 + 1 + 1 + 1 from rfl]
  rw [(s6 _ _).1, bc_end, show (997 : Nat) = 996 + 1 from rfl, bc_out (by omega), show FU = 996 + 1 + 1 + 1 + 1 from rfl, bc_end, show (996 : Nat) = 995 + 1 from rfl, l_X5_bestChange_17, if_neg (by decide)]; rfl
-- the reference: rows change places
def exZ (Z : Nat → Nat) (l g j : Nat) : Nat → Nat := fun k => if k < 36 ∧ k % 9 < j then Z (9 * swp l g (k / 9) + k % 9) else Z k
theorem exZ_at {j w : Nat} (hs : s < 4) (hw : w < 9) : exZ Z l g j (9 * s + w) = if w < j then Z (9 * swp l g s + w) else Z (9 * s + w) := by
  unfold exZ
  rw [show (9 * s + w) / 9 = s by omega, show (9 * s + w) % 9 = w by omega]
  by_cases e : w < j
  · rw [if_pos ⟨by omega, e⟩, if_pos e]
  · rw [if_neg (fun q => e q.2), if_neg e]
theorem exZ_hi {j k : Nat} (h : 36 ≤ k) : exZ Z l g j k = Z k := by unfold exZ; rw [if_neg (by omega)]
theorem ex_back (hl : l < 4) (hg : g < 4) : ∀ k, k < 96 → Z k = exZ (exZ Z l g 9) l g 9 k := fun k hk => by
  by_cases e : k < 36
  · have e1 : k = 9 * (k / 9) + k % 9 := by omega
    have hq : k / 9 < 4 := by omega
    rw [e1, exZ_at hq (by omega), if_pos (by omega), exZ_at (swp_lt hl hg hq) (by omega), if_pos (by omega)]
    congr 1
    unfold swp
    by_cases a : k / 9 = l
    · rw [if_pos a]
      by_cases b : g = l
      · rw [if_pos b]; omega
      · rw [if_neg b, if_pos rfl]; omega
    · rw [if_neg a]
      by_cases b : k / 9 = g
      · rw [if_pos b, if_pos rfl]; omega
      · rw [if_neg b, if_neg a, if_neg b]
  · rw [exZ_hi (by omega), exZ_hi (by omega)]
theorem WF_ex (W : WF T Z) (hl : l < 4) (hg : g < 4) : WF T (exZ Z l g 9) := by
  obtain ⟨a0, a1, a2, a3, a4, a5, a6, a7, a8, a9, a10, a11⟩ := id W
  have hs : SL Z (exZ Z l g 9) := fun k h1 _ => exZ_hi h1
  have e0 : ∀ q, q < 4 → exZ Z l g 9 (9 * q) = Z (9 * swp l g q) := fun q hq => by
    have := exZ_at (Z := Z) (l := l) (g := g) (j := 9) (w := 0) hq (by omega)
    rw [if_pos (by omega)] at this
    exact this
  have ew : ∀ q w, q < 4 → w < 9 → exZ Z l g 9 (9 * q + w) = Z (9 * swp l g q + w) := fun q w hq hw => by rw [exZ_at hq hw, if_pos hw]
  refine ⟨fun q hq => ?_, ?_, ?_, ?_, ?_, ?_, ?_, ?_, ?_, ?_, ?_, ?_⟩
  · obtain ⟨w0, w1, w2, w3, w4, w5, w6, w7, w8, w9, w10, w11⟩ := a0 _ (swp_lt hl hg hq)
    have w10' := (a0 q hq).2.2.2.2.2.2.2.2.2.2.1
    rw [e0 q hq, ew q 1 hq (by omega), ew q 2 hq (by omega), ew q 3 hq (by omega), ew q 4 hq (by omega), ew q 5 hq (by omega), ew q 6 hq (by omega), ew q 7 hq (by omega), ew q 8 hq (by omega), exZ_hi (k := 41) (by omega), exZ_hi (k := 36 + q) (by omega)]
    exact ⟨w0, w1, w2, w3, w4, w5, w6, w7, w8, w9, w10', w11⟩
  · rw [exZ_hi (by omega)]; exact a1
  · rw [exZ_hi (by omega)]
    intro e q hq
    rw [exZ_hi (by omega), ew q 5 hq (by omega)]
    exact ⟨(a2 e q hq).1, (a2 e _ (swp_lt hl hg hq)).2⟩
  · rw [exZ_hi (by omega)]; exact a3
  · rw [exZ_hi (by omega)]; exact a4
  · rw [exZ_hi (by omega)]; exact a5
  · rw [exZ_hi (by omega)]; exact a6
  · rw [exZ_hi (by omega)]; exact a7
  · rw [exZ_hi (by omega)]; exact a8
  · rw [exZ_hi (by omega)]; exact a9
  · intro k h1 h2
    rw [exZ_hi (by omega)]; exact a10 k h1 h2
  · rw [exZ_hi (by omega)]
    intro e b hb
    rw [hs.blk] at hb
    rw [hs.slot, hs.num, hs.sl (by omega), hs.nu (by omega), exZ_hi (by omega), exZ_hi (by omega)]
    exact a11 e b hb
theorem gs_ex (hs : s < 4) : gs (exZ Z l g 9) s = gs Z (swp l g s) := by
  unfold gs
  have e0 : exZ Z l g 9 (9 * s) = Z (9 * swp l g s) := by
    have := exZ_at (Z := Z) (l := l) (g := g) (j := 9) (w := 0) hs (by omega)
    rw [if_pos (by omega)] at this
    exact this
  have e1 : exZ Z l g 9 (9 * s + 1) = Z (9 * swp l g s + 1) := by rw [exZ_at hs (by omega), if_pos (by omega)]
  have e4 : exZ Z l g 9 (9 * s + 4) = Z (9 * swp l g s + 4) := by rw [exZ_at hs (by omega), if_pos (by omega)]
  rw [e0, e1, e4]
theorem st_le (W : WF T Z) (hl : l < 4) (hg : g < 4) (q : Int32 × Nat) (hq : q.2 ≤ 48) : (stepB Z q l g).2 ≤ 48 := by
  have hw := wc_le W hl hg
  unfold stepB
  split
  · exact hw
  · exact hq
end
