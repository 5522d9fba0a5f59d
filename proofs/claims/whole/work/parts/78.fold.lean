-- ===== digest: the folds =====
def itN (F : Nat → Int64 → Int64) : Nat → Nat → Int64 → Int64
  | _, 0, h => h
  | j, d + 1, h => itN F (j + 1) d (F j h)
def hsh (f : Nat → Int32) (j : Nat) (h : Int64) : Int64 := ((31 : Int64) * h) + (f j).toInt64
def slH (Z : Nat → Nat) (s : Nat) (h : Int64) : Int64 := itN (hsh (bkI Z s)) 0 12 (itN (hsh (snI Z s)) 0 8 h)
def vlI (Z : Nat → Nat) (b : Nat) : Int32 := if canN Z b then nI (Z (48 + 12 * slotN Z b + numN Z b)) else mI
def blH (Z : Nat → Nat) (b : Nat) (h : Int64) : Int64 := hsh (vlI Z) b (itN (hsh (bnI Z b)) 0 7 h)
def stH (Z : Nat → Nat) (m : Nat) (h : Int64) : Int64 := ((31 : Int64) * (((31 : Int64) * h) + (nI (stN Z m 0)).toInt64)) + (nI (stN Z m 1)).toInt64
section
variable {T : Nat} {Z : Nat → Nat} {c : VC} {m : VM} {s b n : Nat}
theorem cd_6 (hcnt : ∀ j, j ≤ 11 → f_X5_countOf c (nI j) = some (cnI Z n j)) : ∀ (d j f : Nat) (h : Int64), j + d = 12 → d < f → l_X5_digest_6 f c h (nI j) = l_X5_digest_33 FU c (itN (hsh (cnI Z n)) j d h) 0 := by
  intro d
  induction d with
  | zero =>
    intro j f h hj hf
    obtain ⟨f, rfl⟩ := Nat.exists_eq_succ_of_ne_zero (show f ≠ 0 by omega)
    rw [l_X5_digest_6, i12, if_neg (nI_nlt (by omega) (by omega))]; rfl
  | succ d ih =>
    intro j f h hj hf
    obtain ⟨f, rfl⟩ := Nat.exists_eq_succ_of_ne_zero (show f ≠ 0 by omega)
    rw [l_X5_digest_6, i12, if_pos (nI_lt (by omega) (by omega)), hcnt j (by omega), Option.bind_some, i1, nI_add]
    exact ih (j + 1) f _ (by omega) (by omega)
theorem cd_49 {K : Int64 → Int32 → Option Int64} (W : WF T Z) (hR : RLy (c.2.1 0) Z) (hs : s < 4) : ∀ (d j f : Nat) (h : Int64), j + d = 12 → d < f → l_X5_foldSlots_49 c K f h (nI s) (nI j) = K (itN (hsh (bkI Z s)) j d h) (nI (s + 1)) := by
  intro d
  induction d with
  | zero =>
    intro j f h hj hf
    obtain ⟨f, rfl⟩ := Nat.exists_eq_succ_of_ne_zero (show f ≠ 0 by omega)
    rw [l_X5_foldSlots_49, i12, if_neg (nI_nlt (by omega) (by omega)), i1, nI_add]; rfl
  | succ d ih =>
    intro j f h hj hf
    obtain ⟨f, rfl⟩ := Nat.exists_eq_succ_of_ne_zero (show f ≠ 0 by omega)
    rw [l_X5_foldSlots_49, i12, if_pos (nI_lt (by omega) (by omega)), l_at W hR hs (by omega), Option.bind_some, i1, nI_add]
    exact ih (j + 1) f _ (by omega) (by omega)
theorem cd_14 {K : Int64 → Int32 → Option Int64} (W : WF T Z) (hR : RS (gSt c 0) Z) (hs : s < 4) : ∀ (d j f : Nat) (h : Int64), j + d = 8 → d < f → l_X5_foldSlots_14 c K f h (nI s) (nI j) = l_X5_foldSlots_49 c K FU (itN (hsh (snI Z s)) j d h) (nI s) 0 := by
  intro d
  induction d with
  | zero =>
    intro j f h hj hf
    obtain ⟨f, rfl⟩ := Nat.exists_eq_succ_of_ne_zero (show f ≠ 0 by omega)
    rw [l_X5_foldSlots_14, i8, if_neg (nI_nlt (by omega) (by omega))]; rfl
  | succ d ih =>
    intro j f h hj hf
    obtain ⟨f, rfl⟩ := Nat.exists_eq_succ_of_ne_zero (show f ≠ 0 by omega)
    rw [l_X5_foldSlots_14, i8, if_pos (nI_lt (by omega) (by omega)), s_slotNo W hR hs (by omega), Option.bind_some, i1, nI_add]
    exact ih (j + 1) f _ (by omega) (by omega)
theorem cd_5 (W : WF T Z) (hR : RS (gSt c 0) Z) : ∀ (d s f : Nat) (h : Int64), s + d = 4 → d < f → l_X5_foldSlots_5 c f h (nI s) = some (itN (slH Z) s d h) := by
  have hfu : FU = 1000 := rfl
  intro d
  induction d with
  | zero =>
    intro s f h hs hf
    obtain ⟨f, rfl⟩ := Nat.exists_eq_succ_of_ne_zero (show f ≠ 0 by omega)
    rw [l_X5_foldSlots_5, i4, if_neg (nI_nlt (by omega) (by omega))]; rfl
  | succ d ih =>
    intro s f h hs hf
    obtain ⟨f, rfl⟩ := Nat.exists_eq_succ_of_ne_zero (show f ≠ 0 by omega)
    rw [l_X5_foldSlots_5, i4, if_pos (nI_lt (by omega) (by omega))]
    refine (cd_14 W hR (s := s) (by omega) 8 0 FU h (by omega) (by omega)).trans ?_
    refine (cd_49 W hR.2.1 (s := s) (by omega) 12 0 FU _ (by omega) (by omega)).trans ?_
    exact ih (s + 1) f _ (by omega) (by omega)
theorem cd_23 {K : Int64 → Int32 → Option Int64} (W : WF T Z) (hR : RS (gSt c 0) Z) (hb : b < blkN Z) : ∀ (d j f : Nat) (h : Int64), j + d = 7 → d < f → l_X5_foldBlocks_23 c K f h (nI b) (nI j) = K (hsh (vlI Z) b (itN (hsh (bnI Z b)) j d h)) (nI (b + 1)) := by
  have hbl := W.blk
  intro d
  induction d with
  | zero =>
    intro j f h hj hf
    obtain ⟨f, rfl⟩ := Nat.exists_eq_succ_of_ne_zero (show f ≠ 0 by omega)
    rw [l_X5_foldBlocks_23, i7, if_neg (nI_nlt (by omega) (by omega)), s_can W hR (by omega), Option.bind_some, s_held W hR hb, Option.bind_some, i1, nI_add]
    unfold hsh vlI
    by_cases e : canN Z b
    · rw [if_neg (bI_t ⟨hb, e⟩), if_pos e]; rfl
    · rw [if_pos (bI_f (fun q => e q.2)), if_neg e]; rfl
  | succ d ih =>
    intro j f h hj hf
    obtain ⟨f, rfl⟩ := Nat.exists_eq_succ_of_ne_zero (show f ≠ 0 by omega)
    rw [l_X5_foldBlocks_23, i7, if_pos (nI_lt (by omega) (by omega)), s_blkNo W hR hb (by omega), Option.bind_some, i1, nI_add]
    exact ih (j + 1) f _ (by omega) (by omega)
theorem cd_b5 (W : WF T Z) (hR : RS (gSt c 0) Z) : ∀ (d b f : Nat) (h : Int64), b + d = blkN Z → d < f → l_X5_foldBlocks_5 c f h (nI b) = some (itN (blH Z) b d h) := by
  have hbl := W.blk
  have hfu : FU = 1000 := rfl
  have l1 : (c.2.1 0).2.2.2.2.2.1 = nI (blkN Z) := hR.2.1.2.2.2.2.2.1
  intro d
  induction d with
  | zero =>
    intro b f h hb hf
    obtain ⟨f, rfl⟩ := Nat.exists_eq_succ_of_ne_zero (show f ≠ 0 by omega)
    rw [l_X5_foldBlocks_5, l1, if_neg (nI_nlt (by omega) (by omega))]; rfl
  | succ d ih =>
    intro b f h hb hf
    obtain ⟨f, rfl⟩ := Nat.exists_eq_succ_of_ne_zero (show f ≠ 0 by omega)
    rw [l_X5_foldBlocks_5, l1, if_pos (nI_lt (by omega) (by omega))]
    refine (cd_23 W hR (b := b) (by omega) 7 0 FU h (by omega) (by omega)).trans ?_
    exact ih (b + 1) f _ (by omega) (by omega)
def smC (c c' : VC) : Prop := (∀ k, k < 8 → gSt c' k = gSt c k) ∧ c'.2.2.2.2.2 = c.2.2.2.2.2
theorem smC.trans {c c' c2 : VC} (h : smC c c') (g : smC c' c2) : smC c c2 := ⟨fun k hk => (g.1 k hk).trans (h.1 k hk), g.2.trans h.2⟩
theorem smC.k {c c' : VC} (h : smC c c') : c'.1 0 = c.1 0 := congrArg (fun q : VSt => q.1) (h.1 0 (by omega))
theorem cd_44 (W : WF T Z) : ∀ (d j f : Nat) (h : Int64) (c : VC), RK (c.1 0) Z → j + d = 3 → d < f → ∃ c', smC c c' ∧ l_X5_foldTrials_44 f c h (nI j) = some (((31 : Int64) * itN (stH Z) j d h) + ((bcZ Z).1).toInt64, c') := by
  intro d
  induction d with
  | zero =>
    intro j f h c hK hj hf
    obtain ⟨f, rfl⟩ := Nat.exists_eq_succ_of_ne_zero (show f ≠ 0 by omega)
    refine ⟨c, ⟨fun _ _ => rfl, rfl⟩, ?_⟩
    rw [l_X5_foldTrials_44, i3, if_neg (nI_nlt (by omega) (by omega)), c_best W hK, Option.bind_some]; rfl
  | succ d ih =>
    intro j f h c hK hj hf
    obtain ⟨f, rfl⟩ := Nat.exists_eq_succ_of_ne_zero (show f ≠ 0 by omega)
    obtain ⟨c1, a1, a2, a3⟩ := c_started (c := c) (map := j) (what := 0) W hK (by omega) (by omega)
    have s1 : smC c c1 := ⟨a2, a3⟩
    have hK1 : RK (c1.1 0) Z := by rw [s1.k]; exact hK
    obtain ⟨c2, b1, b2, b3⟩ := c_started (c := c1) (map := j) (what := 1) W hK1 (by omega) (by omega)
    have s2 : smC c1 c2 := ⟨b2, b3⟩
    have hK2 : RK (c2.1 0) Z := by rw [s2.k]; exact hK1
    obtain ⟨c', g1, g2⟩ := ih (j + 1) f (stH Z j h) c2 hK2 (by omega) (by omega)
    refine ⟨c', (s1.trans s2).trans g1, ?_⟩
    have a1' : f_X5_blocksIfStarted c (nI j) 0 = _ := a1
    have b1' : f_X5_blocksIfStarted c1 (nI j) 1 = _ := b1
    rw [l_X5_foldTrials_44, i3, if_pos (show nI j < nI 3 from nI_lt (show j < 3 by omega) (by omega)), a1', Option.bind_some]
    dsimp only
    rw [b1', Option.bind_some, show (nI j + 1 : Int32) = nI (j + 1) from nI_add j 1]
    exact g2
theorem cd_15 (W : WF T Z) (hT : T < 16000000) : ∀ (d j f : Nat) (h : Int64) (c : VC), RK (c.1 0) Z → j + d = 3 → d < f → ∃ c', smC c c' ∧ l_X5_foldTrials_15 f c h (nI j) = some (((31 : Int64) * itN (stH Z) 0 3 (itN (hsh (swI Z)) j d h)) + ((bcZ Z).1).toInt64, c') := by
  have hfu : FU = 1000 := rfl
  intro d
  induction d with
  | zero =>
    intro j f h c hK hj hf
    obtain ⟨f, rfl⟩ := Nat.exists_eq_succ_of_ne_zero (show f ≠ 0 by omega)
    obtain ⟨c', g1, g2⟩ := cd_44 W 3 0 FU h c hK (by omega) (by omega)
    refine ⟨c', g1, ?_⟩
    rw [l_X5_foldTrials_15, i3, if_neg (nI_nlt (by omega) (by omega))]
    exact g2
  | succ d ih =>
    intro j f h c hK hj hf
    obtain ⟨f, rfl⟩ := Nat.exists_eq_succ_of_ne_zero (show f ≠ 0 by omega)
    obtain ⟨c1, a1, a2, a3⟩ := c_swept (c := c) (map := j) W hT hK (by omega)
    have s1 : smC c c1 := ⟨a2, a3⟩
    have hK1 : RK (c1.1 0) Z := by rw [s1.k]; exact hK
    obtain ⟨c', g1, g2⟩ := ih (j + 1) f (hsh (swI Z) j h) c1 hK1 (by omega) (by omega)
    refine ⟨c', s1.trans g1, ?_⟩
    rw [l_X5_foldTrials_15, i3, if_pos (show nI j < nI 3 from nI_lt (show j < 3 by omega) (by omega)), a1, Option.bind_some, show (nI j + 1 : Int32) = nI (j + 1) from nI_add j 1]
    exact g2
theorem cd_tx {v : VTx} {tx : Nat → Nat} {len : Nat} (h : CdX v.1 tx len) (hl : v.2.1 = nI len) : ∀ (d i f : Nat) (g : Int64), i + d = len → d < f → l_X4_fold_15 v f g (nI i) = some (itN (hsh (fun i => nI (tx i))) i d g) := by
  have h60 := h.1
  intro d
  induction d with
  | zero =>
    intro i f g hi hf
    obtain ⟨f, rfl⟩ := Nat.exists_eq_succ_of_ne_zero (show f ≠ 0 by omega)
    rw [l_X4_fold_15, hl, if_neg (nI_nlt (by omega) (by omega))]; rfl
  | succ d ih =>
    intro i f g hi hf
    obtain ⟨f, rfl⟩ := Nat.exists_eq_succ_of_ne_zero (show f ≠ 0 by omega)
    rw [l_X4_fold_15, hl, if_pos (nI_lt (by omega) (by omega)), p_entry (by omega) (by omega), Option.bind_some, (h.2 i (by omega)).1, i1, nI_add]
    exact ih (i + 1) f _ (by omega) (by omega)
-- the reference's
theorem md_11 {n : Nat} (W : WF T Z) (h : RZ m.2.1 Z) (hn : m.2.2.2.2.1 = nI n) : ∀ (d j f : Nat) (g : Int64), j + d = 12 → d < f → l_X6_digest_11 f m g (nI j) = l_X6_digest_66 FU m (((31 : Int64) * (((31 : Int64) * itN (hsh (cnI Z n)) j d g) + (nI (Z 46)).toInt64)) + (nI (Z 47)).toInt64) 0 := by
  intro d
  induction d with
  | zero =>
    intro j f g hj hf
    obtain ⟨f, rfl⟩ := Nat.exists_eq_succ_of_ne_zero (show f ≠ 0 by omega)
    rw [l_X6_digest_11, i12, if_neg (nI_nlt (by omega) (by omega)), show (46 : Int32) = nI 46 from rfl, m_at h (by omega) (by omega), Option.bind_some, show (47 : Int32) = nI 47 from rfl, m_at h (by omega) (by omega), Option.bind_some]; rfl
  | succ d ih =>
    intro j f g hj hf
    obtain ⟨f, rfl⟩ := Nat.exists_eq_succ_of_ne_zero (show f ≠ 0 by omega)
    rw [l_X6_digest_11, i12, if_pos (nI_lt (by omega) (by omega)), m_count W h hn (by omega), Option.bind_some, i1, nI_add]
    exact ih (j + 1) f _ (by omega) (by omega)
theorem md_105 {K : VM → Int64 → Int32 → Option (Int64 × VM)} (W : WF T Z) (h : RZ m.2.1 Z) (hs : s < 4) : ∀ (d j f : Nat) (g : Int64), j + d = 12 → d < f → l_X6_digest_105 K f m g (nI s) (nI j) = K m (itN (hsh (bkI Z s)) j d g) (nI (s + 1)) := by
  intro d
  induction d with
  | zero =>
    intro j f g hj hf
    obtain ⟨f, rfl⟩ := Nat.exists_eq_succ_of_ne_zero (show f ≠ 0 by omega)
    rw [l_X6_digest_105, i12, if_neg (nI_nlt (by omega) (by omega)), i1, nI_add]; rfl
  | succ d ih =>
    intro j f g hj hf
    obtain ⟨f, rfl⟩ := Nat.exists_eq_succ_of_ne_zero (show f ≠ 0 by omega)
    rw [l_X6_digest_105, i12, if_pos (nI_lt (by omega) (by omega)), m_blockAt W h hs (by omega), Option.bind_some, i1, nI_add]
    exact ih (j + 1) f _ (by omega) (by omega)
theorem md_74 {K : VM → Int64 → Int32 → Option (Int64 × VM)} (W : WF T Z) (h : RZ m.2.1 Z) (hs : s < 4) : ∀ (d j f : Nat) (g : Int64), j + d = 8 → d < f → l_X6_digest_74 K f m g (nI s) (nI j) = l_X6_digest_105 K FU m (itN (hsh (snI Z s)) j d g) (nI s) 0 := by
  intro d
  induction d with
  | zero =>
    intro j f g hj hf
    obtain ⟨f, rfl⟩ := Nat.exists_eq_succ_of_ne_zero (show f ≠ 0 by omega)
    rw [l_X6_digest_74, i8, if_neg (nI_nlt (by omega) (by omega))]; rfl
  | succ d ih =>
    intro j f g hj hf
    obtain ⟨f, rfl⟩ := Nat.exists_eq_succ_of_ne_zero (show f ≠ 0 by omega)
    rw [l_X6_digest_74, i8, if_pos (nI_lt (by omega) (by omega)), m_slotNo W h hs (by omega), Option.bind_some, i1, nI_add]
    exact ih (j + 1) f _ (by omega) (by omega)
theorem md_66 (W : WF T Z) (h : RZ m.2.1 Z) : ∀ (d s f : Nat) (g : Int64), s + d = 4 → d < f → l_X6_digest_66 f m g (nI s) = l_X6_digest_141 FU m (itN (slH Z) s d g) 0 := by
  have hfu : FU = 1000 := rfl
  intro d
  induction d with
  | zero =>
    intro s f g hs hf
    obtain ⟨f, rfl⟩ := Nat.exists_eq_succ_of_ne_zero (show f ≠ 0 by omega)
    rw [l_X6_digest_66, i4, if_neg (nI_nlt (by omega) (by omega))]; rfl
  | succ d ih =>
    intro s f g hs hf
    obtain ⟨f, rfl⟩ := Nat.exists_eq_succ_of_ne_zero (show f ≠ 0 by omega)
    rw [l_X6_digest_66, i4, if_pos (nI_lt (by omega) (by omega))]
    refine (md_74 W h (s := s) (by omega) 8 0 FU g (by omega) (by omega)).trans ?_
    refine (md_105 W h (s := s) (by omega) 12 0 FU _ (by omega) (by omega)).trans ?_
    exact ih (s + 1) f _ (by omega) (by omega)
theorem md_152 {K : VM → Int64 → Int32 → Option (Int64 × VM)} (W : WF T Z) (h : RZ m.2.1 Z) (hb : b < blkN Z) : ∀ (d j f : Nat) (g : Int64), j + d = 7 → d < f → l_X6_digest_152 K f m g (nI b) (nI j) = K m (hsh (vlI Z) b (itN (hsh (bnI Z b)) j d g)) (nI (b + 1)) := by
  have hbl := W.blk
  intro d
  induction d with
  | zero =>
    intro j f g hj hf
    obtain ⟨f, rfl⟩ := Nat.exists_eq_succ_of_ne_zero (show f ≠ 0 by omega)
    rw [l_X6_digest_152, i7, if_neg (nI_nlt (by omega) (by omega)), m_can W h hb, Option.bind_some, i1, nI_add]
    unfold hsh vlI
    by_cases e : canN Z b
    · rw [if_neg (bI_t e), if_pos e, m_val W h hb e]; rfl
    · rw [if_pos (bI_f e), if_neg e]; rfl
  | succ d ih =>
    intro j f g hj hf
    obtain ⟨f, rfl⟩ := Nat.exists_eq_succ_of_ne_zero (show f ≠ 0 by omega)
    rw [l_X6_digest_152, i7, if_pos (nI_lt (by omega) (by omega)), m_blkNo W h hb (by omega), Option.bind_some, i1, nI_add]
    exact ih (j + 1) f _ (by omega) (by omega)
theorem md_141 (W : WF T Z) (h : RZ m.2.1 Z) : ∀ (d b f : Nat) (g : Int64), b + d = blkN Z → d < f → l_X6_digest_141 f m g (nI b) = l_X6_digest_232 FU m (((31 : Int64) * itN (blH Z) b d g) + (nI (whyN Z (Z 46))).toInt64) 0 := by
  have hbl := W.blk
  have hfu : FU = 1000 := rfl
  have h46 : Z 46 ≤ 2 := W.2.2.2.2.2.2.2.2.1
  intro d
  induction d with
  | zero =>
    intro b f g hb hf
    obtain ⟨f, rfl⟩ := Nat.exists_eq_succ_of_ne_zero (show f ≠ 0 by omega)
    rw [l_X6_digest_141, m_blk W h, Option.bind_some, if_neg (nI_nlt (by omega) (by omega)), show (46 : Int32) = nI 46 from rfl, m_at h (by omega) (by omega), Option.bind_some, m_why W h h46, Option.bind_some]; rfl
  | succ d ih =>
    intro b f g hb hf
    obtain ⟨f, rfl⟩ := Nat.exists_eq_succ_of_ne_zero (show f ≠ 0 by omega)
    rw [l_X6_digest_141, m_blk W h, Option.bind_some, if_pos (nI_lt (by omega) (by omega))]
    refine (md_152 W h (b := b) (by omega) 7 0 FU g (by omega) (by omega)).trans ?_
    exact ih (b + 1) f _ (by omega) (by omega)
theorem md_tx {r : R4} {tx : Nat → Nat} {len : Nat} (h : RTx r tx len) (hr : m.2.2.2.2.2.2.2 = r) : ∀ (d i f : Nat) (g : Int64), i + d = len → d < f → l_X6_digest_370 f m g (nI i) = some (itN (hsh (fun i => nI (tx i))) i d g, m) := by
  have h60 := h.1
  have hl : m.2.2.2.2.2.2.2.2.1 = nI len := by rw [hr]; exact h.2.1
  have ht : m.2.2.2.2.2.2.2.1 = r.1 := by rw [hr]
  intro d
  induction d with
  | zero =>
    intro i f g hi hf
    obtain ⟨f, rfl⟩ := Nat.exists_eq_succ_of_ne_zero (show f ≠ 0 by omega)
    rw [l_X6_digest_370, hl, if_neg (nI_nlt (by omega) (by omega))]; rfl
  | succ d ih =>
    intro i f g hi hf
    obtain ⟨f, rfl⟩ := Nat.exists_eq_succ_of_ne_zero (show f ≠ 0 by omega)
    rw [l_X6_digest_370, hl, if_pos (nI_lt (by omega) (by omega)), ht, p_ard (by omega) (by omega), Option.bind_some, (h.2.2 i (by omega)).1, i1, nI_add]
    exact ih (i + 1) f _ (by omega) (by omega)
end
