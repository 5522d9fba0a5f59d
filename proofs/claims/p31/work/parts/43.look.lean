-- ===== which block lies where =====
def mI : Int32 := -1
theorem im1 : (-1 : Int32) = mI := rfl
theorem imn : (-nI 1 : Int32) = mI := rfl
def ixS (Z : Nat → Nat) (s n : Nat) : Nat := if s = 1 then n + Z 36 else if s = 3 then n + Z 38 else n
def bkN (Z : Nat → Nat) (s n : Nat) : Nat :=
  if Z 40 = 3 then ixS Z s n else if Z 40 = 2 then (if s < 2 then ixS Z s n else roomA Z + ixS Z s n) else if ixS Z s n < lesN Z then 2 * ixS Z s n + s / 2 else ixS Z s n + lesN Z
abbrev bkP (Z : Nat → Nat) (s n : Nat) : Prop := n < Z (36 + s) ∧ (Z 40 = 3 → ixS Z s n < lesN Z)
def bkI (Z : Nat → Nat) (s n : Nat) : Int32 := if n < Z (36 + s) then (if Z 40 = 3 then (if ixS Z s n < lesN Z then nI (bkN Z s n) else mI) else nI (bkN Z s n)) else mI
def cntN (p : Nat → Bool) : Nat → Nat
  | 0 => 0
  | k + 1 => cntN p k + (if p k then 1 else 0)
def usedN (Z : Nat → Nat) (s : Nat) : Nat := cntN (fun n => decide (bkI Z s n ≠ mI)) 12
section
variable {T : Nat} {Z : Nat → Nat} {ly : VLy} {sk : VSk} {ck : VCk} {st : VSt} {b s : Nat}
theorem WF.none {k : Nat} (W : WF T Z) (hs : s < 4) (h : k < Z (36 + s)) : Z 40 ≠ 0 := fun e => by
  have := (W.2.2.1 e s hs).1
  omega
theorem l_at51 (W : WF T Z) (h : RLy ly Z) {c i : Nat} (hc : c ≤ 1) (hi : i < 48) (h0 : Z 40 ≠ 0) : b_X1_blockAt_51 ly (nI c) (nI i) = some (if Z 40 = 3 then (if i < lesN Z then nI i else mI) else nI (if Z 40 = 2 then (if c = 0 then i else roomA Z + i) else if i < lesN Z then 2 * i + c else i + lesN Z)) := by
  have hr := W.room
  have hbl := W.blk
  have hk := W.2.1
  unfold b_X1_blockAt_51
  rw [im1, l_mir hk h, Option.bind_some, h.1, h.2.2.1, h.2.2.2.2.1, h.2.2.2.2.2.1]
  by_cases e3 : Z 40 = 3
  · rw [if_neg (bI_t e3), if_pos e3]
    have hb : blkN Z = lesN Z := by unfold blkN; rw [if_neg h0, if_pos e3]
    rw [hb]
    simp (discharger := omega) only [nI_ltI]
    split <;> rfl
  · rw [if_pos (bI_f e3), if_neg e3]
    simp (discharger := omega) only [i0, i2, kI_0 hk, nI_ltI, nI_eq, pk_mul, nI_add, sn_if]
    apply sn_eq
    rcases kind_cases hk with e | e | e | e <;> simp [e] at h0 e3 ⊢
theorem l_at28 (W : WF T Z) (h : RLy ly Z) {n : Nat} (hs : s < 4) (hn : n < 12) (h0 : Z 40 ≠ 0) : b_X1_blockAt_28 ly (nI s) (nI n) (nI (s / 2)) = some (if Z 40 = 3 then (if ixS Z s n < lesN Z then nI (ixS Z s n) else mI) else nI (bkN Z s n)) := by
  have hm := W.mp
  unfold b_X1_blockAt_28 bkN
  rcases slot_cases hs with rfl | rfl | rfl | rfl
  all_goals simp (discharger := omega) only [i1, i0, e_and, nI_eq, Nat.reduceMod, Nat.reduceDiv, Nat.reduceEqDiff, if_true, if_false, Nat.zero_mod, Nat.zero_div]
  · rw [l_at51 W h (by omega) (by omega) h0]
    by_cases e3 : Z 40 = 3 <;> simp [ixS, e3]
  · rw [pk_sub (by omega), p_entry (by omega) (by omega), Option.bind_some, h.2.1 _ (by omega)]
    simp only [Nat.reduceSub, Nat.reduceAdd, nI_add]
    rw [l_at51 W h (by omega) (by omega) h0]
    by_cases e3 : Z 40 = 3 <;> simp [ixS, e3]
  · rw [l_at51 W h (by omega) (by omega) h0]
    by_cases e3 : Z 40 = 3 <;> simp [ixS, e3]
  · rw [pk_sub (by omega), p_entry (by omega) (by omega), Option.bind_some, h.2.1 _ (by omega)]
    simp only [Nat.reduceSub, Nat.reduceAdd, nI_add]
    rw [l_at51 W h (by omega) (by omega) h0]
    by_cases e3 : Z 40 = 3 <;> simp [ixS, e3]
theorem l_at (W : WF T Z) (h : RLy ly Z) {n : Nat} (hs : s < 4) (hn : n < 12) : f_X1_blockAt ly (nI s) (nI n) = some (bkI Z s n) := by
  have hm := W.mp
  have h12 : Z (36 + s) ≤ 12 := (W.1 s hs).2.2.2.2.2.2.2.2.2.2.1
  unfold f_X1_blockAt bkI
  rw [im1, if_neg (nI_pos (by omega)), p_entry hs (by omega), Option.bind_some, h.2.1 s hs]
  simp (discharger := omega) only [nI_ltI, i2]
  by_cases e : n < Z (36 + s)
  · rw [if_pos e, if_pos e]
    have h0 := W.none hs e
    have hd : (if s < 2 then b_X1_blockAt_28 ly (nI s) (nI n) 0 else b_X1_blockAt_28 ly (nI s) (nI n) 1) = b_X1_blockAt_28 ly (nI s) (nI n) (nI (s / 2)) := by
      rcases slot_cases hs with rfl | rfl | rfl | rfl
      · rw [if_pos (show (0 : Nat) < 2 by omega)]; exact congrArg (b_X1_blockAt_28 ly (nI 0) (nI n)) (show (0 : Int32) = nI (0 / 2) from rfl)
      · rw [if_pos (show (1 : Nat) < 2 by omega)]; exact congrArg (b_X1_blockAt_28 ly (nI 1) (nI n)) (show (0 : Int32) = nI (1 / 2) from rfl)
      · rw [if_neg (show ¬ (2 : Nat) < 2 by omega)]; exact congrArg (b_X1_blockAt_28 ly (nI 2) (nI n)) (show (1 : Int32) = nI (2 / 2) from rfl)
      · rw [if_neg (show ¬ (3 : Nat) < 2 by omega)]; exact congrArg (b_X1_blockAt_28 ly (nI 3) (nI n)) (show (1 : Int32) = nI (3 / 2) from rfl)
    rw [hd, l_at28 W h hs hn h0]
    congr 1
    by_cases e3 : Z 40 = 3
    · rw [if_pos e3, if_pos e3]; unfold bkN; rw [if_pos e3]
    · rw [if_neg e3, if_neg e3]
  · rw [if_neg e, if_neg e]
theorem l_used (W : WF T Z) (h : RLy ly Z) (hs : s < 4) : ∀ (d j n : Nat), j + d = 12 → d < n → l_X1_usedIn_4 ly n (nI s) (nI (cntN (fun n => decide (bkI Z s n ≠ mI)) j)) (nI j) = some (nI (usedN Z s)) := by
  intro d
  induction d with
  | zero =>
    intro j n hj hn
    obtain ⟨n, rfl⟩ := Nat.exists_eq_succ_of_ne_zero (show n ≠ 0 by omega)
    unfold l_X1_usedIn_4
    rw [i12, if_neg (nI_nlt (by omega) (by omega)), show j = 12 by omega]; rfl
  | succ d ih =>
    intro j n hj hn
    obtain ⟨n, rfl⟩ := Nat.exists_eq_succ_of_ne_zero (show n ≠ 0 by omega)
    unfold l_X1_usedIn_4
    rw [im1, i12, if_pos (nI_lt (by omega) (by omega)), l_at W h hs (by omega), Option.bind_some]
    have := ih (j + 1) n (by omega) (by omega)
    rw [i0, i1, nI_add, nI_add, nI_add]
    by_cases e : bkI Z s j = mI
    · rw [if_pos e]
      simpa [cntN, e] using this
    · rw [if_neg e]
      simpa [cntN, e] using this
theorem l_usedIn (W : WF T Z) (h : RLy ly Z) (hs : s < 4) : f_X1_usedIn ly (nI s) = some (nI (usedN Z s)) := l_used W h hs 12 0 FU (by omega) (by decide)
theorem s_used (W : WF T Z) (h : RS st Z) (hs : s < 4) : f_X2_usedPlaces st (nI s) = some (nI (if leftN Z s then usedN Z s else 0)) := by
  unfold f_X2_usedPlaces
  rw [k_left W h.1 hs, Option.bind_some, l_usedIn W h.2.1 hs, Option.bind_some]
  by_cases e : leftN Z s
  · rw [if_neg (bI_t e), if_pos e]
  · rw [if_pos (bI_f e), if_neg e]; rfl
-- the reference's
theorem bkN_lt (W : WF T Z) (hs : s < 4) {n : Nat} (hn : n < 12) : bkN Z s n < 100 := by
  have hm := W.mp
  have hr := W.room
  have hbl := W.blk
  unfold bkN ixS
  repeat' split
  all_goals omega
theorem bkI_neg (W : WF T Z) (hs : s < 4) {n : Nat} (hn : n < 12) : bkI Z s n < 0 ↔ bkI Z s n = mI := by
  have h1 := bkN_lt W hs hn
  have h2 : ¬ nI (bkN Z s n) < 0 := nI_pos (by omega)
  have h3 : ¬ nI (bkN Z s n) = mI := fun e => h2 (by rw [e]; decide)
  unfold bkI
  split
  · split
    · split
      · simp [h2, h3]
      · decide
    · simp [h2, h3]
  · decide
end
