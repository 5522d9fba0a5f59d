-- ===== the pure part: both pictures over one row of numbers, Z =====
theorem p_ard {n : Nat} {f : Nat → Int32} {i : Nat} (h : i < n) (hn : n < 2 ^ 31) : ard n f (nI i) = some (f i) := by
  unfold ard
  rw [if_neg (nI_in h hn), nI_clamp (by omega)]
theorem p_aup {n : Nat} {f : Nat → Int32} {i : Nat} {x : Int32} (h : i < n) (hn : n < 2 ^ 31) : aup n f (nI i) x = some (upd f i x) := by
  unfold aup
  rw [if_neg (nI_in h hn), nI_clamp (by omega)]
theorem p_nar {b : Nat} (h : b ≤ 1) : vp_nar .boolean (nI b) = nI b := by
  rcases (show b = 0 ∨ b = 1 by omega) with rfl | rfl <;> rfl
theorem p_aupz {n : Nat} {f : Nat → Int32} {i b : Nat} (h : i < n) (hn : n < 2 ^ 31) (hb : b ≤ 1) : aupz n f (nI i) (nI b) = some (upd f i (nI b)) := by
  unfold aupz
  rw [if_neg (nI_in h hn), nI_clamp (by omega), p_nar hb]
theorem p_entry {n : Nat} {f : Nat → Int32} {i : Nat} (h : i < n) (hn : n < 2 ^ 31) : f_X5_entry n f (nI i) = some (f i) := by
  unfold f_X5_entry
  rw [if_neg (nI_pos (by omega))]
  show (if nI i < nI n then _ else _) = _
  rw [if_pos (nI_lt h hn), p_ard h hn]; rfl
theorem p_slot {i : Nat} (h : i < 4) : f_X5_isSlot (nI i) = some 1 := by
  rcases (show i = 0 ∨ i = 1 ∨ i = 2 ∨ i = 3 by omega) with rfl | rfl | rfl | rfl <;> rfl
theorem p_slot_m1 : f_X5_isSlot (-1) = some 0 := rfl
theorem p_bck0 : bck 0 = some 0 := rfl
theorem p_bck1 : bck 1 = some 1 := rfl
theorem FUs : FU = 1000 := rfl
-- the row
def gt (Z : Nat → Nat) (s j : Nat) : Nat := if Z (9 * s) = 1 then Z (9 * s + j) else 0
def gs (Z : Nat → Nat) (s : Nat) : Nat := if Z (9 * s) = 1 ∧ Z (9 * s + 4) = 0 then Z (9 * s + 1) else 0
def roomA (Z : Nat → Nat) : Nat := Z 36 + Z 37
def roomB (Z : Nat → Nat) : Nat := Z 38 + Z 39
def lesN (Z : Nat → Nat) : Nat := min (roomA Z) (roomB Z)
/-- kind and one: 0 no map, 1 wide, 2 narrow, 3 mirrored -/
def blkN (Z : Nat → Nat) : Nat := if Z 40 = 0 then 0 else if Z 40 = 3 then lesN Z else roomA Z + roomB Z
def wideN (Z : Nat → Nat) : Nat := if Z 40 = 1 then 2 * lesN Z else 0
def chN (Z : Nat → Nat) (b : Nat) : Nat :=
  if Z 40 = 3 then 0 else if Z 40 = 2 then (if b < roomA Z then 0 else 1) else if b < wideN Z then b % 2 else if roomB Z < roomA Z then 0 else 1
def ixN (Z : Nat → Nat) (b : Nat) : Nat :=
  if Z 40 = 3 then b else if Z 40 = 2 then (if b < roomA Z then b else b - roomA Z) else if b < wideN Z then b / 2 else b - lesN Z
def slN (Z : Nat → Nat) (c i : Nat) : Nat := if i < Z (36 + 2 * c) then 2 * c else 2 * c + 1
def nuN (Z : Nat → Nat) (c i : Nat) : Nat := if i < Z (36 + 2 * c) then i else i - Z (36 + 2 * c)
def slotN (Z : Nat → Nat) (b : Nat) : Nat := slN Z (chN Z b) (ixN Z b)
def numN (Z : Nat → Nat) (b : Nat) : Nat := nuN Z (chN Z b) (ixN Z b)
abbrev leftN (Z : Nat → Nat) (s : Nat) : Prop := Z (9 * s + 5) = 1 ∧ Z (9 * s + 4) = 0
/-- a stick is left for the block -/
abbrev canN (Z : Nat → Nat) (b : Nat) : Prop := leftN Z (slotN Z b) ∨ (Z 40 = 3 ∧ leftN Z (slN Z 1 b))
def rsN (Z : Nat → Nat) (b : Nat) : Nat := if leftN Z (slotN Z b) then slotN Z b else slN Z 1 b
def rnN (Z : Nat → Nat) (b : Nat) : Nat := if leftN Z (slotN Z b) then numN Z b else nuN Z 1 b
def rkN (Z : Nat → Nat) (s n : Nat) : Nat := if Z (9 * s + 2) = 2 then n % 2 else 0
/-- what the row holds, up to the number T -/
def WF (T : Nat) (Z : Nat → Nat) : Prop :=
  (∀ s, s < 4 → Z (9 * s) ≤ 1 ∧ Z (9 * s + 1) ≤ 12 ∧ Z (9 * s + 2) ≤ 2 ∧ Z (9 * s + 3) ≤ 9 ∧ Z (9 * s + 4) ≤ 1 ∧ Z (9 * s + 5) ≤ 1 ∧ (Z (9 * s + 5) = 1 → Z (9 * s) = 1) ∧ Z (9 * s + 6) ≤ Z 41 + 9 ∧ Z (9 * s + 7) ≤ Z 41 + 9 ∧ Z (9 * s + 8) ≤ T ∧ Z (36 + s) ≤ 12 ∧ (Z (9 * s) = 1 → 1 ≤ Z (9 * s + 1))) ∧
  Z 40 ≤ 3 ∧ (Z 40 = 0 → ∀ s, s < 4 → Z (36 + s) = 0 ∧ Z (9 * s + 5) = 0) ∧ Z 41 ≤ T ∧ Z 42 ≤ T ∧ Z 43 ≤ T ∧ Z 44 ≤ T ∧ Z 45 ≤ T ∧ Z 46 ≤ 2 ∧ Z 47 ≤ 1 ∧ (∀ k, 48 ≤ k → k < 96 → Z k ≤ 99) ∧
  (Z 40 = 3 → ∀ b, b < blkN Z → Z (48 + 12 * slotN Z b + numN Z b) = Z (48 + 12 * slN Z 1 b + nuN Z 1 b))
-- the reference's row
def kI (k : Nat) : Int32 := nI k - 1
-- the class's parts
def RK (sk : VSk) (Z : Nat → Nat) : Prop := ∀ s, s < 4 → sk.1 s = nI (gt Z s 1) ∧ sk.2.1 s = nI (gt Z s 2) ∧ sk.2.2.1 s = nI (gt Z s 3) ∧ sk.2.2.2.1 s = nI (gt Z s 8) ∧ sk.2.2.2.2.1 s = nI (gt Z s 4) ∧ sk.2.2.2.2.2 s = nI (Z (9 * s + 5))
def RLy (ly : VLy) (Z : Nat → Nat) : Prop := ly.1 = kI (Z 40) ∧ (∀ s, s < 4 → ly.2.1 s = nI (Z (36 + s))) ∧ ly.2.2.1 = nI (roomA Z) ∧ ly.2.2.2.1 = nI (roomB Z) ∧ ly.2.2.2.2.1 = nI (lesN Z) ∧ ly.2.2.2.2.2.1 = nI (blkN Z) ∧ ly.2.2.2.2.2.2 = nI (wideN Z)
def RC (ck : VCk) (Z : Nat → Nat) : Prop := (∀ s, s < 4 → ck.1 (2 * s) = nI (Z (9 * s + 6)) ∧ ck.1 (2 * s + 1) = nI (Z (9 * s + 7))) ∧ ck.2.1 = nI (Z 41) ∧ ck.2.2 = nI (Z 44)
def RV (vl : Nat → Int32) (Z : Nat → Nat) : Prop := ∀ b, b < blkN Z → vl b = nI (Z (48 + 12 * slotN Z b + numN Z b))
def RI (v : VI5) (Z : Nat → Nat) : Prop := v.1 = nI (Z 46) ∧ v.2.1 = nI (Z 47) ∧ v.2.2.1 = nI (Z 42) ∧ v.2.2.2.1 = nI (Z 43) ∧ v.2.2.2.2 = nI (Z 45)
def RS (st : VSt) (Z : Nat → Nat) : Prop := RK st.1 Z ∧ RLy st.2.1 Z ∧ RC st.2.2.1 Z ∧ RV st.2.2.2.1 Z ∧ RI st.2.2.2.2 Z
-- kinds
theorem kind_cases {k : Nat} (h : k ≤ 3) : k = 0 ∨ k = 1 ∨ k = 2 ∨ k = 3 := by omega
theorem slot_cases {s : Nat} (h : s < 4) : s = 0 ∨ s = 1 ∨ s = 2 ∨ s = 3 := by omega
theorem kI_0 {k : Nat} (h : k ≤ 3) : (kI k = nI 0) ↔ k = 1 := by rcases kind_cases h with rfl | rfl | rfl | rfl <;> decide
theorem kI_1 {k : Nat} (h : k ≤ 3) : (kI k = nI 1) ↔ k = 2 := by rcases kind_cases h with rfl | rfl | rfl | rfl <;> decide
theorem kI_2 {k : Nat} (h : k ≤ 3) : (kI k = nI 2) ↔ k = 3 := by rcases kind_cases h with rfl | rfl | rfl | rfl <;> decide
theorem kI_m {k : Nat} (h : k ≤ 3) : (kI k = -1) ↔ k = 0 := by rcases kind_cases h with rfl | rfl | rfl | rfl <;> decide
theorem WF.mp {T : Nat} {Z : Nat → Nat} (h : WF T Z) : Z 36 ≤ 12 ∧ Z 37 ≤ 12 ∧ Z 38 ≤ 12 ∧ Z 39 ≤ 12 :=
  ⟨(h.1 0 (by omega)).2.2.2.2.2.2.2.2.2.2.1, (h.1 1 (by omega)).2.2.2.2.2.2.2.2.2.2.1, (h.1 2 (by omega)).2.2.2.2.2.2.2.2.2.2.1, (h.1 3 (by omega)).2.2.2.2.2.2.2.2.2.2.1⟩
theorem WF.room {T : Nat} {Z : Nat → Nat} (h : WF T Z) : roomA Z ≤ 24 ∧ roomB Z ≤ 24 := by
  have := h.mp
  unfold roomA roomB
  omega
theorem lesN_le (Z : Nat → Nat) : lesN Z ≤ roomA Z ∧ lesN Z ≤ roomB Z ∧ (lesN Z = roomA Z ∨ lesN Z = roomB Z) := by unfold lesN; omega
theorem WF.blk {T : Nat} {Z : Nat → Nat} (h : WF T Z) : blkN Z ≤ 48 ∧ wideN Z ≤ 48 ∧ lesN Z ≤ 24 := by
  have := h.room
  have := lesN_le Z
  unfold blkN wideN
  refine ⟨?_, ?_, by omega⟩
  · split
    · omega
    · split <;> omega
  · split <;> omega
def bI (b : Bool) : Int32 := if b then nI 1 else nI 0
theorem i0 : (0 : Int32) = nI 0 := rfl
theorem i1 : (1 : Int32) = nI 1 := rfl
theorem i2 : (2 : Int32) = nI 2 := rfl
theorem i3 : (3 : Int32) = nI 3 := rfl
theorem i4 : (4 : Int32) = nI 4 := rfl
theorem e_and {n : Nat} (h : n < 2 ^ 32) : nI n &&& nI 1 = nI (n % 2) := pk_andN h 1 (by decide)
theorem sn_if {c : Prop} [Decidable c] (a b : Nat) : (if c then some (nI a) else some (nI b)) = some (nI (if c then a else b)) := by split <;> rfl
theorem bo_if (c : Prop) [Decidable c] : (if c then some (nI 1) else some (nI 0)) = some (bI (decide c)) := by by_cases h : c <;> simp [h, bI]
theorem bI_0 (b : Bool) : (bI b = nI 0) ↔ b = false := by cases b <;> decide
theorem bI_1 (b : Bool) : (bI b = nI 1) ↔ b = true := by cases b <;> decide
theorem sn_eq {a b : Nat} (h : a = b) : some (nI a) = some (nI b) := by rw [h]
-- ===== the layout: class =====
section
variable {T : Nat} {Z : Nat → Nat} {ly : VLy} {b : Nat}
theorem l_mir (hT : Z 40 ≤ 3) (h : RLy ly Z) : f_X1_isMirrored ly = some (bI (decide (Z 40 = 3))) := by
  unfold f_X1_isMirrored
  rw [h.1]
  simp only [i2, kI_2 hT, i0, i1, bo_if]
theorem l_chan (W : WF T Z) (h : RLy ly Z) (hb : b < blkN Z) : f_X1_channelOf ly (nI b) = some (nI (chN Z b)) := by
  have hr := W.room
  have hk := W.2.1
  have hbl := W.blk
  unfold f_X1_channelOf
  rw [h.1, h.2.2.1, h.2.2.2.1, h.2.2.2.2.2.2]
  simp (discharger := omega) only [i0, i1, i2, nI_ltI, e_and, kI_0, kI_2 hk, sn_if]
  apply sn_eq
  unfold chN
  unfold blkN at hb
  unfold wideN at *
  rcases kind_cases hk with e | e | e | e <;> simp [e] at hb ⊢
  all_goals (repeat' split)
  all_goals omega
theorem l_ix (W : WF T Z) (h : RLy ly Z) (hb : b < blkN Z) : f_X1_indexOf ly (nI b) = some (nI (ixN Z b)) := by
  have hr := W.room
  have hk := W.2.1
  have hbl := W.blk
  unfold f_X1_indexOf
  rw [h.1, h.2.2.1, h.2.2.2.2.1, h.2.2.2.2.2.2]
  simp (discharger := omega) only [i0, i1, i2, nI_ltI, pk_div, kI_0, kI_2 hk]
  unfold ixN
  unfold blkN at hb
  unfold wideN at *
  rcases kind_cases hk with e | e | e | e <;> simp [e] at hb ⊢
  all_goals (repeat' split)
  all_goals (try rfl)
  all_goals (first | (exfalso; omega) | (rw [pk_sub (by omega)]))
theorem ch_le (Z : Nat → Nat) (b : Nat) : chN Z b ≤ 1 := by
  unfold chN
  repeat' split
  all_goals omega
theorem ix_lt (Z : Nat → Nat) (b : Nat) : ixN Z b ≤ b := by
  unfold ixN
  repeat' split
  all_goals omega
theorem l_slotAt (W : WF T Z) (h : RLy ly Z) {c i : Nat} (hc : c ≤ 1) (hi : i < 2 ^ 30) : f_X1_slotAt ly (nI c) (nI i) = some (nI (slN Z c i)) := by
  have hm := W.mp
  unfold f_X1_slotAt slN
  rcases (show c = 0 ∨ c = 1 by omega) with rfl | rfl
  all_goals simp (discharger := omega) only [i0, i1, i2, i3, p_ard, Option.bind_some, h.2.1, nI_eq, Nat.reduceAdd]
  all_goals simp (discharger := omega) [nI_ltI, sn_if]
theorem l_numAt (W : WF T Z) (h : RLy ly Z) {c i : Nat} (hc : c ≤ 1) (hi : i < 2 ^ 30) : f_X1_numberAt ly (nI c) (nI i) = some (nI (nuN Z c i)) := by
  have hm := W.mp
  unfold f_X1_numberAt nuN b_X1_numberAt_19
  rcases (show c = 0 ∨ c = 1 by omega) with rfl | rfl
  all_goals simp (discharger := omega) only [i0, i1, i2, i3, p_ard, Option.bind_some, h.2.1, nI_eq, Nat.reduceAdd]
  all_goals simp (discharger := omega) [nI_ltI]
  all_goals split
  all_goals first | rfl | rw [pk_sub (by omega)]
theorem l_slot (W : WF T Z) (h : RLy ly Z) (hb : b < blkN Z) : f_X1_slotOf ly (nI b) = some (nI (slotN Z b)) := by
  have hbl := W.blk
  have := ix_lt Z b
  unfold f_X1_slotOf
  rw [l_chan W h hb, Option.bind_some, l_ix W h hb, Option.bind_some, l_slotAt W h (ch_le Z b) (by omega)]; rfl
theorem l_num (W : WF T Z) (h : RLy ly Z) (hb : b < blkN Z) : f_X1_numberOf ly (nI b) = some (nI (numN Z b)) := by
  have hbl := W.blk
  have := ix_lt Z b
  unfold f_X1_numberOf
  rw [l_chan W h hb, Option.bind_some, l_ix W h hb, Option.bind_some, l_numAt W h (ch_le Z b) (by omega)]; rfl
end
