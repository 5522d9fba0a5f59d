-- ===== the law's rows over the same row of numbers, Z =====
def pN (Z : Nat → Nat) (b : Nat) : Nat := 12 * slotN Z b + numN Z b
def qN (Z : Nat → Nat) (b : Nat) : Nat := 12 * slN Z 1 b + nuN Z 1 b
def pI (Z : Nat → Nat) (b : Nat) : Int32 := if b < blkN Z then nI (pN Z b) else mI
def qI (Z : Nat → Nat) (b : Nat) : Int32 := if b < blkN Z ∧ Z 40 = 3 then nI (qN Z b) else mI
def RGg (g : Nat → Int32) (Z : Nat → Nat) : Prop := g 0 = nI (blkN Z) ∧ g 1 = nI (wideN Z) ∧ g 2 = nI (Z 41) ∧ g 3 = nI (Z 42) ∧ g 4 = nI (Z 43) ∧ g 5 = nI (Z 44) ∧ g 6 = nI (Z 45) ∧ g 7 = nI (Z 46) ∧ g 8 = nI (Z 47) ∧ g 9 = kI (Z 40)
def RGk (k : Nat → Int32) (Z : Nat → Nat) : Prop := ∀ s, s < 4 → k (8 * s) = nI (gt Z s 1) ∧ k (8 * s + 3) = nI (gt Z s 4) ∧ k (8 * s + 4) = nI (Z (9 * s + 5)) ∧ (Z (9 * s) = 1 → k (8 * s + 1) = nI (Z (9 * s + 2)) ∧ k (8 * s + 2) = nI (Z (9 * s + 3)) ∧ k (8 * s + 5) = nI (Z (9 * s + 6)) ∧ k (8 * s + 6) = nI (Z (9 * s + 7)) ∧ k (8 * s + 7) = nI (Z (9 * s + 8)))
def RGp (p : Nat → Int32) (Z : Nat → Nat) : Prop := ∀ b, b < 48 → p b = pI Z b
def RGq (q : Nat → Int32) (Z : Nat → Nat) : Prop := ∀ b, b < 48 → q b = qI Z b
def RGv (v : Nat → Int32) (Z : Nat → Nat) : Prop := ∀ b, b < blkN Z → v (pN Z b) = nI (Z (48 + 12 * slotN Z b + numN Z b)) ∧ (Z 40 = 3 → v (qN Z b) = nI (Z (48 + 12 * slN Z 1 b + nuN Z 1 b)))
def RG (v : VRw) (Z : Nat → Nat) : Prop := RGg v.1 Z ∧ RGk v.2.1 Z ∧ RGp v.2.2.1 Z ∧ RGq v.2.2.2.1 Z ∧ RGv v.2.2.2.2 Z
theorem i16 : (16 : Int32) = nI 16 := rfl
theorem i24 : (24 : Int32) = nI 24 := rfl
theorem i32 : (32 : Int32) = nI 32 := rfl
theorem mI_neg : mI < 0 := by decide
theorem bI_one {c : Prop} [Decidable c] (h : c) : bI (decide c) = nI 1 := bI_T h
section
variable {T : Nat} {Z : Nat → Nat} {g k p q v : Nat → Int32} {b s n c i : Nat}
theorem pN_lt (W : WF T Z) (hb : b < blkN Z) : pN Z b < 48 := by
  have h1 := slot_lt Z b
  have h2 := num_lt W hb
  unfold pN
  omega
theorem qN_lt (W : WF T Z) (hb : b < blkN Z) (h3 : Z 40 = 3) : qN Z b < 48 := by
  have h1 := sl_lt (Z := Z) (c := 1) (i := b) (by omega)
  have h2 := num2_lt W hb h3
  unfold qN
  omega
theorem gt4_le (W : WF T Z) (hs : s < 4) : gt Z s 4 ≤ 1 := (gt_le W hs).1
theorem t_left (W : WF T Z) (h : RGk k Z) (hs : s < 4) (hn : n < 12) : f_L_isLeft 32 k (nI (12 * s + n)) = some (bI (decide (leftN Z s))) := by
  obtain ⟨w0, w1, w2, w3, w4, w5, w6, w7, w8, w9, w10, w11⟩ := W.1 s hs
  have g4 := gt4_le W hs
  obtain ⟨h0, h3, h4, -⟩ := h s hs
  unfold f_L_isLeft
  rw [if_neg (nI_pos (by omega)), i12, pk_div (by omega) (by omega) (by omega), show (12 * s + n) / 12 = s by omega, i8, pk_mul, i4, nI_add, i3, nI_add, p_ard (by omega) (by omega), Option.bind_some, h4, i1]
  simp (discharger := omega) only [nI_eq]
  by_cases e : Z (9 * s + 5) = 1
  · rw [if_pos e, p_ard (by omega) (by omega), Option.bind_some, h3, i0]
    simp (discharger := omega) only [nI_eq]
    have eg : gt Z s 4 = Z (9 * s + 4) := if_pos (w6 e)
    rw [eg]
    by_cases e2 : Z (9 * s + 4) = 0
    · rw [if_pos e2, bI_one ⟨e, e2⟩]
    · rw [if_neg e2, bI_f (fun z => e2 z.2)]; rfl
  · rw [if_neg e, bI_f (fun z => e z.1)]
theorem t_left_m : f_L_isLeft 32 k mI = some 0 := by unfold f_L_isLeft; rw [if_pos mI_neg]
theorem t_goodL (W : WF T Z) (h : RGk k Z) (hs : s < 4) (hc : 8 * s < 16 * c + 16) (hc2 : c ≤ 1) {a : Nat} : l_L_good_7 32 k (n + 1) (nI c) (nI a) (nI (8 * s)) = l_L_good_7 32 k n (nI c) (nI (a + gs Z s)) (nI (8 * (s + 1))) := by
  obtain ⟨w0, w1, w2, w3, w4, w5, w6, w7, w8, w9, w10, w11⟩ := W.1 s hs
  have g4 := gt4_le W hs
  obtain ⟨h0, h3, -, -⟩ := h s hs
  rw [l_L_good_7, i16, pk_mul, nI_add, if_pos (nI_lt hc (by omega)), i3, nI_add, p_ard (by omega) (by omega), Option.bind_some, h3, p_ard (by omega) (by omega), Option.bind_some, h0, i0, i8, nI_add, nI_add, nI_add]
  simp (discharger := omega) only [nI_eq]
  rw [show 8 * (s + 1) = 8 * s + 8 by omega]
  unfold gt gs
  by_cases e : Z (9 * s) = 1
  · simp only [e, if_true, true_and]
    by_cases e2 : Z (9 * s + 4) = 0
    · rw [if_pos e2, if_pos e2]
    · rw [if_neg e2, if_neg e2]
  · simp only [e, if_false, false_and, if_true]
theorem t_good0 (W : WF T Z) (h : RGk k Z) : f_L_good 32 k (nI 0) = some (nI (grA Z)) := by
  unfold f_L_good
  rw [i16, pk_mul]
  show l_L_good_7 32 k (999 + 1) (nI 0) (nI 0) (nI (8 * 0)) = _
  rw [t_goodL W h (by omega) (by omega) (by omega), show (999 : Nat) = 998 + 1 from rfl, t_goodL W h (by omega) (by omega) (by omega), show (998 : Nat) = 997 + 1 from rfl, l_L_good_7, if_neg (by decide), Nat.zero_add]; rfl
theorem t_good1 (W : WF T Z) (h : RGk k Z) : f_L_good 32 k (nI 1) = some (nI (grB Z)) := by
  unfold f_L_good
  rw [i16, pk_mul]
  show l_L_good_7 32 k (999 + 1) (nI 1) (nI 0) (nI (8 * 2)) = _
  rw [t_goodL W h (by omega) (by omega) (by omega), show (999 : Nat) = 998 + 1 from rfl, t_goodL W h (by omega) (by omega) (by omega), show (998 : Nat) = 997 + 1 from rfl, l_L_good_7, if_neg (by decide), Nat.zero_add]; rfl
def grN (Z : Nat → Nat) (c : Nat) : Nat := if c = 0 then grA Z else grB Z
theorem t_good (W : WF T Z) (h : RGk k Z) (hc : c ≤ 1) : f_L_good 32 k (nI c) = some (nI (grN Z c)) := by
  unfold grN
  rcases (show c = 0 ∨ c = 1 by omega) with rfl | rfl
  · rw [if_pos rfl]; exact t_good0 W h
  · rw [if_neg (by omega)]; exact t_good1 W h
theorem t_why (W : WF T Z) (h : RGk k Z) {map : Nat} (hm : map < 2 ^ 20) : f_L_why 32 k (nI map) = some (nI (whyN Z map)) := by
  have hg := gr_le W
  have hbd : grA Z * grB Z ≤ 24 * 24 := Nat.mul_le_mul hg.1 hg.2
  unfold f_L_why b_L_why_20 whyN
  rw [i0, i1, i2, t_good0 W h, t_good1 W h, Option.bind_some, Option.bind_some, Option.bind_some, Option.bind_some, pk_mul]
  simp (discharger := omega) only [nI_eq]
  have hz : grA Z * grB Z = 0 ↔ grA Z = 0 ∨ grB Z = 0 := Nat.mul_eq_zero
  by_cases hp : grA Z * grB Z = 0
  · rw [if_pos hp]
    rcases hz.mp hp with a | a <;> by_cases a' : grA Z = 0 <;> by_cases d : grB Z = 0 <;> by_cases m : map = 2 <;> simp_all
  · rw [if_neg hp]
    have h2 : ¬ grA Z = 0 := fun z => hp (hz.mpr (Or.inl z))
    have h3 : ¬ grB Z = 0 := fun z => hp (hz.mpr (Or.inr z))
    by_cases m : map = 2 <;> simp [h2, h3, m]
theorem t_place (W : WF T Z) (h : RGk k Z) {map : Nat} (hc : c ≤ 1) (hi : i < 2 ^ 20) : f_L_place 32 k (nI c) (nI i) = some (if i < grN Z c then nI (12 * slN (mapZ Z map) c i + nuN (mapZ Z map) c i) else mI) := by
  have hs : 2 * c < 4 := by omega
  obtain ⟨w0, w1, w2, w3, w4, w5, w6, w7, w8, w9, w10, w11⟩ := W.1 (2 * c) hs
  have g4 := gt4_le W hs
  have hgs := gs_le W hs
  have hgr : grN Z c ≤ 24 := by have := gr_le W; unfold grN; split <;> omega
  obtain ⟨h0, h3, -, -⟩ := h (2 * c) hs
  have e21 : ∀ t, t < 13 → b_L_place_21 32 k (nI c) (nI i) (nI t) = some (if i < grN Z c then nI (12 * (if i < t then 2 * c else 2 * c + 1) + (if i < t then i else i - t)) else mI) := by
    intro t ht
    unfold b_L_place_21
    rw [t_good W h hc, Option.bind_some, i24, i12, pk_mul, nI_add, nI_add, nI_add]
    simp (discharger := omega) only [nI_ltI]
    by_cases e : i < grN Z c
    · rw [if_pos e, if_pos e]
      by_cases e2 : i < t
      · rw [if_pos e2, if_pos e2, if_pos e2]
        congr 2
        omega
      · rw [if_neg e2, if_neg e2, if_neg e2, pk_sub (by omega)]
        congr 2
        omega
    · rw [if_neg e, if_neg e]; rfl
  unfold f_L_place
  rw [i16, pk_mul, i3, nI_add, show 16 * c = 8 * (2 * c) by omega, p_ard (by omega) (by omega), Option.bind_some, h3, p_ard (by omega) (by omega), Option.bind_some, h0, i0]
  simp (discharger := omega) only [nI_eq]
  have hsl : slN (mapZ Z map) c i = if i < gs Z (2 * c) then 2 * c else 2 * c + 1 := by unfold slN; rw [mp_mp hs]
  have hnu : nuN (mapZ Z map) c i = if i < gs Z (2 * c) then i else i - gs Z (2 * c) := by unfold nuN; rw [mp_mp hs]
  rw [hsl, hnu]
  have hgt : (if gt Z (2 * c) 4 = 0 then b_L_place_21 32 k (nI c) (nI i) (nI (gt Z (2 * c) 1)) else b_L_place_21 32 k (nI c) (nI i) (nI 0)) = b_L_place_21 32 k (nI c) (nI i) (nI (gs Z (2 * c))) := by
    unfold gt gs
    by_cases e : Z (9 * (2 * c)) = 1
    · simp only [e, if_true, true_and]
      by_cases e2 : Z (9 * (2 * c) + 4) = 0
      · rw [if_pos e2, if_pos e2]
      · rw [if_neg e2, if_neg e2]
    · simp only [e, if_false, false_and, if_true]
  rw [hgt, e21 _ (by omega)]
theorem tl_rank (W : WF T Z) (h : RGk k Z) (hs : s < 4) (hp : Z (9 * s) = 1) (hn : n < 12) : f_L_rank 32 k (nI (12 * s + n)) = some (nI (8 * s + 5 + rkN Z s n)) := by
  obtain ⟨w0, w1, w2, w3, w4, w5, w6, w7, w8, w9, w10, w11⟩ := W.1 s hs
  obtain ⟨-, -, -, h1⟩ := h s hs
  unfold f_L_rank rkN
  rw [i12, pk_rem (by omega) (by omega) (by omega), i2, pk_rem (by omega) (by omega) (by omega), pk_div (by omega) (by omega) (by omega), show (12 * s + n) / 12 = s by omega, show (12 * s + n) % 12 = n by omega, i8, pk_mul, i1, nI_add, p_ard (by omega) (by omega), Option.bind_some, (h1 hp).1, i5, nI_add, nI_add, i0, nI_add]
  simp (discharger := omega) only [nI_eq]
  by_cases e : Z (9 * s + 2) = 2
  · rw [if_pos e, if_pos e]
  · rw [if_neg e, if_neg e]
theorem t_p (h : RGp p Z) (hb : b < blkN Z) (hb2 : b < 48) : ard 48 p (nI b) = some (nI (pN Z b)) := by
  rw [p_ard hb2 (by omega), h b hb2]
  unfold pI
  rw [if_pos hb]
theorem t_q (h : RGq q Z) (hb2 : b < 48) : ard 48 q (nI b) = some (qI Z b) := by
  rw [p_ard hb2 (by omega), h b hb2]
theorem t_leftq (W : WF T Z) (h : RGk k Z) (hb : b < blkN Z) : f_L_isLeft 32 k (qI Z b) = some (bI (decide (Z 40 = 3 ∧ leftN Z (slN Z 1 b)))) := by
  unfold qI
  by_cases e : Z 40 = 3
  · rw [if_pos ⟨hb, e⟩]
    unfold qN
    rw [t_left W h (sl_lt (by omega)) (num2_lt W hb e)]
    simp only [e, true_and]
  · rw [if_neg (fun z => e z.2), t_left_m, bI_f (fun z => e z.1)]
theorem t_can (W : WF T Z) (hk : RGk k Z) (hp : RGp p Z) (hq : RGq q Z) (hb : b < blkN Z) : f_L_can 32 k 48 p 48 q (nI b) = some (bI (decide (canN Z b))) := by
  have hbl := W.blk
  unfold f_L_can
  rw [t_p hp hb (by omega), Option.bind_some]
  unfold pN
  rw [t_left W hk (slot_lt Z b) (num_lt W hb), Option.bind_some, t_q hq (by omega), Option.bind_some, t_leftq W hk hb, Option.bind_some]
  by_cases e : leftN Z (slotN Z b)
  · rw [if_neg (bI_t e), bI_T (Or.inl e)]
  · rw [if_pos (bI_f e)]
    by_cases e2 : Z 40 = 3 ∧ leftN Z (slN Z 1 b)
    · rw [if_neg (bI_t e2), bI_T (Or.inr e2)]
    · rw [if_pos (bI_f e2), bI_f (fun z => z.elim e e2)]
theorem t_readAt (W : WF T Z) (hk : RGk k Z) (hp : RGp p Z) (hq : RGq q Z) (hb : b < blkN Z) (hc : canN Z b) : f_L_readAt 32 k 48 p 48 q (nI b) = some (nI (12 * rsN Z b + rnN Z b)) := by
  have hbl := W.blk
  unfold f_L_readAt rsN rnN
  rw [t_p hp hb (by omega), Option.bind_some, Option.bind_some]
  unfold pN
  rw [t_left W hk (slot_lt Z b) (num_lt W hb), Option.bind_some, t_q hq (by omega), Option.bind_some]
  by_cases e : leftN Z (slotN Z b)
  · rw [if_neg (bI_t e), if_pos e, if_pos e]
  · rw [if_pos (bI_f e), if_neg e, if_neg e]
    unfold qI qN
    rw [if_pos ⟨hb, hc.elim (fun z => absurd z e) (fun z => z.1)⟩]
end
theorem t_low (x : Int32) {n : Nat} (h0 : 0 < n) (hn : n < 2 ^ 20) : ∃ j, j < n ∧ f_L_low x (nI n) = some (nI j) := by
  obtain ⟨j, hj, e⟩ := pk_andE x (m := 2147483647) 31 (by decide)
  refine ⟨j % n, Nat.mod_lt _ h0, ?_⟩
  unfold f_L_low nzk
  rw [if_neg (nI_ne0 h0 (by omega)), Option.bind_some, e, pk_rem (by omega) h0 (by omega)]
