-- ===== every block lies where the law has it, every place holds what the law has there =====
section
variable {T : Nat} {Z Y : Nat → Nat} {g k p q v : Nat → Int32} {c : VC} {s n a b d i r m j : Nat}
theorem mI_lt0 : mI < nI 0 := mI_neg
theorem ab_264 {K : Int32 → Int32 → Int32 → Int32 → Option Int32} {u : VRw} {s6 s7 s8 : Int32} {x : Int32} : b_L_areBlocks_264 c u K s6 s7 s8 (nI b) x x = K s6 s7 s8 (nI (b + 1)) := by
  unfold b_L_areBlocks_264
  rw [if_pos rfl, i1, nI_add]
theorem ab_243 {K : Int32 → Int32 → Int32 → Int32 → Option Int32} {u : VRw} {s6 s7 s8 : Int32} {x : Int32} (h : IvC T c Z) (hb : b < blkN Z) : b_L_areBlocks_243 c u K s6 s7 s8 (nI b) (bI (decide (canN Z b))) x x = K s6 s7 s8 (nI (b + 1)) := by
  unfold b_L_areBlocks_243
  rw [if_pos rfl, i6, q_where h hb (by omega), Option.bind_some]
  show (if bI (decide (canN Z b)) = 0 then b_L_areBlocks_264 c u K s6 s7 s8 (nI b) 0 (bI (decide (canN Z b))) else b_L_areBlocks_264 c u K s6 s7 s8 (nI b) 1 (bI (decide (canN Z b)))) = _
  by_cases e : canN Z b
  · rw [if_neg (bI_t e), bI_T e, ab_264]
  · rw [if_pos (bI_f e), bI_f e, ab_264]
theorem bn_4 (hb : b < blkN Z) : bnI Z b 4 = if Z 40 = 3 then nI (slN Z 1 b) else mI := rfl
theorem bn_5 (hb : b < blkN Z) : bnI Z b 5 = if Z 40 = 3 then nI (nuN Z 1 b) else mI := rfl
theorem ab_218 {K : Int32 → Int32 → Int32 → Int32 → Option Int32} {u : VRw} {s6 s7 : Int32} {x : Int32} (h : IvC T c Z) (hb : b < blkN Z) : b_L_areBlocks_218 c u K s6 s7 mI (nI b) (bI (decide (canN Z b))) (qI Z b) x x = K s6 s7 mI (nI (b + 1)) := by
  unfold b_L_areBlocks_218
  have h243 := fun y => ab_243 (K := K) (u := u) (s6 := s6) (s7 := s7) (s8 := mI) (x := y) h hb
  rw [if_pos rfl, i5, q_where h hb (by omega), Option.bind_some, bn_5 hb]
  by_cases e : Z 40 = 3
  · have h1 := qN_lt h.1 hb e
    have h2 := num2_lt h.1 hb e
    have hqq : qI Z b = nI (qN Z b) := by unfold qI; rw [if_pos ⟨hb, e⟩]
    rw [if_pos e, hqq, i0, if_neg (nI_nlt (Nat.zero_le _) (by omega)), i12, pk_rem (by omega) (by omega) (by omega), show qN Z b % 12 = nuN Z 1 b by unfold qN; omega, h243]
  · have hqq : qI Z b = mI := by unfold qI; rw [if_neg (fun z => e z.2)]
    rw [if_neg e, hqq, if_pos mI_neg, h243]
theorem ab_193 {K : Int32 → Int32 → Int32 → Int32 → Option Int32} {u : VRw} {s6 s7 : Int32} {x : Int32} (h : IvC T c Z) (hb : b < blkN Z) : b_L_areBlocks_193 c u K s6 s7 mI (nI b) (bI (decide (canN Z b))) (qI Z b) x x = K s6 s7 mI (nI (b + 1)) := by
  have hq218 := fun y => ab_218 (K := K) (u := u) (s6 := s6) (s7 := s7) (x := y) h hb
  unfold b_L_areBlocks_193
  rw [if_pos rfl, i4, q_where h hb (by omega), Option.bind_some, bn_4 hb]
  by_cases e : Z 40 = 3
  · have h1 := qN_lt h.1 hb e
    have h2 := num2_lt h.1 hb e
    have hqq : qI Z b = nI (qN Z b) := by unfold qI; rw [if_pos ⟨hb, e⟩]
    rw [if_pos e, hqq, i0, if_neg (nI_nlt (Nat.zero_le _) (by omega)), i12, pk_div (by omega) (by omega) (by omega), show qN Z b / 12 = slN Z 1 b by unfold qN; omega, ← hqq, hq218]
  · have hqq : qI Z b = mI := by unfold qI; rw [if_neg (fun z => e z.2)]
    rw [if_neg e, hqq, if_pos mI_neg, ← hqq, hqq]
    have := hq218 mI
    rw [hqq] at this
    exact this
theorem ab_158 {K : Int32 → Int32 → Int32 → Int32 → Option Int32} {s6 s7 : Int32} {x : Int32} (h : IvC T c Z) (hg : RGg g Z) (hb : b < blkN Z) : b_L_areBlocks_158 c (g, k, p, q, v) K s6 s7 mI (nI b) (bI (decide (canN Z b))) (qI Z b) x x = K s6 s7 mI (nI (b + 1)) := by
  have hbl := h.1.blk
  unfold b_L_areBlocks_158
  dsimp only
  rw [if_pos rfl, i3, q_where h hb (by omega), Option.bind_some, i9, p_ard (by omega) (by omega), Option.bind_some, hg.2.2.2.2.2.2.2.2.2, i1, p_ard (by omega) (by omega), Option.bind_some, hg.2.1, i2, i0]
  simp (discharger := omega) only [nI_ltI, kI_2 h.1.2.1]
  have e3 : bnI Z b 3 = if Z 40 = 3 then nI 2 else if b < wideN Z then nI 1 else nI 0 := rfl
  rw [e3]
  by_cases e : Z 40 = 3
  · rw [if_pos e, if_pos e, ab_193 h hb]
  · rw [if_neg e, if_neg e]
    by_cases e2 : b < wideN Z
    · rw [if_pos e2, if_pos e2, ab_193 h hb]
    · rw [if_neg e2, if_neg e2, ab_193 h hb]
theorem ab_85 {K : Int32 → Int32 → Int32 → Int32 → Option Int32} {s6 t0 t1 : Int32} (h : IvC T c Z) (hu : RG (g, k, p, q, v) Z) (hb : b < blkN Z) : b_L_areBlocks_85 c (g, k, p, q, v) K s6 mI (nI b) (bI (decide (canN Z b))) (nI (slotN Z b)) (qI Z b) t0 t1 = K s6 (t1 + t0) mI (nI (b + 1)) := by
  obtain ⟨hg, hk, hp, hq, hv⟩ := hu
  dsimp only at hg hk hp hq hv
  have W := h.1
  have hbl := W.blk
  have hs := slot_lt Z b
  have hn := num_lt W hb
  have hpl := pN_lt W hb
  obtain ⟨w0, w1, w2, w3, w4, w5, w6, w7, w8, w9, w10, w11⟩ := W.1 _ hs
  obtain ⟨-, -, h4, -⟩ := hk _ hs
  unfold b_L_areBlocks_85
  dsimp only
  rw [i0, q_where h hb (by omega), Option.bind_some]
  have e0 : bnI Z b 0 = nI (slotN Z b) := rfl
  have e1 : bnI Z b 1 = nI (numN Z b) := rfl
  have e2 : bnI Z b 2 = if Z (9 * slotN Z b + 5) = 1 then nI (rkN Z (slotN Z b) (numN Z b)) else mI := rfl
  rw [e0, if_pos rfl, i1, q_where h hb (by omega), Option.bind_some, t_p hp hb (by omega), Option.bind_some, i12, pk_rem (by omega) (by omega) (by omega), show pN Z b % 12 = numN Z b by unfold pN; omega, e1, if_pos rfl, i2, q_where h hb (by omega), Option.bind_some, e2, i8, pk_mul, i4, nI_add, p_ard (by omega) (by omega), Option.bind_some, h4, Option.bind_some]
  simp (discharger := omega) only [nI_eq]
  by_cases e : Z (9 * slotN Z b + 5) = 1
  · have htr := tl_rank W hk hs (w6 e) hn
    have hpn : nI (pN Z b) = nI (12 * slotN Z b + numN Z b) := rfl
    rw [if_pos e, if_pos e, hpn, htr, Option.bind_some, i5, pk_sub (by omega), pk_sub (by omega), show 8 * slotN Z b + 5 + rkN Z (slotN Z b) (numN Z b) - 8 * slotN Z b - 5 = rkN Z (slotN Z b) (numN Z b) by omega, ab_158 h hg hb]
  · rw [if_neg e, if_neg e, ab_158 h hg hb]
theorem ab_L (h : IvC T c Z) (hu : RG (g, k, p, q, v) Z) (hb : b < blkN Z) : l_L_areBlocks_12 c (g, k, p, q, v) (n + 1) (nI a) (nI d) mI (nI b) = l_L_areBlocks_12 c (g, k, p, q, v) n (nI (a + if canN Z b then 0 else 1)) (nI (d + if canN Z b then Z (48 + 12 * slotN Z b + numN Z b) else 0)) mI (nI (b + 1)) := by
  have hu0 := hu
  obtain ⟨hg, hk, hp, hq, hv⟩ := hu
  dsimp only at hg hk hp hq hv
  have W := h.1
  have hbl := W.blk
  have hs := slot_lt Z b
  have hn := num_lt W hb
  have hpl := pN_lt W hb
  have ediv : nI (pN Z b) / nI 12 = nI (slotN Z b) := by rw [pk_div (by omega) (by omega) (by omega), show pN Z b / 12 = slotN Z b by unfold pN; omega]
  rw [l_L_areBlocks_12]
  dsimp only
  rw [i0, p_ard (by omega) (by omega), Option.bind_some, hg.1, if_pos (nI_lt hb (by omega)), t_can W hk hp hq hb, Option.bind_some, t_p hp hb (by omega), Option.bind_some, t_q hq (by omega), Option.bind_some, i12, ediv]
  unfold b_L_areBlocks_59
  dsimp only
  by_cases e : canN Z b
  · rw [if_neg (bI_tn e), if_neg (bI_t e), t_readAt W hk hp hq hb e, Option.bind_some, t_val W hv hb e, Option.bind_some, ab_85 h hu0 hb, if_pos e, if_pos e, nI_add, nI_add]
  · rw [if_pos (bI_fn e), if_pos (bI_f e), i0, ab_85 h hu0 hb, if_neg e, if_neg e, i1, nI_add, nI_add]
-- places
def BN (Z : Nat → Nat) (s n : Nat) : Nat := if bkI Z s n = mI then 100 else bkN Z s n
theorem BN_iff (W : WF T Z) (hs : s < 4) (hn : n < 12) (hb : b < blkN Z) : bkI Z s n = nI b ↔ b = BN Z s n := by
  have hbl := W.blk
  have hlt := bkN_lt W hs hn
  unfold BN
  rcases bkI_cases W hs hn with e | ⟨h1, h2, e⟩
  · rw [if_pos e, e]
    exact ⟨fun z => absurd z.symm (nI_mI (by omega)), fun z => by omega⟩
  · rw [if_neg (by rw [e]; exact nI_mI (by omega)), e]
    constructor
    · intro z; exact ((nI_eq (by omega) (by omega)).mp z).symm
    · intro z; rw [z]
theorem BN_end (W : WF T Z) (hs : s < 4) (hn : n < 12) : (if BN Z s n < blkN Z then nI (BN Z s n) else mI) = bkI Z s n := by
  have hbl := W.blk
  have hlt := bkN_lt W hs hn
  unfold BN
  rcases bkI_cases W hs hn with e | ⟨h1, h2, e⟩
  · rw [if_pos e, e, if_neg (by omega)]
  · have := (bk_to W hs h1 h2).1
    have ne : bkI Z s n ≠ mI := by rw [e]; exact nI_mI (by omega)
    rw [if_neg ne, if_pos this, e]
theorem pl_in {K : Int32 → Int32 → Int32 → Int32 → Option Int32} {s6 s7 : Int32} (h : IvC T c Z) (hu : RG (g, k, p, q, v) Z) (hs : s < 4) (hn : n < 12) : ∀ (e j f : Nat), j + e = blkN Z → e < f → l_L_areBlocks_292 c (g, k, p, q, v) K f s6 s7 mI (nI (12 * s + n)) (if BN Z s n < j then nI (BN Z s n) else mI) (nI j) = K s6 s7 mI (nI (12 * s + n + 1)) := by
  obtain ⟨hg, hk, hp, hq, hv⟩ := hu
  dsimp only at hg hk hp hq hv
  have W := h.1
  have hbl := W.blk
  intro e
  induction e with
  | zero =>
    intro j f hj hf
    obtain ⟨f, rfl⟩ := Nat.exists_eq_succ_of_ne_zero (show f ≠ 0 by omega)
    rw [l_L_areBlocks_292]
    dsimp only
    rw [i0, p_ard (by omega) (by omega), Option.bind_some, hg.1, if_neg (nI_nlt (by omega) (by omega)), i12, pk_rem (by omega) (by omega) (by omega), pk_div (by omega) (by omega) (by omega), show (12 * s + n) % 12 = n by omega, show (12 * s + n) / 12 = s by omega, q_lies h hs hn, Option.bind_some, show j = blkN Z by omega, BN_end W hs hn, if_pos rfl, i1, nI_add]
  | succ e ih =>
    intro j f hj hf
    obtain ⟨f, rfl⟩ := Nat.exists_eq_succ_of_ne_zero (show f ≠ 0 by omega)
    have hb : j < blkN Z := by omega
    have hpl := pN_lt W hb
    have hpi := place_iff W hs hn hb
    rw [BN_iff W hs hn hb] at hpi
    have go := ih (j + 1) f (by omega) (by omega)
    rw [l_L_areBlocks_292]
    dsimp only
    rw [i0, p_ard (by omega) (by omega), Option.bind_some, hg.1, if_pos (nI_lt hb (by omega)), t_p hp hb (by omega), Option.bind_some, t_q hq (by omega), Option.bind_some, i1, nI_add]
    simp (discharger := omega) only [nI_eq]
    by_cases e1 : pN Z j = 12 * s + n
    · have ej := hpi.mp (Or.inl e1)
      rw [if_pos e1]
      rw [if_pos (by omega), ← ej] at go
      exact go
    · rw [if_neg e1]
      by_cases e2 : Z 40 = 3 ∧ qN Z j = 12 * s + n
      · have ej := hpi.mp (Or.inr e2)
        have hqq : qI Z j = nI (qN Z j) := by unfold qI; rw [if_pos ⟨hb, e2.1⟩]
        rw [hqq, e2.2, if_pos rfl]
        rw [if_pos (by omega), ← ej] at go
        exact go
      · have ne : j ≠ BN Z s n := fun z => (hpi.mpr z).elim e1 e2
        have nq : ¬ qI Z j = nI (12 * s + n) := by
          unfold qI
          by_cases h3 : Z 40 = 3
          · have hql := qN_lt W hb h3
            rw [if_pos ⟨hb, h3⟩, nI_eq (by omega) (by omega)]
            exact fun z => e2 ⟨h3, z⟩
          · rw [if_neg (fun z => h3 z.2)]
            exact fun z => nI_mI (by omega) z.symm
        rw [if_neg nq]
        have hif : (if BN Z s n < j + 1 then nI (BN Z s n) else mI) = (if BN Z s n < j then nI (BN Z s n) else mI) := by
          by_cases z : BN Z s n < j
          · rw [if_pos z, if_pos (by omega)]
          · rw [if_neg z, if_neg (by omega)]
        rw [hif] at go
        exact go
theorem pl_out (h : IvC T c Z) (hu : RG (g, k, p, q, v) Z) : ∀ (e j f : Nat), j + e = 48 → e < f → l_L_areBlocks_278 c (g, k, p, q, v) f (nI (lostN Z (blkN Z))) (nI (sumV Z (blkN Z))) mI (nI j) = some 1 := by
  have W := h.1
  have hbl := W.blk
  intro e
  induction e with
  | zero =>
    intro j f hj hf
    obtain ⟨f, rfl⟩ := Nat.exists_eq_succ_of_ne_zero (show f ≠ 0 by omega)
    obtain ⟨n8, e8⟩ := q_count h (j := 8) (by omega)
    obtain ⟨n10, e10⟩ := q_count h (j := 10) (by omega)
    have c8 : cnI Z n8 8 = nI (lostN Z (blkN Z)) := rfl
    have c10 : cnI Z n10 10 = nI (sumV Z (blkN Z)) := rfl
    rw [l_L_areBlocks_278, i48, if_neg (nI_nlt (by omega) (by omega)), i8, e8, Option.bind_some, c8, if_pos rfl, show (10 : Int32) = nI 10 from rfl, e10, Option.bind_some, c10, if_pos rfl]
    dsimp only
    rw [show ard 10 g 0 = some (nI (blkN Z)) by rw [i0, p_ard (by omega) (by omega)]; exact congrArg some hu.1.1, Option.bind_some, q_where_n h, Option.bind_some, if_pos rfl, q_lies_012, Option.bind_some, if_pos rfl, q_lies_40, Option.bind_some, if_pos rfl]
  | succ e ih =>
    intro j f hj hf
    obtain ⟨f, rfl⟩ := Nat.exists_eq_succ_of_ne_zero (show f ≠ 0 by omega)
    have hin := pl_in (K := l_L_areBlocks_278 c (g, k, p, q, v) f) (s6 := nI (lostN Z (blkN Z))) (s7 := nI (sumV Z (blkN Z))) h hu (show j / 12 < 4 by omega) (show j % 12 < 12 by omega) (blkN Z) 0 FU (by omega) (by have : FU = 1000 := rfl; omega)
    rw [if_neg (Nat.not_lt_zero _), show 12 * (j / 12) + j % 12 = j by omega] at hin
    rw [l_L_areBlocks_278, i48, if_pos (nI_lt (by omega) (by omega))]
    exact hin.trans (ih (j + 1) f (by omega) (by omega))
theorem ab_out (h : IvC T c Z) (hu : RG (g, k, p, q, v) Z) : ∀ (e j f : Nat), j + e = blkN Z → e < f → l_L_areBlocks_12 c (g, k, p, q, v) f (nI (lostN Z j)) (nI (sumV Z j)) mI (nI j) = some 1 := by
  have W := h.1
  have hbl := W.blk
  intro e
  induction e with
  | zero =>
    intro j f hj hf
    obtain ⟨f, rfl⟩ := Nat.exists_eq_succ_of_ne_zero (show f ≠ 0 by omega)
    rw [l_L_areBlocks_12]
    dsimp only
    rw [show ard 10 g 0 = some (nI (blkN Z)) by rw [i0, p_ard (by omega) (by omega)]; exact congrArg some hu.1.1, Option.bind_some, if_neg (nI_nlt (by omega) (by omega)), show j = blkN Z by omega]
    exact pl_out h hu 48 0 FU (by omega) (by decide)
  | succ e ih =>
    intro j f hj hf
    obtain ⟨f, rfl⟩ := Nat.exists_eq_succ_of_ne_zero (show f ≠ 0 by omega)
    rw [ab_L h hu (by omega), ← lostN_s, ← sumV_s]
    exact ih (j + 1) f (by omega) (by omega)
theorem t_blocks {u : VRw} (h : IvC T c Z) (hu : RG u Z) : f_L_areBlocks c u = some 1 := by
  obtain ⟨g, k, p, q, v⟩ := u
  have hbl := h.1.blk
  exact ab_out h hu (blkN Z) 0 FU (by omega) (by have : FU = 1000 := rfl; omega)
end
