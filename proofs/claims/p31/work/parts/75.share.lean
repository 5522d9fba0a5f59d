-- ===== wideShare, meanTicks =====
def shX (Z : Nat → Nat) : UInt64 := if blkN Z = 0 then FP.dconst0 else FP.ddiv (FP.i2d (nI (wideN Z))) (FP.i2d (nI (blkN Z)))
def mnX (Z : Nat → Nat) : UInt32 := if Z 42 = 0 then FP.fconst0 else FP.fdiv (FP.i2f (nI (Z 41))) (FP.i2f (nI (Z 42)))
section
variable {T : Nat} {Z : Nat → Nat} {c : VC}
theorem shX_no (W : WF T Z) : FP.Core.val64 (shX Z) ≠ .nan := by
  have hbl := W.blk
  unfold shX
  by_cases e : blkN Z = 0
  · rw [if_pos e]
    show FP.Core.val64 FP.Core.dconst0 ≠ .nan
    rw [FP.Core.val64_dconst0]
    exact fun q => by cases q
  · rw [if_neg e, d_quot (by omega) (by omega) (by omega)]
    exact rr_no
theorem mnX_no (W : WF T Z) (hT : T < 2 ^ 24) : FP.Core.val32 (mnX Z) ≠ .nan := by
  have h41 : Z 41 ≤ T := W.2.2.2.1
  have h42 : Z 42 ≤ T := W.2.2.2.2.1
  unfold mnX
  by_cases e : Z 42 = 0
  · rw [if_pos e]
    show FP.Core.val32 FP.Core.fconst0 ≠ .nan
    rw [FP.Core.val32_fconst0]
    exact fun q => by cases q
  · rw [if_neg e, f_quot (by omega) (by omega) (by omega)]
    exact rr_no
theorem c_share (W : WF T Z) (h : RLy (c.2.1 0) Z) : f_X5_wideShare c = some (shX Z) := by
  have hbl := W.blk
  have hno := shX_no W
  unfold f_X5_wideShare
  rw [h.2.2.2.2.2.1, h.2.2.2.2.2.2, i0]
  simp (discharger := omega) only [nI_eq]
  unfold shX at hno ⊢
  by_cases e : blkN Z = 0
  · rw [if_pos e, if_pos e]
  · rw [if_neg e] at hno
    rw [if_neg e, if_neg e, dck_ok hno]; rfl
theorem c_mean (W : WF T Z) (hT : T < 2 ^ 24) (h : RS (gSt c 0) Z) : f_X5_meanTicks c = some (mnX Z) := by
  have h41 : Z 41 ≤ T := W.2.2.2.1
  have h42 : Z 42 ≤ T := W.2.2.2.2.1
  have hno := mnX_no W hT
  have l3 : (c.2.2.1 0).2.1 = nI (Z 41) := h.2.2.1.2.1
  have l5 : (c.2.2.2.2.1 0).2.2.1 = nI (Z 42) := h.2.2.2.2.2.2.1
  unfold f_X5_meanTicks
  rw [l3, l5, i0]
  simp (discharger := omega) only [nI_eq]
  unfold mnX at hno ⊢
  by_cases e : Z 42 = 0
  · rw [if_pos e, if_pos e]
  · rw [if_neg e] at hno
    rw [if_neg e, if_neg e, fck_ok hno]; rfl
end
