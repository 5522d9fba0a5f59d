-- ===== wideShare, meanTicks =====
def shX (Z : Nat → Nat) : UInt64 := if blkN Z = 0 then FP.dconst0 else FP.ddiv (FP.i2d (nI (wideN Z))) (FP.i2d (nI (blkN Z)))
def mnX (Z : Nat → Nat) : UInt32 := if Z 42 = 0 then FP.fconst0 else FP.fdiv (FP.i2f (nI (Z 41))) (FP.i2f (nI (Z 42)))
section
variable {T : Nat} {Z : Nat → Nat} {c : VC} {m : VM}
theorem shX_no (W : WF T Z) : FP.Core.val64 (shX Z) ≠ .nan := by
  have hbl := W.blk
  unfold shX
  by_cases e : blkN Z = 0
  · rw [if_pos e]
    show FP.Core.val64 FP.Core.dconst0 ≠ .nan
    rw [FP.Core.val64_dconst0]
    exact fun q => by cases q
  · rw [if_neg e, d_quot (by omega) (by omega) (by omega)]
    exact rr_no
theorem mnX_no (W : WF T Z) (hT : T < 2 ^ 24) : FP.Core.val32 (mnX Z) ≠ .nan := by
  have h41 : Z 41 ≤ T := W.2.2.2.1
  have h42 : Z 42 ≤ T := W.2.2.2.2.1
  unfold mnX
  by_cases e : Z 42 = 0
  · rw [if_pos e]
    show FP.Core.val32 FP.Core.fconst0 ≠ .nan
    rw [FP.Core.val32_fconst0]
    exact fun q => by cases q
  · rw [if_neg e, f_quot (by omega) (by omega) (by omega)]
    exact rr_no
theorem c_share (W : WF T Z) (h : RLy (c.2.1 0) Z) : f_X5_wideShare c = some (shX Z) := by
  have hbl := W.blk
  have hno := shX_no W
  unfold f_X5_wideShare
  rw [h.2.2.2.2.2.1, h.2.2.2.2.2.2, i0]
  simp (discharger := omega) only [nI_eq]
  unfold shX at hno ⊢
  by_cases e : blkN Z = 0
  · rw [if_pos e, if_pos e]
  · rw [if_neg e] at hno
    rw [if_neg e, if_neg e, dck_ok hno]; rfl
theorem m_share (W : WF T Z) (h : RZ m.2.1 Z) : f_X6_share m = some (shX Z) := by
  have hbl := W.blk
  have hno := shX_no W
  unfold f_X6_share
  rw [m_blk W h, Option.bind_some, m_wide W h, Option.bind_some, Option.bind_some, i0]
  simp (discharger := omega) only [nI_eq]
  unfold shX at hno ⊢
  by_cases e : blkN Z = 0
  · rw [if_pos e, if_pos e]
  · rw [if_neg e] at hno
    rw [if_neg e, if_neg e, dck_ok hno]; rfl
theorem c_mean (W : WF T Z) (hT : T < 2 ^ 24) (h : RS (gSt c 0) Z) : f_X5_meanTicks c = some (mnX Z) := by
  have h41 : Z 41 ≤ T := W.2.2.2.1
  have h42 : Z 42 ≤ T := W.2.2.2.2.1
  have hno := mnX_no W hT
  have l3 : (c.2.2.1 0).2.1 = nI (Z 41) := h.2.2.1.2.1
  have l5 : (c.2.2.2.2.1 0).2.2.1 = nI (Z 42) := h.2.2.2.2.2.2.1
  unfold f_X5_meanTicks
  rw [l3, l5, i0]
  simp (discharger := omega) only [nI_eq]
  unfold mnX at hno ⊢
  by_cases e : Z 42 = 0
  · rw [if_pos e, if_pos e]
  · rw [if_neg e] at hno
    rw [if_neg e, if_neg e, fck_ok hno]; rfl
theorem m_mean (W : WF T Z) (hT : T < 2 ^ 24) (h : RZ m.2.1 Z) : f_X6_mean m = some (mnX Z) := by
  have h41 : Z 41 ≤ T := W.2.2.2.1
  have h42 : Z 42 ≤ T := W.2.2.2.2.1
  have hno := mnX_no W hT
  unfold f_X6_mean
  rw [show (42 : Int32) = nI 42 from rfl, m_at h (by omega) (by omega), Option.bind_some, i41, m_at h (by omega) (by omega), Option.bind_some, Option.bind_some, i0]
  simp (discharger := omega) only [nI_eq]
  unfold mnX at hno ⊢
  by_cases e : Z 42 = 0
  · rw [if_pos e, if_pos e]
  · rw [if_neg e] at hno
    rw [if_neg e, if_neg e, fck_ok hno]; rfl
end
def shareG (c : VC) (fl : Option UInt64) (fm : Option (UInt64 × VM)) (o : Nat → Int64) (K : VA → Option Unit) : Option Unit :=
  fl.bind fun r => fm.bind fun q => if Op.cmpValue (FP.dcmp r q.1) .l = 0 then K (c, (q.2, o)) else none
def meanG (c : VC) (fl : Option UInt32) (fm : Option (UInt32 × VM)) (o : Nat → Int64) (K : VA → Option Unit) : Option Unit :=
  fl.bind fun r => (dck (FP.f2d r)).bind fun d2 => fm.bind fun q => (dck (FP.f2d q.1)).bind fun d4 => if Op.cmpValue (FP.dcmp d2 d4) .l = 0 then K (c, (q.2, o)) else none
theorem op_share {T : Nat} (c : VC) (mo : VM) (o : Nat → Int64) (h : Iv T (c, (mo, o))) : Ok T (shareG c (f_X5_wideShare c) (f_X6_wideShare mo) o) := by
  have hall := h
  obtain ⟨Z, SZ, n, KZ, kp, tx, len, hS, hT⟩ := h
  obtain ⟨W, hR, hZ, -⟩ := hS
  refine ⟨_, Iv.thr (t' := 0) (o' := o) hall (Nat.le_refl _), fun K => ?_⟩
  unfold shareG f_X6_wideShare
  rw [c_share (c := c) W hR.2.1, m_share (m := (0, mo.2)) W hZ, Option.bind_some, Option.bind_some, Option.bind_some]
  dsimp only
  rw [if_pos (cmp_self (shX_no W))]
theorem op_mean {T : Nat} (hT24 : T < 2 ^ 24) (c : VC) (mo : VM) (o : Nat → Int64) (h : Iv T (c, (mo, o))) : Ok T (meanG c (f_X5_meanTicks c) (f_X6_meanTicks mo) o) := by
  have hall := h
  obtain ⟨Z, SZ, n, KZ, kp, tx, len, hS, hT⟩ := h
  obtain ⟨W, hR, hZ, -⟩ := hS
  have hno := mnX_no W hT24
  refine ⟨_, Iv.thr (t' := 0) (o' := o) hall (Nat.le_refl _), fun K => ?_⟩
  unfold meanG f_X6_meanTicks
  rw [c_mean (c := c) W hT24 hR, m_mean (m := (0, mo.2)) W hT24 hZ, Option.bind_some, Option.bind_some, dck_ok (f2d_no hno), Option.bind_some, Option.bind_some]
  dsimp only
  rw [dck_ok (f2d_no hno), Option.bind_some, if_pos (cmp_self (f2d_no hno))]
