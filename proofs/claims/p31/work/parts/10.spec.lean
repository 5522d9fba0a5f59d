-- the pictures of the methods, by program out of claim/JAVAP.txt
def f_X5_isSlot (a0 : Int32) : Option Int32 :=
  if a0 < 0 then (
    some 0
  ) else (
    if a0 < 4 then (
      some 1
    ) else (
      some 0
    )
  )
def f_X5_isWithin (a0 : Int32) (a1 : Int32) (a2 : Int32) : Option Int32 :=
  if a0 < a1 then (
    some 0
  ) else (
    if a2 < a0 then (
      some 0
    ) else (
      some 1
    )
  )
def f_X5_entry (n0 : Nat) (f0 : Nat → Int32) (a1 : Int32) : Option Int32 :=
  if a1 < 0 then (
    some 0
  ) else (
    if a1 < (Int32.ofNat n0) then (
      (ard n0 f0 a1).bind fun x12 =>
      some x12
    ) else (
      some 0
    )
  )
def f_X3_isPlugged (v : VSk) (a1 : Int32) : Option Int32 :=
  (f_X5_entry 4 v.1 a1).bind fun x5 =>
  if 0 < x5 then (
    some 1
  ) else (
    some 0
  )
def l_X5_moveOldestToEnd_9 : Nat → VC → Nat → Int32 → Option VC
  | 0, _, _, _ => none
  | n + 1, v, p1, s2 =>
    if s2 < 6 then (
      (rdp 6 v.2.2.2.2.2.2.2.2 s2).bind fun x27 =>
      (wrp 6 v.2.2.2.2.2.2.2.2 (s2 - 1) x27).bind fun x28 =>
      l_X5_moveOldestToEnd_9 n (sSp v (v.2.2.2.2.2.2.1, v.2.2.2.2.2.2.2.1, x28)) p1 (s2 + 1)
    ) else (
      (wrp 6 v.2.2.2.2.2.2.2.2 5 p1).bind fun x41 =>
      some (sSp v (v.2.2.2.2.2.2.1, v.2.2.2.2.2.2.2.1, x41))
    )
def f_X5_moveOldestToEnd (v : VC) : Option VC :=
  (rdp 6 v.2.2.2.2.2.2.2.2 0).bind fun x5 =>
  l_X5_moveOldestToEnd_9 FU v x5 1
def l_X3_copyFrom_2 (u1 : VSk) : Nat → VSk → Int32 → Option VSk
  | 0, _, _ => none
  | n + 1, v, s2 =>
    if s2 < 4 then (
      (ard 4 u1.1 s2).bind fun x17 =>
      (aup 4 v.1 s2 x17).bind fun x18 =>
      (ard 4 u1.2.1 s2).bind fun x29 =>
      (aup 4 v.2.1 s2 x29).bind fun x30 =>
      (ard 4 u1.2.2.1 s2).bind fun x41 =>
      (aup 4 v.2.2.1 s2 x41).bind fun x42 =>
      (ard 4 u1.2.2.2.1 s2).bind fun x53 =>
      (aup 4 v.2.2.2.1 s2 x53).bind fun x54 =>
      (ard 4 u1.2.2.2.2.1 s2).bind fun x65 =>
      (aupz 4 v.2.2.2.2.1 s2 x65).bind fun x66 =>
      (ard 4 u1.2.2.2.2.2 s2).bind fun x77 =>
      (aupz 4 v.2.2.2.2.2 s2 x77).bind fun x78 =>
      l_X3_copyFrom_2 u1 n (x18, x30, x42, x54, x66, x78) (s2 + 1)
    ) else (
      some v
    )
def f_X3_copyFrom (v : VSk) (u1 : VSk) : Option VSk :=
  l_X3_copyFrom_2 u1 FU v 0
def f_X1_copyFrom (v : VLy) (u1 : VLy) : Option VLy :=
  (acp 4 4 u1.2.1 v.2.1 0 0 4).bind fun x19 =>
  some (u1.1, x19, u1.2.2.1, u1.2.2.2.1, u1.2.2.2.2.1, u1.2.2.2.2.2.1, u1.2.2.2.2.2.2)
def f_X0_copyFrom (v : VCk) (u1 : VCk) : Option VCk :=
  (acp 8 8 u1.1 v.1 0 0 8).bind fun x12 =>
  some (x12, u1.2.1, u1.2.2)
def f_X2_copyFrom (v : VSt) (u1 : VSt) : Option VSt :=
  (f_X3_copyFrom v.1 u1.1).bind fun x8 =>
  (f_X1_copyFrom v.2.1 u1.2.1).bind fun x19 =>
  (f_X0_copyFrom v.2.2.1 u1.2.2.1).bind fun x30 =>
  (acp 48 48 u1.2.2.2.1 v.2.2.2.1 0 0 48).bind fun x45 =>
  some (x8, x19, x30, x45, (u1.2.2.2.2.1, u1.2.2.2.2.2.1, u1.2.2.2.2.2.2.1, u1.2.2.2.2.2.2.2.1, u1.2.2.2.2.2.2.2.2))
def b_X5_saveState_25 (v : VC) : Option VC :=
  (rdp 6 v.2.2.2.2.2.2.2.2 v.2.2.2.2.2.2.2.1).bind fun x33 =>
  (f_X2_copyFrom (gSt v x33) (gSt v 0)).bind fun x44 =>
  some (sSp (sSt v x33 x44) ((sSt v x33 x44).2.2.2.2.2.2.1, ((sSt v x33 x44).2.2.2.2.2.2.2.1 + 1), (sSt v x33 x44).2.2.2.2.2.2.2.2))
def b_X5_saveState_16 (v : VC) : Option VC :=
  (f_X5_moveOldestToEnd v).bind fun x17 =>
  b_X5_saveState_25 (sSp x17 (x17.2.2.2.2.2.2.1, 5, x17.2.2.2.2.2.2.2.2))
def f_X5_saveState (v : VC) : Option VC :=
  if v.2.2.2.2.2.2.2.1 < 0 then (
    b_X5_saveState_16 v
  ) else (
    if v.2.2.2.2.2.2.2.1 < 6 then (
      b_X5_saveState_25 v
    ) else (
      b_X5_saveState_16 v
    )
  )
def f_X3_put (v : VSk) (a1 : Int32) (a2 : Int32) (a3 : Int32) (a4 : Int32) : Option VSk :=
  (f_X5_isSlot a1).bind fun x1 =>
  if x1 = 0 then (
    some v
  ) else (
    (aup 4 v.1 a1 a2).bind fun x13 =>
    (aup 4 v.2.1 a1 a3).bind fun x20 =>
    (aup 4 v.2.2.1 a1 a4).bind fun x28 =>
    (aup 4 v.2.2.2.1 a1 0).bind fun x35 =>
    (aupz 4 v.2.2.2.2.1 a1 0).bind fun x42 =>
    (aupz 4 v.2.2.2.2.2 a1 0).bind fun x49 =>
    some (x13, x20, x28, x35, x42, x49)
  )
def f_X0_freeSlot (v : VCk) (a1 : Int32) : Option VCk :=
  (f_X5_isSlot a1).bind fun x1 =>
  if x1 = 0 then (
    some v
  ) else (
    (aup 8 v.1 (2 * a1) 0).bind fun x15 =>
    (aup 8 x15 ((2 * a1) + 1) 0).bind fun x26 =>
    some (x26, v.2)
  )
def l_X3_pluggedOnes_4 (v : VSk) : Nat → Int32 → Int32 → Option Int32
  | 0, _, _ => none
  | n + 1, s1, s2 =>
    if s2 < 4 then (
      (f_X3_isPlugged v s2).bind fun x12 =>
      if x12 = 0 then (
        l_X3_pluggedOnes_4 v n (s1 + 0) (s2 + 1)
      ) else (
        l_X3_pluggedOnes_4 v n (s1 + 1) (s2 + 1)
      )
    ) else (
      some s1
    )
def f_X3_pluggedOnes (v : VSk) : Option Int32 :=
  l_X3_pluggedOnes_4 v FU 0 0
def f_X5_plug (v : VC) (a1 : Int32) (a2 : Int32) (a3 : Int32) (a4 : Int32) : Option ((Nat × VC) ⊕ (Int32 × VC)) :=
  (f_X5_isSlot a1).bind fun x1 =>
  if x1 = 0 then (
    some (.inl (1, v))
  ) else (
    (f_X5_isWithin a2 1 12).bind fun x21 =>
    if x21 = 0 then (
      some (.inl (2, v))
    ) else (
      (f_X5_isWithin a3 1 2).bind fun x30 =>
      if x30 = 0 then (
        some (.inl (2, v))
      ) else (
        (f_X5_isWithin a4 1 9).bind fun x41 =>
        if x41 = 0 then (
          some (.inl (2, v))
        ) else (
          (f_X3_isPlugged (v.1 0) a1).bind fun x65 =>
          if x65 = 0 then (
            (f_X5_saveState v).bind fun x82 =>
            (f_X3_put (x82.1 0) a1 a2 a3 a4).bind fun x97 =>
            (f_X0_freeSlot ((sSk x82 0 x97).2.2.1 0) a1).bind fun x108 =>
            (f_X3_pluggedOnes ((sCk (sSk x82 0 x97) 0 x108).1 0)).bind fun x118 =>
            some (.inr (x118, (sCk (sSk x82 0 x97) 0 x108)))
          ) else (
            some (.inl (3, v))
          )
        )
      )
    )
  )
def f_X3_isLeft (v : VSk) (a1 : Int32) : Option Int32 :=
  (f_X5_isSlot a1).bind fun x1 =>
  if x1 = 0 then (
    some 0
  ) else (
    (ard 4 v.2.2.2.2.2 a1).bind fun x12 =>
    if x12 = 0 then (
      some 0
    ) else (
      (ard 4 v.2.2.2.2.1 a1).bind fun x21 =>
      if x21 = 0 then (
        some 1
      ) else (
        some 0
      )
    )
  )
def f_X1_isMirrored (v : VLy) : Option Int32 :=
  if v.1 = 2 then (
    some 1
  ) else (
    some 0
  )
def b_X1_blockAt_51 (v : VLy) (s3 : Int32) (t0 : Int32) : Option Int32 :=
  (f_X1_isMirrored v).bind fun x54 =>
  if x54 = 0 then (
    if v.1 = 0 then (
      if t0 < v.2.2.2.2.1 then (
        some ((2 * t0) + s3)
      ) else (
        some (t0 + v.2.2.2.2.1)
      )
    ) else (
      if s3 = 0 then (
        some t0
      ) else (
        some (v.2.2.1 + t0)
      )
    )
  ) else (
    if t0 < v.2.2.2.2.2.1 then (
      some t0
    ) else (
      some (-1)
    )
  )
def b_X1_blockAt_28 (v : VLy) (s1 : Int32) (s2 : Int32) (t0 : Int32) : Option Int32 :=
  if (s1 &&& 1) = 0 then (
    b_X1_blockAt_51 v t0 s2
  ) else (
    (f_X5_entry 4 v.2.1 (s1 - 1)).bind fun x47 =>
    b_X1_blockAt_51 v t0 (s2 + x47)
  )
def f_X1_blockAt (v : VLy) (a1 : Int32) (a2 : Int32) : Option Int32 :=
  if a2 < 0 then (
    some (-1)
  ) else (
    (f_X5_entry 4 v.2.1 a1).bind fun x10 =>
    if a2 < x10 then (
      if a1 < 2 then (
        b_X1_blockAt_28 v a1 a2 0
      ) else (
        b_X1_blockAt_28 v a1 a2 1
      )
    ) else (
      some (-1)
    )
  )
def l_X1_usedIn_4 (v : VLy) : Nat → Int32 → Int32 → Int32 → Option Int32
  | 0, _, _, _ => none
  | n + 1, s1, s2, s3 =>
    if s3 < 12 then (
      (f_X1_blockAt v s1 s3).bind fun x14 =>
      if x14 = (-1) then (
        l_X1_usedIn_4 v n s1 (s2 + 0) (s3 + 1)
      ) else (
        l_X1_usedIn_4 v n s1 (s2 + 1) (s3 + 1)
      )
    ) else (
      some s2
    )
def f_X1_usedIn (v : VLy) (a1 : Int32) : Option Int32 :=
  l_X1_usedIn_4 v FU a1 0 0
def f_X2_usedPlaces (v : VSt) (a1 : Int32) : Option Int32 :=
  (f_X3_isLeft v.1 a1).bind fun x5 =>
  if x5 = 0 then (
    some 0
  ) else (
    (f_X1_usedIn v.2.1 a1).bind fun x16 =>
    some x16
  )
def f_X3_take (v : VSk) (a1 : Int32) : Option VSk :=
  (f_X3_put v a1 0 0 0).bind fun x5 =>
  some x5
def f_X5_pull (v : VC) (a1 : Int32) : Option ((Nat × VC) ⊕ (Int32 × VC)) :=
  (f_X5_isSlot a1).bind fun x1 =>
  if x1 = 0 then (
    some (.inl (1, v))
  ) else (
    (f_X3_isPlugged (v.1 0) a1).bind fun x25 =>
    if x25 = 0 then (
      some (.inl (3, v))
    ) else (
      (f_X5_saveState v).bind fun x42 =>
      (f_X2_usedPlaces (gSt x42 0) a1).bind fun x50 =>
      (f_X3_take (x42.1 0) a1).bind fun x62 =>
      some (.inr (x50, (sSk x42 0 x62)))
    )
  )
def f_X3_isGood (v : VSk) (a1 : Int32) : Option Int32 :=
  (f_X5_isSlot a1).bind fun x1 =>
  if x1 = 0 then (
    some 0
  ) else (
    (ard 4 v.1 a1).bind fun x12 =>
    if 0 < x12 then (
      (ard 4 v.2.2.2.2.1 a1).bind fun x21 =>
      if x21 = 0 then (
        some 1
      ) else (
        some 0
      )
    ) else (
      some 0
    )
  )
def f_X3_spoil (v : VSk) (a1 : Int32) : Option VSk :=
  (f_X5_isSlot a1).bind fun x1 =>
  if x1 = 0 then (
    some v
  ) else (
    (aupz 4 v.2.2.2.2.1 a1 1).bind fun x13 =>
    some (v.1, v.2.1, v.2.2.1, v.2.2.2.1, x13, v.2.2.2.2.2)
  )
def f_X5_fail (v : VC) (a1 : Int32) : Option ((Nat × VC) ⊕ (Int32 × VC)) :=
  (f_X5_isSlot a1).bind fun x1 =>
  if x1 = 0 then (
    some (.inl (1, v))
  ) else (
    (f_X3_isGood (v.1 0) a1).bind fun x25 =>
    if x25 = 0 then (
      some (.inl (3, v))
    ) else (
      (f_X5_saveState v).bind fun x42 =>
      (f_X2_usedPlaces (gSt x42 0) a1).bind fun x50 =>
      (f_X3_spoil (x42.1 0) a1).bind fun x62 =>
      some (.inr (x50, (sSk x42 0 x62)))
    )
  )
def f_X3_goodSizeIn (v : VSk) (a1 : Int32) : Option Int32 :=
  (f_X3_isGood v a1).bind fun x2 =>
  if x2 = 0 then (
    some 0
  ) else (
    (f_X5_entry 4 v.1 a1).bind fun x13 =>
    some x13
  )
def f_X3_hindrance (v : VSk) (a1 : Int32) : Option Int32 :=
  (f_X3_goodSizeIn v 0).bind fun x2 =>
  (f_X3_goodSizeIn v 1).bind fun x7 =>
  (f_X3_goodSizeIn v 2).bind fun x14 =>
  (f_X3_goodSizeIn v 3).bind fun x19 =>
  if ((x2 + x7) + (x14 + x19)) = 0 then (
    some 1
  ) else (
    if a1 = 2 then (
      if (x2 + x7) = 0 then (
        some 2
      ) else (
        if (x14 + x19) = 0 then (
          some 2
        ) else (
          some 0
        )
      )
    ) else (
      some 0
    )
  )
def f_J9_min_7cf53 (a0 : Int32) (a1 : Int32) : Option Int32 :=
  if a1 < a0 then (
    some a1
  ) else (
    some a0
  )
def b_X1_lay_103 (u2 : VSk) (v : VLy) (t0 : Int32) : Option VLy :=
  if v.1 = 0 then (
    some (v.1, v.2.1, v.2.2.1, v.2.2.2.1, v.2.2.2.2.1, t0, (2 * v.2.2.2.2.1))
  ) else (
    some (v.1, v.2.1, v.2.2.1, v.2.2.2.1, v.2.2.2.2.1, t0, 0)
  )
def l_X1_lay_7 (u2 : VSk) : Nat → VLy → Int32 → Option VLy
  | 0, _, _ => none
  | n + 1, v, s3 =>
    if s3 < 4 then (
      (f_X3_goodSizeIn u2 s3).bind fun x19 =>
      (aup 4 v.2.1 s3 x19).bind fun x22 =>
      l_X1_lay_7 u2 n (v.1, x22, v.2.2) (s3 + 1)
    ) else (
      (ard 4 v.2.1 0).bind fun x35 =>
      (ard 4 v.2.1 1).bind fun x41 =>
      (ard 4 v.2.1 2).bind fun x52 =>
      (ard 4 v.2.1 3).bind fun x58 =>
      (f_J9_min_7cf53 (x35 + x41) (x52 + x58)).bind fun x72 =>
      if v.1 = 2 then (
        b_X1_lay_103 u2 (v.1, v.2.1, (x35 + x41), (x52 + x58), x72, v.2.2.2.2.2) x72
      ) else (
        b_X1_lay_103 u2 (v.1, v.2.1, (x35 + x41), (x52 + x58), x72, v.2.2.2.2.2) ((x35 + x41) + (x52 + x58))
      )
    )
def f_X1_lay (v : VLy) (u2 : VSk) (a1 : Int32) : Option VLy :=
  l_X1_lay_7 u2 FU (a1, v.2) 0
def l_X3_mapGoodOnes_2 : Nat → VSk → Int32 → Option VSk
  | 0, _, _ => none
  | n + 1, v, s1 =>
    if s1 < 4 then (
      (f_X3_isGood v s1).bind fun x14 =>
      (aupz 4 v.2.2.2.2.2 s1 x14).bind fun x17 =>
      l_X3_mapGoodOnes_2 n (v.1, v.2.1, v.2.2.1, v.2.2.2.1, v.2.2.2.2.1, x17) (s1 + 1)
    ) else (
      some v
    )
def f_X3_mapGoodOnes (v : VSk) : Option VSk :=
  l_X3_mapGoodOnes_2 FU v 0
def f_X0_freeAllNow (v : VCk) : Option VCk :=
  (f_fill 8 v.1 v.2.1).bind fun x8 =>
  some (x8, v.2)
def f_X2_begin (v : VSt) : Option VSt :=
  (f_X1_lay v.2.1 v.1 v.2.2.2.2.1).bind fun x12 =>
  (f_X3_mapGoodOnes v.1).bind fun x19 =>
  (f_X0_freeAllNow v.2.2.1).bind fun x26 =>
  (f_fill 48 v.2.2.2.1 0).bind fun x34 =>
  some (x19, x12, x26, x34, (v.2.2.2.2.1, v.2.2.2.2.2.1, v.2.2.2.2.2.2.1, v.2.2.2.2.2.2.2.1, (v.2.2.2.2.2.2.2.2 + 1)))
def f_X5_start (v : VC) : Option ((Nat × VC) ⊕ (Int32 × VC)) :=
  (f_X3_hindrance (v.1 0) (v.2.2.2.2.1 0).1).bind fun x14 =>
  if x14 = 0 then (
    (f_X5_saveState v).bind fun x31 =>
    (f_X2_begin (gSt x31 0)).bind fun x38 =>
    some (.inr (((sSt x31 0 x38).2.1 0).2.2.2.2.2.1, (sSt x31 0 x38)))
  ) else (
    some (.inl (3, v))
  )
def f_X1_isLaid (v : VLy) : Option Int32 :=
  if v.1 = (-1) then (
    some 0
  ) else (
    some 1
  )
def f_X1_clear (v : VLy) : Option VLy :=
  (f_fill 4 v.2.1 0).bind fun x10 =>
  some ((-1), x10, 0, 0, 0, 0, 0)
def l_X3_unmapAll_2 : Nat → VSk → Int32 → Option VSk
  | 0, _, _ => none
  | n + 1, v, s1 =>
    if s1 < 4 then (
      (aupz 4 v.2.2.2.2.2 s1 0).bind fun x13 =>
      l_X3_unmapAll_2 n (v.1, v.2.1, v.2.2.1, v.2.2.2.1, v.2.2.2.2.1, x13) (s1 + 1)
    ) else (
      some v
    )
def f_X3_unmapAll (v : VSk) : Option VSk :=
  l_X3_unmapAll_2 FU v 0
def f_X2_end (v : VSt) : Option VSt :=
  (f_X1_clear v.2.1).bind fun x4 =>
  (f_X3_unmapAll v.1).bind fun x11 =>
  some (x11, x4, v.2.2)
def f_X5_stop (v : VC) : Option ((Nat × VC) ⊕ (Int32 × VC)) :=
  (f_X1_isLaid (v.2.1 0)).bind fun x7 =>
  if x7 = 0 then (
    some (.inl (3, v))
  ) else (
    (f_X5_saveState v).bind fun x24 =>
    (f_X2_end (gSt x24 0)).bind fun x42 =>
    some (.inr ((x24.2.1 0).2.2.2.2.2.1, (sSt x24 0 x42)))
  )
def f_X2_hasBlock (v : VSt) (a1 : Int32) : Option Int32 :=
  if a1 < 0 then (
    some 0
  ) else (
    if a1 < v.2.1.2.2.2.2.2.1 then (
      some 1
    ) else (
      some 0
    )
  )
def f_X1_channelOf (v : VLy) (a1 : Int32) : Option Int32 :=
  if v.1 = 2 then (
    some 0
  ) else (
    if a1 < v.2.2.2.2.2.2 then (
      some (a1 &&& 1)
    ) else (
      if v.1 = 0 then (
        if v.2.2.2.1 < v.2.2.1 then (
          some 0
        ) else (
          some 1
        )
      ) else (
        if a1 < v.2.2.1 then (
          some 0
        ) else (
          some 1
        )
      )
    )
  )
def f_X1_indexOf (v : VLy) (a1 : Int32) : Option Int32 :=
  if a1 < v.2.2.2.2.2.2 then (
    some (a1 / 2)
  ) else (
    if v.1 = 0 then (
      some (a1 - v.2.2.2.2.1)
    ) else (
      if v.1 = 2 then (
        some a1
      ) else (
        if a1 < v.2.2.1 then (
          some a1
        ) else (
          some (a1 - v.2.2.1)
        )
      )
    )
  )
def f_X1_slotAt (v : VLy) (a1 : Int32) (a2 : Int32) : Option Int32 :=
  if a1 = 0 then (
    (ard 4 v.2.1 0).bind fun x10 =>
    if a2 < x10 then (
      some 0
    ) else (
      some 1
    )
  ) else (
    (ard 4 v.2.1 2).bind fun x26 =>
    if a2 < x26 then (
      some 2
    ) else (
      some 3
    )
  )
def f_X1_slotOf (v : VLy) (a1 : Int32) : Option Int32 :=
  (f_X1_channelOf v a1).bind fun x3 =>
  (f_X1_indexOf v a1).bind fun x8 =>
  (f_X1_slotAt v x3 x8).bind fun x11 =>
  some x11
def f_X1_slotAgainOf (v : VLy) (a1 : Int32) : Option Int32 :=
  (f_X1_isMirrored v).bind fun x1 =>
  if x1 = 0 then (
    some (-1)
  ) else (
    (f_X1_slotAt v 1 a1).bind fun x10 =>
    some x10
  )
def f_X2_readSlotOf (v : VSt) (a1 : Int32) : Option Int32 :=
  (f_X1_slotOf v.2.1 a1).bind fun x5 =>
  (f_X3_isLeft v.1 x5).bind fun x14 =>
  if x14 = 0 then (
    (f_X1_slotAgainOf v.2.1 a1).bind fun x27 =>
    (f_X3_isLeft v.1 x27).bind fun x36 =>
    if x36 = 0 then (
      some (-1)
    ) else (
      some x27
    )
  ) else (
    some x5
  )
def f_X2_canRead (v : VSt) (a1 : Int32) : Option Int32 :=
  (f_X2_hasBlock v a1).bind fun x2 =>
  if x2 = 0 then (
    some 0
  ) else (
    (f_X2_readSlotOf v a1).bind fun x10 =>
    if x10 = (-1) then (
      some 0
    ) else (
      some 1
    )
  )
def f_X2_heldBy (v : VSt) (a1 : Int32) : Option Int32 :=
  (f_X5_entry 48 v.2.2.2.1 a1).bind fun x5 =>
  some x5
def f_X2_exchange (v : VSt) (a1 : Int32) (a2 : Int32) : Option (Int32 × VSt) :=
  (f_X2_heldBy v a1).bind fun x2 =>
  if a1 < 0 then (
    some (x2, v)
  ) else (
    if a1 < 48 then (
      (aup 48 v.2.2.2.1 a1 a2).bind fun x25 =>
      some (x2, (v.1, v.2.1, v.2.2.1, x25, v.2.2.2.2))
    ) else (
      some (x2, v)
    )
  )
def f_X5_write (v : VC) (a1 : Int32) (a2 : Int32) : Option ((Nat × VC) ⊕ (Int32 × VC)) :=
  (f_X2_hasBlock (gSt v 0) a1).bind fun x5 =>
  if x5 = 0 then (
    some (.inl (1, v))
  ) else (
    (f_X5_isWithin a2 0 99).bind fun x25 =>
    if x25 = 0 then (
      some (.inl (2, v))
    ) else (
      (f_X2_canRead (gSt v 0) a1).bind fun x46 =>
      if x46 = 0 then (
        some (.inl (3, v))
      ) else (
        (f_X5_saveState v).bind fun x63 =>
        (f_X2_exchange (gSt x63 0) a1 a2).bind fun x72 =>
        some (.inr (x72.1, (sSt x63 0 x72.2)))
      )
    )
  )
def b_X1_numberAt_19 (v : VLy) (s2 : Int32) (t0 : Int32) : Option Int32 :=
  if s2 < t0 then (
    some s2
  ) else (
    some (s2 - t0)
  )
def f_X1_numberAt (v : VLy) (a1 : Int32) (a2 : Int32) : Option Int32 :=
  if a1 = 0 then (
    (ard 4 v.2.1 0).bind fun x9 =>
    b_X1_numberAt_19 v a2 x9
  ) else (
    (ard 4 v.2.1 2).bind fun x18 =>
    b_X1_numberAt_19 v a2 x18
  )
def f_X1_numberAgainOf (v : VLy) (a1 : Int32) : Option Int32 :=
  (f_X1_isMirrored v).bind fun x1 =>
  if x1 = 0 then (
    some (-1)
  ) else (
    (f_X1_numberAt v 1 a1).bind fun x10 =>
    some x10
  )
def f_X1_numberOf (v : VLy) (a1 : Int32) : Option Int32 :=
  (f_X1_channelOf v a1).bind fun x3 =>
  (f_X1_indexOf v a1).bind fun x8 =>
  (f_X1_numberAt v x3 x8).bind fun x11 =>
  some x11
def f_X3_rankOf (v : VSk) (a1 : Int32) (a2 : Int32) : Option Int32 :=
  (f_X5_entry 4 v.2.1 a1).bind fun x5 =>
  if x5 = 2 then (
    some (a2 &&& 1)
  ) else (
    some 0
  )
def f_X3_rankRow (v : VSk) (a1 : Int32) (a2 : Int32) : Option Int32 :=
  (f_X3_rankOf v a1 a2).bind fun x6 =>
  some ((2 * a1) + x6)
def b_X2_readRankOf_47 (v : VSt) (s2 : Int32) (t0 : Int32) : Option Int32 :=
  (f_X3_rankRow v.1 s2 t0).bind fun x56 =>
  some x56
def b_X2_readRankOf_23 (v : VSt) (s1 : Int32) (s2 : Int32) (t0 : Int32) : Option Int32 :=
  if t0 = 0 then (
    (f_X1_numberOf v.2.1 s1).bind fun x44 =>
    b_X2_readRankOf_47 v s2 x44
  ) else (
    (f_X1_numberAgainOf v.2.1 s1).bind fun x33 =>
    b_X2_readRankOf_47 v s2 x33
  )
def f_X2_readRankOf (v : VSt) (a1 : Int32) : Option Int32 :=
  (f_X2_readSlotOf v a1).bind fun x2 =>
  (f_X1_slotOf v.2.1 a1).bind fun x12 =>
  if x2 = x12 then (
    b_X2_readRankOf_23 v a1 x2 0
  ) else (
    b_X2_readRankOf_23 v a1 x2 1
  )
def f_X3_delayIn (v : VSk) (a1 : Int32) : Option Int32 :=
  (f_X5_entry 4 v.2.2.1 a1).bind fun x5 =>
  some x5
def f_X0_waitFor (v : VCk) (a1 : Int32) : Option VCk :=
  (f_X5_entry 8 v.1 a1).bind fun x5 =>
  if v.2.1 < x5 then (
    some (v.1, x5, (v.2.2 + (x5 - v.2.1)))
  ) else (
    some v
  )
def f_X0_occupy (v : VCk) (a1 : Int32) (a2 : Int32) : Option VCk :=
  if a1 < 0 then (
    some v
  ) else (
    if a1 < 8 then (
      (aup 8 v.1 a1 (v.2.1 + a2)).bind fun x24 =>
      some (x24, v.2)
    ) else (
      some v
    )
  )
def f_X0_pass (v : VCk) (a1 : Int32) : Option VCk :=
  some (v.1, (v.2.1 + a1), v.2.2)
def f_X0_readSingle (v : VCk) (a1 : Int32) (a2 : Int32) : Option VCk :=
  (f_X0_waitFor v a1).bind fun x2 =>
  (f_X0_occupy x2 a1 a2).bind fun x8 =>
  (f_X0_pass x8 1).bind fun x13 =>
  some x13
def f_X3_tellRead (v : VSk) (a1 : Int32) : Option VSk :=
  (f_X5_isSlot a1).bind fun x1 =>
  if x1 = 0 then (
    some v
  ) else (
    (ard 4 v.2.2.2.1 a1).bind fun x13 =>
    (aup 4 v.2.2.2.1 a1 (x13 + 1)).bind fun x16 =>
    some (v.1, v.2.1, v.2.2.1, x16, v.2.2.2.2)
  )
def f_X2_readOne (v : VSt) (a1 : Int32) : Option (Int32 × VSt) :=
  (f_X2_readSlotOf v a1).bind fun x2 =>
  (f_X2_readRankOf v a1).bind fun x12 =>
  (f_X3_delayIn v.1 x2).bind fun x20 =>
  (f_X0_readSingle v.2.2.1 x12 x20).bind fun x23 =>
  (f_X3_tellRead v.1 x2).bind fun x31 =>
  (f_X2_heldBy (x31, v.2.1, x23, v.2.2.2.1, (v.2.2.2.2.1, v.2.2.2.2.2.1, (v.2.2.2.2.2.2.1 + 1), v.2.2.2.2.2.2.2)) a1).bind fun x46 =>
  some (x46, (x31, v.2.1, x23, v.2.2.2.1, (v.2.2.2.2.1, v.2.2.2.2.2.1, (v.2.2.2.2.2.2.1 + 1), v.2.2.2.2.2.2.2)))
def f_X5_read (v : VC) (a1 : Int32) : Option ((Nat × VC) ⊕ (Int32 × VC)) :=
  (f_X2_hasBlock (gSt v 0) a1).bind fun x5 =>
  if x5 = 0 then (
    some (.inl (1, v))
  ) else (
    (f_X2_canRead (gSt v 0) a1).bind fun x26 =>
    if x26 = 0 then (
      some (.inl (3, v))
    ) else (
      (f_X5_saveState v).bind fun x43 =>
      (f_X2_readOne (gSt x43 0) a1).bind fun x51 =>
      some (.inr (x51.1, (sSt x43 0 x51.2)))
    )
  )
def f_X5_rest (v : VC) (a1 : Int32) : Option ((Nat × VC) ⊕ (Int32 × VC)) :=
  (f_X5_isWithin a1 1 99).bind fun x4 =>
  if x4 = 0 then (
    some (.inl (2, v))
  ) else (
    (f_X5_saveState v).bind fun x21 =>
    (f_X0_pass (x21.2.2.1 0) a1).bind fun x32 =>
    some (.inr (((sCk x21 0 x32).2.2.1 0).2.1, (sCk x21 0 x32)))
  )
def f_X2_settingOf (v : VSt) (a1 : Int32) : Option Int32 :=
  if a1 = 1 then (
    some v.2.2.2.2.2.1
  ) else (
    some v.2.2.2.2.1
  )
def f_X2_exchangeSetting (v : VSt) (a1 : Int32) (a2 : Int32) : Option (Int32 × VSt) :=
  (f_X2_settingOf v a1).bind fun x2 =>
  if a1 = 1 then (
    some (x2, (v.1, v.2.1, v.2.2.1, v.2.2.2.1, (v.2.2.2.2.1, a2, v.2.2.2.2.2.2)))
  ) else (
    some (x2, (v.1, v.2.1, v.2.2.1, v.2.2.2.1, (a2, v.2.2.2.2.2)))
  )
def b_X5_set_30 (v : VC) (s1 : Int32) (s2 : Int32) (t0 : Int32) (t1 : Int32) (t2 : Int32) : Option ((Nat × VC) ⊕ (Int32 × VC)) :=
  (f_X5_isWithin t2 t1 t0).bind fun x30 =>
  if x30 = 0 then (
    some (.inl (2, v))
  ) else (
    (f_X5_saveState v).bind fun x47 =>
    (f_X2_exchangeSetting (gSt x47 0) s1 s2).bind fun x56 =>
    some (.inr (x56.1, (sSt x47 0 x56.2)))
  )
def f_X5_set (v : VC) (a1 : Int32) (a2 : Int32) : Option ((Nat × VC) ⊕ (Int32 × VC)) :=
  (f_X5_isWithin a1 0 1).bind fun x3 =>
  if x3 = 0 then (
    some (.inl (1, v))
  ) else (
    if a1 = 0 then (
      b_X5_set_30 v a1 a2 2 0 a2
    ) else (
      b_X5_set_30 v a1 a2 1 0 a2
    )
  )
def f_X5_undo (v : VC) : Option ((Nat × VC) ⊕ (Int32 × VC)) :=
  if v.2.2.2.2.2.2.2.1 < 1 then (
    some (.inl (3, v))
  ) else (
    if 6 < v.2.2.2.2.2.2.2.1 then (
      some (.inl (3, v))
    ) else (
      (rdp 6 (sSp v (v.2.2.2.2.2.2.1, (v.2.2.2.2.2.2.2.1 - 1), v.2.2.2.2.2.2.2.2)).2.2.2.2.2.2.2.2 (sSp v (v.2.2.2.2.2.2.1, (v.2.2.2.2.2.2.2.1 - 1), v.2.2.2.2.2.2.2.2)).2.2.2.2.2.2.2.1).bind fun x45 =>
      (f_X2_copyFrom (gSt (sSp v (v.2.2.2.2.2.2.1, (v.2.2.2.2.2.2.2.1 - 1), v.2.2.2.2.2.2.2.2)) 0) (gSt (sSp v (v.2.2.2.2.2.2.1, (v.2.2.2.2.2.2.2.1 - 1), v.2.2.2.2.2.2.2.2)) x45)).bind fun x56 =>
      some (.inr ((sSt (sSp v (v.2.2.2.2.2.2.1, (v.2.2.2.2.2.2.2.1 - 1), v.2.2.2.2.2.2.2.2)) 0 x56).2.2.2.2.2.2.2.1, (sSt (sSp v (v.2.2.2.2.2.2.1, (v.2.2.2.2.2.2.2.1 - 1), v.2.2.2.2.2.2.2.2)) 0 x56)))
    )
  )
def f_X3_sizeIn (v : VSk) (a1 : Int32) : Option Int32 :=
  (f_X5_entry 4 v.1 a1).bind fun x5 =>
  some x5
def f_X3_ranksIn (v : VSk) (a1 : Int32) : Option Int32 :=
  (f_X5_entry 4 v.2.1 a1).bind fun x5 =>
  some x5
def f_X3_hasFailed (v : VSk) (a1 : Int32) : Option Int32 :=
  (f_X5_isSlot a1).bind fun x1 =>
  if x1 = 0 then (
    some 0
  ) else (
    (ard 4 v.2.2.2.2.1 a1).bind fun x12 =>
    if x12 = 0 then (
      some 0
    ) else (
      some 1
    )
  )
def f_X3_isMapped (v : VSk) (a1 : Int32) : Option Int32 :=
  (f_X5_isSlot a1).bind fun x1 =>
  if x1 = 0 then (
    some 0
  ) else (
    (ard 4 v.2.2.2.2.2 a1).bind fun x12 =>
    if x12 = 0 then (
      some 0
    ) else (
      some 1
    )
  )
def f_X0_freeFrom (v : VCk) (a1 : Int32) (a2 : Int32) : Option Int32 :=
  (f_X5_entry 8 v.1 ((2 * a1) + a2)).bind fun x9 =>
  some x9
def f_X3_readsIn (v : VSk) (a1 : Int32) : Option Int32 :=
  (f_X5_entry 4 v.2.2.2.1 a1).bind fun x5 =>
  some x5
def f_X2_slotNumber (v : VSt) (a1 : Int32) (a2 : Int32) : Option Int32 :=
  (f_X3_isPlugged v.1 a1).bind fun x5 =>
  if x5 = 0 then (
    some (-1)
  ) else (
    if a2 = 0 then (
      (f_X3_sizeIn v.1 a1).bind fun x61 =>
      some x61
    ) else (
      if a2 = 1 then (
        (f_X3_ranksIn v.1 a1).bind fun x70 =>
        some x70
      ) else (
        if a2 = 2 then (
          (f_X3_delayIn v.1 a1).bind fun x79 =>
          some x79
        ) else (
          if a2 = 3 then (
            (f_X3_hasFailed v.1 a1).bind fun x88 =>
            if x88 = 0 then (
              some 0
            ) else (
              some 1
            )
          ) else (
            if a2 = 4 then (
              (f_X3_isMapped v.1 a1).bind fun x105 =>
              if x105 = 0 then (
                some 0
              ) else (
                some 1
              )
            ) else (
              if a2 = 5 then (
                (f_X0_freeFrom v.2.2.1 a1 0).bind fun x123 =>
                some x123
              ) else (
                if a2 = 6 then (
                  (f_X3_ranksIn v.1 a1).bind fun x132 =>
                  if x132 = 2 then (
                    (f_X0_freeFrom v.2.2.1 a1 1).bind fun x145 =>
                    some x145
                  ) else (
                    some (-1)
                  )
                ) else (
                    (f_X3_readsIn v.1 a1).bind fun x158 =>
                    some x158
                )
              )
            )
          )
        )
      )
    )
  )
def f_X5_slot (v : VC) (a1 : Int32) (a2 : Int32) : Option (Nat ⊕ Int32) :=
  (f_X5_isSlot a1).bind fun x1 =>
  if x1 = 0 then (
    some (.inl 1)
  ) else (
    (f_X5_isWithin a2 0 7).bind fun x21 =>
    if x21 = 0 then (
      some (.inl 2)
    ) else (
      (f_X2_slotNumber (gSt v 0) a1 a2).bind fun x43 =>
      some (.inr x43)
    )
  )
def f_X2_rankOrNone (v : VSt) (a1 : Int32) (a2 : Int32) : Option Int32 :=
  (f_X3_isMapped v.1 a1).bind fun x5 =>
  if x5 = 0 then (
    some (-1)
  ) else (
    (f_X3_rankOf v.1 a1 a2).bind fun x17 =>
    some x17
  )
def f_X1_isWide (v : VLy) (a1 : Int32) : Option Int32 :=
  if a1 < v.2.2.2.2.2.2 then (
    some 1
  ) else (
    some 0
  )
def f_X2_blockNumber (v : VSt) (a1 : Int32) (a2 : Int32) : Option Int32 :=
  if a2 = 0 then (
    (f_X1_slotOf v.2.1 a1).bind fun x45 =>
    some x45
  ) else (
    if a2 = 1 then (
      (f_X1_numberOf v.2.1 a1).bind fun x54 =>
      some x54
    ) else (
      if a2 = 2 then (
        (f_X1_slotOf v.2.1 a1).bind fun x64 =>
        (f_X1_numberOf v.2.1 a1).bind fun x72 =>
        (f_X2_rankOrNone v x64 x72).bind fun x75 =>
        some x75
      ) else (
        if a2 = 3 then (
          (f_X1_isMirrored v.2.1).bind fun x83 =>
          if x83 = 0 then (
            (f_X1_isWide v.2.1 a1).bind fun x98 =>
            if x98 = 0 then (
              some 0
            ) else (
              some 1
            )
          ) else (
            some 2
          )
        ) else (
          if a2 = 4 then (
            (f_X1_slotAgainOf v.2.1 a1).bind fun x115 =>
            some x115
          ) else (
            if a2 = 5 then (
              (f_X1_numberAgainOf v.2.1 a1).bind fun x124 =>
              some x124
            ) else (
                (f_X2_canRead v a1).bind fun x130 =>
                if x130 = 0 then (
                  some 0
                ) else (
                  some 1
                )
            )
          )
        )
      )
    )
  )
def f_X5_where (v : VC) (a1 : Int32) (a2 : Int32) : Option (Nat ⊕ Int32) :=
  (f_X2_hasBlock (gSt v 0) a1).bind fun x5 =>
  if x5 = 0 then (
    some (.inl 1)
  ) else (
    (f_X5_isWithin a2 0 6).bind fun x25 =>
    if x25 = 0 then (
      some (.inl 2)
    ) else (
      (f_X2_blockNumber (gSt v 0) a1 a2).bind fun x47 =>
      some (.inr x47)
    )
  )
def f_X5_lies (v : VC) (a1 : Int32) (a2 : Int32) : Option (Nat ⊕ Int32) :=
  (f_X5_isSlot a1).bind fun x1 =>
  if x1 = 0 then (
    some (.inl 1)
  ) else (
    (f_X5_isWithin a2 0 11).bind fun x11 =>
    if x11 = 0 then (
      some (.inl 1)
    ) else (
      (f_X1_blockAt (v.2.1 0) a1 a2).bind fun x36 =>
      some (.inr x36)
    )
  )
def l_X3_failedOnes_4 (v : VSk) : Nat → Int32 → Int32 → Option Int32
  | 0, _, _ => none
  | n + 1, s1, s2 =>
    if s2 < 4 then (
      (f_X3_hasFailed v s2).bind fun x12 =>
      if x12 = 0 then (
        l_X3_failedOnes_4 v n (s1 + 0) (s2 + 1)
      ) else (
        l_X3_failedOnes_4 v n (s1 + 1) (s2 + 1)
      )
    ) else (
      some s1
    )
def f_X3_failedOnes (v : VSk) : Option Int32 :=
  l_X3_failedOnes_4 v FU 0 0
def l_X2_lostBlocks_4 (v : VSt) : Nat → Int32 → Int32 → Option Int32
  | 0, _, _ => none
  | n + 1, s1, s2 =>
    if s2 < v.2.1.2.2.2.2.2.1 then (
      (f_X2_canRead v s2).bind fun x18 =>
      if x18 = 0 then (
        l_X2_lostBlocks_4 v n (s1 + 1) (s2 + 1)
      ) else (
        l_X2_lostBlocks_4 v n (s1 + 0) (s2 + 1)
      )
    ) else (
      some s1
    )
def f_X2_lostBlocks (v : VSt) : Option Int32 :=
  l_X2_lostBlocks_4 v FU 0 0
def l_X2_sumOfValues_4 (v : VSt) : Nat → Int32 → Int32 → Option Int32
  | 0, _, _ => none
  | n + 1, s1, s2 =>
    if s2 < v.2.1.2.2.2.2.2.1 then (
      (f_X2_canRead v s2).bind fun x18 =>
      if x18 = 0 then (
        l_X2_sumOfValues_4 v n (s1 + 0) (s2 + 1)
      ) else (
        (f_X2_heldBy v s2).bind fun x26 =>
        l_X2_sumOfValues_4 v n (s1 + x26) (s2 + 1)
      )
    ) else (
      some s1
    )
def f_X2_sumOfValues (v : VSt) : Option Int32 :=
  l_X2_sumOfValues_4 v FU 0 0
def f_X5_countOf (v : VC) (a1 : Int32) : Option Int32 :=
  if a1 = 0 then (
    (f_X3_pluggedOnes (v.1 0)).bind fun x67 =>
    some x67
  ) else (
    if a1 = 1 then (
      (f_X3_failedOnes (v.1 0)).bind fun x78 =>
      some x78
    ) else (
      if a1 = 2 then (
        some (v.2.1 0).2.2.2.2.2.1
      ) else (
        if a1 = 3 then (
          some (v.2.1 0).2.2.2.2.2.2
        ) else (
          if a1 = 4 then (
            some (v.2.2.1 0).2.1
          ) else (
            if a1 = 5 then (
              some (v.2.2.2.2.1 0).2.2.1
            ) else (
              if a1 = 6 then (
                some (v.2.2.2.2.1 0).2.2.2.1
              ) else (
                if a1 = 7 then (
                  some (v.2.2.1 0).2.2
                ) else (
                  if a1 = 8 then (
                    (f_X2_lostBlocks (gSt v 0)).bind fun x146 =>
                    some x146
                  ) else (
                    if a1 = 9 then (
                      some (v.2.2.2.2.1 0).2.2.2.2
                    ) else (
                      if a1 = 10 then (
                        (f_X2_sumOfValues (gSt v 0)).bind fun x162 =>
                        some x162
                      ) else (
                          some v.2.2.2.2.2.2.2.1
                      )
                    )
                  )
                )
              )
            )
          )
        )
      )
    )
  )
def f_X5_count (v : VC) (a1 : Int32) : Option (Nat ⊕ Int32) :=
  (f_X5_isWithin a1 0 11).bind fun x4 =>
  if x4 = 0 then (
    some (.inl 2)
  ) else (
    (f_X5_countOf v a1).bind fun x22 =>
    some (.inr x22)
  )
def f_X5_setting (v : VC) (a1 : Int32) : Option (Nat ⊕ Int32) :=
  (f_X5_isWithin a1 0 1).bind fun x3 =>
  if x3 = 0 then (
    some (.inl 1)
  ) else (
    (f_X2_settingOf (gSt v 0) a1).bind fun x24 =>
    some (.inr x24)
  )
def f_X5_why (v : VC) : Option Int32 :=
  (f_X3_hindrance (v.1 0) (v.2.2.2.2.1 0).1).bind fun x14 =>
  some x14
def f_X0_reset (v : VCk) : Option VCk :=
  (f_fill 8 v.1 0).bind fun x5 =>
  some (x5, 0, 0)
def f_X5_trialRank (v : VC) (a1 : Int32) : Option Int32 :=
  (f_X1_slotOf (v.2.1 8) a1).bind fun x12 =>
  (f_X1_numberOf (v.2.1 8) a1).bind fun x20 =>
  (f_X3_rankRow (v.1 0) x12 x20).bind fun x23 =>
  some x23
def f_X1_beginsPair (v : VLy) (a1 : Int32) : Option Int32 :=
  (f_X1_isWide v a1).bind fun x2 =>
  if x2 = 0 then (
    some 0
  ) else (
    if (a1 &&& 1) = 0 then (
      some 1
    ) else (
      some 0
    )
  )
def f_X5_trialDelay (v : VC) (a1 : Int32) : Option Int32 :=
  (f_X1_slotOf (v.2.1 8) a1).bind fun x12 =>
  (f_X3_delayIn (v.1 0) x12).bind fun x15 =>
  some x15
def f_X0_readPair (v : VCk) (a1 : Int32) (a2 : Int32) (a3 : Int32) (a4 : Int32) : Option VCk :=
  (f_X0_waitFor v a1).bind fun x2 =>
  (f_X0_waitFor x2 a3).bind fun x7 =>
  (f_X0_occupy x7 a1 a2).bind fun x13 =>
  (f_X0_occupy x13 a3 a4).bind fun x20 =>
  (f_X0_pass x20 1).bind fun x25 =>
  some x25
def l_X5_sweepTicks_42 : Nat → VC → Int32 → Option (Int32 × VC)
  | 0, _, _ => none
  | n + 1, v, s3 =>
    if s3 < (v.2.1 8).2.2.2.2.2.1 then (
      (f_X5_trialRank v s3).bind fun x55 =>
      (f_X1_beginsPair (v.2.1 8) s3).bind fun x65 =>
      if x65 = 0 then (
        (f_X5_trialDelay v s3).bind fun x116 =>
        (f_X0_readSingle (v.2.2.1 8) x55 x116).bind fun x119 =>
        l_X5_sweepTicks_42 n (sCk v 8 x119) (s3 + 1)
      ) else (
        (f_X5_trialRank v (s3 + 1)).bind fun x75 =>
        (f_X5_trialDelay v s3).bind fun x88 =>
        (f_X5_trialDelay v (s3 + 1)).bind fun x97 =>
        (f_X0_readPair (v.2.2.1 8) x55 x88 x75 x97).bind fun x100 =>
        l_X5_sweepTicks_42 n (sCk v 8 x100) (s3 + 2)
      )
    ) else (
      some ((v.2.2.1 8).2.1, v)
    )
def f_X5_sweepTicks (v : VC) (a1 : Int32) : Option (Int32 × VC) :=
  (f_X3_hindrance (v.1 0) a1).bind fun x8 =>
  if x8 = 0 then (
    (f_X1_lay (v.2.1 8) (v.1 0) a1).bind fun x28 =>
    (f_X0_reset ((sLy v 8 x28).2.2.1 8)).bind fun x35 =>
    l_X5_sweepTicks_42 FU (sCk (sLy v 8 x28) 8 x35) 0
  ) else (
    some ((-1), v)
  )
def f_X5_sweep (v : VC) (a1 : Int32) : Option ((Nat × VC) ⊕ (Int32 × VC)) :=
  (f_X5_isWithin a1 0 2).bind fun x3 =>
  if x3 = 0 then (
    some (.inl (2, v))
  ) else (
    (f_X5_sweepTicks v a1).bind fun x21 =>
    some (.inr (x21.1, x21.2))
  )
def f_X5_blocksIfStarted (v : VC) (a1 : Int32) (a2 : Int32) : Option (Int32 × VC) :=
  (f_X3_hindrance (v.1 0) a1).bind fun x8 =>
  if x8 = 0 then (
    (f_X1_lay (v.2.1 8) (v.1 0) a1).bind fun x28 =>
    if a2 = 0 then (
      some (((sLy v 8 x28).2.1 8).2.2.2.2.2.1, (sLy v 8 x28))
    ) else (
      some (((sLy v 8 x28).2.1 8).2.2.2.2.2.2, (sLy v 8 x28))
    )
  ) else (
    some (0, v)
  )
def f_X5_ifStarted (v : VC) (a1 : Int32) (a2 : Int32) : Option ((Nat × VC) ⊕ (Int32 × VC)) :=
  (f_X5_isWithin a1 0 2).bind fun x3 =>
  if x3 = 0 then (
    some (.inl (2, v))
  ) else (
    (f_X5_isWithin a2 0 1).bind fun x12 =>
    if x12 = 0 then (
      some (.inl (2, v))
    ) else (
      (f_X5_blocksIfStarted v a1 a2).bind fun x31 =>
      some (.inr (x31.1, x31.2))
    )
  )
def b_X3_wideIfChanged_36 (v : VSk) (K8 : Int32 → Int32 → Int32 → Int32 → Int32 → Option Int32) (s1 : Int32) (s2 : Int32) (s3 : Int32) (s4 : Int32) (s5 : Int32) (t0 : Int32) : Option Int32 :=
  if s5 < 2 then (
    (f_X3_goodSizeIn v t0).bind fun x48 =>
    K8 s1 s2 (s3 + x48) s4 (s5 + 1)
  ) else (
    (f_X3_goodSizeIn v t0).bind fun x61 =>
    K8 s1 s2 s3 (s4 + x61) (s5 + 1)
  )
def l_X3_wideIfChanged_8 (v : VSk) : Nat → Int32 → Int32 → Int32 → Int32 → Int32 → Option Int32
  | 0, _, _, _, _, _ => none
  | n + 1, s1, s2, s3, s4, s5 =>
    if s5 < 4 then (
      if s5 = s1 then (
        b_X3_wideIfChanged_36 v (l_X3_wideIfChanged_8 v n) s1 s2 s3 s4 s5 s2
      ) else (
        if s5 = s2 then (
          b_X3_wideIfChanged_36 v (l_X3_wideIfChanged_8 v n) s1 s2 s3 s4 s5 s1
        ) else (
          b_X3_wideIfChanged_36 v (l_X3_wideIfChanged_8 v n) s1 s2 s3 s4 s5 s5
        )
      )
    ) else (
      (f_J9_min_7cf53 s3 s4).bind fun x77 =>
      some (2 * x77)
    )
def f_X3_wideIfChanged (v : VSk) (a1 : Int32) (a2 : Int32) : Option Int32 :=
  l_X3_wideIfChanged_8 v FU a1 a2 0 0 0
def l_X5_bestChange_27 (v : VC) (K17 : Int32 → Int32 → Int32 → Option Int32) : Nat → Int32 → Int32 → Int32 → Int32 → Option Int32
  | 0, _, _, _, _ => none
  | n + 1, s1, s2, s3, s4 =>
    if s4 < 4 then (
      (f_X3_wideIfChanged (v.1 0) s3 s4).bind fun x43 =>
      if s2 < x43 then (
        l_X5_bestChange_27 v K17 n ((4 * s3) + s4) x43 s3 (s4 + 1)
      ) else (
        l_X5_bestChange_27 v K17 n s1 s2 s3 (s4 + 1)
      )
    ) else (
      K17 s1 s2 (s3 + 1)
    )
def l_X5_bestChange_17 (v : VC) : Nat → Int32 → Int32 → Int32 → Option Int32
  | 0, _, _, _ => none
  | n + 1, s1, s2, s3 =>
    if s3 < 4 then (
      l_X5_bestChange_27 v (l_X5_bestChange_17 v n) FU s1 s2 s3 (s3 + 1)
    ) else (
      some s1
    )
def f_X5_bestChange (v : VC) : Option Int32 :=
  (f_X3_wideIfChanged (v.1 0) 0 0).bind fun x11 =>
  l_X5_bestChange_17 v FU (-1) x11 0
def f_X5_wideShare (v : VC) : Option UInt64 :=
  if (v.2.1 0).2.2.2.2.2.1 = 0 then (
    some FP.dconst0
  ) else (
    (dck (FP.ddiv (FP.i2d (v.2.1 0).2.2.2.2.2.2) (FP.i2d (v.2.1 0).2.2.2.2.2.1))).bind fun x32 =>
    some x32
  )
def f_X5_meanTicks (v : VC) : Option UInt32 :=
  if (v.2.2.2.2.1 0).2.2.1 = 0 then (
    some FP.fconst0
  ) else (
    (fck (FP.fdiv (FP.i2f (v.2.2.1 0).2.1) (FP.i2f (v.2.2.2.2.1 0).2.2.1))).bind fun x29 =>
    some x29
  )
