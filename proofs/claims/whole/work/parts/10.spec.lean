-- the pictures of the methods, by program out of claim/JAVAP.txt
def f_X5_isSlot (a0 : Int32) : Option Int32 :=
  if a0 < 0 then (
    some 0
  ) else (
    if a0 < 4 then (
      some 1
    ) else (
      some 0
    )
  )
def f_X5_isWithin (a0 : Int32) (a1 : Int32) (a2 : Int32) : Option Int32 :=
  if a0 < a1 then (
    some 0
  ) else (
    if a2 < a0 then (
      some 0
    ) else (
      some 1
    )
  )
def f_X5_entry (n0 : Nat) (f0 : Nat → Int32) (a1 : Int32) : Option Int32 :=
  if a1 < 0 then (
    some 0
  ) else (
    if a1 < (Int32.ofNat n0) then (
      (ard n0 f0 a1).bind fun x12 =>
      some x12
    ) else (
      some 0
    )
  )
def f_X3_isPlugged (v : VSk) (a1 : Int32) : Option Int32 :=
  (f_X5_entry 4 v.1 a1).bind fun x5 =>
  if 0 < x5 then (
    some 1
  ) else (
    some 0
  )
def l_X5_moveOldestToEnd_9 : Nat → VC → Nat → Int32 → Option VC
  | 0, _, _, _ => none
  | n + 1, v, p1, s2 =>
    if s2 < 6 then (
      (rdp 6 v.2.2.2.2.2.2.2.2 s2).bind fun x27 =>
      (wrp 6 v.2.2.2.2.2.2.2.2 (s2 - 1) x27).bind fun x28 =>
      l_X5_moveOldestToEnd_9 n (sSp v (v.2.2.2.2.2.2.1, v.2.2.2.2.2.2.2.1, x28)) p1 (s2 + 1)
    ) else (
      (wrp 6 v.2.2.2.2.2.2.2.2 5 p1).bind fun x41 =>
      some (sSp v (v.2.2.2.2.2.2.1, v.2.2.2.2.2.2.2.1, x41))
    )
def f_X5_moveOldestToEnd (v : VC) : Option VC :=
  (rdp 6 v.2.2.2.2.2.2.2.2 0).bind fun x5 =>
  l_X5_moveOldestToEnd_9 FU v x5 1
def l_X3_copyFrom_2 (u1 : VSk) : Nat → VSk → Int32 → Option VSk
  | 0, _, _ => none
  | n + 1, v, s2 =>
    if s2 < 4 then (
      (ard 4 u1.1 s2).bind fun x17 =>
      (aup 4 v.1 s2 x17).bind fun x18 =>
      (ard 4 u1.2.1 s2).bind fun x29 =>
      (aup 4 v.2.1 s2 x29).bind fun x30 =>
      (ard 4 u1.2.2.1 s2).bind fun x41 =>
      (aup 4 v.2.2.1 s2 x41).bind fun x42 =>
      (ard 4 u1.2.2.2.1 s2).bind fun x53 =>
      (aup 4 v.2.2.2.1 s2 x53).bind fun x54 =>
      (ard 4 u1.2.2.2.2.1 s2).bind fun x65 =>
      (aupz 4 v.2.2.2.2.1 s2 x65).bind fun x66 =>
      (ard 4 u1.2.2.2.2.2 s2).bind fun x77 =>
      (aupz 4 v.2.2.2.2.2 s2 x77).bind fun x78 =>
      l_X3_copyFrom_2 u1 n (x18, x30, x42, x54, x66, x78) (s2 + 1)
    ) else (
      some v
    )
def f_X3_copyFrom (v : VSk) (u1 : VSk) : Option VSk :=
  l_X3_copyFrom_2 u1 FU v 0
def f_X1_copyFrom (v : VLy) (u1 : VLy) : Option VLy :=
  (acp 4 4 u1.2.1 v.2.1 0 0 4).bind fun x19 =>
  some (u1.1, x19, u1.2.2.1, u1.2.2.2.1, u1.2.2.2.2.1, u1.2.2.2.2.2.1, u1.2.2.2.2.2.2)
def f_X0_copyFrom (v : VCk) (u1 : VCk) : Option VCk :=
  (acp 8 8 u1.1 v.1 0 0 8).bind fun x12 =>
  some (x12, u1.2.1, u1.2.2)
def f_X2_copyFrom (v : VSt) (u1 : VSt) : Option VSt :=
  (f_X3_copyFrom v.1 u1.1).bind fun x8 =>
  (f_X1_copyFrom v.2.1 u1.2.1).bind fun x19 =>
  (f_X0_copyFrom v.2.2.1 u1.2.2.1).bind fun x30 =>
  (acp 48 48 u1.2.2.2.1 v.2.2.2.1 0 0 48).bind fun x45 =>
  some (x8, x19, x30, x45, (u1.2.2.2.2.1, u1.2.2.2.2.2.1, u1.2.2.2.2.2.2.1, u1.2.2.2.2.2.2.2.1, u1.2.2.2.2.2.2.2.2))
def b_X5_saveState_25 (v : VC) : Option VC :=
  (rdp 6 v.2.2.2.2.2.2.2.2 v.2.2.2.2.2.2.2.1).bind fun x33 =>
  (f_X2_copyFrom (gSt v x33) (gSt v 0)).bind fun x44 =>
  some (sSp (sSt v x33 x44) ((sSt v x33 x44).2.2.2.2.2.2.1, ((sSt v x33 x44).2.2.2.2.2.2.2.1 + 1), (sSt v x33 x44).2.2.2.2.2.2.2.2))
def b_X5_saveState_16 (v : VC) : Option VC :=
  (f_X5_moveOldestToEnd v).bind fun x17 =>
  b_X5_saveState_25 (sSp x17 (x17.2.2.2.2.2.2.1, 5, x17.2.2.2.2.2.2.2.2))
def f_X5_saveState (v : VC) : Option VC :=
  if v.2.2.2.2.2.2.2.1 < 0 then (
    b_X5_saveState_16 v
  ) else (
    if v.2.2.2.2.2.2.2.1 < 6 then (
      b_X5_saveState_25 v
    ) else (
      b_X5_saveState_16 v
    )
  )
def f_X3_put (v : VSk) (a1 : Int32) (a2 : Int32) (a3 : Int32) (a4 : Int32) : Option VSk :=
  (f_X5_isSlot a1).bind fun x1 =>
  if x1 = 0 then (
    some v
  ) else (
    (aup 4 v.1 a1 a2).bind fun x13 =>
    (aup 4 v.2.1 a1 a3).bind fun x20 =>
    (aup 4 v.2.2.1 a1 a4).bind fun x28 =>
    (aup 4 v.2.2.2.1 a1 0).bind fun x35 =>
    (aupz 4 v.2.2.2.2.1 a1 0).bind fun x42 =>
    (aupz 4 v.2.2.2.2.2 a1 0).bind fun x49 =>
    some (x13, x20, x28, x35, x42, x49)
  )
def f_X0_freeSlot (v : VCk) (a1 : Int32) : Option VCk :=
  (f_X5_isSlot a1).bind fun x1 =>
  if x1 = 0 then (
    some v
  ) else (
    (aup 8 v.1 (2 * a1) 0).bind fun x15 =>
    (aup 8 x15 ((2 * a1) + 1) 0).bind fun x26 =>
    some (x26, v.2)
  )
def l_X3_pluggedOnes_4 (v : VSk) : Nat → Int32 → Int32 → Option Int32
  | 0, _, _ => none
  | n + 1, s1, s2 =>
    if s2 < 4 then (
      (f_X3_isPlugged v s2).bind fun x12 =>
      if x12 = 0 then (
        l_X3_pluggedOnes_4 v n (s1 + 0) (s2 + 1)
      ) else (
        l_X3_pluggedOnes_4 v n (s1 + 1) (s2 + 1)
      )
    ) else (
      some s1
    )
def f_X3_pluggedOnes (v : VSk) : Option Int32 :=
  l_X3_pluggedOnes_4 v FU 0 0
def f_X5_plug (v : VC) (a1 : Int32) (a2 : Int32) (a3 : Int32) (a4 : Int32) : Option ((Nat × VC) ⊕ (Int32 × VC)) :=
  (f_X5_isSlot a1).bind fun x1 =>
  if x1 = 0 then (
    some (.inl (1, v))
  ) else (
    (f_X5_isWithin a2 1 12).bind fun x21 =>
    if x21 = 0 then (
      some (.inl (2, v))
    ) else (
      (f_X5_isWithin a3 1 2).bind fun x30 =>
      if x30 = 0 then (
        some (.inl (2, v))
      ) else (
        (f_X5_isWithin a4 1 9).bind fun x41 =>
        if x41 = 0 then (
          some (.inl (2, v))
        ) else (
          (f_X3_isPlugged (v.1 0) a1).bind fun x65 =>
          if x65 = 0 then (
            (f_X5_saveState v).bind fun x82 =>
            (f_X3_put (x82.1 0) a1 a2 a3 a4).bind fun x97 =>
            (f_X0_freeSlot ((sSk x82 0 x97).2.2.1 0) a1).bind fun x108 =>
            (f_X3_pluggedOnes ((sCk (sSk x82 0 x97) 0 x108).1 0)).bind fun x118 =>
            some (.inr (x118, (sCk (sSk x82 0 x97) 0 x108)))
          ) else (
            some (.inl (3, v))
          )
        )
      )
    )
  )
def f_X3_isLeft (v : VSk) (a1 : Int32) : Option Int32 :=
  (f_X5_isSlot a1).bind fun x1 =>
  if x1 = 0 then (
    some 0
  ) else (
    (ard 4 v.2.2.2.2.2 a1).bind fun x12 =>
    if x12 = 0 then (
      some 0
    ) else (
      (ard 4 v.2.2.2.2.1 a1).bind fun x21 =>
      if x21 = 0 then (
        some 1
      ) else (
        some 0
      )
    )
  )
def f_X1_isMirrored (v : VLy) : Option Int32 :=
  if v.1 = 2 then (
    some 1
  ) else (
    some 0
  )
def b_X1_blockAt_51 (v : VLy) (s3 : Int32) (t0 : Int32) : Option Int32 :=
  (f_X1_isMirrored v).bind fun x54 =>
  if x54 = 0 then (
    if v.1 = 0 then (
      if t0 < v.2.2.2.2.1 then (
        some ((2 * t0) + s3)
      ) else (
        some (t0 + v.2.2.2.2.1)
      )
    ) else (
      if s3 = 0 then (
        some t0
      ) else (
        some (v.2.2.1 + t0)
      )
    )
  ) else (
    if t0 < v.2.2.2.2.2.1 then (
      some t0
    ) else (
      some (-1)
    )
  )
def b_X1_blockAt_28 (v : VLy) (s1 : Int32) (s2 : Int32) (t0 : Int32) : Option Int32 :=
  if (s1 &&& 1) = 0 then (
    b_X1_blockAt_51 v t0 s2
  ) else (
    (f_X5_entry 4 v.2.1 (s1 - 1)).bind fun x47 =>
    b_X1_blockAt_51 v t0 (s2 + x47)
  )
def f_X1_blockAt (v : VLy) (a1 : Int32) (a2 : Int32) : Option Int32 :=
  if a2 < 0 then (
    some (-1)
  ) else (
    (f_X5_entry 4 v.2.1 a1).bind fun x10 =>
    if a2 < x10 then (
      if a1 < 2 then (
        b_X1_blockAt_28 v a1 a2 0
      ) else (
        b_X1_blockAt_28 v a1 a2 1
      )
    ) else (
      some (-1)
    )
  )
def l_X1_usedIn_4 (v : VLy) : Nat → Int32 → Int32 → Int32 → Option Int32
  | 0, _, _, _ => none
  | n + 1, s1, s2, s3 =>
    if s3 < 12 then (
      (f_X1_blockAt v s1 s3).bind fun x14 =>
      if x14 = (-1) then (
        l_X1_usedIn_4 v n s1 (s2 + 0) (s3 + 1)
      ) else (
        l_X1_usedIn_4 v n s1 (s2 + 1) (s3 + 1)
      )
    ) else (
      some s2
    )
def f_X1_usedIn (v : VLy) (a1 : Int32) : Option Int32 :=
  l_X1_usedIn_4 v FU a1 0 0
def f_X2_usedPlaces (v : VSt) (a1 : Int32) : Option Int32 :=
  (f_X3_isLeft v.1 a1).bind fun x5 =>
  if x5 = 0 then (
    some 0
  ) else (
    (f_X1_usedIn v.2.1 a1).bind fun x16 =>
    some x16
  )
def f_X3_take (v : VSk) (a1 : Int32) : Option VSk :=
  (f_X3_put v a1 0 0 0).bind fun x5 =>
  some x5
def f_X5_pull (v : VC) (a1 : Int32) : Option ((Nat × VC) ⊕ (Int32 × VC)) :=
  (f_X5_isSlot a1).bind fun x1 =>
  if x1 = 0 then (
    some (.inl (1, v))
  ) else (
    (f_X3_isPlugged (v.1 0) a1).bind fun x25 =>
    if x25 = 0 then (
      some (.inl (3, v))
    ) else (
      (f_X5_saveState v).bind fun x42 =>
      (f_X2_usedPlaces (gSt x42 0) a1).bind fun x50 =>
      (f_X3_take (x42.1 0) a1).bind fun x62 =>
      some (.inr (x50, (sSk x42 0 x62)))
    )
  )
def f_X3_isGood (v : VSk) (a1 : Int32) : Option Int32 :=
  (f_X5_isSlot a1).bind fun x1 =>
  if x1 = 0 then (
    some 0
  ) else (
    (ard 4 v.1 a1).bind fun x12 =>
    if 0 < x12 then (
      (ard 4 v.2.2.2.2.1 a1).bind fun x21 =>
      if x21 = 0 then (
        some 1
      ) else (
        some 0
      )
    ) else (
      some 0
    )
  )
def f_X3_spoil (v : VSk) (a1 : Int32) : Option VSk :=
  (f_X5_isSlot a1).bind fun x1 =>
  if x1 = 0 then (
    some v
  ) else (
    (aupz 4 v.2.2.2.2.1 a1 1).bind fun x13 =>
    some (v.1, v.2.1, v.2.2.1, v.2.2.2.1, x13, v.2.2.2.2.2)
  )
def f_X5_fail (v : VC) (a1 : Int32) : Option ((Nat × VC) ⊕ (Int32 × VC)) :=
  (f_X5_isSlot a1).bind fun x1 =>
  if x1 = 0 then (
    some (.inl (1, v))
  ) else (
    (f_X3_isGood (v.1 0) a1).bind fun x25 =>
    if x25 = 0 then (
      some (.inl (3, v))
    ) else (
      (f_X5_saveState v).bind fun x42 =>
      (f_X2_usedPlaces (gSt x42 0) a1).bind fun x50 =>
      (f_X3_spoil (x42.1 0) a1).bind fun x62 =>
      some (.inr (x50, (sSk x42 0 x62)))
    )
  )
def f_X3_goodSizeIn (v : VSk) (a1 : Int32) : Option Int32 :=
  (f_X3_isGood v a1).bind fun x2 =>
  if x2 = 0 then (
    some 0
  ) else (
    (f_X5_entry 4 v.1 a1).bind fun x13 =>
    some x13
  )
def f_X3_hindrance (v : VSk) (a1 : Int32) : Option Int32 :=
  (f_X3_goodSizeIn v 0).bind fun x2 =>
  (f_X3_goodSizeIn v 1).bind fun x7 =>
  (f_X3_goodSizeIn v 2).bind fun x14 =>
  (f_X3_goodSizeIn v 3).bind fun x19 =>
  if ((x2 + x7) + (x14 + x19)) = 0 then (
    some 1
  ) else (
    if a1 = 2 then (
      if (x2 + x7) = 0 then (
        some 2
      ) else (
        if (x14 + x19) = 0 then (
          some 2
        ) else (
          some 0
        )
      )
    ) else (
      some 0
    )
  )
def f_J9_min_7cf53 (a0 : Int32) (a1 : Int32) : Option Int32 :=
  if a1 < a0 then (
    some a1
  ) else (
    some a0
  )
def b_X1_lay_103 (u2 : VSk) (v : VLy) (t0 : Int32) : Option VLy :=
  if v.1 = 0 then (
    some (v.1, v.2.1, v.2.2.1, v.2.2.2.1, v.2.2.2.2.1, t0, (2 * v.2.2.2.2.1))
  ) else (
    some (v.1, v.2.1, v.2.2.1, v.2.2.2.1, v.2.2.2.2.1, t0, 0)
  )
def l_X1_lay_7 (u2 : VSk) : Nat → VLy → Int32 → Option VLy
  | 0, _, _ => none
  | n + 1, v, s3 =>
    if s3 < 4 then (
      (f_X3_goodSizeIn u2 s3).bind fun x19 =>
      (aup 4 v.2.1 s3 x19).bind fun x22 =>
      l_X1_lay_7 u2 n (v.1, x22, v.2.2) (s3 + 1)
    ) else (
      (ard 4 v.2.1 0).bind fun x35 =>
      (ard 4 v.2.1 1).bind fun x41 =>
      (ard 4 v.2.1 2).bind fun x52 =>
      (ard 4 v.2.1 3).bind fun x58 =>
      (f_J9_min_7cf53 (x35 + x41) (x52 + x58)).bind fun x72 =>
      if v.1 = 2 then (
        b_X1_lay_103 u2 (v.1, v.2.1, (x35 + x41), (x52 + x58), x72, v.2.2.2.2.2) x72
      ) else (
        b_X1_lay_103 u2 (v.1, v.2.1, (x35 + x41), (x52 + x58), x72, v.2.2.2.2.2) ((x35 + x41) + (x52 + x58))
      )
    )
def f_X1_lay (v : VLy) (u2 : VSk) (a1 : Int32) : Option VLy :=
  l_X1_lay_7 u2 FU (a1, v.2) 0
def l_X3_mapGoodOnes_2 : Nat → VSk → Int32 → Option VSk
  | 0, _, _ => none
  | n + 1, v, s1 =>
    if s1 < 4 then (
      (f_X3_isGood v s1).bind fun x14 =>
      (aupz 4 v.2.2.2.2.2 s1 x14).bind fun x17 =>
      l_X3_mapGoodOnes_2 n (v.1, v.2.1, v.2.2.1, v.2.2.2.1, v.2.2.2.2.1, x17) (s1 + 1)
    ) else (
      some v
    )
def f_X3_mapGoodOnes (v : VSk) : Option VSk :=
  l_X3_mapGoodOnes_2 FU v 0
def f_X0_freeAllNow (v : VCk) : Option VCk :=
  (f_fill 8 v.1 v.2.1).bind fun x8 =>
  some (x8, v.2)
def f_X2_begin (v : VSt) : Option VSt :=
  (f_X1_lay v.2.1 v.1 v.2.2.2.2.1).bind fun x12 =>
  (f_X3_mapGoodOnes v.1).bind fun x19 =>
  (f_X0_freeAllNow v.2.2.1).bind fun x26 =>
  (f_fill 48 v.2.2.2.1 0).bind fun x34 =>
  some (x19, x12, x26, x34, (v.2.2.2.2.1, v.2.2.2.2.2.1, v.2.2.2.2.2.2.1, v.2.2.2.2.2.2.2.1, (v.2.2.2.2.2.2.2.2 + 1)))
def f_X5_start (v : VC) : Option ((Nat × VC) ⊕ (Int32 × VC)) :=
  (f_X3_hindrance (v.1 0) (v.2.2.2.2.1 0).1).bind fun x14 =>
  if x14 = 0 then (
    (f_X5_saveState v).bind fun x31 =>
    (f_X2_begin (gSt x31 0)).bind fun x38 =>
    some (.inr (((sSt x31 0 x38).2.1 0).2.2.2.2.2.1, (sSt x31 0 x38)))
  ) else (
    some (.inl (3, v))
  )
def f_X1_isLaid (v : VLy) : Option Int32 :=
  if v.1 = (-1) then (
    some 0
  ) else (
    some 1
  )
def f_X1_clear (v : VLy) : Option VLy :=
  (f_fill 4 v.2.1 0).bind fun x10 =>
  some ((-1), x10, 0, 0, 0, 0, 0)
def l_X3_unmapAll_2 : Nat → VSk → Int32 → Option VSk
  | 0, _, _ => none
  | n + 1, v, s1 =>
    if s1 < 4 then (
      (aupz 4 v.2.2.2.2.2 s1 0).bind fun x13 =>
      l_X3_unmapAll_2 n (v.1, v.2.1, v.2.2.1, v.2.2.2.1, v.2.2.2.2.1, x13) (s1 + 1)
    ) else (
      some v
    )
def f_X3_unmapAll (v : VSk) : Option VSk :=
  l_X3_unmapAll_2 FU v 0
def f_X2_end (v : VSt) : Option VSt :=
  (f_X1_clear v.2.1).bind fun x4 =>
  (f_X3_unmapAll v.1).bind fun x11 =>
  some (x11, x4, v.2.2)
def f_X5_stop (v : VC) : Option ((Nat × VC) ⊕ (Int32 × VC)) :=
  (f_X1_isLaid (v.2.1 0)).bind fun x7 =>
  if x7 = 0 then (
    some (.inl (3, v))
  ) else (
    (f_X5_saveState v).bind fun x24 =>
    (f_X2_end (gSt x24 0)).bind fun x42 =>
    some (.inr ((x24.2.1 0).2.2.2.2.2.1, (sSt x24 0 x42)))
  )
def f_X2_hasBlock (v : VSt) (a1 : Int32) : Option Int32 :=
  if a1 < 0 then (
    some 0
  ) else (
    if a1 < v.2.1.2.2.2.2.2.1 then (
      some 1
    ) else (
      some 0
    )
  )
def f_X1_channelOf (v : VLy) (a1 : Int32) : Option Int32 :=
  if v.1 = 2 then (
    some 0
  ) else (
    if a1 < v.2.2.2.2.2.2 then (
      some (a1 &&& 1)
    ) else (
      if v.1 = 0 then (
        if v.2.2.2.1 < v.2.2.1 then (
          some 0
        ) else (
          some 1
        )
      ) else (
        if a1 < v.2.2.1 then (
          some 0
        ) else (
          some 1
        )
      )
    )
  )
def f_X1_indexOf (v : VLy) (a1 : Int32) : Option Int32 :=
  if a1 < v.2.2.2.2.2.2 then (
    some (a1 / 2)
  ) else (
    if v.1 = 0 then (
      some (a1 - v.2.2.2.2.1)
    ) else (
      if v.1 = 2 then (
        some a1
      ) else (
        if a1 < v.2.2.1 then (
          some a1
        ) else (
          some (a1 - v.2.2.1)
        )
      )
    )
  )
def f_X1_slotAt (v : VLy) (a1 : Int32) (a2 : Int32) : Option Int32 :=
  if a1 = 0 then (
    (ard 4 v.2.1 0).bind fun x10 =>
    if a2 < x10 then (
      some 0
    ) else (
      some 1
    )
  ) else (
    (ard 4 v.2.1 2).bind fun x26 =>
    if a2 < x26 then (
      some 2
    ) else (
      some 3
    )
  )
def f_X1_slotOf (v : VLy) (a1 : Int32) : Option Int32 :=
  (f_X1_channelOf v a1).bind fun x3 =>
  (f_X1_indexOf v a1).bind fun x8 =>
  (f_X1_slotAt v x3 x8).bind fun x11 =>
  some x11
def f_X1_slotAgainOf (v : VLy) (a1 : Int32) : Option Int32 :=
  (f_X1_isMirrored v).bind fun x1 =>
  if x1 = 0 then (
    some (-1)
  ) else (
    (f_X1_slotAt v 1 a1).bind fun x10 =>
    some x10
  )
def f_X2_readSlotOf (v : VSt) (a1 : Int32) : Option Int32 :=
  (f_X1_slotOf v.2.1 a1).bind fun x5 =>
  (f_X3_isLeft v.1 x5).bind fun x14 =>
  if x14 = 0 then (
    (f_X1_slotAgainOf v.2.1 a1).bind fun x27 =>
    (f_X3_isLeft v.1 x27).bind fun x36 =>
    if x36 = 0 then (
      some (-1)
    ) else (
      some x27
    )
  ) else (
    some x5
  )
def f_X2_canRead (v : VSt) (a1 : Int32) : Option Int32 :=
  (f_X2_hasBlock v a1).bind fun x2 =>
  if x2 = 0 then (
    some 0
  ) else (
    (f_X2_readSlotOf v a1).bind fun x10 =>
    if x10 = (-1) then (
      some 0
    ) else (
      some 1
    )
  )
def f_X2_heldBy (v : VSt) (a1 : Int32) : Option Int32 :=
  (f_X5_entry 48 v.2.2.2.1 a1).bind fun x5 =>
  some x5
def f_X2_exchange (v : VSt) (a1 : Int32) (a2 : Int32) : Option (Int32 × VSt) :=
  (f_X2_heldBy v a1).bind fun x2 =>
  if a1 < 0 then (
    some (x2, v)
  ) else (
    if a1 < 48 then (
      (aup 48 v.2.2.2.1 a1 a2).bind fun x25 =>
      some (x2, (v.1, v.2.1, v.2.2.1, x25, v.2.2.2.2))
    ) else (
      some (x2, v)
    )
  )
def f_X5_write (v : VC) (a1 : Int32) (a2 : Int32) : Option ((Nat × VC) ⊕ (Int32 × VC)) :=
  (f_X2_hasBlock (gSt v 0) a1).bind fun x5 =>
  if x5 = 0 then (
    some (.inl (1, v))
  ) else (
    (f_X5_isWithin a2 0 99).bind fun x25 =>
    if x25 = 0 then (
      some (.inl (2, v))
    ) else (
      (f_X2_canRead (gSt v 0) a1).bind fun x46 =>
      if x46 = 0 then (
        some (.inl (3, v))
      ) else (
        (f_X5_saveState v).bind fun x63 =>
        (f_X2_exchange (gSt x63 0) a1 a2).bind fun x72 =>
        some (.inr (x72.1, (sSt x63 0 x72.2)))
      )
    )
  )
def b_X1_numberAt_19 (v : VLy) (s2 : Int32) (t0 : Int32) : Option Int32 :=
  if s2 < t0 then (
    some s2
  ) else (
    some (s2 - t0)
  )
def f_X1_numberAt (v : VLy) (a1 : Int32) (a2 : Int32) : Option Int32 :=
  if a1 = 0 then (
    (ard 4 v.2.1 0).bind fun x9 =>
    b_X1_numberAt_19 v a2 x9
  ) else (
    (ard 4 v.2.1 2).bind fun x18 =>
    b_X1_numberAt_19 v a2 x18
  )
def f_X1_numberAgainOf (v : VLy) (a1 : Int32) : Option Int32 :=
  (f_X1_isMirrored v).bind fun x1 =>
  if x1 = 0 then (
    some (-1)
  ) else (
    (f_X1_numberAt v 1 a1).bind fun x10 =>
    some x10
  )
def f_X1_numberOf (v : VLy) (a1 : Int32) : Option Int32 :=
  (f_X1_channelOf v a1).bind fun x3 =>
  (f_X1_indexOf v a1).bind fun x8 =>
  (f_X1_numberAt v x3 x8).bind fun x11 =>
  some x11
def f_X3_rankOf (v : VSk) (a1 : Int32) (a2 : Int32) : Option Int32 :=
  (f_X5_entry 4 v.2.1 a1).bind fun x5 =>
  if x5 = 2 then (
    some (a2 &&& 1)
  ) else (
    some 0
  )
def f_X3_rankRow (v : VSk) (a1 : Int32) (a2 : Int32) : Option Int32 :=
  (f_X3_rankOf v a1 a2).bind fun x6 =>
  some ((2 * a1) + x6)
def b_X2_readRankOf_47 (v : VSt) (s2 : Int32) (t0 : Int32) : Option Int32 :=
  (f_X3_rankRow v.1 s2 t0).bind fun x56 =>
  some x56
def b_X2_readRankOf_23 (v : VSt) (s1 : Int32) (s2 : Int32) (t0 : Int32) : Option Int32 :=
  if t0 = 0 then (
    (f_X1_numberOf v.2.1 s1).bind fun x44 =>
    b_X2_readRankOf_47 v s2 x44
  ) else (
    (f_X1_numberAgainOf v.2.1 s1).bind fun x33 =>
    b_X2_readRankOf_47 v s2 x33
  )
def f_X2_readRankOf (v : VSt) (a1 : Int32) : Option Int32 :=
  (f_X2_readSlotOf v a1).bind fun x2 =>
  (f_X1_slotOf v.2.1 a1).bind fun x12 =>
  if x2 = x12 then (
    b_X2_readRankOf_23 v a1 x2 0
  ) else (
    b_X2_readRankOf_23 v a1 x2 1
  )
def f_X3_delayIn (v : VSk) (a1 : Int32) : Option Int32 :=
  (f_X5_entry 4 v.2.2.1 a1).bind fun x5 =>
  some x5
def f_X0_waitFor (v : VCk) (a1 : Int32) : Option VCk :=
  (f_X5_entry 8 v.1 a1).bind fun x5 =>
  if v.2.1 < x5 then (
    some (v.1, x5, (v.2.2 + (x5 - v.2.1)))
  ) else (
    some v
  )
def f_X0_occupy (v : VCk) (a1 : Int32) (a2 : Int32) : Option VCk :=
  if a1 < 0 then (
    some v
  ) else (
    if a1 < 8 then (
      (aup 8 v.1 a1 (v.2.1 + a2)).bind fun x24 =>
      some (x24, v.2)
    ) else (
      some v
    )
  )
def f_X0_pass (v : VCk) (a1 : Int32) : Option VCk :=
  some (v.1, (v.2.1 + a1), v.2.2)
def f_X0_readSingle (v : VCk) (a1 : Int32) (a2 : Int32) : Option VCk :=
  (f_X0_waitFor v a1).bind fun x2 =>
  (f_X0_occupy x2 a1 a2).bind fun x8 =>
  (f_X0_pass x8 1).bind fun x13 =>
  some x13
def f_X3_tellRead (v : VSk) (a1 : Int32) : Option VSk :=
  (f_X5_isSlot a1).bind fun x1 =>
  if x1 = 0 then (
    some v
  ) else (
    (ard 4 v.2.2.2.1 a1).bind fun x13 =>
    (aup 4 v.2.2.2.1 a1 (x13 + 1)).bind fun x16 =>
    some (v.1, v.2.1, v.2.2.1, x16, v.2.2.2.2)
  )
def f_X2_readOne (v : VSt) (a1 : Int32) : Option (Int32 × VSt) :=
  (f_X2_readSlotOf v a1).bind fun x2 =>
  (f_X2_readRankOf v a1).bind fun x12 =>
  (f_X3_delayIn v.1 x2).bind fun x20 =>
  (f_X0_readSingle v.2.2.1 x12 x20).bind fun x23 =>
  (f_X3_tellRead v.1 x2).bind fun x31 =>
  (f_X2_heldBy (x31, v.2.1, x23, v.2.2.2.1, (v.2.2.2.2.1, v.2.2.2.2.2.1, (v.2.2.2.2.2.2.1 + 1), v.2.2.2.2.2.2.2)) a1).bind fun x46 =>
  some (x46, (x31, v.2.1, x23, v.2.2.2.1, (v.2.2.2.2.1, v.2.2.2.2.2.1, (v.2.2.2.2.2.2.1 + 1), v.2.2.2.2.2.2.2)))
def f_X5_read (v : VC) (a1 : Int32) : Option ((Nat × VC) ⊕ (Int32 × VC)) :=
  (f_X2_hasBlock (gSt v 0) a1).bind fun x5 =>
  if x5 = 0 then (
    some (.inl (1, v))
  ) else (
    (f_X2_canRead (gSt v 0) a1).bind fun x26 =>
    if x26 = 0 then (
      some (.inl (3, v))
    ) else (
      (f_X5_saveState v).bind fun x43 =>
      (f_X2_readOne (gSt x43 0) a1).bind fun x51 =>
      some (.inr (x51.1, (sSt x43 0 x51.2)))
    )
  )
def f_X5_rest (v : VC) (a1 : Int32) : Option ((Nat × VC) ⊕ (Int32 × VC)) :=
  (f_X5_isWithin a1 1 99).bind fun x4 =>
  if x4 = 0 then (
    some (.inl (2, v))
  ) else (
    (f_X5_saveState v).bind fun x21 =>
    (f_X0_pass (x21.2.2.1 0) a1).bind fun x32 =>
    some (.inr (((sCk x21 0 x32).2.2.1 0).2.1, (sCk x21 0 x32)))
  )
def f_X2_settingOf (v : VSt) (a1 : Int32) : Option Int32 :=
  if a1 = 1 then (
    some v.2.2.2.2.2.1
  ) else (
    some v.2.2.2.2.1
  )
def f_X2_exchangeSetting (v : VSt) (a1 : Int32) (a2 : Int32) : Option (Int32 × VSt) :=
  (f_X2_settingOf v a1).bind fun x2 =>
  if a1 = 1 then (
    some (x2, (v.1, v.2.1, v.2.2.1, v.2.2.2.1, (v.2.2.2.2.1, a2, v.2.2.2.2.2.2)))
  ) else (
    some (x2, (v.1, v.2.1, v.2.2.1, v.2.2.2.1, (a2, v.2.2.2.2.2)))
  )
def b_X5_set_30 (v : VC) (s1 : Int32) (s2 : Int32) (t0 : Int32) (t1 : Int32) (t2 : Int32) : Option ((Nat × VC) ⊕ (Int32 × VC)) :=
  (f_X5_isWithin t2 t1 t0).bind fun x30 =>
  if x30 = 0 then (
    some (.inl (2, v))
  ) else (
    (f_X5_saveState v).bind fun x47 =>
    (f_X2_exchangeSetting (gSt x47 0) s1 s2).bind fun x56 =>
    some (.inr (x56.1, (sSt x47 0 x56.2)))
  )
def f_X5_set (v : VC) (a1 : Int32) (a2 : Int32) : Option ((Nat × VC) ⊕ (Int32 × VC)) :=
  (f_X5_isWithin a1 0 1).bind fun x3 =>
  if x3 = 0 then (
    some (.inl (1, v))
  ) else (
    if a1 = 0 then (
      b_X5_set_30 v a1 a2 2 0 a2
    ) else (
      b_X5_set_30 v a1 a2 1 0 a2
    )
  )
def f_X4_isFull (v : VTx) : Option Int32 :=
  if v.2.1 < 60 then (
    some 0
  ) else (
    some 1
  )
def f_X4_add (v : VTx) (a1 : Int32) : Option VTx :=
  if v.2.1 < 0 then (
    some v
  ) else (
    if v.2.1 < 60 then (
      (aup 60 v.1 v.2.1 a1).bind fun x25 =>
      some (x25, (v.2.1 + 1), v.2.2)
    ) else (
      some v
    )
  )
def f_X5_append (v : VC) (a1 : Int32) : Option ((Nat × VC) ⊕ (Int32 × VC)) :=
  (f_X5_isWithin a1 33 126).bind fun x5 =>
  if x5 = 0 then (
    some (.inl (2, v))
  ) else (
    (f_X4_isFull v.2.2.2.2.2.1).bind fun x25 =>
    if x25 = 0 then (
      (f_X4_add v.2.2.2.2.2.1 a1).bind fun x46 =>
      some (.inr ((sTx v x46).2.2.2.2.2.1.2.1, (sTx v x46)))
    ) else (
      some (.inl (3, v))
    )
  )
def f_X4_empty (v : VTx) : Option VTx :=
  some (v.1, 0, v.2.2)
def f_X5_clearBuffer (v : VC) : Option (Int32 × VC) :=
  (f_X4_empty v.2.2.2.2.2.1).bind fun x12 =>
  some (v.2.2.2.2.2.1.2.1, (sTx v x12))
def b_X4_acceptsDigit_21 (v : VTx) (t0 : Int32) : Option (Int32 × VTx) :=
  if v.2.2.2.2.2.2 = 0 then (
    some (0, v)
  ) else (
    if t0 < 48 then (
      if v.2.2.2.2.1 < 0 then (
        some (0, v)
      ) else (
        if v.2.2.2.2.1 < 30 then (
          if v.2.2.2.2.2.1 = 0 then (
            (aup 30 v.2.2.1 v.2.2.2.2.1 t0).bind fun x77 =>
            (aup 30 v.2.2.2.1 v.2.2.2.2.1 t0).bind fun x90 =>
            some (1, (v.1, v.2.1, x77, x90, v.2.2.2.2.1, v.2.2.2.2.2.1, t0))
          ) else (
            (aup 30 v.2.2.2.1 v.2.2.2.2.1 t0).bind fun x90 =>
            some (1, (v.1, v.2.1, v.2.2.1, x90, v.2.2.2.2.1, v.2.2.2.2.2.1, t0))
          )
        ) else (
          some (0, v)
        )
      )
    ) else (
      some (0, v)
    )
  )
def f_X4_acceptsDigit (v : VTx) (a1 : Int32) : Option (Int32 × VTx) :=
  if v.2.2.2.2.2.2 = (-1) then (
    b_X4_acceptsDigit_21 v a1
  ) else (
    b_X4_acceptsDigit_21 v ((10 * v.2.2.2.2.2.2) + a1)
  )
def b_X4_accepts_21 (v : VTx) (s1 : Int32) : Option (Int32 × VTx) :=
  if v.2.2.2.2.2.2 = (-1) then (
    some (0, v)
  ) else (
    if s1 = 44 then (
      some (1, (v.1, v.2.1, v.2.2.1, v.2.2.2.1, (v.2.2.2.2.1 + 1), 0, (-1)))
    ) else (
      if s1 = 45 then (
        if v.2.2.2.2.2.1 = 0 then (
          some (1, (v.1, v.2.1, v.2.2.1, v.2.2.2.1, v.2.2.2.2.1, 1, (-1)))
        ) else (
          some (0, v)
        )
      ) else (
        some (0, v)
      )
    )
  )
def f_X4_accepts (v : VTx) (a1 : Int32) : Option (Int32 × VTx) :=
  if a1 < 48 then (
    b_X4_accepts_21 v a1
  ) else (
    if 57 < a1 then (
      b_X4_accepts_21 v a1
    ) else (
      (f_X4_acceptsDigit v (a1 - 48)).bind fun x17 =>
      (bck x17.1).bind fun r20 =>
      some (r20, x17.2)
    )
  )
def l_X4_scan_17 : Nat → VTx → Int32 → Option (Int32 × VTx)
  | 0, _, _ => none
  | n + 1, v, s1 =>
    if s1 < v.2.1 then (
      (f_X5_entry 60 v.1 s1).bind fun x31 =>
      (f_X4_accepts v x31).bind fun x34 =>
      if x34.1 = 0 then (
        some (s1, x34.2)
      ) else (
        l_X4_scan_17 n x34.2 (s1 + 1)
      )
    ) else (
      some (v.2.1, v)
    )
def f_X4_scan (v : VTx) : Option (Int32 × VTx) :=
  l_X4_scan_17 FU (v.1, v.2.1, v.2.2.1, v.2.2.2.1, 0, 0, (-1)) 0
def f_X5_firstError (v : VC) : Option (Int32 × VC) :=
  (f_X4_scan v.2.2.2.2.2.1).bind fun x4 =>
  some (x4.1, (sTx v x4.2))
def f_X4_lastOf (v : VTx) (a1 : Int32) : Option Int32 :=
  (f_X5_entry 30 v.2.2.2.1 a1).bind fun x5 =>
  some x5
def f_X4_firstOf (v : VTx) (a1 : Int32) : Option Int32 :=
  (f_X5_entry 30 v.2.2.1 a1).bind fun x5 =>
  some x5
def l_X4_tellsReadings_23 : Nat → VTx → Int32 → Option (Int32 × VTx)
  | 0, _, _ => none
  | n + 1, v, s1 =>
    if v.2.2.2.2.1 < s1 then (
      some (1, v)
    ) else (
      (f_X4_lastOf v s1).bind fun x33 =>
      (f_X4_firstOf v s1).bind fun x38 =>
      if x33 < x38 then (
        some (0, v)
      ) else (
        l_X4_tellsReadings_23 n v (s1 + 1)
      )
    )
def f_X4_tellsReadings (v : VTx) : Option (Int32 × VTx) :=
  (f_X4_scan v).bind fun x1 =>
  if x1.1 < x1.2.2.1 then (
    some (0, x1.2)
  ) else (
    if x1.2.2.2.2.2.2.2 = (-1) then (
      some (0, x1.2)
    ) else (
      l_X4_tellsReadings_23 FU x1.2 0
    )
  )
def f_X1_isWide (v : VLy) (a1 : Int32) : Option Int32 :=
  if a1 < v.2.2.2.2.2.2 then (
    some 1
  ) else (
    some 0
  )
def f_X1_beginsPair (v : VLy) (a1 : Int32) : Option Int32 :=
  (f_X1_isWide v a1).bind fun x2 =>
  if x2 = 0 then (
    some 0
  ) else (
    if (a1 &&& 1) = 0 then (
      some 1
    ) else (
      some 0
    )
  )
def f_X2_readsPair (v : VSt) (a1 : Int32) (a2 : Int32) : Option Int32 :=
  if v.2.2.2.2.2.1 = 1 then (
    (f_X1_beginsPair v.2.1 a1).bind fun x13 =>
    if x13 = 0 then (
      some 0
    ) else (
      if a1 < a2 then (
        (f_X2_canRead v (a1 + 1)).bind fun x28 =>
        if x28 = 0 then (
          some 0
        ) else (
          some 1
        )
      ) else (
        some 0
      )
    )
  ) else (
    some 0
  )
def f_X0_readPair (v : VCk) (a1 : Int32) (a2 : Int32) (a3 : Int32) (a4 : Int32) : Option VCk :=
  (f_X0_waitFor v a1).bind fun x2 =>
  (f_X0_waitFor x2 a3).bind fun x7 =>
  (f_X0_occupy x7 a1 a2).bind fun x13 =>
  (f_X0_occupy x13 a3 a4).bind fun x20 =>
  (f_X0_pass x20 1).bind fun x25 =>
  some x25
def f_X2_readTwo (v : VSt) (a1 : Int32) : Option (Int32 × VSt) :=
  (f_X2_readSlotOf v a1).bind fun x2 =>
  (f_X2_readSlotOf v (a1 + 1)).bind fun x10 =>
  (f_X2_readRankOf v a1).bind fun x20 =>
  (f_X3_delayIn v.1 x2).bind fun x28 =>
  (f_X2_readRankOf v (a1 + 1)).bind fun x35 =>
  (f_X3_delayIn v.1 x10).bind fun x43 =>
  (f_X0_readPair v.2.2.1 x20 x28 x35 x43).bind fun x46 =>
  (f_X3_tellRead v.1 x2).bind fun x54 =>
  (f_X3_tellRead x54 x10).bind fun x62 =>
  (f_X2_heldBy (x62, v.2.1, x46, v.2.2.2.1, (v.2.2.2.2.1, v.2.2.2.2.2.1, (v.2.2.2.2.2.2.1 + 2), (v.2.2.2.2.2.2.2.1 + 1), v.2.2.2.2.2.2.2.2)) a1).bind fun x87 =>
  (f_X2_heldBy (x62, v.2.1, x46, v.2.2.2.1, (v.2.2.2.2.1, v.2.2.2.2.2.1, (v.2.2.2.2.2.2.1 + 2), (v.2.2.2.2.2.2.2.1 + 1), v.2.2.2.2.2.2.2.2)) (a1 + 1)).bind fun x94 =>
  some ((x87 + x94), (x62, v.2.1, x46, v.2.2.2.1, (v.2.2.2.2.1, v.2.2.2.2.2.1, (v.2.2.2.2.2.2.1 + 2), (v.2.2.2.2.2.2.2.1 + 1), v.2.2.2.2.2.2.2.2)))
def b_X2_readAll_78 (u1 : VTx) (K4 : VSt → Int32 → Int32 → Option (Int32 × VSt)) (K29 : VSt → Int32 → Int32 → Int32 → Int32 → Option (Int32 × VSt)) (v : VSt) (s3 : Int32) (s4 : Int32) (s6 : Int32) (s7 : Int32) (t0 : Int32) (t1 : Int32) : Option (Int32 × VSt) :=
  if s7 = 0 then (
    K29 v (t1 + t0) s3 s4 (s6 + 1)
  ) else (
    K29 v (t1 + t0) s3 s4 (s6 + 2)
  )
def l_X2_readAll_29 (u1 : VTx) (K4 : VSt → Int32 → Int32 → Option (Int32 × VSt)) : Nat → VSt → Int32 → Int32 → Int32 → Int32 → Option (Int32 × VSt)
  | 0, _, _, _, _, _ => none
  | n + 1, v, s2, s3, s4, s6 =>
    if s4 < s6 then (
      K4 v s2 (s3 + 1)
    ) else (
      (f_X2_canRead v s6).bind fun x39 =>
      if x39 = 0 then (
        some (s2, v)
      ) else (
        (f_X2_readsPair v s6 s4).bind fun x52 =>
        if x52 = 0 then (
          (f_X2_readOne v s6).bind fun x75 =>
          b_X2_readAll_78 u1 K4 (l_X2_readAll_29 u1 K4 n) x75.2 s3 s4 s6 x52 x75.1 s2
        ) else (
          (f_X2_readTwo v s6).bind fun x66 =>
          b_X2_readAll_78 u1 K4 (l_X2_readAll_29 u1 K4 n) x66.2 s3 s4 s6 x52 x66.1 s2
        )
      )
    )
def l_X2_readAll_4 (u1 : VTx) : Nat → VSt → Int32 → Int32 → Option (Int32 × VSt)
  | 0, _, _, _ => none
  | n + 1, v, s2, s3 =>
    if u1.2.2.2.2.1 < s3 then (
      some (s2, v)
    ) else (
      (f_X4_lastOf u1 s3).bind fun x14 =>
      (f_X4_firstOf u1 s3).bind fun x24 =>
      l_X2_readAll_29 u1 (l_X2_readAll_4 u1 n) FU v s2 s3 x14 x24
    )
def f_X2_readAll (v : VSt) (u1 : VTx) : Option (Int32 × VSt) :=
  l_X2_readAll_4 u1 FU v 0 0
def f_X5_run (v : VC) : Option ((Nat × VC) ⊕ (Int32 × VC)) :=
  (f_X4_tellsReadings v.2.2.2.2.2.1).bind fun x4 =>
  if x4.1 = 0 then (
    some (.inl (2, (sTx v x4.2)))
  ) else (
    (f_X5_saveState (sTx v x4.2)).bind fun x21 =>
    (f_X2_readAll (gSt x21 0) x21.2.2.2.2.2.1).bind fun x32 =>
    (f_X4_empty (sSt x21 0 x32.2).2.2.2.2.2.1).bind fun x40 =>
    some (.inr (x32.1, (sTx (sSt x21 0 x32.2) x40)))
  )
def f_X5_keep (v : VC) : Option (Int32 × VC) :=
  (f_X2_copyFrom (gSt v 1) (gSt v 0)).bind fun x8 =>
  some (((sSp (sSt v 1 x8) (1, (sSt v 1 x8).2.2.2.2.2.2.2)).2.2.1 0).2.1, (sSp (sSt v 1 x8) (1, (sSt v 1 x8).2.2.2.2.2.2.2)))
def f_X5_goBack (v : VC) : Option ((Nat × VC) ⊕ (Int32 × VC)) :=
  if v.2.2.2.2.2.2.1 = 0 then (
    some (.inl (3, v))
  ) else (
    (f_X5_saveState v).bind fun x18 =>
    (f_X2_copyFrom (gSt x18 0) (gSt x18 1)).bind fun x29 =>
    some (.inr (((sSt x18 0 x29).2.2.1 0).2.1, (sSt x18 0 x29)))
  )
def f_X5_undo (v : VC) : Option ((Nat × VC) ⊕ (Int32 × VC)) :=
  if v.2.2.2.2.2.2.2.1 < 1 then (
    some (.inl (3, v))
  ) else (
    if 6 < v.2.2.2.2.2.2.2.1 then (
      some (.inl (3, v))
    ) else (
      (rdp 6 (sSp v (v.2.2.2.2.2.2.1, (v.2.2.2.2.2.2.2.1 - 1), v.2.2.2.2.2.2.2.2)).2.2.2.2.2.2.2.2 (sSp v (v.2.2.2.2.2.2.1, (v.2.2.2.2.2.2.2.1 - 1), v.2.2.2.2.2.2.2.2)).2.2.2.2.2.2.2.1).bind fun x45 =>
      (f_X2_copyFrom (gSt (sSp v (v.2.2.2.2.2.2.1, (v.2.2.2.2.2.2.2.1 - 1), v.2.2.2.2.2.2.2.2)) 0) (gSt (sSp v (v.2.2.2.2.2.2.1, (v.2.2.2.2.2.2.2.1 - 1), v.2.2.2.2.2.2.2.2)) x45)).bind fun x56 =>
      some (.inr ((sSt (sSp v (v.2.2.2.2.2.2.1, (v.2.2.2.2.2.2.2.1 - 1), v.2.2.2.2.2.2.2.2)) 0 x56).2.2.2.2.2.2.2.1, (sSt (sSp v (v.2.2.2.2.2.2.1, (v.2.2.2.2.2.2.2.1 - 1), v.2.2.2.2.2.2.2.2)) 0 x56)))
    )
  )
def f_X3_sizeIn (v : VSk) (a1 : Int32) : Option Int32 :=
  (f_X5_entry 4 v.1 a1).bind fun x5 =>
  some x5
def f_X3_ranksIn (v : VSk) (a1 : Int32) : Option Int32 :=
  (f_X5_entry 4 v.2.1 a1).bind fun x5 =>
  some x5
def f_X3_hasFailed (v : VSk) (a1 : Int32) : Option Int32 :=
  (f_X5_isSlot a1).bind fun x1 =>
  if x1 = 0 then (
    some 0
  ) else (
    (ard 4 v.2.2.2.2.1 a1).bind fun x12 =>
    if x12 = 0 then (
      some 0
    ) else (
      some 1
    )
  )
def f_X3_isMapped (v : VSk) (a1 : Int32) : Option Int32 :=
  (f_X5_isSlot a1).bind fun x1 =>
  if x1 = 0 then (
    some 0
  ) else (
    (ard 4 v.2.2.2.2.2 a1).bind fun x12 =>
    if x12 = 0 then (
      some 0
    ) else (
      some 1
    )
  )
def f_X0_freeFrom (v : VCk) (a1 : Int32) (a2 : Int32) : Option Int32 :=
  (f_X5_entry 8 v.1 ((2 * a1) + a2)).bind fun x9 =>
  some x9
def f_X3_readsIn (v : VSk) (a1 : Int32) : Option Int32 :=
  (f_X5_entry 4 v.2.2.2.1 a1).bind fun x5 =>
  some x5
def f_X2_slotNumber (v : VSt) (a1 : Int32) (a2 : Int32) : Option Int32 :=
  (f_X3_isPlugged v.1 a1).bind fun x5 =>
  if x5 = 0 then (
    some (-1)
  ) else (
    if a2 = 0 then (
      (f_X3_sizeIn v.1 a1).bind fun x61 =>
      some x61
    ) else (
      if a2 = 1 then (
        (f_X3_ranksIn v.1 a1).bind fun x70 =>
        some x70
      ) else (
        if a2 = 2 then (
          (f_X3_delayIn v.1 a1).bind fun x79 =>
          some x79
        ) else (
          if a2 = 3 then (
            (f_X3_hasFailed v.1 a1).bind fun x88 =>
            if x88 = 0 then (
              some 0
            ) else (
              some 1
            )
          ) else (
            if a2 = 4 then (
              (f_X3_isMapped v.1 a1).bind fun x105 =>
              if x105 = 0 then (
                some 0
              ) else (
                some 1
              )
            ) else (
              if a2 = 5 then (
                (f_X0_freeFrom v.2.2.1 a1 0).bind fun x123 =>
                some x123
              ) else (
                if a2 = 6 then (
                  (f_X3_ranksIn v.1 a1).bind fun x132 =>
                  if x132 = 2 then (
                    (f_X0_freeFrom v.2.2.1 a1 1).bind fun x145 =>
                    some x145
                  ) else (
                    some (-1)
                  )
                ) else (
                    (f_X3_readsIn v.1 a1).bind fun x158 =>
                    some x158
                )
              )
            )
          )
        )
      )
    )
  )
def f_X5_slot (v : VC) (a1 : Int32) (a2 : Int32) : Option (Nat ⊕ Int32) :=
  (f_X5_isSlot a1).bind fun x1 =>
  if x1 = 0 then (
    some (.inl 1)
  ) else (
    (f_X5_isWithin a2 0 7).bind fun x21 =>
    if x21 = 0 then (
      some (.inl 2)
    ) else (
      (f_X2_slotNumber (gSt v 0) a1 a2).bind fun x43 =>
      some (.inr x43)
    )
  )
def f_X2_rankOrNone (v : VSt) (a1 : Int32) (a2 : Int32) : Option Int32 :=
  (f_X3_isMapped v.1 a1).bind fun x5 =>
  if x5 = 0 then (
    some (-1)
  ) else (
    (f_X3_rankOf v.1 a1 a2).bind fun x17 =>
    some x17
  )
def f_X2_blockNumber (v : VSt) (a1 : Int32) (a2 : Int32) : Option Int32 :=
  if a2 = 0 then (
    (f_X1_slotOf v.2.1 a1).bind fun x45 =>
    some x45
  ) else (
    if a2 = 1 then (
      (f_X1_numberOf v.2.1 a1).bind fun x54 =>
      some x54
    ) else (
      if a2 = 2 then (
        (f_X1_slotOf v.2.1 a1).bind fun x64 =>
        (f_X1_numberOf v.2.1 a1).bind fun x72 =>
        (f_X2_rankOrNone v x64 x72).bind fun x75 =>
        some x75
      ) else (
        if a2 = 3 then (
          (f_X1_isMirrored v.2.1).bind fun x83 =>
          if x83 = 0 then (
            (f_X1_isWide v.2.1 a1).bind fun x98 =>
            if x98 = 0 then (
              some 0
            ) else (
              some 1
            )
          ) else (
            some 2
          )
        ) else (
          if a2 = 4 then (
            (f_X1_slotAgainOf v.2.1 a1).bind fun x115 =>
            some x115
          ) else (
            if a2 = 5 then (
              (f_X1_numberAgainOf v.2.1 a1).bind fun x124 =>
              some x124
            ) else (
                (f_X2_canRead v a1).bind fun x130 =>
                if x130 = 0 then (
                  some 0
                ) else (
                  some 1
                )
            )
          )
        )
      )
    )
  )
def f_X5_where (v : VC) (a1 : Int32) (a2 : Int32) : Option (Nat ⊕ Int32) :=
  (f_X2_hasBlock (gSt v 0) a1).bind fun x5 =>
  if x5 = 0 then (
    some (.inl 1)
  ) else (
    (f_X5_isWithin a2 0 6).bind fun x25 =>
    if x25 = 0 then (
      some (.inl 2)
    ) else (
      (f_X2_blockNumber (gSt v 0) a1 a2).bind fun x47 =>
      some (.inr x47)
    )
  )
def f_X5_lies (v : VC) (a1 : Int32) (a2 : Int32) : Option (Nat ⊕ Int32) :=
  (f_X5_isSlot a1).bind fun x1 =>
  if x1 = 0 then (
    some (.inl 1)
  ) else (
    (f_X5_isWithin a2 0 11).bind fun x11 =>
    if x11 = 0 then (
      some (.inl 1)
    ) else (
      (f_X1_blockAt (v.2.1 0) a1 a2).bind fun x36 =>
      some (.inr x36)
    )
  )
def l_X3_failedOnes_4 (v : VSk) : Nat → Int32 → Int32 → Option Int32
  | 0, _, _ => none
  | n + 1, s1, s2 =>
    if s2 < 4 then (
      (f_X3_hasFailed v s2).bind fun x12 =>
      if x12 = 0 then (
        l_X3_failedOnes_4 v n (s1 + 0) (s2 + 1)
      ) else (
        l_X3_failedOnes_4 v n (s1 + 1) (s2 + 1)
      )
    ) else (
      some s1
    )
def f_X3_failedOnes (v : VSk) : Option Int32 :=
  l_X3_failedOnes_4 v FU 0 0
def l_X2_lostBlocks_4 (v : VSt) : Nat → Int32 → Int32 → Option Int32
  | 0, _, _ => none
  | n + 1, s1, s2 =>
    if s2 < v.2.1.2.2.2.2.2.1 then (
      (f_X2_canRead v s2).bind fun x18 =>
      if x18 = 0 then (
        l_X2_lostBlocks_4 v n (s1 + 1) (s2 + 1)
      ) else (
        l_X2_lostBlocks_4 v n (s1 + 0) (s2 + 1)
      )
    ) else (
      some s1
    )
def f_X2_lostBlocks (v : VSt) : Option Int32 :=
  l_X2_lostBlocks_4 v FU 0 0
def l_X2_sumOfValues_4 (v : VSt) : Nat → Int32 → Int32 → Option Int32
  | 0, _, _ => none
  | n + 1, s1, s2 =>
    if s2 < v.2.1.2.2.2.2.2.1 then (
      (f_X2_canRead v s2).bind fun x18 =>
      if x18 = 0 then (
        l_X2_sumOfValues_4 v n (s1 + 0) (s2 + 1)
      ) else (
        (f_X2_heldBy v s2).bind fun x26 =>
        l_X2_sumOfValues_4 v n (s1 + x26) (s2 + 1)
      )
    ) else (
      some s1
    )
def f_X2_sumOfValues (v : VSt) : Option Int32 :=
  l_X2_sumOfValues_4 v FU 0 0
def f_X5_countOf (v : VC) (a1 : Int32) : Option Int32 :=
  if a1 = 0 then (
    (f_X3_pluggedOnes (v.1 0)).bind fun x67 =>
    some x67
  ) else (
    if a1 = 1 then (
      (f_X3_failedOnes (v.1 0)).bind fun x78 =>
      some x78
    ) else (
      if a1 = 2 then (
        some (v.2.1 0).2.2.2.2.2.1
      ) else (
        if a1 = 3 then (
          some (v.2.1 0).2.2.2.2.2.2
        ) else (
          if a1 = 4 then (
            some (v.2.2.1 0).2.1
          ) else (
            if a1 = 5 then (
              some (v.2.2.2.2.1 0).2.2.1
            ) else (
              if a1 = 6 then (
                some (v.2.2.2.2.1 0).2.2.2.1
              ) else (
                if a1 = 7 then (
                  some (v.2.2.1 0).2.2
                ) else (
                  if a1 = 8 then (
                    (f_X2_lostBlocks (gSt v 0)).bind fun x146 =>
                    some x146
                  ) else (
                    if a1 = 9 then (
                      some (v.2.2.2.2.1 0).2.2.2.2
                    ) else (
                      if a1 = 10 then (
                        (f_X2_sumOfValues (gSt v 0)).bind fun x162 =>
                        some x162
                      ) else (
                          some v.2.2.2.2.2.2.2.1
                      )
                    )
                  )
                )
              )
            )
          )
        )
      )
    )
  )
def f_X5_count (v : VC) (a1 : Int32) : Option (Nat ⊕ Int32) :=
  (f_X5_isWithin a1 0 11).bind fun x4 =>
  if x4 = 0 then (
    some (.inl 2)
  ) else (
    (f_X5_countOf v a1).bind fun x22 =>
    some (.inr x22)
  )
def f_X5_setting (v : VC) (a1 : Int32) : Option (Nat ⊕ Int32) :=
  (f_X5_isWithin a1 0 1).bind fun x3 =>
  if x3 = 0 then (
    some (.inl 1)
  ) else (
    (f_X2_settingOf (gSt v 0) a1).bind fun x24 =>
    some (.inr x24)
  )
def f_X5_why (v : VC) : Option Int32 :=
  (f_X3_hindrance (v.1 0) (v.2.2.2.2.1 0).1).bind fun x14 =>
  some x14
def f_X0_reset (v : VCk) : Option VCk :=
  (f_fill 8 v.1 0).bind fun x5 =>
  some (x5, 0, 0)
def f_X5_trialRank (v : VC) (a1 : Int32) : Option Int32 :=
  (f_X1_slotOf (v.2.1 8) a1).bind fun x12 =>
  (f_X1_numberOf (v.2.1 8) a1).bind fun x20 =>
  (f_X3_rankRow (v.1 0) x12 x20).bind fun x23 =>
  some x23
def f_X5_trialDelay (v : VC) (a1 : Int32) : Option Int32 :=
  (f_X1_slotOf (v.2.1 8) a1).bind fun x12 =>
  (f_X3_delayIn (v.1 0) x12).bind fun x15 =>
  some x15
def l_X5_sweepTicks_42 : Nat → VC → Int32 → Option (Int32 × VC)
  | 0, _, _ => none
  | n + 1, v, s3 =>
    if s3 < (v.2.1 8).2.2.2.2.2.1 then (
      (f_X5_trialRank v s3).bind fun x55 =>
      (f_X1_beginsPair (v.2.1 8) s3).bind fun x65 =>
      if x65 = 0 then (
        (f_X5_trialDelay v s3).bind fun x116 =>
        (f_X0_readSingle (v.2.2.1 8) x55 x116).bind fun x119 =>
        l_X5_sweepTicks_42 n (sCk v 8 x119) (s3 + 1)
      ) else (
        (f_X5_trialRank v (s3 + 1)).bind fun x75 =>
        (f_X5_trialDelay v s3).bind fun x88 =>
        (f_X5_trialDelay v (s3 + 1)).bind fun x97 =>
        (f_X0_readPair (v.2.2.1 8) x55 x88 x75 x97).bind fun x100 =>
        l_X5_sweepTicks_42 n (sCk v 8 x100) (s3 + 2)
      )
    ) else (
      some ((v.2.2.1 8).2.1, v)
    )
def f_X5_sweepTicks (v : VC) (a1 : Int32) : Option (Int32 × VC) :=
  (f_X3_hindrance (v.1 0) a1).bind fun x8 =>
  if x8 = 0 then (
    (f_X1_lay (v.2.1 8) (v.1 0) a1).bind fun x28 =>
    (f_X0_reset ((sLy v 8 x28).2.2.1 8)).bind fun x35 =>
    l_X5_sweepTicks_42 FU (sCk (sLy v 8 x28) 8 x35) 0
  ) else (
    some ((-1), v)
  )
def f_X5_sweep (v : VC) (a1 : Int32) : Option ((Nat × VC) ⊕ (Int32 × VC)) :=
  (f_X5_isWithin a1 0 2).bind fun x3 =>
  if x3 = 0 then (
    some (.inl (2, v))
  ) else (
    (f_X5_sweepTicks v a1).bind fun x21 =>
    some (.inr (x21.1, x21.2))
  )
def f_X5_blocksIfStarted (v : VC) (a1 : Int32) (a2 : Int32) : Option (Int32 × VC) :=
  (f_X3_hindrance (v.1 0) a1).bind fun x8 =>
  if x8 = 0 then (
    (f_X1_lay (v.2.1 8) (v.1 0) a1).bind fun x28 =>
    if a2 = 0 then (
      some (((sLy v 8 x28).2.1 8).2.2.2.2.2.1, (sLy v 8 x28))
    ) else (
      some (((sLy v 8 x28).2.1 8).2.2.2.2.2.2, (sLy v 8 x28))
    )
  ) else (
    some (0, v)
  )
def f_X5_ifStarted (v : VC) (a1 : Int32) (a2 : Int32) : Option ((Nat × VC) ⊕ (Int32 × VC)) :=
  (f_X5_isWithin a1 0 2).bind fun x3 =>
  if x3 = 0 then (
    some (.inl (2, v))
  ) else (
    (f_X5_isWithin a2 0 1).bind fun x12 =>
    if x12 = 0 then (
      some (.inl (2, v))
    ) else (
      (f_X5_blocksIfStarted v a1 a2).bind fun x31 =>
      some (.inr (x31.1, x31.2))
    )
  )
def b_X3_wideIfChanged_36 (v : VSk) (K8 : Int32 → Int32 → Int32 → Int32 → Int32 → Option Int32) (s1 : Int32) (s2 : Int32) (s3 : Int32) (s4 : Int32) (s5 : Int32) (t0 : Int32) : Option Int32 :=
  if s5 < 2 then (
    (f_X3_goodSizeIn v t0).bind fun x48 =>
    K8 s1 s2 (s3 + x48) s4 (s5 + 1)
  ) else (
    (f_X3_goodSizeIn v t0).bind fun x61 =>
    K8 s1 s2 s3 (s4 + x61) (s5 + 1)
  )
def l_X3_wideIfChanged_8 (v : VSk) : Nat → Int32 → Int32 → Int32 → Int32 → Int32 → Option Int32
  | 0, _, _, _, _, _ => none
  | n + 1, s1, s2, s3, s4, s5 =>
    if s5 < 4 then (
      if s5 = s1 then (
        b_X3_wideIfChanged_36 v (l_X3_wideIfChanged_8 v n) s1 s2 s3 s4 s5 s2
      ) else (
        if s5 = s2 then (
          b_X3_wideIfChanged_36 v (l_X3_wideIfChanged_8 v n) s1 s2 s3 s4 s5 s1
        ) else (
          b_X3_wideIfChanged_36 v (l_X3_wideIfChanged_8 v n) s1 s2 s3 s4 s5 s5
        )
      )
    ) else (
      (f_J9_min_7cf53 s3 s4).bind fun x77 =>
      some (2 * x77)
    )
def f_X3_wideIfChanged (v : VSk) (a1 : Int32) (a2 : Int32) : Option Int32 :=
  l_X3_wideIfChanged_8 v FU a1 a2 0 0 0
def l_X5_bestChange_27 (v : VC) (K17 : Int32 → Int32 → Int32 → Option Int32) : Nat → Int32 → Int32 → Int32 → Int32 → Option Int32
  | 0, _, _, _, _ => none
  | n + 1, s1, s2, s3, s4 =>
    if s4 < 4 then (
      (f_X3_wideIfChanged (v.1 0) s3 s4).bind fun x43 =>
      if s2 < x43 then (
        l_X5_bestChange_27 v K17 n ((4 * s3) + s4) x43 s3 (s4 + 1)
      ) else (
        l_X5_bestChange_27 v K17 n s1 s2 s3 (s4 + 1)
      )
    ) else (
      K17 s1 s2 (s3 + 1)
    )
def l_X5_bestChange_17 (v : VC) : Nat → Int32 → Int32 → Int32 → Option Int32
  | 0, _, _, _ => none
  | n + 1, s1, s2, s3 =>
    if s3 < 4 then (
      l_X5_bestChange_27 v (l_X5_bestChange_17 v n) FU s1 s2 s3 (s3 + 1)
    ) else (
      some s1
    )
def f_X5_bestChange (v : VC) : Option Int32 :=
  (f_X3_wideIfChanged (v.1 0) 0 0).bind fun x11 =>
  l_X5_bestChange_17 v FU (-1) x11 0
def f_X5_wideShare (v : VC) : Option UInt64 :=
  if (v.2.1 0).2.2.2.2.2.1 = 0 then (
    some FP.dconst0
  ) else (
    (dck (FP.ddiv (FP.i2d (v.2.1 0).2.2.2.2.2.2) (FP.i2d (v.2.1 0).2.2.2.2.2.1))).bind fun x32 =>
    some x32
  )
def f_X5_meanTicks (v : VC) : Option UInt32 :=
  if (v.2.2.2.2.1 0).2.2.1 = 0 then (
    some FP.fconst0
  ) else (
    (fck (FP.fdiv (FP.i2f (v.2.2.1 0).2.1) (FP.i2f (v.2.2.2.2.1 0).2.2.1))).bind fun x29 =>
    some x29
  )
def l_X5_foldSlots_49 (v : VC) (K5 : Int64 → Int32 → Option Int64) : Nat → Int64 → Int32 → Int32 → Option Int64
  | 0, _, _, _ => none
  | n + 1, s3, s5, s6 =>
    if s6 < 12 then (
      (f_X1_blockAt (v.2.1 0) s5 s6).bind fun x72 =>
      l_X5_foldSlots_49 v K5 n (((31 : Int64) * s3) + ((x72 : Int32).toInt64)) s5 (s6 + 1)
    ) else (
      K5 s3 (s5 + 1)
    )
def l_X5_foldSlots_14 (v : VC) (K5 : Int64 → Int32 → Option Int64) : Nat → Int64 → Int32 → Int32 → Option Int64
  | 0, _, _, _ => none
  | n + 1, s3, s5, s6 =>
    if s6 < 8 then (
      (f_X2_slotNumber (gSt v 0) s5 s6).bind fun x34 =>
      l_X5_foldSlots_14 v K5 n (((31 : Int64) * s3) + ((x34 : Int32).toInt64)) s5 (s6 + 1)
    ) else (
      l_X5_foldSlots_49 v K5 FU s3 s5 0
    )
def l_X5_foldSlots_5 (v : VC) : Nat → Int64 → Int32 → Option Int64
  | 0, _, _ => none
  | n + 1, s3, s5 =>
    if s5 < 4 then (
      l_X5_foldSlots_14 v (l_X5_foldSlots_5 v n) FU s3 s5 0
    ) else (
      some s3
    )
def f_X5_foldSlots (v : VC) (a1 : Int64) : Option Int64 :=
  l_X5_foldSlots_5 v FU a1 0
def l_X5_foldBlocks_23 (v : VC) (K5 : Int64 → Int32 → Option Int64) : Nat → Int64 → Int32 → Int32 → Option Int64
  | 0, _, _, _ => none
  | n + 1, s3, s5, s6 =>
    if s6 < 7 then (
      (f_X2_blockNumber (gSt v 0) s5 s6).bind fun x43 =>
      l_X5_foldBlocks_23 v K5 n (((31 : Int64) * s3) + ((x43 : Int32).toInt64)) s5 (s6 + 1)
    ) else (
      (f_X2_canRead (gSt v 0) s5).bind fun x66 =>
      if x66 = 0 then (
        K5 (((31 : Int64) * s3) + (((-1) : Int32).toInt64)) (s5 + 1)
      ) else (
        (f_X2_heldBy (gSt v 0) s5).bind fun x78 =>
        K5 (((31 : Int64) * s3) + ((x78 : Int32).toInt64)) (s5 + 1)
      )
    )
def l_X5_foldBlocks_5 (v : VC) : Nat → Int64 → Int32 → Option Int64
  | 0, _, _ => none
  | n + 1, s3, s5 =>
    if s5 < (v.2.1 0).2.2.2.2.2.1 then (
      l_X5_foldBlocks_23 v (l_X5_foldBlocks_5 v n) FU s3 s5 0
    ) else (
      some s3
    )
def f_X5_foldBlocks (v : VC) (a1 : Int64) : Option Int64 :=
  l_X5_foldBlocks_5 v FU a1 0
def l_X5_foldTrials_44 : Nat → VC → Int64 → Int32 → Option (Int64 × VC)
  | 0, _, _, _ => none
  | n + 1, v, s3, s5 =>
    if s5 < 3 then (
      (f_X5_blocksIfStarted v s5 0).bind fun x59 =>
      (f_X5_blocksIfStarted x59.2 s5 1).bind fun x74 =>
      l_X5_foldTrials_44 n x74.2 (((31 : Int64) * (((31 : Int64) * s3) + ((x59.1 : Int32).toInt64))) + ((x74.1 : Int32).toInt64)) (s5 + 1)
    ) else (
      (f_X5_bestChange v).bind fun x92 =>
      some ((((31 : Int64) * s3) + ((x92 : Int32).toInt64)), v)
    )
def l_X5_foldTrials_15 : Nat → VC → Int64 → Int32 → Option (Int64 × VC)
  | 0, _, _, _ => none
  | n + 1, v, s3, s5 =>
    if s5 < 3 then (
      (f_X5_sweepTicks v s5).bind fun x29 =>
      l_X5_foldTrials_15 n x29.2 (((31 : Int64) * s3) + ((x29.1 : Int32).toInt64)) (s5 + 1)
    ) else (
      l_X5_foldTrials_44 FU v s3 0
    )
def f_X5_foldTrials (v : VC) (a1 : Int64) : Option (Int64 × VC) :=
  (f_X5_why v).bind fun x6 =>
  l_X5_foldTrials_15 FU v (((31 : Int64) * a1) + ((x6 : Int32).toInt64)) 0
def b_X5_bits_72 (s3 : Int32) (s4 : UInt64) (s6 : UInt64) (s8 : Int32) : Option Int64 :=
  (dck (FP.dsub s6 FP.dconst1)).bind fun x80 =>
  (dck (FP.dmul x80 s4)).bind fun x83 =>
  some ((((s8 : Int32).toInt64) <<< (s3.toInt64 &&& 63)) + (FP.d2l x83))
def l_X5_bits_41 : Nat → Int32 → Int32 → UInt64 → UInt64 → Int32 → Option Int64
  | 0, _, _, _, _, _ => none
  | n + 1, s2, s3, s4, s6, s8 =>
    if (Op.cmpValue (FP.dcmp s6 (4611686018427387904 : UInt64)) CmpOp.l) < 0 then (
      b_X5_bits_72 s3 s4 s6 s8
    ) else (
      if s8 < (2 * s2) then (
        (dck (FP.ddiv s6 (4611686018427387904 : UInt64))).bind fun x63 =>
        l_X5_bits_41 n s2 s3 s4 x63 (s8 + 1)
      ) else (
        b_X5_bits_72 s3 s4 s6 s8
      )
    )
def l_X5_bits_14 : Nat → Int32 → Int32 → UInt64 → UInt64 → Int32 → Option Int64
  | 0, _, _, _, _, _ => none
  | n + 1, s2, s3, s4, s6, s8 =>
    if (Op.cmpValue (FP.dcmp s6 FP.dconst1) CmpOp.g) < 0 then (
      if 1 < s8 then (
        (dck (FP.dmul s6 (4611686018427387904 : UInt64))).bind fun x32 =>
        l_X5_bits_14 n s2 s3 s4 x32 (s8 + (-1))
      ) else (
        l_X5_bits_41 FU s2 s3 s4 s6 s8
      )
    ) else (
      l_X5_bits_41 FU s2 s3 s4 s6 s8
    )
def f_X5_bits (a0 : UInt64) (a2 : Int32) (a3 : Int32) (a4 : UInt64) : Option Int64 :=
  if 0 < (Op.cmpValue (FP.dcmp a0 FP.dconst0) CmpOp.l) then (
    l_X5_bits_14 FU a2 a3 a4 a0 a2
  ) else (
    some 0
  )
def f_X5_doubleBits (a0 : UInt64) : Option Int64 :=
  (f_X5_bits a0 1023 52 (4841369599423283200 : UInt64)).bind fun x9 =>
  some x9
def f_X5_floatBits (a0 : UInt32) : Option Int64 :=
  (dck (FP.f2d a0)).bind fun x1 =>
  (f_X5_bits x1 127 23 (4710765210229538816 : UInt64)).bind fun x9 =>
  some x9
def l_X4_fold_15 (v : VTx) : Nat → Int64 → Int32 → Option Int64
  | 0, _, _ => none
  | n + 1, s3, s5 =>
    if s5 < v.2.1 then (
      (f_X5_entry 60 v.1 s5).bind fun x35 =>
      l_X4_fold_15 v n (((31 : Int64) * s3) + ((x35 : Int32).toInt64)) (s5 + 1)
    ) else (
      some s3
    )
def f_X4_fold (v : VTx) (a1 : Int64) : Option Int64 :=
  l_X4_fold_15 v FU (((31 : Int64) * a1) + ((v.2.1 : Int32).toInt64)) 0
def b_X5_digest_123 (v : VC) (t0 : Int32) (t1 : Int64) : Option (Int64 × VC) :=
  (f_X4_fold v.2.2.2.2.2.1 (t1 + ((t0 : Int32).toInt64))).bind fun x131 =>
  some (x131, v)
def l_X5_digest_33 : Nat → VC → Int64 → Int32 → Option (Int64 × VC)
  | 0, _, _, _ => none
  | n + 1, v, s1, s3 =>
    if s3 < 2 then (
      (f_X2_settingOf (gSt v 0) s3).bind fun x48 =>
      l_X5_digest_33 n v (((31 : Int64) * s1) + ((x48 : Int32).toInt64)) (s3 + 1)
    ) else (
      (f_X5_foldSlots v s1).bind fun x62 =>
      (f_X5_foldBlocks v x62).bind fun x68 =>
      (f_X5_foldTrials v x68).bind fun x74 =>
      (f_X5_wideShare x74.2).bind fun x84 =>
      (f_X5_doubleBits x84).bind fun x87 =>
      (f_X5_meanTicks x74.2).bind fun x98 =>
      (f_X5_floatBits x98).bind fun x101 =>
      if x74.2.2.2.2.2.2.2.1 = 0 then (
        b_X5_digest_123 x74.2 0 ((31 : Int64) * (((31 : Int64) * (((31 : Int64) * x74.1) + x87)) + x101))
      ) else (
        b_X5_digest_123 x74.2 1 ((31 : Int64) * (((31 : Int64) * (((31 : Int64) * x74.1) + x87)) + x101))
      )
    )
def l_X5_digest_6 : Nat → VC → Int64 → Int32 → Option (Int64 × VC)
  | 0, _, _, _ => none
  | n + 1, v, s1, s3 =>
    if s3 < 12 then (
      (f_X5_countOf v s3).bind fun x19 =>
      l_X5_digest_6 n v (((31 : Int64) * s1) + ((x19 : Int32).toInt64)) (s3 + 1)
    ) else (
      l_X5_digest_33 FU v s1 0
    )
def f_X5_digest (v : VC) : Option (Int64 × VC) :=
  l_X5_digest_6 FU v (3691 : Int64) 0
def f_X6_thrown (v : VM) : Option Int32 :=
  some v.1
def f_X6_in (a0 : Int32) (a1 : Int32) (a2 : Int32) : Option Int32 :=
  if a0 < a1 then (
    some 0
  ) else (
    if a2 < a0 then (
      some 0
    ) else (
      some 1
    )
  )
def f_X6_isSlot (a0 : Int32) : Option Int32 :=
  (f_X6_in a0 0 3).bind fun x3 =>
  (bck x3).bind fun r6 =>
  some r6
def f_X6_of (v : VM) (a1 : Int32) (a2 : Int32) : Option Int32 :=
  (ard 96 v.2.1 ((9 * a1) + a2)).bind fun x10 =>
  some x10
def f_X6_put (v : VM) (a1 : Int32) (a2 : Int32) (a3 : Int32) : Option VM :=
  (aup 96 v.2.1 ((9 * a1) + a2) a3).bind fun x11 =>
  some (v.1, x11, v.2.2)
def f_X6_isThere (v : VM) (a1 : Int32) : Option Int32 :=
  (f_X6_of v a1 0).bind fun x3 =>
  if x3 = 1 then (
    some 1
  ) else (
    some 0
  )
def f_X6_isLeft (v : VM) (a1 : Int32) : Option Int32 :=
  (f_X6_of v a1 5).bind fun x3 =>
  if x3 = 1 then (
    (f_X6_of v a1 4).bind fun x13 =>
    if x13 = 0 then (
      some 1
    ) else (
      some 0
    )
  ) else (
    some 0
  )
def l_X6_record_51 : Nat → VM → Int32 → Option VM
  | 0, _, _ => none
  | n + 1, v, s1 =>
    if s1 < 96 then (
      (ard 96 v.2.1 s1).bind fun x75 =>
      (aup 576 v.2.2.2.1 ((96 * v.2.2.2.2.1) + s1) x75).bind fun x76 =>
      l_X6_record_51 n (v.1, v.2.1, v.2.2.1, x76, v.2.2.2.2) (s1 + 1)
    ) else (
      some (v.1, v.2.1, v.2.2.1, v.2.2.2.1, (v.2.2.2.2.1 + 1), v.2.2.2.2.2)
    )
def l_X6_record_11 : Nat → VM → Int32 → Option VM
  | 0, _, _ => none
  | n + 1, v, s1 =>
    if s1 < 480 then (
      (ard 576 v.2.2.2.1 (96 + s1)).bind fun x31 =>
      (aup 576 v.2.2.2.1 s1 x31).bind fun x32 =>
      l_X6_record_11 n (v.1, v.2.1, v.2.2.1, x32, v.2.2.2.2) (s1 + 1)
    ) else (
      l_X6_record_51 FU (v.1, v.2.1, v.2.2.1, v.2.2.2.1, (v.2.2.2.2.1 - 1), v.2.2.2.2.2) 0
    )
def f_X6_record (v : VM) : Option VM :=
  if v.2.2.2.2.1 = 6 then (
    l_X6_record_11 FU v 0
  ) else (
    l_X6_record_51 FU v 0
  )
def l_X6_undo_37 : Nat → VM → Int32 → Option (Int32 × VM)
  | 0, _, _ => none
  | n + 1, v, s1 =>
    if s1 < 96 then (
      (ard 576 v.2.2.2.1 ((96 * v.2.2.2.2.1) + s1)).bind fun x61 =>
      (aup 96 v.2.1 s1 x61).bind fun x62 =>
      l_X6_undo_37 n (v.1, x62, v.2.2) (s1 + 1)
    ) else (
      some (v.2.2.2.2.1, v)
    )
def b_X6_undo_13 (v : VM) (t0 : Int32) : Option (Int32 × VM) :=
  if 0 < t0 then (
    some (0, (t0, v.2))
  ) else (
    l_X6_undo_37 FU (t0, v.2.1, v.2.2.1, v.2.2.2.1, (v.2.2.2.2.1 - 1), v.2.2.2.2.2) 0
  )
def f_X6_undo (v : VM) : Option (Int32 × VM) :=
  if v.2.2.2.2.1 = 0 then (
    b_X6_undo_13 v 1
  ) else (
    b_X6_undo_13 v 0
  )
def l_X6_keep_7 : Nat → VM → Int32 → Option (Int32 × VM)
  | 0, _, _ => none
  | n + 1, v, s1 =>
    if s1 < 96 then (
      (ard 96 v.2.1 s1).bind fun x23 =>
      (aup 96 v.2.2.2.2.2.1 s1 x23).bind fun x24 =>
      l_X6_keep_7 n (v.1, v.2.1, v.2.2.1, v.2.2.2.1, v.2.2.2.2.1, x24, v.2.2.2.2.2.2) (s1 + 1)
    ) else (
      (ard 96 v.2.1 41).bind fun x42 =>
      some (x42, (v.1, v.2.1, v.2.2.1, v.2.2.2.1, v.2.2.2.2.1, v.2.2.2.2.2.1, 1, v.2.2.2.2.2.2.2))
    )
def f_X6_keep (v : VM) : Option (Int32 × VM) :=
  l_X6_keep_7 FU (0, v.2) 0
def l_X6_goBack_31 : Nat → VM → Int32 → Option (Int32 × VM)
  | 0, _, _ => none
  | n + 1, v, s1 =>
    if s1 < 96 then (
      (ard 96 v.2.2.2.2.2.1 s1).bind fun x47 =>
      (aup 96 v.2.1 s1 x47).bind fun x48 =>
      l_X6_goBack_31 n (v.1, x48, v.2.2) (s1 + 1)
    ) else (
      (ard 96 v.2.1 41).bind fun x61 =>
      some (x61, v)
    )
def b_X6_goBack_13 (v : VM) (t0 : Int32) : Option (Int32 × VM) :=
  if 0 < t0 then (
    some (0, (t0, v.2))
  ) else (
    (f_X6_record (t0, v.2)).bind fun x26 =>
    l_X6_goBack_31 FU x26 0
  )
def f_X6_goBack (v : VM) : Option (Int32 × VM) :=
  if v.2.2.2.2.2.2.1 = 0 then (
    b_X6_goBack_13 v 1
  ) else (
    b_X6_goBack_13 v 0
  )
def l_X6_putAside_2 : Nat → VM → Int32 → Option VM
  | 0, _, _ => none
  | n + 1, v, s1 =>
    if s1 < 96 then (
      (ard 96 v.2.1 s1).bind fun x18 =>
      (aup 96 v.2.2.1 s1 x18).bind fun x19 =>
      l_X6_putAside_2 n (v.1, v.2.1, x19, v.2.2.2) (s1 + 1)
    ) else (
      some v
    )
def f_X6_putAside (v : VM) : Option VM :=
  l_X6_putAside_2 FU v 0
def l_X6_putBack_2 : Nat → VM → Int32 → Option VM
  | 0, _, _ => none
  | n + 1, v, s1 =>
    if s1 < 96 then (
      (ard 96 v.2.2.1 s1).bind fun x18 =>
      (aup 96 v.2.1 s1 x18).bind fun x19 =>
      l_X6_putBack_2 n (v.1, x19, v.2.2) (s1 + 1)
    ) else (
      some v
    )
def f_X6_putBack (v : VM) : Option VM :=
  l_X6_putBack_2 FU v 0
def f_X6_room (v : VM) (a1 : Int32) : Option Int32 :=
  (ard 96 v.2.1 (36 + (2 * a1))).bind fun x10 =>
  (ard 96 v.2.1 ((36 + (2 * a1)) + 1)).bind fun x23 =>
  some (x10 + x23)
def f_X6_lesserRoom (v : VM) : Option Int32 :=
  (f_X6_room v 0).bind fun x2 =>
  (f_X6_room v 1).bind fun x7 =>
  if x2 < x7 then (
    (f_X6_room v 0).bind fun x15 =>
    some x15
  ) else (
    (f_X6_room v 1).bind fun x23 =>
    some x23
  )
def f_X6_blocks (v : VM) : Option Int32 :=
  (ard 96 v.2.1 40).bind fun x6 =>
  if x6 = (-1) then (
    some 0
  ) else (
    (ard 96 v.2.1 40).bind fun x21 =>
    if x21 = 2 then (
      (f_X6_lesserRoom v).bind fun x27 =>
      some x27
    ) else (
      (f_X6_room v 0).bind fun x35 =>
      (f_X6_room v 1).bind fun x40 =>
      some (x35 + x40)
    )
  )
def f_X6_wideBlocks (v : VM) : Option Int32 :=
  (ard 96 v.2.1 40).bind fun x6 =>
  if x6 = 0 then (
    (f_X6_lesserRoom v).bind fun x12 =>
    some (2 * x12)
  ) else (
    some 0
  )
def f_X6_isBlock (v : VM) (a1 : Int32) : Option Int32 :=
  (f_X6_blocks v).bind fun x3 =>
  (f_X6_in a1 0 (x3 - 1)).bind fun x8 =>
  (bck x8).bind fun r11 =>
  some r11
def f_X6_channelOf (v : VM) (a1 : Int32) : Option Int32 :=
  (ard 96 v.2.1 40).bind fun x6 =>
  if x6 = 2 then (
    some 0
  ) else (
    (ard 96 v.2.1 40).bind fun x19 =>
    if x19 = 1 then (
      (f_X6_room v 0).bind fun x27 =>
      if a1 < x27 then (
        some 0
      ) else (
        some 1
      )
    ) else (
      (f_X6_wideBlocks v).bind fun x41 =>
      if a1 < x41 then (
        some (a1 - a1 / 2 * 2)
      ) else (
        (f_X6_room v 0).bind fun x55 =>
        (f_X6_room v 1).bind fun x60 =>
        if x60 < x55 then (
          some 0
        ) else (
          some 1
        )
      )
    )
  )
def f_X6_inChannel (v : VM) (a1 : Int32) : Option Int32 :=
  (ard 96 v.2.1 40).bind fun x6 =>
  if x6 = 2 then (
    some a1
  ) else (
    (ard 96 v.2.1 40).bind fun x19 =>
    if x19 = 1 then (
      (f_X6_room v 0).bind fun x27 =>
      if a1 < x27 then (
        some a1
      ) else (
        (f_X6_room v 0).bind fun x40 =>
        some (a1 - x40)
      )
    ) else (
      (f_X6_wideBlocks v).bind fun x47 =>
      if a1 < x47 then (
        some (a1 / 2)
      ) else (
        (f_X6_lesserRoom v).bind fun x61 =>
        some (a1 - x61)
      )
    )
  )
def f_X6_slotIn (v : VM) (a1 : Int32) (a2 : Int32) : Option Int32 :=
  (ard 96 v.2.1 (36 + (2 * a1))).bind fun x11 =>
  if a2 < x11 then (
    some (2 * a1)
  ) else (
    some ((2 * a1) + 1)
  )
def f_X6_numberIn (v : VM) (a1 : Int32) (a2 : Int32) : Option Int32 :=
  (ard 96 v.2.1 (36 + (2 * a1))).bind fun x11 =>
  if a2 < x11 then (
    some a2
  ) else (
    (ard 96 v.2.1 (36 + (2 * a1))).bind fun x30 =>
    some (a2 - x30)
  )
def f_X6_slotOf (v : VM) (a1 : Int32) : Option Int32 :=
  (f_X6_channelOf v a1).bind fun x3 =>
  (f_X6_inChannel v a1).bind fun x8 =>
  (f_X6_slotIn v x3 x8).bind fun x11 =>
  some x11
def f_X6_numberOf (v : VM) (a1 : Int32) : Option Int32 :=
  (f_X6_channelOf v a1).bind fun x3 =>
  (f_X6_inChannel v a1).bind fun x8 =>
  (f_X6_numberIn v x3 x8).bind fun x11 =>
  some x11
def f_X6_secondSlot (v : VM) (a1 : Int32) : Option Int32 :=
  (ard 96 v.2.1 40).bind fun x6 =>
  if x6 = 2 then (
    (f_X6_slotIn v 1 a1).bind fun x14 =>
    some x14
  ) else (
    some (-1)
  )
def f_X6_secondNumber (v : VM) (a1 : Int32) : Option Int32 :=
  (ard 96 v.2.1 40).bind fun x6 =>
  if x6 = 2 then (
    (f_X6_numberIn v 1 a1).bind fun x14 =>
    some x14
  ) else (
    some (-1)
  )
def f_X6_isLeftFor (v : VM) (a1 : Int32) : Option Int32 :=
  (f_X6_slotOf v a1).bind fun x3 =>
  (f_X6_isLeft v x3).bind fun x6 =>
  if x6 = 0 then (
    (ard 96 v.2.1 40).bind fun x18 =>
    if x18 = 2 then (
      (f_X6_secondSlot v a1).bind fun x26 =>
      (f_X6_isLeft v x26).bind fun x29 =>
      if x29 = 0 then (
        some 0
      ) else (
        some 1
      )
    ) else (
      some 0
    )
  ) else (
    some 1
  )
def f_X6_readSlot (v : VM) (a1 : Int32) : Option Int32 :=
  (f_X6_slotOf v a1).bind fun x3 =>
  (f_X6_isLeft v x3).bind fun x6 =>
  if x6 = 0 then (
    (f_X6_secondSlot v a1).bind fun x22 =>
    some x22
  ) else (
    (f_X6_slotOf v a1).bind fun x14 =>
    some x14
  )
def f_X6_readNumber (v : VM) (a1 : Int32) : Option Int32 :=
  (f_X6_slotOf v a1).bind fun x3 =>
  (f_X6_isLeft v x3).bind fun x6 =>
  if x6 = 0 then (
    (f_X6_secondNumber v a1).bind fun x22 =>
    some x22
  ) else (
    (f_X6_numberOf v a1).bind fun x14 =>
    some x14
  )
def f_X6_valueOf (v : VM) (a1 : Int32) : Option Int32 :=
  (f_X6_readSlot v a1).bind fun x10 =>
  (f_X6_readNumber v a1).bind fun x17 =>
  (ard 96 v.2.1 ((48 + (12 * x10)) + x17)).bind fun x21 =>
  some x21
def b_X6_blockAt_53 (v : VM) (s3 : Int32) (t0 : Int32) : Option Int32 :=
  (ard 96 v.2.1 40).bind fun x61 =>
  if x61 = 2 then (
    (f_X6_lesserRoom v).bind fun x69 =>
    if t0 < x69 then (
      some t0
    ) else (
      some (-1)
    )
  ) else (
    (ard 96 v.2.1 40).bind fun x88 =>
    if x88 = 1 then (
      if s3 = 0 then (
        some t0
      ) else (
        (f_X6_room v 0).bind fun x104 =>
        some (x104 + t0)
      )
    ) else (
      (f_X6_lesserRoom v).bind fun x114 =>
      if t0 < x114 then (
        some ((2 * t0) + s3)
      ) else (
        (f_X6_lesserRoom v).bind fun x132 =>
        some (t0 + x132)
      )
    )
  )
def f_X6_blockAt (v : VM) (a1 : Int32) (a2 : Int32) : Option Int32 :=
  (ard 96 v.2.1 40).bind fun x6 =>
  if x6 = (-1) then (
    some (-1)
  ) else (
    (ard 96 v.2.1 (36 + a1)).bind fun x20 =>
    if a2 < x20 then (
      if (a1 - a1 / 2 * 2) = 0 then (
        b_X6_blockAt_53 v (a1 / 2) a2
      ) else (
        (ard 96 v.2.1 ((36 + a1) - 1)).bind fun x50 =>
        b_X6_blockAt_53 v (a1 / 2) (x50 + a2)
      )
    ) else (
      some (-1)
    )
  )
def l_X6_used_4 (v : VM) : Nat → Int32 → Int32 → Int32 → Option Int32
  | 0, _, _, _ => none
  | n + 1, s1, s2, s3 =>
    if s3 < 12 then (
      (f_X6_blockAt v s1 s3).bind fun x14 =>
      if x14 < 0 then (
        l_X6_used_4 v n s1 (s2 + 0) (s3 + 1)
      ) else (
        l_X6_used_4 v n s1 (s2 + 1) (s3 + 1)
      )
    ) else (
      some s2
    )
def f_X6_used (v : VM) (a1 : Int32) : Option Int32 :=
  l_X6_used_4 v FU a1 0 0
def l_X6_forgetMap_10 : Nat → VM → Int32 → Option VM
  | 0, _, _ => none
  | n + 1, v, s1 =>
    if s1 < 4 then (
      (aup 96 v.2.1 (36 + s1) 0).bind fun x24 =>
      (f_X6_put (v.1, x24, v.2.2) s1 5 0).bind fun x29 =>
      l_X6_forgetMap_10 n x29 (s1 + 1)
    ) else (
      some v
    )
def f_X6_forgetMap (v : VM) : Option VM :=
  (aup 96 v.2.1 40 (-1)).bind fun x7 =>
  l_X6_forgetMap_10 FU (v.1, x7, v.2.2) 0
def l_X6_goodRoom_6 (v : VM) : Nat → Int32 → Int32 → Int32 → Option Int32
  | 0, _, _, _ => none
  | n + 1, s1, s2, s3 =>
    if s3 < ((2 * s1) + 2) then (
      (f_X6_isThere v s3).bind fun x18 =>
      if x18 = 0 then (
        l_X6_goodRoom_6 v n s1 (s2 + 0) (s3 + 1)
      ) else (
        (f_X6_of v s3 4).bind fun x27 =>
        if x27 = 0 then (
          (f_X6_of v s3 1).bind fun x36 =>
          l_X6_goodRoom_6 v n s1 (s2 + x36) (s3 + 1)
        ) else (
          l_X6_goodRoom_6 v n s1 (s2 + 0) (s3 + 1)
        )
      )
    ) else (
      some s2
    )
def f_X6_goodRoom (v : VM) (a1 : Int32) : Option Int32 :=
  l_X6_goodRoom_6 v FU a1 0 (2 * a1)
def f_X6_whyNot (v : VM) (a1 : Int32) : Option Int32 :=
  (f_X6_goodRoom v 0).bind fun x2 =>
  (f_X6_goodRoom v 1).bind fun x7 =>
  if (x2 + x7) = 0 then (
    some 1
  ) else (
    if a1 = 2 then (
      (f_X6_goodRoom v 0).bind fun x23 =>
      if x23 = 0 then (
        some 2
      ) else (
        (f_X6_goodRoom v 1).bind fun x31 =>
        if x31 = 0 then (
          some 2
        ) else (
          some 0
        )
      )
    ) else (
      some 0
    )
  )
def b_X6_makeMap_58 (K14 : VM → Int32 → Option VM) (v : VM) (s2 : Int32) : Option VM :=
  (ard 96 v.2.1 41).bind fun x68 =>
  (f_X6_put v s2 6 x68).bind fun x69 =>
  (ard 96 x69.2.1 41).bind fun x82 =>
  (f_X6_put x69 s2 7 x82).bind fun x83 =>
  K14 x83 (s2 + 1)
def l_X6_makeMap_95 : Nat → VM → Int32 → Option VM
  | 0, _, _ => none
  | n + 1, v, s2 =>
    if s2 < 96 then (
      (aup 96 v.2.1 s2 0).bind fun x107 =>
      l_X6_makeMap_95 n (v.1, x107, v.2.2) (s2 + 1)
    ) else (
      some v
    )
def l_X6_makeMap_14 : Nat → VM → Int32 → Option VM
  | 0, _, _ => none
  | n + 1, v, s2 =>
    if s2 < 4 then (
      (f_X6_isThere v s2).bind fun x21 =>
      if x21 = 0 then (
        b_X6_makeMap_58 (l_X6_makeMap_14 n) v s2
      ) else (
        (f_X6_of v s2 4).bind fun x30 =>
        if x30 = 0 then (
          (f_X6_of v s2 1).bind fun x47 =>
          (aup 96 v.2.1 (36 + s2) x47).bind fun x50 =>
          (f_X6_put (v.1, x50, v.2.2) s2 5 1).bind fun x55 =>
          b_X6_makeMap_58 (l_X6_makeMap_14 n) x55 s2
        ) else (
          b_X6_makeMap_58 (l_X6_makeMap_14 n) v s2
        )
      )
    ) else (
      l_X6_makeMap_95 FU v 48
    )
def f_X6_makeMap (v : VM) (a1 : Int32) : Option VM :=
  (f_X6_forgetMap v).bind fun x1 =>
  (aup 96 x1.2.1 40 a1).bind fun x11 =>
  l_X6_makeMap_14 FU (x1.1, x11, x1.2.2) 0
def l_X6_sticks_4 (v : VM) : Nat → Int32 → Int32 → Int32 → Option Int32
  | 0, _, _, _ => none
  | n + 1, s1, s2, s3 =>
    if s3 < 4 then (
      (f_X6_isThere v s3).bind fun x12 =>
      if x12 = 0 then (
        l_X6_sticks_4 v n s1 (s2 + 0) (s3 + 1)
      ) else (
        if s1 = 0 then (
          l_X6_sticks_4 v n s1 (s2 + 1) (s3 + 1)
        ) else (
          (f_X6_of v s3 4).bind fun x25 =>
          if x25 = 1 then (
            l_X6_sticks_4 v n s1 (s2 + 1) (s3 + 1)
          ) else (
            l_X6_sticks_4 v n s1 (s2 + 0) (s3 + 1)
          )
        )
      )
    ) else (
      some s2
    )
def f_X6_sticks (v : VM) (a1 : Int32) : Option Int32 :=
  l_X6_sticks_4 v FU a1 0 0
def b_X6_plug_71 (v : VM) (s1 : Int32) (s2 : Int32) (s3 : Int32) (s4 : Int32) (t0 : Int32) : Option (Int32 × VM) :=
  if 0 < t0 then (
    some (0, (t0, v.2))
  ) else (
    (f_X6_record (t0, v.2)).bind fun x84 =>
    (f_X6_put x84 s1 0 1).bind fun x91 =>
    (f_X6_put x91 s1 1 s2).bind fun x98 =>
    (f_X6_put x98 s1 2 s3).bind fun x105 =>
    (f_X6_put x105 s1 3 s4).bind fun x113 =>
    (f_X6_put x113 s1 4 0).bind fun x120 =>
    (f_X6_put x120 s1 5 0).bind fun x127 =>
    (f_X6_put x127 s1 6 0).bind fun x135 =>
    (f_X6_put x135 s1 7 0).bind fun x143 =>
    (f_X6_put x143 s1 8 0).bind fun x151 =>
    (f_X6_sticks x151 0).bind fun x156 =>
    some (x156, x151)
  )
def b_X6_plug_35 (v : VM) (s1 : Int32) (s2 : Int32) (s3 : Int32) (s4 : Int32) (t0 : Int32) : Option (Int32 × VM) :=
  (f_X6_isSlot s1).bind fun x39 =>
  if x39 = 0 then (
    b_X6_plug_71 v s1 s2 s3 s4 1
  ) else (
    if t0 = 0 then (
      b_X6_plug_71 v s1 s2 s3 s4 2
    ) else (
      (f_X6_isThere v s1).bind fun x60 =>
      if x60 = 0 then (
        b_X6_plug_71 v s1 s2 s3 s4 0
      ) else (
        b_X6_plug_71 v s1 s2 s3 s4 3
      )
    )
  )
def f_X6_plug (v : VM) (a1 : Int32) (a2 : Int32) (a3 : Int32) (a4 : Int32) : Option (Int32 × VM) :=
  (f_X6_in a2 1 12).bind fun x4 =>
  if x4 = 0 then (
    b_X6_plug_35 v a1 a2 a3 a4 0
  ) else (
    (f_X6_in a3 1 2).bind fun x13 =>
    if x13 = 0 then (
      b_X6_plug_35 v a1 a2 a3 a4 0
    ) else (
      (f_X6_in a4 1 9).bind fun x24 =>
      if x24 = 0 then (
        b_X6_plug_35 v a1 a2 a3 a4 0
      ) else (
        b_X6_plug_35 v a1 a2 a3 a4 1
      )
    )
  )
def b_X6_pull_58 (v : VM) (s1 : Int32) (t0 : Int32) : Option (Int32 × VM) :=
  (f_X6_put v s1 0 0).bind fun x63 =>
  (f_X6_put x63 s1 5 0).bind fun x70 =>
  some (t0, x70)
def b_X6_pull_25 (v : VM) (s1 : Int32) (t0 : Int32) : Option (Int32 × VM) :=
  if 0 < t0 then (
    some (0, (t0, v.2))
  ) else (
    (f_X6_record (t0, v.2)).bind fun x38 =>
    (f_X6_isLeft x38 s1).bind fun x43 =>
    if x43 = 0 then (
      b_X6_pull_58 x38 s1 0
    ) else (
      (f_X6_used x38 s1).bind fun x51 =>
      b_X6_pull_58 x38 s1 x51
    )
  )
def f_X6_pull (v : VM) (a1 : Int32) : Option (Int32 × VM) :=
  (f_X6_isSlot a1).bind fun x2 =>
  if x2 = 0 then (
    b_X6_pull_25 v a1 1
  ) else (
    (f_X6_isThere v a1).bind fun x14 =>
    if x14 = 0 then (
      b_X6_pull_25 v a1 2
    ) else (
      b_X6_pull_25 v a1 0
    )
  )
def b_X6_fail_67 (v : VM) (s1 : Int32) (t0 : Int32) : Option (Int32 × VM) :=
  (f_X6_put v s1 4 1).bind fun x72 =>
  some (t0, x72)
def b_X6_fail_34 (v : VM) (s1 : Int32) (t0 : Int32) : Option (Int32 × VM) :=
  if 0 < t0 then (
    some (0, (t0, v.2))
  ) else (
    (f_X6_record (t0, v.2)).bind fun x47 =>
    (f_X6_isLeft x47 s1).bind fun x52 =>
    if x52 = 0 then (
      b_X6_fail_67 x47 s1 0
    ) else (
      (f_X6_used x47 s1).bind fun x60 =>
      b_X6_fail_67 x47 s1 x60
    )
  )
def f_X6_fail (v : VM) (a1 : Int32) : Option (Int32 × VM) :=
  (f_X6_isSlot a1).bind fun x2 =>
  if x2 = 0 then (
    b_X6_fail_34 v a1 1
  ) else (
    (f_X6_isThere v a1).bind fun x14 =>
    if x14 = 0 then (
      b_X6_fail_34 v a1 2
    ) else (
      (f_X6_of v a1 4).bind fun x23 =>
      if x23 = 0 then (
        b_X6_fail_34 v a1 0
      ) else (
        b_X6_fail_34 v a1 2
      )
    )
  )
def b_X6_start_20 (v : VM) (t0 : Int32) : Option (Int32 × VM) :=
  if 0 < t0 then (
    some (0, (t0, v.2))
  ) else (
    (f_X6_record (t0, v.2)).bind fun x33 =>
    (ard 96 x33.2.1 46).bind fun x43 =>
    (f_X6_makeMap x33 x43).bind fun x44 =>
    (ard 96 x44.2.1 45).bind fun x54 =>
    (aup 96 x44.2.1 45 (x54 + 1)).bind fun x57 =>
    (f_X6_blocks (x44.1, x57, x44.2.2)).bind fun x59 =>
    some (x59, (x44.1, x57, x44.2.2))
  )
def f_X6_start (v : VM) : Option (Int32 × VM) :=
  (ard 96 v.2.1 46).bind fun x8 =>
  (f_X6_whyNot v x8).bind fun x9 =>
  if x9 = 0 then (
    b_X6_start_20 v 0
  ) else (
    b_X6_start_20 v 1
  )
def b_X6_stop_17 (v : VM) (t0 : Int32) : Option (Int32 × VM) :=
  if 0 < t0 then (
    some (0, (t0, v.2))
  ) else (
    (f_X6_record (t0, v.2)).bind fun x30 =>
    (f_X6_blocks x30).bind fun x34 =>
    (f_X6_forgetMap x30).bind fun x39 =>
    some (x34, x39)
  )
def f_X6_stop (v : VM) : Option (Int32 × VM) :=
  (ard 96 v.2.1 40).bind fun x7 =>
  if x7 = (-1) then (
    b_X6_stop_17 v 1
  ) else (
    b_X6_stop_17 v 0
  )
def b_X6_write_40 (v : VM) (s1 : Int32) (s2 : Int32) (t0 : Int32) : Option (Int32 × VM) :=
  if 0 < t0 then (
    some (0, (t0, v.2))
  ) else (
    (f_X6_record (t0, v.2)).bind fun x53 =>
    (f_X6_valueOf x53 s1).bind fun x58 =>
    (f_X6_slotOf x53 s1).bind fun x72 =>
    (f_X6_numberOf x53 s1).bind fun x79 =>
    (aup 96 x53.2.1 ((48 + (12 * x72)) + x79) s2).bind fun x84 =>
    (ard 96 x84 40).bind fun x91 =>
    if x91 = 2 then (
      (f_X6_secondSlot (x53.1, x84, x53.2.2) s1).bind fun x106 =>
      (f_X6_secondNumber (x53.1, x84, x53.2.2) s1).bind fun x113 =>
      (aup 96 x84 ((48 + (12 * x106)) + x113) s2).bind fun x118 =>
      some (x58, (x53.1, x118, x53.2.2))
    ) else (
      some (x58, (x53.1, x84, x53.2.2))
    )
  )
def f_X6_write (v : VM) (a1 : Int32) (a2 : Int32) : Option (Int32 × VM) :=
  (f_X6_isBlock v a1).bind fun x3 =>
  if x3 = 0 then (
    b_X6_write_40 v a1 a2 1
  ) else (
    (f_X6_in a2 0 99).bind fun x17 =>
    if x17 = 0 then (
      b_X6_write_40 v a1 a2 2
    ) else (
      (f_X6_isLeftFor v a1).bind fun x29 =>
      if x29 = 0 then (
        b_X6_write_40 v a1 a2 3
      ) else (
        b_X6_write_40 v a1 a2 0
      )
    )
  )
def f_X6_rankOf (v : VM) (a1 : Int32) (a2 : Int32) : Option Int32 :=
  (f_X6_of v a1 2).bind fun x3 =>
  if x3 = 2 then (
    some (a2 - a2 / 2 * 2)
  ) else (
    some 0
  )
def f_X6_freeFrom (v : VM) (a1 : Int32) : Option Int32 :=
  (f_X6_readSlot v a1).bind fun x2 =>
  (f_X6_readNumber v a1).bind fun x14 =>
  (f_X6_rankOf v x2 x14).bind fun x17 =>
  (f_X6_of v x2 (6 + x17)).bind fun x21 =>
  some x21
def f_X6_waitFor (v : VM) (a1 : Int32) : Option VM :=
  (ard 96 v.2.1 41).bind fun x7 =>
  if x7 < a1 then (
    (ard 96 v.2.1 44).bind fun x18 =>
    (ard 96 v.2.1 41).bind fun x26 =>
    (aup 96 v.2.1 44 (x18 + (a1 - x26))).bind fun x29 =>
    (aup 96 x29 41 a1).bind fun x37 =>
    some (v.1, x37, v.2.2)
  ) else (
    some v
  )
def f_X6_readNow (v : VM) (a1 : Int32) : Option (Int32 × VM) :=
  (f_X6_readSlot v a1).bind fun x2 =>
  (f_X6_readNumber v a1).bind fun x14 =>
  (f_X6_rankOf v x2 x14).bind fun x17 =>
  (ard 96 v.2.1 41).bind fun x27 =>
  (f_X6_of v x2 3).bind fun x31 =>
  (f_X6_put v x2 (6 + x17) (x27 + x31)).bind fun x35 =>
  (f_X6_of x35 x2 8).bind fun x46 =>
  (f_X6_put x35 x2 8 (x46 + 1)).bind fun x51 =>
  (ard 96 x51.2.1 42).bind fun x61 =>
  (aup 96 x51.2.1 42 (x61 + 1)).bind fun x64 =>
  (f_X6_valueOf (x51.1, x64, x51.2.2) a1).bind fun x67 =>
  some (x67, (x51.1, x64, x51.2.2))
def f_X6_doRead (v : VM) (a1 : Int32) : Option (Int32 × VM) :=
  (f_X6_freeFrom v a1).bind fun x3 =>
  (f_X6_waitFor v x3).bind fun x6 =>
  (f_X6_readNow x6 a1).bind fun x11 =>
  (ard 96 x11.2.2.1 41).bind fun x22 =>
  (aup 96 x11.2.2.1 41 (x22 + 1)).bind fun x25 =>
  some (x11.1, (x11.2.1, x25, x11.2.2.2))
def f_X6_readPair (v : VM) (a1 : Int32) : Option (Int32 × VM) :=
  (f_X6_freeFrom v a1).bind fun x3 =>
  (f_X6_waitFor v x3).bind fun x6 =>
  (f_X6_freeFrom x6 (a1 + 1)).bind fun x14 =>
  (f_X6_waitFor x6 x14).bind fun x17 =>
  (f_X6_readNow x17 a1).bind fun x22 =>
  (f_X6_readNow x22.2 (a1 + 1)).bind fun x31 =>
  (ard 96 x31.2.2.1 43).bind fun x43 =>
  (aup 96 x31.2.2.1 43 (x43 + 1)).bind fun x46 =>
  (ard 96 x46 41).bind fun x54 =>
  (aup 96 x46 41 (x54 + 1)).bind fun x57 =>
  some ((x22.1 + x31.1), (x31.2.1, x57, x31.2.2.2))
def b_X6_read_26 (v : VM) (s1 : Int32) (t0 : Int32) : Option (Int32 × VM) :=
  if 0 < t0 then (
    some (0, (t0, v.2))
  ) else (
    (f_X6_record (t0, v.2)).bind fun x39 =>
    (f_X6_doRead x39 s1).bind fun x44 =>
    some (x44.1, x44.2)
  )
def f_X6_read (v : VM) (a1 : Int32) : Option (Int32 × VM) :=
  (f_X6_isBlock v a1).bind fun x3 =>
  if x3 = 0 then (
    b_X6_read_26 v a1 1
  ) else (
    (f_X6_isLeftFor v a1).bind fun x15 =>
    if x15 = 0 then (
      b_X6_read_26 v a1 2
    ) else (
      b_X6_read_26 v a1 0
    )
  )
def b_X6_rest_16 (v : VM) (s1 : Int32) (t0 : Int32) : Option (Int32 × VM) :=
  if 0 < t0 then (
    some (0, (t0, v.2))
  ) else (
    (f_X6_record (t0, v.2)).bind fun x29 =>
    (ard 96 x29.2.1 41).bind fun x39 =>
    (aup 96 x29.2.1 41 (x39 + s1)).bind fun x42 =>
    (ard 96 x42 41).bind fun x49 =>
    some (x49, (x29.1, x42, x29.2.2))
  )
def f_X6_rest (v : VM) (a1 : Int32) : Option (Int32 × VM) :=
  (f_X6_in a1 1 99).bind fun x5 =>
  if x5 = 0 then (
    b_X6_rest_16 v a1 1
  ) else (
    b_X6_rest_16 v a1 0
  )
def b_X6_set_30 (v : VM) (s1 : Int32) (s2 : Int32) (t0 : Int32) : Option (Int32 × VM) :=
  if 0 < t0 then (
    some (0, (t0, v.2))
  ) else (
    (f_X6_record (t0, v.2)).bind fun x43 =>
    (ard 96 x43.2.1 (46 + s1)).bind fun x54 =>
    (aup 96 x43.2.1 (46 + s1) s2).bind fun x65 =>
    some (x54, (x43.1, x65, x43.2.2))
  )
def f_X6_set (v : VM) (a1 : Int32) (a2 : Int32) : Option (Int32 × VM) :=
  (f_X6_in a1 0 1).bind fun x4 =>
  if x4 = 0 then (
    b_X6_set_30 v a1 a2 1
  ) else (
    (f_X6_in a2 0 (2 - a1)).bind fun x19 =>
    if x19 = 0 then (
      b_X6_set_30 v a1 a2 2
    ) else (
      b_X6_set_30 v a1 a2 0
    )
  )
def b_X6_append_30 (v : VM) (s1 : Int32) (t0 : Int32) : Option (Int32 × VM) :=
  if 0 < t0 then (
    some (0, (t0, v.2))
  ) else (
    (aup 60 v.2.2.2.2.2.2.2.1 v.2.2.2.2.2.2.2.2.1 s1).bind fun x51 =>
    some ((v.2.2.2.2.2.2.2.2.1 + 1), (t0, v.2.1, v.2.2.1, v.2.2.2.1, v.2.2.2.2.1, v.2.2.2.2.2.1, v.2.2.2.2.2.2.1, x51, (v.2.2.2.2.2.2.2.2.1 + 1), v.2.2.2.2.2.2.2.2.2))
  )
def f_X6_append (v : VM) (a1 : Int32) : Option (Int32 × VM) :=
  (f_X6_in a1 33 126).bind fun x6 =>
  if x6 = 0 then (
    b_X6_append_30 v a1 1
  ) else (
    if v.2.2.2.2.2.2.2.2.1 = 60 then (
      b_X6_append_30 v a1 2
    ) else (
      b_X6_append_30 v a1 0
    )
  )
def f_X6_clearBuffer (v : VM) : Option (Int32 × VM) :=
  some (v.2.2.2.2.2.2.2.2.1, (0, v.2.1, v.2.2.1, v.2.2.2.1, v.2.2.2.2.1, v.2.2.2.2.2.1, v.2.2.2.2.2.2.1, v.2.2.2.2.2.2.2.1, 0, v.2.2.2.2.2.2.2.2.2))
def f_X6_at (v : VM) (a1 : Int32) : Option Int32 :=
  if a1 < v.2.2.2.2.2.2.2.2.1 then (
    (ard 60 v.2.2.2.2.2.2.2.1 a1).bind fun x13 =>
    some x13
  ) else (
    some 0
  )
def b_X6_takeBlock_82 (v : VM) (s1 : Int32) (s4 : Int32) (t0 : Int32) : Option (Int32 × VM) :=
  if s4 = 0 then (
    some ((s1 + 1), (v.1, v.2.1, v.2.2.1, v.2.2.2.1, v.2.2.2.2.1, v.2.2.2.2.2.1, v.2.2.2.2.2.2.1, v.2.2.2.2.2.2.2.1, v.2.2.2.2.2.2.2.2.1, v.2.2.2.2.2.2.2.2.2.1, t0))
  ) else (
    some ((s1 + 2), (v.1, v.2.1, v.2.2.1, v.2.2.2.1, v.2.2.2.2.1, v.2.2.2.2.2.1, v.2.2.2.2.2.2.1, v.2.2.2.2.2.2.2.1, v.2.2.2.2.2.2.2.2.1, v.2.2.2.2.2.2.2.2.2.1, t0))
  )
def b_X6_takeBlock_64 (v : VM) (s1 : Int32) (s2 : Int32) (s3 : Int32) (t0 : Int32) : Option (Int32 × VM) :=
  if t0 = 0 then (
    b_X6_takeBlock_82 v s1 t0 s2
  ) else (
    b_X6_takeBlock_82 v s1 t0 ((10 * s2) + s3)
  )
def f_X6_takeBlock (v : VM) (a1 : Int32) : Option (Int32 × VM) :=
  (f_X6_at v a1).bind fun x2 =>
  (f_X6_in (x2 - 48) 0 9).bind fun x13 =>
  if x13 = 0 then (
    some (((-1) - a1), v)
  ) else (
    (f_X6_at v (a1 + 1)).bind fun x27 =>
    if 0 < (x2 - 48) then (
      (f_X6_in (x27 - 48) 0 9).bind fun x42 =>
      if x42 = 0 then (
        b_X6_takeBlock_64 v a1 (x2 - 48) (x27 - 48) 0
      ) else (
        if 47 < ((10 * (x2 - 48)) + (x27 - 48)) then (
          b_X6_takeBlock_64 v a1 (x2 - 48) (x27 - 48) 0
        ) else (
          b_X6_takeBlock_64 v a1 (x2 - 48) (x27 - 48) 1
        )
      )
    ) else (
      b_X6_takeBlock_64 v a1 (x2 - 48) (x27 - 48) 0
    )
  )
def f_X6_takePart (v : VM) (a1 : Int32) : Option (Int32 × VM) :=
  (f_X6_takeBlock v a1).bind fun x2 =>
  if x2.1 < 0 then (
    some (x2.1, (x2.2.1, x2.2.2.1, x2.2.2.2.1, x2.2.2.2.2.1, x2.2.2.2.2.2.1, x2.2.2.2.2.2.2.1, x2.2.2.2.2.2.2.2.1, x2.2.2.2.2.2.2.2.2.1, x2.2.2.2.2.2.2.2.2.2.1, x2.2.2.2.2.2.2.2.2.2.2.2, x2.2.2.2.2.2.2.2.2.2.2.2))
  ) else (
    (f_X6_at (x2.2.1, x2.2.2.1, x2.2.2.2.1, x2.2.2.2.2.1, x2.2.2.2.2.2.1, x2.2.2.2.2.2.2.1, x2.2.2.2.2.2.2.2.1, x2.2.2.2.2.2.2.2.2.1, x2.2.2.2.2.2.2.2.2.2.1, x2.2.2.2.2.2.2.2.2.2.2.2, x2.2.2.2.2.2.2.2.2.2.2.2) x2.1).bind fun x20 =>
    if x20 = 45 then (
      (f_X6_takeBlock (x2.2.1, x2.2.2.1, x2.2.2.2.1, x2.2.2.2.2.1, x2.2.2.2.2.2.1, x2.2.2.2.2.2.2.1, x2.2.2.2.2.2.2.2.1, x2.2.2.2.2.2.2.2.2.1, x2.2.2.2.2.2.2.2.2.2.1, x2.2.2.2.2.2.2.2.2.2.2.2, x2.2.2.2.2.2.2.2.2.2.2.2) (x2.1 + 1)).bind fun x32 =>
      some (x32.1, x32.2)
    ) else (
      some (x2.1, (x2.2.1, x2.2.2.1, x2.2.2.2.1, x2.2.2.2.2.1, x2.2.2.2.2.2.1, x2.2.2.2.2.2.2.1, x2.2.2.2.2.2.2.2.1, x2.2.2.2.2.2.2.2.2.1, x2.2.2.2.2.2.2.2.2.2.1, x2.2.2.2.2.2.2.2.2.2.2.2, x2.2.2.2.2.2.2.2.2.2.2.2))
    )
  )
def l_X6_findError_2 : Nat → VM → Int32 → Option (Int32 × VM)
  | 0, _, _ => none
  | n + 1, v, s1 =>
    (f_X6_takePart v s1).bind fun x4 =>
    if x4.1 < 0 then (
      some (((-1) - x4.1), x4.2)
    ) else (
      if x4.1 = x4.2.2.2.2.2.2.2.2.2.1 then (
        some ((-1), x4.2)
      ) else (
        (ard 60 x4.2.2.2.2.2.2.2.2.1 x4.1).bind fun x31 =>
        if x31 = 44 then (
          l_X6_findError_2 n x4.2 (x4.1 + 1)
        ) else (
          some (x4.1, x4.2)
        )
      )
    )
def f_X6_findError (v : VM) : Option (Int32 × VM) :=
  l_X6_findError_2 FU v 0
def f_X6_firstError (v : VM) : Option (Int32 × VM) :=
  (f_X6_findError (0, v.2)).bind fun x6 =>
  if x6.1 < 0 then (
    some (x6.2.2.2.2.2.2.2.2.2.1, x6.2)
  ) else (
    some (x6.1, x6.2)
  )
def l_X6_areRising_4 : Nat → VM → Int32 → Int32 → Option (Int32 × VM)
  | 0, _, _, _ => none
  | n + 1, v, s1, s2 =>
    if s2 < v.2.2.2.2.2.2.2.2.1 then (
      (f_X6_takePart v s2).bind fun x14 =>
      if s1 = 0 then (
        l_X6_areRising_4 n x14.2 0 (x14.1 + 1)
      ) else (
        if x14.2.2.2.2.2.2.2.2.2.2.2 < x14.2.2.2.2.2.2.2.2.2.2.1 then (
          l_X6_areRising_4 n x14.2 0 (x14.1 + 1)
        ) else (
          l_X6_areRising_4 n x14.2 1 (x14.1 + 1)
        )
      )
    ) else (
      (bck s1).bind fun r46 =>
      some (r46, v)
    )
def f_X6_areRising (v : VM) : Option (Int32 × VM) :=
  l_X6_areRising_4 FU v 1 0
def f_X6_canRead (v : VM) (a1 : Int32) : Option Int32 :=
  (f_X6_isBlock v a1).bind fun x2 =>
  if x2 = 0 then (
    some 0
  ) else (
    (f_X6_isLeftFor v a1).bind fun x10 =>
    if x10 = 0 then (
      some 0
    ) else (
      some 1
    )
  )
def b_X6_run_142 (K42 : VM → Int32 → Int32 → Int32 → Option (Int32 × VM)) (K72 : VM → Int32 → Int32 → Int32 → Int32 → Int32 → Option (Int32 × VM)) (v : VM) (s1 : Int32) (s3 : Int32) (s4 : Int32) (s5 : Int32) (t0 : Int32) : Option (Int32 × VM) :=
  (f_X6_canRead v s4).bind fun x147 =>
  if t0 = 0 then (
    if x147 = 0 then (
      K72 v s1 x147 s3 s4 s5
    ) else (
      (f_X6_doRead v s4).bind fun x179 =>
      K72 x179.2 (s1 + x179.1) x147 s3 (s4 + 1) s5
    )
  ) else (
    (f_X6_readPair v s4).bind fun x160 =>
    K72 x160.2 (s1 + x160.1) x147 s3 (s4 + 2) s5
  )
def l_X6_run_72 (K42 : VM → Int32 → Int32 → Int32 → Option (Int32 × VM)) : Nat → VM → Int32 → Int32 → Int32 → Int32 → Int32 → Option (Int32 × VM)
  | 0, _, _, _, _, _, _ => none
  | n + 1, v, s1, s2, s3, s4, s5 =>
    if s2 = 0 then (
      K42 v s1 s2 (s3 + 1)
    ) else (
      if s5 < s4 then (
        K42 v s1 s2 (s3 + 1)
      ) else (
        (ard 96 v.2.1 47).bind fun x89 =>
        if x89 = 1 then (
          if (s4 - s4 / 2 * 2) = 0 then (
            (f_X6_wideBlocks v).bind fun x104 =>
            if s4 < x104 then (
              if s4 < s5 then (
                (f_X6_canRead v s4).bind fun x120 =>
                if x120 = 0 then (
                  b_X6_run_142 K42 (l_X6_run_72 K42 n) v s1 s3 s4 s5 0
                ) else (
                  (f_X6_canRead v (s4 + 1)).bind fun x131 =>
                  if x131 = 0 then (
                    b_X6_run_142 K42 (l_X6_run_72 K42 n) v s1 s3 s4 s5 0
                  ) else (
                    b_X6_run_142 K42 (l_X6_run_72 K42 n) v s1 s3 s4 s5 1
                  )
                )
              ) else (
                b_X6_run_142 K42 (l_X6_run_72 K42 n) v s1 s3 s4 s5 0
              )
            ) else (
              b_X6_run_142 K42 (l_X6_run_72 K42 n) v s1 s3 s4 s5 0
            )
          ) else (
            b_X6_run_142 K42 (l_X6_run_72 K42 n) v s1 s3 s4 s5 0
          )
        ) else (
          b_X6_run_142 K42 (l_X6_run_72 K42 n) v s1 s3 s4 s5 0
        )
      )
    )
def l_X6_run_42 : Nat → VM → Int32 → Int32 → Int32 → Option (Int32 × VM)
  | 0, _, _, _, _ => none
  | n + 1, v, s1, s2, s3 =>
    if s3 < v.2.2.2.2.2.2.2.2.1 then (
      if s2 = 0 then (
        some (s1, (v.1, v.2.1, v.2.2.1, v.2.2.2.1, v.2.2.2.2.1, v.2.2.2.2.2.1, v.2.2.2.2.2.2.1, v.2.2.2.2.2.2.2.1, 0, v.2.2.2.2.2.2.2.2.2))
      ) else (
        (f_X6_takePart v s3).bind fun x56 =>
        l_X6_run_72 (l_X6_run_42 n) FU x56.2 s1 s2 x56.1 x56.2.2.2.2.2.2.2.2.2.2.1 x56.2.2.2.2.2.2.2.2.2.2.2
      )
    ) else (
      some (s1, (v.1, v.2.1, v.2.2.1, v.2.2.2.1, v.2.2.2.2.1, v.2.2.2.2.2.1, v.2.2.2.2.2.2.1, v.2.2.2.2.2.2.2.1, 0, v.2.2.2.2.2.2.2.2.2))
    )
def b_X6_run_20 (v : VM) (t0 : Int32) : Option (Int32 × VM) :=
  if 0 < t0 then (
    some (0, (t0, v.2))
  ) else (
    (f_X6_record (t0, v.2)).bind fun x33 =>
    l_X6_run_42 FU x33 0 1 0
  )
def f_X6_run (v : VM) : Option (Int32 × VM) :=
  (f_X6_findError v).bind fun x2 =>
  if x2.1 < 0 then (
    (f_X6_areRising x2.2).bind fun x9 =>
    if x9.1 = 0 then (
      b_X6_run_20 x9.2 1
    ) else (
      b_X6_run_20 x9.2 0
    )
  ) else (
    b_X6_run_20 x2.2 1
  )
def f_X6_slotNow (v : VM) (a1 : Int32) (a2 : Int32) : Option Int32 :=
  (f_X6_isThere v a1).bind fun x2 =>
  if x2 = 0 then (
    some (-1)
  ) else (
    if a2 = 5 then (
      (f_X6_of v a1 6).bind fun x40 =>
      some x40
    ) else (
      if a2 = 6 then (
        (f_X6_of v a1 2).bind fun x47 =>
        if x47 = 2 then (
          (f_X6_of v a1 7).bind fun x58 =>
          some x58
        ) else (
          some (-1)
        )
      ) else (
        if a2 = 7 then (
          (f_X6_of v a1 8).bind fun x70 =>
          some x70
        ) else (
            (f_X6_of v a1 (1 + a2)).bind fun x79 =>
            some x79
        )
      )
    )
  )
def b_X6_slot_27 (v : VM) (s1 : Int32) (s2 : Int32) (t0 : Int32) : Option (Int32 × VM) :=
  if 0 < t0 then (
    some (0, (t0, v.2))
  ) else (
    (f_X6_slotNow (t0, v.2) s1 s2).bind fun x44 =>
    some (x44, (t0, v.2))
  )
def f_X6_slot (v : VM) (a1 : Int32) (a2 : Int32) : Option (Int32 × VM) :=
  (f_X6_isSlot a1).bind fun x2 =>
  if x2 = 0 then (
    b_X6_slot_27 v a1 a2 1
  ) else (
    (f_X6_in a2 0 7).bind fun x16 =>
    if x16 = 0 then (
      b_X6_slot_27 v a1 a2 2
    ) else (
      b_X6_slot_27 v a1 a2 0
    )
  )
def f_X6_whereNow (v : VM) (a1 : Int32) (a2 : Int32) : Option Int32 :=
  (f_X6_slotOf v a1).bind fun x2 =>
  if a2 = 0 then (
    some x2
  ) else (
    if a2 = 1 then (
      (f_X6_numberOf v a1).bind fun x48 =>
      some x48
    ) else (
      if a2 = 2 then (
        (f_X6_of v x2 5).bind fun x55 =>
        if x55 = 1 then (
          (f_X6_numberOf v a1).bind fun x66 =>
          (f_X6_rankOf v x2 x66).bind fun x69 =>
          some x69
        ) else (
          some (-1)
        )
      ) else (
        if a2 = 3 then (
          (ard 96 v.2.1 40).bind fun x83 =>
          if x83 = 2 then (
            some 2
          ) else (
            (f_X6_wideBlocks v).bind fun x94 =>
            if a1 < x94 then (
              some 1
            ) else (
              some 0
            )
          )
        ) else (
          if a2 = 4 then (
            (f_X6_secondSlot v a1).bind fun x108 =>
            some x108
          ) else (
            if a2 = 5 then (
              (f_X6_secondNumber v a1).bind fun x114 =>
              some x114
            ) else (
                (f_X6_isLeftFor v a1).bind fun x120 =>
                if x120 = 0 then (
                  some 0
                ) else (
                  some 1
                )
            )
          )
        )
      )
    )
  )
def b_X6_where_28 (v : VM) (s1 : Int32) (s2 : Int32) (t0 : Int32) : Option (Int32 × VM) :=
  if 0 < t0 then (
    some (0, (t0, v.2))
  ) else (
    (f_X6_whereNow (t0, v.2) s1 s2).bind fun x45 =>
    some (x45, (t0, v.2))
  )
def f_X6_where (v : VM) (a1 : Int32) (a2 : Int32) : Option (Int32 × VM) :=
  (f_X6_isBlock v a1).bind fun x3 =>
  if x3 = 0 then (
    b_X6_where_28 v a1 a2 1
  ) else (
    (f_X6_in a2 0 6).bind fun x17 =>
    if x17 = 0 then (
      b_X6_where_28 v a1 a2 2
    ) else (
      b_X6_where_28 v a1 a2 0
    )
  )
def b_X6_lies_23 (v : VM) (s1 : Int32) (s2 : Int32) (t0 : Int32) : Option (Int32 × VM) :=
  if 0 < t0 then (
    some (0, (t0, v.2))
  ) else (
    (f_X6_blockAt (t0, v.2) s1 s2).bind fun x40 =>
    some (x40, (t0, v.2))
  )
def f_X6_lies (v : VM) (a1 : Int32) (a2 : Int32) : Option (Int32 × VM) :=
  (f_X6_isSlot a1).bind fun x2 =>
  if x2 = 0 then (
    b_X6_lies_23 v a1 a2 1
  ) else (
    (f_X6_in a2 0 11).bind fun x12 =>
    if x12 = 0 then (
      b_X6_lies_23 v a1 a2 1
    ) else (
      b_X6_lies_23 v a1 a2 0
    )
  )
def l_X6_lost_4 (v : VM) : Nat → Int32 → Int32 → Option Int32
  | 0, _, _ => none
  | n + 1, s1, s2 =>
    (f_X6_blocks v).bind fun x6 =>
    if s2 < x6 then (
      (f_X6_isLeftFor v s2).bind fun x15 =>
      if x15 = 0 then (
        l_X6_lost_4 v n (s1 + 1) (s2 + 1)
      ) else (
        l_X6_lost_4 v n (s1 + 0) (s2 + 1)
      )
    ) else (
      some s1
    )
def f_X6_lost (v : VM) : Option Int32 :=
  l_X6_lost_4 v FU 0 0
def l_X6_values_4 (v : VM) : Nat → Int32 → Int32 → Option Int32
  | 0, _, _ => none
  | n + 1, s1, s2 =>
    (f_X6_blocks v).bind fun x6 =>
    if s2 < x6 then (
      (f_X6_isLeftFor v s2).bind fun x15 =>
      if x15 = 0 then (
        l_X6_values_4 v n (s1 + 0) (s2 + 1)
      ) else (
        (f_X6_valueOf v s2).bind fun x23 =>
        l_X6_values_4 v n (s1 + x23) (s2 + 1)
      )
    ) else (
      some s1
    )
def f_X6_values (v : VM) : Option Int32 :=
  l_X6_values_4 v FU 0 0
def f_X6_countNow (v : VM) (a1 : Int32) : Option Int32 :=
  if a1 = 0 then (
    (f_X6_sticks v 0).bind fun x62 =>
    some x62
  ) else (
    if a1 = 1 then (
      (f_X6_sticks v 1).bind fun x68 =>
      some x68
    ) else (
      if a1 = 2 then (
        (f_X6_blocks v).bind fun x73 =>
        some x73
      ) else (
        if a1 = 3 then (
          (f_X6_wideBlocks v).bind fun x78 =>
          some x78
        ) else (
          if a1 = 4 then (
            (ard 96 v.2.1 41).bind fun x88 =>
            some x88
          ) else (
            if a1 = 5 then (
              (ard 96 v.2.1 42).bind fun x96 =>
              some x96
            ) else (
              if a1 = 6 then (
                (ard 96 v.2.1 43).bind fun x104 =>
                some x104
              ) else (
                if a1 = 7 then (
                  (ard 96 v.2.1 44).bind fun x112 =>
                  some x112
                ) else (
                  if a1 = 8 then (
                    (f_X6_lost v).bind fun x115 =>
                    some x115
                  ) else (
                    if a1 = 9 then (
                      (ard 96 v.2.1 45).bind fun x125 =>
                      some x125
                    ) else (
                      if a1 = 10 then (
                        (f_X6_values v).bind fun x128 =>
                        some x128
                      ) else (
                          some v.2.2.2.2.1
                      )
                    )
                  )
                )
              )
            )
          )
        )
      )
    )
  )
def b_X6_count_16 (v : VM) (s1 : Int32) (t0 : Int32) : Option (Int32 × VM) :=
  if 0 < t0 then (
    some (0, (t0, v.2))
  ) else (
    (f_X6_countNow (t0, v.2) s1).bind fun x32 =>
    some (x32, (t0, v.2))
  )
def f_X6_count (v : VM) (a1 : Int32) : Option (Int32 × VM) :=
  (f_X6_in a1 0 11).bind fun x5 =>
  if x5 = 0 then (
    b_X6_count_16 v a1 1
  ) else (
    b_X6_count_16 v a1 0
  )
def b_X6_setting_15 (v : VM) (s1 : Int32) (t0 : Int32) : Option (Int32 × VM) :=
  if 0 < t0 then (
    some (0, (t0, v.2))
  ) else (
    (ard 96 v.2.1 (46 + s1)).bind fun x37 =>
    some (x37, (t0, v.2))
  )
def f_X6_setting (v : VM) (a1 : Int32) : Option (Int32 × VM) :=
  (f_X6_in a1 0 1).bind fun x4 =>
  if x4 = 0 then (
    b_X6_setting_15 v a1 1
  ) else (
    b_X6_setting_15 v a1 0
  )
def f_X6_why (v : VM) : Option (Int32 × VM) :=
  (ard 96 v.2.1 46).bind fun x12 =>
  (f_X6_whyNot (0, v.2) x12).bind fun x13 =>
  some (x13, (0, v.2))
def l_X6_swept_29 : Nat → VM → Int32 → Int32 → Option (Int32 × VM)
  | 0, _, _, _ => none
  | n + 1, v, s2, s3 =>
    (f_X6_blocks v).bind fun x31 =>
    if s3 < x31 then (
      (f_X6_wideBlocks v).bind fun x39 =>
      if s3 < x39 then (
        (f_X6_readPair v s3).bind fun x47 =>
        l_X6_swept_29 n x47.2 s2 (s3 + 2)
      ) else (
        (f_X6_doRead v s3).bind fun x59 =>
        l_X6_swept_29 n x59.2 s2 (s3 + 1)
      )
    ) else (
      (ard 96 v.2.1 41).bind fun x75 =>
      (f_X6_putBack v).bind fun x81 =>
      some ((x75 - s2), x81)
    )
def f_X6_swept (v : VM) (a1 : Int32) : Option (Int32 × VM) :=
  (f_X6_whyNot v a1).bind fun x2 =>
  if 0 < x2 then (
    some ((-1), v)
  ) else (
    (f_X6_putAside v).bind fun x11 =>
    (f_X6_makeMap x11 a1).bind fun x16 =>
    (ard 96 x16.2.1 41).bind fun x25 =>
    l_X6_swept_29 FU x16 x25 0
  )
def b_X6_sweep_15 (v : VM) (s1 : Int32) (t0 : Int32) : Option (Int32 × VM) :=
  if 0 < t0 then (
    some (0, (t0, v.2))
  ) else (
    (f_X6_swept (t0, v.2) s1).bind fun x31 =>
    some (x31.1, x31.2)
  )
def f_X6_sweep (v : VM) (a1 : Int32) : Option (Int32 × VM) :=
  (f_X6_in a1 0 2).bind fun x4 =>
  if x4 = 0 then (
    b_X6_sweep_15 v a1 1
  ) else (
    b_X6_sweep_15 v a1 0
  )
def b_X6_started_34 (v : VM) (t0 : Int32) : Option (Int32 × VM) :=
  (f_X6_putBack v).bind fun x36 =>
  some (t0, x36)
def f_X6_started (v : VM) (a1 : Int32) (a2 : Int32) : Option (Int32 × VM) :=
  (f_X6_whyNot v a1).bind fun x2 =>
  if 0 < x2 then (
    some (0, v)
  ) else (
    (f_X6_putAside v).bind fun x11 =>
    (f_X6_makeMap x11 a1).bind fun x16 =>
    if a2 = 0 then (
      (f_X6_blocks x16).bind fun x24 =>
      b_X6_started_34 x16 x24
    ) else (
      (f_X6_wideBlocks x16).bind fun x31 =>
      b_X6_started_34 x16 x31
    )
  )
def b_X6_ifStarted_24 (v : VM) (s1 : Int32) (s2 : Int32) (t0 : Int32) : Option (Int32 × VM) :=
  if 0 < t0 then (
    some (0, (t0, v.2))
  ) else (
    (f_X6_started (t0, v.2) s1 s2).bind fun x41 =>
    some (x41.1, x41.2)
  )
def f_X6_ifStarted (v : VM) (a1 : Int32) (a2 : Int32) : Option (Int32 × VM) :=
  (f_X6_in a1 0 2).bind fun x4 =>
  if x4 = 0 then (
    b_X6_ifStarted_24 v a1 a2 1
  ) else (
    (f_X6_in a2 0 1).bind fun x13 =>
    if x13 = 0 then (
      b_X6_ifStarted_24 v a1 a2 1
    ) else (
      b_X6_ifStarted_24 v a1 a2 0
    )
  )
def l_X6_exchange_2 : Nat → VM → Int32 → Int32 → Int32 → Option VM
  | 0, _, _, _, _ => none
  | n + 1, v, s1, s2, s3 =>
    if s3 < 9 then (
      (f_X6_of v s1 s3).bind fun x11 =>
      (f_X6_of v s2 s3).bind fun x22 =>
      (f_X6_put v s1 s3 x22).bind fun x25 =>
      (f_X6_put x25 s2 s3 x11).bind fun x33 =>
      l_X6_exchange_2 n x33 s1 s2 (s3 + 1)
    ) else (
      some v
    )
def f_X6_exchange (v : VM) (a1 : Int32) (a2 : Int32) : Option VM :=
  l_X6_exchange_2 FU v a1 a2 0
def f_X6_goodWide (v : VM) : Option Int32 :=
  (f_X6_goodRoom v 0).bind fun x3 =>
  (f_X6_goodRoom v 1).bind fun x8 =>
  if x3 < x8 then (
    (f_X6_goodRoom v 0).bind fun x16 =>
    some (2 * x16)
  ) else (
    (f_X6_goodRoom v 1).bind fun x24 =>
    some (2 * x24)
  )
def l_X6_findChange_19 (K9 : VM → Int32 → Int32 → Int32 → Option (Int32 × VM)) : Nat → VM → Int32 → Int32 → Int32 → Int32 → Option (Int32 × VM)
  | 0, _, _, _, _, _ => none
  | n + 1, v, s1, s2, s3, s4 =>
    if s4 < 4 then (
      (f_X6_exchange v s3 s4).bind fun x29 =>
      (f_X6_goodWide x29).bind fun x33 =>
      (f_X6_exchange x29 s3 s4).bind fun x42 =>
      if s2 < x33 then (
        l_X6_findChange_19 K9 n x42 ((4 * s3) + s4) x33 s3 (s4 + 1)
      ) else (
        l_X6_findChange_19 K9 n x42 s1 s2 s3 (s4 + 1)
      )
    ) else (
      K9 v s1 s2 (s3 + 1)
    )
def l_X6_findChange_9 : Nat → VM → Int32 → Int32 → Int32 → Option (Int32 × VM)
  | 0, _, _, _, _ => none
  | n + 1, v, s1, s2, s3 =>
    if s3 < 4 then (
      l_X6_findChange_19 (l_X6_findChange_9 n) FU v s1 s2 s3 (s3 + 1)
    ) else (
      some (s1, v)
    )
def f_X6_findChange (v : VM) : Option (Int32 × VM) :=
  (f_X6_goodWide v).bind fun x3 =>
  l_X6_findChange_9 FU v (-1) x3 0
def f_X6_bestChange (v : VM) : Option (Int32 × VM) :=
  (f_X6_findChange (0, v.2)).bind fun x6 =>
  some (x6.1, x6.2)
def f_X6_share (v : VM) : Option UInt64 :=
  (f_X6_blocks v).bind fun x1 =>
  if x1 = 0 then (
    some FP.dconst0
  ) else (
    (f_X6_wideBlocks v).bind fun x12 =>
    (f_X6_blocks v).bind fun x17 =>
    (dck (FP.ddiv (FP.i2d x12) (FP.i2d x17))).bind fun x21 =>
    some x21
  )
def f_X6_wideShare (v : VM) : Option (UInt64 × VM) :=
  (f_X6_share (0, v.2)).bind fun x6 =>
  some (x6, (0, v.2))
def f_X6_mean (v : VM) : Option UInt32 :=
  (ard 96 v.2.1 42).bind fun x6 =>
  if x6 = 0 then (
    some FP.fconst0
  ) else (
    (ard 96 v.2.1 41).bind fun x20 =>
    (ard 96 v.2.1 42).bind fun x28 =>
    (fck (FP.fdiv (FP.i2f x20) (FP.i2f x28))).bind fun x30 =>
    some x30
  )
def f_X6_meanTicks (v : VM) : Option (UInt32 × VM) :=
  (f_X6_mean (0, v.2)).bind fun x6 =>
  some (x6, (0, v.2))
def f_Jxe99ae_isNaN_b9ae7 (a0 : UInt64) : Option Int32 :=
  if (Op.cmpValue (FP.dcmp a0 a0) CmpOp.l) = 0 then (
    some 0
  ) else (
    some 1
  )
def f_Jxe99ae_doubleToLongBits_ccdee (a0 : UInt64) : Option Int64 :=
  (f_Jxe99ae_isNaN_b9ae7 a0).bind fun x1 =>
  if x1 = 0 then (
    some ((a0 : UInt64).toInt64)
  ) else (
    some (9221120237041090560 : Int64)
  )
def f_Jxf58ca_isNaN_12338 (a0 : UInt32) : Option Int32 :=
  if (Op.cmpValue (FP.fcmp a0 a0) CmpOp.l) = 0 then (
    some 0
  ) else (
    some 1
  )
def f_Jxf58ca_floatToIntBits_5c35a (a0 : UInt32) : Option Int32 :=
  (f_Jxf58ca_isNaN_12338 a0).bind fun x1 =>
  if x1 = 0 then (
    some ((a0 : UInt32).toInt32)
  ) else (
    some 2143289344
  )
def l_X6_digest_105 (K66 : VM → Int64 → Int32 → Option (Int64 × VM)) : Nat → VM → Int64 → Int32 → Int32 → Option (Int64 × VM)
  | 0, _, _, _, _ => none
  | n + 1, v, s1, s3, s4 =>
    if s4 < 12 then (
      (f_X6_blockAt v s3 s4).bind fun x121 =>
      l_X6_digest_105 K66 n v (((31 : Int64) * s1) + ((x121 : Int32).toInt64)) s3 (s4 + 1)
    ) else (
      K66 v s1 (s3 + 1)
    )
def l_X6_digest_74 (K66 : VM → Int64 → Int32 → Option (Int64 × VM)) : Nat → VM → Int64 → Int32 → Int32 → Option (Int64 × VM)
  | 0, _, _, _, _ => none
  | n + 1, v, s1, s3, s4 =>
    if s4 < 8 then (
      (f_X6_slotNow v s3 s4).bind fun x90 =>
      l_X6_digest_74 K66 n v (((31 : Int64) * s1) + ((x90 : Int32).toInt64)) s3 (s4 + 1)
    ) else (
      l_X6_digest_105 K66 FU v s1 s3 0
    )
def l_X6_digest_152 (K141 : VM → Int64 → Int32 → Option (Int64 × VM)) : Nat → VM → Int64 → Int32 → Int32 → Option (Int64 × VM)
  | 0, _, _, _, _ => none
  | n + 1, v, s1, s3, s4 =>
    if s4 < 7 then (
      (f_X6_whereNow v s3 s4).bind fun x168 =>
      l_X6_digest_152 K141 n v (((31 : Int64) * s1) + ((x168 : Int32).toInt64)) s3 (s4 + 1)
    ) else (
      (f_X6_isLeftFor v s3).bind fun x187 =>
      if x187 = 0 then (
        K141 v (((31 : Int64) * s1) + (((-1) : Int32).toInt64)) (s3 + 1)
      ) else (
        (f_X6_valueOf v s3).bind fun x195 =>
        K141 v (((31 : Int64) * s1) + ((x195 : Int32).toInt64)) (s3 + 1)
      )
    )
def l_X6_digest_370 : Nat → VM → Int64 → Int32 → Option (Int64 × VM)
  | 0, _, _, _ => none
  | n + 1, v, s1, s3 =>
    if s3 < v.2.2.2.2.2.2.2.2.1 then (
      (ard 60 v.2.2.2.2.2.2.2.1 s3).bind fun x388 =>
      l_X6_digest_370 n v (((31 : Int64) * s1) + ((x388 : Int32).toInt64)) (s3 + 1)
    ) else (
      some (s1, v)
    )
def b_X6_digest_353 (v : VM) (t0 : Int32) (t1 : Int64) : Option (Int64 × VM) :=
  l_X6_digest_370 FU v (((31 : Int64) * (t1 + ((t0 : Int32).toInt64))) + ((v.2.2.2.2.2.2.2.2.1 : Int32).toInt64)) 0
def l_X6_digest_258 : Nat → VM → Int64 → Int32 → Option (Int64 × VM)
  | 0, _, _, _ => none
  | n + 1, v, s1, s3 =>
    if s3 < 3 then (
      (f_X6_started v s3 0).bind fun x274 =>
      (f_X6_started x274.2 s3 1).bind fun x283 =>
      l_X6_digest_258 n x283.2 (((31 : Int64) * (((31 : Int64) * s1) + ((x274.1 : Int32).toInt64))) + ((x283.1 : Int32).toInt64)) (s3 + 1)
    ) else (
      (f_X6_findChange v).bind fun x301 =>
      (f_X6_share x301.2).bind fun x313 =>
      (f_Jxe99ae_doubleToLongBits_ccdee x313).bind fun x316 =>
      (f_X6_mean x301.2).bind fun x327 =>
      (f_Jxf58ca_floatToIntBits_5c35a x327).bind fun x330 =>
      if x301.2.2.2.2.2.2.2.1 = 0 then (
        b_X6_digest_353 x301.2 0 ((31 : Int64) * (((31 : Int64) * (((31 : Int64) * (((31 : Int64) * s1) + ((x301.1 : Int32).toInt64))) + x316)) + ((x330 : Int32).toInt64)))
      ) else (
        b_X6_digest_353 x301.2 1 ((31 : Int64) * (((31 : Int64) * (((31 : Int64) * (((31 : Int64) * s1) + ((x301.1 : Int32).toInt64))) + x316)) + ((x330 : Int32).toInt64)))
      )
    )
def l_X6_digest_232 : Nat → VM → Int64 → Int32 → Option (Int64 × VM)
  | 0, _, _, _ => none
  | n + 1, v, s1, s3 =>
    if s3 < 3 then (
      (f_X6_swept v s3).bind fun x244 =>
      l_X6_digest_232 n x244.2 (((31 : Int64) * s1) + ((x244.1 : Int32).toInt64)) (s3 + 1)
    ) else (
      l_X6_digest_258 FU v s1 0
    )
def l_X6_digest_141 : Nat → VM → Int64 → Int32 → Option (Int64 × VM)
  | 0, _, _, _ => none
  | n + 1, v, s1, s3 =>
    (f_X6_blocks v).bind fun x143 =>
    if s3 < x143 then (
      l_X6_digest_152 (l_X6_digest_141 n) FU v s1 s3 0
    ) else (
      (ard 96 v.2.1 46).bind fun x223 =>
      (f_X6_whyNot v x223).bind fun x224 =>
      l_X6_digest_232 FU v (((31 : Int64) * s1) + ((x224 : Int32).toInt64)) 0
    )
def l_X6_digest_66 : Nat → VM → Int64 → Int32 → Option (Int64 × VM)
  | 0, _, _, _ => none
  | n + 1, v, s1, s3 =>
    if s3 < 4 then (
      l_X6_digest_74 (l_X6_digest_66 n) FU v s1 s3 0
    ) else (
      l_X6_digest_141 FU v s1 0
    )
def l_X6_digest_11 : Nat → VM → Int64 → Int32 → Option (Int64 × VM)
  | 0, _, _, _ => none
  | n + 1, v, s1, s3 =>
    if s3 < 12 then (
      (f_X6_countNow v s3).bind fun x24 =>
      l_X6_digest_11 n v (((31 : Int64) * s1) + ((x24 : Int32).toInt64)) (s3 + 1)
    ) else (
      (ard 96 v.2.1 46).bind fun x50 =>
      (ard 96 v.2.1 47).bind fun x60 =>
      l_X6_digest_66 FU v (((31 : Int64) * (((31 : Int64) * s1) + ((x50 : Int32).toInt64))) + ((x60 : Int32).toInt64)) 0
    )
def f_X6_digest (v : VM) : Option (Int64 × VM) :=
  l_X6_digest_11 FU (0, v.2) (3691 : Int64) 0
