def b_L_areBlocks_264 (u : VC) (v0 : VRw) (K12 : Int32 → Int32 → Int32 → Int32 → Option Int32) (s6 : Int32) (s7 : Int32) (s8 : Int32) (s9 : Int32) (t0 : Int32) (t1 : Int32) : Option Int32 :=
  if t1 = t0 then (
    K12 s6 s7 s8 (s9 + 1)
  ) else (
    some 0
  )
def b_L_areBlocks_243 (u : VC) (v0 : VRw) (K12 : Int32 → Int32 → Int32 → Int32 → Option Int32) (s6 : Int32) (s7 : Int32) (s8 : Int32) (s9 : Int32) (s10 : Int32) (t0 : Int32) (t1 : Int32) : Option Int32 :=
  if t1 = t0 then (
    (nth (f_X5_where u s9 6)).bind fun x251 =>
    if s10 = 0 then (
      b_L_areBlocks_264 u v0 K12 s6 s7 s8 s9 0 x251
    ) else (
      b_L_areBlocks_264 u v0 K12 s6 s7 s8 s9 1 x251
    )
  ) else (
    some 0
  )
def b_L_areBlocks_218 (u : VC) (v0 : VRw) (K12 : Int32 → Int32 → Int32 → Int32 → Option Int32) (s6 : Int32) (s7 : Int32) (s8 : Int32) (s9 : Int32) (s10 : Int32) (s12 : Int32) (t0 : Int32) (t1 : Int32) : Option Int32 :=
  if t1 = t0 then (
    (nth (f_X5_where u s9 5)).bind fun x225 =>
    if s12 < 0 then (
      b_L_areBlocks_243 u v0 K12 s6 s7 s8 s9 s10 s8 x225
    ) else (
      b_L_areBlocks_243 u v0 K12 s6 s7 s8 s9 s10 (s12 - s12 / 12 * 12) x225
    )
  ) else (
    some 0
  )
def b_L_areBlocks_193 (u : VC) (v0 : VRw) (K12 : Int32 → Int32 → Int32 → Int32 → Option Int32) (s6 : Int32) (s7 : Int32) (s8 : Int32) (s9 : Int32) (s10 : Int32) (s12 : Int32) (t0 : Int32) (t1 : Int32) : Option Int32 :=
  if t1 = t0 then (
    (nth (f_X5_where u s9 4)).bind fun x200 =>
    if s12 < 0 then (
      b_L_areBlocks_218 u v0 K12 s6 s7 s8 s9 s10 s12 s8 x200
    ) else (
      b_L_areBlocks_218 u v0 K12 s6 s7 s8 s9 s10 s12 (s12 / 12) x200
    )
  ) else (
    some 0
  )
def b_L_areBlocks_158 (u : VC) (v0 : VRw) (K12 : Int32 → Int32 → Int32 → Int32 → Option Int32) (s6 : Int32) (s7 : Int32) (s8 : Int32) (s9 : Int32) (s10 : Int32) (s12 : Int32) (t0 : Int32) (t1 : Int32) : Option Int32 :=
  if t1 = t0 then (
    (nth (f_X5_where u s9 3)).bind fun x165 =>
    (ard 10 v0.1 9).bind fun x171 =>
    if x171 = 2 then (
      b_L_areBlocks_193 u v0 K12 s6 s7 s8 s9 s10 s12 2 x165
    ) else (
      (ard 10 v0.1 1).bind fun x184 =>
      if s9 < x184 then (
        b_L_areBlocks_193 u v0 K12 s6 s7 s8 s9 s10 s12 1 x165
      ) else (
        b_L_areBlocks_193 u v0 K12 s6 s7 s8 s9 s10 s12 0 x165
      )
    )
  ) else (
    some 0
  )
def b_L_areBlocks_85 (u : VC) (v0 : VRw) (K12 : Int32 → Int32 → Int32 → Int32 → Option Int32) (s6 : Int32) (s8 : Int32) (s9 : Int32) (s10 : Int32) (s11 : Int32) (s12 : Int32) (t0 : Int32) (t1 : Int32) : Option Int32 :=
  (nth (f_X5_where u s9 0)).bind fun x92 =>
  if x92 = s11 then (
    (nth (f_X5_where u s9 1)).bind fun x104 =>
    (ard 48 v0.2.2.1 s9).bind fun x110 =>
    if x104 = (x110 - x110 / 12 * 12) then (
      (nth (f_X5_where u s9 2)).bind fun x121 =>
      (ard 32 v0.2.1 ((8 * s11) + 4)).bind fun x132 =>
      if x132 = 1 then (
        (ard 48 v0.2.2.1 s9).bind fun x141 =>
        (f_L_rank 32 v0.2.1 x141).bind fun x142 =>
        b_L_areBlocks_158 u v0 K12 s6 (t1 + t0) s8 s9 s10 s12 ((x142 - (8 * s11)) - 5) x121
      ) else (
        b_L_areBlocks_158 u v0 K12 s6 (t1 + t0) s8 s9 s10 s12 s8 x121
      )
    ) else (
      some 0
    )
  ) else (
    some 0
  )
def b_L_areBlocks_59 (u : VC) (v0 : VRw) (K12 : Int32 → Int32 → Int32 → Int32 → Option Int32) (s7 : Int32) (s8 : Int32) (s9 : Int32) (s10 : Int32) (s11 : Int32) (s12 : Int32) (t0 : Int32) (t1 : Int32) : Option Int32 :=
  if s10 = 0 then (
    b_L_areBlocks_85 u v0 K12 (t1 + t0) s8 s9 s10 s11 s12 0 s7
  ) else (
    (f_L_readAt 32 v0.2.1 48 v0.2.2.1 48 v0.2.2.2.1 s9).bind fun x77 =>
    (ard 48 v0.2.2.2.2 x77).bind fun x80 =>
    b_L_areBlocks_85 u v0 K12 (t1 + t0) s8 s9 s10 s11 s12 x80 s7
  )
def l_L_areBlocks_292 (u : VC) (v0 : VRw) (K278 : Int32 → Int32 → Int32 → Int32 → Option Int32) : Nat → Int32 → Int32 → Int32 → Int32 → Int32 → Int32 → Option Int32
  | 0, _, _, _, _, _, _ => none
  | n + 1, s6, s7, s8, s9, s10, s11 =>
    (ard 10 v0.1 0).bind fun x296 =>
    if s11 < x296 then (
      (ard 48 v0.2.2.1 s11).bind fun x303 =>
      if x303 = s9 then (
        l_L_areBlocks_292 u v0 K278 n s6 s7 s8 s9 s11 (s11 + 1)
      ) else (
        (ard 48 v0.2.2.2.1 s11).bind fun x313 =>
        if x313 = s9 then (
          l_L_areBlocks_292 u v0 K278 n s6 s7 s8 s9 s11 (s11 + 1)
        ) else (
          l_L_areBlocks_292 u v0 K278 n s6 s7 s8 s9 s10 (s11 + 1)
        )
      )
    ) else (
      (nth (f_X5_lies u (s9 / 12) (s9 - s9 / 12 * 12))).bind fun x345 =>
      if x345 = s10 then (
        K278 s6 s7 s8 (s9 + 1)
      ) else (
        some 0
      )
    )
def l_L_areBlocks_278 (u : VC) (v0 : VRw) : Nat → Int32 → Int32 → Int32 → Int32 → Option Int32
  | 0, _, _, _, _ => none
  | n + 1, s6, s7, s8, s9 =>
    if s9 < 48 then (
      l_L_areBlocks_292 u v0 (l_L_areBlocks_278 u v0 n) FU s6 s7 s8 s9 s8 0
    ) else (
      (nth (f_X5_count u 8)).bind fun x364 =>
      if x364 = s6 then (
        (nth (f_X5_count u 10)).bind fun x375 =>
        if x375 = s7 then (
          (ard 10 v0.1 0).bind fun x386 =>
          (f_L_where u x386 7).bind fun x389 =>
          if x389 = (-31) then (
            (f_L_lies u 0 12).bind fun x401 =>
            if x401 = (-31) then (
              (f_L_lies u 4 0).bind fun x412 =>
              if x412 = (-31) then (
                some 1
              ) else (
                some 0
              )
            ) else (
              some 0
            )
          ) else (
            some 0
          )
        ) else (
          some 0
        )
      ) else (
        some 0
      )
    )
def l_L_areBlocks_12 (u : VC) (v0 : VRw) : Nat → Int32 → Int32 → Int32 → Int32 → Option Int32
  | 0, _, _, _, _ => none
  | n + 1, s6, s7, s8, s9 =>
    (ard 10 v0.1 0).bind fun x16 =>
    if s9 < x16 then (
      (f_L_can 32 v0.2.1 48 v0.2.2.1 48 v0.2.2.2.1 s9).bind fun x26 =>
      (ard 48 v0.2.2.1 s9).bind fun x34 =>
      (ard 48 v0.2.2.2.1 s9).bind fun x44 =>
      if x26 = 0 then (
        b_L_areBlocks_59 u v0 (l_L_areBlocks_12 u v0 n) s7 s8 s9 x26 (x34 / 12) x44 1 s6
      ) else (
        b_L_areBlocks_59 u v0 (l_L_areBlocks_12 u v0 n) s7 s8 s9 x26 (x34 / 12) x44 0 s6
      )
    ) else (
      l_L_areBlocks_278 u v0 FU s6 s7 s8 0
    )
def f_L_areBlocks (u : VC) (v0 : VRw) : Option Int32 :=
  l_L_areBlocks_12 u v0 FU 0 0 (-1) 0
def b_L_isSo_132 (u : VC) (v0 : VRw) (K9 : Int32 → Int32 → Int32 → Option Int32) (K78 : Int32 → Int32 → Int32 → Int32 → Int32 → Option Int32) (s6 : Int32) (s7 : Int32) (s8 : Int32) (s9 : Int32) (s10 : Int32) (t0 : Int32) (t1 : Int32) : Option Int32 :=
  if t1 = t0 then (
    K78 s6 s7 s8 s9 (s10 + 1)
  ) else (
    some 0
  )
def l_L_isSo_78 (u : VC) (v0 : VRw) (K9 : Int32 → Int32 → Int32 → Option Int32) : Nat → Int32 → Int32 → Int32 → Int32 → Int32 → Option Int32
  | 0, _, _, _, _, _ => none
  | n + 1, s6, s7, s8, s9, s10 =>
    if s10 < 8 then (
      (nth (f_X5_slot u s8 s10)).bind fun x90 =>
      if s9 = 0 then (
        b_L_isSo_132 u v0 K9 (l_L_isSo_78 u v0 K9 n) s6 s7 s8 s9 s10 (-1) x90
      ) else (
        if s10 = 6 then (
          (ard 32 v0.2.1 ((8 * s8) + 1)).bind fun x113 =>
          if x113 = 1 then (
            b_L_isSo_132 u v0 K9 (l_L_isSo_78 u v0 K9 n) s6 s7 s8 s9 s10 (-1) x90
          ) else (
            (ard 32 v0.2.1 ((8 * s8) + s10)).bind fun x131 =>
            b_L_isSo_132 u v0 K9 (l_L_isSo_78 u v0 K9 n) s6 s7 s8 s9 s10 x131 x90
          )
        ) else (
          (ard 32 v0.2.1 ((8 * s8) + s10)).bind fun x131 =>
          b_L_isSo_132 u v0 K9 (l_L_isSo_78 u v0 K9 n) s6 s7 s8 s9 s10 x131 x90
        )
      )
    ) else (
      K9 s6 s7 (s8 + 1)
    )
def b_L_isSo_44 (u : VC) (v0 : VRw) (K9 : Int32 → Int32 → Int32 → Option Int32) (s7 : Int32) (s8 : Int32) (s9 : Int32) (t0 : Int32) (t1 : Int32) : Option Int32 :=
  if s9 = 0 then (
    l_L_isSo_78 u v0 K9 FU (t1 + t0) (s7 + 0) s8 s9 0
  ) else (
    (ard 32 v0.2.1 ((8 * s8) + 3)).bind fun x62 =>
    if x62 = 1 then (
      l_L_isSo_78 u v0 K9 FU (t1 + t0) (s7 + 1) s8 s9 0
    ) else (
      l_L_isSo_78 u v0 K9 FU (t1 + t0) (s7 + 0) s8 s9 0
    )
  )
def b_L_isSo_30 (u : VC) (v0 : VRw) (K9 : Int32 → Int32 → Int32 → Option Int32) (s6 : Int32) (s7 : Int32) (s8 : Int32) (t0 : Int32) : Option Int32 :=
  if t0 = 0 then (
    b_L_isSo_44 u v0 K9 s7 s8 t0 0 s6
  ) else (
    b_L_isSo_44 u v0 K9 s7 s8 t0 1 s6
  )
def b_L_isSo_351 (u : VC) (v0 : VRw) (t0 : UInt32) (t1 : UInt32) : Option Int32 :=
  if (Op.cmpValue (FP.fcmp t1 t0) CmpOp.l) = 0 then (
    (f_L_areBlocks u v0).bind fun x363 =>
    if x363 = 0 then (
      some 0
    ) else (
      some 1
    )
  ) else (
    some 0
  )
def b_L_isSo_324 (u : VC) (v0 : VRw) (t0 : UInt64) (t1 : UInt64) : Option Int32 :=
  if (Op.cmpValue (FP.dcmp t1 t0) CmpOp.l) = 0 then (
    (f_X5_meanTicks u).bind fun x329 =>
    (ard 10 v0.1 3).bind fun x334 =>
    if x334 = 0 then (
      b_L_isSo_351 u v0 FP.fconst0 x329
    ) else (
      (ard 10 v0.1 2).bind fun x344 =>
      (ard 10 v0.1 3).bind fun x348 =>
      (fck (FP.fdiv (FP.i2f x344) (FP.i2f x348))).bind fun x350 =>
      b_L_isSo_351 u v0 x350 x329
    )
  ) else (
    some 0
  )
def b_L_isSo_294 (u : VC) (v0 : VRw) (t0 : Int32) : Option Int32 :=
  if t0 = 0 then (
    some 0
  ) else (
    (f_X5_wideShare u).bind fun x302 =>
    (ard 10 v0.1 0).bind fun x307 =>
    if x307 = 0 then (
      b_L_isSo_324 u v0 FP.dconst0 x302
    ) else (
      (ard 10 v0.1 1).bind fun x317 =>
      (ard 10 v0.1 0).bind fun x321 =>
      (dck (FP.ddiv (FP.i2d x317) (FP.i2d x321))).bind fun x323 =>
      b_L_isSo_324 u v0 x323 x302
    )
  )
def l_L_isSo_9 (u : VC) (v0 : VRw) : Nat → Int32 → Int32 → Int32 → Option Int32
  | 0, _, _, _ => none
  | n + 1, s6, s7, s8 =>
    if s8 < 4 then (
      (ard 32 v0.2.1 (8 * s8)).bind fun x21 =>
      if 0 < x21 then (
        b_L_isSo_30 u v0 (l_L_isSo_9 u v0 n) s6 s7 s8 1
      ) else (
        b_L_isSo_30 u v0 (l_L_isSo_9 u v0 n) s6 s7 s8 0
      )
    ) else (
      (nth (f_X5_count u 0)).bind fun x151 =>
      if x151 = s6 then (
        (nth (f_X5_count u 1)).bind fun x161 =>
        if x161 = s7 then (
          (nth (f_X5_count u 2)).bind fun x171 =>
          (ard 10 v0.1 0).bind fun x176 =>
          if x171 = x176 then (
            (nth (f_X5_count u 3)).bind fun x182 =>
            (ard 10 v0.1 1).bind fun x187 =>
            if x182 = x187 then (
              (nth (f_X5_count u 4)).bind fun x193 =>
              (ard 10 v0.1 2).bind fun x198 =>
              if x193 = x198 then (
                (nth (f_X5_count u 5)).bind fun x204 =>
                (ard 10 v0.1 3).bind fun x209 =>
                if x204 = x209 then (
                  (nth (f_X5_count u 6)).bind fun x216 =>
                  (ard 10 v0.1 4).bind fun x221 =>
                  if x216 = x221 then (
                    (nth (f_X5_count u 7)).bind fun x228 =>
                    (ard 10 v0.1 5).bind fun x233 =>
                    if x228 = x233 then (
                      (nth (f_X5_count u 9)).bind fun x240 =>
                      (ard 10 v0.1 6).bind fun x246 =>
                      if x240 = x246 then (
                        (nth (f_X5_setting u 0)).bind fun x252 =>
                        (ard 10 v0.1 7).bind fun x258 =>
                        if x252 = x258 then (
                          (nth (f_X5_setting u 1)).bind fun x264 =>
                          (ard 10 v0.1 8).bind fun x270 =>
                          if x264 = x270 then (
                            (f_X5_why u).bind fun x275 =>
                            (ard 10 v0.1 7).bind fun x282 =>
                            (f_L_why 32 v0.2.1 x282).bind fun x283 =>
                            if x275 = x283 then (
                              b_L_isSo_294 u v0 1
                            ) else (
                              b_L_isSo_294 u v0 0
                            )
                          ) else (
                            b_L_isSo_294 u v0 0
                          )
                        ) else (
                          b_L_isSo_294 u v0 0
                        )
                      ) else (
                        b_L_isSo_294 u v0 0
                      )
                    ) else (
                      b_L_isSo_294 u v0 0
                    )
                  ) else (
                    b_L_isSo_294 u v0 0
                  )
                ) else (
                  b_L_isSo_294 u v0 0
                )
              ) else (
                b_L_isSo_294 u v0 0
              )
            ) else (
              b_L_isSo_294 u v0 0
            )
          ) else (
            b_L_isSo_294 u v0 0
          )
        ) else (
          b_L_isSo_294 u v0 0
        )
      ) else (
        b_L_isSo_294 u v0 0
      )
    )
def f_L_isSo (u : VC) (v0 : VRw) : Option Int32 :=
  l_L_isSo_9 u v0 FU 0 0 0
set_option maxRecDepth 100000 in
set_option maxHeartbeats 4000000 in
theorem wb_L_areBlocks_264 {G : GG} {X : WX} {sa : Nat → Nat} {KB ZB : Nat} {w : VW} (C : Cx G 13 X RL cL_areBlocks 10) (hr : (xM X).sig.returnType = (some .boolean)) (T : TB G sa KB ZB X 3 18) (u : VC) (v0 : VRw) (K12 : Int32 → Int32 → Int32 → Int32 → Option Int32) (hK12 : ∀ (s6 : Int32) (s7 : Int32) (s8 : Int32) (s9 : Int32), JS G 13 X (QB G X KB ZB (fun x : Int32 => some (.int x)) (fun x : Int32 => ((u, sRw w 0 v0) : VA))) (K12 s6 s7 s8 s9) (u, sRw w 0 v0) 12 [(0, .ref (G.2.2 0)), (1, .ref (G.2.2 (114 + 0))), (2, .ref (G.2.2 (114 + (1 + 0)))), (3, .ref (G.2.2 (114 + (2 + 0)))), (4, .ref (G.2.2 (114 + (3 + 0)))), (5, .ref (G.2.2 (114 + (4 + 0)))), (6, .int s6), (7, .int s7), (8, .int s8), (9, .int s9)] []) (s6 : Int32) (s7 : Int32) (s8 : Int32) (s9 : Int32) (t0 : Int32) (t1 : Int32) : JS G 13 X (QB G X KB ZB (fun x : Int32 => some (.int x)) (fun x : Int32 => ((u, sRw w 0 v0) : VA))) (b_L_areBlocks_264 u v0 K12 s6 s7 s8 s9 t0 t1) (u, sRw w 0 v0) 264 [(0, .ref (G.2.2 0)), (1, .ref (G.2.2 (114 + 0))), (2, .ref (G.2.2 (114 + (1 + 0)))), (3, .ref (G.2.2 (114 + (2 + 0)))), (4, .ref (G.2.2 (114 + (3 + 0)))), (5, .ref (G.2.2 (114 + (4 + 0)))), (6, .int s6), (7, .int s7), (8, .int s8), (9, .int s9)] [.int t0, .int t1] := by
  unfold b_L_areBlocks_264
  refine j_icmp_eq C 264 269 dL_areBlocks_264 (by decide) (fun c264 => ?_) (fun c264 => ?_)
  · refine j_iinc (v := (s9 + 1)) (L1 := [(9, .int (s9 + 1)), (0, .ref (G.2.2 0)), (1, .ref (G.2.2 (114 + 0))), (2, .ref (G.2.2 (114 + (1 + 0)))), (3, .ref (G.2.2 (114 + (2 + 0)))), (4, .ref (G.2.2 (114 + (3 + 0)))), (5, .ref (G.2.2 (114 + (4 + 0)))), (6, .int s6), (7, .int s7), (8, .int s8)]) C 269 9 rfl dL_areBlocks_269 rfl (by decide) rfl ?_
    refine j_goto C 272 12 dL_areBlocks_272 (by decide) ?_
    refine j_L (L' := [(0, .ref (G.2.2 0)), (1, .ref (G.2.2 (114 + 0))), (2, .ref (G.2.2 (114 + (1 + 0)))), (3, .ref (G.2.2 (114 + (2 + 0)))), (4, .ref (G.2.2 (114 + (3 + 0)))), (5, .ref (G.2.2 (114 + (4 + 0)))), (6, .int s6), (7, .int s7), (8, .int s8), (9, .int (s9 + 1))]) [1, 2, 3, 4, 5, 6, 7, 8, 9, 0] rfl ?_
    exact hK12 s6 s7 s8 (s9 + 1)
  · refine j_iconst (v := 0) C 267 dL_areBlocks_267 rfl ?_
    exact jb_zret C T 268 hr rfl rfl rfl dL_areBlocks_268
set_option maxRecDepth 100000 in
set_option maxHeartbeats 4000000 in
theorem wb_L_areBlocks_243 {G : GG} {X : WX} {sa : Nat → Nat} {KB ZB : Nat} {w : VW} (C : Cx G 13 X RL cL_areBlocks 10) (hr : (xM X).sig.returnType = (some .boolean)) (T : TB G sa KB ZB X 3 18) (u : VC) (v0 : VRw) (K12 : Int32 → Int32 → Int32 → Int32 → Option Int32) (hK12 : ∀ (s6 : Int32) (s7 : Int32) (s8 : Int32) (s9 : Int32), JS G 13 X (QB G X KB ZB (fun x : Int32 => some (.int x)) (fun x : Int32 => ((u, sRw w 0 v0) : VA))) (K12 s6 s7 s8 s9) (u, sRw w 0 v0) 12 [(0, .ref (G.2.2 0)), (1, .ref (G.2.2 (114 + 0))), (2, .ref (G.2.2 (114 + (1 + 0)))), (3, .ref (G.2.2 (114 + (2 + 0)))), (4, .ref (G.2.2 (114 + (3 + 0)))), (5, .ref (G.2.2 (114 + (4 + 0)))), (6, .int s6), (7, .int s7), (8, .int s8), (9, .int s9)] []) (s6 : Int32) (s7 : Int32) (s8 : Int32) (s9 : Int32) (s10 : Int32) (t0 : Int32) (t1 : Int32) : JS G 13 X (QB G X KB ZB (fun x : Int32 => some (.int x)) (fun x : Int32 => ((u, sRw w 0 v0) : VA))) (b_L_areBlocks_243 u v0 K12 s6 s7 s8 s9 s10 t0 t1) (u, sRw w 0 v0) 243 [(0, .ref (G.2.2 0)), (1, .ref (G.2.2 (114 + 0))), (2, .ref (G.2.2 (114 + (1 + 0)))), (3, .ref (G.2.2 (114 + (2 + 0)))), (4, .ref (G.2.2 (114 + (3 + 0)))), (5, .ref (G.2.2 (114 + (4 + 0)))), (6, .int s6), (7, .int s7), (8, .int s8), (9, .int s9), (10, .int s10)] [.int t0, .int t1] := by
  unfold b_L_areBlocks_243
  refine j_icmp_ne C 243 267 dL_areBlocks_243 (by decide) (fun c243 => ?_) (fun c243 => ?_)
  · refine j_aload_n C 246 0 rfl dL_areBlocks_246 ?_
    refine j_iload C 247 9 rfl dL_areBlocks_247 ?_
    refine j_bipush (v := 6) C 249 dL_areBlocks_249 rfl ?_
    refine j_bind (fun x251 h251 => ?_)
    refine j_vSp_i (As := [.int s9, .int 6]) (st := []) C k_X5_where 251 (cn_X5_where C.2.2.2.2.2.2.1 _ _ _ (nth_in h251)) rfl rfl ml_L_51 ii_X5_where is_X5_where dL_areBlocks_251 (by decide) rfl (Nat.le_of_ble_eq_true rfl) ?_ rfl
    refine j_iload C 254 10 rfl dL_areBlocks_254 ?_
    refine j_if_eq C 256 263 dL_areBlocks_256 (by decide) (fun c256 => ?_) (fun c256 => ?_)
    · refine j_iconst (v := 0) C 263 dL_areBlocks_263 rfl ?_
      refine j_L (L' := [(0, .ref (G.2.2 0)), (1, .ref (G.2.2 (114 + 0))), (2, .ref (G.2.2 (114 + (1 + 0)))), (3, .ref (G.2.2 (114 + (2 + 0)))), (4, .ref (G.2.2 (114 + (3 + 0)))), (5, .ref (G.2.2 (114 + (4 + 0)))), (6, .int s6), (7, .int s7), (8, .int s8), (9, .int s9)]) [0, 1, 2, 3, 4, 5, 6, 7, 8, 9] rfl ?_
      exact wb_L_areBlocks_264 C hr (T.mono (a := 3) (z := 18) (by decide) (by decide)) u v0 _ hK12 s6 s7 s8 s9 0 x251
    · refine j_iconst (v := 1) C 259 dL_areBlocks_259 rfl ?_
      refine j_goto C 260 264 dL_areBlocks_260 (by decide) ?_
      refine j_L (L' := [(0, .ref (G.2.2 0)), (1, .ref (G.2.2 (114 + 0))), (2, .ref (G.2.2 (114 + (1 + 0)))), (3, .ref (G.2.2 (114 + (2 + 0)))), (4, .ref (G.2.2 (114 + (3 + 0)))), (5, .ref (G.2.2 (114 + (4 + 0)))), (6, .int s6), (7, .int s7), (8, .int s8), (9, .int s9)]) [0, 1, 2, 3, 4, 5, 6, 7, 8, 9] rfl ?_
      exact wb_L_areBlocks_264 C hr (T.mono (a := 3) (z := 18) (by decide) (by decide)) u v0 _ hK12 s6 s7 s8 s9 1 x251
  · refine j_iconst (v := 0) C 267 dL_areBlocks_267 rfl ?_
    exact jb_zret C T 268 hr rfl rfl rfl dL_areBlocks_268
set_option maxRecDepth 100000 in
set_option maxHeartbeats 4000000 in
theorem wb_L_areBlocks_218 {G : GG} {X : WX} {sa : Nat → Nat} {KB ZB : Nat} {w : VW} (C : Cx G 13 X RL cL_areBlocks 10) (hr : (xM X).sig.returnType = (some .boolean)) (T : TB G sa KB ZB X 3 18) (u : VC) (v0 : VRw) (K12 : Int32 → Int32 → Int32 → Int32 → Option Int32) (hK12 : ∀ (s6 : Int32) (s7 : Int32) (s8 : Int32) (s9 : Int32), JS G 13 X (QB G X KB ZB (fun x : Int32 => some (.int x)) (fun x : Int32 => ((u, sRw w 0 v0) : VA))) (K12 s6 s7 s8 s9) (u, sRw w 0 v0) 12 [(0, .ref (G.2.2 0)), (1, .ref (G.2.2 (114 + 0))), (2, .ref (G.2.2 (114 + (1 + 0)))), (3, .ref (G.2.2 (114 + (2 + 0)))), (4, .ref (G.2.2 (114 + (3 + 0)))), (5, .ref (G.2.2 (114 + (4 + 0)))), (6, .int s6), (7, .int s7), (8, .int s8), (9, .int s9)] []) (s6 : Int32) (s7 : Int32) (s8 : Int32) (s9 : Int32) (s10 : Int32) (s12 : Int32) (t0 : Int32) (t1 : Int32) : JS G 13 X (QB G X KB ZB (fun x : Int32 => some (.int x)) (fun x : Int32 => ((u, sRw w 0 v0) : VA))) (b_L_areBlocks_218 u v0 K12 s6 s7 s8 s9 s10 s12 t0 t1) (u, sRw w 0 v0) 218 [(0, .ref (G.2.2 0)), (1, .ref (G.2.2 (114 + 0))), (2, .ref (G.2.2 (114 + (1 + 0)))), (3, .ref (G.2.2 (114 + (2 + 0)))), (4, .ref (G.2.2 (114 + (3 + 0)))), (5, .ref (G.2.2 (114 + (4 + 0)))), (6, .int s6), (7, .int s7), (8, .int s8), (9, .int s9), (10, .int s10), (12, .int s12)] [.int t0, .int t1] := by
  unfold b_L_areBlocks_218
  refine j_icmp_ne C 218 267 dL_areBlocks_218 (by decide) (fun c218 => ?_) (fun c218 => ?_)
  · refine j_aload_n C 221 0 rfl dL_areBlocks_221 ?_
    refine j_iload C 222 9 rfl dL_areBlocks_222 ?_
    refine j_iconst (v := 5) C 224 dL_areBlocks_224 rfl ?_
    refine j_bind (fun x225 h225 => ?_)
    refine j_vSp_i (As := [.int s9, .int 5]) (st := []) C k_X5_where 225 (cn_X5_where C.2.2.2.2.2.2.1 _ _ _ (nth_in h225)) rfl rfl ml_L_51 ii_X5_where is_X5_where dL_areBlocks_225 (by decide) rfl (Nat.le_of_ble_eq_true rfl) ?_ rfl
    refine j_iload C 228 11 rfl dL_areBlocks_228 ?_
    refine j_if_ge C 230 238 dL_areBlocks_230 (by decide) (fun c230 => ?_) (fun c230 => ?_)
    · refine j_iload C 233 8 rfl dL_areBlocks_233 ?_
      refine j_goto C 235 243 dL_areBlocks_235 (by decide) ?_
      refine j_L (L' := [(0, .ref (G.2.2 0)), (1, .ref (G.2.2 (114 + 0))), (2, .ref (G.2.2 (114 + (1 + 0)))), (3, .ref (G.2.2 (114 + (2 + 0)))), (4, .ref (G.2.2 (114 + (3 + 0)))), (5, .ref (G.2.2 (114 + (4 + 0)))), (6, .int s6), (7, .int s7), (8, .int s8), (9, .int s9), (10, .int s10)]) [0, 1, 2, 3, 4, 5, 6, 7, 8, 9, 10] rfl ?_
      exact wb_L_areBlocks_243 C hr (T.mono (a := 3) (z := 18) (by decide) (by decide)) u v0 _ hK12 s6 s7 s8 s9 s10 s8 x225
    · refine j_iload C 238 11 rfl dL_areBlocks_238 ?_
      refine j_bipush (v := 12) C 240 dL_areBlocks_240 rfl ?_
      refine j_irem C 242 dL_areBlocks_242 (by decide) ?_
      refine j_L (L' := [(0, .ref (G.2.2 0)), (1, .ref (G.2.2 (114 + 0))), (2, .ref (G.2.2 (114 + (1 + 0)))), (3, .ref (G.2.2 (114 + (2 + 0)))), (4, .ref (G.2.2 (114 + (3 + 0)))), (5, .ref (G.2.2 (114 + (4 + 0)))), (6, .int s6), (7, .int s7), (8, .int s8), (9, .int s9), (10, .int s10)]) [0, 1, 2, 3, 4, 5, 6, 7, 8, 9, 10] rfl ?_
      exact wb_L_areBlocks_243 C hr (T.mono (a := 3) (z := 18) (by decide) (by decide)) u v0 _ hK12 s6 s7 s8 s9 s10 (s12 - s12 / 12 * 12) x225
  · refine j_iconst (v := 0) C 267 dL_areBlocks_267 rfl ?_
    exact jb_zret C T 268 hr rfl rfl rfl dL_areBlocks_268
set_option maxRecDepth 100000 in
set_option maxHeartbeats 4000000 in
theorem wb_L_areBlocks_193 {G : GG} {X : WX} {sa : Nat → Nat} {KB ZB : Nat} {w : VW} (C : Cx G 13 X RL cL_areBlocks 10) (hr : (xM X).sig.returnType = (some .boolean)) (T : TB G sa KB ZB X 3 18) (u : VC) (v0 : VRw) (K12 : Int32 → Int32 → Int32 → Int32 → Option Int32) (hK12 : ∀ (s6 : Int32) (s7 : Int32) (s8 : Int32) (s9 : Int32), JS G 13 X (QB G X KB ZB (fun x : Int32 => some (.int x)) (fun x : Int32 => ((u, sRw w 0 v0) : VA))) (K12 s6 s7 s8 s9) (u, sRw w 0 v0) 12 [(0, .ref (G.2.2 0)), (1, .ref (G.2.2 (114 + 0))), (2, .ref (G.2.2 (114 + (1 + 0)))), (3, .ref (G.2.2 (114 + (2 + 0)))), (4, .ref (G.2.2 (114 + (3 + 0)))), (5, .ref (G.2.2 (114 + (4 + 0)))), (6, .int s6), (7, .int s7), (8, .int s8), (9, .int s9)] []) (s6 : Int32) (s7 : Int32) (s8 : Int32) (s9 : Int32) (s10 : Int32) (s12 : Int32) (t0 : Int32) (t1 : Int32) : JS G 13 X (QB G X KB ZB (fun x : Int32 => some (.int x)) (fun x : Int32 => ((u, sRw w 0 v0) : VA))) (b_L_areBlocks_193 u v0 K12 s6 s7 s8 s9 s10 s12 t0 t1) (u, sRw w 0 v0) 193 [(0, .ref (G.2.2 0)), (1, .ref (G.2.2 (114 + 0))), (2, .ref (G.2.2 (114 + (1 + 0)))), (3, .ref (G.2.2 (114 + (2 + 0)))), (4, .ref (G.2.2 (114 + (3 + 0)))), (5, .ref (G.2.2 (114 + (4 + 0)))), (6, .int s6), (7, .int s7), (8, .int s8), (9, .int s9), (10, .int s10), (12, .int s12)] [.int t0, .int t1] := by
  unfold b_L_areBlocks_193
  refine j_icmp_ne C 193 267 dL_areBlocks_193 (by decide) (fun c193 => ?_) (fun c193 => ?_)
  · refine j_aload_n C 196 0 rfl dL_areBlocks_196 ?_
    refine j_iload C 197 9 rfl dL_areBlocks_197 ?_
    refine j_iconst (v := 4) C 199 dL_areBlocks_199 rfl ?_
    refine j_bind (fun x200 h200 => ?_)
    refine j_vSp_i (As := [.int s9, .int 4]) (st := []) C k_X5_where 200 (cn_X5_where C.2.2.2.2.2.2.1 _ _ _ (nth_in h200)) rfl rfl ml_L_51 ii_X5_where is_X5_where dL_areBlocks_200 (by decide) rfl (Nat.le_of_ble_eq_true rfl) ?_ rfl
    refine j_iload C 203 11 rfl dL_areBlocks_203 ?_
    refine j_if_ge C 205 213 dL_areBlocks_205 (by decide) (fun c205 => ?_) (fun c205 => ?_)
    · refine j_iload C 208 8 rfl dL_areBlocks_208 ?_
      refine j_goto C 210 218 dL_areBlocks_210 (by decide) ?_
      exact wb_L_areBlocks_218 C hr (T.mono (a := 3) (z := 18) (by decide) (by decide)) u v0 _ hK12 s6 s7 s8 s9 s10 s12 s8 x200
    · refine j_iload C 213 11 rfl dL_areBlocks_213 ?_
      refine j_bipush (v := 12) C 215 dL_areBlocks_215 rfl ?_
      refine j_idiv C 217 dL_areBlocks_217 (by decide) ?_
      exact wb_L_areBlocks_218 C hr (T.mono (a := 3) (z := 18) (by decide) (by decide)) u v0 _ hK12 s6 s7 s8 s9 s10 s12 (s12 / 12) x200
  · refine j_iconst (v := 0) C 267 dL_areBlocks_267 rfl ?_
    exact jb_zret C T 268 hr rfl rfl rfl dL_areBlocks_268
set_option maxRecDepth 100000 in
set_option maxHeartbeats 4000000 in
theorem wb_L_areBlocks_158 {G : GG} {X : WX} {sa : Nat → Nat} {KB ZB : Nat} {w : VW} (C : Cx G 13 X RL cL_areBlocks 10) (hr : (xM X).sig.returnType = (some .boolean)) (T : TB G sa KB ZB X 3 18) (u : VC) (v0 : VRw) (K12 : Int32 → Int32 → Int32 → Int32 → Option Int32) (hK12 : ∀ (s6 : Int32) (s7 : Int32) (s8 : Int32) (s9 : Int32), JS G 13 X (QB G X KB ZB (fun x : Int32 => some (.int x)) (fun x : Int32 => ((u, sRw w 0 v0) : VA))) (K12 s6 s7 s8 s9) (u, sRw w 0 v0) 12 [(0, .ref (G.2.2 0)), (1, .ref (G.2.2 (114 + 0))), (2, .ref (G.2.2 (114 + (1 + 0)))), (3, .ref (G.2.2 (114 + (2 + 0)))), (4, .ref (G.2.2 (114 + (3 + 0)))), (5, .ref (G.2.2 (114 + (4 + 0)))), (6, .int s6), (7, .int s7), (8, .int s8), (9, .int s9)] []) (s6 : Int32) (s7 : Int32) (s8 : Int32) (s9 : Int32) (s10 : Int32) (s12 : Int32) (t0 : Int32) (t1 : Int32) : JS G 13 X (QB G X KB ZB (fun x : Int32 => some (.int x)) (fun x : Int32 => ((u, sRw w 0 v0) : VA))) (b_L_areBlocks_158 u v0 K12 s6 s7 s8 s9 s10 s12 t0 t1) (u, sRw w 0 v0) 158 [(0, .ref (G.2.2 0)), (1, .ref (G.2.2 (114 + 0))), (2, .ref (G.2.2 (114 + (1 + 0)))), (3, .ref (G.2.2 (114 + (2 + 0)))), (4, .ref (G.2.2 (114 + (3 + 0)))), (5, .ref (G.2.2 (114 + (4 + 0)))), (6, .int s6), (7, .int s7), (8, .int s8), (9, .int s9), (10, .int s10), (12, .int s12)] [.int t0, .int t1] := by
  unfold b_L_areBlocks_158
  refine j_icmp_ne C 158 267 dL_areBlocks_158 (by decide) (fun c158 => ?_) (fun c158 => ?_)
  · refine j_aload_n C 161 0 rfl dL_areBlocks_161 ?_
    refine j_iload C 162 9 rfl dL_areBlocks_162 ?_
    refine j_iconst (v := 3) C 164 dL_areBlocks_164 rfl ?_
    refine j_bind (fun x165 h165 => ?_)
    refine j_vSp_i (As := [.int s9, .int 3]) (st := []) C k_X5_where 165 (cn_X5_where C.2.2.2.2.2.2.1 _ _ _ (nth_in h165)) rfl rfl ml_L_51 ii_X5_where is_X5_where dL_areBlocks_165 (by decide) rfl (Nat.le_of_ble_eq_true rfl) ?_ rfl
    refine j_aload_n C 168 1 rfl dL_areBlocks_168 ?_
    refine j_bipush (v := 9) C 169 dL_areBlocks_169 rfl ?_
    refine j_bind (fun x171 h171 => ?_)
    refine l_Rw0 C (k := 0) (nG_0 C.2.2.2.2.2.2.1) w v0 171 h171 dL_areBlocks_171 ?_
    refine j_iconst (v := 2) C 172 dL_areBlocks_172 rfl ?_
    refine j_icmp_ne C 173 180 dL_areBlocks_173 (by decide) (fun c173 => ?_) (fun c173 => ?_)
    · refine j_iconst (v := 2) C 176 dL_areBlocks_176 rfl ?_
      refine j_goto C 177 193 dL_areBlocks_177 (by decide) ?_
      exact wb_L_areBlocks_193 C hr (T.mono (a := 3) (z := 18) (by decide) (by decide)) u v0 _ hK12 s6 s7 s8 s9 s10 s12 2 x165
    · refine j_iload C 180 9 rfl dL_areBlocks_180 ?_
      refine j_aload_n C 182 1 rfl dL_areBlocks_182 ?_
      refine j_iconst (v := 1) C 183 dL_areBlocks_183 rfl ?_
      refine j_bind (fun x184 h184 => ?_)
      refine l_Rw0 C (k := 0) (nG_0 C.2.2.2.2.2.2.1) w v0 184 h184 dL_areBlocks_184 ?_
      refine j_icmp_ge C 185 192 dL_areBlocks_185 (by decide) (fun c185 => ?_) (fun c185 => ?_)
      · refine j_iconst (v := 1) C 188 dL_areBlocks_188 rfl ?_
        refine j_goto C 189 193 dL_areBlocks_189 (by decide) ?_
        exact wb_L_areBlocks_193 C hr (T.mono (a := 3) (z := 18) (by decide) (by decide)) u v0 _ hK12 s6 s7 s8 s9 s10 s12 1 x165
      · refine j_iconst (v := 0) C 192 dL_areBlocks_192 rfl ?_
        exact wb_L_areBlocks_193 C hr (T.mono (a := 3) (z := 18) (by decide) (by decide)) u v0 _ hK12 s6 s7 s8 s9 s10 s12 0 x165
  · refine j_iconst (v := 0) C 267 dL_areBlocks_267 rfl ?_
    exact jb_zret C T 268 hr rfl rfl rfl dL_areBlocks_268
set_option maxRecDepth 100000 in
set_option maxHeartbeats 4000000 in
theorem wb_L_areBlocks_85 {G : GG} {X : WX} {sa : Nat → Nat} {KB ZB : Nat} {w : VW} (C : Cx G 13 X RL cL_areBlocks 10) (hr : (xM X).sig.returnType = (some .boolean)) (T : TB G sa KB ZB X 3 18) (u : VC) (v0 : VRw) (K12 : Int32 → Int32 → Int32 → Int32 → Option Int32) (hK12 : ∀ (s6 : Int32) (s7 : Int32) (s8 : Int32) (s9 : Int32), JS G 13 X (QB G X KB ZB (fun x : Int32 => some (.int x)) (fun x : Int32 => ((u, sRw w 0 v0) : VA))) (K12 s6 s7 s8 s9) (u, sRw w 0 v0) 12 [(0, .ref (G.2.2 0)), (1, .ref (G.2.2 (114 + 0))), (2, .ref (G.2.2 (114 + (1 + 0)))), (3, .ref (G.2.2 (114 + (2 + 0)))), (4, .ref (G.2.2 (114 + (3 + 0)))), (5, .ref (G.2.2 (114 + (4 + 0)))), (6, .int s6), (7, .int s7), (8, .int s8), (9, .int s9)] []) (s6 : Int32) (s8 : Int32) (s9 : Int32) (s10 : Int32) (s11 : Int32) (s12 : Int32) (t0 : Int32) (t1 : Int32) : JS G 13 X (QB G X KB ZB (fun x : Int32 => some (.int x)) (fun x : Int32 => ((u, sRw w 0 v0) : VA))) (b_L_areBlocks_85 u v0 K12 s6 s8 s9 s10 s11 s12 t0 t1) (u, sRw w 0 v0) 85 [(0, .ref (G.2.2 0)), (1, .ref (G.2.2 (114 + 0))), (2, .ref (G.2.2 (114 + (1 + 0)))), (3, .ref (G.2.2 (114 + (2 + 0)))), (4, .ref (G.2.2 (114 + (3 + 0)))), (5, .ref (G.2.2 (114 + (4 + 0)))), (6, .int s6), (8, .int s8), (9, .int s9), (10, .int s10), (11, .int s11), (12, .int s12)] [.int t0, .int t1] := by
  unfold b_L_areBlocks_85
  refine j_iadd C 85 dL_areBlocks_85 ?_
  refine j_istore (L1 := [(7, .int (t1 + t0)), (0, .ref (G.2.2 0)), (1, .ref (G.2.2 (114 + 0))), (2, .ref (G.2.2 (114 + (1 + 0)))), (3, .ref (G.2.2 (114 + (2 + 0)))), (4, .ref (G.2.2 (114 + (3 + 0)))), (5, .ref (G.2.2 (114 + (4 + 0)))), (6, .int s6), (8, .int s8), (9, .int s9), (10, .int s10), (11, .int s11), (12, .int s12)]) C 86 dL_areBlocks_86 (by decide) rfl ?_
  refine j_aload_n C 88 1 rfl dL_areBlocks_88 ?_
  refine j_iload C 89 9 rfl dL_areBlocks_89 ?_
  refine j_iconst (v := 0) C 91 dL_areBlocks_91 rfl ?_
  refine j_bind (fun x92 h92 => ?_)
  refine j_vSp_i (As := [.int s9, .int 0]) (st := []) C k_X5_where 92 (cn_X5_where C.2.2.2.2.2.2.1 _ _ _ (nth_in h92)) rfl rfl ml_L_51 ii_X5_where is_X5_where dL_areBlocks_92 (by decide) rfl (Nat.le_of_ble_eq_true rfl) ?_ rfl
  refine j_iload C 95 11 rfl dL_areBlocks_95 ?_
  refine j_icmp_ne C 97 267 dL_areBlocks_97 (by decide) (fun c97 => ?_) (fun c97 => ?_)
  · refine j_aload_n C 100 1 rfl dL_areBlocks_100 ?_
    refine j_iload C 101 9 rfl dL_areBlocks_101 ?_
    refine j_iconst (v := 1) C 103 dL_areBlocks_103 rfl ?_
    refine j_bind (fun x104 h104 => ?_)
    refine j_vSp_i (As := [.int s9, .int 1]) (st := []) C k_X5_where 104 (cn_X5_where C.2.2.2.2.2.2.1 _ _ _ (nth_in h104)) rfl rfl ml_L_51 ii_X5_where is_X5_where dL_areBlocks_104 (by decide) rfl (Nat.le_of_ble_eq_true rfl) ?_ rfl
    refine j_aload_n C 107 4 rfl dL_areBlocks_107 ?_
    refine j_iload C 108 9 rfl dL_areBlocks_108 ?_
    refine j_bind (fun x110 h110 => ?_)
    refine l_Rw2 C (k := 0) (nG_0 C.2.2.2.2.2.2.1) w v0 110 h110 dL_areBlocks_110 ?_
    refine j_bipush (v := 12) C 111 dL_areBlocks_111 rfl ?_
    refine j_irem C 113 dL_areBlocks_113 (by decide) ?_
    refine j_icmp_ne C 114 267 dL_areBlocks_114 (by decide) (fun c114 => ?_) (fun c114 => ?_)
    · refine j_aload_n C 117 1 rfl dL_areBlocks_117 ?_
      refine j_iload C 118 9 rfl dL_areBlocks_118 ?_
      refine j_iconst (v := 2) C 120 dL_areBlocks_120 rfl ?_
      refine j_bind (fun x121 h121 => ?_)
      refine j_vSp_i (As := [.int s9, .int 2]) (st := []) C k_X5_where 121 (cn_X5_where C.2.2.2.2.2.2.1 _ _ _ (nth_in h121)) rfl rfl ml_L_51 ii_X5_where is_X5_where dL_areBlocks_121 (by decide) rfl (Nat.le_of_ble_eq_true rfl) ?_ rfl
      refine j_aload_n C 124 3 rfl dL_areBlocks_124 ?_
      refine j_bipush (v := 8) C 125 dL_areBlocks_125 rfl ?_
      refine j_iload C 127 11 rfl dL_areBlocks_127 ?_
      refine j_imul C 129 dL_areBlocks_129 ?_
      refine j_iconst (v := 4) C 130 dL_areBlocks_130 rfl ?_
      refine j_iadd C 131 dL_areBlocks_131 ?_
      refine j_bind (fun x132 h132 => ?_)
      refine l_Rw1 C (k := 0) (nG_0 C.2.2.2.2.2.2.1) w v0 132 h132 dL_areBlocks_132 ?_
      refine j_iconst (v := 1) C 133 dL_areBlocks_133 rfl ?_
      refine j_icmp_ne C 134 156 dL_areBlocks_134 (by decide) (fun c134 => ?_) (fun c134 => ?_)
      · refine j_aload_n C 137 3 rfl dL_areBlocks_137 ?_
        refine j_aload_n C 138 4 rfl dL_areBlocks_138 ?_
        refine j_iload C 139 9 rfl dL_areBlocks_139 ?_
        refine j_bind (fun x141 h141 => ?_)
        refine l_Rw2 C (k := 0) (nG_0 C.2.2.2.2.2.2.1) w v0 141 h141 dL_areBlocks_141 ?_
        refine j_bind (fun x142 h142 => ?_)
        refine j_callS_i (As := [.ref (G.2.2 (114 + (1 + 0))), .int x141]) (st := [.int x121]) C k_L_rank 142 (c_L_rank C.2.2.2.2.2.2.1 (c := u) (w := (sRw w 0 v0)) _ _ (114 + (1 + 0)) (nG_lt C.2.2.2.2.2.2.1 (by omega)) (a_Rw1 u w 0 v0) _ h142) rfl ml_L_78 st_L_rank dL_areBlocks_142 (by decide) rfl (Nat.le_of_ble_eq_true rfl) ?_ rfl
        refine j_bipush (v := 8) C 145 dL_areBlocks_145 rfl ?_
        refine j_iload C 147 11 rfl dL_areBlocks_147 ?_
        refine j_imul C 149 dL_areBlocks_149 ?_
        refine j_isub C 150 dL_areBlocks_150 ?_
        refine j_iconst (v := 5) C 151 dL_areBlocks_151 rfl ?_
        refine j_isub C 152 dL_areBlocks_152 ?_
        refine j_goto C 153 158 dL_areBlocks_153 (by decide) ?_
        refine j_L (L' := [(0, .ref (G.2.2 0)), (1, .ref (G.2.2 (114 + 0))), (2, .ref (G.2.2 (114 + (1 + 0)))), (3, .ref (G.2.2 (114 + (2 + 0)))), (4, .ref (G.2.2 (114 + (3 + 0)))), (5, .ref (G.2.2 (114 + (4 + 0)))), (6, .int s6), (7, .int (t1 + t0)), (8, .int s8), (9, .int s9), (10, .int s10), (12, .int s12)]) [1, 2, 3, 4, 5, 6, 7, 0, 8, 9, 10, 12] rfl ?_
        exact wb_L_areBlocks_158 C hr (T.mono (a := 3) (z := 18) (by decide) (by decide)) u v0 _ hK12 s6 (t1 + t0) s8 s9 s10 s12 ((x142 - (8 * s11)) - 5) x121
      · refine j_iload C 156 8 rfl dL_areBlocks_156 ?_
        refine j_L (L' := [(0, .ref (G.2.2 0)), (1, .ref (G.2.2 (114 + 0))), (2, .ref (G.2.2 (114 + (1 + 0)))), (3, .ref (G.2.2 (114 + (2 + 0)))), (4, .ref (G.2.2 (114 + (3 + 0)))), (5, .ref (G.2.2 (114 + (4 + 0)))), (6, .int s6), (7, .int (t1 + t0)), (8, .int s8), (9, .int s9), (10, .int s10), (12, .int s12)]) [1, 2, 3, 4, 5, 6, 7, 0, 8, 9, 10, 12] rfl ?_
        exact wb_L_areBlocks_158 C hr (T.mono (a := 3) (z := 18) (by decide) (by decide)) u v0 _ hK12 s6 (t1 + t0) s8 s9 s10 s12 s8 x121
    · refine j_iconst (v := 0) C 267 dL_areBlocks_267 rfl ?_
      exact jb_zret C T 268 hr rfl rfl rfl dL_areBlocks_268
  · refine j_iconst (v := 0) C 267 dL_areBlocks_267 rfl ?_
    exact jb_zret C T 268 hr rfl rfl rfl dL_areBlocks_268
set_option maxRecDepth 100000 in
set_option maxHeartbeats 4000000 in
theorem wb_L_areBlocks_59 {G : GG} {X : WX} {sa : Nat → Nat} {KB ZB : Nat} {w : VW} (C : Cx G 13 X RL cL_areBlocks 10) (hr : (xM X).sig.returnType = (some .boolean)) (T : TB G sa KB ZB X 3 18) (u : VC) (v0 : VRw) (K12 : Int32 → Int32 → Int32 → Int32 → Option Int32) (hK12 : ∀ (s6 : Int32) (s7 : Int32) (s8 : Int32) (s9 : Int32), JS G 13 X (QB G X KB ZB (fun x : Int32 => some (.int x)) (fun x : Int32 => ((u, sRw w 0 v0) : VA))) (K12 s6 s7 s8 s9) (u, sRw w 0 v0) 12 [(0, .ref (G.2.2 0)), (1, .ref (G.2.2 (114 + 0))), (2, .ref (G.2.2 (114 + (1 + 0)))), (3, .ref (G.2.2 (114 + (2 + 0)))), (4, .ref (G.2.2 (114 + (3 + 0)))), (5, .ref (G.2.2 (114 + (4 + 0)))), (6, .int s6), (7, .int s7), (8, .int s8), (9, .int s9)] []) (s7 : Int32) (s8 : Int32) (s9 : Int32) (s10 : Int32) (s11 : Int32) (s12 : Int32) (t0 : Int32) (t1 : Int32) : JS G 13 X (QB G X KB ZB (fun x : Int32 => some (.int x)) (fun x : Int32 => ((u, sRw w 0 v0) : VA))) (b_L_areBlocks_59 u v0 K12 s7 s8 s9 s10 s11 s12 t0 t1) (u, sRw w 0 v0) 59 [(0, .ref (G.2.2 0)), (1, .ref (G.2.2 (114 + 0))), (2, .ref (G.2.2 (114 + (1 + 0)))), (3, .ref (G.2.2 (114 + (2 + 0)))), (4, .ref (G.2.2 (114 + (3 + 0)))), (5, .ref (G.2.2 (114 + (4 + 0)))), (7, .int s7), (8, .int s8), (9, .int s9), (10, .int s10), (11, .int s11), (12, .int s12)] [.int t0, .int t1] := by
  unfold b_L_areBlocks_59
  refine j_iadd C 59 dL_areBlocks_59 ?_
  refine j_istore (L1 := [(6, .int (t1 + t0)), (0, .ref (G.2.2 0)), (1, .ref (G.2.2 (114 + 0))), (2, .ref (G.2.2 (114 + (1 + 0)))), (3, .ref (G.2.2 (114 + (2 + 0)))), (4, .ref (G.2.2 (114 + (3 + 0)))), (5, .ref (G.2.2 (114 + (4 + 0)))), (7, .int s7), (8, .int s8), (9, .int s9), (10, .int s10), (11, .int s11), (12, .int s12)]) C 60 dL_areBlocks_60 (by decide) rfl ?_
  refine j_iload C 62 7 rfl dL_areBlocks_62 ?_
  refine j_iload C 64 10 rfl dL_areBlocks_64 ?_
  refine j_if_eq C 66 84 dL_areBlocks_66 (by decide) (fun c66 => ?_) (fun c66 => ?_)
  · refine j_iconst (v := 0) C 84 dL_areBlocks_84 rfl ?_
    refine j_L (L' := [(0, .ref (G.2.2 0)), (1, .ref (G.2.2 (114 + 0))), (2, .ref (G.2.2 (114 + (1 + 0)))), (3, .ref (G.2.2 (114 + (2 + 0)))), (4, .ref (G.2.2 (114 + (3 + 0)))), (5, .ref (G.2.2 (114 + (4 + 0)))), (6, .int (t1 + t0)), (8, .int s8), (9, .int s9), (10, .int s10), (11, .int s11), (12, .int s12)]) [1, 2, 3, 4, 5, 6, 0, 8, 9, 10, 11, 12] rfl ?_
    exact wb_L_areBlocks_85 C hr (T.mono (a := 3) (z := 18) (by decide) (by decide)) u v0 _ hK12 (t1 + t0) s8 s9 s10 s11 s12 0 s7
  · refine j_aload C 69 6 rfl dL_areBlocks_69 ?_
    refine j_aload_n C 71 3 rfl dL_areBlocks_71 ?_
    refine j_aload_n C 72 4 rfl dL_areBlocks_72 ?_
    refine j_aload C 73 5 rfl dL_areBlocks_73 ?_
    refine j_iload C 75 9 rfl dL_areBlocks_75 ?_
    refine j_bind (fun x77 h77 => ?_)
    refine j_callS_i (As := [.ref (G.2.2 (114 + (1 + 0))), .ref (G.2.2 (114 + (2 + 0))), .ref (G.2.2 (114 + (3 + 0))), .int s9]) (st := [.ref (G.2.2 (114 + (4 + 0))), .int s7]) C k_L_readAt 77 (c_L_readAt C.2.2.2.2.2.2.1 (c := u) (w := (sRw w 0 v0)) _ _ (114 + (1 + 0)) (nG_lt C.2.2.2.2.2.2.1 (by omega)) (a_Rw1 u w 0 v0) _ _ (114 + (2 + 0)) (nG_lt C.2.2.2.2.2.2.1 (by omega)) (a_Rw2 u w 0 v0) _ _ (114 + (3 + 0)) (nG_lt C.2.2.2.2.2.2.1 (by omega)) (a_Rw3 u w 0 v0) _ h77) rfl ml_L_74 st_L_readAt dL_areBlocks_77 (by decide) rfl (Nat.le_of_ble_eq_true rfl) ?_ rfl
    refine j_bind (fun x80 h80 => ?_)
    refine l_Rw4 C (k := 0) (nG_0 C.2.2.2.2.2.2.1) w v0 80 h80 dL_areBlocks_80 ?_
    refine j_goto C 81 85 dL_areBlocks_81 (by decide) ?_
    refine j_L (L' := [(0, .ref (G.2.2 0)), (1, .ref (G.2.2 (114 + 0))), (2, .ref (G.2.2 (114 + (1 + 0)))), (3, .ref (G.2.2 (114 + (2 + 0)))), (4, .ref (G.2.2 (114 + (3 + 0)))), (5, .ref (G.2.2 (114 + (4 + 0)))), (6, .int (t1 + t0)), (8, .int s8), (9, .int s9), (10, .int s10), (11, .int s11), (12, .int s12)]) [1, 2, 3, 4, 5, 6, 0, 8, 9, 10, 11, 12] rfl ?_
    exact wb_L_areBlocks_85 C hr (T.mono (a := 3) (z := 18) (by decide) (by decide)) u v0 _ hK12 (t1 + t0) s8 s9 s10 s11 s12 x80 s7
set_option maxRecDepth 100000 in
set_option maxHeartbeats 4000000 in
theorem wl_L_areBlocks_292 {G : GG} {X : WX} {sa : Nat → Nat} {KB ZB : Nat} {w : VW} (C : Cx G 13 X RL cL_areBlocks 10) (hr : (xM X).sig.returnType = (some .boolean)) (T : TB G sa KB ZB X 3 18) (u : VC) (v0 : VRw) (K278 : Int32 → Int32 → Int32 → Int32 → Option Int32) (hK278 : ∀ (s6 : Int32) (s7 : Int32) (s8 : Int32) (s9 : Int32), JS G 13 X (QB G X KB ZB (fun x : Int32 => some (.int x)) (fun x : Int32 => ((u, sRw w 0 v0) : VA))) (K278 s6 s7 s8 s9) (u, sRw w 0 v0) 278 [(0, .ref (G.2.2 0)), (1, .ref (G.2.2 (114 + 0))), (3, .ref (G.2.2 (114 + (2 + 0)))), (4, .ref (G.2.2 (114 + (3 + 0)))), (6, .int s6), (7, .int s7), (8, .int s8), (9, .int s9)] []) : ∀ (n : Nat) (s6 : Int32) (s7 : Int32) (s8 : Int32) (s9 : Int32) (s10 : Int32) (s11 : Int32), JS G 13 X (QB G X KB ZB (fun x : Int32 => some (.int x)) (fun x : Int32 => ((u, sRw w 0 v0) : VA))) (l_L_areBlocks_292 u v0 K278 n s6 s7 s8 s9 s10 s11) (u, sRw w 0 v0) 292 [(0, .ref (G.2.2 0)), (1, .ref (G.2.2 (114 + 0))), (3, .ref (G.2.2 (114 + (2 + 0)))), (4, .ref (G.2.2 (114 + (3 + 0)))), (6, .int s6), (7, .int s7), (8, .int s8), (9, .int s9), (10, .int s10), (11, .int s11)] [] := by
  intro n
  induction n with
  | zero => intro _ _ _ _ _ _; exact j_none
  | succ n ih =>
    intro s6 s7 s8 s9 s10 s11
    unfold l_L_areBlocks_292
    refine j_iload C 292 9 rfl dL_areBlocks_292 ?_
    refine j_aload_n C 294 1 rfl dL_areBlocks_294 ?_
    refine j_iconst (v := 0) C 295 dL_areBlocks_295 rfl ?_
    refine j_bind (fun x296 h296 => ?_)
    refine l_Rw0 C (k := 0) (nG_0 C.2.2.2.2.2.2.1) w v0 296 h296 dL_areBlocks_296 ?_
    refine j_icmp_ge C 297 334 dL_areBlocks_297 (by decide) (fun c297 => ?_) (fun c297 => ?_)
    · refine j_aload_n C 300 2 rfl dL_areBlocks_300 ?_
      refine j_iload C 301 9 rfl dL_areBlocks_301 ?_
      refine j_bind (fun x303 h303 => ?_)
      refine l_Rw2 C (k := 0) (nG_0 C.2.2.2.2.2.2.1) w v0 303 h303 dL_areBlocks_303 ?_
      refine j_iload C 304 7 rfl dL_areBlocks_304 ?_
      refine j_icmp_eq C 306 319 dL_areBlocks_306 (by decide) (fun c306 => ?_) (fun c306 => ?_)
      · refine j_iload C 319 9 rfl dL_areBlocks_319 ?_
        refine j_goto C 321 326 dL_areBlocks_321 (by decide) ?_
        refine j_istore (L1 := [(10, .int s11), (0, .ref (G.2.2 0)), (1, .ref (G.2.2 (114 + 0))), (3, .ref (G.2.2 (114 + (2 + 0)))), (4, .ref (G.2.2 (114 + (3 + 0)))), (6, .int s6), (7, .int s7), (8, .int s8), (9, .int s9), (11, .int s11)]) C 326 dL_areBlocks_326 (by decide) rfl ?_
        refine j_iinc (v := (s11 + 1)) (L1 := [(11, .int (s11 + 1)), (10, .int s11), (0, .ref (G.2.2 0)), (1, .ref (G.2.2 (114 + 0))), (3, .ref (G.2.2 (114 + (2 + 0)))), (4, .ref (G.2.2 (114 + (3 + 0)))), (6, .int s6), (7, .int s7), (8, .int s8), (9, .int s9)]) C 328 9 rfl dL_areBlocks_328 rfl (by decide) rfl ?_
        refine j_goto C 331 292 dL_areBlocks_331 (by decide) ?_
        refine j_L (L' := [(0, .ref (G.2.2 0)), (1, .ref (G.2.2 (114 + 0))), (3, .ref (G.2.2 (114 + (2 + 0)))), (4, .ref (G.2.2 (114 + (3 + 0)))), (6, .int s6), (7, .int s7), (8, .int s8), (9, .int s9), (10, .int s11), (11, .int (s11 + 1))]) [2, 3, 4, 5, 6, 7, 8, 9, 1, 0] rfl ?_
        exact ih s6 s7 s8 s9 s11 (s11 + 1)
      · refine j_aload C 309 3 rfl dL_areBlocks_309 ?_
        refine j_iload C 311 9 rfl dL_areBlocks_311 ?_
        refine j_bind (fun x313 h313 => ?_)
        refine l_Rw3 C (k := 0) (nG_0 C.2.2.2.2.2.2.1) w v0 313 h313 dL_areBlocks_313 ?_
        refine j_iload C 314 7 rfl dL_areBlocks_314 ?_
        refine j_icmp_ne C 316 324 dL_areBlocks_316 (by decide) (fun c316 => ?_) (fun c316 => ?_)
        · refine j_iload C 319 9 rfl dL_areBlocks_319 ?_
          refine j_goto C 321 326 dL_areBlocks_321 (by decide) ?_
          refine j_istore (L1 := [(10, .int s11), (0, .ref (G.2.2 0)), (1, .ref (G.2.2 (114 + 0))), (3, .ref (G.2.2 (114 + (2 + 0)))), (4, .ref (G.2.2 (114 + (3 + 0)))), (6, .int s6), (7, .int s7), (8, .int s8), (9, .int s9), (11, .int s11)]) C 326 dL_areBlocks_326 (by decide) rfl ?_
          refine j_iinc (v := (s11 + 1)) (L1 := [(11, .int (s11 + 1)), (10, .int s11), (0, .ref (G.2.2 0)), (1, .ref (G.2.2 (114 + 0))), (3, .ref (G.2.2 (114 + (2 + 0)))), (4, .ref (G.2.2 (114 + (3 + 0)))), (6, .int s6), (7, .int s7), (8, .int s8), (9, .int s9)]) C 328 9 rfl dL_areBlocks_328 rfl (by decide) rfl ?_
          refine j_goto C 331 292 dL_areBlocks_331 (by decide) ?_
          refine j_L (L' := [(0, .ref (G.2.2 0)), (1, .ref (G.2.2 (114 + 0))), (3, .ref (G.2.2 (114 + (2 + 0)))), (4, .ref (G.2.2 (114 + (3 + 0)))), (6, .int s6), (7, .int s7), (8, .int s8), (9, .int s9), (10, .int s11), (11, .int (s11 + 1))]) [2, 3, 4, 5, 6, 7, 8, 9, 1, 0] rfl ?_
          exact ih s6 s7 s8 s9 s11 (s11 + 1)
        · refine j_iload C 324 8 rfl dL_areBlocks_324 ?_
          refine j_istore (L1 := [(10, .int s10), (0, .ref (G.2.2 0)), (1, .ref (G.2.2 (114 + 0))), (3, .ref (G.2.2 (114 + (2 + 0)))), (4, .ref (G.2.2 (114 + (3 + 0)))), (6, .int s6), (7, .int s7), (8, .int s8), (9, .int s9), (11, .int s11)]) C 326 dL_areBlocks_326 (by decide) rfl ?_
          refine j_iinc (v := (s11 + 1)) (L1 := [(11, .int (s11 + 1)), (10, .int s10), (0, .ref (G.2.2 0)), (1, .ref (G.2.2 (114 + 0))), (3, .ref (G.2.2 (114 + (2 + 0)))), (4, .ref (G.2.2 (114 + (3 + 0)))), (6, .int s6), (7, .int s7), (8, .int s8), (9, .int s9)]) C 328 9 rfl dL_areBlocks_328 rfl (by decide) rfl ?_
          refine j_goto C 331 292 dL_areBlocks_331 (by decide) ?_
          refine j_L (L' := [(0, .ref (G.2.2 0)), (1, .ref (G.2.2 (114 + 0))), (3, .ref (G.2.2 (114 + (2 + 0)))), (4, .ref (G.2.2 (114 + (3 + 0)))), (6, .int s6), (7, .int s7), (8, .int s8), (9, .int s9), (10, .int s10), (11, .int (s11 + 1))]) [2, 3, 4, 5, 6, 7, 8, 9, 1, 0] rfl ?_
          exact ih s6 s7 s8 s9 s10 (s11 + 1)
    · refine j_aload_n C 334 0 rfl dL_areBlocks_334 ?_
      refine j_iload C 335 7 rfl dL_areBlocks_335 ?_
      refine j_bipush (v := 12) C 337 dL_areBlocks_337 rfl ?_
      refine j_idiv C 339 dL_areBlocks_339 (by decide) ?_
      refine j_iload C 340 7 rfl dL_areBlocks_340 ?_
      refine j_bipush (v := 12) C 342 dL_areBlocks_342 rfl ?_
      refine j_irem C 344 dL_areBlocks_344 (by decide) ?_
      refine j_bind (fun x345 h345 => ?_)
      refine j_vSp_i (As := [.int (s9 / 12), .int (s9 - s9 / 12 * 12)]) (st := []) C k_X5_lies 345 (cn_X5_lies C.2.2.2.2.2.2.1 _ _ _ (nth_in h345)) rfl rfl ml_L_54 ii_X5_lies is_X5_lies dL_areBlocks_345 (by decide) rfl (Nat.le_of_ble_eq_true rfl) ?_ rfl
      refine j_iload C 348 8 rfl dL_areBlocks_348 ?_
      refine j_icmp_eq C 350 355 dL_areBlocks_350 (by decide) (fun c350 => ?_) (fun c350 => ?_)
      · refine j_iinc (v := (s9 + 1)) (L1 := [(9, .int (s9 + 1)), (0, .ref (G.2.2 0)), (1, .ref (G.2.2 (114 + 0))), (3, .ref (G.2.2 (114 + (2 + 0)))), (4, .ref (G.2.2 (114 + (3 + 0)))), (6, .int s6), (7, .int s7), (8, .int s8), (10, .int s10), (11, .int s11)]) C 355 7 rfl dL_areBlocks_355 rfl (by decide) rfl ?_
        refine j_goto C 358 278 dL_areBlocks_358 (by decide) ?_
        refine j_L (L' := [(0, .ref (G.2.2 0)), (1, .ref (G.2.2 (114 + 0))), (3, .ref (G.2.2 (114 + (2 + 0)))), (4, .ref (G.2.2 (114 + (3 + 0)))), (6, .int s6), (7, .int s7), (8, .int s8), (9, .int (s9 + 1))]) [1, 2, 3, 4, 5, 6, 7, 0] rfl ?_
        exact hK278 s6 s7 s8 (s9 + 1)
      · refine j_iconst (v := 0) C 353 dL_areBlocks_353 rfl ?_
        exact jb_zret C T 354 hr rfl rfl rfl dL_areBlocks_354
set_option maxRecDepth 100000 in
set_option maxHeartbeats 4000000 in
theorem wl_L_areBlocks_278 {G : GG} {X : WX} {sa : Nat → Nat} {KB ZB : Nat} {w : VW} (C : Cx G 13 X RL cL_areBlocks 10) (hr : (xM X).sig.returnType = (some .boolean)) (T : TB G sa KB ZB X 3 18) (u : VC) (v0 : VRw) : ∀ (n : Nat) (s6 : Int32) (s7 : Int32) (s8 : Int32) (s9 : Int32), JS G 13 X (QB G X KB ZB (fun x : Int32 => some (.int x)) (fun x : Int32 => ((u, sRw w 0 v0) : VA))) (l_L_areBlocks_278 u v0 n s6 s7 s8 s9) (u, sRw w 0 v0) 278 [(0, .ref (G.2.2 0)), (1, .ref (G.2.2 (114 + 0))), (3, .ref (G.2.2 (114 + (2 + 0)))), (4, .ref (G.2.2 (114 + (3 + 0)))), (6, .int s6), (7, .int s7), (8, .int s8), (9, .int s9)] [] := by
  intro n
  induction n with
  | zero => intro _ _ _ _; exact j_none
  | succ n ih =>
    intro s6 s7 s8 s9
    unfold l_L_areBlocks_278
    refine j_iload C 278 7 rfl dL_areBlocks_278 ?_
    refine j_bipush (v := 48) C 280 dL_areBlocks_280 rfl ?_
    refine j_icmp_ge C 282 361 dL_areBlocks_282 (by decide) (fun c282 => ?_) (fun c282 => ?_)
    · refine j_iload C 285 6 rfl dL_areBlocks_285 ?_
      refine j_istore (L1 := [(10, .int s8), (0, .ref (G.2.2 0)), (1, .ref (G.2.2 (114 + 0))), (3, .ref (G.2.2 (114 + (2 + 0)))), (4, .ref (G.2.2 (114 + (3 + 0)))), (6, .int s6), (7, .int s7), (8, .int s8), (9, .int s9)]) C 287 dL_areBlocks_287 (by decide) rfl ?_
      refine j_iconst (v := 0) C 289 dL_areBlocks_289 rfl ?_
      refine j_istore (L1 := [(11, .int 0), (10, .int s8), (0, .ref (G.2.2 0)), (1, .ref (G.2.2 (114 + 0))), (3, .ref (G.2.2 (114 + (2 + 0)))), (4, .ref (G.2.2 (114 + (3 + 0)))), (6, .int s6), (7, .int s7), (8, .int s8), (9, .int s9)]) C 290 dL_areBlocks_290 (by decide) rfl ?_
      refine j_L (L' := [(0, .ref (G.2.2 0)), (1, .ref (G.2.2 (114 + 0))), (3, .ref (G.2.2 (114 + (2 + 0)))), (4, .ref (G.2.2 (114 + (3 + 0)))), (6, .int s6), (7, .int s7), (8, .int s8), (9, .int s9), (10, .int s8), (11, .int 0)]) [2, 3, 4, 5, 6, 7, 8, 9, 1, 0] rfl ?_
      exact wl_L_areBlocks_292 C hr (T.mono (a := 3) (z := 18) (by decide) (by decide)) u v0 _ ih FU s6 s7 s8 s9 s8 0
    · refine j_aload_n C 361 0 rfl dL_areBlocks_361 ?_
      refine j_bipush (v := 8) C 362 dL_areBlocks_362 rfl ?_
      refine j_bind (fun x364 h364 => ?_)
      refine j_vSp_i (As := [.int 8]) (st := []) C k_X5_count 364 (cn_X5_count C.2.2.2.2.2.2.1 _ _ (nth_in h364)) rfl rfl ml_L_133 ii_X5_count is_X5_count dL_areBlocks_364 (by decide) rfl (Nat.le_of_ble_eq_true rfl) ?_ rfl
      refine j_iload C 367 4 rfl dL_areBlocks_367 ?_
      refine j_icmp_ne C 369 424 dL_areBlocks_369 (by decide) (fun c369 => ?_) (fun c369 => ?_)
      · refine j_aload_n C 372 0 rfl dL_areBlocks_372 ?_
        refine j_bipush (v := 10) C 373 dL_areBlocks_373 rfl ?_
        refine j_bind (fun x375 h375 => ?_)
        refine j_vSp_i (As := [.int 10]) (st := []) C k_X5_count 375 (cn_X5_count C.2.2.2.2.2.2.1 _ _ (nth_in h375)) rfl rfl ml_L_133 ii_X5_count is_X5_count dL_areBlocks_375 (by decide) rfl (Nat.le_of_ble_eq_true rfl) ?_ rfl
        refine j_iload C 378 5 rfl dL_areBlocks_378 ?_
        refine j_icmp_ne C 380 424 dL_areBlocks_380 (by decide) (fun c380 => ?_) (fun c380 => ?_)
        · refine j_aload_n C 383 0 rfl dL_areBlocks_383 ?_
          refine j_aload_n C 384 1 rfl dL_areBlocks_384 ?_
          refine j_iconst (v := 0) C 385 dL_areBlocks_385 rfl ?_
          refine j_bind (fun x386 h386 => ?_)
          refine l_Rw0 C (k := 0) (nG_0 C.2.2.2.2.2.2.1) w v0 386 h386 dL_areBlocks_386 ?_
          refine j_bipush (v := 7) C 387 dL_areBlocks_387 rfl ?_
          refine j_bind (fun x389 h389 => ?_)
          refine j_callW (As := [.ref (G.2.2 0), .int x386, .int 7]) (st := []) C T.1 (T.d1 (by decide)) (T.d2 (by decide)) kw_L_where 389 (c_L_where C.2.2.2.2.2.2.1 T.2.1 _ _ _ h389) ml_L_136 st_L_where dL_areBlocks_389 (by decide) rfl (Nat.le_of_ble_eq_true rfl) ?_ rfl
          have C := C.add (k := 1) (z := 6) (T.d1 (by decide)) (T.d2 (by decide))
          have T := TB.add (a := 2) (z := 12) (k := 1) (y := 6) T
          refine j_bipush (v := (-31)) C 392 dL_areBlocks_392 rfl ?_
          refine j_icmp_ne C 394 424 dL_areBlocks_394 (by decide) (fun c394 => ?_) (fun c394 => ?_)
          · refine j_aload_n C 397 0 rfl dL_areBlocks_397 ?_
            refine j_iconst (v := 0) C 398 dL_areBlocks_398 rfl ?_
            refine j_bipush (v := 12) C 399 dL_areBlocks_399 rfl ?_
            refine j_bind (fun x401 h401 => ?_)
            refine j_callW (As := [.ref (G.2.2 0), .int 0, .int 12]) (st := []) C T.1 (T.d1 (by decide)) (T.d2 (by decide)) kw_L_lies 401 (c_L_lies C.2.2.2.2.2.2.1 T.2.1 _ _ _ h401) ml_L_138 st_L_lies dL_areBlocks_401 (by decide) rfl (Nat.le_of_ble_eq_true rfl) ?_ rfl
            have C := C.add (k := 1) (z := 6) (T.d1 (by decide)) (T.d2 (by decide))
            have T := TB.add (a := 1) (z := 6) (k := 1) (y := 6) T
            refine j_bipush (v := (-31)) C 404 dL_areBlocks_404 rfl ?_
            refine j_icmp_ne C 406 424 dL_areBlocks_406 (by decide) (fun c406 => ?_) (fun c406 => ?_)
            · refine j_aload_n C 409 0 rfl dL_areBlocks_409 ?_
              refine j_iconst (v := 4) C 410 dL_areBlocks_410 rfl ?_
              refine j_iconst (v := 0) C 411 dL_areBlocks_411 rfl ?_
              refine j_bind (fun x412 h412 => ?_)
              refine j_callW (As := [.ref (G.2.2 0), .int 4, .int 0]) (st := []) C T.1 (T.d1 (by decide)) (T.d2 (by decide)) kw_L_lies 412 (c_L_lies C.2.2.2.2.2.2.1 T.2.1 _ _ _ h412) ml_L_138 st_L_lies dL_areBlocks_412 (by decide) rfl (Nat.le_of_ble_eq_true rfl) ?_ rfl
              have C := C.add (k := 1) (z := 6) (T.d1 (by decide)) (T.d2 (by decide))
              have T := TB.add (a := 0) (z := 0) (k := 1) (y := 6) T
              refine j_bipush (v := (-31)) C 415 dL_areBlocks_415 rfl ?_
              refine j_icmp_ne C 417 424 dL_areBlocks_417 (by decide) (fun c417 => ?_) (fun c417 => ?_)
              · refine j_iconst (v := 1) C 420 dL_areBlocks_420 rfl ?_
                refine j_goto C 421 425 dL_areBlocks_421 (by decide) ?_
                exact jb_zret C T 425 hr rfl rfl rfl dL_areBlocks_425
              · refine j_iconst (v := 0) C 424 dL_areBlocks_424 rfl ?_
                exact jb_zret C T 425 hr rfl rfl rfl dL_areBlocks_425
            · refine j_iconst (v := 0) C 424 dL_areBlocks_424 rfl ?_
              exact jb_zret C T 425 hr rfl rfl rfl dL_areBlocks_425
          · refine j_iconst (v := 0) C 424 dL_areBlocks_424 rfl ?_
            exact jb_zret C T 425 hr rfl rfl rfl dL_areBlocks_425
        · refine j_iconst (v := 0) C 424 dL_areBlocks_424 rfl ?_
          exact jb_zret C T 425 hr rfl rfl rfl dL_areBlocks_425
      · refine j_iconst (v := 0) C 424 dL_areBlocks_424 rfl ?_
        exact jb_zret C T 425 hr rfl rfl rfl dL_areBlocks_425
set_option maxRecDepth 100000 in
set_option maxHeartbeats 4000000 in
theorem wl_L_areBlocks_12 {G : GG} {X : WX} {sa : Nat → Nat} {KB ZB : Nat} {w : VW} (C : Cx G 13 X RL cL_areBlocks 10) (hr : (xM X).sig.returnType = (some .boolean)) (T : TB G sa KB ZB X 3 18) (u : VC) (v0 : VRw) : ∀ (n : Nat) (s6 : Int32) (s7 : Int32) (s8 : Int32) (s9 : Int32), JS G 13 X (QB G X KB ZB (fun x : Int32 => some (.int x)) (fun x : Int32 => ((u, sRw w 0 v0) : VA))) (l_L_areBlocks_12 u v0 n s6 s7 s8 s9) (u, sRw w 0 v0) 12 [(0, .ref (G.2.2 0)), (1, .ref (G.2.2 (114 + 0))), (2, .ref (G.2.2 (114 + (1 + 0)))), (3, .ref (G.2.2 (114 + (2 + 0)))), (4, .ref (G.2.2 (114 + (3 + 0)))), (5, .ref (G.2.2 (114 + (4 + 0)))), (6, .int s6), (7, .int s7), (8, .int s8), (9, .int s9)] [] := by
  intro n
  induction n with
  | zero => intro _ _ _ _; exact j_none
  | succ n ih =>
    intro s6 s7 s8 s9
    unfold l_L_areBlocks_12
    refine j_iload C 12 9 rfl dL_areBlocks_12 ?_
    refine j_aload_n C 14 1 rfl dL_areBlocks_14 ?_
    refine j_iconst (v := 0) C 15 dL_areBlocks_15 rfl ?_
    refine j_bind (fun x16 h16 => ?_)
    refine l_Rw0 C (k := 0) (nG_0 C.2.2.2.2.2.2.1) w v0 16 h16 dL_areBlocks_16 ?_
    refine j_icmp_ge C 17 275 dL_areBlocks_17 (by decide) (fun c17 => ?_) (fun c17 => ?_)
    · refine j_aload_n C 20 2 rfl dL_areBlocks_20 ?_
      refine j_aload_n C 21 3 rfl dL_areBlocks_21 ?_
      refine j_aload C 22 4 rfl dL_areBlocks_22 ?_
      refine j_iload C 24 9 rfl dL_areBlocks_24 ?_
      refine j_bind (fun x26 h26 => ?_)
      refine j_callS_i (As := [.ref (G.2.2 (114 + (1 + 0))), .ref (G.2.2 (114 + (2 + 0))), .ref (G.2.2 (114 + (3 + 0))), .int s9]) (st := []) C k_L_can 26 (c_L_can C.2.2.2.2.2.2.1 (c := u) (w := (sRw w 0 v0)) _ _ (114 + (1 + 0)) (nG_lt C.2.2.2.2.2.2.1 (by omega)) (a_Rw1 u w 0 v0) _ _ (114 + (2 + 0)) (nG_lt C.2.2.2.2.2.2.1 (by omega)) (a_Rw2 u w 0 v0) _ _ (114 + (3 + 0)) (nG_lt C.2.2.2.2.2.2.1 (by omega)) (a_Rw3 u w 0 v0) _ h26) rfl ml_L_110 st_L_can dL_areBlocks_26 (by decide) rfl (Nat.le_of_ble_eq_true rfl) ?_ rfl
      refine j_istore (L1 := [(10, .int x26), (0, .ref (G.2.2 0)), (1, .ref (G.2.2 (114 + 0))), (2, .ref (G.2.2 (114 + (1 + 0)))), (3, .ref (G.2.2 (114 + (2 + 0)))), (4, .ref (G.2.2 (114 + (3 + 0)))), (5, .ref (G.2.2 (114 + (4 + 0)))), (6, .int s6), (7, .int s7), (8, .int s8), (9, .int s9)]) C 29 dL_areBlocks_29 (by decide) rfl ?_
      refine j_aload_n C 31 4 rfl dL_areBlocks_31 ?_
      refine j_iload C 32 10 rfl dL_areBlocks_32 ?_
      refine j_bind (fun x34 h34 => ?_)
      refine l_Rw2 C (k := 0) (nG_0 C.2.2.2.2.2.2.1) w v0 34 h34 dL_areBlocks_34 ?_
      refine j_bipush (v := 12) C 35 dL_areBlocks_35 rfl ?_
      refine j_idiv C 37 dL_areBlocks_37 (by decide) ?_
      refine j_istore (L1 := [(11, .int (x34 / 12)), (10, .int x26), (0, .ref (G.2.2 0)), (1, .ref (G.2.2 (114 + 0))), (2, .ref (G.2.2 (114 + (1 + 0)))), (3, .ref (G.2.2 (114 + (2 + 0)))), (4, .ref (G.2.2 (114 + (3 + 0)))), (5, .ref (G.2.2 (114 + (4 + 0)))), (6, .int s6), (7, .int s7), (8, .int s8), (9, .int s9)]) C 38 dL_areBlocks_38 (by decide) rfl ?_
      refine j_aload C 40 6 rfl dL_areBlocks_40 ?_
      refine j_iload C 42 11 rfl dL_areBlocks_42 ?_
      refine j_bind (fun x44 h44 => ?_)
      refine l_Rw3 C (k := 0) (nG_0 C.2.2.2.2.2.2.1) w v0 44 h44 dL_areBlocks_44 ?_
      refine j_istore (L1 := [(12, .int x44), (11, .int (x34 / 12)), (10, .int x26), (0, .ref (G.2.2 0)), (1, .ref (G.2.2 (114 + 0))), (2, .ref (G.2.2 (114 + (1 + 0)))), (3, .ref (G.2.2 (114 + (2 + 0)))), (4, .ref (G.2.2 (114 + (3 + 0)))), (5, .ref (G.2.2 (114 + (4 + 0)))), (6, .int s6), (7, .int s7), (8, .int s8), (9, .int s9)]) C 45 dL_areBlocks_45 (by decide) rfl ?_
      refine j_iload C 47 9 rfl dL_areBlocks_47 ?_
      refine j_iload C 49 2 rfl dL_areBlocks_49 ?_
      refine j_if_eq C 51 58 dL_areBlocks_51 (by decide) (fun c51 => ?_) (fun c51 => ?_)
      · refine j_iconst (v := 1) C 58 dL_areBlocks_58 rfl ?_
        refine j_L (L' := [(0, .ref (G.2.2 0)), (1, .ref (G.2.2 (114 + 0))), (2, .ref (G.2.2 (114 + (1 + 0)))), (3, .ref (G.2.2 (114 + (2 + 0)))), (4, .ref (G.2.2 (114 + (3 + 0)))), (5, .ref (G.2.2 (114 + (4 + 0)))), (7, .int s7), (8, .int s8), (9, .int s9), (10, .int x26), (11, .int (x34 / 12)), (12, .int x44)]) [3, 4, 5, 6, 7, 8, 10, 11, 12, 2, 1, 0] rfl ?_
        exact wb_L_areBlocks_59 C hr (T.mono (a := 3) (z := 18) (by decide) (by decide)) u v0 _ ih s7 s8 s9 x26 (x34 / 12) x44 1 s6
      · refine j_iconst (v := 0) C 54 dL_areBlocks_54 rfl ?_
        refine j_goto C 55 59 dL_areBlocks_55 (by decide) ?_
        refine j_L (L' := [(0, .ref (G.2.2 0)), (1, .ref (G.2.2 (114 + 0))), (2, .ref (G.2.2 (114 + (1 + 0)))), (3, .ref (G.2.2 (114 + (2 + 0)))), (4, .ref (G.2.2 (114 + (3 + 0)))), (5, .ref (G.2.2 (114 + (4 + 0)))), (7, .int s7), (8, .int s8), (9, .int s9), (10, .int x26), (11, .int (x34 / 12)), (12, .int x44)]) [3, 4, 5, 6, 7, 8, 10, 11, 12, 2, 1, 0] rfl ?_
        exact wb_L_areBlocks_59 C hr (T.mono (a := 3) (z := 18) (by decide) (by decide)) u v0 _ ih s7 s8 s9 x26 (x34 / 12) x44 0 s6
    · refine j_iconst (v := 0) C 275 dL_areBlocks_275 rfl ?_
      refine j_istore (L1 := [(9, .int 0), (0, .ref (G.2.2 0)), (1, .ref (G.2.2 (114 + 0))), (2, .ref (G.2.2 (114 + (1 + 0)))), (3, .ref (G.2.2 (114 + (2 + 0)))), (4, .ref (G.2.2 (114 + (3 + 0)))), (5, .ref (G.2.2 (114 + (4 + 0)))), (6, .int s6), (7, .int s7), (8, .int s8)]) C 276 dL_areBlocks_276 (by decide) rfl ?_
      refine j_L (L' := [(0, .ref (G.2.2 0)), (1, .ref (G.2.2 (114 + 0))), (3, .ref (G.2.2 (114 + (2 + 0)))), (4, .ref (G.2.2 (114 + (3 + 0)))), (6, .int s6), (7, .int s7), (8, .int s8), (9, .int 0)]) [1, 2, 4, 5, 7, 8, 9, 0] rfl ?_
      exact wl_L_areBlocks_278 C hr (T.mono (a := 3) (z := 18) (by decide) (by decide)) u v0 FU s6 s7 s8 0
set_option maxRecDepth 100000 in
set_option maxHeartbeats 4000000 in
theorem w_L_areBlocks {G : GG} {X : WX} {sa : Nat → Nat} {KB ZB : Nat} {w : VW} (C : Cx G 13 X RL cL_areBlocks 10) (hr : (xM X).sig.returnType = (some .boolean)) (T : TB G sa KB ZB X 3 18) (u : VC) (v0 : VRw) : JS G 13 X (QB G X KB ZB (fun x : Int32 => some (.int x)) (fun x : Int32 => ((u, sRw w 0 v0) : VA))) (f_L_areBlocks u v0) (u, sRw w 0 v0) 0 [(0, .ref (G.2.2 0)), (1, .ref (G.2.2 (114 + 0))), (2, .ref (G.2.2 (114 + (1 + 0)))), (3, .ref (G.2.2 (114 + (2 + 0)))), (4, .ref (G.2.2 (114 + (3 + 0)))), (5, .ref (G.2.2 (114 + (4 + 0))))] [] := by
  unfold f_L_areBlocks
  refine j_iconst (v := 0) C 0 dL_areBlocks_0 rfl ?_
  refine j_istore (L1 := [(6, .int 0), (0, .ref (G.2.2 0)), (1, .ref (G.2.2 (114 + 0))), (2, .ref (G.2.2 (114 + (1 + 0)))), (3, .ref (G.2.2 (114 + (2 + 0)))), (4, .ref (G.2.2 (114 + (3 + 0)))), (5, .ref (G.2.2 (114 + (4 + 0))))]) C 1 dL_areBlocks_1 (by decide) rfl ?_
  refine j_iconst (v := 0) C 3 dL_areBlocks_3 rfl ?_
  refine j_istore (L1 := [(7, .int 0), (6, .int 0), (0, .ref (G.2.2 0)), (1, .ref (G.2.2 (114 + 0))), (2, .ref (G.2.2 (114 + (1 + 0)))), (3, .ref (G.2.2 (114 + (2 + 0)))), (4, .ref (G.2.2 (114 + (3 + 0)))), (5, .ref (G.2.2 (114 + (4 + 0))))]) C 4 dL_areBlocks_4 (by decide) rfl ?_
  refine j_iconst (v := (-1)) C 6 dL_areBlocks_6 rfl ?_
  refine j_istore (L1 := [(8, .int (-1)), (7, .int 0), (6, .int 0), (0, .ref (G.2.2 0)), (1, .ref (G.2.2 (114 + 0))), (2, .ref (G.2.2 (114 + (1 + 0)))), (3, .ref (G.2.2 (114 + (2 + 0)))), (4, .ref (G.2.2 (114 + (3 + 0)))), (5, .ref (G.2.2 (114 + (4 + 0))))]) C 7 dL_areBlocks_7 (by decide) rfl ?_
  refine j_iconst (v := 0) C 9 dL_areBlocks_9 rfl ?_
  refine j_istore (L1 := [(9, .int 0), (8, .int (-1)), (7, .int 0), (6, .int 0), (0, .ref (G.2.2 0)), (1, .ref (G.2.2 (114 + 0))), (2, .ref (G.2.2 (114 + (1 + 0)))), (3, .ref (G.2.2 (114 + (2 + 0)))), (4, .ref (G.2.2 (114 + (3 + 0)))), (5, .ref (G.2.2 (114 + (4 + 0))))]) C 10 dL_areBlocks_10 (by decide) rfl ?_
  refine j_L (L' := [(0, .ref (G.2.2 0)), (1, .ref (G.2.2 (114 + 0))), (2, .ref (G.2.2 (114 + (1 + 0)))), (3, .ref (G.2.2 (114 + (2 + 0)))), (4, .ref (G.2.2 (114 + (3 + 0)))), (5, .ref (G.2.2 (114 + (4 + 0)))), (6, .int 0), (7, .int 0), (8, .int (-1)), (9, .int 0)]) [4, 5, 6, 7, 8, 9, 3, 2, 1, 0] rfl ?_
  exact wl_L_areBlocks_12 C hr (T.mono (a := 3) (z := 18) (by decide) (by decide)) u v0 FU 0 0 (-1) 0
theorem c_L_areBlocks {G : GG} {l : Launch} {sa : Nat → Nat} (hG : Gok G) (hl : l.stackTraces = false) {w : VW} (u : VC) (v0 : VRw) {x : Int32} (hf : f_L_areBlocks u v0 = some x) : CtB l yL_areBlocks cL_areBlocks 13 (some .boolean) 10 [.ref (G.2.2 0), .ref (G.2.2 (114 + 0)), .ref (G.2.2 (114 + (1 + 0))), .ref (G.2.2 (114 + (2 + 0))), .ref (G.2.2 (114 + (3 + 0))), .ref (G.2.2 (114 + (4 + 0)))] G sa (u, sRw w 0 v0) (some (.int x)) (u, sRw w 0 v0) 3 18 := by
  refine ctb_of (rv := fun x : Int32 => (some (.int x))) (fin := fun x : Int32 => ((u, sRw w 0 v0) : VA)) (own := RL) hG hl (plainFor_of_name (by decide)) rfl (Nat.le_of_ble_eq_true rfl) (fun X C hr T => ?_) hf
  exact w_L_areBlocks C hr (T.mono (a := 3) (z := 18) (by decide) (by decide)) u v0
set_option maxRecDepth 100000 in
set_option maxHeartbeats 4000000 in
theorem wb_L_isSo_132 {G : GG} {X : WX} {sa : Nat → Nat} {KB ZB : Nat} {w : VW} (C : Cx G 11 X RL cL_isSo 11) (hr : (xM X).sig.returnType = (some .boolean)) (T : TB G sa KB ZB X 3 18) (u : VC) (v0 : VRw) (K9 : Int32 → Int32 → Int32 → Option Int32) (hK9 : ∀ (s6 : Int32) (s7 : Int32) (s8 : Int32), JS G 11 X (QB G X KB ZB (fun x : Int32 => some (.int x)) (fun x : Int32 => ((u, sRw w 0 v0) : VA))) (K9 s6 s7 s8) (u, sRw w 0 v0) 9 [(0, .ref (G.2.2 0)), (1, .ref (G.2.2 (114 + 0))), (2, .ref (G.2.2 (114 + (1 + 0)))), (3, .ref (G.2.2 (114 + (2 + 0)))), (4, .ref (G.2.2 (114 + (3 + 0)))), (5, .ref (G.2.2 (114 + (4 + 0)))), (6, .int s6), (7, .int s7), (8, .int s8)] []) (K78 : Int32 → Int32 → Int32 → Int32 → Int32 → Option Int32) (hK78 : ∀ (s6 : Int32) (s7 : Int32) (s8 : Int32) (s9 : Int32) (s10 : Int32), JS G 11 X (QB G X KB ZB (fun x : Int32 => some (.int x)) (fun x : Int32 => ((u, sRw w 0 v0) : VA))) (K78 s6 s7 s8 s9 s10) (u, sRw w 0 v0) 78 [(0, .ref (G.2.2 0)), (1, .ref (G.2.2 (114 + 0))), (2, .ref (G.2.2 (114 + (1 + 0)))), (3, .ref (G.2.2 (114 + (2 + 0)))), (4, .ref (G.2.2 (114 + (3 + 0)))), (5, .ref (G.2.2 (114 + (4 + 0)))), (6, .int s6), (7, .int s7), (8, .int s8), (9, .int s9), (10, .int s10)] []) (s6 : Int32) (s7 : Int32) (s8 : Int32) (s9 : Int32) (s10 : Int32) (t0 : Int32) (t1 : Int32) : JS G 11 X (QB G X KB ZB (fun x : Int32 => some (.int x)) (fun x : Int32 => ((u, sRw w 0 v0) : VA))) (b_L_isSo_132 u v0 K9 K78 s6 s7 s8 s9 s10 t0 t1) (u, sRw w 0 v0) 132 [(0, .ref (G.2.2 0)), (1, .ref (G.2.2 (114 + 0))), (2, .ref (G.2.2 (114 + (1 + 0)))), (3, .ref (G.2.2 (114 + (2 + 0)))), (4, .ref (G.2.2 (114 + (3 + 0)))), (5, .ref (G.2.2 (114 + (4 + 0)))), (6, .int s6), (7, .int s7), (8, .int s8), (9, .int s9), (10, .int s10)] [.int t0, .int t1] := by
  unfold b_L_isSo_132
  refine j_icmp_eq C 132 137 dL_isSo_132 (by decide) (fun c132 => ?_) (fun c132 => ?_)
  · refine j_iinc (v := (s10 + 1)) (L1 := [(10, .int (s10 + 1)), (0, .ref (G.2.2 0)), (1, .ref (G.2.2 (114 + 0))), (2, .ref (G.2.2 (114 + (1 + 0)))), (3, .ref (G.2.2 (114 + (2 + 0)))), (4, .ref (G.2.2 (114 + (3 + 0)))), (5, .ref (G.2.2 (114 + (4 + 0)))), (6, .int s6), (7, .int s7), (8, .int s8), (9, .int s9)]) C 137 10 rfl dL_isSo_137 rfl (by decide) rfl ?_
    refine j_goto C 140 78 dL_isSo_140 (by decide) ?_
    refine j_L (L' := [(0, .ref (G.2.2 0)), (1, .ref (G.2.2 (114 + 0))), (2, .ref (G.2.2 (114 + (1 + 0)))), (3, .ref (G.2.2 (114 + (2 + 0)))), (4, .ref (G.2.2 (114 + (3 + 0)))), (5, .ref (G.2.2 (114 + (4 + 0)))), (6, .int s6), (7, .int s7), (8, .int s8), (9, .int s9), (10, .int (s10 + 1))]) [1, 2, 3, 4, 5, 6, 7, 8, 9, 10, 0] rfl ?_
    exact hK78 s6 s7 s8 s9 (s10 + 1)
  · refine j_iconst (v := 0) C 135 dL_isSo_135 rfl ?_
    exact jb_zret C T 136 hr rfl rfl rfl dL_isSo_136
set_option maxRecDepth 100000 in
set_option maxHeartbeats 4000000 in
theorem wl_L_isSo_78 {G : GG} {X : WX} {sa : Nat → Nat} {KB ZB : Nat} {w : VW} (C : Cx G 11 X RL cL_isSo 11) (hr : (xM X).sig.returnType = (some .boolean)) (T : TB G sa KB ZB X 3 18) (u : VC) (v0 : VRw) (K9 : Int32 → Int32 → Int32 → Option Int32) (hK9 : ∀ (s6 : Int32) (s7 : Int32) (s8 : Int32), JS G 11 X (QB G X KB ZB (fun x : Int32 => some (.int x)) (fun x : Int32 => ((u, sRw w 0 v0) : VA))) (K9 s6 s7 s8) (u, sRw w 0 v0) 9 [(0, .ref (G.2.2 0)), (1, .ref (G.2.2 (114 + 0))), (2, .ref (G.2.2 (114 + (1 + 0)))), (3, .ref (G.2.2 (114 + (2 + 0)))), (4, .ref (G.2.2 (114 + (3 + 0)))), (5, .ref (G.2.2 (114 + (4 + 0)))), (6, .int s6), (7, .int s7), (8, .int s8)] []) : ∀ (n : Nat) (s6 : Int32) (s7 : Int32) (s8 : Int32) (s9 : Int32) (s10 : Int32), JS G 11 X (QB G X KB ZB (fun x : Int32 => some (.int x)) (fun x : Int32 => ((u, sRw w 0 v0) : VA))) (l_L_isSo_78 u v0 K9 n s6 s7 s8 s9 s10) (u, sRw w 0 v0) 78 [(0, .ref (G.2.2 0)), (1, .ref (G.2.2 (114 + 0))), (2, .ref (G.2.2 (114 + (1 + 0)))), (3, .ref (G.2.2 (114 + (2 + 0)))), (4, .ref (G.2.2 (114 + (3 + 0)))), (5, .ref (G.2.2 (114 + (4 + 0)))), (6, .int s6), (7, .int s7), (8, .int s8), (9, .int s9), (10, .int s10)] [] := by
  intro n
  induction n with
  | zero => intro _ _ _ _ _; exact j_none
  | succ n ih =>
    intro s6 s7 s8 s9 s10
    unfold l_L_isSo_78
    refine j_iload C 78 10 rfl dL_isSo_78 ?_
    refine j_bipush (v := 8) C 80 dL_isSo_80 rfl ?_
    refine j_icmp_ge C 82 143 dL_isSo_82 (by decide) (fun c82 => ?_) (fun c82 => ?_)
    · refine j_aload_n C 85 0 rfl dL_isSo_85 ?_
      refine j_iload C 86 8 rfl dL_isSo_86 ?_
      refine j_iload C 88 10 rfl dL_isSo_88 ?_
      refine j_bind (fun x90 h90 => ?_)
      refine j_vSp_i (As := [.int s8, .int s10]) (st := []) C k_X5_slot 90 (cn_X5_slot C.2.2.2.2.2.2.1 _ _ _ (nth_in h90)) rfl rfl ml_L_57 ii_X5_slot is_X5_slot dL_isSo_90 (by decide) rfl (Nat.le_of_ble_eq_true rfl) ?_ rfl
      refine j_iload C 93 9 rfl dL_isSo_93 ?_
      refine j_if_eq C 95 118 dL_isSo_95 (by decide) (fun c95 => ?_) (fun c95 => ?_)
      · refine j_iconst (v := (-1)) C 118 dL_isSo_118 rfl ?_
        refine j_goto C 119 132 dL_isSo_119 (by decide) ?_
        exact wb_L_isSo_132 C hr (T.mono (a := 3) (z := 18) (by decide) (by decide)) u v0 _ hK9 _ ih s6 s7 s8 s9 s10 (-1) x90
      · refine j_iload C 98 10 rfl dL_isSo_98 ?_
        refine j_bipush (v := 6) C 100 dL_isSo_100 rfl ?_
        refine j_icmp_ne C 102 122 dL_isSo_102 (by decide) (fun c102 => ?_) (fun c102 => ?_)
        · refine j_aload_n C 105 2 rfl dL_isSo_105 ?_
          refine j_bipush (v := 8) C 106 dL_isSo_106 rfl ?_
          refine j_iload C 108 8 rfl dL_isSo_108 ?_
          refine j_imul C 110 dL_isSo_110 ?_
          refine j_iconst (v := 1) C 111 dL_isSo_111 rfl ?_
          refine j_iadd C 112 dL_isSo_112 ?_
          refine j_bind (fun x113 h113 => ?_)
          refine l_Rw1 C (k := 0) (nG_0 C.2.2.2.2.2.2.1) w v0 113 h113 dL_isSo_113 ?_
          refine j_iconst (v := 1) C 114 dL_isSo_114 rfl ?_
          refine j_icmp_ne C 115 122 dL_isSo_115 (by decide) (fun c115 => ?_) (fun c115 => ?_)
          · refine j_iconst (v := (-1)) C 118 dL_isSo_118 rfl ?_
            refine j_goto C 119 132 dL_isSo_119 (by decide) ?_
            exact wb_L_isSo_132 C hr (T.mono (a := 3) (z := 18) (by decide) (by decide)) u v0 _ hK9 _ ih s6 s7 s8 s9 s10 (-1) x90
          · refine j_aload_n C 122 2 rfl dL_isSo_122 ?_
            refine j_bipush (v := 8) C 123 dL_isSo_123 rfl ?_
            refine j_iload C 125 8 rfl dL_isSo_125 ?_
            refine j_imul C 127 dL_isSo_127 ?_
            refine j_iload C 128 10 rfl dL_isSo_128 ?_
            refine j_iadd C 130 dL_isSo_130 ?_
            refine j_bind (fun x131 h131 => ?_)
            refine l_Rw1 C (k := 0) (nG_0 C.2.2.2.2.2.2.1) w v0 131 h131 dL_isSo_131 ?_
            exact wb_L_isSo_132 C hr (T.mono (a := 3) (z := 18) (by decide) (by decide)) u v0 _ hK9 _ ih s6 s7 s8 s9 s10 x131 x90
        · refine j_aload_n C 122 2 rfl dL_isSo_122 ?_
          refine j_bipush (v := 8) C 123 dL_isSo_123 rfl ?_
          refine j_iload C 125 8 rfl dL_isSo_125 ?_
          refine j_imul C 127 dL_isSo_127 ?_
          refine j_iload C 128 10 rfl dL_isSo_128 ?_
          refine j_iadd C 130 dL_isSo_130 ?_
          refine j_bind (fun x131 h131 => ?_)
          refine l_Rw1 C (k := 0) (nG_0 C.2.2.2.2.2.2.1) w v0 131 h131 dL_isSo_131 ?_
          exact wb_L_isSo_132 C hr (T.mono (a := 3) (z := 18) (by decide) (by decide)) u v0 _ hK9 _ ih s6 s7 s8 s9 s10 x131 x90
    · refine j_iinc (v := (s8 + 1)) (L1 := [(8, .int (s8 + 1)), (0, .ref (G.2.2 0)), (1, .ref (G.2.2 (114 + 0))), (2, .ref (G.2.2 (114 + (1 + 0)))), (3, .ref (G.2.2 (114 + (2 + 0)))), (4, .ref (G.2.2 (114 + (3 + 0)))), (5, .ref (G.2.2 (114 + (4 + 0)))), (6, .int s6), (7, .int s7), (9, .int s9), (10, .int s10)]) C 143 8 rfl dL_isSo_143 rfl (by decide) rfl ?_
      refine j_goto C 146 9 dL_isSo_146 (by decide) ?_
      refine j_L (L' := [(0, .ref (G.2.2 0)), (1, .ref (G.2.2 (114 + 0))), (2, .ref (G.2.2 (114 + (1 + 0)))), (3, .ref (G.2.2 (114 + (2 + 0)))), (4, .ref (G.2.2 (114 + (3 + 0)))), (5, .ref (G.2.2 (114 + (4 + 0)))), (6, .int s6), (7, .int s7), (8, .int (s8 + 1))]) [1, 2, 3, 4, 5, 6, 7, 8, 0] rfl ?_
      exact hK9 s6 s7 (s8 + 1)
set_option maxRecDepth 100000 in
set_option maxHeartbeats 4000000 in
theorem wb_L_isSo_44 {G : GG} {X : WX} {sa : Nat → Nat} {KB ZB : Nat} {w : VW} (C : Cx G 11 X RL cL_isSo 11) (hr : (xM X).sig.returnType = (some .boolean)) (T : TB G sa KB ZB X 3 18) (u : VC) (v0 : VRw) (K9 : Int32 → Int32 → Int32 → Option Int32) (hK9 : ∀ (s6 : Int32) (s7 : Int32) (s8 : Int32), JS G 11 X (QB G X KB ZB (fun x : Int32 => some (.int x)) (fun x : Int32 => ((u, sRw w 0 v0) : VA))) (K9 s6 s7 s8) (u, sRw w 0 v0) 9 [(0, .ref (G.2.2 0)), (1, .ref (G.2.2 (114 + 0))), (2, .ref (G.2.2 (114 + (1 + 0)))), (3, .ref (G.2.2 (114 + (2 + 0)))), (4, .ref (G.2.2 (114 + (3 + 0)))), (5, .ref (G.2.2 (114 + (4 + 0)))), (6, .int s6), (7, .int s7), (8, .int s8)] []) (s7 : Int32) (s8 : Int32) (s9 : Int32) (t0 : Int32) (t1 : Int32) : JS G 11 X (QB G X KB ZB (fun x : Int32 => some (.int x)) (fun x : Int32 => ((u, sRw w 0 v0) : VA))) (b_L_isSo_44 u v0 K9 s7 s8 s9 t0 t1) (u, sRw w 0 v0) 44 [(0, .ref (G.2.2 0)), (1, .ref (G.2.2 (114 + 0))), (2, .ref (G.2.2 (114 + (1 + 0)))), (3, .ref (G.2.2 (114 + (2 + 0)))), (4, .ref (G.2.2 (114 + (3 + 0)))), (5, .ref (G.2.2 (114 + (4 + 0)))), (7, .int s7), (8, .int s8), (9, .int s9)] [.int t0, .int t1] := by
  unfold b_L_isSo_44
  refine j_iadd C 44 dL_isSo_44 ?_
  refine j_istore (L1 := [(6, .int (t1 + t0)), (0, .ref (G.2.2 0)), (1, .ref (G.2.2 (114 + 0))), (2, .ref (G.2.2 (114 + (1 + 0)))), (3, .ref (G.2.2 (114 + (2 + 0)))), (4, .ref (G.2.2 (114 + (3 + 0)))), (5, .ref (G.2.2 (114 + (4 + 0)))), (7, .int s7), (8, .int s8), (9, .int s9)]) C 45 dL_isSo_45 (by decide) rfl ?_
  refine j_iload C 47 7 rfl dL_isSo_47 ?_
  refine j_iload C 49 9 rfl dL_isSo_49 ?_
  refine j_if_eq C 51 71 dL_isSo_51 (by decide) (fun c51 => ?_) (fun c51 => ?_)
  · refine j_iconst (v := 0) C 71 dL_isSo_71 rfl ?_
    refine j_iadd C 72 dL_isSo_72 ?_
    refine j_istore (L1 := [(7, .int (s7 + 0)), (6, .int (t1 + t0)), (0, .ref (G.2.2 0)), (1, .ref (G.2.2 (114 + 0))), (2, .ref (G.2.2 (114 + (1 + 0)))), (3, .ref (G.2.2 (114 + (2 + 0)))), (4, .ref (G.2.2 (114 + (3 + 0)))), (5, .ref (G.2.2 (114 + (4 + 0)))), (8, .int s8), (9, .int s9)]) C 73 dL_isSo_73 (by decide) rfl ?_
    refine j_iconst (v := 0) C 75 dL_isSo_75 rfl ?_
    refine j_istore (L1 := [(10, .int 0), (7, .int (s7 + 0)), (6, .int (t1 + t0)), (0, .ref (G.2.2 0)), (1, .ref (G.2.2 (114 + 0))), (2, .ref (G.2.2 (114 + (1 + 0)))), (3, .ref (G.2.2 (114 + (2 + 0)))), (4, .ref (G.2.2 (114 + (3 + 0)))), (5, .ref (G.2.2 (114 + (4 + 0)))), (8, .int s8), (9, .int s9)]) C 76 dL_isSo_76 (by decide) rfl ?_
    refine j_L (L' := [(0, .ref (G.2.2 0)), (1, .ref (G.2.2 (114 + 0))), (2, .ref (G.2.2 (114 + (1 + 0)))), (3, .ref (G.2.2 (114 + (2 + 0)))), (4, .ref (G.2.2 (114 + (3 + 0)))), (5, .ref (G.2.2 (114 + (4 + 0)))), (6, .int (t1 + t0)), (7, .int (s7 + 0)), (8, .int s8), (9, .int s9), (10, .int 0)]) [3, 4, 5, 6, 7, 8, 2, 1, 9, 10, 0] rfl ?_
    exact wl_L_isSo_78 C hr (T.mono (a := 3) (z := 18) (by decide) (by decide)) u v0 _ hK9 FU (t1 + t0) (s7 + 0) s8 s9 0
  · refine j_aload_n C 54 3 rfl dL_isSo_54 ?_
    refine j_bipush (v := 8) C 55 dL_isSo_55 rfl ?_
    refine j_iload C 57 8 rfl dL_isSo_57 ?_
    refine j_imul C 59 dL_isSo_59 ?_
    refine j_iconst (v := 3) C 60 dL_isSo_60 rfl ?_
    refine j_iadd C 61 dL_isSo_61 ?_
    refine j_bind (fun x62 h62 => ?_)
    refine l_Rw1 C (k := 0) (nG_0 C.2.2.2.2.2.2.1) w v0 62 h62 dL_isSo_62 ?_
    refine j_iconst (v := 1) C 63 dL_isSo_63 rfl ?_
    refine j_icmp_ne C 64 71 dL_isSo_64 (by decide) (fun c64 => ?_) (fun c64 => ?_)
    · refine j_iconst (v := 1) C 67 dL_isSo_67 rfl ?_
      refine j_goto C 68 72 dL_isSo_68 (by decide) ?_
      refine j_iadd C 72 dL_isSo_72 ?_
      refine j_istore (L1 := [(7, .int (s7 + 1)), (6, .int (t1 + t0)), (0, .ref (G.2.2 0)), (1, .ref (G.2.2 (114 + 0))), (2, .ref (G.2.2 (114 + (1 + 0)))), (3, .ref (G.2.2 (114 + (2 + 0)))), (4, .ref (G.2.2 (114 + (3 + 0)))), (5, .ref (G.2.2 (114 + (4 + 0)))), (8, .int s8), (9, .int s9)]) C 73 dL_isSo_73 (by decide) rfl ?_
      refine j_iconst (v := 0) C 75 dL_isSo_75 rfl ?_
      refine j_istore (L1 := [(10, .int 0), (7, .int (s7 + 1)), (6, .int (t1 + t0)), (0, .ref (G.2.2 0)), (1, .ref (G.2.2 (114 + 0))), (2, .ref (G.2.2 (114 + (1 + 0)))), (3, .ref (G.2.2 (114 + (2 + 0)))), (4, .ref (G.2.2 (114 + (3 + 0)))), (5, .ref (G.2.2 (114 + (4 + 0)))), (8, .int s8), (9, .int s9)]) C 76 dL_isSo_76 (by decide) rfl ?_
      refine j_L (L' := [(0, .ref (G.2.2 0)), (1, .ref (G.2.2 (114 + 0))), (2, .ref (G.2.2 (114 + (1 + 0)))), (3, .ref (G.2.2 (114 + (2 + 0)))), (4, .ref (G.2.2 (114 + (3 + 0)))), (5, .ref (G.2.2 (114 + (4 + 0)))), (6, .int (t1 + t0)), (7, .int (s7 + 1)), (8, .int s8), (9, .int s9), (10, .int 0)]) [3, 4, 5, 6, 7, 8, 2, 1, 9, 10, 0] rfl ?_
      exact wl_L_isSo_78 C hr (T.mono (a := 3) (z := 18) (by decide) (by decide)) u v0 _ hK9 FU (t1 + t0) (s7 + 1) s8 s9 0
    · refine j_iconst (v := 0) C 71 dL_isSo_71 rfl ?_
      refine j_iadd C 72 dL_isSo_72 ?_
      refine j_istore (L1 := [(7, .int (s7 + 0)), (6, .int (t1 + t0)), (0, .ref (G.2.2 0)), (1, .ref (G.2.2 (114 + 0))), (2, .ref (G.2.2 (114 + (1 + 0)))), (3, .ref (G.2.2 (114 + (2 + 0)))), (4, .ref (G.2.2 (114 + (3 + 0)))), (5, .ref (G.2.2 (114 + (4 + 0)))), (8, .int s8), (9, .int s9)]) C 73 dL_isSo_73 (by decide) rfl ?_
      refine j_iconst (v := 0) C 75 dL_isSo_75 rfl ?_
      refine j_istore (L1 := [(10, .int 0), (7, .int (s7 + 0)), (6, .int (t1 + t0)), (0, .ref (G.2.2 0)), (1, .ref (G.2.2 (114 + 0))), (2, .ref (G.2.2 (114 + (1 + 0)))), (3, .ref (G.2.2 (114 + (2 + 0)))), (4, .ref (G.2.2 (114 + (3 + 0)))), (5, .ref (G.2.2 (114 + (4 + 0)))), (8, .int s8), (9, .int s9)]) C 76 dL_isSo_76 (by decide) rfl ?_
      refine j_L (L' := [(0, .ref (G.2.2 0)), (1, .ref (G.2.2 (114 + 0))), (2, .ref (G.2.2 (114 + (1 + 0)))), (3, .ref (G.2.2 (114 + (2 + 0)))), (4, .ref (G.2.2 (114 + (3 + 0)))), (5, .ref (G.2.2 (114 + (4 + 0)))), (6, .int (t1 + t0)), (7, .int (s7 + 0)), (8, .int s8), (9, .int s9), (10, .int 0)]) [3, 4, 5, 6, 7, 8, 2, 1, 9, 10, 0] rfl ?_
      exact wl_L_isSo_78 C hr (T.mono (a := 3) (z := 18) (by decide) (by decide)) u v0 _ hK9 FU (t1 + t0) (s7 + 0) s8 s9 0
set_option maxRecDepth 100000 in
set_option maxHeartbeats 4000000 in
theorem wb_L_isSo_30 {G : GG} {X : WX} {sa : Nat → Nat} {KB ZB : Nat} {w : VW} (C : Cx G 11 X RL cL_isSo 11) (hr : (xM X).sig.returnType = (some .boolean)) (T : TB G sa KB ZB X 3 18) (u : VC) (v0 : VRw) (K9 : Int32 → Int32 → Int32 → Option Int32) (hK9 : ∀ (s6 : Int32) (s7 : Int32) (s8 : Int32), JS G 11 X (QB G X KB ZB (fun x : Int32 => some (.int x)) (fun x : Int32 => ((u, sRw w 0 v0) : VA))) (K9 s6 s7 s8) (u, sRw w 0 v0) 9 [(0, .ref (G.2.2 0)), (1, .ref (G.2.2 (114 + 0))), (2, .ref (G.2.2 (114 + (1 + 0)))), (3, .ref (G.2.2 (114 + (2 + 0)))), (4, .ref (G.2.2 (114 + (3 + 0)))), (5, .ref (G.2.2 (114 + (4 + 0)))), (6, .int s6), (7, .int s7), (8, .int s8)] []) (s6 : Int32) (s7 : Int32) (s8 : Int32) (t0 : Int32) : JS G 11 X (QB G X KB ZB (fun x : Int32 => some (.int x)) (fun x : Int32 => ((u, sRw w 0 v0) : VA))) (b_L_isSo_30 u v0 K9 s6 s7 s8 t0) (u, sRw w 0 v0) 30 [(0, .ref (G.2.2 0)), (1, .ref (G.2.2 (114 + 0))), (2, .ref (G.2.2 (114 + (1 + 0)))), (3, .ref (G.2.2 (114 + (2 + 0)))), (4, .ref (G.2.2 (114 + (3 + 0)))), (5, .ref (G.2.2 (114 + (4 + 0)))), (6, .int s6), (7, .int s7), (8, .int s8)] [.int t0] := by
  unfold b_L_isSo_30
  refine j_istore (L1 := [(9, .int t0), (0, .ref (G.2.2 0)), (1, .ref (G.2.2 (114 + 0))), (2, .ref (G.2.2 (114 + (1 + 0)))), (3, .ref (G.2.2 (114 + (2 + 0)))), (4, .ref (G.2.2 (114 + (3 + 0)))), (5, .ref (G.2.2 (114 + (4 + 0)))), (6, .int s6), (7, .int s7), (8, .int s8)]) C 30 dL_isSo_30 (by decide) rfl ?_
  refine j_iload C 32 7 rfl dL_isSo_32 ?_
  refine j_iload C 34 0 rfl dL_isSo_34 ?_
  refine j_if_eq C 36 43 dL_isSo_36 (by decide) (fun c36 => ?_) (fun c36 => ?_)
  · refine j_iconst (v := 0) C 43 dL_isSo_43 rfl ?_
    refine j_L (L' := [(0, .ref (G.2.2 0)), (1, .ref (G.2.2 (114 + 0))), (2, .ref (G.2.2 (114 + (1 + 0)))), (3, .ref (G.2.2 (114 + (2 + 0)))), (4, .ref (G.2.2 (114 + (3 + 0)))), (5, .ref (G.2.2 (114 + (4 + 0)))), (7, .int s7), (8, .int s8), (9, .int t0)]) [1, 2, 3, 4, 5, 6, 8, 9, 0] rfl ?_
    exact wb_L_isSo_44 C hr (T.mono (a := 3) (z := 18) (by decide) (by decide)) u v0 _ hK9 s7 s8 t0 0 s6
  · refine j_iconst (v := 1) C 39 dL_isSo_39 rfl ?_
    refine j_goto C 40 44 dL_isSo_40 (by decide) ?_
    refine j_L (L' := [(0, .ref (G.2.2 0)), (1, .ref (G.2.2 (114 + 0))), (2, .ref (G.2.2 (114 + (1 + 0)))), (3, .ref (G.2.2 (114 + (2 + 0)))), (4, .ref (G.2.2 (114 + (3 + 0)))), (5, .ref (G.2.2 (114 + (4 + 0)))), (7, .int s7), (8, .int s8), (9, .int t0)]) [1, 2, 3, 4, 5, 6, 8, 9, 0] rfl ?_
    exact wb_L_isSo_44 C hr (T.mono (a := 3) (z := 18) (by decide) (by decide)) u v0 _ hK9 s7 s8 t0 1 s6
set_option maxRecDepth 100000 in
set_option maxHeartbeats 4000000 in
theorem wb_L_isSo_351 {G : GG} {X : WX} {sa : Nat → Nat} {KB ZB : Nat} {w : VW} (C : Cx G 11 X RL cL_isSo 11) (hr : (xM X).sig.returnType = (some .boolean)) (T : TB G sa KB ZB X 3 18) (u : VC) (v0 : VRw) (t0 : UInt32) (t1 : UInt32) : JS G 11 X (QB G X KB ZB (fun x : Int32 => some (.int x)) (fun x : Int32 => ((u, sRw w 0 v0) : VA))) (b_L_isSo_351 u v0 t0 t1) (u, sRw w 0 v0) 351 [(0, .ref (G.2.2 0)), (1, .ref (G.2.2 (114 + 0))), (2, .ref (G.2.2 (114 + (1 + 0)))), (3, .ref (G.2.2 (114 + (2 + 0)))), (4, .ref (G.2.2 (114 + (3 + 0)))), (5, .ref (G.2.2 (114 + (4 + 0))))] [.float t0, .float t1] := by
  unfold b_L_isSo_351
  refine j_fcmp C 351 dL_isSo_351 ?_
  refine j_if_ne C 352 373 dL_isSo_352 (by decide) (fun c352 => ?_) (fun c352 => ?_)
  · refine j_aload_n C 355 0 rfl dL_isSo_355 ?_
    refine j_aload_n C 356 1 rfl dL_isSo_356 ?_
    refine j_aload_n C 357 2 rfl dL_isSo_357 ?_
    refine j_aload_n C 358 3 rfl dL_isSo_358 ?_
    refine j_aload C 359 4 rfl dL_isSo_359 ?_
    refine j_aload C 361 5 rfl dL_isSo_361 ?_
    refine j_bind (fun x363 h363 => ?_)
    refine j_callB (kb := 3) (zb := 18) (As := [.ref (G.2.2 0), .ref (G.2.2 (114 + 0)), .ref (G.2.2 (114 + (1 + 0))), .ref (G.2.2 (114 + (2 + 0))), .ref (G.2.2 (114 + (3 + 0))), .ref (G.2.2 (114 + (4 + 0)))]) (st := []) C T.1 (T.d1 (by decide)) (T.d2 (by decide)) k_L_areBlocks 363 (c_L_areBlocks C.2.2.2.2.2.2.1 T.2.1 u v0 h363) ml_L_153 st_L_areBlocks dL_isSo_363 (by decide) rfl (Nat.le_of_ble_eq_true rfl) ?_ rfl
    have C := C.add (k := 3) (z := 18) (T.d1 (by decide)) (T.d2 (by decide))
    have T := TB.add (a := 0) (z := 0) (k := 3) (y := 18) T
    refine j_V (V' := (u, sRw w 0 v0)) rfl ?_
    refine j_if_eq C 366 373 dL_isSo_366 (by decide) (fun c366 => ?_) (fun c366 => ?_)
    · refine j_iconst (v := 0) C 373 dL_isSo_373 rfl ?_
      exact jb_zret C T 374 hr rfl rfl rfl dL_isSo_374
    · refine j_iconst (v := 1) C 369 dL_isSo_369 rfl ?_
      refine j_goto C 370 374 dL_isSo_370 (by decide) ?_
      exact jb_zret C T 374 hr rfl rfl rfl dL_isSo_374
  · refine j_iconst (v := 0) C 373 dL_isSo_373 rfl ?_
    exact jb_zret C T 374 hr rfl rfl rfl dL_isSo_374
set_option maxRecDepth 100000 in
set_option maxHeartbeats 4000000 in
theorem wb_L_isSo_324 {G : GG} {X : WX} {sa : Nat → Nat} {KB ZB : Nat} {w : VW} (C : Cx G 11 X RL cL_isSo 11) (hr : (xM X).sig.returnType = (some .boolean)) (T : TB G sa KB ZB X 3 18) (u : VC) (v0 : VRw) (t0 : UInt64) (t1 : UInt64) : JS G 11 X (QB G X KB ZB (fun x : Int32 => some (.int x)) (fun x : Int32 => ((u, sRw w 0 v0) : VA))) (b_L_isSo_324 u v0 t0 t1) (u, sRw w 0 v0) 324 [(0, .ref (G.2.2 0)), (1, .ref (G.2.2 (114 + 0))), (2, .ref (G.2.2 (114 + (1 + 0)))), (3, .ref (G.2.2 (114 + (2 + 0)))), (4, .ref (G.2.2 (114 + (3 + 0)))), (5, .ref (G.2.2 (114 + (4 + 0))))] [.double t0, .double t1] := by
  unfold b_L_isSo_324
  refine j_dcmp C 324 dL_isSo_324 ?_
  refine j_if_ne C 325 373 dL_isSo_325 (by decide) (fun c325 => ?_) (fun c325 => ?_)
  · refine j_aload_n C 328 0 rfl dL_isSo_328 ?_
    refine j_bind (fun x329 h329 => ?_)
    refine j_vSp_f (As := []) (st := []) C k_X5_meanTicks 329 (c_X5_meanTicks C.2.2.2.2.2.2.1 _ h329) rfl rfl ml_L_149 ii_X5_meanTicks is_X5_meanTicks dL_isSo_329 (by decide) rfl (Nat.le_of_ble_eq_true rfl) ?_ rfl
    refine j_aload_n C 332 1 rfl dL_isSo_332 ?_
    refine j_iconst (v := 3) C 333 dL_isSo_333 rfl ?_
    refine j_bind (fun x334 h334 => ?_)
    refine l_Rw0 C (k := 0) (nG_0 C.2.2.2.2.2.2.1) w v0 334 h334 dL_isSo_334 ?_
    refine j_if_ne C 335 342 dL_isSo_335 (by decide) (fun c335 => ?_) (fun c335 => ?_)
    · refine j_fconst0 C 338 dL_isSo_338 ?_
      refine j_goto C 339 351 dL_isSo_339 (by decide) ?_
      exact wb_L_isSo_351 C hr (T.mono (a := 3) (z := 18) (by decide) (by decide)) u v0 FP.fconst0 x329
    · refine j_aload_n C 342 1 rfl dL_isSo_342 ?_
      refine j_iconst (v := 2) C 343 dL_isSo_343 rfl ?_
      refine j_bind (fun x344 h344 => ?_)
      refine l_Rw0 C (k := 0) (nG_0 C.2.2.2.2.2.2.1) w v0 344 h344 dL_isSo_344 ?_
      refine j_i2f C 345 dL_isSo_345 ?_
      refine j_aload_n C 346 1 rfl dL_isSo_346 ?_
      refine j_iconst (v := 3) C 347 dL_isSo_347 rfl ?_
      refine j_bind (fun x348 h348 => ?_)
      refine l_Rw0 C (k := 0) (nG_0 C.2.2.2.2.2.2.1) w v0 348 h348 dL_isSo_348 ?_
      refine j_i2f C 349 dL_isSo_349 ?_
      refine j_bind (fun x350 h350 => ?_)
      refine j_fdiv C 350 h350 dL_isSo_350 ?_
      exact wb_L_isSo_351 C hr (T.mono (a := 3) (z := 18) (by decide) (by decide)) u v0 x350 x329
  · refine j_iconst (v := 0) C 373 dL_isSo_373 rfl ?_
    exact jb_zret C T 374 hr rfl rfl rfl dL_isSo_374
set_option maxRecDepth 100000 in
set_option maxHeartbeats 4000000 in
theorem wb_L_isSo_294 {G : GG} {X : WX} {sa : Nat → Nat} {KB ZB : Nat} {w : VW} (C : Cx G 11 X RL cL_isSo 11) (hr : (xM X).sig.returnType = (some .boolean)) (T : TB G sa KB ZB X 3 18) (u : VC) (v0 : VRw) (t0 : Int32) : JS G 11 X (QB G X KB ZB (fun x : Int32 => some (.int x)) (fun x : Int32 => ((u, sRw w 0 v0) : VA))) (b_L_isSo_294 u v0 t0) (u, sRw w 0 v0) 294 [(0, .ref (G.2.2 0)), (1, .ref (G.2.2 (114 + 0))), (2, .ref (G.2.2 (114 + (1 + 0)))), (3, .ref (G.2.2 (114 + (2 + 0)))), (4, .ref (G.2.2 (114 + (3 + 0)))), (5, .ref (G.2.2 (114 + (4 + 0))))] [.int t0] := by
  unfold b_L_isSo_294
  refine j_istore (L1 := [(8, .int t0), (0, .ref (G.2.2 0)), (1, .ref (G.2.2 (114 + 0))), (2, .ref (G.2.2 (114 + (1 + 0)))), (3, .ref (G.2.2 (114 + (2 + 0)))), (4, .ref (G.2.2 (114 + (3 + 0)))), (5, .ref (G.2.2 (114 + (4 + 0))))]) C 294 dL_isSo_294 (by decide) rfl ?_
  refine j_iload C 296 0 rfl dL_isSo_296 ?_
  refine j_if_eq C 298 373 dL_isSo_298 (by decide) (fun c298 => ?_) (fun c298 => ?_)
  · refine j_iconst (v := 0) C 373 dL_isSo_373 rfl ?_
    exact jb_zret C T 374 hr rfl rfl rfl dL_isSo_374
  · refine j_aload_n C 301 1 rfl dL_isSo_301 ?_
    refine j_bind (fun x302 h302 => ?_)
    refine j_vSp_d (As := []) (st := []) C k_X5_wideShare 302 (c_X5_wideShare C.2.2.2.2.2.2.1 _ h302) rfl rfl ml_L_145 ii_X5_wideShare is_X5_wideShare dL_isSo_302 (by decide) rfl (Nat.le_of_ble_eq_true rfl) ?_ rfl
    refine j_aload_n C 305 2 rfl dL_isSo_305 ?_
    refine j_iconst (v := 0) C 306 dL_isSo_306 rfl ?_
    refine j_bind (fun x307 h307 => ?_)
    refine l_Rw0 C (k := 0) (nG_0 C.2.2.2.2.2.2.1) w v0 307 h307 dL_isSo_307 ?_
    refine j_if_ne C 308 315 dL_isSo_308 (by decide) (fun c308 => ?_) (fun c308 => ?_)
    · refine j_dconst0 C 311 dL_isSo_311 ?_
      refine j_goto C 312 324 dL_isSo_312 (by decide) ?_
      refine j_L (L' := [(0, .ref (G.2.2 0)), (1, .ref (G.2.2 (114 + 0))), (2, .ref (G.2.2 (114 + (1 + 0)))), (3, .ref (G.2.2 (114 + (2 + 0)))), (4, .ref (G.2.2 (114 + (3 + 0)))), (5, .ref (G.2.2 (114 + (4 + 0))))]) [1, 2, 3, 4, 5, 6] rfl ?_
      exact wb_L_isSo_324 C hr (T.mono (a := 3) (z := 18) (by decide) (by decide)) u v0 FP.dconst0 x302
    · refine j_aload_n C 315 2 rfl dL_isSo_315 ?_
      refine j_iconst (v := 1) C 316 dL_isSo_316 rfl ?_
      refine j_bind (fun x317 h317 => ?_)
      refine l_Rw0 C (k := 0) (nG_0 C.2.2.2.2.2.2.1) w v0 317 h317 dL_isSo_317 ?_
      refine j_i2d C 318 dL_isSo_318 ?_
      refine j_aload_n C 319 2 rfl dL_isSo_319 ?_
      refine j_iconst (v := 0) C 320 dL_isSo_320 rfl ?_
      refine j_bind (fun x321 h321 => ?_)
      refine l_Rw0 C (k := 0) (nG_0 C.2.2.2.2.2.2.1) w v0 321 h321 dL_isSo_321 ?_
      refine j_i2d C 322 dL_isSo_322 ?_
      refine j_bind (fun x323 h323 => ?_)
      refine j_ddiv C 323 h323 dL_isSo_323 ?_
      refine j_L (L' := [(0, .ref (G.2.2 0)), (1, .ref (G.2.2 (114 + 0))), (2, .ref (G.2.2 (114 + (1 + 0)))), (3, .ref (G.2.2 (114 + (2 + 0)))), (4, .ref (G.2.2 (114 + (3 + 0)))), (5, .ref (G.2.2 (114 + (4 + 0))))]) [1, 2, 3, 4, 5, 6] rfl ?_
      exact wb_L_isSo_324 C hr (T.mono (a := 3) (z := 18) (by decide) (by decide)) u v0 x323 x302
set_option maxRecDepth 100000 in
set_option maxHeartbeats 4000000 in
theorem wl_L_isSo_9 {G : GG} {X : WX} {sa : Nat → Nat} {KB ZB : Nat} {w : VW} (C : Cx G 11 X RL cL_isSo 11) (hr : (xM X).sig.returnType = (some .boolean)) (T : TB G sa KB ZB X 3 18) (u : VC) (v0 : VRw) : ∀ (n : Nat) (s6 : Int32) (s7 : Int32) (s8 : Int32), JS G 11 X (QB G X KB ZB (fun x : Int32 => some (.int x)) (fun x : Int32 => ((u, sRw w 0 v0) : VA))) (l_L_isSo_9 u v0 n s6 s7 s8) (u, sRw w 0 v0) 9 [(0, .ref (G.2.2 0)), (1, .ref (G.2.2 (114 + 0))), (2, .ref (G.2.2 (114 + (1 + 0)))), (3, .ref (G.2.2 (114 + (2 + 0)))), (4, .ref (G.2.2 (114 + (3 + 0)))), (5, .ref (G.2.2 (114 + (4 + 0)))), (6, .int s6), (7, .int s7), (8, .int s8)] [] := by
  intro n
  induction n with
  | zero => intro _ _ _; exact j_none
  | succ n ih =>
    intro s6 s7 s8
    unfold l_L_isSo_9
    refine j_iload C 9 8 rfl dL_isSo_9 ?_
    refine j_iconst (v := 4) C 11 dL_isSo_11 rfl ?_
    refine j_icmp_ge C 12 149 dL_isSo_12 (by decide) (fun c12 => ?_) (fun c12 => ?_)
    · refine j_aload_n C 15 2 rfl dL_isSo_15 ?_
      refine j_bipush (v := 8) C 16 dL_isSo_16 rfl ?_
      refine j_iload C 18 8 rfl dL_isSo_18 ?_
      refine j_imul C 20 dL_isSo_20 ?_
      refine j_bind (fun x21 h21 => ?_)
      refine l_Rw1 C (k := 0) (nG_0 C.2.2.2.2.2.2.1) w v0 21 h21 dL_isSo_21 ?_
      refine j_if_le C 22 29 dL_isSo_22 (by decide) (fun c22 => ?_) (fun c22 => ?_)
      · refine j_iconst (v := 1) C 25 dL_isSo_25 rfl ?_
        refine j_goto C 26 30 dL_isSo_26 (by decide) ?_
        exact wb_L_isSo_30 C hr (T.mono (a := 3) (z := 18) (by decide) (by decide)) u v0 _ ih s6 s7 s8 1
      · refine j_iconst (v := 0) C 29 dL_isSo_29 rfl ?_
        exact wb_L_isSo_30 C hr (T.mono (a := 3) (z := 18) (by decide) (by decide)) u v0 _ ih s6 s7 s8 0
    · refine j_aload_n C 149 0 rfl dL_isSo_149 ?_
      refine j_iconst (v := 0) C 150 dL_isSo_150 rfl ?_
      refine j_bind (fun x151 h151 => ?_)
      refine j_vSp_i (As := [.int 0]) (st := []) C k_X5_count 151 (cn_X5_count C.2.2.2.2.2.2.1 _ _ (nth_in h151)) rfl rfl ml_L_133 ii_X5_count is_X5_count dL_isSo_151 (by decide) rfl (Nat.le_of_ble_eq_true rfl) ?_ rfl
      refine j_iload C 154 6 rfl dL_isSo_154 ?_
      refine j_icmp_ne C 156 293 dL_isSo_156 (by decide) (fun c156 => ?_) (fun c156 => ?_)
      · refine j_aload_n C 159 0 rfl dL_isSo_159 ?_
        refine j_iconst (v := 1) C 160 dL_isSo_160 rfl ?_
        refine j_bind (fun x161 h161 => ?_)
        refine j_vSp_i (As := [.int 1]) (st := []) C k_X5_count 161 (cn_X5_count C.2.2.2.2.2.2.1 _ _ (nth_in h161)) rfl rfl ml_L_133 ii_X5_count is_X5_count dL_isSo_161 (by decide) rfl (Nat.le_of_ble_eq_true rfl) ?_ rfl
        refine j_iload C 164 7 rfl dL_isSo_164 ?_
        refine j_icmp_ne C 166 293 dL_isSo_166 (by decide) (fun c166 => ?_) (fun c166 => ?_)
        · refine j_aload_n C 169 0 rfl dL_isSo_169 ?_
          refine j_iconst (v := 2) C 170 dL_isSo_170 rfl ?_
          refine j_bind (fun x171 h171 => ?_)
          refine j_vSp_i (As := [.int 2]) (st := []) C k_X5_count 171 (cn_X5_count C.2.2.2.2.2.2.1 _ _ (nth_in h171)) rfl rfl ml_L_133 ii_X5_count is_X5_count dL_isSo_171 (by decide) rfl (Nat.le_of_ble_eq_true rfl) ?_ rfl
          refine j_aload_n C 174 1 rfl dL_isSo_174 ?_
          refine j_iconst (v := 0) C 175 dL_isSo_175 rfl ?_
          refine j_bind (fun x176 h176 => ?_)
          refine l_Rw0 C (k := 0) (nG_0 C.2.2.2.2.2.2.1) w v0 176 h176 dL_isSo_176 ?_
          refine j_icmp_ne C 177 293 dL_isSo_177 (by decide) (fun c177 => ?_) (fun c177 => ?_)
          · refine j_aload_n C 180 0 rfl dL_isSo_180 ?_
            refine j_iconst (v := 3) C 181 dL_isSo_181 rfl ?_
            refine j_bind (fun x182 h182 => ?_)
            refine j_vSp_i (As := [.int 3]) (st := []) C k_X5_count 182 (cn_X5_count C.2.2.2.2.2.2.1 _ _ (nth_in h182)) rfl rfl ml_L_133 ii_X5_count is_X5_count dL_isSo_182 (by decide) rfl (Nat.le_of_ble_eq_true rfl) ?_ rfl
            refine j_aload_n C 185 1 rfl dL_isSo_185 ?_
            refine j_iconst (v := 1) C 186 dL_isSo_186 rfl ?_
            refine j_bind (fun x187 h187 => ?_)
            refine l_Rw0 C (k := 0) (nG_0 C.2.2.2.2.2.2.1) w v0 187 h187 dL_isSo_187 ?_
            refine j_icmp_ne C 188 293 dL_isSo_188 (by decide) (fun c188 => ?_) (fun c188 => ?_)
            · refine j_aload_n C 191 0 rfl dL_isSo_191 ?_
              refine j_iconst (v := 4) C 192 dL_isSo_192 rfl ?_
              refine j_bind (fun x193 h193 => ?_)
              refine j_vSp_i (As := [.int 4]) (st := []) C k_X5_count 193 (cn_X5_count C.2.2.2.2.2.2.1 _ _ (nth_in h193)) rfl rfl ml_L_133 ii_X5_count is_X5_count dL_isSo_193 (by decide) rfl (Nat.le_of_ble_eq_true rfl) ?_ rfl
              refine j_aload_n C 196 1 rfl dL_isSo_196 ?_
              refine j_iconst (v := 2) C 197 dL_isSo_197 rfl ?_
              refine j_bind (fun x198 h198 => ?_)
              refine l_Rw0 C (k := 0) (nG_0 C.2.2.2.2.2.2.1) w v0 198 h198 dL_isSo_198 ?_
              refine j_icmp_ne C 199 293 dL_isSo_199 (by decide) (fun c199 => ?_) (fun c199 => ?_)
              · refine j_aload_n C 202 0 rfl dL_isSo_202 ?_
                refine j_iconst (v := 5) C 203 dL_isSo_203 rfl ?_
                refine j_bind (fun x204 h204 => ?_)
                refine j_vSp_i (As := [.int 5]) (st := []) C k_X5_count 204 (cn_X5_count C.2.2.2.2.2.2.1 _ _ (nth_in h204)) rfl rfl ml_L_133 ii_X5_count is_X5_count dL_isSo_204 (by decide) rfl (Nat.le_of_ble_eq_true rfl) ?_ rfl
                refine j_aload_n C 207 1 rfl dL_isSo_207 ?_
                refine j_iconst (v := 3) C 208 dL_isSo_208 rfl ?_
                refine j_bind (fun x209 h209 => ?_)
                refine l_Rw0 C (k := 0) (nG_0 C.2.2.2.2.2.2.1) w v0 209 h209 dL_isSo_209 ?_
                refine j_icmp_ne C 210 293 dL_isSo_210 (by decide) (fun c210 => ?_) (fun c210 => ?_)
                · refine j_aload_n C 213 0 rfl dL_isSo_213 ?_
                  refine j_bipush (v := 6) C 214 dL_isSo_214 rfl ?_
                  refine j_bind (fun x216 h216 => ?_)
                  refine j_vSp_i (As := [.int 6]) (st := []) C k_X5_count 216 (cn_X5_count C.2.2.2.2.2.2.1 _ _ (nth_in h216)) rfl rfl ml_L_133 ii_X5_count is_X5_count dL_isSo_216 (by decide) rfl (Nat.le_of_ble_eq_true rfl) ?_ rfl
                  refine j_aload_n C 219 1 rfl dL_isSo_219 ?_
                  refine j_iconst (v := 4) C 220 dL_isSo_220 rfl ?_
                  refine j_bind (fun x221 h221 => ?_)
                  refine l_Rw0 C (k := 0) (nG_0 C.2.2.2.2.2.2.1) w v0 221 h221 dL_isSo_221 ?_
                  refine j_icmp_ne C 222 293 dL_isSo_222 (by decide) (fun c222 => ?_) (fun c222 => ?_)
                  · refine j_aload_n C 225 0 rfl dL_isSo_225 ?_
                    refine j_bipush (v := 7) C 226 dL_isSo_226 rfl ?_
                    refine j_bind (fun x228 h228 => ?_)
                    refine j_vSp_i (As := [.int 7]) (st := []) C k_X5_count 228 (cn_X5_count C.2.2.2.2.2.2.1 _ _ (nth_in h228)) rfl rfl ml_L_133 ii_X5_count is_X5_count dL_isSo_228 (by decide) rfl (Nat.le_of_ble_eq_true rfl) ?_ rfl
                    refine j_aload_n C 231 1 rfl dL_isSo_231 ?_
                    refine j_iconst (v := 5) C 232 dL_isSo_232 rfl ?_
                    refine j_bind (fun x233 h233 => ?_)
                    refine l_Rw0 C (k := 0) (nG_0 C.2.2.2.2.2.2.1) w v0 233 h233 dL_isSo_233 ?_
                    refine j_icmp_ne C 234 293 dL_isSo_234 (by decide) (fun c234 => ?_) (fun c234 => ?_)
                    · refine j_aload_n C 237 0 rfl dL_isSo_237 ?_
                      refine j_bipush (v := 9) C 238 dL_isSo_238 rfl ?_
                      refine j_bind (fun x240 h240 => ?_)
                      refine j_vSp_i (As := [.int 9]) (st := []) C k_X5_count 240 (cn_X5_count C.2.2.2.2.2.2.1 _ _ (nth_in h240)) rfl rfl ml_L_133 ii_X5_count is_X5_count dL_isSo_240 (by decide) rfl (Nat.le_of_ble_eq_true rfl) ?_ rfl
                      refine j_aload_n C 243 1 rfl dL_isSo_243 ?_
                      refine j_bipush (v := 6) C 244 dL_isSo_244 rfl ?_
                      refine j_bind (fun x246 h246 => ?_)
                      refine l_Rw0 C (k := 0) (nG_0 C.2.2.2.2.2.2.1) w v0 246 h246 dL_isSo_246 ?_
                      refine j_icmp_ne C 247 293 dL_isSo_247 (by decide) (fun c247 => ?_) (fun c247 => ?_)
                      · refine j_aload_n C 250 0 rfl dL_isSo_250 ?_
                        refine j_iconst (v := 0) C 251 dL_isSo_251 rfl ?_
                        refine j_bind (fun x252 h252 => ?_)
                        refine j_vSp_i (As := [.int 0]) (st := []) C k_X5_setting 252 (cn_X5_setting C.2.2.2.2.2.2.1 _ _ (nth_in h252)) rfl rfl ml_L_140 ii_X5_setting is_X5_setting dL_isSo_252 (by decide) rfl (Nat.le_of_ble_eq_true rfl) ?_ rfl
                        refine j_aload_n C 255 1 rfl dL_isSo_255 ?_
                        refine j_bipush (v := 7) C 256 dL_isSo_256 rfl ?_
                        refine j_bind (fun x258 h258 => ?_)
                        refine l_Rw0 C (k := 0) (nG_0 C.2.2.2.2.2.2.1) w v0 258 h258 dL_isSo_258 ?_
                        refine j_icmp_ne C 259 293 dL_isSo_259 (by decide) (fun c259 => ?_) (fun c259 => ?_)
                        · refine j_aload_n C 262 0 rfl dL_isSo_262 ?_
                          refine j_iconst (v := 1) C 263 dL_isSo_263 rfl ?_
                          refine j_bind (fun x264 h264 => ?_)
                          refine j_vSp_i (As := [.int 1]) (st := []) C k_X5_setting 264 (cn_X5_setting C.2.2.2.2.2.2.1 _ _ (nth_in h264)) rfl rfl ml_L_140 ii_X5_setting is_X5_setting dL_isSo_264 (by decide) rfl (Nat.le_of_ble_eq_true rfl) ?_ rfl
                          refine j_aload_n C 267 1 rfl dL_isSo_267 ?_
                          refine j_bipush (v := 8) C 268 dL_isSo_268 rfl ?_
                          refine j_bind (fun x270 h270 => ?_)
                          refine l_Rw0 C (k := 0) (nG_0 C.2.2.2.2.2.2.1) w v0 270 h270 dL_isSo_270 ?_
                          refine j_icmp_ne C 271 293 dL_isSo_271 (by decide) (fun c271 => ?_) (fun c271 => ?_)
                          · refine j_aload_n C 274 0 rfl dL_isSo_274 ?_
                            refine j_bind (fun x275 h275 => ?_)
                            refine j_vSp_i (As := []) (st := []) C k_X5_why 275 (c_X5_why C.2.2.2.2.2.2.1 _ h275) rfl rfl ml_L_143 ii_X5_why is_X5_why dL_isSo_275 (by decide) rfl (Nat.le_of_ble_eq_true rfl) ?_ rfl
                            refine j_aload_n C 278 2 rfl dL_isSo_278 ?_
                            refine j_aload_n C 279 1 rfl dL_isSo_279 ?_
                            refine j_bipush (v := 7) C 280 dL_isSo_280 rfl ?_
                            refine j_bind (fun x282 h282 => ?_)
                            refine l_Rw0 C (k := 0) (nG_0 C.2.2.2.2.2.2.1) w v0 282 h282 dL_isSo_282 ?_
                            refine j_bind (fun x283 h283 => ?_)
                            refine j_callS_i (As := [.ref (G.2.2 (114 + (1 + 0))), .int x282]) (st := [.int x275]) C k_L_why 283 (c_L_why C.2.2.2.2.2.2.1 (c := u) (w := (sRw w 0 v0)) _ _ (114 + (1 + 0)) (nG_lt C.2.2.2.2.2.2.1 (by omega)) (a_Rw1 u w 0 v0) _ h283) rfl ml_L_95 st_L_why dL_isSo_283 (by decide) rfl (Nat.le_of_ble_eq_true rfl) ?_ rfl
                            refine j_icmp_ne C 286 293 dL_isSo_286 (by decide) (fun c286 => ?_) (fun c286 => ?_)
                            · refine j_iconst (v := 1) C 289 dL_isSo_289 rfl ?_
                              refine j_goto C 290 294 dL_isSo_290 (by decide) ?_
                              refine j_L (L' := [(0, .ref (G.2.2 0)), (1, .ref (G.2.2 (114 + 0))), (2, .ref (G.2.2 (114 + (1 + 0)))), (3, .ref (G.2.2 (114 + (2 + 0)))), (4, .ref (G.2.2 (114 + (3 + 0)))), (5, .ref (G.2.2 (114 + (4 + 0))))]) [0, 1, 2, 3, 4, 5] rfl ?_
                              exact wb_L_isSo_294 C hr (T.mono (a := 3) (z := 18) (by decide) (by decide)) u v0 1
                            · refine j_iconst (v := 0) C 293 dL_isSo_293 rfl ?_
                              refine j_L (L' := [(0, .ref (G.2.2 0)), (1, .ref (G.2.2 (114 + 0))), (2, .ref (G.2.2 (114 + (1 + 0)))), (3, .ref (G.2.2 (114 + (2 + 0)))), (4, .ref (G.2.2 (114 + (3 + 0)))), (5, .ref (G.2.2 (114 + (4 + 0))))]) [0, 1, 2, 3, 4, 5] rfl ?_
                              exact wb_L_isSo_294 C hr (T.mono (a := 3) (z := 18) (by decide) (by decide)) u v0 0
                          · refine j_iconst (v := 0) C 293 dL_isSo_293 rfl ?_
                            refine j_L (L' := [(0, .ref (G.2.2 0)), (1, .ref (G.2.2 (114 + 0))), (2, .ref (G.2.2 (114 + (1 + 0)))), (3, .ref (G.2.2 (114 + (2 + 0)))), (4, .ref (G.2.2 (114 + (3 + 0)))), (5, .ref (G.2.2 (114 + (4 + 0))))]) [0, 1, 2, 3, 4, 5] rfl ?_
                            exact wb_L_isSo_294 C hr (T.mono (a := 3) (z := 18) (by decide) (by decide)) u v0 0
                        · refine j_iconst (v := 0) C 293 dL_isSo_293 rfl ?_
                          refine j_L (L' := [(0, .ref (G.2.2 0)), (1, .ref (G.2.2 (114 + 0))), (2, .ref (G.2.2 (114 + (1 + 0)))), (3, .ref (G.2.2 (114 + (2 + 0)))), (4, .ref (G.2.2 (114 + (3 + 0)))), (5, .ref (G.2.2 (114 + (4 + 0))))]) [0, 1, 2, 3, 4, 5] rfl ?_
                          exact wb_L_isSo_294 C hr (T.mono (a := 3) (z := 18) (by decide) (by decide)) u v0 0
                      · refine j_iconst (v := 0) C 293 dL_isSo_293 rfl ?_
                        refine j_L (L' := [(0, .ref (G.2.2 0)), (1, .ref (G.2.2 (114 + 0))), (2, .ref (G.2.2 (114 + (1 + 0)))), (3, .ref (G.2.2 (114 + (2 + 0)))), (4, .ref (G.2.2 (114 + (3 + 0)))), (5, .ref (G.2.2 (114 + (4 + 0))))]) [0, 1, 2, 3, 4, 5] rfl ?_
                        exact wb_L_isSo_294 C hr (T.mono (a := 3) (z := 18) (by decide) (by decide)) u v0 0
                    · refine j_iconst (v := 0) C 293 dL_isSo_293 rfl ?_
                      refine j_L (L' := [(0, .ref (G.2.2 0)), (1, .ref (G.2.2 (114 + 0))), (2, .ref (G.2.2 (114 + (1 + 0)))), (3, .ref (G.2.2 (114 + (2 + 0)))), (4, .ref (G.2.2 (114 + (3 + 0)))), (5, .ref (G.2.2 (114 + (4 + 0))))]) [0, 1, 2, 3, 4, 5] rfl ?_
                      exact wb_L_isSo_294 C hr (T.mono (a := 3) (z := 18) (by decide) (by decide)) u v0 0
                  · refine j_iconst (v := 0) C 293 dL_isSo_293 rfl ?_
                    refine j_L (L' := [(0, .ref (G.2.2 0)), (1, .ref (G.2.2 (114 + 0))), (2, .ref (G.2.2 (114 + (1 + 0)))), (3, .ref (G.2.2 (114 + (2 + 0)))), (4, .ref (G.2.2 (114 + (3 + 0)))), (5, .ref (G.2.2 (114 + (4 + 0))))]) [0, 1, 2, 3, 4, 5] rfl ?_
                    exact wb_L_isSo_294 C hr (T.mono (a := 3) (z := 18) (by decide) (by decide)) u v0 0
                · refine j_iconst (v := 0) C 293 dL_isSo_293 rfl ?_
                  refine j_L (L' := [(0, .ref (G.2.2 0)), (1, .ref (G.2.2 (114 + 0))), (2, .ref (G.2.2 (114 + (1 + 0)))), (3, .ref (G.2.2 (114 + (2 + 0)))), (4, .ref (G.2.2 (114 + (3 + 0)))), (5, .ref (G.2.2 (114 + (4 + 0))))]) [0, 1, 2, 3, 4, 5] rfl ?_
                  exact wb_L_isSo_294 C hr (T.mono (a := 3) (z := 18) (by decide) (by decide)) u v0 0
              · refine j_iconst (v := 0) C 293 dL_isSo_293 rfl ?_
                refine j_L (L' := [(0, .ref (G.2.2 0)), (1, .ref (G.2.2 (114 + 0))), (2, .ref (G.2.2 (114 + (1 + 0)))), (3, .ref (G.2.2 (114 + (2 + 0)))), (4, .ref (G.2.2 (114 + (3 + 0)))), (5, .ref (G.2.2 (114 + (4 + 0))))]) [0, 1, 2, 3, 4, 5] rfl ?_
                exact wb_L_isSo_294 C hr (T.mono (a := 3) (z := 18) (by decide) (by decide)) u v0 0
            · refine j_iconst (v := 0) C 293 dL_isSo_293 rfl ?_
              refine j_L (L' := [(0, .ref (G.2.2 0)), (1, .ref (G.2.2 (114 + 0))), (2, .ref (G.2.2 (114 + (1 + 0)))), (3, .ref (G.2.2 (114 + (2 + 0)))), (4, .ref (G.2.2 (114 + (3 + 0)))), (5, .ref (G.2.2 (114 + (4 + 0))))]) [0, 1, 2, 3, 4, 5] rfl ?_
              exact wb_L_isSo_294 C hr (T.mono (a := 3) (z := 18) (by decide) (by decide)) u v0 0
          · refine j_iconst (v := 0) C 293 dL_isSo_293 rfl ?_
            refine j_L (L' := [(0, .ref (G.2.2 0)), (1, .ref (G.2.2 (114 + 0))), (2, .ref (G.2.2 (114 + (1 + 0)))), (3, .ref (G.2.2 (114 + (2 + 0)))), (4, .ref (G.2.2 (114 + (3 + 0)))), (5, .ref (G.2.2 (114 + (4 + 0))))]) [0, 1, 2, 3, 4, 5] rfl ?_
            exact wb_L_isSo_294 C hr (T.mono (a := 3) (z := 18) (by decide) (by decide)) u v0 0
        · refine j_iconst (v := 0) C 293 dL_isSo_293 rfl ?_
          refine j_L (L' := [(0, .ref (G.2.2 0)), (1, .ref (G.2.2 (114 + 0))), (2, .ref (G.2.2 (114 + (1 + 0)))), (3, .ref (G.2.2 (114 + (2 + 0)))), (4, .ref (G.2.2 (114 + (3 + 0)))), (5, .ref (G.2.2 (114 + (4 + 0))))]) [0, 1, 2, 3, 4, 5] rfl ?_
          exact wb_L_isSo_294 C hr (T.mono (a := 3) (z := 18) (by decide) (by decide)) u v0 0
      · refine j_iconst (v := 0) C 293 dL_isSo_293 rfl ?_
        refine j_L (L' := [(0, .ref (G.2.2 0)), (1, .ref (G.2.2 (114 + 0))), (2, .ref (G.2.2 (114 + (1 + 0)))), (3, .ref (G.2.2 (114 + (2 + 0)))), (4, .ref (G.2.2 (114 + (3 + 0)))), (5, .ref (G.2.2 (114 + (4 + 0))))]) [0, 1, 2, 3, 4, 5] rfl ?_
        exact wb_L_isSo_294 C hr (T.mono (a := 3) (z := 18) (by decide) (by decide)) u v0 0
set_option maxRecDepth 100000 in
set_option maxHeartbeats 4000000 in
theorem w_L_isSo {G : GG} {X : WX} {sa : Nat → Nat} {KB ZB : Nat} {w : VW} (C : Cx G 11 X RL cL_isSo 11) (hr : (xM X).sig.returnType = (some .boolean)) (T : TB G sa KB ZB X 3 18) (u : VC) (v0 : VRw) : JS G 11 X (QB G X KB ZB (fun x : Int32 => some (.int x)) (fun x : Int32 => ((u, sRw w 0 v0) : VA))) (f_L_isSo u v0) (u, sRw w 0 v0) 0 [(0, .ref (G.2.2 0)), (1, .ref (G.2.2 (114 + 0))), (2, .ref (G.2.2 (114 + (1 + 0)))), (3, .ref (G.2.2 (114 + (2 + 0)))), (4, .ref (G.2.2 (114 + (3 + 0)))), (5, .ref (G.2.2 (114 + (4 + 0))))] [] := by
  unfold f_L_isSo
  refine j_iconst (v := 0) C 0 dL_isSo_0 rfl ?_
  refine j_istore (L1 := [(6, .int 0), (0, .ref (G.2.2 0)), (1, .ref (G.2.2 (114 + 0))), (2, .ref (G.2.2 (114 + (1 + 0)))), (3, .ref (G.2.2 (114 + (2 + 0)))), (4, .ref (G.2.2 (114 + (3 + 0)))), (5, .ref (G.2.2 (114 + (4 + 0))))]) C 1 dL_isSo_1 (by decide) rfl ?_
  refine j_iconst (v := 0) C 3 dL_isSo_3 rfl ?_
  refine j_istore (L1 := [(7, .int 0), (6, .int 0), (0, .ref (G.2.2 0)), (1, .ref (G.2.2 (114 + 0))), (2, .ref (G.2.2 (114 + (1 + 0)))), (3, .ref (G.2.2 (114 + (2 + 0)))), (4, .ref (G.2.2 (114 + (3 + 0)))), (5, .ref (G.2.2 (114 + (4 + 0))))]) C 4 dL_isSo_4 (by decide) rfl ?_
  refine j_iconst (v := 0) C 6 dL_isSo_6 rfl ?_
  refine j_istore (L1 := [(8, .int 0), (7, .int 0), (6, .int 0), (0, .ref (G.2.2 0)), (1, .ref (G.2.2 (114 + 0))), (2, .ref (G.2.2 (114 + (1 + 0)))), (3, .ref (G.2.2 (114 + (2 + 0)))), (4, .ref (G.2.2 (114 + (3 + 0)))), (5, .ref (G.2.2 (114 + (4 + 0))))]) C 7 dL_isSo_7 (by decide) rfl ?_
  refine j_L (L' := [(0, .ref (G.2.2 0)), (1, .ref (G.2.2 (114 + 0))), (2, .ref (G.2.2 (114 + (1 + 0)))), (3, .ref (G.2.2 (114 + (2 + 0)))), (4, .ref (G.2.2 (114 + (3 + 0)))), (5, .ref (G.2.2 (114 + (4 + 0)))), (6, .int 0), (7, .int 0), (8, .int 0)]) [3, 4, 5, 6, 7, 8, 2, 1, 0] rfl ?_
  exact wl_L_isSo_9 C hr (T.mono (a := 3) (z := 18) (by decide) (by decide)) u v0 FU 0 0 0
theorem c_L_isSo {G : GG} {l : Launch} {sa : Nat → Nat} (hG : Gok G) (hl : l.stackTraces = false) {w : VW} (u : VC) (v0 : VRw) {x : Int32} (hf : f_L_isSo u v0 = some x) : CtB l yL_isSo cL_isSo 11 (some .boolean) 11 [.ref (G.2.2 0), .ref (G.2.2 (114 + 0)), .ref (G.2.2 (114 + (1 + 0))), .ref (G.2.2 (114 + (2 + 0))), .ref (G.2.2 (114 + (3 + 0))), .ref (G.2.2 (114 + (4 + 0)))] G sa (u, sRw w 0 v0) (some (.int x)) (u, sRw w 0 v0) 3 18 := by
  refine ctb_of (rv := fun x : Int32 => (some (.int x))) (fin := fun x : Int32 => ((u, sRw w 0 v0) : VA)) (own := RL) hG hl (plainFor_of_name (by decide)) rfl (Nat.le_of_ble_eq_true rfl) (fun X C hr T => ?_) hf
  exact w_L_isSo C hr (T.mono (a := 3) (z := 18) (by decide) (by decide)) u v0
