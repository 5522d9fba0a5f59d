def l_L_sticks_218 : Nat → (VC × VRw) → Int32 → Int32 → Int32 → Int32 → Int32 → Int32 → Option (Int32 × (VC × VRw))
  | 0, _, _, _, _, _, _, _ => none
  | n + 1, v, s7, s9, s10, s11, s12, s13 =>
    if s13 < 32 then (
      (ard 32 v.2.2.1 s13).bind fun x231 =>
      if 0 < x231 then (
        l_L_sticks_218 n v s7 s9 s10 s11 (s12 + 1) (s13 + 8)
      ) else (
        l_L_sticks_218 n v s7 s9 s10 s11 (s12 + 0) (s13 + 8)
      )
    ) else (
      (f_L_plug v.1 s7 s9 s10 s11).bind fun x258 =>
      if x258.1 = s12 then (
        some (1, (x258.2, v.2))
      ) else (
        some (0, (x258.2, v.2))
      )
    )
def l_L_sticks_153 : Nat → (VC × VRw) → Int32 → Int32 → Int32 → Int32 → Int32 → Option (Int32 × (VC × VRw))
  | 0, _, _, _, _, _, _ => none
  | n + 1, v, s7, s9, s10, s11, s12 =>
    if s12 < ((8 * s7) + 8) then (
      (aup 32 v.2.2.1 s12 0).bind fun x171 =>
      l_L_sticks_153 n (v.1, (v.2.1, x171, v.2.2.2)) s7 s9 s10 s11 (s12 + 1)
    ) else (
      (aup 32 v.2.2.1 (8 * s7) s9).bind fun x187 =>
      (aup 32 x187 ((8 * s7) + 1) s10).bind fun x199 =>
      (aup 32 x199 ((8 * s7) + 2) s11).bind fun x211 =>
      l_L_sticks_218 FU (v.1, (v.2.1, x211, v.2.2.2)) s7 s9 s10 s11 0 0
    )
def b_L_sticks_384 (v : (VC × VRw)) (t0 : Int32) (t1 : Int32) : Option (Int32 × (VC × VRw)) :=
  if t1 = t0 then (
    some (1, v)
  ) else (
    some (0, v)
  )
def b_L_sticks_418 (v : (VC × VRw)) (s7 : Int32) : Option (Int32 × (VC × VRw)) :=
  (f_L_fail v.1 s7).bind fun x421 =>
  if x421.1 = (-33) then (
    (f_L_fail x421.2 (-1)).bind fun x431 =>
    if x431.1 = (-31) then (
      some (1, (x431.2, v.2))
    ) else (
      some (0, (x431.2, v.2))
    )
  ) else (
    some (0, (x421.2, v.2))
  )
def b_L_sticks_481 (v : (VC × VRw)) (t0 : Int32) (t1 : Int32) : Option (Int32 × (VC × VRw)) :=
  if t1 = t0 then (
    some (1, v)
  ) else (
    some (0, v)
  )
def f_L_sticks (v : (VC × VRw)) (a1 : Int32) (a2 : Int32) : Option (Int32 × (VC × VRw)) :=
  (f_L_low a2 4).bind fun x2 =>
  (f_L_low a1 4).bind fun x9 =>
  if x9 < 2 then (
    (f_L_low ((a2 >>> ((2 : Int32) &&& 31)) : Int32) 12).bind fun x26 =>
    (f_L_low ((a2 >>> ((7 : Int32) &&& 31)) : Int32) 9).bind fun x49 =>
    (ard 32 v.2.2.1 (8 * x2)).bind fun x62 =>
    if 0 < x62 then (
      (f_L_plug v.1 x2 (1 + x26) (1 + (((a2 >>> ((6 : Int32) &&& 31)) : Int32) &&& 1)) (1 + x49)).bind fun x75 =>
      if x75.1 = (-33) then (
        (f_L_plug x75.2 4 0 1 1).bind fun x88 =>
        if x88.1 = (-31) then (
          (f_L_plug x88.2 x2 13 1 1).bind fun x103 =>
          if x103.1 = (-32) then (
            (f_L_plug x103.2 x2 1 3 1).bind fun x117 =>
            if x117.1 = (-32) then (
              (f_L_plug x117.2 x2 1 1 10).bind fun x132 =>
              if x132.1 = (-32) then (
                some (1, (x132.2, v.2))
              ) else (
                some (0, (x132.2, v.2))
              )
            ) else (
              some (0, (x117.2, v.2))
            )
          ) else (
            some (0, (x103.2, v.2))
          )
        ) else (
          some (0, (x88.2, v.2))
        )
      ) else (
        some (0, (x75.2, v.2))
      )
    ) else (
      l_L_sticks_153 FU v x2 (1 + x26) (1 + (((a2 >>> ((6 : Int32) &&& 31)) : Int32) &&& 1)) (1 + x49) (8 * x2)
    )
  ) else (
    (f_L_isLeft 32 v.2.2.1 (12 * x2)).bind fun x279 =>
    if x9 = 2 then (
      (ard 32 v.2.2.1 (8 * x2)).bind fun x297 =>
      if x297 = 0 then (
        (f_L_pull v.1 x2).bind fun x304 =>
        if x304.1 = (-33) then (
          (f_L_pull x304.2 4).bind fun x314 =>
          if x314.1 = (-31) then (
            some (1, (x314.2, v.2))
          ) else (
            some (0, (x314.2, v.2))
          )
        ) else (
          some (0, (x304.2, v.2))
        )
      ) else (
        (aup 32 v.2.2.1 (8 * x2) 0).bind fun x336 =>
        (aup 32 x336 ((8 * x2) + 3) 0).bind fun x347 =>
        (aup 32 x347 ((8 * x2) + 4) 0).bind fun x358 =>
        (f_L_pull v.1 x2).bind fun x362 =>
        if x279 = 0 then (
          b_L_sticks_384 (x362.2, (v.2.1, x358, v.2.2.2)) 0 x362.1
        ) else (
          (f_L_used 10 v.2.1 48 v.2.2.2.1 48 v.2.2.2.2.1 x2).bind fun x377 =>
          b_L_sticks_384 (x362.2, (v.2.1, x358, v.2.2.2)) x377 x362.1
        )
      )
    ) else (
      (ard 32 v.2.2.1 (8 * x2)).bind fun x400 =>
      if x400 = 0 then (
        b_L_sticks_418 v x2
      ) else (
        (ard 32 v.2.2.1 ((8 * x2) + 3)).bind fun x413 =>
        if x413 = 1 then (
          b_L_sticks_418 v x2
        ) else (
          (aup 32 v.2.2.1 ((8 * x2) + 3) 1).bind fun x455 =>
          (f_L_fail v.1 x2).bind fun x459 =>
          if x279 = 0 then (
            b_L_sticks_481 (x459.2, (v.2.1, x455, v.2.2.2)) 0 x459.1
          ) else (
            (f_L_used 10 v.2.1 48 v.2.2.2.1 48 v.2.2.2.2.1 x2).bind fun x474 =>
            b_L_sticks_481 (x459.2, (v.2.1, x455, v.2.2.2)) x474 x459.1
          )
        )
      )
    )
  )
def l_L_act_187 : Nat → (VC × VRw) → Int32 → Int32 → Option (Int32 × (VC × VRw))
  | 0, _, _, _ => none
  | n + 1, v, s10, s11 =>
    if s11 < 48 then (
      (aup 48 v.2.2.2.1 s11 (-1)).bind fun x199 =>
      (aup 48 v.2.2.2.2.1 s11 (-1)).bind fun x205 =>
      l_L_act_187 n (v.1, (v.2.1, v.2.2.1, x199, x205, v.2.2.2.2.2)) s10 (s11 + 1)
    ) else (
      (f_L_stop v.1).bind fun x213 =>
      if x213.1 = s10 then (
        some (1, (x213.2, v.2))
      ) else (
        some (0, (x213.2, v.2))
      )
    )
def l_L_act_163 : Nat → (VC × VRw) → Int32 → Int32 → Option (Int32 × (VC × VRw))
  | 0, _, _, _ => none
  | n + 1, v, s10, s11 =>
    if s11 < 32 then (
      (aup 32 v.2.2.1 (s11 + 4) 0).bind fun x177 =>
      l_L_act_163 n (v.1, (v.2.1, x177, v.2.2.2)) s10 (s11 + 8)
    ) else (
      l_L_act_187 FU v s10 0
    )
def b_L_act_373 (v : (VC × VRw)) (s9 : Int32) (s10 : Int32) (s11 : Int32) : Option (Int32 × (VC × VRw)) :=
  (f_L_write v.1 s9 s10).bind fun x378 =>
  if x378.1 = s11 then (
    some (1, (x378.2, v.2))
  ) else (
    some (0, (x378.2, v.2))
  )
def b_L_act_227 (v : (VC × VRw)) (s2 : Int32) (s8 : Int32) (s9 : Int32) : Option (Int32 × (VC × VRw)) :=
  if s8 < 6 then (
    (f_L_low ((s2 >>> ((6 : Int32) &&& 31)) : Int32) 100).bind fun x240 =>
    (ard 10 v.2.1 0).bind fun x249 =>
    if s9 < x249 then (
      (f_L_can 32 v.2.2.1 48 v.2.2.2.1 48 v.2.2.2.2.1 s9).bind fun x291 =>
      if x291 = 0 then (
        (f_L_write v.1 s9 x240).bind fun x302 =>
        if x302.1 = (-33) then (
          (f_L_write x302.2 s9 100).bind fun x315 =>
          if x315.1 = (-32) then (
            some (1, (x315.2, v.2))
          ) else (
            some (0, (x315.2, v.2))
          )
        ) else (
          some (0, (x302.2, v.2))
        )
      ) else (
        (f_L_readAt 32 v.2.2.1 48 v.2.2.2.1 48 v.2.2.2.2.1 s9).bind fun x339 =>
        (ard 48 v.2.2.2.2.2 x339).bind fun x342 =>
        (ard 48 v.2.2.2.1 s9).bind fun x351 =>
        (aup 48 v.2.2.2.2.2 x351 x240).bind fun x354 =>
        (ard 48 v.2.2.2.2.1 s9).bind fun x359 =>
        if x359 < 0 then (
          b_L_act_373 (v.1, (v.2.1, v.2.2.1, v.2.2.2.1, v.2.2.2.2.1, x354)) s9 x240 x342
        ) else (
          (ard 48 v.2.2.2.2.1 s9).bind fun x369 =>
          (aup 48 x354 x369 x240).bind fun x372 =>
          b_L_act_373 (v.1, (v.2.1, v.2.2.1, v.2.2.2.1, v.2.2.2.2.1, x372)) s9 x240 x342
        )
      )
    ) else (
      (f_L_write v.1 s9 100).bind fun x258 =>
      if x258.1 = (-31) then (
        (f_L_write x258.2 (-1) 0).bind fun x269 =>
        if x269.1 = (-31) then (
          some (1, (x269.2, v.2))
        ) else (
          some (0, (x269.2, v.2))
        )
      ) else (
        some (0, (x258.2, v.2))
      )
    )
  ) else (
    if s8 < 10 then (
      (ard 10 v.2.1 0).bind fun x403 =>
      if s9 < x403 then (
        (f_L_can 32 v.2.2.1 48 v.2.2.2.1 48 v.2.2.2.2.1 s9).bind fun x432 =>
        if x432 = 0 then (
          (f_L_read v.1 s9).bind fun x441 =>
          if x441.1 = (-33) then (
            some (1, (x441.2, v.2))
          ) else (
            some (0, (x441.2, v.2))
          )
        ) else (
          (f_L_reads v.2 s9 0).bind fun x465 =>
          (f_L_read v.1 s9).bind fun x471 =>
          (f_L_readAt 32 x465.2.1 48 x465.2.2.1 48 x465.2.2.2.1 s9).bind fun x484 =>
          (ard 48 x465.2.2.2.2 x484).bind fun x487 =>
          if x471.1 = x487 then (
            some (1, (x471.2, x465))
          ) else (
            some (0, (x471.2, x465))
          )
        )
      ) else (
        (f_L_read v.1 s9).bind fun x410 =>
        if x410.1 = (-31) then (
          some (1, (x410.2, v.2))
        ) else (
          some (0, (x410.2, v.2))
        )
      )
    ) else (
      if s8 = 10 then (
        (f_L_low s2 12).bind fun x508 =>
        (ard 10 v.2.1 2).bind fun x517 =>
        (aup 10 v.2.1 2 (x517 + (1 + x508))).bind fun x521 =>
        (f_L_rest v.1 (1 + x508)).bind fun x525 =>
        (ard 10 x521 2).bind fun x530 =>
        if x525.1 = x530 then (
          (f_L_rest x525.2 0).bind fun x536 =>
          if x536.1 = (-32) then (
            (f_L_rest x536.2 100).bind fun x547 =>
            if x547.1 = (-32) then (
              some (1, (x547.2, (x521, v.2.2)))
            ) else (
              some (0, (x547.2, (x521, v.2.2)))
            )
          ) else (
            some (0, (x536.2, (x521, v.2.2)))
          )
        ) else (
          some (0, (x525.2, (x521, v.2.2)))
        )
      ) else (
        (ard 10 v.2.1 (7 + (s2 &&& 1))).bind fun x572 =>
        (f_L_low ((s2 >>> ((1 : Int32) &&& 31)) : Int32) (3 - (s2 &&& 1))).bind fun x588 =>
        (aup 10 v.2.1 (7 + (s2 &&& 1)) x588).bind fun x591 =>
        (ard 10 x591 (7 + (s2 &&& 1))).bind fun x601 =>
        (f_L_set v.1 (s2 &&& 1) x601).bind fun x602 =>
        if x602.1 = x572 then (
          (f_L_set x602.2 1 2).bind fun x613 =>
          if x613.1 = (-32) then (
            (f_L_set x613.2 2 0).bind fun x624 =>
            if x624.1 = (-31) then (
              some (1, (x624.2, (x591, v.2.2)))
            ) else (
              some (0, (x624.2, (x591, v.2.2)))
            )
          ) else (
            some (0, (x613.2, (x591, v.2.2)))
          )
        ) else (
          some (0, (x602.2, (x591, v.2.2)))
        )
      )
    )
  )
def b_L_act_29 (v : (VC × VRw)) (s2 : Int32) (s8 : Int32) (t0 : Int32) (t1 : Int32) : Option (Int32 × (VC × VRw)) :=
  (f_L_low t1 t0).bind fun x29 =>
  if s8 < 2 then (
    (ard 10 v.2.1 7).bind fun x45 =>
    (f_L_why 32 v.2.2.1 x45).bind fun x46 =>
    if 0 < x46 then (
      (f_L_start v.1).bind fun x53 =>
      if x53.1 = (-33) then (
        some (1, (x53.2, v.2))
      ) else (
        some (0, (x53.2, v.2))
      )
    ) else (
      (ard 10 v.2.1 7).bind fun x79 =>
      (f_L_make v.2 x79).bind fun x80 =>
      (ard 10 x80.1 6).bind fun x87 =>
      (aup 10 x80.1 6 (x87 + 1)).bind fun x90 =>
      (f_L_start v.1).bind fun x92 =>
      (ard 10 x90 0).bind fun x97 =>
      if x92.1 = x97 then (
        some (1, (x92.2, (x90, x80.2)))
      ) else (
        some (0, (x92.2, (x90, x80.2)))
      )
    )
  ) else (
    if s8 = 2 then (
      if (s2 &&& 7) = 0 then (
        (ard 10 v.2.1 9).bind fun x123 =>
        if x123 < 0 then (
          (f_L_stop v.1).bind fun x128 =>
          if x128.1 = (-33) then (
            some (1, (x128.2, v.2))
          ) else (
            some (0, (x128.2, v.2))
          )
        ) else (
          (ard 10 v.2.1 0).bind fun x144 =>
          (aup 10 v.2.1 0 0).bind fun x150 =>
          (aup 10 x150 1 0).bind fun x154 =>
          (aup 10 x154 9 (-1)).bind fun x159 =>
          l_L_act_163 FU (v.1, (x159, v.2.2)) x144 0
        )
      ) else (
        b_L_act_227 v s2 s8 x29
      )
    ) else (
      b_L_act_227 v s2 s8 x29
    )
  )
def f_L_act (v : (VC × VRw)) (a1 : Int32) (a2 : Int32) : Option (Int32 × (VC × VRw)) :=
  (f_L_low a1 12).bind fun x3 =>
  if (((a2 >>> ((12 : Int32) &&& 31)) : Int32) &&& 7) = 0 then (
    b_L_act_29 v a2 x3 48 a2
  ) else (
    (ard 10 v.2.1 0).bind fun x26 =>
    b_L_act_29 v a2 x3 (x26 + 1) a2
  )
set_option maxRecDepth 100000 in
set_option maxHeartbeats 4000000 in
theorem wl_L_sticks_218 {G : GG} {X : WX} {sa : Nat → Nat} {KB ZB : Nat} {w : VW} (C : Cx G 14 X RL cL_sticks 10) (hr : (xM X).sig.returnType = (some .boolean)) (T : TB G sa KB ZB X 1 6) : ∀ (n : Nat) (v : (VC × VRw)) (s7 : Int32) (s9 : Int32) (s10 : Int32) (s11 : Int32) (s12 : Int32) (s13 : Int32), JS G 14 X (QB G X KB ZB (fun x : (Int32 × (VC × VRw)) => some (.int x.1)) (fun x : (Int32 × (VC × VRw)) => ((x.2.1, sRw w 0 x.2.2) : VA))) (l_L_sticks_218 n v s7 s9 s10 s11 s12 s13) (v.1, sRw w 0 v.2) 218 [(0, .ref (G.2.2 0)), (4, .ref (G.2.2 (114 + (1 + 0)))), (7, .int s7), (9, .int s9), (10, .int s10), (11, .int s11), (12, .int s12), (13, .int s13)] [] := by
  intro n
  induction n with
  | zero => intro _ _ _ _ _ _ _; exact j_none
  | succ n ih =>
    intro v s7 s9 s10 s11 s12 s13
    unfold l_L_sticks_218
    refine j_iload C 218 7 rfl dL_sticks_218 ?_
    refine j_bipush (v := 32) C 220 dL_sticks_220 rfl ?_
    refine j_icmp_ge C 222 249 dL_sticks_222 (by decide) (fun c222 => ?_) (fun c222 => ?_)
    · refine j_iload C 225 6 rfl dL_sticks_225 ?_
      refine j_aload C 227 1 rfl dL_sticks_227 ?_
      refine j_iload C 229 7 rfl dL_sticks_229 ?_
      refine j_bind (fun x231 h231 => ?_)
      refine l_Rw1 C (k := 0) (nG_0 C.2.2.2.2.2.2.1) w v.2 231 h231 dL_sticks_231 ?_
      refine j_if_le C 232 239 dL_sticks_232 (by decide) (fun c232 => ?_) (fun c232 => ?_)
      · refine j_iconst (v := 1) C 235 dL_sticks_235 rfl ?_
        refine j_goto C 236 240 dL_sticks_236 (by decide) ?_
        refine j_iadd C 240 dL_sticks_240 ?_
        refine j_istore (L1 := [(12, .int (s12 + 1)), (0, .ref (G.2.2 0)), (4, .ref (G.2.2 (114 + (1 + 0)))), (7, .int s7), (9, .int s9), (10, .int s10), (11, .int s11), (13, .int s13)]) C 241 dL_sticks_241 (by decide) rfl ?_
        refine j_iinc (v := (s13 + 8)) (L1 := [(13, .int (s13 + 8)), (12, .int (s12 + 1)), (0, .ref (G.2.2 0)), (4, .ref (G.2.2 (114 + (1 + 0)))), (7, .int s7), (9, .int s9), (10, .int s10), (11, .int s11)]) C 243 7 rfl dL_sticks_243 rfl (by decide) rfl ?_
        refine j_goto C 246 218 dL_sticks_246 (by decide) ?_
        refine j_L (L' := [(0, .ref (G.2.2 0)), (4, .ref (G.2.2 (114 + (1 + 0)))), (7, .int s7), (9, .int s9), (10, .int s10), (11, .int s11), (12, .int (s12 + 1)), (13, .int (s13 + 8))]) [2, 3, 4, 5, 6, 7, 1, 0] rfl ?_
        exact ih v s7 s9 s10 s11 (s12 + 1) (s13 + 8)
      · refine j_iconst (v := 0) C 239 dL_sticks_239 rfl ?_
        refine j_iadd C 240 dL_sticks_240 ?_
        refine j_istore (L1 := [(12, .int (s12 + 0)), (0, .ref (G.2.2 0)), (4, .ref (G.2.2 (114 + (1 + 0)))), (7, .int s7), (9, .int s9), (10, .int s10), (11, .int s11), (13, .int s13)]) C 241 dL_sticks_241 (by decide) rfl ?_
        refine j_iinc (v := (s13 + 8)) (L1 := [(13, .int (s13 + 8)), (12, .int (s12 + 0)), (0, .ref (G.2.2 0)), (4, .ref (G.2.2 (114 + (1 + 0)))), (7, .int s7), (9, .int s9), (10, .int s10), (11, .int s11)]) C 243 7 rfl dL_sticks_243 rfl (by decide) rfl ?_
        refine j_goto C 246 218 dL_sticks_246 (by decide) ?_
        refine j_L (L' := [(0, .ref (G.2.2 0)), (4, .ref (G.2.2 (114 + (1 + 0)))), (7, .int s7), (9, .int s9), (10, .int s10), (11, .int s11), (12, .int (s12 + 0)), (13, .int (s13 + 8))]) [2, 3, 4, 5, 6, 7, 1, 0] rfl ?_
        exact ih v s7 s9 s10 s11 (s12 + 0) (s13 + 8)
    · refine j_aload_n C 249 0 rfl dL_sticks_249 ?_
      refine j_iload C 250 2 rfl dL_sticks_250 ?_
      refine j_iload C 252 3 rfl dL_sticks_252 ?_
      refine j_iload C 254 4 rfl dL_sticks_254 ?_
      refine j_iload C 256 5 rfl dL_sticks_256 ?_
      refine j_bind (fun x258 h258 => ?_)
      refine j_callW (As := [.ref (G.2.2 0), .int s7, .int s9, .int s10, .int s11]) (st := []) C T.1 (T.d1 (by decide)) (T.d2 (by decide)) kw_L_plug 258 (c_L_plug C.2.2.2.2.2.2.1 T.2.1 _ _ _ _ _ h258) ml_L_84 st_L_plug dL_sticks_258 (by decide) rfl (Nat.le_of_ble_eq_true rfl) ?_ rfl
      have C := C.add (k := 1) (z := 6) (T.d1 (by decide)) (T.d2 (by decide))
      have T := TB.add (a := 0) (z := 0) (k := 1) (y := 6) T
      refine j_V (V' := (x258.2, sRw w 0 v.2)) rfl ?_
      refine j_iload C 261 6 rfl dL_sticks_261 ?_
      refine j_icmp_ne C 263 270 dL_sticks_263 (by decide) (fun c263 => ?_) (fun c263 => ?_)
      · refine j_iconst (v := 1) C 266 dL_sticks_266 rfl ?_
        refine j_goto C 267 271 dL_sticks_267 (by decide) ?_
        exact jb_zret C T 271 hr rfl rfl rfl dL_sticks_271
      · refine j_iconst (v := 0) C 270 dL_sticks_270 rfl ?_
        exact jb_zret C T 271 hr rfl rfl rfl dL_sticks_271
set_option maxRecDepth 100000 in
set_option maxHeartbeats 4000000 in
theorem wl_L_sticks_153 {G : GG} {X : WX} {sa : Nat → Nat} {KB ZB : Nat} {w : VW} (C : Cx G 14 X RL cL_sticks 10) (hr : (xM X).sig.returnType = (some .boolean)) (T : TB G sa KB ZB X 1 6) : ∀ (n : Nat) (v : (VC × VRw)) (s7 : Int32) (s9 : Int32) (s10 : Int32) (s11 : Int32) (s12 : Int32), JS G 14 X (QB G X KB ZB (fun x : (Int32 × (VC × VRw)) => some (.int x.1)) (fun x : (Int32 × (VC × VRw)) => ((x.2.1, sRw w 0 x.2.2) : VA))) (l_L_sticks_153 n v s7 s9 s10 s11 s12) (v.1, sRw w 0 v.2) 153 [(0, .ref (G.2.2 0)), (4, .ref (G.2.2 (114 + (1 + 0)))), (7, .int s7), (9, .int s9), (10, .int s10), (11, .int s11), (12, .int s12)] [] := by
  intro n
  induction n with
  | zero => intro _ _ _ _ _ _; exact j_none
  | succ n ih =>
    intro v s7 s9 s10 s11 s12
    unfold l_L_sticks_153
    refine j_iload C 153 6 rfl dL_sticks_153 ?_
    refine j_bipush (v := 8) C 155 dL_sticks_155 rfl ?_
    refine j_iload C 157 2 rfl dL_sticks_157 ?_
    refine j_imul C 159 dL_sticks_159 ?_
    refine j_bipush (v := 8) C 160 dL_sticks_160 rfl ?_
    refine j_iadd C 162 dL_sticks_162 ?_
    refine j_icmp_ge C 163 178 dL_sticks_163 (by decide) (fun c163 => ?_) (fun c163 => ?_)
    · refine j_aload C 166 1 rfl dL_sticks_166 ?_
      refine j_iload C 168 6 rfl dL_sticks_168 ?_
      refine j_iconst (v := 0) C 170 dL_sticks_170 rfl ?_
      refine j_bind (fun x171 h171 => ?_)
      refine t_Rw1 C (k := 0) (nG_0 C.2.2.2.2.2.2.1) w v.2 171 h171 dL_sticks_171 ?_
      refine j_V (V' := (v.1, sRw w 0 (v.2.1, x171, v.2.2.2))) rfl ?_
      refine j_iinc (v := (s12 + 1)) (L1 := [(12, .int (s12 + 1)), (0, .ref (G.2.2 0)), (4, .ref (G.2.2 (114 + (1 + 0)))), (7, .int s7), (9, .int s9), (10, .int s10), (11, .int s11)]) C 172 6 rfl dL_sticks_172 rfl (by decide) rfl ?_
      refine j_goto C 175 153 dL_sticks_175 (by decide) ?_
      refine j_L (L' := [(0, .ref (G.2.2 0)), (4, .ref (G.2.2 (114 + (1 + 0)))), (7, .int s7), (9, .int s9), (10, .int s10), (11, .int s11), (12, .int (s12 + 1))]) [1, 2, 3, 4, 5, 6, 0] rfl ?_
      exact ih (v.1, (v.2.1, x171, v.2.2.2)) s7 s9 s10 s11 (s12 + 1)
    · refine j_aload C 178 1 rfl dL_sticks_178 ?_
      refine j_bipush (v := 8) C 180 dL_sticks_180 rfl ?_
      refine j_iload C 182 2 rfl dL_sticks_182 ?_
      refine j_imul C 184 dL_sticks_184 ?_
      refine j_iload C 185 3 rfl dL_sticks_185 ?_
      refine j_bind (fun x187 h187 => ?_)
      refine t_Rw1 C (k := 0) (nG_0 C.2.2.2.2.2.2.1) w v.2 187 h187 dL_sticks_187 ?_
      refine j_V (V' := (v.1, sRw w 0 (v.2.1, x187, v.2.2.2))) rfl ?_
      refine j_aload C 188 1 rfl dL_sticks_188 ?_
      refine j_bipush (v := 8) C 190 dL_sticks_190 rfl ?_
      refine j_iload C 192 2 rfl dL_sticks_192 ?_
      refine j_imul C 194 dL_sticks_194 ?_
      refine j_iconst (v := 1) C 195 dL_sticks_195 rfl ?_
      refine j_iadd C 196 dL_sticks_196 ?_
      refine j_iload C 197 4 rfl dL_sticks_197 ?_
      refine j_bind (fun x199 h199 => ?_)
      refine t_Rw1 C (k := 0) (nG_0 C.2.2.2.2.2.2.1) w (v.2.1, x187, v.2.2.2) 199 h199 dL_sticks_199 ?_
      refine j_V (V' := (v.1, sRw w 0 (v.2.1, x199, v.2.2.2))) rfl ?_
      refine j_aload C 200 1 rfl dL_sticks_200 ?_
      refine j_bipush (v := 8) C 202 dL_sticks_202 rfl ?_
      refine j_iload C 204 2 rfl dL_sticks_204 ?_
      refine j_imul C 206 dL_sticks_206 ?_
      refine j_iconst (v := 2) C 207 dL_sticks_207 rfl ?_
      refine j_iadd C 208 dL_sticks_208 ?_
      refine j_iload C 209 5 rfl dL_sticks_209 ?_
      refine j_bind (fun x211 h211 => ?_)
      refine t_Rw1 C (k := 0) (nG_0 C.2.2.2.2.2.2.1) w (v.2.1, x199, v.2.2.2) 211 h211 dL_sticks_211 ?_
      refine j_V (V' := (v.1, sRw w 0 (v.2.1, x211, v.2.2.2))) rfl ?_
      refine j_iconst (v := 0) C 212 dL_sticks_212 rfl ?_
      refine j_istore (L1 := [(12, .int 0), (0, .ref (G.2.2 0)), (4, .ref (G.2.2 (114 + (1 + 0)))), (7, .int s7), (9, .int s9), (10, .int s10), (11, .int s11)]) C 213 dL_sticks_213 (by decide) rfl ?_
      refine j_iconst (v := 0) C 215 dL_sticks_215 rfl ?_
      refine j_istore (L1 := [(13, .int 0), (12, .int 0), (0, .ref (G.2.2 0)), (4, .ref (G.2.2 (114 + (1 + 0)))), (7, .int s7), (9, .int s9), (10, .int s10), (11, .int s11)]) C 216 dL_sticks_216 (by decide) rfl ?_
      refine j_L (L' := [(0, .ref (G.2.2 0)), (4, .ref (G.2.2 (114 + (1 + 0)))), (7, .int s7), (9, .int s9), (10, .int s10), (11, .int s11), (12, .int 0), (13, .int 0)]) [2, 3, 4, 5, 6, 7, 1, 0] rfl ?_
      exact wl_L_sticks_218 C hr (T.mono (a := 1) (z := 6) (by decide) (by decide)) FU (v.1, (v.2.1, x211, v.2.2.2)) s7 s9 s10 s11 0 0
set_option maxRecDepth 100000 in
set_option maxHeartbeats 4000000 in
theorem wb_L_sticks_384 {G : GG} {X : WX} {sa : Nat → Nat} {KB ZB : Nat} {w : VW} (C : Cx G 14 X RL cL_sticks 10) (hr : (xM X).sig.returnType = (some .boolean)) (T : TB G sa KB ZB X 0 0) (v : (VC × VRw)) (t0 : Int32) (t1 : Int32) : JS G 14 X (QB G X KB ZB (fun x : (Int32 × (VC × VRw)) => some (.int x.1)) (fun x : (Int32 × (VC × VRw)) => ((x.2.1, sRw w 0 x.2.2) : VA))) (b_L_sticks_384 v t0 t1) (v.1, sRw w 0 v.2) 384 [] [.int t0, .int t1] := by
  unfold b_L_sticks_384
  refine j_icmp_ne C 384 391 dL_sticks_384 (by decide) (fun c384 => ?_) (fun c384 => ?_)
  · refine j_iconst (v := 1) C 387 dL_sticks_387 rfl ?_
    refine j_goto C 388 392 dL_sticks_388 (by decide) ?_
    exact jb_zret C T 392 hr rfl rfl rfl dL_sticks_392
  · refine j_iconst (v := 0) C 391 dL_sticks_391 rfl ?_
    exact jb_zret C T 392 hr rfl rfl rfl dL_sticks_392
set_option maxRecDepth 100000 in
set_option maxHeartbeats 4000000 in
theorem wb_L_sticks_418 {G : GG} {X : WX} {sa : Nat → Nat} {KB ZB : Nat} {w : VW} (C : Cx G 14 X RL cL_sticks 10) (hr : (xM X).sig.returnType = (some .boolean)) (T : TB G sa KB ZB X 2 12) (v : (VC × VRw)) (s7 : Int32) : JS G 14 X (QB G X KB ZB (fun x : (Int32 × (VC × VRw)) => some (.int x.1)) (fun x : (Int32 × (VC × VRw)) => ((x.2.1, sRw w 0 x.2.2) : VA))) (b_L_sticks_418 v s7) (v.1, sRw w 0 v.2) 418 [(0, .ref (G.2.2 0)), (7, .int s7)] [] := by
  unfold b_L_sticks_418
  refine j_aload_n C 418 0 rfl dL_sticks_418 ?_
  refine j_iload C 419 1 rfl dL_sticks_419 ?_
  refine j_bind (fun x421 h421 => ?_)
  refine j_callW (As := [.ref (G.2.2 0), .int s7]) (st := []) C T.1 (T.d1 (by decide)) (T.d2 (by decide)) kw_L_fail 421 (c_L_fail C.2.2.2.2.2.2.1 T.2.1 _ _ h421) ml_L_93 st_L_fail dL_sticks_421 (by decide) rfl (Nat.le_of_ble_eq_true rfl) ?_ rfl
  have C := C.add (k := 1) (z := 6) (T.d1 (by decide)) (T.d2 (by decide))
  have T := TB.add (a := 1) (z := 6) (k := 1) (y := 6) T
  refine j_V (V' := (x421.2, sRw w 0 v.2)) rfl ?_
  refine j_bipush (v := (-33)) C 424 dL_sticks_424 rfl ?_
  refine j_icmp_ne C 426 443 dL_sticks_426 (by decide) (fun c426 => ?_) (fun c426 => ?_)
  · refine j_aload_n C 429 0 rfl dL_sticks_429 ?_
    refine j_iconst (v := (-1)) C 430 dL_sticks_430 rfl ?_
    refine j_bind (fun x431 h431 => ?_)
    refine j_callW (As := [.ref (G.2.2 0), .int (-1)]) (st := []) C T.1 (T.d1 (by decide)) (T.d2 (by decide)) kw_L_fail 431 (c_L_fail C.2.2.2.2.2.2.1 T.2.1 _ _ h431) ml_L_93 st_L_fail dL_sticks_431 (by decide) rfl (Nat.le_of_ble_eq_true rfl) ?_ rfl
    have C := C.add (k := 1) (z := 6) (T.d1 (by decide)) (T.d2 (by decide))
    have T := TB.add (a := 0) (z := 0) (k := 1) (y := 6) T
    refine j_V (V' := (x431.2, sRw w 0 v.2)) rfl ?_
    refine j_bipush (v := (-31)) C 434 dL_sticks_434 rfl ?_
    refine j_icmp_ne C 436 443 dL_sticks_436 (by decide) (fun c436 => ?_) (fun c436 => ?_)
    · refine j_iconst (v := 1) C 439 dL_sticks_439 rfl ?_
      refine j_goto C 440 444 dL_sticks_440 (by decide) ?_
      exact jb_zret C T 444 hr rfl rfl rfl dL_sticks_444
    · refine j_iconst (v := 0) C 443 dL_sticks_443 rfl ?_
      exact jb_zret C T 444 hr rfl rfl rfl dL_sticks_444
  · refine j_iconst (v := 0) C 443 dL_sticks_443 rfl ?_
    exact jb_zret C T 444 hr rfl rfl rfl dL_sticks_444
set_option maxRecDepth 100000 in
set_option maxHeartbeats 4000000 in
theorem wb_L_sticks_481 {G : GG} {X : WX} {sa : Nat → Nat} {KB ZB : Nat} {w : VW} (C : Cx G 14 X RL cL_sticks 10) (hr : (xM X).sig.returnType = (some .boolean)) (T : TB G sa KB ZB X 0 0) (v : (VC × VRw)) (t0 : Int32) (t1 : Int32) : JS G 14 X (QB G X KB ZB (fun x : (Int32 × (VC × VRw)) => some (.int x.1)) (fun x : (Int32 × (VC × VRw)) => ((x.2.1, sRw w 0 x.2.2) : VA))) (b_L_sticks_481 v t0 t1) (v.1, sRw w 0 v.2) 481 [] [.int t0, .int t1] := by
  unfold b_L_sticks_481
  refine j_icmp_ne C 481 488 dL_sticks_481 (by decide) (fun c481 => ?_) (fun c481 => ?_)
  · refine j_iconst (v := 1) C 484 dL_sticks_484 rfl ?_
    refine j_goto C 485 489 dL_sticks_485 (by decide) ?_
    exact jb_zret C T 489 hr rfl rfl rfl dL_sticks_489
  · refine j_iconst (v := 0) C 488 dL_sticks_488 rfl ?_
    exact jb_zret C T 489 hr rfl rfl rfl dL_sticks_489
set_option maxRecDepth 100000 in
set_option maxHeartbeats 4000000 in
theorem w_L_sticks {G : GG} {X : WX} {sa : Nat → Nat} {KB ZB : Nat} {w : VW} (C : Cx G 14 X RL cL_sticks 10) (hr : (xM X).sig.returnType = (some .boolean)) (T : TB G sa KB ZB X 5 30) (v : (VC × VRw)) (a1 : Int32) (a2 : Int32) : JS G 14 X (QB G X KB ZB (fun x : (Int32 × (VC × VRw)) => some (.int x.1)) (fun x : (Int32 × (VC × VRw)) => ((x.2.1, sRw w 0 x.2.2) : VA))) (f_L_sticks v a1 a2) (v.1, sRw w 0 v.2) 0 [(0, .ref (G.2.2 0)), (1, .int a1), (2, .int a2), (3, .ref (G.2.2 (114 + 0))), (4, .ref (G.2.2 (114 + (1 + 0)))), (5, .ref (G.2.2 (114 + (2 + 0)))), (6, .ref (G.2.2 (114 + (3 + 0))))] [] := by
  unfold f_L_sticks
  refine j_iload_n C 0 2 rfl dL_sticks_0 ?_
  refine j_iconst (v := 4) C 1 dL_sticks_1 rfl ?_
  refine j_bind (fun x2 h2 => ?_)
  refine j_callS_i (As := [.int a2, .int 4]) (st := []) C k_L_low 2 (c_L_low C.2.2.2.2.2.2.1 (c := v.1) (w := (sRw w 0 v.2)) _ _ h2) rfl ml_L_81 st_L_low dL_sticks_2 (by decide) rfl (Nat.le_of_ble_eq_true rfl) ?_ rfl
  refine j_istore (L1 := [(7, .int x2), (0, .ref (G.2.2 0)), (1, .int a1), (2, .int a2), (3, .ref (G.2.2 (114 + 0))), (4, .ref (G.2.2 (114 + (1 + 0)))), (5, .ref (G.2.2 (114 + (2 + 0)))), (6, .ref (G.2.2 (114 + (3 + 0))))]) C 5 dL_sticks_5 (by decide) rfl ?_
  refine j_iload_n C 7 2 rfl dL_sticks_7 ?_
  refine j_iconst (v := 4) C 8 dL_sticks_8 rfl ?_
  refine j_bind (fun x9 h9 => ?_)
  refine j_callS_i (As := [.int a1, .int 4]) (st := []) C k_L_low 9 (c_L_low C.2.2.2.2.2.2.1 (c := v.1) (w := (sRw w 0 v.2)) _ _ h9) rfl ml_L_81 st_L_low dL_sticks_9 (by decide) rfl (Nat.le_of_ble_eq_true rfl) ?_ rfl
  refine j_istore (L1 := [(8, .int x9), (7, .int x2), (0, .ref (G.2.2 0)), (1, .int a1), (2, .int a2), (3, .ref (G.2.2 (114 + 0))), (4, .ref (G.2.2 (114 + (1 + 0)))), (5, .ref (G.2.2 (114 + (2 + 0)))), (6, .ref (G.2.2 (114 + (3 + 0))))]) C 12 dL_sticks_12 (by decide) rfl ?_
  refine j_iload C 14 0 rfl dL_sticks_14 ?_
  refine j_iconst (v := 2) C 16 dL_sticks_16 rfl ?_
  refine j_icmp_ge C 17 272 dL_sticks_17 (by decide) (fun c17 => ?_) (fun c17 => ?_)
  · refine j_iconst (v := 1) C 20 dL_sticks_20 rfl ?_
    refine j_iload_n C 21 4 rfl dL_sticks_21 ?_
    refine j_iconst (v := 2) C 22 dL_sticks_22 rfl ?_
    refine j_ishr C 23 dL_sticks_23 ?_
    refine j_bipush (v := 12) C 24 dL_sticks_24 rfl ?_
    refine j_bind (fun x26 h26 => ?_)
    refine j_callS_i (As := [.int ((a2 >>> ((2 : Int32) &&& 31)) : Int32), .int 12]) (st := [.int 1]) C k_L_low 26 (c_L_low C.2.2.2.2.2.2.1 (c := v.1) (w := (sRw w 0 v.2)) _ _ h26) rfl ml_L_81 st_L_low dL_sticks_26 (by decide) rfl (Nat.le_of_ble_eq_true rfl) ?_ rfl
    refine j_iadd C 29 dL_sticks_29 ?_
    refine j_istore (L1 := [(9, .int (1 + x26)), (8, .int x9), (7, .int x2), (0, .ref (G.2.2 0)), (1, .int a1), (2, .int a2), (3, .ref (G.2.2 (114 + 0))), (4, .ref (G.2.2 (114 + (1 + 0)))), (5, .ref (G.2.2 (114 + (2 + 0)))), (6, .ref (G.2.2 (114 + (3 + 0))))]) C 30 dL_sticks_30 (by decide) rfl ?_
    refine j_iconst (v := 1) C 32 dL_sticks_32 rfl ?_
    refine j_iload_n C 33 5 rfl dL_sticks_33 ?_
    refine j_bipush (v := 6) C 34 dL_sticks_34 rfl ?_
    refine j_ishr C 36 dL_sticks_36 ?_
    refine j_iconst (v := 1) C 37 dL_sticks_37 rfl ?_
    refine j_iand C 38 dL_sticks_38 ?_
    refine j_iadd C 39 dL_sticks_39 ?_
    refine j_istore (L1 := [(10, .int (1 + (((a2 >>> ((6 : Int32) &&& 31)) : Int32) &&& 1))), (9, .int (1 + x26)), (8, .int x9), (7, .int x2), (0, .ref (G.2.2 0)), (1, .int a1), (2, .int a2), (3, .ref (G.2.2 (114 + 0))), (4, .ref (G.2.2 (114 + (1 + 0)))), (5, .ref (G.2.2 (114 + (2 + 0)))), (6, .ref (G.2.2 (114 + (3 + 0))))]) C 40 dL_sticks_40 (by decide) rfl ?_
    refine j_iconst (v := 1) C 42 dL_sticks_42 rfl ?_
    refine j_iload_n C 43 6 rfl dL_sticks_43 ?_
    refine j_bipush (v := 7) C 44 dL_sticks_44 rfl ?_
    refine j_ishr C 46 dL_sticks_46 ?_
    refine j_bipush (v := 9) C 47 dL_sticks_47 rfl ?_
    refine j_bind (fun x49 h49 => ?_)
    refine j_callS_i (As := [.int ((a2 >>> ((7 : Int32) &&& 31)) : Int32), .int 9]) (st := [.int 1]) C k_L_low 49 (c_L_low C.2.2.2.2.2.2.1 (c := v.1) (w := (sRw w 0 v.2)) _ _ h49) rfl ml_L_81 st_L_low dL_sticks_49 (by decide) rfl (Nat.le_of_ble_eq_true rfl) ?_ rfl
    refine j_iadd C 52 dL_sticks_52 ?_
    refine j_istore (L1 := [(11, .int (1 + x49)), (10, .int (1 + (((a2 >>> ((6 : Int32) &&& 31)) : Int32) &&& 1))), (9, .int (1 + x26)), (8, .int x9), (7, .int x2), (0, .ref (G.2.2 0)), (1, .int a1), (2, .int a2), (3, .ref (G.2.2 (114 + 0))), (4, .ref (G.2.2 (114 + (1 + 0)))), (5, .ref (G.2.2 (114 + (2 + 0)))), (6, .ref (G.2.2 (114 + (3 + 0))))]) C 53 dL_sticks_53 (by decide) rfl ?_
    refine j_aload C 55 9 rfl dL_sticks_55 ?_
    refine j_bipush (v := 8) C 57 dL_sticks_57 rfl ?_
    refine j_iload C 59 4 rfl dL_sticks_59 ?_
    refine j_imul C 61 dL_sticks_61 ?_
    refine j_bind (fun x62 h62 => ?_)
    refine l_Rw1 C (k := 0) (nG_0 C.2.2.2.2.2.2.1) w v.2 62 h62 dL_sticks_62 ?_
    refine j_if_le C 63 146 dL_sticks_63 (by decide) (fun c63 => ?_) (fun c63 => ?_)
    · refine j_aload_n C 66 5 rfl dL_sticks_66 ?_
      refine j_iload C 67 4 rfl dL_sticks_67 ?_
      refine j_iload C 69 2 rfl dL_sticks_69 ?_
      refine j_iload C 71 1 rfl dL_sticks_71 ?_
      refine j_iload C 73 0 rfl dL_sticks_73 ?_
      refine j_bind (fun x75 h75 => ?_)
      refine j_callW (As := [.ref (G.2.2 0), .int x2, .int (1 + x26), .int (1 + (((a2 >>> ((6 : Int32) &&& 31)) : Int32) &&& 1)), .int (1 + x49)]) (st := []) C T.1 (T.d1 (by decide)) (T.d2 (by decide)) kw_L_plug 75 (c_L_plug C.2.2.2.2.2.2.1 T.2.1 _ _ _ _ _ h75) ml_L_84 st_L_plug dL_sticks_75 (by decide) rfl (Nat.le_of_ble_eq_true rfl) ?_ rfl
      have C := C.add (k := 1) (z := 6) (T.d1 (by decide)) (T.d2 (by decide))
      have T := TB.add (a := 4) (z := 24) (k := 1) (y := 6) T
      refine j_V (V' := (x75.2, sRw w 0 v.2)) rfl ?_
      refine j_bipush (v := (-33)) C 78 dL_sticks_78 rfl ?_
      refine j_icmp_ne C 80 144 dL_sticks_80 (by decide) (fun c80 => ?_) (fun c80 => ?_)
      · refine j_aload_n C 83 5 rfl dL_sticks_83 ?_
        refine j_iconst (v := 4) C 84 dL_sticks_84 rfl ?_
        refine j_iconst (v := 0) C 85 dL_sticks_85 rfl ?_
        refine j_iconst (v := 1) C 86 dL_sticks_86 rfl ?_
        refine j_iconst (v := 1) C 87 dL_sticks_87 rfl ?_
        refine j_bind (fun x88 h88 => ?_)
        refine j_callW (As := [.ref (G.2.2 0), .int 4, .int 0, .int 1, .int 1]) (st := []) C T.1 (T.d1 (by decide)) (T.d2 (by decide)) kw_L_plug 88 (c_L_plug C.2.2.2.2.2.2.1 T.2.1 _ _ _ _ _ h88) ml_L_84 st_L_plug dL_sticks_88 (by decide) rfl (Nat.le_of_ble_eq_true rfl) ?_ rfl
        have C := C.add (k := 1) (z := 6) (T.d1 (by decide)) (T.d2 (by decide))
        have T := TB.add (a := 3) (z := 18) (k := 1) (y := 6) T
        refine j_V (V' := (x88.2, sRw w 0 v.2)) rfl ?_
        refine j_bipush (v := (-31)) C 91 dL_sticks_91 rfl ?_
        refine j_icmp_ne C 93 144 dL_sticks_93 (by decide) (fun c93 => ?_) (fun c93 => ?_)
        · refine j_aload_n C 96 5 rfl dL_sticks_96 ?_
          refine j_iload C 97 4 rfl dL_sticks_97 ?_
          refine j_bipush (v := 13) C 99 dL_sticks_99 rfl ?_
          refine j_iconst (v := 1) C 101 dL_sticks_101 rfl ?_
          refine j_iconst (v := 1) C 102 dL_sticks_102 rfl ?_
          refine j_bind (fun x103 h103 => ?_)
          refine j_callW (As := [.ref (G.2.2 0), .int x2, .int 13, .int 1, .int 1]) (st := []) C T.1 (T.d1 (by decide)) (T.d2 (by decide)) kw_L_plug 103 (c_L_plug C.2.2.2.2.2.2.1 T.2.1 _ _ _ _ _ h103) ml_L_84 st_L_plug dL_sticks_103 (by decide) rfl (Nat.le_of_ble_eq_true rfl) ?_ rfl
          have C := C.add (k := 1) (z := 6) (T.d1 (by decide)) (T.d2 (by decide))
          have T := TB.add (a := 2) (z := 12) (k := 1) (y := 6) T
          refine j_V (V' := (x103.2, sRw w 0 v.2)) rfl ?_
          refine j_bipush (v := (-32)) C 106 dL_sticks_106 rfl ?_
          refine j_icmp_ne C 108 144 dL_sticks_108 (by decide) (fun c108 => ?_) (fun c108 => ?_)
          · refine j_aload_n C 111 5 rfl dL_sticks_111 ?_
            refine j_iload C 112 4 rfl dL_sticks_112 ?_
            refine j_iconst (v := 1) C 114 dL_sticks_114 rfl ?_
            refine j_iconst (v := 3) C 115 dL_sticks_115 rfl ?_
            refine j_iconst (v := 1) C 116 dL_sticks_116 rfl ?_
            refine j_bind (fun x117 h117 => ?_)
            refine j_callW (As := [.ref (G.2.2 0), .int x2, .int 1, .int 3, .int 1]) (st := []) C T.1 (T.d1 (by decide)) (T.d2 (by decide)) kw_L_plug 117 (c_L_plug C.2.2.2.2.2.2.1 T.2.1 _ _ _ _ _ h117) ml_L_84 st_L_plug dL_sticks_117 (by decide) rfl (Nat.le_of_ble_eq_true rfl) ?_ rfl
            have C := C.add (k := 1) (z := 6) (T.d1 (by decide)) (T.d2 (by decide))
            have T := TB.add (a := 1) (z := 6) (k := 1) (y := 6) T
            refine j_V (V' := (x117.2, sRw w 0 v.2)) rfl ?_
            refine j_bipush (v := (-32)) C 120 dL_sticks_120 rfl ?_
            refine j_icmp_ne C 122 144 dL_sticks_122 (by decide) (fun c122 => ?_) (fun c122 => ?_)
            · refine j_aload_n C 125 5 rfl dL_sticks_125 ?_
              refine j_iload C 126 4 rfl dL_sticks_126 ?_
              refine j_iconst (v := 1) C 128 dL_sticks_128 rfl ?_
              refine j_iconst (v := 1) C 129 dL_sticks_129 rfl ?_
              refine j_bipush (v := 10) C 130 dL_sticks_130 rfl ?_
              refine j_bind (fun x132 h132 => ?_)
              refine j_callW (As := [.ref (G.2.2 0), .int x2, .int 1, .int 1, .int 10]) (st := []) C T.1 (T.d1 (by decide)) (T.d2 (by decide)) kw_L_plug 132 (c_L_plug C.2.2.2.2.2.2.1 T.2.1 _ _ _ _ _ h132) ml_L_84 st_L_plug dL_sticks_132 (by decide) rfl (Nat.le_of_ble_eq_true rfl) ?_ rfl
              have C := C.add (k := 1) (z := 6) (T.d1 (by decide)) (T.d2 (by decide))
              have T := TB.add (a := 0) (z := 0) (k := 1) (y := 6) T
              refine j_V (V' := (x132.2, sRw w 0 v.2)) rfl ?_
              refine j_bipush (v := (-32)) C 135 dL_sticks_135 rfl ?_
              refine j_icmp_ne C 137 144 dL_sticks_137 (by decide) (fun c137 => ?_) (fun c137 => ?_)
              · refine j_iconst (v := 1) C 140 dL_sticks_140 rfl ?_
                refine j_goto C 141 145 dL_sticks_141 (by decide) ?_
                exact jb_zret C T 145 hr rfl rfl rfl dL_sticks_145
              · refine j_iconst (v := 0) C 144 dL_sticks_144 rfl ?_
                exact jb_zret C T 145 hr rfl rfl rfl dL_sticks_145
            · refine j_iconst (v := 0) C 144 dL_sticks_144 rfl ?_
              exact jb_zret C T 145 hr rfl rfl rfl dL_sticks_145
          · refine j_iconst (v := 0) C 144 dL_sticks_144 rfl ?_
            exact jb_zret C T 145 hr rfl rfl rfl dL_sticks_145
        · refine j_iconst (v := 0) C 144 dL_sticks_144 rfl ?_
          exact jb_zret C T 145 hr rfl rfl rfl dL_sticks_145
      · refine j_iconst (v := 0) C 144 dL_sticks_144 rfl ?_
        exact jb_zret C T 145 hr rfl rfl rfl dL_sticks_145
    · refine j_bipush (v := 8) C 146 dL_sticks_146 rfl ?_
      refine j_iload C 148 4 rfl dL_sticks_148 ?_
      refine j_imul C 150 dL_sticks_150 ?_
      refine j_istore (L1 := [(12, .int (8 * x2)), (11, .int (1 + x49)), (10, .int (1 + (((a2 >>> ((6 : Int32) &&& 31)) : Int32) &&& 1))), (9, .int (1 + x26)), (8, .int x9), (7, .int x2), (0, .ref (G.2.2 0)), (1, .int a1), (2, .int a2), (3, .ref (G.2.2 (114 + 0))), (4, .ref (G.2.2 (114 + (1 + 0)))), (5, .ref (G.2.2 (114 + (2 + 0)))), (6, .ref (G.2.2 (114 + (3 + 0))))]) C 151 dL_sticks_151 (by decide) rfl ?_
      refine j_L (L' := [(0, .ref (G.2.2 0)), (4, .ref (G.2.2 (114 + (1 + 0)))), (7, .int x2), (9, .int (1 + x26)), (10, .int (1 + (((a2 >>> ((6 : Int32) &&& 31)) : Int32) &&& 1))), (11, .int (1 + x49)), (12, .int (8 * x2))]) [6, 10, 5, 3, 2, 1, 0] rfl ?_
      exact wl_L_sticks_153 C hr (T.mono (a := 1) (z := 6) (by decide) (by decide)) FU v x2 (1 + x26) (1 + (((a2 >>> ((6 : Int32) &&& 31)) : Int32) &&& 1)) (1 + x49) (8 * x2)
  · refine j_aload C 272 6 rfl dL_sticks_272 ?_
    refine j_bipush (v := 12) C 274 dL_sticks_274 rfl ?_
    refine j_iload C 276 1 rfl dL_sticks_276 ?_
    refine j_imul C 278 dL_sticks_278 ?_
    refine j_bind (fun x279 h279 => ?_)
    refine j_callS_i (As := [.ref (G.2.2 (114 + (1 + 0))), .int (12 * x2)]) (st := []) C k_L_isLeft 279 (c_L_isLeft C.2.2.2.2.2.2.1 (c := v.1) (w := (sRw w 0 v.2)) _ _ (114 + (1 + 0)) (nG_lt C.2.2.2.2.2.2.1 (by omega)) (a_Rw1 v.1 w 0 v.2) _ h279) rfl ml_L_70 st_L_isLeft dL_sticks_279 (by decide) rfl (Nat.le_of_ble_eq_true rfl) ?_ rfl
    refine j_istore (L1 := [(9, .int x279), (8, .int x9), (7, .int x2), (0, .ref (G.2.2 0)), (1, .int a1), (2, .int a2), (3, .ref (G.2.2 (114 + 0))), (4, .ref (G.2.2 (114 + (1 + 0)))), (5, .ref (G.2.2 (114 + (2 + 0)))), (6, .ref (G.2.2 (114 + (3 + 0))))]) C 282 dL_sticks_282 (by decide) rfl ?_
    refine j_iload C 284 1 rfl dL_sticks_284 ?_
    refine j_iconst (v := 2) C 286 dL_sticks_286 rfl ?_
    refine j_icmp_ne C 287 393 dL_sticks_287 (by decide) (fun c287 => ?_) (fun c287 => ?_)
    · refine j_aload C 290 7 rfl dL_sticks_290 ?_
      refine j_bipush (v := 8) C 292 dL_sticks_292 rfl ?_
      refine j_iload C 294 2 rfl dL_sticks_294 ?_
      refine j_imul C 296 dL_sticks_296 ?_
      refine j_bind (fun x297 h297 => ?_)
      refine l_Rw1 C (k := 0) (nG_0 C.2.2.2.2.2.2.1) w v.2 297 h297 dL_sticks_297 ?_
      refine j_if_ne C 298 328 dL_sticks_298 (by decide) (fun c298 => ?_) (fun c298 => ?_)
      · refine j_aload_n C 301 3 rfl dL_sticks_301 ?_
        refine j_iload C 302 2 rfl dL_sticks_302 ?_
        refine j_bind (fun x304 h304 => ?_)
        refine j_callW (As := [.ref (G.2.2 0), .int x2]) (st := []) C T.1 (T.d1 (by decide)) (T.d2 (by decide)) kw_L_pull 304 (c_L_pull C.2.2.2.2.2.2.1 T.2.1 _ _ h304) ml_L_87 st_L_pull dL_sticks_304 (by decide) rfl (Nat.le_of_ble_eq_true rfl) ?_ rfl
        have C := C.add (k := 1) (z := 6) (T.d1 (by decide)) (T.d2 (by decide))
        have T := TB.add (a := 4) (z := 24) (k := 1) (y := 6) T
        refine j_V (V' := (x304.2, sRw w 0 v.2)) rfl ?_
        refine j_bipush (v := (-33)) C 307 dL_sticks_307 rfl ?_
        refine j_icmp_ne C 309 326 dL_sticks_309 (by decide) (fun c309 => ?_) (fun c309 => ?_)
        · refine j_aload_n C 312 3 rfl dL_sticks_312 ?_
          refine j_iconst (v := 4) C 313 dL_sticks_313 rfl ?_
          refine j_bind (fun x314 h314 => ?_)
          refine j_callW (As := [.ref (G.2.2 0), .int 4]) (st := []) C T.1 (T.d1 (by decide)) (T.d2 (by decide)) kw_L_pull 314 (c_L_pull C.2.2.2.2.2.2.1 T.2.1 _ _ h314) ml_L_87 st_L_pull dL_sticks_314 (by decide) rfl (Nat.le_of_ble_eq_true rfl) ?_ rfl
          have C := C.add (k := 1) (z := 6) (T.d1 (by decide)) (T.d2 (by decide))
          have T := TB.add (a := 3) (z := 18) (k := 1) (y := 6) T
          refine j_V (V' := (x314.2, sRw w 0 v.2)) rfl ?_
          refine j_bipush (v := (-31)) C 317 dL_sticks_317 rfl ?_
          refine j_icmp_ne C 319 326 dL_sticks_319 (by decide) (fun c319 => ?_) (fun c319 => ?_)
          · refine j_iconst (v := 1) C 322 dL_sticks_322 rfl ?_
            refine j_goto C 323 327 dL_sticks_323 (by decide) ?_
            exact jb_zret C T 327 hr rfl rfl rfl dL_sticks_327
          · refine j_iconst (v := 0) C 326 dL_sticks_326 rfl ?_
            exact jb_zret C T 327 hr rfl rfl rfl dL_sticks_327
        · refine j_iconst (v := 0) C 326 dL_sticks_326 rfl ?_
          exact jb_zret C T 327 hr rfl rfl rfl dL_sticks_327
      · refine j_aload C 328 7 rfl dL_sticks_328 ?_
        refine j_bipush (v := 8) C 330 dL_sticks_330 rfl ?_
        refine j_iload C 332 2 rfl dL_sticks_332 ?_
        refine j_imul C 334 dL_sticks_334 ?_
        refine j_iconst (v := 0) C 335 dL_sticks_335 rfl ?_
        refine j_bind (fun x336 h336 => ?_)
        refine t_Rw1 C (k := 0) (nG_0 C.2.2.2.2.2.2.1) w v.2 336 h336 dL_sticks_336 ?_
        refine j_V (V' := (v.1, sRw w 0 (v.2.1, x336, v.2.2.2))) rfl ?_
        refine j_aload C 337 7 rfl dL_sticks_337 ?_
        refine j_bipush (v := 8) C 339 dL_sticks_339 rfl ?_
        refine j_iload C 341 2 rfl dL_sticks_341 ?_
        refine j_imul C 343 dL_sticks_343 ?_
        refine j_iconst (v := 3) C 344 dL_sticks_344 rfl ?_
        refine j_iadd C 345 dL_sticks_345 ?_
        refine j_iconst (v := 0) C 346 dL_sticks_346 rfl ?_
        refine j_bind (fun x347 h347 => ?_)
        refine t_Rw1 C (k := 0) (nG_0 C.2.2.2.2.2.2.1) w (v.2.1, x336, v.2.2.2) 347 h347 dL_sticks_347 ?_
        refine j_V (V' := (v.1, sRw w 0 (v.2.1, x347, v.2.2.2))) rfl ?_
        refine j_aload C 348 7 rfl dL_sticks_348 ?_
        refine j_bipush (v := 8) C 350 dL_sticks_350 rfl ?_
        refine j_iload C 352 2 rfl dL_sticks_352 ?_
        refine j_imul C 354 dL_sticks_354 ?_
        refine j_iconst (v := 4) C 355 dL_sticks_355 rfl ?_
        refine j_iadd C 356 dL_sticks_356 ?_
        refine j_iconst (v := 0) C 357 dL_sticks_357 rfl ?_
        refine j_bind (fun x358 h358 => ?_)
        refine t_Rw1 C (k := 0) (nG_0 C.2.2.2.2.2.2.1) w (v.2.1, x347, v.2.2.2) 358 h358 dL_sticks_358 ?_
        refine j_V (V' := (v.1, sRw w 0 (v.2.1, x358, v.2.2.2))) rfl ?_
        refine j_aload_n C 359 3 rfl dL_sticks_359 ?_
        refine j_iload C 360 2 rfl dL_sticks_360 ?_
        refine j_bind (fun x362 h362 => ?_)
        refine j_callW (As := [.ref (G.2.2 0), .int x2]) (st := []) C T.1 (T.d1 (by decide)) (T.d2 (by decide)) kw_L_pull 362 (c_L_pull C.2.2.2.2.2.2.1 T.2.1 _ _ h362) ml_L_87 st_L_pull dL_sticks_362 (by decide) rfl (Nat.le_of_ble_eq_true rfl) ?_ rfl
        have C := C.add (k := 1) (z := 6) (T.d1 (by decide)) (T.d2 (by decide))
        have T := TB.add (a := 4) (z := 24) (k := 1) (y := 6) T
        refine j_V (V' := (x362.2, sRw w 0 (v.2.1, x358, v.2.2.2))) rfl ?_
        refine j_iload C 365 0 rfl dL_sticks_365 ?_
        refine j_if_eq C 367 383 dL_sticks_367 (by decide) (fun c367 => ?_) (fun c367 => ?_)
        · refine j_iconst (v := 0) C 383 dL_sticks_383 rfl ?_
          refine j_L (L' := []) [] rfl ?_
          exact wb_L_sticks_384 C hr (T.mono (a := 0) (z := 0) (by decide) (by decide)) (x362.2, (v.2.1, x358, v.2.2.2)) 0 x362.1
        · refine j_aload_n C 370 6 rfl dL_sticks_370 ?_
          refine j_aload C 371 8 rfl dL_sticks_371 ?_
          refine j_aload C 373 9 rfl dL_sticks_373 ?_
          refine j_iload C 375 2 rfl dL_sticks_375 ?_
          refine j_bind (fun x377 h377 => ?_)
          refine j_callS_i (As := [.ref (G.2.2 (114 + 0)), .ref (G.2.2 (114 + (2 + 0))), .ref (G.2.2 (114 + (3 + 0))), .int x2]) (st := [.int x362.1]) C k_L_used 377 (c_L_used C.2.2.2.2.2.2.1 (c := x362.2) (w := (sRw w 0 (v.2.1, x358, v.2.2.2))) _ _ (114 + 0) (nG_lt C.2.2.2.2.2.2.1 (by omega)) (a_Rw0 x362.2 w 0 (v.2.1, x358, v.2.2.2)) _ _ (114 + (2 + 0)) (nG_lt C.2.2.2.2.2.2.1 (by omega)) (a_Rw2 x362.2 w 0 (v.2.1, x358, v.2.2.2)) _ _ (114 + (3 + 0)) (nG_lt C.2.2.2.2.2.2.1 (by omega)) (a_Rw3 x362.2 w 0 (v.2.1, x358, v.2.2.2)) _ h377) rfl ml_L_90 st_L_used dL_sticks_377 (by decide) rfl (Nat.le_of_ble_eq_true rfl) ?_ rfl
          refine j_goto C 380 384 dL_sticks_380 (by decide) ?_
          refine j_L (L' := []) [] rfl ?_
          exact wb_L_sticks_384 C hr (T.mono (a := 0) (z := 0) (by decide) (by decide)) (x362.2, (v.2.1, x358, v.2.2.2)) x377 x362.1
    · refine j_aload C 393 7 rfl dL_sticks_393 ?_
      refine j_bipush (v := 8) C 395 dL_sticks_395 rfl ?_
      refine j_iload C 397 2 rfl dL_sticks_397 ?_
      refine j_imul C 399 dL_sticks_399 ?_
      refine j_bind (fun x400 h400 => ?_)
      refine l_Rw1 C (k := 0) (nG_0 C.2.2.2.2.2.2.1) w v.2 400 h400 dL_sticks_400 ?_
      refine j_if_eq C 401 418 dL_sticks_401 (by decide) (fun c401 => ?_) (fun c401 => ?_)
      · refine j_L (L' := [(0, .ref (G.2.2 0)), (7, .int x2)]) [3, 2] rfl ?_
        exact wb_L_sticks_418 C hr (T.mono (a := 2) (z := 12) (by decide) (by decide)) v x2
      · refine j_aload C 404 7 rfl dL_sticks_404 ?_
        refine j_bipush (v := 8) C 406 dL_sticks_406 rfl ?_
        refine j_iload C 408 2 rfl dL_sticks_408 ?_
        refine j_imul C 410 dL_sticks_410 ?_
        refine j_iconst (v := 3) C 411 dL_sticks_411 rfl ?_
        refine j_iadd C 412 dL_sticks_412 ?_
        refine j_bind (fun x413 h413 => ?_)
        refine l_Rw1 C (k := 0) (nG_0 C.2.2.2.2.2.2.1) w v.2 413 h413 dL_sticks_413 ?_
        refine j_iconst (v := 1) C 414 dL_sticks_414 rfl ?_
        refine j_icmp_ne C 415 445 dL_sticks_415 (by decide) (fun c415 => ?_) (fun c415 => ?_)
        · refine j_L (L' := [(0, .ref (G.2.2 0)), (7, .int x2)]) [3, 2] rfl ?_
          exact wb_L_sticks_418 C hr (T.mono (a := 2) (z := 12) (by decide) (by decide)) v x2
        · refine j_aload C 445 7 rfl dL_sticks_445 ?_
          refine j_bipush (v := 8) C 447 dL_sticks_447 rfl ?_
          refine j_iload C 449 2 rfl dL_sticks_449 ?_
          refine j_imul C 451 dL_sticks_451 ?_
          refine j_iconst (v := 3) C 452 dL_sticks_452 rfl ?_
          refine j_iadd C 453 dL_sticks_453 ?_
          refine j_iconst (v := 1) C 454 dL_sticks_454 rfl ?_
          refine j_bind (fun x455 h455 => ?_)
          refine t_Rw1 C (k := 0) (nG_0 C.2.2.2.2.2.2.1) w v.2 455 h455 dL_sticks_455 ?_
          refine j_V (V' := (v.1, sRw w 0 (v.2.1, x455, v.2.2.2))) rfl ?_
          refine j_aload_n C 456 3 rfl dL_sticks_456 ?_
          refine j_iload C 457 2 rfl dL_sticks_457 ?_
          refine j_bind (fun x459 h459 => ?_)
          refine j_callW (As := [.ref (G.2.2 0), .int x2]) (st := []) C T.1 (T.d1 (by decide)) (T.d2 (by decide)) kw_L_fail 459 (c_L_fail C.2.2.2.2.2.2.1 T.2.1 _ _ h459) ml_L_93 st_L_fail dL_sticks_459 (by decide) rfl (Nat.le_of_ble_eq_true rfl) ?_ rfl
          have C := C.add (k := 1) (z := 6) (T.d1 (by decide)) (T.d2 (by decide))
          have T := TB.add (a := 4) (z := 24) (k := 1) (y := 6) T
          refine j_V (V' := (x459.2, sRw w 0 (v.2.1, x455, v.2.2.2))) rfl ?_
          refine j_iload C 462 0 rfl dL_sticks_462 ?_
          refine j_if_eq C 464 480 dL_sticks_464 (by decide) (fun c464 => ?_) (fun c464 => ?_)
          · refine j_iconst (v := 0) C 480 dL_sticks_480 rfl ?_
            refine j_L (L' := []) [] rfl ?_
            exact wb_L_sticks_481 C hr (T.mono (a := 0) (z := 0) (by decide) (by decide)) (x459.2, (v.2.1, x455, v.2.2.2)) 0 x459.1
          · refine j_aload_n C 467 6 rfl dL_sticks_467 ?_
            refine j_aload C 468 8 rfl dL_sticks_468 ?_
            refine j_aload C 470 9 rfl dL_sticks_470 ?_
            refine j_iload C 472 2 rfl dL_sticks_472 ?_
            refine j_bind (fun x474 h474 => ?_)
            refine j_callS_i (As := [.ref (G.2.2 (114 + 0)), .ref (G.2.2 (114 + (2 + 0))), .ref (G.2.2 (114 + (3 + 0))), .int x2]) (st := [.int x459.1]) C k_L_used 474 (c_L_used C.2.2.2.2.2.2.1 (c := x459.2) (w := (sRw w 0 (v.2.1, x455, v.2.2.2))) _ _ (114 + 0) (nG_lt C.2.2.2.2.2.2.1 (by omega)) (a_Rw0 x459.2 w 0 (v.2.1, x455, v.2.2.2)) _ _ (114 + (2 + 0)) (nG_lt C.2.2.2.2.2.2.1 (by omega)) (a_Rw2 x459.2 w 0 (v.2.1, x455, v.2.2.2)) _ _ (114 + (3 + 0)) (nG_lt C.2.2.2.2.2.2.1 (by omega)) (a_Rw3 x459.2 w 0 (v.2.1, x455, v.2.2.2)) _ h474) rfl ml_L_90 st_L_used dL_sticks_474 (by decide) rfl (Nat.le_of_ble_eq_true rfl) ?_ rfl
            refine j_goto C 477 481 dL_sticks_477 (by decide) ?_
            refine j_L (L' := []) [] rfl ?_
            exact wb_L_sticks_481 C hr (T.mono (a := 0) (z := 0) (by decide) (by decide)) (x459.2, (v.2.1, x455, v.2.2.2)) x474 x459.1
theorem c_L_sticks {G : GG} {l : Launch} {sa : Nat → Nat} (hG : Gok G) (hl : l.stackTraces = false) {w : VW} (v : (VC × VRw)) (a1 : Int32) (a2 : Int32) {x : (Int32 × (VC × VRw))} (hf : f_L_sticks v a1 a2 = some x) : CtB l yL_sticks cL_sticks 14 (some .boolean) 10 [.ref (G.2.2 0), .int a1, .int a2, .ref (G.2.2 (114 + 0)), .ref (G.2.2 (114 + (1 + 0))), .ref (G.2.2 (114 + (2 + 0))), .ref (G.2.2 (114 + (3 + 0)))] G sa (v.1, sRw w 0 v.2) (some (.int x.1)) (x.2.1, sRw w 0 x.2.2) 5 30 := by
  refine ctb_of (rv := fun x : (Int32 × (VC × VRw)) => (some (.int x.1))) (fin := fun x : (Int32 × (VC × VRw)) => ((x.2.1, sRw w 0 x.2.2) : VA)) (own := RL) hG hl (plainFor_of_name (by decide)) rfl (Nat.le_of_ble_eq_true rfl) (fun X C hr T => ?_) hf
  exact w_L_sticks C hr (T.mono (a := 5) (z := 30) (by decide) (by decide)) v a1 a2
set_option maxRecDepth 100000 in
set_option maxHeartbeats 4000000 in
theorem wl_L_act_187 {G : GG} {X : WX} {sa : Nat → Nat} {KB ZB : Nat} {w : VW} (C : Cx G 12 X RL cL_act 10) (hr : (xM X).sig.returnType = (some .boolean)) (T : TB G sa KB ZB X 1 6) : ∀ (n : Nat) (v : (VC × VRw)) (s10 : Int32) (s11 : Int32), JS G 12 X (QB G X KB ZB (fun x : (Int32 × (VC × VRw)) => some (.int x.1)) (fun x : (Int32 × (VC × VRw)) => ((x.2.1, sRw w 0 x.2.2) : VA))) (l_L_act_187 n v s10 s11) (v.1, sRw w 0 v.2) 187 [(0, .ref (G.2.2 0)), (5, .ref (G.2.2 (114 + (2 + 0)))), (6, .ref (G.2.2 (114 + (3 + 0)))), (10, .int s10), (11, .int s11)] [] := by
  intro n
  induction n with
  | zero => intro _ _ _; exact j_none
  | succ n ih =>
    intro v s10 s11
    unfold l_L_act_187
    refine j_iload C 187 4 rfl dL_act_187 ?_
    refine j_bipush (v := 48) C 189 dL_act_189 rfl ?_
    refine j_icmp_ge C 191 212 dL_act_191 (by decide) (fun c191 => ?_) (fun c191 => ?_)
    · refine j_aload C 194 1 rfl dL_act_194 ?_
      refine j_iload C 196 4 rfl dL_act_196 ?_
      refine j_iconst (v := (-1)) C 198 dL_act_198 rfl ?_
      refine j_bind (fun x199 h199 => ?_)
      refine t_Rw2 C (k := 0) (nG_0 C.2.2.2.2.2.2.1) w v.2 199 h199 dL_act_199 ?_
      refine j_V (V' := (v.1, sRw w 0 (v.2.1, v.2.2.1, x199, v.2.2.2.2))) rfl ?_
      refine j_aload C 200 2 rfl dL_act_200 ?_
      refine j_iload C 202 4 rfl dL_act_202 ?_
      refine j_iconst (v := (-1)) C 204 dL_act_204 rfl ?_
      refine j_bind (fun x205 h205 => ?_)
      refine t_Rw3 C (k := 0) (nG_0 C.2.2.2.2.2.2.1) w (v.2.1, v.2.2.1, x199, v.2.2.2.2) 205 h205 dL_act_205 ?_
      refine j_V (V' := (v.1, sRw w 0 (v.2.1, v.2.2.1, x199, x205, v.2.2.2.2.2))) rfl ?_
      refine j_iinc (v := (s11 + 1)) (L1 := [(11, .int (s11 + 1)), (0, .ref (G.2.2 0)), (5, .ref (G.2.2 (114 + (2 + 0)))), (6, .ref (G.2.2 (114 + (3 + 0)))), (10, .int s10)]) C 206 4 rfl dL_act_206 rfl (by decide) rfl ?_
      refine j_goto C 209 187 dL_act_209 (by decide) ?_
      refine j_L (L' := [(0, .ref (G.2.2 0)), (5, .ref (G.2.2 (114 + (2 + 0)))), (6, .ref (G.2.2 (114 + (3 + 0)))), (10, .int s10), (11, .int (s11 + 1))]) [1, 2, 3, 4, 0] rfl ?_
      exact ih (v.1, (v.2.1, v.2.2.1, x199, x205, v.2.2.2.2.2)) s10 (s11 + 1)
    · refine j_aload_n C 212 0 rfl dL_act_212 ?_
      refine j_bind (fun x213 h213 => ?_)
      refine j_callW (As := [.ref (G.2.2 0)]) (st := []) C T.1 (T.d1 (by decide)) (T.d2 (by decide)) kw_L_stop 213 (c_L_stop C.2.2.2.2.2.2.1 T.2.1 _ h213) ml_L_105 st_L_stop dL_act_213 (by decide) rfl (Nat.le_of_ble_eq_true rfl) ?_ rfl
      have C := C.add (k := 1) (z := 6) (T.d1 (by decide)) (T.d2 (by decide))
      have T := TB.add (a := 0) (z := 0) (k := 1) (y := 6) T
      refine j_V (V' := (x213.2, sRw w 0 v.2)) rfl ?_
      refine j_iload C 216 3 rfl dL_act_216 ?_
      refine j_icmp_ne C 218 225 dL_act_218 (by decide) (fun c218 => ?_) (fun c218 => ?_)
      · refine j_iconst (v := 1) C 221 dL_act_221 rfl ?_
        refine j_goto C 222 226 dL_act_222 (by decide) ?_
        exact jb_zret C T 226 hr rfl rfl rfl dL_act_226
      · refine j_iconst (v := 0) C 225 dL_act_225 rfl ?_
        exact jb_zret C T 226 hr rfl rfl rfl dL_act_226
set_option maxRecDepth 100000 in
set_option maxHeartbeats 4000000 in
theorem wl_L_act_163 {G : GG} {X : WX} {sa : Nat → Nat} {KB ZB : Nat} {w : VW} (C : Cx G 12 X RL cL_act 10) (hr : (xM X).sig.returnType = (some .boolean)) (T : TB G sa KB ZB X 1 6) : ∀ (n : Nat) (v : (VC × VRw)) (s10 : Int32) (s11 : Int32), JS G 12 X (QB G X KB ZB (fun x : (Int32 × (VC × VRw)) => some (.int x.1)) (fun x : (Int32 × (VC × VRw)) => ((x.2.1, sRw w 0 x.2.2) : VA))) (l_L_act_163 n v s10 s11) (v.1, sRw w 0 v.2) 163 [(0, .ref (G.2.2 0)), (4, .ref (G.2.2 (114 + (1 + 0)))), (5, .ref (G.2.2 (114 + (2 + 0)))), (6, .ref (G.2.2 (114 + (3 + 0)))), (10, .int s10), (11, .int s11)] [] := by
  intro n
  induction n with
  | zero => intro _ _ _; exact j_none
  | succ n ih =>
    intro v s10 s11
    unfold l_L_act_163
    refine j_iload C 163 5 rfl dL_act_163 ?_
    refine j_bipush (v := 32) C 165 dL_act_165 rfl ?_
    refine j_icmp_ge C 167 184 dL_act_167 (by decide) (fun c167 => ?_) (fun c167 => ?_)
    · refine j_aload C 170 1 rfl dL_act_170 ?_
      refine j_iload C 172 5 rfl dL_act_172 ?_
      refine j_iconst (v := 4) C 174 dL_act_174 rfl ?_
      refine j_iadd C 175 dL_act_175 ?_
      refine j_iconst (v := 0) C 176 dL_act_176 rfl ?_
      refine j_bind (fun x177 h177 => ?_)
      refine t_Rw1 C (k := 0) (nG_0 C.2.2.2.2.2.2.1) w v.2 177 h177 dL_act_177 ?_
      refine j_V (V' := (v.1, sRw w 0 (v.2.1, x177, v.2.2.2))) rfl ?_
      refine j_iinc (v := (s11 + 8)) (L1 := [(11, .int (s11 + 8)), (0, .ref (G.2.2 0)), (4, .ref (G.2.2 (114 + (1 + 0)))), (5, .ref (G.2.2 (114 + (2 + 0)))), (6, .ref (G.2.2 (114 + (3 + 0)))), (10, .int s10)]) C 178 5 rfl dL_act_178 rfl (by decide) rfl ?_
      refine j_goto C 181 163 dL_act_181 (by decide) ?_
      refine j_L (L' := [(0, .ref (G.2.2 0)), (4, .ref (G.2.2 (114 + (1 + 0)))), (5, .ref (G.2.2 (114 + (2 + 0)))), (6, .ref (G.2.2 (114 + (3 + 0)))), (10, .int s10), (11, .int (s11 + 8))]) [1, 2, 3, 4, 5, 0] rfl ?_
      exact ih (v.1, (v.2.1, x177, v.2.2.2)) s10 (s11 + 8)
    · refine j_iconst (v := 0) C 184 dL_act_184 rfl ?_
      refine j_istore (L1 := [(11, .int 0), (0, .ref (G.2.2 0)), (4, .ref (G.2.2 (114 + (1 + 0)))), (5, .ref (G.2.2 (114 + (2 + 0)))), (6, .ref (G.2.2 (114 + (3 + 0)))), (10, .int s10)]) C 185 dL_act_185 (by decide) rfl ?_
      refine j_L (L' := [(0, .ref (G.2.2 0)), (5, .ref (G.2.2 (114 + (2 + 0)))), (6, .ref (G.2.2 (114 + (3 + 0)))), (10, .int s10), (11, .int 0)]) [1, 3, 4, 5, 0] rfl ?_
      exact wl_L_act_187 C hr (T.mono (a := 1) (z := 6) (by decide) (by decide)) FU v s10 0
set_option maxRecDepth 100000 in
set_option maxHeartbeats 4000000 in
theorem wb_L_act_373 {G : GG} {X : WX} {sa : Nat → Nat} {KB ZB : Nat} {w : VW} (C : Cx G 12 X RL cL_act 10) (hr : (xM X).sig.returnType = (some .boolean)) (T : TB G sa KB ZB X 1 6) (v : (VC × VRw)) (s9 : Int32) (s10 : Int32) (s11 : Int32) : JS G 12 X (QB G X KB ZB (fun x : (Int32 × (VC × VRw)) => some (.int x.1)) (fun x : (Int32 × (VC × VRw)) => ((x.2.1, sRw w 0 x.2.2) : VA))) (b_L_act_373 v s9 s10 s11) (v.1, sRw w 0 v.2) 373 [(0, .ref (G.2.2 0)), (9, .int s9), (10, .int s10), (11, .int s11)] [] := by
  unfold b_L_act_373
  refine j_aload_n C 373 0 rfl dL_act_373 ?_
  refine j_iload C 374 1 rfl dL_act_374 ?_
  refine j_iload C 376 2 rfl dL_act_376 ?_
  refine j_bind (fun x378 h378 => ?_)
  refine j_callW (As := [.ref (G.2.2 0), .int s9, .int s10]) (st := []) C T.1 (T.d1 (by decide)) (T.d2 (by decide)) kw_L_write 378 (c_L_write C.2.2.2.2.2.2.1 T.2.1 _ _ _ h378) ml_L_107 st_L_write dL_act_378 (by decide) rfl (Nat.le_of_ble_eq_true rfl) ?_ rfl
  have C := C.add (k := 1) (z := 6) (T.d1 (by decide)) (T.d2 (by decide))
  have T := TB.add (a := 0) (z := 0) (k := 1) (y := 6) T
  refine j_V (V' := (x378.2, sRw w 0 v.2)) rfl ?_
  refine j_iload C 381 3 rfl dL_act_381 ?_
  refine j_icmp_ne C 383 390 dL_act_383 (by decide) (fun c383 => ?_) (fun c383 => ?_)
  · refine j_iconst (v := 1) C 386 dL_act_386 rfl ?_
    refine j_goto C 387 391 dL_act_387 (by decide) ?_
    exact jb_zret C T 391 hr rfl rfl rfl dL_act_391
  · refine j_iconst (v := 0) C 390 dL_act_390 rfl ?_
    exact jb_zret C T 391 hr rfl rfl rfl dL_act_391
set_option maxRecDepth 100000 in
set_option maxHeartbeats 4000000 in
theorem wb_L_act_227 {G : GG} {X : WX} {sa : Nat → Nat} {KB ZB : Nat} {w : VW} (C : Cx G 12 X RL cL_act 10) (hr : (xM X).sig.returnType = (some .boolean)) (T : TB G sa KB ZB X 3 18) (v : (VC × VRw)) (s2 : Int32) (s8 : Int32) (s9 : Int32) : JS G 12 X (QB G X KB ZB (fun x : (Int32 × (VC × VRw)) => some (.int x.1)) (fun x : (Int32 × (VC × VRw)) => ((x.2.1, sRw w 0 x.2.2) : VA))) (b_L_act_227 v s2 s8 s9) (v.1, sRw w 0 v.2) 227 [(0, .ref (G.2.2 0)), (2, .int s2), (3, .ref (G.2.2 (114 + 0))), (4, .ref (G.2.2 (114 + (1 + 0)))), (5, .ref (G.2.2 (114 + (2 + 0)))), (6, .ref (G.2.2 (114 + (3 + 0)))), (7, .ref (G.2.2 (114 + (4 + 0)))), (8, .int s8), (9, .int s9)] [] := by
  unfold b_L_act_227
  refine j_iload C 227 7 rfl dL_act_227 ?_
  refine j_bipush (v := 6) C 229 dL_act_229 rfl ?_
  refine j_icmp_ge C 231 392 dL_act_231 (by decide) (fun c231 => ?_) (fun c231 => ?_)
  · refine j_iload_n C 234 1 rfl dL_act_234 ?_
    refine j_bipush (v := 6) C 235 dL_act_235 rfl ?_
    refine j_ishr C 237 dL_act_237 ?_
    refine j_bipush (v := 100) C 238 dL_act_238 rfl ?_
    refine j_bind (fun x240 h240 => ?_)
    refine j_callS_i (As := [.int ((s2 >>> ((6 : Int32) &&& 31)) : Int32), .int 100]) (st := []) C k_L_low 240 (c_L_low C.2.2.2.2.2.2.1 (c := v.1) (w := (sRw w 0 v.2)) _ _ h240) rfl ml_L_81 st_L_low dL_act_240 (by decide) rfl (Nat.le_of_ble_eq_true rfl) ?_ rfl
    refine j_istore (L1 := [(10, .int x240), (0, .ref (G.2.2 0)), (2, .int s2), (3, .ref (G.2.2 (114 + 0))), (4, .ref (G.2.2 (114 + (1 + 0)))), (5, .ref (G.2.2 (114 + (2 + 0)))), (6, .ref (G.2.2 (114 + (3 + 0)))), (7, .ref (G.2.2 (114 + (4 + 0)))), (8, .int s8), (9, .int s9)]) C 243 dL_act_243 (by decide) rfl ?_
    refine j_iload C 245 9 rfl dL_act_245 ?_
    refine j_aload_n C 247 3 rfl dL_act_247 ?_
    refine j_iconst (v := 0) C 248 dL_act_248 rfl ?_
    refine j_bind (fun x249 h249 => ?_)
    refine l_Rw0 C (k := 0) (nG_0 C.2.2.2.2.2.2.1) w v.2 249 h249 dL_act_249 ?_
    refine j_icmp_lt C 250 283 dL_act_250 (by decide) (fun c250 => ?_) (fun c250 => ?_)
    · refine j_aload C 283 4 rfl dL_act_283 ?_
      refine j_aload C 285 5 rfl dL_act_285 ?_
      refine j_aload C 287 6 rfl dL_act_287 ?_
      refine j_iload C 289 9 rfl dL_act_289 ?_
      refine j_bind (fun x291 h291 => ?_)
      refine j_callS_i (As := [.ref (G.2.2 (114 + (1 + 0))), .ref (G.2.2 (114 + (2 + 0))), .ref (G.2.2 (114 + (3 + 0))), .int s9]) (st := []) C k_L_can 291 (c_L_can C.2.2.2.2.2.2.1 (c := v.1) (w := (sRw w 0 v.2)) _ _ (114 + (1 + 0)) (nG_lt C.2.2.2.2.2.2.1 (by omega)) (a_Rw1 v.1 w 0 v.2) _ _ (114 + (2 + 0)) (nG_lt C.2.2.2.2.2.2.1 (by omega)) (a_Rw2 v.1 w 0 v.2) _ _ (114 + (3 + 0)) (nG_lt C.2.2.2.2.2.2.1 (by omega)) (a_Rw3 v.1 w 0 v.2) _ h291) rfl ml_L_110 st_L_can dL_act_291 (by decide) rfl (Nat.le_of_ble_eq_true rfl) ?_ rfl
      refine j_if_ne C 294 329 dL_act_294 (by decide) (fun c294 => ?_) (fun c294 => ?_)
      · refine j_aload_n C 297 1 rfl dL_act_297 ?_
        refine j_iload C 298 9 rfl dL_act_298 ?_
        refine j_iload C 300 0 rfl dL_act_300 ?_
        refine j_bind (fun x302 h302 => ?_)
        refine j_callW (As := [.ref (G.2.2 0), .int s9, .int x240]) (st := []) C T.1 (T.d1 (by decide)) (T.d2 (by decide)) kw_L_write 302 (c_L_write C.2.2.2.2.2.2.1 T.2.1 _ _ _ h302) ml_L_107 st_L_write dL_act_302 (by decide) rfl (Nat.le_of_ble_eq_true rfl) ?_ rfl
        have C := C.add (k := 1) (z := 6) (T.d1 (by decide)) (T.d2 (by decide))
        have T := TB.add (a := 2) (z := 12) (k := 1) (y := 6) T
        refine j_V (V' := (x302.2, sRw w 0 v.2)) rfl ?_
        refine j_bipush (v := (-33)) C 305 dL_act_305 rfl ?_
        refine j_icmp_ne C 307 327 dL_act_307 (by decide) (fun c307 => ?_) (fun c307 => ?_)
        · refine j_aload_n C 310 1 rfl dL_act_310 ?_
          refine j_iload C 311 9 rfl dL_act_311 ?_
          refine j_bipush (v := 100) C 313 dL_act_313 rfl ?_
          refine j_bind (fun x315 h315 => ?_)
          refine j_callW (As := [.ref (G.2.2 0), .int s9, .int 100]) (st := []) C T.1 (T.d1 (by decide)) (T.d2 (by decide)) kw_L_write 315 (c_L_write C.2.2.2.2.2.2.1 T.2.1 _ _ _ h315) ml_L_107 st_L_write dL_act_315 (by decide) rfl (Nat.le_of_ble_eq_true rfl) ?_ rfl
          have C := C.add (k := 1) (z := 6) (T.d1 (by decide)) (T.d2 (by decide))
          have T := TB.add (a := 1) (z := 6) (k := 1) (y := 6) T
          refine j_V (V' := (x315.2, sRw w 0 v.2)) rfl ?_
          refine j_bipush (v := (-32)) C 318 dL_act_318 rfl ?_
          refine j_icmp_ne C 320 327 dL_act_320 (by decide) (fun c320 => ?_) (fun c320 => ?_)
          · refine j_iconst (v := 1) C 323 dL_act_323 rfl ?_
            refine j_goto C 324 328 dL_act_324 (by decide) ?_
            exact jb_zret C T 328 hr rfl rfl rfl dL_act_328
          · refine j_iconst (v := 0) C 327 dL_act_327 rfl ?_
            exact jb_zret C T 328 hr rfl rfl rfl dL_act_328
        · refine j_iconst (v := 0) C 327 dL_act_327 rfl ?_
          exact jb_zret C T 328 hr rfl rfl rfl dL_act_328
      · refine j_aload C 329 7 rfl dL_act_329 ?_
        refine j_aload C 331 4 rfl dL_act_331 ?_
        refine j_aload C 333 5 rfl dL_act_333 ?_
        refine j_aload C 335 6 rfl dL_act_335 ?_
        refine j_iload C 337 9 rfl dL_act_337 ?_
        refine j_bind (fun x339 h339 => ?_)
        refine j_callS_i (As := [.ref (G.2.2 (114 + (1 + 0))), .ref (G.2.2 (114 + (2 + 0))), .ref (G.2.2 (114 + (3 + 0))), .int s9]) (st := [.ref (G.2.2 (114 + (4 + 0)))]) C k_L_readAt 339 (c_L_readAt C.2.2.2.2.2.2.1 (c := v.1) (w := (sRw w 0 v.2)) _ _ (114 + (1 + 0)) (nG_lt C.2.2.2.2.2.2.1 (by omega)) (a_Rw1 v.1 w 0 v.2) _ _ (114 + (2 + 0)) (nG_lt C.2.2.2.2.2.2.1 (by omega)) (a_Rw2 v.1 w 0 v.2) _ _ (114 + (3 + 0)) (nG_lt C.2.2.2.2.2.2.1 (by omega)) (a_Rw3 v.1 w 0 v.2) _ h339) rfl ml_L_74 st_L_readAt dL_act_339 (by decide) rfl (Nat.le_of_ble_eq_true rfl) ?_ rfl
        refine j_bind (fun x342 h342 => ?_)
        refine l_Rw4 C (k := 0) (nG_0 C.2.2.2.2.2.2.1) w v.2 342 h342 dL_act_342 ?_
        refine j_istore (L1 := [(11, .int x342), (10, .int x240), (0, .ref (G.2.2 0)), (2, .int s2), (3, .ref (G.2.2 (114 + 0))), (4, .ref (G.2.2 (114 + (1 + 0)))), (5, .ref (G.2.2 (114 + (2 + 0)))), (6, .ref (G.2.2 (114 + (3 + 0)))), (7, .ref (G.2.2 (114 + (4 + 0)))), (8, .int s8), (9, .int s9)]) C 343 dL_act_343 (by decide) rfl ?_
        refine j_aload C 345 8 rfl dL_act_345 ?_
        refine j_aload C 347 6 rfl dL_act_347 ?_
        refine j_iload C 349 10 rfl dL_act_349 ?_
        refine j_bind (fun x351 h351 => ?_)
        refine l_Rw2 C (k := 0) (nG_0 C.2.2.2.2.2.2.1) w v.2 351 h351 dL_act_351 ?_
        refine j_iload C 352 1 rfl dL_act_352 ?_
        refine j_bind (fun x354 h354 => ?_)
        refine t_Rw4 C (k := 0) (nG_0 C.2.2.2.2.2.2.1) w v.2 354 h354 dL_act_354 ?_
        refine j_V (V' := (v.1, sRw w 0 (v.2.1, v.2.2.1, v.2.2.2.1, v.2.2.2.2.1, x354))) rfl ?_
        refine j_aload C 355 7 rfl dL_act_355 ?_
        refine j_iload C 357 10 rfl dL_act_357 ?_
        refine j_bind (fun x359 h359 => ?_)
        refine l_Rw3 C (k := 0) (nG_0 C.2.2.2.2.2.2.1) w (v.2.1, v.2.2.1, v.2.2.2.1, v.2.2.2.2.1, x354) 359 h359 dL_act_359 ?_
        refine j_if_lt C 360 373 dL_act_360 (by decide) (fun c360 => ?_) (fun c360 => ?_)
        · refine j_L (L' := [(0, .ref (G.2.2 0)), (9, .int s9), (10, .int x240), (11, .int x342)]) [2, 10, 1, 0] rfl ?_
          exact wb_L_act_373 C hr (T.mono (a := 1) (z := 6) (by decide) (by decide)) (v.1, (v.2.1, v.2.2.1, v.2.2.2.1, v.2.2.2.2.1, x354)) s9 x240 x342
        · refine j_aload C 363 8 rfl dL_act_363 ?_
          refine j_aload C 365 7 rfl dL_act_365 ?_
          refine j_iload C 367 10 rfl dL_act_367 ?_
          refine j_bind (fun x369 h369 => ?_)
          refine l_Rw3 C (k := 0) (nG_0 C.2.2.2.2.2.2.1) w (v.2.1, v.2.2.1, v.2.2.2.1, v.2.2.2.2.1, x354) 369 h369 dL_act_369 ?_
          refine j_iload C 370 1 rfl dL_act_370 ?_
          refine j_bind (fun x372 h372 => ?_)
          refine t_Rw4 C (k := 0) (nG_0 C.2.2.2.2.2.2.1) w (v.2.1, v.2.2.1, v.2.2.2.1, v.2.2.2.2.1, x354) 372 h372 dL_act_372 ?_
          refine j_V (V' := (v.1, sRw w 0 (v.2.1, v.2.2.1, v.2.2.2.1, v.2.2.2.2.1, x372))) rfl ?_
          refine j_L (L' := [(0, .ref (G.2.2 0)), (9, .int s9), (10, .int x240), (11, .int x342)]) [2, 10, 1, 0] rfl ?_
          exact wb_L_act_373 C hr (T.mono (a := 1) (z := 6) (by decide) (by decide)) (v.1, (v.2.1, v.2.2.1, v.2.2.2.1, v.2.2.2.2.1, x372)) s9 x240 x342
    · refine j_aload_n C 253 1 rfl dL_act_253 ?_
      refine j_iload C 254 9 rfl dL_act_254 ?_
      refine j_bipush (v := 100) C 256 dL_act_256 rfl ?_
      refine j_bind (fun x258 h258 => ?_)
      refine j_callW (As := [.ref (G.2.2 0), .int s9, .int 100]) (st := []) C T.1 (T.d1 (by decide)) (T.d2 (by decide)) kw_L_write 258 (c_L_write C.2.2.2.2.2.2.1 T.2.1 _ _ _ h258) ml_L_107 st_L_write dL_act_258 (by decide) rfl (Nat.le_of_ble_eq_true rfl) ?_ rfl
      have C := C.add (k := 1) (z := 6) (T.d1 (by decide)) (T.d2 (by decide))
      have T := TB.add (a := 2) (z := 12) (k := 1) (y := 6) T
      refine j_V (V' := (x258.2, sRw w 0 v.2)) rfl ?_
      refine j_bipush (v := (-31)) C 261 dL_act_261 rfl ?_
      refine j_icmp_ne C 263 281 dL_act_263 (by decide) (fun c263 => ?_) (fun c263 => ?_)
      · refine j_aload_n C 266 1 rfl dL_act_266 ?_
        refine j_iconst (v := (-1)) C 267 dL_act_267 rfl ?_
        refine j_iconst (v := 0) C 268 dL_act_268 rfl ?_
        refine j_bind (fun x269 h269 => ?_)
        refine j_callW (As := [.ref (G.2.2 0), .int (-1), .int 0]) (st := []) C T.1 (T.d1 (by decide)) (T.d2 (by decide)) kw_L_write 269 (c_L_write C.2.2.2.2.2.2.1 T.2.1 _ _ _ h269) ml_L_107 st_L_write dL_act_269 (by decide) rfl (Nat.le_of_ble_eq_true rfl) ?_ rfl
        have C := C.add (k := 1) (z := 6) (T.d1 (by decide)) (T.d2 (by decide))
        have T := TB.add (a := 1) (z := 6) (k := 1) (y := 6) T
        refine j_V (V' := (x269.2, sRw w 0 v.2)) rfl ?_
        refine j_bipush (v := (-31)) C 272 dL_act_272 rfl ?_
        refine j_icmp_ne C 274 281 dL_act_274 (by decide) (fun c274 => ?_) (fun c274 => ?_)
        · refine j_iconst (v := 1) C 277 dL_act_277 rfl ?_
          refine j_goto C 278 282 dL_act_278 (by decide) ?_
          exact jb_zret C T 282 hr rfl rfl rfl dL_act_282
        · refine j_iconst (v := 0) C 281 dL_act_281 rfl ?_
          exact jb_zret C T 282 hr rfl rfl rfl dL_act_282
      · refine j_iconst (v := 0) C 281 dL_act_281 rfl ?_
        exact jb_zret C T 282 hr rfl rfl rfl dL_act_282
  · refine j_iload C 392 7 rfl dL_act_392 ?_
    refine j_bipush (v := 10) C 394 dL_act_394 rfl ?_
    refine j_icmp_ge C 396 497 dL_act_396 (by decide) (fun c396 => ?_) (fun c396 => ?_)
    · refine j_iload C 399 8 rfl dL_act_399 ?_
      refine j_aload_n C 401 2 rfl dL_act_401 ?_
      refine j_iconst (v := 0) C 402 dL_act_402 rfl ?_
      refine j_bind (fun x403 h403 => ?_)
      refine l_Rw0 C (k := 0) (nG_0 C.2.2.2.2.2.2.1) w v.2 403 h403 dL_act_403 ?_
      refine j_icmp_lt C 404 424 dL_act_404 (by decide) (fun c404 => ?_) (fun c404 => ?_)
      · refine j_aload C 424 3 rfl dL_act_424 ?_
        refine j_aload C 426 4 rfl dL_act_426 ?_
        refine j_aload C 428 5 rfl dL_act_428 ?_
        refine j_iload C 430 8 rfl dL_act_430 ?_
        refine j_bind (fun x432 h432 => ?_)
        refine j_callS_i (As := [.ref (G.2.2 (114 + (1 + 0))), .ref (G.2.2 (114 + (2 + 0))), .ref (G.2.2 (114 + (3 + 0))), .int s9]) (st := []) C k_L_can 432 (c_L_can C.2.2.2.2.2.2.1 (c := v.1) (w := (sRw w 0 v.2)) _ _ (114 + (1 + 0)) (nG_lt C.2.2.2.2.2.2.1 (by omega)) (a_Rw1 v.1 w 0 v.2) _ _ (114 + (2 + 0)) (nG_lt C.2.2.2.2.2.2.1 (by omega)) (a_Rw2 v.1 w 0 v.2) _ _ (114 + (3 + 0)) (nG_lt C.2.2.2.2.2.2.1 (by omega)) (a_Rw3 v.1 w 0 v.2) _ h432) rfl ml_L_110 st_L_can dL_act_432 (by decide) rfl (Nat.le_of_ble_eq_true rfl) ?_ rfl
        refine j_if_ne C 435 455 dL_act_435 (by decide) (fun c435 => ?_) (fun c435 => ?_)
        · refine j_aload_n C 438 0 rfl dL_act_438 ?_
          refine j_iload C 439 8 rfl dL_act_439 ?_
          refine j_bind (fun x441 h441 => ?_)
          refine j_callW (As := [.ref (G.2.2 0), .int s9]) (st := []) C T.1 (T.d1 (by decide)) (T.d2 (by decide)) kw_L_read 441 (c_L_read C.2.2.2.2.2.2.1 T.2.1 _ _ h441) ml_L_114 st_L_read dL_act_441 (by decide) rfl (Nat.le_of_ble_eq_true rfl) ?_ rfl
          have C := C.add (k := 1) (z := 6) (T.d1 (by decide)) (T.d2 (by decide))
          have T := TB.add (a := 2) (z := 12) (k := 1) (y := 6) T
          refine j_V (V' := (x441.2, sRw w 0 v.2)) rfl ?_
          refine j_bipush (v := (-33)) C 444 dL_act_444 rfl ?_
          refine j_icmp_ne C 446 453 dL_act_446 (by decide) (fun c446 => ?_) (fun c446 => ?_)
          · refine j_iconst (v := 1) C 449 dL_act_449 rfl ?_
            refine j_goto C 450 454 dL_act_450 (by decide) ?_
            exact jb_zret C T 454 hr rfl rfl rfl dL_act_454
          · refine j_iconst (v := 0) C 453 dL_act_453 rfl ?_
            exact jb_zret C T 454 hr rfl rfl rfl dL_act_454
        · refine j_aload_n C 455 2 rfl dL_act_455 ?_
          refine j_aload C 456 3 rfl dL_act_456 ?_
          refine j_aload C 458 4 rfl dL_act_458 ?_
          refine j_aload C 460 5 rfl dL_act_460 ?_
          refine j_iload C 462 8 rfl dL_act_462 ?_
          refine j_iconst (v := 0) C 464 dL_act_464 rfl ?_
          refine j_bind (fun x465 h465 => ?_)
          refine j_callS_v (As := [.ref (G.2.2 (114 + 0)), .ref (G.2.2 (114 + (1 + 0))), .ref (G.2.2 (114 + (2 + 0))), .ref (G.2.2 (114 + (3 + 0))), .int s9, .int 0]) (st := []) C k_L_reads 465 (c_L_reads C.2.2.2.2.2.2.1 (c := v.1) (w := w) (k := 0) (nG_0 C.2.2.2.2.2.2.1) v.2 _ _ h465) rfl ml_L_116 st_L_reads dL_act_465 (by decide) rfl (Nat.le_of_ble_eq_true rfl) ?_ rfl
          refine j_V (V' := (v.1, sRw w 0 x465)) rfl ?_
          refine j_aload_n C 468 0 rfl dL_act_468 ?_
          refine j_iload C 469 8 rfl dL_act_469 ?_
          refine j_bind (fun x471 h471 => ?_)
          refine j_callW (As := [.ref (G.2.2 0), .int s9]) (st := []) C T.1 (T.d1 (by decide)) (T.d2 (by decide)) kw_L_read 471 (c_L_read C.2.2.2.2.2.2.1 T.2.1 _ _ h471) ml_L_114 st_L_read dL_act_471 (by decide) rfl (Nat.le_of_ble_eq_true rfl) ?_ rfl
          have C := C.add (k := 1) (z := 6) (T.d1 (by decide)) (T.d2 (by decide))
          have T := TB.add (a := 2) (z := 12) (k := 1) (y := 6) T
          refine j_V (V' := (x471.2, sRw w 0 x465)) rfl ?_
          refine j_aload C 474 6 rfl dL_act_474 ?_
          refine j_aload C 476 3 rfl dL_act_476 ?_
          refine j_aload C 478 4 rfl dL_act_478 ?_
          refine j_aload C 480 5 rfl dL_act_480 ?_
          refine j_iload C 482 8 rfl dL_act_482 ?_
          refine j_bind (fun x484 h484 => ?_)
          refine j_callS_i (As := [.ref (G.2.2 (114 + (1 + 0))), .ref (G.2.2 (114 + (2 + 0))), .ref (G.2.2 (114 + (3 + 0))), .int s9]) (st := [.ref (G.2.2 (114 + (4 + 0))), .int x471.1]) C k_L_readAt 484 (c_L_readAt C.2.2.2.2.2.2.1 (c := x471.2) (w := (sRw w 0 x465)) _ _ (114 + (1 + 0)) (nG_lt C.2.2.2.2.2.2.1 (by omega)) (a_Rw1 x471.2 w 0 x465) _ _ (114 + (2 + 0)) (nG_lt C.2.2.2.2.2.2.1 (by omega)) (a_Rw2 x471.2 w 0 x465) _ _ (114 + (3 + 0)) (nG_lt C.2.2.2.2.2.2.1 (by omega)) (a_Rw3 x471.2 w 0 x465) _ h484) rfl ml_L_74 st_L_readAt dL_act_484 (by decide) rfl (Nat.le_of_ble_eq_true rfl) ?_ rfl
          refine j_bind (fun x487 h487 => ?_)
          refine l_Rw4 C (k := 0) (nG_0 C.2.2.2.2.2.2.1) w x465 487 h487 dL_act_487 ?_
          refine j_icmp_ne C 488 495 dL_act_488 (by decide) (fun c488 => ?_) (fun c488 => ?_)
          · refine j_iconst (v := 1) C 491 dL_act_491 rfl ?_
            refine j_goto C 492 496 dL_act_492 (by decide) ?_
            exact jb_zret C T 496 hr rfl rfl rfl dL_act_496
          · refine j_iconst (v := 0) C 495 dL_act_495 rfl ?_
            exact jb_zret C T 496 hr rfl rfl rfl dL_act_496
      · refine j_aload_n C 407 0 rfl dL_act_407 ?_
        refine j_iload C 408 8 rfl dL_act_408 ?_
        refine j_bind (fun x410 h410 => ?_)
        refine j_callW (As := [.ref (G.2.2 0), .int s9]) (st := []) C T.1 (T.d1 (by decide)) (T.d2 (by decide)) kw_L_read 410 (c_L_read C.2.2.2.2.2.2.1 T.2.1 _ _ h410) ml_L_114 st_L_read dL_act_410 (by decide) rfl (Nat.le_of_ble_eq_true rfl) ?_ rfl
        have C := C.add (k := 1) (z := 6) (T.d1 (by decide)) (T.d2 (by decide))
        have T := TB.add (a := 2) (z := 12) (k := 1) (y := 6) T
        refine j_V (V' := (x410.2, sRw w 0 v.2)) rfl ?_
        refine j_bipush (v := (-31)) C 413 dL_act_413 rfl ?_
        refine j_icmp_ne C 415 422 dL_act_415 (by decide) (fun c415 => ?_) (fun c415 => ?_)
        · refine j_iconst (v := 1) C 418 dL_act_418 rfl ?_
          refine j_goto C 419 423 dL_act_419 (by decide) ?_
          exact jb_zret C T 423 hr rfl rfl rfl dL_act_423
        · refine j_iconst (v := 0) C 422 dL_act_422 rfl ?_
          exact jb_zret C T 423 hr rfl rfl rfl dL_act_423
    · refine j_iload C 497 7 rfl dL_act_497 ?_
      refine j_bipush (v := 10) C 499 dL_act_499 rfl ?_
      refine j_icmp_ne C 501 561 dL_act_501 (by decide) (fun c501 => ?_) (fun c501 => ?_)
      · refine j_iconst (v := 1) C 504 dL_act_504 rfl ?_
        refine j_iload_n C 505 1 rfl dL_act_505 ?_
        refine j_bipush (v := 12) C 506 dL_act_506 rfl ?_
        refine j_bind (fun x508 h508 => ?_)
        refine j_callS_i (As := [.int s2, .int 12]) (st := [.int 1]) C k_L_low 508 (c_L_low C.2.2.2.2.2.2.1 (c := v.1) (w := (sRw w 0 v.2)) _ _ h508) rfl ml_L_81 st_L_low dL_act_508 (by decide) rfl (Nat.le_of_ble_eq_true rfl) ?_ rfl
        refine j_iadd C 511 dL_act_511 ?_
        refine j_istore (L1 := [(10, .int (1 + x508)), (0, .ref (G.2.2 0)), (2, .int s2), (3, .ref (G.2.2 (114 + 0))), (4, .ref (G.2.2 (114 + (1 + 0)))), (5, .ref (G.2.2 (114 + (2 + 0)))), (6, .ref (G.2.2 (114 + (3 + 0)))), (7, .ref (G.2.2 (114 + (4 + 0)))), (8, .int s8), (9, .int s9)]) C 512 dL_act_512 (by decide) rfl ?_
        refine j_aload_n C 514 3 rfl dL_act_514 ?_
        refine j_iconst (v := 2) C 515 dL_act_515 rfl ?_
        refine j_dup2 C 516 dL_act_516 rfl rfl ?_
        refine j_bind (fun x517 h517 => ?_)
        refine l_Rw0 C (k := 0) (nG_0 C.2.2.2.2.2.2.1) w v.2 517 h517 dL_act_517 ?_
        refine j_iload C 518 0 rfl dL_act_518 ?_
        refine j_iadd C 520 dL_act_520 ?_
        refine j_bind (fun x521 h521 => ?_)
        refine t_Rw0 C (k := 0) (nG_0 C.2.2.2.2.2.2.1) w v.2 521 h521 dL_act_521 ?_
        refine j_V (V' := (v.1, sRw w 0 (x521, v.2.2))) rfl ?_
        refine j_aload_n C 522 1 rfl dL_act_522 ?_
        refine j_iload C 523 0 rfl dL_act_523 ?_
        refine j_bind (fun x525 h525 => ?_)
        refine j_callW (As := [.ref (G.2.2 0), .int (1 + x508)]) (st := []) C T.1 (T.d1 (by decide)) (T.d2 (by decide)) kw_L_rest 525 (c_L_rest C.2.2.2.2.2.2.1 T.2.1 _ _ h525) ml_L_120 st_L_rest dL_act_525 (by decide) rfl (Nat.le_of_ble_eq_true rfl) ?_ rfl
        have C := C.add (k := 1) (z := 6) (T.d1 (by decide)) (T.d2 (by decide))
        have T := TB.add (a := 2) (z := 12) (k := 1) (y := 6) T
        refine j_V (V' := (x525.2, sRw w 0 (x521, v.2.2))) rfl ?_
        refine j_aload_n C 528 3 rfl dL_act_528 ?_
        refine j_iconst (v := 2) C 529 dL_act_529 rfl ?_
        refine j_bind (fun x530 h530 => ?_)
        refine l_Rw0 C (k := 0) (nG_0 C.2.2.2.2.2.2.1) w (x521, v.2.2) 530 h530 dL_act_530 ?_
        refine j_icmp_ne C 531 559 dL_act_531 (by decide) (fun c531 => ?_) (fun c531 => ?_)
        · refine j_aload_n C 534 1 rfl dL_act_534 ?_
          refine j_iconst (v := 0) C 535 dL_act_535 rfl ?_
          refine j_bind (fun x536 h536 => ?_)
          refine j_callW (As := [.ref (G.2.2 0), .int 0]) (st := []) C T.1 (T.d1 (by decide)) (T.d2 (by decide)) kw_L_rest 536 (c_L_rest C.2.2.2.2.2.2.1 T.2.1 _ _ h536) ml_L_120 st_L_rest dL_act_536 (by decide) rfl (Nat.le_of_ble_eq_true rfl) ?_ rfl
          have C := C.add (k := 1) (z := 6) (T.d1 (by decide)) (T.d2 (by decide))
          have T := TB.add (a := 1) (z := 6) (k := 1) (y := 6) T
          refine j_V (V' := (x536.2, sRw w 0 (x521, v.2.2))) rfl ?_
          refine j_bipush (v := (-32)) C 539 dL_act_539 rfl ?_
          refine j_icmp_ne C 541 559 dL_act_541 (by decide) (fun c541 => ?_) (fun c541 => ?_)
          · refine j_aload_n C 544 1 rfl dL_act_544 ?_
            refine j_bipush (v := 100) C 545 dL_act_545 rfl ?_
            refine j_bind (fun x547 h547 => ?_)
            refine j_callW (As := [.ref (G.2.2 0), .int 100]) (st := []) C T.1 (T.d1 (by decide)) (T.d2 (by decide)) kw_L_rest 547 (c_L_rest C.2.2.2.2.2.2.1 T.2.1 _ _ h547) ml_L_120 st_L_rest dL_act_547 (by decide) rfl (Nat.le_of_ble_eq_true rfl) ?_ rfl
            have C := C.add (k := 1) (z := 6) (T.d1 (by decide)) (T.d2 (by decide))
            have T := TB.add (a := 0) (z := 0) (k := 1) (y := 6) T
            refine j_V (V' := (x547.2, sRw w 0 (x521, v.2.2))) rfl ?_
            refine j_bipush (v := (-32)) C 550 dL_act_550 rfl ?_
            refine j_icmp_ne C 552 559 dL_act_552 (by decide) (fun c552 => ?_) (fun c552 => ?_)
            · refine j_iconst (v := 1) C 555 dL_act_555 rfl ?_
              refine j_goto C 556 560 dL_act_556 (by decide) ?_
              exact jb_zret C T 560 hr rfl rfl rfl dL_act_560
            · refine j_iconst (v := 0) C 559 dL_act_559 rfl ?_
              exact jb_zret C T 560 hr rfl rfl rfl dL_act_560
          · refine j_iconst (v := 0) C 559 dL_act_559 rfl ?_
            exact jb_zret C T 560 hr rfl rfl rfl dL_act_560
        · refine j_iconst (v := 0) C 559 dL_act_559 rfl ?_
          exact jb_zret C T 560 hr rfl rfl rfl dL_act_560
      · refine j_iload_n C 561 1 rfl dL_act_561 ?_
        refine j_iconst (v := 1) C 562 dL_act_562 rfl ?_
        refine j_iand C 563 dL_act_563 ?_
        refine j_istore (L1 := [(10, .int (s2 &&& 1)), (0, .ref (G.2.2 0)), (2, .int s2), (3, .ref (G.2.2 (114 + 0))), (4, .ref (G.2.2 (114 + (1 + 0)))), (5, .ref (G.2.2 (114 + (2 + 0)))), (6, .ref (G.2.2 (114 + (3 + 0)))), (7, .ref (G.2.2 (114 + (4 + 0)))), (8, .int s8), (9, .int s9)]) C 564 dL_act_564 (by decide) rfl ?_
        refine j_aload_n C 566 3 rfl dL_act_566 ?_
        refine j_bipush (v := 7) C 567 dL_act_567 rfl ?_
        refine j_iload C 569 0 rfl dL_act_569 ?_
        refine j_iadd C 571 dL_act_571 ?_
        refine j_bind (fun x572 h572 => ?_)
        refine l_Rw0 C (k := 0) (nG_0 C.2.2.2.2.2.2.1) w v.2 572 h572 dL_act_572 ?_
        refine j_istore (L1 := [(11, .int x572), (10, .int (s2 &&& 1)), (0, .ref (G.2.2 0)), (2, .int s2), (3, .ref (G.2.2 (114 + 0))), (4, .ref (G.2.2 (114 + (1 + 0)))), (5, .ref (G.2.2 (114 + (2 + 0)))), (6, .ref (G.2.2 (114 + (3 + 0)))), (7, .ref (G.2.2 (114 + (4 + 0)))), (8, .int s8), (9, .int s9)]) C 573 dL_act_573 (by decide) rfl ?_
        refine j_aload_n C 575 4 rfl dL_act_575 ?_
        refine j_bipush (v := 7) C 576 dL_act_576 rfl ?_
        refine j_iload C 578 1 rfl dL_act_578 ?_
        refine j_iadd C 580 dL_act_580 ?_
        refine j_iload_n C 581 3 rfl dL_act_581 ?_
        refine j_iconst (v := 1) C 582 dL_act_582 rfl ?_
        refine j_ishr C 583 dL_act_583 ?_
        refine j_iconst (v := 3) C 584 dL_act_584 rfl ?_
        refine j_iload C 585 1 rfl dL_act_585 ?_
        refine j_isub C 587 dL_act_587 ?_
        refine j_bind (fun x588 h588 => ?_)
        refine j_callS_i (As := [.int ((s2 >>> ((1 : Int32) &&& 31)) : Int32), .int (3 - (s2 &&& 1))]) (st := [.int (7 + (s2 &&& 1)), .ref (G.2.2 (114 + 0))]) C k_L_low 588 (c_L_low C.2.2.2.2.2.2.1 (c := v.1) (w := (sRw w 0 v.2)) _ _ h588) rfl ml_L_81 st_L_low dL_act_588 (by decide) rfl (Nat.le_of_ble_eq_true rfl) ?_ rfl
        refine j_bind (fun x591 h591 => ?_)
        refine t_Rw0 C (k := 0) (nG_0 C.2.2.2.2.2.2.1) w v.2 591 h591 dL_act_591 ?_
        refine j_V (V' := (v.1, sRw w 0 (x591, v.2.2))) rfl ?_
        refine j_aload_n C 592 2 rfl dL_act_592 ?_
        refine j_iload C 593 1 rfl dL_act_593 ?_
        refine j_aload_n C 595 4 rfl dL_act_595 ?_
        refine j_bipush (v := 7) C 596 dL_act_596 rfl ?_
        refine j_iload C 598 1 rfl dL_act_598 ?_
        refine j_iadd C 600 dL_act_600 ?_
        refine j_bind (fun x601 h601 => ?_)
        refine l_Rw0 C (k := 0) (nG_0 C.2.2.2.2.2.2.1) w (x591, v.2.2) 601 h601 dL_act_601 ?_
        refine j_bind (fun x602 h602 => ?_)
        refine j_callW (As := [.ref (G.2.2 0), .int (s2 &&& 1), .int x601]) (st := []) C T.1 (T.d1 (by decide)) (T.d2 (by decide)) kw_L_set 602 (c_L_set C.2.2.2.2.2.2.1 T.2.1 _ _ _ h602) ml_L_122 st_L_set dL_act_602 (by decide) rfl (Nat.le_of_ble_eq_true rfl) ?_ rfl
        have C := C.add (k := 1) (z := 6) (T.d1 (by decide)) (T.d2 (by decide))
        have T := TB.add (a := 2) (z := 12) (k := 1) (y := 6) T
        refine j_V (V' := (x602.2, sRw w 0 (x591, v.2.2))) rfl ?_
        refine j_iload C 605 0 rfl dL_act_605 ?_
        refine j_icmp_ne C 607 636 dL_act_607 (by decide) (fun c607 => ?_) (fun c607 => ?_)
        · refine j_aload_n C 610 2 rfl dL_act_610 ?_
          refine j_iconst (v := 1) C 611 dL_act_611 rfl ?_
          refine j_iconst (v := 2) C 612 dL_act_612 rfl ?_
          refine j_bind (fun x613 h613 => ?_)
          refine j_callW (As := [.ref (G.2.2 0), .int 1, .int 2]) (st := []) C T.1 (T.d1 (by decide)) (T.d2 (by decide)) kw_L_set 613 (c_L_set C.2.2.2.2.2.2.1 T.2.1 _ _ _ h613) ml_L_122 st_L_set dL_act_613 (by decide) rfl (Nat.le_of_ble_eq_true rfl) ?_ rfl
          have C := C.add (k := 1) (z := 6) (T.d1 (by decide)) (T.d2 (by decide))
          have T := TB.add (a := 1) (z := 6) (k := 1) (y := 6) T
          refine j_V (V' := (x613.2, sRw w 0 (x591, v.2.2))) rfl ?_
          refine j_bipush (v := (-32)) C 616 dL_act_616 rfl ?_
          refine j_icmp_ne C 618 636 dL_act_618 (by decide) (fun c618 => ?_) (fun c618 => ?_)
          · refine j_aload_n C 621 2 rfl dL_act_621 ?_
            refine j_iconst (v := 2) C 622 dL_act_622 rfl ?_
            refine j_iconst (v := 0) C 623 dL_act_623 rfl ?_
            refine j_bind (fun x624 h624 => ?_)
            refine j_callW (As := [.ref (G.2.2 0), .int 2, .int 0]) (st := []) C T.1 (T.d1 (by decide)) (T.d2 (by decide)) kw_L_set 624 (c_L_set C.2.2.2.2.2.2.1 T.2.1 _ _ _ h624) ml_L_122 st_L_set dL_act_624 (by decide) rfl (Nat.le_of_ble_eq_true rfl) ?_ rfl
            have C := C.add (k := 1) (z := 6) (T.d1 (by decide)) (T.d2 (by decide))
            have T := TB.add (a := 0) (z := 0) (k := 1) (y := 6) T
            refine j_V (V' := (x624.2, sRw w 0 (x591, v.2.2))) rfl ?_
            refine j_bipush (v := (-31)) C 627 dL_act_627 rfl ?_
            refine j_icmp_ne C 629 636 dL_act_629 (by decide) (fun c629 => ?_) (fun c629 => ?_)
            · refine j_iconst (v := 1) C 632 dL_act_632 rfl ?_
              refine j_goto C 633 637 dL_act_633 (by decide) ?_
              exact jb_zret C T 637 hr rfl rfl rfl dL_act_637
            · refine j_iconst (v := 0) C 636 dL_act_636 rfl ?_
              exact jb_zret C T 637 hr rfl rfl rfl dL_act_637
          · refine j_iconst (v := 0) C 636 dL_act_636 rfl ?_
            exact jb_zret C T 637 hr rfl rfl rfl dL_act_637
        · refine j_iconst (v := 0) C 636 dL_act_636 rfl ?_
          exact jb_zret C T 637 hr rfl rfl rfl dL_act_637
set_option maxRecDepth 100000 in
set_option maxHeartbeats 4000000 in
theorem wb_L_act_29 {G : GG} {X : WX} {sa : Nat → Nat} {KB ZB : Nat} {w : VW} (C : Cx G 12 X RL cL_act 10) (hr : (xM X).sig.returnType = (some .boolean)) (T : TB G sa KB ZB X 3 18) (v : (VC × VRw)) (s2 : Int32) (s8 : Int32) (t0 : Int32) (t1 : Int32) : JS G 12 X (QB G X KB ZB (fun x : (Int32 × (VC × VRw)) => some (.int x.1)) (fun x : (Int32 × (VC × VRw)) => ((x.2.1, sRw w 0 x.2.2) : VA))) (b_L_act_29 v s2 s8 t0 t1) (v.1, sRw w 0 v.2) 29 [(0, .ref (G.2.2 0)), (2, .int s2), (3, .ref (G.2.2 (114 + 0))), (4, .ref (G.2.2 (114 + (1 + 0)))), (5, .ref (G.2.2 (114 + (2 + 0)))), (6, .ref (G.2.2 (114 + (3 + 0)))), (7, .ref (G.2.2 (114 + (4 + 0)))), (8, .int s8)] [.int t0, .int t1] := by
  unfold b_L_act_29
  refine j_bind (fun x29 h29 => ?_)
  refine j_callS_i (As := [.int t1, .int t0]) (st := []) C k_L_low 29 (c_L_low C.2.2.2.2.2.2.1 (c := v.1) (w := (sRw w 0 v.2)) _ _ h29) rfl ml_L_81 st_L_low dL_act_29 (by decide) rfl (Nat.le_of_ble_eq_true rfl) ?_ rfl
  refine j_istore (L1 := [(9, .int x29), (0, .ref (G.2.2 0)), (2, .int s2), (3, .ref (G.2.2 (114 + 0))), (4, .ref (G.2.2 (114 + (1 + 0)))), (5, .ref (G.2.2 (114 + (2 + 0)))), (6, .ref (G.2.2 (114 + (3 + 0)))), (7, .ref (G.2.2 (114 + (4 + 0)))), (8, .int s8)]) C 32 dL_act_32 (by decide) rfl ?_
  refine j_iload C 34 8 rfl dL_act_34 ?_
  refine j_iconst (v := 2) C 36 dL_act_36 rfl ?_
  refine j_icmp_ge C 37 107 dL_act_37 (by decide) (fun c37 => ?_) (fun c37 => ?_)
  · refine j_aload C 40 4 rfl dL_act_40 ?_
    refine j_aload_n C 42 3 rfl dL_act_42 ?_
    refine j_bipush (v := 7) C 43 dL_act_43 rfl ?_
    refine j_bind (fun x45 h45 => ?_)
    refine l_Rw0 C (k := 0) (nG_0 C.2.2.2.2.2.2.1) w v.2 45 h45 dL_act_45 ?_
    refine j_bind (fun x46 h46 => ?_)
    refine j_callS_i (As := [.ref (G.2.2 (114 + (1 + 0))), .int x45]) (st := []) C k_L_why 46 (c_L_why C.2.2.2.2.2.2.1 (c := v.1) (w := (sRw w 0 v.2)) _ _ (114 + (1 + 0)) (nG_lt C.2.2.2.2.2.2.1 (by omega)) (a_Rw1 v.1 w 0 v.2) _ h46) rfl ml_L_95 st_L_why dL_act_46 (by decide) rfl (Nat.le_of_ble_eq_true rfl) ?_ rfl
    refine j_if_le C 49 67 dL_act_49 (by decide) (fun c49 => ?_) (fun c49 => ?_)
    · refine j_aload_n C 52 1 rfl dL_act_52 ?_
      refine j_bind (fun x53 h53 => ?_)
      refine j_callW (As := [.ref (G.2.2 0)]) (st := []) C T.1 (T.d1 (by decide)) (T.d2 (by decide)) kw_L_start 53 (c_L_start C.2.2.2.2.2.2.1 T.2.1 _ h53) ml_L_98 st_L_start dL_act_53 (by decide) rfl (Nat.le_of_ble_eq_true rfl) ?_ rfl
      have C := C.add (k := 1) (z := 6) (T.d1 (by decide)) (T.d2 (by decide))
      have T := TB.add (a := 2) (z := 12) (k := 1) (y := 6) T
      refine j_V (V' := (x53.2, sRw w 0 v.2)) rfl ?_
      refine j_bipush (v := (-33)) C 56 dL_act_56 rfl ?_
      refine j_icmp_ne C 58 65 dL_act_58 (by decide) (fun c58 => ?_) (fun c58 => ?_)
      · refine j_iconst (v := 1) C 61 dL_act_61 rfl ?_
        refine j_goto C 62 66 dL_act_62 (by decide) ?_
        exact jb_zret C T 66 hr rfl rfl rfl dL_act_66
      · refine j_iconst (v := 0) C 65 dL_act_65 rfl ?_
        exact jb_zret C T 66 hr rfl rfl rfl dL_act_66
    · refine j_aload_n C 67 3 rfl dL_act_67 ?_
      refine j_aload C 68 4 rfl dL_act_68 ?_
      refine j_aload C 70 5 rfl dL_act_70 ?_
      refine j_aload C 72 6 rfl dL_act_72 ?_
      refine j_aload C 74 7 rfl dL_act_74 ?_
      refine j_aload_n C 76 3 rfl dL_act_76 ?_
      refine j_bipush (v := 7) C 77 dL_act_77 rfl ?_
      refine j_bind (fun x79 h79 => ?_)
      refine l_Rw0 C (k := 0) (nG_0 C.2.2.2.2.2.2.1) w v.2 79 h79 dL_act_79 ?_
      refine j_bind (fun x80 h80 => ?_)
      refine j_callS_v (As := [.ref (G.2.2 (114 + 0)), .ref (G.2.2 (114 + (1 + 0))), .ref (G.2.2 (114 + (2 + 0))), .ref (G.2.2 (114 + (3 + 0))), .ref (G.2.2 (114 + (4 + 0))), .int x79]) (st := []) C k_L_make 80 (c_L_make C.2.2.2.2.2.2.1 (c := v.1) (w := w) (k := 0) (nG_0 C.2.2.2.2.2.2.1) v.2 _ h80) rfl ml_L_101 st_L_make dL_act_80 (by decide) rfl (Nat.le_of_ble_eq_true rfl) ?_ rfl
      refine j_V (V' := (v.1, sRw w 0 x80)) rfl ?_
      refine j_aload_n C 83 3 rfl dL_act_83 ?_
      refine j_bipush (v := 6) C 84 dL_act_84 rfl ?_
      refine j_dup2 C 86 dL_act_86 rfl rfl ?_
      refine j_bind (fun x87 h87 => ?_)
      refine l_Rw0 C (k := 0) (nG_0 C.2.2.2.2.2.2.1) w x80 87 h87 dL_act_87 ?_
      refine j_iconst (v := 1) C 88 dL_act_88 rfl ?_
      refine j_iadd C 89 dL_act_89 ?_
      refine j_bind (fun x90 h90 => ?_)
      refine t_Rw0 C (k := 0) (nG_0 C.2.2.2.2.2.2.1) w x80 90 h90 dL_act_90 ?_
      refine j_V (V' := (v.1, sRw w 0 (x90, x80.2))) rfl ?_
      refine j_aload_n C 91 1 rfl dL_act_91 ?_
      refine j_bind (fun x92 h92 => ?_)
      refine j_callW (As := [.ref (G.2.2 0)]) (st := []) C T.1 (T.d1 (by decide)) (T.d2 (by decide)) kw_L_start 92 (c_L_start C.2.2.2.2.2.2.1 T.2.1 _ h92) ml_L_98 st_L_start dL_act_92 (by decide) rfl (Nat.le_of_ble_eq_true rfl) ?_ rfl
      have C := C.add (k := 1) (z := 6) (T.d1 (by decide)) (T.d2 (by decide))
      have T := TB.add (a := 2) (z := 12) (k := 1) (y := 6) T
      refine j_V (V' := (x92.2, sRw w 0 (x90, x80.2))) rfl ?_
      refine j_aload_n C 95 3 rfl dL_act_95 ?_
      refine j_iconst (v := 0) C 96 dL_act_96 rfl ?_
      refine j_bind (fun x97 h97 => ?_)
      refine l_Rw0 C (k := 0) (nG_0 C.2.2.2.2.2.2.1) w (x90, x80.2) 97 h97 dL_act_97 ?_
      refine j_icmp_ne C 98 105 dL_act_98 (by decide) (fun c98 => ?_) (fun c98 => ?_)
      · refine j_iconst (v := 1) C 101 dL_act_101 rfl ?_
        refine j_goto C 102 106 dL_act_102 (by decide) ?_
        exact jb_zret C T 106 hr rfl rfl rfl dL_act_106
      · refine j_iconst (v := 0) C 105 dL_act_105 rfl ?_
        exact jb_zret C T 106 hr rfl rfl rfl dL_act_106
  · refine j_iload C 107 8 rfl dL_act_107 ?_
    refine j_iconst (v := 2) C 109 dL_act_109 rfl ?_
    refine j_icmp_ne C 110 227 dL_act_110 (by decide) (fun c110 => ?_) (fun c110 => ?_)
    · refine j_iload_n C 113 2 rfl dL_act_113 ?_
      refine j_bipush (v := 7) C 114 dL_act_114 rfl ?_
      refine j_iand C 116 dL_act_116 ?_
      refine j_if_ne C 117 227 dL_act_117 (by decide) (fun c117 => ?_) (fun c117 => ?_)
      · refine j_aload_n C 120 3 rfl dL_act_120 ?_
        refine j_bipush (v := 9) C 121 dL_act_121 rfl ?_
        refine j_bind (fun x123 h123 => ?_)
        refine l_Rw0 C (k := 0) (nG_0 C.2.2.2.2.2.2.1) w v.2 123 h123 dL_act_123 ?_
        refine j_if_ge C 124 142 dL_act_124 (by decide) (fun c124 => ?_) (fun c124 => ?_)
        · refine j_aload_n C 127 1 rfl dL_act_127 ?_
          refine j_bind (fun x128 h128 => ?_)
          refine j_callW (As := [.ref (G.2.2 0)]) (st := []) C T.1 (T.d1 (by decide)) (T.d2 (by decide)) kw_L_stop 128 (c_L_stop C.2.2.2.2.2.2.1 T.2.1 _ h128) ml_L_105 st_L_stop dL_act_128 (by decide) rfl (Nat.le_of_ble_eq_true rfl) ?_ rfl
          have C := C.add (k := 1) (z := 6) (T.d1 (by decide)) (T.d2 (by decide))
          have T := TB.add (a := 2) (z := 12) (k := 1) (y := 6) T
          refine j_V (V' := (x128.2, sRw w 0 v.2)) rfl ?_
          refine j_bipush (v := (-33)) C 131 dL_act_131 rfl ?_
          refine j_icmp_ne C 133 140 dL_act_133 (by decide) (fun c133 => ?_) (fun c133 => ?_)
          · refine j_iconst (v := 1) C 136 dL_act_136 rfl ?_
            refine j_goto C 137 141 dL_act_137 (by decide) ?_
            exact jb_zret C T 141 hr rfl rfl rfl dL_act_141
          · refine j_iconst (v := 0) C 140 dL_act_140 rfl ?_
            exact jb_zret C T 141 hr rfl rfl rfl dL_act_141
        · refine j_aload_n C 142 3 rfl dL_act_142 ?_
          refine j_iconst (v := 0) C 143 dL_act_143 rfl ?_
          refine j_bind (fun x144 h144 => ?_)
          refine l_Rw0 C (k := 0) (nG_0 C.2.2.2.2.2.2.1) w v.2 144 h144 dL_act_144 ?_
          refine j_istore (L1 := [(10, .int x144), (9, .int x29), (0, .ref (G.2.2 0)), (2, .int s2), (3, .ref (G.2.2 (114 + 0))), (4, .ref (G.2.2 (114 + (1 + 0)))), (5, .ref (G.2.2 (114 + (2 + 0)))), (6, .ref (G.2.2 (114 + (3 + 0)))), (7, .ref (G.2.2 (114 + (4 + 0)))), (8, .int s8)]) C 145 dL_act_145 (by decide) rfl ?_
          refine j_aload_n C 147 4 rfl dL_act_147 ?_
          refine j_iconst (v := 0) C 148 dL_act_148 rfl ?_
          refine j_iconst (v := 0) C 149 dL_act_149 rfl ?_
          refine j_bind (fun x150 h150 => ?_)
          refine t_Rw0 C (k := 0) (nG_0 C.2.2.2.2.2.2.1) w v.2 150 h150 dL_act_150 ?_
          refine j_V (V' := (v.1, sRw w 0 (x150, v.2.2))) rfl ?_
          refine j_aload_n C 151 4 rfl dL_act_151 ?_
          refine j_iconst (v := 1) C 152 dL_act_152 rfl ?_
          refine j_iconst (v := 0) C 153 dL_act_153 rfl ?_
          refine j_bind (fun x154 h154 => ?_)
          refine t_Rw0 C (k := 0) (nG_0 C.2.2.2.2.2.2.1) w (x150, v.2.2) 154 h154 dL_act_154 ?_
          refine j_V (V' := (v.1, sRw w 0 (x154, v.2.2))) rfl ?_
          refine j_aload_n C 155 4 rfl dL_act_155 ?_
          refine j_bipush (v := 9) C 156 dL_act_156 rfl ?_
          refine j_iconst (v := (-1)) C 158 dL_act_158 rfl ?_
          refine j_bind (fun x159 h159 => ?_)
          refine t_Rw0 C (k := 0) (nG_0 C.2.2.2.2.2.2.1) w (x154, v.2.2) 159 h159 dL_act_159 ?_
          refine j_V (V' := (v.1, sRw w 0 (x159, v.2.2))) rfl ?_
          refine j_iconst (v := 0) C 160 dL_act_160 rfl ?_
          refine j_istore (L1 := [(11, .int 0), (10, .int x144), (9, .int x29), (0, .ref (G.2.2 0)), (2, .int s2), (3, .ref (G.2.2 (114 + 0))), (4, .ref (G.2.2 (114 + (1 + 0)))), (5, .ref (G.2.2 (114 + (2 + 0)))), (6, .ref (G.2.2 (114 + (3 + 0)))), (7, .ref (G.2.2 (114 + (4 + 0)))), (8, .int s8)]) C 161 dL_act_161 (by decide) rfl ?_
          refine j_L (L' := [(0, .ref (G.2.2 0)), (4, .ref (G.2.2 (114 + (1 + 0)))), (5, .ref (G.2.2 (114 + (2 + 0)))), (6, .ref (G.2.2 (114 + (3 + 0)))), (10, .int x144), (11, .int 0)]) [3, 6, 7, 8, 1, 0] rfl ?_
          exact wl_L_act_163 C hr (T.mono (a := 1) (z := 6) (by decide) (by decide)) FU (v.1, (x159, v.2.2)) x144 0
      · refine j_L (L' := [(0, .ref (G.2.2 0)), (2, .int s2), (3, .ref (G.2.2 (114 + 0))), (4, .ref (G.2.2 (114 + (1 + 0)))), (5, .ref (G.2.2 (114 + (2 + 0)))), (6, .ref (G.2.2 (114 + (3 + 0)))), (7, .ref (G.2.2 (114 + (4 + 0)))), (8, .int s8), (9, .int x29)]) [1, 2, 3, 4, 5, 6, 7, 8, 0] rfl ?_
        exact wb_L_act_227 C hr (T.mono (a := 3) (z := 18) (by decide) (by decide)) v s2 s8 x29
    · refine j_L (L' := [(0, .ref (G.2.2 0)), (2, .int s2), (3, .ref (G.2.2 (114 + 0))), (4, .ref (G.2.2 (114 + (1 + 0)))), (5, .ref (G.2.2 (114 + (2 + 0)))), (6, .ref (G.2.2 (114 + (3 + 0)))), (7, .ref (G.2.2 (114 + (4 + 0)))), (8, .int s8), (9, .int x29)]) [1, 2, 3, 4, 5, 6, 7, 8, 0] rfl ?_
      exact wb_L_act_227 C hr (T.mono (a := 3) (z := 18) (by decide) (by decide)) v s2 s8 x29
set_option maxRecDepth 100000 in
set_option maxHeartbeats 4000000 in
theorem w_L_act {G : GG} {X : WX} {sa : Nat → Nat} {KB ZB : Nat} {w : VW} (C : Cx G 12 X RL cL_act 10) (hr : (xM X).sig.returnType = (some .boolean)) (T : TB G sa KB ZB X 3 18) (v : (VC × VRw)) (a1 : Int32) (a2 : Int32) : JS G 12 X (QB G X KB ZB (fun x : (Int32 × (VC × VRw)) => some (.int x.1)) (fun x : (Int32 × (VC × VRw)) => ((x.2.1, sRw w 0 x.2.2) : VA))) (f_L_act v a1 a2) (v.1, sRw w 0 v.2) 0 [(0, .ref (G.2.2 0)), (1, .int a1), (2, .int a2), (3, .ref (G.2.2 (114 + 0))), (4, .ref (G.2.2 (114 + (1 + 0)))), (5, .ref (G.2.2 (114 + (2 + 0)))), (6, .ref (G.2.2 (114 + (3 + 0)))), (7, .ref (G.2.2 (114 + (4 + 0))))] [] := by
  unfold f_L_act
  refine j_iload_n C 0 1 rfl dL_act_0 ?_
  refine j_bipush (v := 12) C 1 dL_act_1 rfl ?_
  refine j_bind (fun x3 h3 => ?_)
  refine j_callS_i (As := [.int a1, .int 12]) (st := []) C k_L_low 3 (c_L_low C.2.2.2.2.2.2.1 (c := v.1) (w := (sRw w 0 v.2)) _ _ h3) rfl ml_L_81 st_L_low dL_act_3 (by decide) rfl (Nat.le_of_ble_eq_true rfl) ?_ rfl
  refine j_istore (L1 := [(8, .int x3), (0, .ref (G.2.2 0)), (1, .int a1), (2, .int a2), (3, .ref (G.2.2 (114 + 0))), (4, .ref (G.2.2 (114 + (1 + 0)))), (5, .ref (G.2.2 (114 + (2 + 0)))), (6, .ref (G.2.2 (114 + (3 + 0)))), (7, .ref (G.2.2 (114 + (4 + 0))))]) C 6 dL_act_6 (by decide) rfl ?_
  refine j_iload_n C 8 3 rfl dL_act_8 ?_
  refine j_iload_n C 9 3 rfl dL_act_9 ?_
  refine j_bipush (v := 12) C 10 dL_act_10 rfl ?_
  refine j_ishr C 12 dL_act_12 ?_
  refine j_bipush (v := 7) C 13 dL_act_13 rfl ?_
  refine j_iand C 15 dL_act_15 ?_
  refine j_if_ne C 16 24 dL_act_16 (by decide) (fun c16 => ?_) (fun c16 => ?_)
  · refine j_bipush (v := 48) C 19 dL_act_19 rfl ?_
    refine j_goto C 21 29 dL_act_21 (by decide) ?_
    refine j_L (L' := [(0, .ref (G.2.2 0)), (2, .int a2), (3, .ref (G.2.2 (114 + 0))), (4, .ref (G.2.2 (114 + (1 + 0)))), (5, .ref (G.2.2 (114 + (2 + 0)))), (6, .ref (G.2.2 (114 + (3 + 0)))), (7, .ref (G.2.2 (114 + (4 + 0)))), (8, .int x3)]) [1, 3, 4, 5, 6, 7, 8, 0] rfl ?_
    exact wb_L_act_29 C hr (T.mono (a := 3) (z := 18) (by decide) (by decide)) v a2 x3 48 a2
  · refine j_aload_n C 24 4 rfl dL_act_24 ?_
    refine j_iconst (v := 0) C 25 dL_act_25 rfl ?_
    refine j_bind (fun x26 h26 => ?_)
    refine l_Rw0 C (k := 0) (nG_0 C.2.2.2.2.2.2.1) w v.2 26 h26 dL_act_26 ?_
    refine j_iconst (v := 1) C 27 dL_act_27 rfl ?_
    refine j_iadd C 28 dL_act_28 ?_
    refine j_L (L' := [(0, .ref (G.2.2 0)), (2, .int a2), (3, .ref (G.2.2 (114 + 0))), (4, .ref (G.2.2 (114 + (1 + 0)))), (5, .ref (G.2.2 (114 + (2 + 0)))), (6, .ref (G.2.2 (114 + (3 + 0)))), (7, .ref (G.2.2 (114 + (4 + 0)))), (8, .int x3)]) [1, 3, 4, 5, 6, 7, 8, 0] rfl ?_
    exact wb_L_act_29 C hr (T.mono (a := 3) (z := 18) (by decide) (by decide)) v a2 x3 (x26 + 1) a2
theorem c_L_act {G : GG} {l : Launch} {sa : Nat → Nat} (hG : Gok G) (hl : l.stackTraces = false) {w : VW} (v : (VC × VRw)) (a1 : Int32) (a2 : Int32) {x : (Int32 × (VC × VRw))} (hf : f_L_act v a1 a2 = some x) : CtB l yL_act cL_act 12 (some .boolean) 10 [.ref (G.2.2 0), .int a1, .int a2, .ref (G.2.2 (114 + 0)), .ref (G.2.2 (114 + (1 + 0))), .ref (G.2.2 (114 + (2 + 0))), .ref (G.2.2 (114 + (3 + 0))), .ref (G.2.2 (114 + (4 + 0)))] G sa (v.1, sRw w 0 v.2) (some (.int x.1)) (x.2.1, sRw w 0 x.2.2) 5 30 := by
  refine ctb_of (rv := fun x : (Int32 × (VC × VRw)) => (some (.int x.1))) (fin := fun x : (Int32 × (VC × VRw)) => ((x.2.1, sRw w 0 x.2.2) : VA)) (own := RL) hG hl (plainFor_of_name (by decide)) rfl (Nat.le_of_ble_eq_true rfl) (fun X C hr T => ?_) hf
  exact w_L_act C hr (T.mono (a := 3) (z := 18) (by decide) (by decide)) v a1 a2
