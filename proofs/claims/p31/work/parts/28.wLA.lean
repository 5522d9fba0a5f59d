def f_L_low (a0 : Int32) (a1 : Int32) : Option Int32 :=
  (nzk a1).bind fun _ =>
  some ((a0 &&& 2147483647) - (a0 &&& 2147483647) / a1 * a1)
def f_L_isLeft (n0 : Nat) (f0 : Nat → Int32) (a1 : Int32) : Option Int32 :=
  if a1 < 0 then (
    some 0
  ) else (
    (ard n0 f0 ((8 * (a1 / 12)) + 4)).bind fun x14 =>
    if x14 = 1 then (
      (ard n0 f0 ((8 * (a1 / 12)) + 3)).bind fun x29 =>
      if x29 = 0 then (
        some 1
      ) else (
        some 0
      )
    ) else (
      some 0
    )
  )
def l_L_good_7 (n0 : Nat) (f0 : Nat → Int32) : Nat → Int32 → Int32 → Int32 → Option Int32
  | 0, _, _, _ => none
  | n + 1, s1, s2, s3 =>
    if s3 < ((16 * s1) + 16) then (
      (ard n0 f0 (s3 + 3)).bind fun x23 =>
      if x23 = 0 then (
        (ard n0 f0 s3).bind fun x29 =>
        l_L_good_7 n0 f0 n s1 (s2 + x29) (s3 + 8)
      ) else (
        l_L_good_7 n0 f0 n s1 (s2 + 0) (s3 + 8)
      )
    ) else (
      some s2
    )
def f_L_good (n0 : Nat) (f0 : Nat → Int32) (a1 : Int32) : Option Int32 :=
  l_L_good_7 n0 f0 FU a1 0 (16 * a1)
def b_L_place_21 (n0 : Nat) (f0 : Nat → Int32) (s1 : Int32) (s2 : Int32) (t0 : Int32) : Option Int32 :=
  (f_L_good n0 f0 s1).bind fun x25 =>
  if s2 < x25 then (
    if s2 < t0 then (
      some ((24 * s1) + s2)
    ) else (
      some ((((24 * s1) + 12) + s2) - t0)
    )
  ) else (
    some (-1)
  )
def f_L_place (n0 : Nat) (f0 : Nat → Int32) (a1 : Int32) (a2 : Int32) : Option Int32 :=
  (ard n0 f0 ((16 * a1) + 3)).bind fun x7 =>
  if x7 = 0 then (
    (ard n0 f0 (16 * a1)).bind fun x16 =>
    b_L_place_21 n0 f0 a1 a2 x16
  ) else (
    b_L_place_21 n0 f0 a1 a2 0
  )
def b_L_why_20 (n0 : Nat) (f0 : Nat → Int32) (s1 : Int32) : Option Int32 :=
  if s1 = 2 then (
    (f_L_good n0 f0 0).bind fun x27 =>
    (f_L_good n0 f0 1).bind fun x32 =>
    if (x27 * x32) = 0 then (
      some 2
    ) else (
      some 0
    )
  ) else (
    some 0
  )
def f_L_why (n0 : Nat) (f0 : Nat → Int32) (a1 : Int32) : Option Int32 :=
  (f_L_good n0 f0 0).bind fun x2 =>
  if x2 = 0 then (
    (f_L_good n0 f0 1).bind fun x10 =>
    if x10 = 0 then (
      some 1
    ) else (
      b_L_why_20 n0 f0 a1
    )
  ) else (
    b_L_why_20 n0 f0 a1
  )
def b_L_make_224 (K106 : VRw → Int32 → Int32 → Int32 → Int32 → Int32 → Option VRw) (v : VRw) (s5 : Int32) (s6 : Int32) (s7 : Int32) (s8 : Int32) (s9 : Int32) (t0 : Int32) (t2 : Int32) : Option VRw :=
  (f_L_place 32 v.2.1 t0 (s9 - s8)).bind fun x229 =>
  (aup 48 v.2.2.1 t2 x229).bind fun x232 =>
  K106 (v.1, v.2.1, x232, v.2.2.2) s5 s6 s7 s8 (s9 + 1)
def b_L_make_275 (K242 : VRw → Int32 → Option VRw) (v : VRw) (s9 : Int32) (t0 : Int32) (t1 : Int32) : Option VRw :=
  (aup 32 v.2.1 t1 t0).bind fun x275 =>
  (ard 10 v.1 2).bind fun x283 =>
  (aup 32 x275 (s9 + 5) x283).bind fun x284 =>
  (ard 10 v.1 2).bind fun x293 =>
  (aup 32 x284 (s9 + 6) x293).bind fun x294 =>
  K242 (v.1, x294, v.2.2) (s9 + 8)
def l_L_make_242 : Nat → VRw → Int32 → Option VRw
  | 0, _, _ => none
  | n + 1, v, s9 =>
    if s9 < 32 then (
      (ard 32 v.2.1 s9).bind fun x257 =>
      if 0 < x257 then (
        (ard 32 v.2.1 (s9 + 3)).bind fun x266 =>
        if x266 = 0 then (
          b_L_make_275 (l_L_make_242 n) v s9 1 (s9 + 4)
        ) else (
          b_L_make_275 (l_L_make_242 n) v s9 0 (s9 + 4)
        )
      ) else (
        b_L_make_275 (l_L_make_242 n) v s9 0 (s9 + 4)
      )
    ) else (
      some v
    )
def l_L_make_106 : Nat → VRw → Int32 → Int32 → Int32 → Int32 → Int32 → Option VRw
  | 0, _, _, _, _, _, _ => none
  | n + 1, v, s5, s6, s7, s8, s9 =>
    (ard 10 v.1 0).bind fun x110 =>
    if s9 < x110 then (
      if s5 = 2 then (
        (f_L_place 32 v.2.1 0 s9).bind fun x127 =>
        (aup 48 v.2.2.1 s9 x127).bind fun x130 =>
        (f_L_place 32 v.2.1 1 s9).bind fun x138 =>
        (aup 48 v.2.2.2.1 s9 x138).bind fun x141 =>
        l_L_make_106 n (v.1, v.2.1, x130, x141, v.2.2.2.2) s5 s6 s7 s8 (s9 + 1)
      ) else (
        if s5 = 1 then (
          if s9 < s6 then (
            (f_L_place 32 v.2.1 0 s9).bind fun x165 =>
            (aup 48 v.2.2.1 s9 x165).bind fun x181 =>
            l_L_make_106 n (v.1, v.2.1, x181, v.2.2.2) s5 s6 s7 s8 (s9 + 1)
          ) else (
            (f_L_place 32 v.2.1 1 (s9 - s6)).bind fun x178 =>
            (aup 48 v.2.2.1 s9 x178).bind fun x181 =>
            l_L_make_106 n (v.1, v.2.1, x181, v.2.2.2) s5 s6 s7 s8 (s9 + 1)
          )
        ) else (
          (ard 10 v.1 1).bind fun x192 =>
          if s9 < x192 then (
            (f_L_place 32 v.2.1 (s9 - s9 / 2 * 2) (s9 / 2)).bind fun x205 =>
            (aup 48 v.2.2.1 s9 x205).bind fun x232 =>
            l_L_make_106 n (v.1, v.2.1, x232, v.2.2.2) s5 s6 s7 s8 (s9 + 1)
          ) else (
            if s7 < s6 then (
              b_L_make_224 (l_L_make_106 n) v s5 s6 s7 s8 s9 0 s9
            ) else (
              b_L_make_224 (l_L_make_106 n) v s5 s6 s7 s8 s9 1 s9
            )
          )
        )
      )
    ) else (
      l_L_make_242 FU v 0
    )
def l_L_make_74 : Nat → VRw → Int32 → Int32 → Int32 → Int32 → Int32 → Option VRw
  | 0, _, _, _, _, _, _ => none
  | n + 1, v, s5, s6, s7, s8, s9 =>
    if s9 < 48 then (
      (aup 48 v.2.2.2.2 s9 0).bind fun x86 =>
      (aup 48 v.2.2.1 s9 (-1)).bind fun x91 =>
      (aup 48 v.2.2.2.1 s9 (-1)).bind fun x96 =>
      l_L_make_74 n (v.1, v.2.1, x91, x96, x86) s5 s6 s7 s8 (s9 + 1)
    ) else (
      l_L_make_106 FU v s5 s6 s7 s8 0
    )
def b_L_make_54 (v : VRw) (s5 : Int32) (s6 : Int32) (s7 : Int32) (s8 : Int32) (t0 : Int32) (t1 : Int32) : Option VRw :=
  (aup 10 v.1 t1 t0).bind fun x54 =>
  if s5 = 0 then (
    (aup 10 x54 1 (2 * s8)).bind fun x70 =>
    l_L_make_74 FU (x70, v.2) s5 s6 s7 s8 0
  ) else (
    (aup 10 x54 1 0).bind fun x70 =>
    l_L_make_74 FU (x70, v.2) s5 s6 s7 s8 0
  )
def b_L_make_28 (v : VRw) (s5 : Int32) (s6 : Int32) (s7 : Int32) (t0 : Int32) : Option VRw :=
  (aup 10 v.1 9 s5).bind fun x35 =>
  if s5 = 2 then (
    b_L_make_54 (x35, v.2) s5 s6 s7 t0 t0 0
  ) else (
    b_L_make_54 (x35, v.2) s5 s6 s7 t0 (s6 + s7) 0
  )
def f_L_make (v : VRw) (a5 : Int32) : Option VRw :=
  (f_L_good 32 v.2.1 0).bind fun x2 =>
  (f_L_good 32 v.2.1 1).bind fun x9 =>
  if x2 < x9 then (
    b_L_make_28 v a5 x2 x9 x2
  ) else (
    b_L_make_28 v a5 x2 x9 x9
  )
def f_L_can (n0 : Nat) (f0 : Nat → Int32) (n1 : Nat) (f1 : Nat → Int32) (n2 : Nat) (f2 : Nat → Int32) (a3 : Int32) : Option Int32 :=
  (ard n1 f1 a3).bind fun x3 =>
  (f_L_isLeft n0 f0 x3).bind fun x4 =>
  if x4 = 0 then (
    (ard n2 f2 a3).bind fun x13 =>
    (f_L_isLeft n0 f0 x13).bind fun x14 =>
    if x14 = 0 then (
      some 0
    ) else (
      some 1
    )
  ) else (
    some 1
  )
def f_L_readAt (n0 : Nat) (f0 : Nat → Int32) (n1 : Nat) (f1 : Nat → Int32) (n2 : Nat) (f2 : Nat → Int32) (a3 : Int32) : Option Int32 :=
  (ard n1 f1 a3).bind fun x3 =>
  (f_L_isLeft n0 f0 x3).bind fun x4 =>
  if x4 = 0 then (
    (ard n2 f2 a3).bind fun x18 =>
    some x18
  ) else (
    (ard n1 f1 a3).bind fun x12 =>
    some x12
  )
def f_L_rank (n0 : Nat) (f0 : Nat → Int32) (a1 : Int32) : Option Int32 :=
  (ard n0 f0 ((8 * (a1 / 12)) + 1)).bind fun x15 =>
  if x15 = 2 then (
    some (((8 * (a1 / 12)) + 5) + ((a1 - a1 / 12 * 12) - (a1 - a1 / 12 * 12) / 2 * 2))
  ) else (
    some (((8 * (a1 / 12)) + 5) + 0)
  )
def b_L_reads_95 (K81 : VRw → Int32 → Int32 → Int32 → Int32 → Option VRw) (v : VRw) (s4 : Int32) (s5 : Int32) (s6 : Int32) (s7 : Int32) (t0 : Int32) (t1 : Int32) (t2 : Int32) : Option VRw :=
  if t2 < (t1 + t0) then (
    (f_L_readAt 32 v.2.1 48 v.2.2.1 48 v.2.2.2.1 s7).bind fun x106 =>
    (f_L_readAt 32 v.2.1 48 v.2.2.1 48 v.2.2.2.1 s7).bind fun x122 =>
    (f_L_rank 32 v.2.1 x122).bind fun x125 =>
    (ard 32 v.2.1 ((8 * (x106 / 12)) + 2)).bind fun x135 =>
    (aup 32 v.2.1 x125 (s6 + x135)).bind fun x137 =>
    (ard 32 x137 ((8 * (x106 / 12)) + 7)).bind fun x145 =>
    (aup 32 x137 ((8 * (x106 / 12)) + 7) (x145 + 1)).bind fun x148 =>
    (ard 10 v.1 3).bind fun x152 =>
    (aup 10 v.1 3 (x152 + 1)).bind fun x155 =>
    K81 (x155, x148, v.2.2) s4 s5 s6 (s7 + 1)
  ) else (
    (ard 10 v.1 4).bind fun x165 =>
    if s5 = 0 then (
      (aup 10 v.1 4 (x165 + 0)).bind fun x177 =>
      (aup 10 x177 2 (s6 + 1)).bind fun x184 =>
      some (x184, v.2)
    ) else (
      (aup 10 v.1 4 (x165 + 1)).bind fun x177 =>
      (aup 10 x177 2 (s6 + 1)).bind fun x184 =>
      some (x184, v.2)
    )
  )
def l_L_reads_81 : Nat → VRw → Int32 → Int32 → Int32 → Int32 → Option VRw
  | 0, _, _, _, _, _ => none
  | n + 1, v, s4, s5, s6, s7 =>
    if s5 = 0 then (
      b_L_reads_95 (l_L_reads_81 n) v s4 s5 s6 s7 1 s4 s7
    ) else (
      b_L_reads_95 (l_L_reads_81 n) v s4 s5 s6 s7 2 s4 s7
    )
def b_L_reads_23 (K9 : VRw → Int32 → Int32 → Int32 → Int32 → Option VRw) (v : VRw) (s4 : Int32) (s5 : Int32) (s6 : Int32) (s7 : Int32) (t0 : Int32) (t1 : Int32) (t2 : Int32) : Option VRw :=
  if t2 < (t1 + t0) then (
    (f_L_readAt 32 v.2.1 48 v.2.2.1 48 v.2.2.2.1 s7).bind fun x34 =>
    (f_L_rank 32 v.2.1 x34).bind fun x37 =>
    (ard 32 v.2.1 x37).bind fun x40 =>
    if s6 < x40 then (
      K9 v s4 s5 x40 (s7 + 1)
    ) else (
      K9 v s4 s5 s6 (s7 + 1)
    )
  ) else (
    (ard 10 v.1 5).bind fun x68 =>
    (ard 10 v.1 2).bind fun x73 =>
    (aup 10 v.1 5 (x68 + (s6 - x73))).bind fun x76 =>
    l_L_reads_81 FU (x76, v.2) s4 s5 s6 s4
  )
def l_L_reads_9 : Nat → VRw → Int32 → Int32 → Int32 → Int32 → Option VRw
  | 0, _, _, _, _, _ => none
  | n + 1, v, s4, s5, s6, s7 =>
    if s5 = 0 then (
      b_L_reads_23 (l_L_reads_9 n) v s4 s5 s6 s7 1 s4 s7
    ) else (
      b_L_reads_23 (l_L_reads_9 n) v s4 s5 s6 s7 2 s4 s7
    )
def f_L_reads (v : VRw) (a4 : Int32) (a5 : Int32) : Option VRw :=
  (ard 10 v.1 2).bind fun x2 =>
  l_L_reads_9 FU v a4 a5 x2 a4
def l_L_used_6 (n0 : Nat) (f0 : Nat → Int32) (n1 : Nat) (f1 : Nat → Int32) (n2 : Nat) (f2 : Nat → Int32) : Nat → Int32 → Int32 → Int32 → Option Int32
  | 0, _, _, _ => none
  | n + 1, s3, s4, s5 =>
    (ard n0 f0 0).bind fun x10 =>
    if s5 < x10 then (
      (ard n1 f1 s5).bind fun x19 =>
      if (x19 / 12) = s3 then (
        l_L_used_6 n0 f0 n1 f1 n2 f2 n s3 (s4 + 1) (s5 + 1)
      ) else (
        (ard n2 f2 s5).bind fun x30 =>
        if x30 < 0 then (
          l_L_used_6 n0 f0 n1 f1 n2 f2 n s3 (s4 + 0) (s5 + 1)
        ) else (
          (ard n2 f2 s5).bind fun x37 =>
          if (x37 / 12) = s3 then (
            l_L_used_6 n0 f0 n1 f1 n2 f2 n s3 (s4 + 1) (s5 + 1)
          ) else (
            l_L_used_6 n0 f0 n1 f1 n2 f2 n s3 (s4 + 0) (s5 + 1)
          )
        )
      )
    ) else (
      some s4
    )
def f_L_used (n0 : Nat) (f0 : Nat → Int32) (n1 : Nat) (f1 : Nat → Int32) (n2 : Nat) (f2 : Nat → Int32) (a3 : Int32) : Option Int32 :=
  l_L_used_6 n0 f0 n1 f1 n2 f2 FU a3 0 0
set_option maxRecDepth 100000 in
set_option maxHeartbeats 4000000 in
theorem w_L_low {G : GG} {X : WX} {c : VC} {w : VW} (C : Cx G 2 X RL cL_low 0) (hr : (xM X).sig.returnType = (some .int)) (a0 : Int32) (a1 : Int32) : JS G 2 X (QM G X (fun x : Int32 => some (.int x)) (fun x : Int32 => ((c, w) : VA))) (f_L_low a0 a1) (c, w) 0 [(0, .int a0), (1, .int a1)] [] := by
  unfold f_L_low
  refine j_iload_n C 0 0 rfl dL_low_0 ?_
  refine j_ldc C 1 dL_low_1 lc_L_8 ?_
  refine j_iand C 3 dL_low_3 ?_
  refine j_iload_n C 4 1 rfl dL_low_4 ?_
  refine j_bind (fun _ h5 => ?_)
  refine j_irem C 5 dL_low_5 (nzk_in h5) ?_
  exact j_iret C 6 hr rfl rfl dL_low_6
theorem c_L_low {G : GG} {l : Launch} (hG : Gok G) {c : VC} {w : VW} (a0 : Int32) (a1 : Int32) {x : Int32} (hf : f_L_low a0 a1 = some x) : Ct l yL_low cL_low 2 (some .int) 0 [.int a0, .int a1] G (c, w) (some (.int x)) (c, w) := by
  refine ct_of (rv := fun x : Int32 => (some (.int x))) (fin := fun x : Int32 => ((c, w) : VA)) (own := RL) hG (plainFor_of_name (by decide)) rfl (Nat.le_of_ble_eq_true rfl) (fun X C hr _ => ?_) hf
  exact w_L_low C hr a0 a1
set_option maxRecDepth 100000 in
set_option maxHeartbeats 4000000 in
theorem w_L_isLeft {G : GG} {X : WX} {c : VC} {w : VW} (C : Cx G 2 X RL cL_isLeft 0) (hr : (xM X).sig.returnType = (some .boolean)) (n0 : Nat) (f0 : Nat → Int32) (q0 : Nat) (hq0 : q0 < nG G) (hc0 : cellA G.2.1 G.2.2 (c, w) q0 = cI (G.2.1 0) n0 f0) (a1 : Int32) : JS G 2 X (QM G X (fun x : Int32 => some (.int x)) (fun x : Int32 => ((c, w) : VA))) (f_L_isLeft n0 f0 a1) (c, w) 0 [(0, .ref (G.2.2 q0)), (1, .int a1)] [] := by
  unfold f_L_isLeft
  refine j_iload_n C 0 1 rfl dL_isLeft_0 ?_
  refine j_if_lt C 1 37 dL_isLeft_1 (by decide) (fun c1 => ?_) (fun c1 => ?_)
  · refine j_iconst (v := 0) C 37 dL_isLeft_37 rfl ?_
    exact j_zret C 38 hr rfl rfl rfl dL_isLeft_38
  · refine j_aload_n C 4 0 rfl dL_isLeft_4 ?_
    refine j_bipush (v := 8) C 5 dL_isLeft_5 rfl ?_
    refine j_iload_n C 7 1 rfl dL_isLeft_7 ?_
    refine j_bipush (v := 12) C 8 dL_isLeft_8 rfl ?_
    refine j_idiv C 10 dL_isLeft_10 (by decide) ?_
    refine j_imul C 11 dL_isLeft_11 ?_
    refine j_iconst (v := 4) C 12 dL_isLeft_12 rfl ?_
    refine j_iadd C 13 dL_isLeft_13 ?_
    refine j_bind (fun x14 h14 => ?_)
    refine j_iald C 14 q0 hq0 rfl hc0 h14 dL_isLeft_14 ?_
    refine j_iconst (v := 1) C 15 dL_isLeft_15 rfl ?_
    refine j_icmp_ne C 16 37 dL_isLeft_16 (by decide) (fun c16 => ?_) (fun c16 => ?_)
    · refine j_aload_n C 19 0 rfl dL_isLeft_19 ?_
      refine j_bipush (v := 8) C 20 dL_isLeft_20 rfl ?_
      refine j_iload_n C 22 1 rfl dL_isLeft_22 ?_
      refine j_bipush (v := 12) C 23 dL_isLeft_23 rfl ?_
      refine j_idiv C 25 dL_isLeft_25 (by decide) ?_
      refine j_imul C 26 dL_isLeft_26 ?_
      refine j_iconst (v := 3) C 27 dL_isLeft_27 rfl ?_
      refine j_iadd C 28 dL_isLeft_28 ?_
      refine j_bind (fun x29 h29 => ?_)
      refine j_iald C 29 q0 hq0 rfl hc0 h29 dL_isLeft_29 ?_
      refine j_if_ne C 30 37 dL_isLeft_30 (by decide) (fun c30 => ?_) (fun c30 => ?_)
      · refine j_iconst (v := 1) C 33 dL_isLeft_33 rfl ?_
        refine j_goto C 34 38 dL_isLeft_34 (by decide) ?_
        exact j_zret C 38 hr rfl rfl rfl dL_isLeft_38
      · refine j_iconst (v := 0) C 37 dL_isLeft_37 rfl ?_
        exact j_zret C 38 hr rfl rfl rfl dL_isLeft_38
    · refine j_iconst (v := 0) C 37 dL_isLeft_37 rfl ?_
      exact j_zret C 38 hr rfl rfl rfl dL_isLeft_38
theorem c_L_isLeft {G : GG} {l : Launch} (hG : Gok G) {c : VC} {w : VW} (n0 : Nat) (f0 : Nat → Int32) (q0 : Nat) (hq0 : q0 < nG G) (hc0 : cellA G.2.1 G.2.2 (c, w) q0 = cI (G.2.1 0) n0 f0) (a1 : Int32) {x : Int32} (hf : f_L_isLeft n0 f0 a1 = some x) : Ct l yL_isLeft cL_isLeft 2 (some .boolean) 0 [.ref (G.2.2 q0), .int a1] G (c, w) (some (.int x)) (c, w) := by
  refine ct_of (rv := fun x : Int32 => (some (.int x))) (fin := fun x : Int32 => ((c, w) : VA)) (own := RL) hG (plainFor_of_name (by decide)) rfl (Nat.le_of_ble_eq_true rfl) (fun X C hr _ => ?_) hf
  exact w_L_isLeft C hr n0 f0 q0 hq0 hc0 a1
set_option maxRecDepth 100000 in
set_option maxHeartbeats 4000000 in
theorem wl_L_good_7 {G : GG} {X : WX} {c : VC} {w : VW} (C : Cx G 4 X RL cL_good 0) (hr : (xM X).sig.returnType = (some .int)) (n0 : Nat) (f0 : Nat → Int32) (q0 : Nat) (hq0 : q0 < nG G) (hc0 : cellA G.2.1 G.2.2 (c, w) q0 = cI (G.2.1 0) n0 f0) : ∀ (n : Nat) (s1 : Int32) (s2 : Int32) (s3 : Int32), JS G 4 X (QM G X (fun x : Int32 => some (.int x)) (fun x : Int32 => ((c, w) : VA))) (l_L_good_7 n0 f0 n s1 s2 s3) (c, w) 7 [(0, .ref (G.2.2 q0)), (1, .int s1), (2, .int s2), (3, .int s3)] [] := by
  intro n
  induction n with
  | zero => intro _ _ _; exact j_none
  | succ n ih =>
    intro s1 s2 s3
    unfold l_L_good_7
    refine j_iload_n C 7 3 rfl dL_good_7 ?_
    refine j_bipush (v := 16) C 8 dL_good_8 rfl ?_
    refine j_iload_n C 10 1 rfl dL_good_10 ?_
    refine j_imul C 11 dL_good_11 ?_
    refine j_bipush (v := 16) C 12 dL_good_12 rfl ?_
    refine j_iadd C 14 dL_good_14 ?_
    refine j_icmp_ge C 15 42 dL_good_15 (by decide) (fun c15 => ?_) (fun c15 => ?_)
    · refine j_iload_n C 18 2 rfl dL_good_18 ?_
      refine j_aload_n C 19 0 rfl dL_good_19 ?_
      refine j_iload_n C 20 3 rfl dL_good_20 ?_
      refine j_iconst (v := 3) C 21 dL_good_21 rfl ?_
      refine j_iadd C 22 dL_good_22 ?_
      refine j_bind (fun x23 h23 => ?_)
      refine j_iald C 23 q0 hq0 rfl hc0 h23 dL_good_23 ?_
      refine j_if_ne C 24 33 dL_good_24 (by decide) (fun c24 => ?_) (fun c24 => ?_)
      · refine j_aload_n C 27 0 rfl dL_good_27 ?_
        refine j_iload_n C 28 3 rfl dL_good_28 ?_
        refine j_bind (fun x29 h29 => ?_)
        refine j_iald C 29 q0 hq0 rfl hc0 h29 dL_good_29 ?_
        refine j_goto C 30 34 dL_good_30 (by decide) ?_
        refine j_iadd C 34 dL_good_34 ?_
        refine j_istore_n (L1 := [(2, .int (s2 + x29)), (0, .ref (G.2.2 q0)), (1, .int s1), (3, .int s3)]) C 35 rfl dL_good_35 (by decide) rfl ?_
        refine j_iinc (v := (s3 + 8)) (L1 := [(3, .int (s3 + 8)), (2, .int (s2 + x29)), (0, .ref (G.2.2 q0)), (1, .int s1)]) C 36 3 rfl dL_good_36 rfl (by decide) rfl ?_
        refine j_goto C 39 7 dL_good_39 (by decide) ?_
        refine j_L (L' := [(0, .ref (G.2.2 q0)), (1, .int s1), (2, .int (s2 + x29)), (3, .int (s3 + 8))]) [2, 3, 1, 0] rfl ?_
        exact ih s1 (s2 + x29) (s3 + 8)
      · refine j_iconst (v := 0) C 33 dL_good_33 rfl ?_
        refine j_iadd C 34 dL_good_34 ?_
        refine j_istore_n (L1 := [(2, .int (s2 + 0)), (0, .ref (G.2.2 q0)), (1, .int s1), (3, .int s3)]) C 35 rfl dL_good_35 (by decide) rfl ?_
        refine j_iinc (v := (s3 + 8)) (L1 := [(3, .int (s3 + 8)), (2, .int (s2 + 0)), (0, .ref (G.2.2 q0)), (1, .int s1)]) C 36 3 rfl dL_good_36 rfl (by decide) rfl ?_
        refine j_goto C 39 7 dL_good_39 (by decide) ?_
        refine j_L (L' := [(0, .ref (G.2.2 q0)), (1, .int s1), (2, .int (s2 + 0)), (3, .int (s3 + 8))]) [2, 3, 1, 0] rfl ?_
        exact ih s1 (s2 + 0) (s3 + 8)
    · refine j_iload_n C 42 2 rfl dL_good_42 ?_
      exact j_iret C 43 hr rfl rfl dL_good_43
set_option maxRecDepth 100000 in
set_option maxHeartbeats 4000000 in
theorem w_L_good {G : GG} {X : WX} {c : VC} {w : VW} (C : Cx G 4 X RL cL_good 0) (hr : (xM X).sig.returnType = (some .int)) (n0 : Nat) (f0 : Nat → Int32) (q0 : Nat) (hq0 : q0 < nG G) (hc0 : cellA G.2.1 G.2.2 (c, w) q0 = cI (G.2.1 0) n0 f0) (a1 : Int32) : JS G 4 X (QM G X (fun x : Int32 => some (.int x)) (fun x : Int32 => ((c, w) : VA))) (f_L_good n0 f0 a1) (c, w) 0 [(0, .ref (G.2.2 q0)), (1, .int a1)] [] := by
  unfold f_L_good
  refine j_iconst (v := 0) C 0 dL_good_0 rfl ?_
  refine j_istore_n (L1 := [(2, .int 0), (0, .ref (G.2.2 q0)), (1, .int a1)]) C 1 rfl dL_good_1 (by decide) rfl ?_
  refine j_bipush (v := 16) C 2 dL_good_2 rfl ?_
  refine j_iload_n C 4 2 rfl dL_good_4 ?_
  refine j_imul C 5 dL_good_5 ?_
  refine j_istore_n (L1 := [(3, .int (16 * a1)), (2, .int 0), (0, .ref (G.2.2 q0)), (1, .int a1)]) C 6 rfl dL_good_6 (by decide) rfl ?_
  refine j_L (L' := [(0, .ref (G.2.2 q0)), (1, .int a1), (2, .int 0), (3, .int (16 * a1))]) [2, 3, 1, 0] rfl ?_
  exact wl_L_good_7 C hr n0 f0 q0 hq0 hc0 FU a1 0 (16 * a1)
theorem c_L_good {G : GG} {l : Launch} (hG : Gok G) {c : VC} {w : VW} (n0 : Nat) (f0 : Nat → Int32) (q0 : Nat) (hq0 : q0 < nG G) (hc0 : cellA G.2.1 G.2.2 (c, w) q0 = cI (G.2.1 0) n0 f0) (a1 : Int32) {x : Int32} (hf : f_L_good n0 f0 a1 = some x) : Ct l yL_good cL_good 4 (some .int) 0 [.ref (G.2.2 q0), .int a1] G (c, w) (some (.int x)) (c, w) := by
  refine ct_of (rv := fun x : Int32 => (some (.int x))) (fin := fun x : Int32 => ((c, w) : VA)) (own := RL) hG (plainFor_of_name (by decide)) rfl (Nat.le_of_ble_eq_true rfl) (fun X C hr _ => ?_) hf
  exact w_L_good C hr n0 f0 q0 hq0 hc0 a1
set_option maxRecDepth 100000 in
set_option maxHeartbeats 4000000 in
theorem wb_L_place_21 {G : GG} {X : WX} {c : VC} {w : VW} (C : Cx G 4 X RL cL_place 1) (hr : (xM X).sig.returnType = (some .int)) (n0 : Nat) (f0 : Nat → Int32) (q0 : Nat) (hq0 : q0 < nG G) (hc0 : cellA G.2.1 G.2.2 (c, w) q0 = cI (G.2.1 0) n0 f0) (s1 : Int32) (s2 : Int32) (t0 : Int32) : JS G 4 X (QM G X (fun x : Int32 => some (.int x)) (fun x : Int32 => ((c, w) : VA))) (b_L_place_21 n0 f0 s1 s2 t0) (c, w) 21 [(0, .ref (G.2.2 q0)), (1, .int s1), (2, .int s2)] [.int t0] := by
  unfold b_L_place_21
  refine j_istore_n (L1 := [(3, .int t0), (0, .ref (G.2.2 q0)), (1, .int s1), (2, .int s2)]) C 21 rfl dL_place_21 (by decide) rfl ?_
  refine j_iload_n C 22 3 rfl dL_place_22 ?_
  refine j_aload_n C 23 1 rfl dL_place_23 ?_
  refine j_iload_n C 24 2 rfl dL_place_24 ?_
  refine j_bind (fun x25 h25 => ?_)
  refine j_callS_i (As := [.ref (G.2.2 q0), .int s1]) (st := [.int s2]) C k_L_good 25 (c_L_good C.2.2.2.2.2.2.1 (c := c) (w := w) _ _ q0 hq0 hc0 _ h25) rfl ml_L_60 st_L_good dL_place_25 (by decide) rfl (Nat.le_of_ble_eq_true rfl) ?_ rfl
  refine j_icmp_lt C 28 35 dL_place_28 (by decide) (fun c28 => ?_) (fun c28 => ?_)
  · refine j_iload_n C 35 3 rfl dL_place_35 ?_
    refine j_iload_n C 36 0 rfl dL_place_36 ?_
    refine j_icmp_ge C 37 49 dL_place_37 (by decide) (fun c37 => ?_) (fun c37 => ?_)
    · refine j_bipush (v := 24) C 40 dL_place_40 rfl ?_
      refine j_iload_n C 42 2 rfl dL_place_42 ?_
      refine j_imul C 43 dL_place_43 ?_
      refine j_iload_n C 44 3 rfl dL_place_44 ?_
      refine j_iadd C 45 dL_place_45 ?_
      refine j_goto C 46 60 dL_place_46 (by decide) ?_
      exact j_iret C 60 hr rfl rfl dL_place_60
    · refine j_bipush (v := 24) C 49 dL_place_49 rfl ?_
      refine j_iload_n C 51 2 rfl dL_place_51 ?_
      refine j_imul C 52 dL_place_52 ?_
      refine j_bipush (v := 12) C 53 dL_place_53 rfl ?_
      refine j_iadd C 55 dL_place_55 ?_
      refine j_iload_n C 56 3 rfl dL_place_56 ?_
      refine j_iadd C 57 dL_place_57 ?_
      refine j_iload_n C 58 0 rfl dL_place_58 ?_
      refine j_isub C 59 dL_place_59 ?_
      exact j_iret C 60 hr rfl rfl dL_place_60
  · refine j_iconst (v := (-1)) C 31 dL_place_31 rfl ?_
    refine j_goto C 32 60 dL_place_32 (by decide) ?_
    exact j_iret C 60 hr rfl rfl dL_place_60
set_option maxRecDepth 100000 in
set_option maxHeartbeats 4000000 in
theorem w_L_place {G : GG} {X : WX} {c : VC} {w : VW} (C : Cx G 4 X RL cL_place 1) (hr : (xM X).sig.returnType = (some .int)) (n0 : Nat) (f0 : Nat → Int32) (q0 : Nat) (hq0 : q0 < nG G) (hc0 : cellA G.2.1 G.2.2 (c, w) q0 = cI (G.2.1 0) n0 f0) (a1 : Int32) (a2 : Int32) : JS G 4 X (QM G X (fun x : Int32 => some (.int x)) (fun x : Int32 => ((c, w) : VA))) (f_L_place n0 f0 a1 a2) (c, w) 0 [(0, .ref (G.2.2 q0)), (1, .int a1), (2, .int a2)] [] := by
  unfold f_L_place
  refine j_aload_n C 0 0 rfl dL_place_0 ?_
  refine j_bipush (v := 16) C 1 dL_place_1 rfl ?_
  refine j_iload_n C 3 1 rfl dL_place_3 ?_
  refine j_imul C 4 dL_place_4 ?_
  refine j_iconst (v := 3) C 5 dL_place_5 rfl ?_
  refine j_iadd C 6 dL_place_6 ?_
  refine j_bind (fun x7 h7 => ?_)
  refine j_iald C 7 q0 hq0 rfl hc0 h7 dL_place_7 ?_
  refine j_if_ne C 8 20 dL_place_8 (by decide) (fun c8 => ?_) (fun c8 => ?_)
  · refine j_aload_n C 11 0 rfl dL_place_11 ?_
    refine j_bipush (v := 16) C 12 dL_place_12 rfl ?_
    refine j_iload_n C 14 1 rfl dL_place_14 ?_
    refine j_imul C 15 dL_place_15 ?_
    refine j_bind (fun x16 h16 => ?_)
    refine j_iald C 16 q0 hq0 rfl hc0 h16 dL_place_16 ?_
    refine j_goto C 17 21 dL_place_17 (by decide) ?_
    exact wb_L_place_21 C hr n0 f0 q0 hq0 hc0 a1 a2 x16
  · refine j_iconst (v := 0) C 20 dL_place_20 rfl ?_
    exact wb_L_place_21 C hr n0 f0 q0 hq0 hc0 a1 a2 0
theorem c_L_place {G : GG} {l : Launch} (hG : Gok G) {c : VC} {w : VW} (n0 : Nat) (f0 : Nat → Int32) (q0 : Nat) (hq0 : q0 < nG G) (hc0 : cellA G.2.1 G.2.2 (c, w) q0 = cI (G.2.1 0) n0 f0) (a1 : Int32) (a2 : Int32) {x : Int32} (hf : f_L_place n0 f0 a1 a2 = some x) : Ct l yL_place cL_place 4 (some .int) 1 [.ref (G.2.2 q0), .int a1, .int a2] G (c, w) (some (.int x)) (c, w) := by
  refine ct_of (rv := fun x : Int32 => (some (.int x))) (fin := fun x : Int32 => ((c, w) : VA)) (own := RL) hG (plainFor_of_name (by decide)) rfl (Nat.le_of_ble_eq_true rfl) (fun X C hr _ => ?_) hf
  exact w_L_place C hr n0 f0 q0 hq0 hc0 a1 a2
set_option maxRecDepth 100000 in
set_option maxHeartbeats 4000000 in
theorem wb_L_why_20 {G : GG} {X : WX} {c : VC} {w : VW} (C : Cx G 2 X RL cL_why 1) (hr : (xM X).sig.returnType = (some .int)) (n0 : Nat) (f0 : Nat → Int32) (q0 : Nat) (hq0 : q0 < nG G) (hc0 : cellA G.2.1 G.2.2 (c, w) q0 = cI (G.2.1 0) n0 f0) (s1 : Int32) : JS G 2 X (QM G X (fun x : Int32 => some (.int x)) (fun x : Int32 => ((c, w) : VA))) (b_L_why_20 n0 f0 s1) (c, w) 20 [(0, .ref (G.2.2 q0)), (1, .int s1)] [] := by
  unfold b_L_why_20
  refine j_iload_n C 20 1 rfl dL_why_20 ?_
  refine j_iconst (v := 2) C 21 dL_why_21 rfl ?_
  refine j_icmp_ne C 22 43 dL_why_22 (by decide) (fun c22 => ?_) (fun c22 => ?_)
  · refine j_aload_n C 25 0 rfl dL_why_25 ?_
    refine j_iconst (v := 0) C 26 dL_why_26 rfl ?_
    refine j_bind (fun x27 h27 => ?_)
    refine j_callS_i (As := [.ref (G.2.2 q0), .int 0]) (st := []) C k_L_good 27 (c_L_good C.2.2.2.2.2.2.1 (c := c) (w := w) _ _ q0 hq0 hc0 _ h27) rfl ml_L_60 st_L_good dL_why_27 (by decide) rfl (Nat.le_of_ble_eq_true rfl) ?_ rfl
    refine j_aload_n C 30 0 rfl dL_why_30 ?_
    refine j_iconst (v := 1) C 31 dL_why_31 rfl ?_
    refine j_bind (fun x32 h32 => ?_)
    refine j_callS_i (As := [.ref (G.2.2 q0), .int 1]) (st := [.int x27]) C k_L_good 32 (c_L_good C.2.2.2.2.2.2.1 (c := c) (w := w) _ _ q0 hq0 hc0 _ h32) rfl ml_L_60 st_L_good dL_why_32 (by decide) rfl (Nat.le_of_ble_eq_true rfl) ?_ rfl
    refine j_imul C 35 dL_why_35 ?_
    refine j_if_ne C 36 43 dL_why_36 (by decide) (fun c36 => ?_) (fun c36 => ?_)
    · refine j_iconst (v := 2) C 39 dL_why_39 rfl ?_
      refine j_goto C 40 44 dL_why_40 (by decide) ?_
      exact j_iret C 44 hr rfl rfl dL_why_44
    · refine j_iconst (v := 0) C 43 dL_why_43 rfl ?_
      exact j_iret C 44 hr rfl rfl dL_why_44
  · refine j_iconst (v := 0) C 43 dL_why_43 rfl ?_
    exact j_iret C 44 hr rfl rfl dL_why_44
set_option maxRecDepth 100000 in
set_option maxHeartbeats 4000000 in
theorem w_L_why {G : GG} {X : WX} {c : VC} {w : VW} (C : Cx G 2 X RL cL_why 1) (hr : (xM X).sig.returnType = (some .int)) (n0 : Nat) (f0 : Nat → Int32) (q0 : Nat) (hq0 : q0 < nG G) (hc0 : cellA G.2.1 G.2.2 (c, w) q0 = cI (G.2.1 0) n0 f0) (a1 : Int32) : JS G 2 X (QM G X (fun x : Int32 => some (.int x)) (fun x : Int32 => ((c, w) : VA))) (f_L_why n0 f0 a1) (c, w) 0 [(0, .ref (G.2.2 q0)), (1, .int a1)] [] := by
  unfold f_L_why
  refine j_aload_n C 0 0 rfl dL_why_0 ?_
  refine j_iconst (v := 0) C 1 dL_why_1 rfl ?_
  refine j_bind (fun x2 h2 => ?_)
  refine j_callS_i (As := [.ref (G.2.2 q0), .int 0]) (st := []) C k_L_good 2 (c_L_good C.2.2.2.2.2.2.1 (c := c) (w := w) _ _ q0 hq0 hc0 _ h2) rfl ml_L_60 st_L_good dL_why_2 (by decide) rfl (Nat.le_of_ble_eq_true rfl) ?_ rfl
  refine j_if_ne C 5 20 dL_why_5 (by decide) (fun c5 => ?_) (fun c5 => ?_)
  · refine j_aload_n C 8 0 rfl dL_why_8 ?_
    refine j_iconst (v := 1) C 9 dL_why_9 rfl ?_
    refine j_bind (fun x10 h10 => ?_)
    refine j_callS_i (As := [.ref (G.2.2 q0), .int 1]) (st := []) C k_L_good 10 (c_L_good C.2.2.2.2.2.2.1 (c := c) (w := w) _ _ q0 hq0 hc0 _ h10) rfl ml_L_60 st_L_good dL_why_10 (by decide) rfl (Nat.le_of_ble_eq_true rfl) ?_ rfl
    refine j_if_ne C 13 20 dL_why_13 (by decide) (fun c13 => ?_) (fun c13 => ?_)
    · refine j_iconst (v := 1) C 16 dL_why_16 rfl ?_
      refine j_goto C 17 44 dL_why_17 (by decide) ?_
      exact j_iret C 44 hr rfl rfl dL_why_44
    · exact wb_L_why_20 C hr n0 f0 q0 hq0 hc0 a1
  · exact wb_L_why_20 C hr n0 f0 q0 hq0 hc0 a1
theorem c_L_why {G : GG} {l : Launch} (hG : Gok G) {c : VC} {w : VW} (n0 : Nat) (f0 : Nat → Int32) (q0 : Nat) (hq0 : q0 < nG G) (hc0 : cellA G.2.1 G.2.2 (c, w) q0 = cI (G.2.1 0) n0 f0) (a1 : Int32) {x : Int32} (hf : f_L_why n0 f0 a1 = some x) : Ct l yL_why cL_why 2 (some .int) 1 [.ref (G.2.2 q0), .int a1] G (c, w) (some (.int x)) (c, w) := by
  refine ct_of (rv := fun x : Int32 => (some (.int x))) (fin := fun x : Int32 => ((c, w) : VA)) (own := RL) hG (plainFor_of_name (by decide)) rfl (Nat.le_of_ble_eq_true rfl) (fun X C hr _ => ?_) hf
  exact w_L_why C hr n0 f0 q0 hq0 hc0 a1
set_option maxRecDepth 100000 in
set_option maxHeartbeats 4000000 in
theorem wb_L_make_224 {G : GG} {X : WX} {c : VC} {w : VW} {k : Nat} (hk : 119 + k ≤ nG G) (C : Cx G 10 X RL cL_make 2) (hr : (xM X).sig.returnType = none) (K106 : VRw → Int32 → Int32 → Int32 → Int32 → Int32 → Option VRw) (hK106 : ∀ (v : VRw) (s5 : Int32) (s6 : Int32) (s7 : Int32) (s8 : Int32) (s9 : Int32), JS G 10 X (QM G X (fun x : VRw => none) (fun x : VRw => ((c, sRw w k x) : VA))) (K106 v s5 s6 s7 s8 s9) (c, sRw w k v) 106 [(0, .ref (G.2.2 (114 + k))), (1, .ref (G.2.2 (114 + (1 + k)))), (2, .ref (G.2.2 (114 + (2 + k)))), (3, .ref (G.2.2 (114 + (3 + k)))), (5, .int s5), (6, .int s6), (7, .int s7), (8, .int s8), (9, .int s9)] []) (v : VRw) (s5 : Int32) (s6 : Int32) (s7 : Int32) (s8 : Int32) (s9 : Int32) (t0 : Int32) (t2 : Int32) : JS G 10 X (QM G X (fun x : VRw => none) (fun x : VRw => ((c, sRw w k x) : VA))) (b_L_make_224 K106 v s5 s6 s7 s8 s9 t0 t2) (c, sRw w k v) 224 [(0, .ref (G.2.2 (114 + k))), (1, .ref (G.2.2 (114 + (1 + k)))), (2, .ref (G.2.2 (114 + (2 + k)))), (3, .ref (G.2.2 (114 + (3 + k)))), (5, .int s5), (6, .int s6), (7, .int s7), (8, .int s8), (9, .int s9)] [.int t0, .ref (G.2.2 (114 + (1 + k))), .int t2, .ref (G.2.2 (114 + (2 + k)))] := by
  unfold b_L_make_224
  refine j_iload C 224 8 rfl dL_make_224 ?_
  refine j_iload C 226 7 rfl dL_make_226 ?_
  refine j_isub C 228 dL_make_228 ?_
  refine j_bind (fun x229 h229 => ?_)
  refine j_callS_i (As := [.ref (G.2.2 (114 + (1 + k))), .int t0, .int (s9 - s8)]) (st := [.int t2, .ref (G.2.2 (114 + (2 + k)))]) C k_L_place 229 (c_L_place C.2.2.2.2.2.2.1 (c := c) (w := (sRw w k v)) _ _ (114 + (1 + k)) (by have := hk; omega) (a_Rw1 c w k v) _ _ h229) rfl ml_L_66 st_L_place dL_make_229 (by decide) rfl (Nat.le_of_ble_eq_true rfl) ?_ rfl
  refine j_bind (fun x232 h232 => ?_)
  refine t_Rw2 C (k := k) hk w v 232 h232 dL_make_232 ?_
  refine j_V (V' := (c, sRw w k (v.1, v.2.1, x232, v.2.2.2))) rfl ?_
  refine j_iinc (v := (s9 + 1)) (L1 := [(9, .int (s9 + 1)), (0, .ref (G.2.2 (114 + k))), (1, .ref (G.2.2 (114 + (1 + k)))), (2, .ref (G.2.2 (114 + (2 + k)))), (3, .ref (G.2.2 (114 + (3 + k)))), (5, .int s5), (6, .int s6), (7, .int s7), (8, .int s8)]) C 233 8 rfl dL_make_233 rfl (by decide) rfl ?_
  refine j_goto C 236 106 dL_make_236 (by decide) ?_
  refine j_L (L' := [(0, .ref (G.2.2 (114 + k))), (1, .ref (G.2.2 (114 + (1 + k)))), (2, .ref (G.2.2 (114 + (2 + k)))), (3, .ref (G.2.2 (114 + (3 + k)))), (5, .int s5), (6, .int s6), (7, .int s7), (8, .int s8), (9, .int (s9 + 1))]) [1, 2, 3, 4, 5, 6, 7, 8, 0] rfl ?_
  exact hK106 (v.1, v.2.1, x232, v.2.2.2) s5 s6 s7 s8 (s9 + 1)
set_option maxRecDepth 100000 in
set_option maxHeartbeats 4000000 in
theorem wb_L_make_275 {G : GG} {X : WX} {c : VC} {w : VW} {k : Nat} (hk : 119 + k ≤ nG G) (C : Cx G 10 X RL cL_make 2) (hr : (xM X).sig.returnType = none) (K242 : VRw → Int32 → Option VRw) (hK242 : ∀ (v : VRw) (s9 : Int32), JS G 10 X (QM G X (fun x : VRw => none) (fun x : VRw => ((c, sRw w k x) : VA))) (K242 v s9) (c, sRw w k v) 242 [(0, .ref (G.2.2 (114 + k))), (1, .ref (G.2.2 (114 + (1 + k)))), (9, .int s9)] []) (v : VRw) (s9 : Int32) (t0 : Int32) (t1 : Int32) : JS G 10 X (QM G X (fun x : VRw => none) (fun x : VRw => ((c, sRw w k x) : VA))) (b_L_make_275 K242 v s9 t0 t1) (c, sRw w k v) 275 [(0, .ref (G.2.2 (114 + k))), (1, .ref (G.2.2 (114 + (1 + k)))), (9, .int s9)] [.int t0, .int t1, .ref (G.2.2 (114 + (1 + k)))] := by
  unfold b_L_make_275
  refine j_bind (fun x275 h275 => ?_)
  refine t_Rw1 C (k := k) hk w v 275 h275 dL_make_275 ?_
  refine j_V (V' := (c, sRw w k (v.1, x275, v.2.2))) rfl ?_
  refine j_aload_n C 276 1 rfl dL_make_276 ?_
  refine j_iload C 277 2 rfl dL_make_277 ?_
  refine j_iconst (v := 5) C 279 dL_make_279 rfl ?_
  refine j_iadd C 280 dL_make_280 ?_
  refine j_aload_n C 281 0 rfl dL_make_281 ?_
  refine j_iconst (v := 2) C 282 dL_make_282 rfl ?_
  refine j_bind (fun x283 h283 => ?_)
  refine l_Rw0 C (k := k) hk w (v.1, x275, v.2.2) 283 h283 dL_make_283 ?_
  refine j_bind (fun x284 h284 => ?_)
  refine t_Rw1 C (k := k) hk w (v.1, x275, v.2.2) 284 h284 dL_make_284 ?_
  refine j_V (V' := (c, sRw w k (v.1, x284, v.2.2))) rfl ?_
  refine j_aload_n C 285 1 rfl dL_make_285 ?_
  refine j_iload C 286 2 rfl dL_make_286 ?_
  refine j_bipush (v := 6) C 288 dL_make_288 rfl ?_
  refine j_iadd C 290 dL_make_290 ?_
  refine j_aload_n C 291 0 rfl dL_make_291 ?_
  refine j_iconst (v := 2) C 292 dL_make_292 rfl ?_
  refine j_bind (fun x293 h293 => ?_)
  refine l_Rw0 C (k := k) hk w (v.1, x284, v.2.2) 293 h293 dL_make_293 ?_
  refine j_bind (fun x294 h294 => ?_)
  refine t_Rw1 C (k := k) hk w (v.1, x284, v.2.2) 294 h294 dL_make_294 ?_
  refine j_V (V' := (c, sRw w k (v.1, x294, v.2.2))) rfl ?_
  refine j_iinc (v := (s9 + 8)) (L1 := [(9, .int (s9 + 8)), (0, .ref (G.2.2 (114 + k))), (1, .ref (G.2.2 (114 + (1 + k))))]) C 295 2 rfl dL_make_295 rfl (by decide) rfl ?_
  refine j_goto C 298 242 dL_make_298 (by decide) ?_
  refine j_L (L' := [(0, .ref (G.2.2 (114 + k))), (1, .ref (G.2.2 (114 + (1 + k)))), (9, .int (s9 + 8))]) [1, 2, 0] rfl ?_
  exact hK242 (v.1, x294, v.2.2) (s9 + 8)
set_option maxRecDepth 100000 in
set_option maxHeartbeats 4000000 in
theorem wl_L_make_242 {G : GG} {X : WX} {c : VC} {w : VW} {k : Nat} (hk : 119 + k ≤ nG G) (C : Cx G 10 X RL cL_make 2) (hr : (xM X).sig.returnType = none) : ∀ (n : Nat) (v : VRw) (s9 : Int32), JS G 10 X (QM G X (fun x : VRw => none) (fun x : VRw => ((c, sRw w k x) : VA))) (l_L_make_242 n v s9) (c, sRw w k v) 242 [(0, .ref (G.2.2 (114 + k))), (1, .ref (G.2.2 (114 + (1 + k)))), (9, .int s9)] [] := by
  intro n
  induction n with
  | zero => intro _ _; exact j_none
  | succ n ih =>
    intro v s9
    unfold l_L_make_242
    refine j_iload C 242 2 rfl dL_make_242 ?_
    refine j_bipush (v := 32) C 244 dL_make_244 rfl ?_
    refine j_icmp_ge C 246 301 dL_make_246 (by decide) (fun c246 => ?_) (fun c246 => ?_)
    · refine j_aload_n C 249 1 rfl dL_make_249 ?_
      refine j_iload C 250 2 rfl dL_make_250 ?_
      refine j_iconst (v := 4) C 252 dL_make_252 rfl ?_
      refine j_iadd C 253 dL_make_253 ?_
      refine j_aload_n C 254 1 rfl dL_make_254 ?_
      refine j_iload C 255 2 rfl dL_make_255 ?_
      refine j_bind (fun x257 h257 => ?_)
      refine l_Rw1 C (k := k) hk w v 257 h257 dL_make_257 ?_
      refine j_if_le C 258 274 dL_make_258 (by decide) (fun c258 => ?_) (fun c258 => ?_)
      · refine j_aload_n C 261 1 rfl dL_make_261 ?_
        refine j_iload C 262 2 rfl dL_make_262 ?_
        refine j_iconst (v := 3) C 264 dL_make_264 rfl ?_
        refine j_iadd C 265 dL_make_265 ?_
        refine j_bind (fun x266 h266 => ?_)
        refine l_Rw1 C (k := k) hk w v 266 h266 dL_make_266 ?_
        refine j_if_ne C 267 274 dL_make_267 (by decide) (fun c267 => ?_) (fun c267 => ?_)
        · refine j_iconst (v := 1) C 270 dL_make_270 rfl ?_
          refine j_goto C 271 275 dL_make_271 (by decide) ?_
          exact wb_L_make_275 hk C hr _ ih v s9 1 (s9 + 4)
        · refine j_iconst (v := 0) C 274 dL_make_274 rfl ?_
          exact wb_L_make_275 hk C hr _ ih v s9 0 (s9 + 4)
      · refine j_iconst (v := 0) C 274 dL_make_274 rfl ?_
        exact wb_L_make_275 hk C hr _ ih v s9 0 (s9 + 4)
    · exact j_vret C 301 hr rfl rfl dL_make_301
set_option maxRecDepth 100000 in
set_option maxHeartbeats 4000000 in
theorem wl_L_make_106 {G : GG} {X : WX} {c : VC} {w : VW} {k : Nat} (hk : 119 + k ≤ nG G) (C : Cx G 10 X RL cL_make 2) (hr : (xM X).sig.returnType = none) : ∀ (n : Nat) (v : VRw) (s5 : Int32) (s6 : Int32) (s7 : Int32) (s8 : Int32) (s9 : Int32), JS G 10 X (QM G X (fun x : VRw => none) (fun x : VRw => ((c, sRw w k x) : VA))) (l_L_make_106 n v s5 s6 s7 s8 s9) (c, sRw w k v) 106 [(0, .ref (G.2.2 (114 + k))), (1, .ref (G.2.2 (114 + (1 + k)))), (2, .ref (G.2.2 (114 + (2 + k)))), (3, .ref (G.2.2 (114 + (3 + k)))), (5, .int s5), (6, .int s6), (7, .int s7), (8, .int s8), (9, .int s9)] [] := by
  intro n
  induction n with
  | zero => intro _ _ _ _ _ _; exact j_none
  | succ n ih =>
    intro v s5 s6 s7 s8 s9
    unfold l_L_make_106
    refine j_iload C 106 8 rfl dL_make_106 ?_
    refine j_aload_n C 108 0 rfl dL_make_108 ?_
    refine j_iconst (v := 0) C 109 dL_make_109 rfl ?_
    refine j_bind (fun x110 h110 => ?_)
    refine l_Rw0 C (k := k) hk w v 110 h110 dL_make_110 ?_
    refine j_icmp_ge C 111 239 dL_make_111 (by decide) (fun c111 => ?_) (fun c111 => ?_)
    · refine j_iload C 114 4 rfl dL_make_114 ?_
      refine j_iconst (v := 2) C 116 dL_make_116 rfl ?_
      refine j_icmp_ne C 117 145 dL_make_117 (by decide) (fun c117 => ?_) (fun c117 => ?_)
      · refine j_aload_n C 120 2 rfl dL_make_120 ?_
        refine j_iload C 121 8 rfl dL_make_121 ?_
        refine j_aload_n C 123 1 rfl dL_make_123 ?_
        refine j_iconst (v := 0) C 124 dL_make_124 rfl ?_
        refine j_iload C 125 8 rfl dL_make_125 ?_
        refine j_bind (fun x127 h127 => ?_)
        refine j_callS_i (As := [.ref (G.2.2 (114 + (1 + k))), .int 0, .int s9]) (st := [.int s9, .ref (G.2.2 (114 + (2 + k)))]) C k_L_place 127 (c_L_place C.2.2.2.2.2.2.1 (c := c) (w := (sRw w k v)) _ _ (114 + (1 + k)) (by have := hk; omega) (a_Rw1 c w k v) _ _ h127) rfl ml_L_66 st_L_place dL_make_127 (by decide) rfl (Nat.le_of_ble_eq_true rfl) ?_ rfl
        refine j_bind (fun x130 h130 => ?_)
        refine t_Rw2 C (k := k) hk w v 130 h130 dL_make_130 ?_
        refine j_V (V' := (c, sRw w k (v.1, v.2.1, x130, v.2.2.2))) rfl ?_
        refine j_aload_n C 131 3 rfl dL_make_131 ?_
        refine j_iload C 132 8 rfl dL_make_132 ?_
        refine j_aload_n C 134 1 rfl dL_make_134 ?_
        refine j_iconst (v := 1) C 135 dL_make_135 rfl ?_
        refine j_iload C 136 8 rfl dL_make_136 ?_
        refine j_bind (fun x138 h138 => ?_)
        refine j_callS_i (As := [.ref (G.2.2 (114 + (1 + k))), .int 1, .int s9]) (st := [.int s9, .ref (G.2.2 (114 + (3 + k)))]) C k_L_place 138 (c_L_place C.2.2.2.2.2.2.1 (c := c) (w := (sRw w k (v.1, v.2.1, x130, v.2.2.2))) _ _ (114 + (1 + k)) (by have := hk; omega) (a_Rw1 c w k (v.1, v.2.1, x130, v.2.2.2)) _ _ h138) rfl ml_L_66 st_L_place dL_make_138 (by decide) rfl (Nat.le_of_ble_eq_true rfl) ?_ rfl
        refine j_bind (fun x141 h141 => ?_)
        refine t_Rw3 C (k := k) hk w (v.1, v.2.1, x130, v.2.2.2) 141 h141 dL_make_141 ?_
        refine j_V (V' := (c, sRw w k (v.1, v.2.1, x130, x141, v.2.2.2.2))) rfl ?_
        refine j_goto C 142 233 dL_make_142 (by decide) ?_
        refine j_iinc (v := (s9 + 1)) (L1 := [(9, .int (s9 + 1)), (0, .ref (G.2.2 (114 + k))), (1, .ref (G.2.2 (114 + (1 + k)))), (2, .ref (G.2.2 (114 + (2 + k)))), (3, .ref (G.2.2 (114 + (3 + k)))), (5, .int s5), (6, .int s6), (7, .int s7), (8, .int s8)]) C 233 8 rfl dL_make_233 rfl (by decide) rfl ?_
        refine j_goto C 236 106 dL_make_236 (by decide) ?_
        refine j_L (L' := [(0, .ref (G.2.2 (114 + k))), (1, .ref (G.2.2 (114 + (1 + k)))), (2, .ref (G.2.2 (114 + (2 + k)))), (3, .ref (G.2.2 (114 + (3 + k)))), (5, .int s5), (6, .int s6), (7, .int s7), (8, .int s8), (9, .int (s9 + 1))]) [1, 2, 3, 4, 5, 6, 7, 8, 0] rfl ?_
        exact ih (v.1, v.2.1, x130, x141, v.2.2.2.2) s5 s6 s7 s8 (s9 + 1)
      · refine j_iload C 145 4 rfl dL_make_145 ?_
        refine j_iconst (v := 1) C 147 dL_make_147 rfl ?_
        refine j_icmp_ne C 148 185 dL_make_148 (by decide) (fun c148 => ?_) (fun c148 => ?_)
        · refine j_aload_n C 151 2 rfl dL_make_151 ?_
          refine j_iload C 152 8 rfl dL_make_152 ?_
          refine j_iload C 154 8 rfl dL_make_154 ?_
          refine j_iload C 156 5 rfl dL_make_156 ?_
          refine j_icmp_ge C 158 171 dL_make_158 (by decide) (fun c158 => ?_) (fun c158 => ?_)
          · refine j_aload_n C 161 1 rfl dL_make_161 ?_
            refine j_iconst (v := 0) C 162 dL_make_162 rfl ?_
            refine j_iload C 163 8 rfl dL_make_163 ?_
            refine j_bind (fun x165 h165 => ?_)
            refine j_callS_i (As := [.ref (G.2.2 (114 + (1 + k))), .int 0, .int s9]) (st := [.int s9, .ref (G.2.2 (114 + (2 + k)))]) C k_L_place 165 (c_L_place C.2.2.2.2.2.2.1 (c := c) (w := (sRw w k v)) _ _ (114 + (1 + k)) (by have := hk; omega) (a_Rw1 c w k v) _ _ h165) rfl ml_L_66 st_L_place dL_make_165 (by decide) rfl (Nat.le_of_ble_eq_true rfl) ?_ rfl
            refine j_goto C 168 181 dL_make_168 (by decide) ?_
            refine j_bind (fun x181 h181 => ?_)
            refine t_Rw2 C (k := k) hk w v 181 h181 dL_make_181 ?_
            refine j_V (V' := (c, sRw w k (v.1, v.2.1, x181, v.2.2.2))) rfl ?_
            refine j_goto C 182 233 dL_make_182 (by decide) ?_
            refine j_iinc (v := (s9 + 1)) (L1 := [(9, .int (s9 + 1)), (0, .ref (G.2.2 (114 + k))), (1, .ref (G.2.2 (114 + (1 + k)))), (2, .ref (G.2.2 (114 + (2 + k)))), (3, .ref (G.2.2 (114 + (3 + k)))), (5, .int s5), (6, .int s6), (7, .int s7), (8, .int s8)]) C 233 8 rfl dL_make_233 rfl (by decide) rfl ?_
            refine j_goto C 236 106 dL_make_236 (by decide) ?_
            refine j_L (L' := [(0, .ref (G.2.2 (114 + k))), (1, .ref (G.2.2 (114 + (1 + k)))), (2, .ref (G.2.2 (114 + (2 + k)))), (3, .ref (G.2.2 (114 + (3 + k)))), (5, .int s5), (6, .int s6), (7, .int s7), (8, .int s8), (9, .int (s9 + 1))]) [1, 2, 3, 4, 5, 6, 7, 8, 0] rfl ?_
            exact ih (v.1, v.2.1, x181, v.2.2.2) s5 s6 s7 s8 (s9 + 1)
          · refine j_aload_n C 171 1 rfl dL_make_171 ?_
            refine j_iconst (v := 1) C 172 dL_make_172 rfl ?_
            refine j_iload C 173 8 rfl dL_make_173 ?_
            refine j_iload C 175 5 rfl dL_make_175 ?_
            refine j_isub C 177 dL_make_177 ?_
            refine j_bind (fun x178 h178 => ?_)
            refine j_callS_i (As := [.ref (G.2.2 (114 + (1 + k))), .int 1, .int (s9 - s6)]) (st := [.int s9, .ref (G.2.2 (114 + (2 + k)))]) C k_L_place 178 (c_L_place C.2.2.2.2.2.2.1 (c := c) (w := (sRw w k v)) _ _ (114 + (1 + k)) (by have := hk; omega) (a_Rw1 c w k v) _ _ h178) rfl ml_L_66 st_L_place dL_make_178 (by decide) rfl (Nat.le_of_ble_eq_true rfl) ?_ rfl
            refine j_bind (fun x181 h181 => ?_)
            refine t_Rw2 C (k := k) hk w v 181 h181 dL_make_181 ?_
            refine j_V (V' := (c, sRw w k (v.1, v.2.1, x181, v.2.2.2))) rfl ?_
            refine j_goto C 182 233 dL_make_182 (by decide) ?_
            refine j_iinc (v := (s9 + 1)) (L1 := [(9, .int (s9 + 1)), (0, .ref (G.2.2 (114 + k))), (1, .ref (G.2.2 (114 + (1 + k)))), (2, .ref (G.2.2 (114 + (2 + k)))), (3, .ref (G.2.2 (114 + (3 + k)))), (5, .int s5), (6, .int s6), (7, .int s7), (8, .int s8)]) C 233 8 rfl dL_make_233 rfl (by decide) rfl ?_
            refine j_goto C 236 106 dL_make_236 (by decide) ?_
            refine j_L (L' := [(0, .ref (G.2.2 (114 + k))), (1, .ref (G.2.2 (114 + (1 + k)))), (2, .ref (G.2.2 (114 + (2 + k)))), (3, .ref (G.2.2 (114 + (3 + k)))), (5, .int s5), (6, .int s6), (7, .int s7), (8, .int s8), (9, .int (s9 + 1))]) [1, 2, 3, 4, 5, 6, 7, 8, 0] rfl ?_
            exact ih (v.1, v.2.1, x181, v.2.2.2) s5 s6 s7 s8 (s9 + 1)
        · refine j_aload_n C 185 2 rfl dL_make_185 ?_
          refine j_iload C 186 8 rfl dL_make_186 ?_
          refine j_iload C 188 8 rfl dL_make_188 ?_
          refine j_aload_n C 190 0 rfl dL_make_190 ?_
          refine j_iconst (v := 1) C 191 dL_make_191 rfl ?_
          refine j_bind (fun x192 h192 => ?_)
          refine l_Rw0 C (k := k) hk w v 192 h192 dL_make_192 ?_
          refine j_icmp_ge C 193 211 dL_make_193 (by decide) (fun c193 => ?_) (fun c193 => ?_)
          · refine j_aload_n C 196 1 rfl dL_make_196 ?_
            refine j_iload C 197 8 rfl dL_make_197 ?_
            refine j_iconst (v := 2) C 199 dL_make_199 rfl ?_
            refine j_irem C 200 dL_make_200 (by decide) ?_
            refine j_iload C 201 8 rfl dL_make_201 ?_
            refine j_iconst (v := 2) C 203 dL_make_203 rfl ?_
            refine j_idiv C 204 dL_make_204 (by decide) ?_
            refine j_bind (fun x205 h205 => ?_)
            refine j_callS_i (As := [.ref (G.2.2 (114 + (1 + k))), .int (s9 - s9 / 2 * 2), .int (s9 / 2)]) (st := [.int s9, .ref (G.2.2 (114 + (2 + k)))]) C k_L_place 205 (c_L_place C.2.2.2.2.2.2.1 (c := c) (w := (sRw w k v)) _ _ (114 + (1 + k)) (by have := hk; omega) (a_Rw1 c w k v) _ _ h205) rfl ml_L_66 st_L_place dL_make_205 (by decide) rfl (Nat.le_of_ble_eq_true rfl) ?_ rfl
            refine j_goto C 208 232 dL_make_208 (by decide) ?_
            refine j_bind (fun x232 h232 => ?_)
            refine t_Rw2 C (k := k) hk w v 232 h232 dL_make_232 ?_
            refine j_V (V' := (c, sRw w k (v.1, v.2.1, x232, v.2.2.2))) rfl ?_
            refine j_iinc (v := (s9 + 1)) (L1 := [(9, .int (s9 + 1)), (0, .ref (G.2.2 (114 + k))), (1, .ref (G.2.2 (114 + (1 + k)))), (2, .ref (G.2.2 (114 + (2 + k)))), (3, .ref (G.2.2 (114 + (3 + k)))), (5, .int s5), (6, .int s6), (7, .int s7), (8, .int s8)]) C 233 8 rfl dL_make_233 rfl (by decide) rfl ?_
            refine j_goto C 236 106 dL_make_236 (by decide) ?_
            refine j_L (L' := [(0, .ref (G.2.2 (114 + k))), (1, .ref (G.2.2 (114 + (1 + k)))), (2, .ref (G.2.2 (114 + (2 + k)))), (3, .ref (G.2.2 (114 + (3 + k)))), (5, .int s5), (6, .int s6), (7, .int s7), (8, .int s8), (9, .int (s9 + 1))]) [1, 2, 3, 4, 5, 6, 7, 8, 0] rfl ?_
            exact ih (v.1, v.2.1, x232, v.2.2.2) s5 s6 s7 s8 (s9 + 1)
          · refine j_aload_n C 211 1 rfl dL_make_211 ?_
            refine j_iload C 212 5 rfl dL_make_212 ?_
            refine j_iload C 214 6 rfl dL_make_214 ?_
            refine j_icmp_le C 216 223 dL_make_216 (by decide) (fun c216 => ?_) (fun c216 => ?_)
            · refine j_iconst (v := 0) C 219 dL_make_219 rfl ?_
              refine j_goto C 220 224 dL_make_220 (by decide) ?_
              exact wb_L_make_224 hk C hr _ ih v s5 s6 s7 s8 s9 0 s9
            · refine j_iconst (v := 1) C 223 dL_make_223 rfl ?_
              exact wb_L_make_224 hk C hr _ ih v s5 s6 s7 s8 s9 1 s9
    · refine j_iconst (v := 0) C 239 dL_make_239 rfl ?_
      refine j_istore (L1 := [(9, .int 0), (0, .ref (G.2.2 (114 + k))), (1, .ref (G.2.2 (114 + (1 + k)))), (2, .ref (G.2.2 (114 + (2 + k)))), (3, .ref (G.2.2 (114 + (3 + k)))), (5, .int s5), (6, .int s6), (7, .int s7), (8, .int s8)]) C 240 dL_make_240 (by decide) rfl ?_
      refine j_L (L' := [(0, .ref (G.2.2 (114 + k))), (1, .ref (G.2.2 (114 + (1 + k)))), (9, .int 0)]) [1, 2, 0] rfl ?_
      exact wl_L_make_242 hk C hr FU v 0
set_option maxRecDepth 100000 in
set_option maxHeartbeats 4000000 in
theorem wl_L_make_74 {G : GG} {X : WX} {c : VC} {w : VW} {k : Nat} (hk : 119 + k ≤ nG G) (C : Cx G 10 X RL cL_make 2) (hr : (xM X).sig.returnType = none) : ∀ (n : Nat) (v : VRw) (s5 : Int32) (s6 : Int32) (s7 : Int32) (s8 : Int32) (s9 : Int32), JS G 10 X (QM G X (fun x : VRw => none) (fun x : VRw => ((c, sRw w k x) : VA))) (l_L_make_74 n v s5 s6 s7 s8 s9) (c, sRw w k v) 74 [(0, .ref (G.2.2 (114 + k))), (1, .ref (G.2.2 (114 + (1 + k)))), (2, .ref (G.2.2 (114 + (2 + k)))), (3, .ref (G.2.2 (114 + (3 + k)))), (4, .ref (G.2.2 (114 + (4 + k)))), (5, .int s5), (6, .int s6), (7, .int s7), (8, .int s8), (9, .int s9)] [] := by
  intro n
  induction n with
  | zero => intro _ _ _ _ _ _; exact j_none
  | succ n ih =>
    intro v s5 s6 s7 s8 s9
    unfold l_L_make_74
    refine j_iload C 74 9 rfl dL_make_74 ?_
    refine j_bipush (v := 48) C 76 dL_make_76 rfl ?_
    refine j_icmp_ge C 78 103 dL_make_78 (by decide) (fun c78 => ?_) (fun c78 => ?_)
    · refine j_aload C 81 4 rfl dL_make_81 ?_
      refine j_iload C 83 9 rfl dL_make_83 ?_
      refine j_iconst (v := 0) C 85 dL_make_85 rfl ?_
      refine j_bind (fun x86 h86 => ?_)
      refine t_Rw4 C (k := k) hk w v 86 h86 dL_make_86 ?_
      refine j_V (V' := (c, sRw w k (v.1, v.2.1, v.2.2.1, v.2.2.2.1, x86))) rfl ?_
      refine j_aload_n C 87 2 rfl dL_make_87 ?_
      refine j_iload C 88 9 rfl dL_make_88 ?_
      refine j_iconst (v := (-1)) C 90 dL_make_90 rfl ?_
      refine j_bind (fun x91 h91 => ?_)
      refine t_Rw2 C (k := k) hk w (v.1, v.2.1, v.2.2.1, v.2.2.2.1, x86) 91 h91 dL_make_91 ?_
      refine j_V (V' := (c, sRw w k (v.1, v.2.1, x91, v.2.2.2.1, x86))) rfl ?_
      refine j_aload_n C 92 3 rfl dL_make_92 ?_
      refine j_iload C 93 9 rfl dL_make_93 ?_
      refine j_iconst (v := (-1)) C 95 dL_make_95 rfl ?_
      refine j_bind (fun x96 h96 => ?_)
      refine t_Rw3 C (k := k) hk w (v.1, v.2.1, x91, v.2.2.2.1, x86) 96 h96 dL_make_96 ?_
      refine j_V (V' := (c, sRw w k (v.1, v.2.1, x91, x96, x86))) rfl ?_
      refine j_iinc (v := (s9 + 1)) (L1 := [(9, .int (s9 + 1)), (0, .ref (G.2.2 (114 + k))), (1, .ref (G.2.2 (114 + (1 + k)))), (2, .ref (G.2.2 (114 + (2 + k)))), (3, .ref (G.2.2 (114 + (3 + k)))), (4, .ref (G.2.2 (114 + (4 + k)))), (5, .int s5), (6, .int s6), (7, .int s7), (8, .int s8)]) C 97 9 rfl dL_make_97 rfl (by decide) rfl ?_
      refine j_goto C 100 74 dL_make_100 (by decide) ?_
      refine j_L (L' := [(0, .ref (G.2.2 (114 + k))), (1, .ref (G.2.2 (114 + (1 + k)))), (2, .ref (G.2.2 (114 + (2 + k)))), (3, .ref (G.2.2 (114 + (3 + k)))), (4, .ref (G.2.2 (114 + (4 + k)))), (5, .int s5), (6, .int s6), (7, .int s7), (8, .int s8), (9, .int (s9 + 1))]) [1, 2, 3, 4, 5, 6, 7, 8, 9, 0] rfl ?_
      exact ih (v.1, v.2.1, x91, x96, x86) s5 s6 s7 s8 (s9 + 1)
    · refine j_iconst (v := 0) C 103 dL_make_103 rfl ?_
      refine j_istore (L1 := [(9, .int 0), (0, .ref (G.2.2 (114 + k))), (1, .ref (G.2.2 (114 + (1 + k)))), (2, .ref (G.2.2 (114 + (2 + k)))), (3, .ref (G.2.2 (114 + (3 + k)))), (4, .ref (G.2.2 (114 + (4 + k)))), (5, .int s5), (6, .int s6), (7, .int s7), (8, .int s8)]) C 104 dL_make_104 (by decide) rfl ?_
      refine j_L (L' := [(0, .ref (G.2.2 (114 + k))), (1, .ref (G.2.2 (114 + (1 + k)))), (2, .ref (G.2.2 (114 + (2 + k)))), (3, .ref (G.2.2 (114 + (3 + k)))), (5, .int s5), (6, .int s6), (7, .int s7), (8, .int s8), (9, .int 0)]) [1, 2, 3, 4, 6, 7, 8, 9, 0] rfl ?_
      exact wl_L_make_106 hk C hr FU v s5 s6 s7 s8 0
set_option maxRecDepth 100000 in
set_option maxHeartbeats 4000000 in
theorem wb_L_make_54 {G : GG} {X : WX} {c : VC} {w : VW} {k : Nat} (hk : 119 + k ≤ nG G) (C : Cx G 10 X RL cL_make 2) (hr : (xM X).sig.returnType = none) (v : VRw) (s5 : Int32) (s6 : Int32) (s7 : Int32) (s8 : Int32) (t0 : Int32) (t1 : Int32) : JS G 10 X (QM G X (fun x : VRw => none) (fun x : VRw => ((c, sRw w k x) : VA))) (b_L_make_54 v s5 s6 s7 s8 t0 t1) (c, sRw w k v) 54 [(0, .ref (G.2.2 (114 + k))), (1, .ref (G.2.2 (114 + (1 + k)))), (2, .ref (G.2.2 (114 + (2 + k)))), (3, .ref (G.2.2 (114 + (3 + k)))), (4, .ref (G.2.2 (114 + (4 + k)))), (5, .int s5), (6, .int s6), (7, .int s7), (8, .int s8)] [.int t0, .int t1, .ref (G.2.2 (114 + k))] := by
  unfold b_L_make_54
  refine j_bind (fun x54 h54 => ?_)
  refine t_Rw0 C (k := k) hk w v 54 h54 dL_make_54 ?_
  refine j_V (V' := (c, sRw w k (x54, v.2))) rfl ?_
  refine j_aload_n C 55 0 rfl dL_make_55 ?_
  refine j_iconst (v := 1) C 56 dL_make_56 rfl ?_
  refine j_iload C 57 5 rfl dL_make_57 ?_
  refine j_if_ne C 59 69 dL_make_59 (by decide) (fun c59 => ?_) (fun c59 => ?_)
  · refine j_iconst (v := 2) C 62 dL_make_62 rfl ?_
    refine j_iload C 63 8 rfl dL_make_63 ?_
    refine j_imul C 65 dL_make_65 ?_
    refine j_goto C 66 70 dL_make_66 (by decide) ?_
    refine j_bind (fun x70 h70 => ?_)
    refine t_Rw0 C (k := k) hk w (x54, v.2) 70 h70 dL_make_70 ?_
    refine j_V (V' := (c, sRw w k (x70, v.2))) rfl ?_
    refine j_iconst (v := 0) C 71 dL_make_71 rfl ?_
    refine j_istore (L1 := [(9, .int 0), (0, .ref (G.2.2 (114 + k))), (1, .ref (G.2.2 (114 + (1 + k)))), (2, .ref (G.2.2 (114 + (2 + k)))), (3, .ref (G.2.2 (114 + (3 + k)))), (4, .ref (G.2.2 (114 + (4 + k)))), (5, .int s5), (6, .int s6), (7, .int s7), (8, .int s8)]) C 72 dL_make_72 (by decide) rfl ?_
    refine j_L (L' := [(0, .ref (G.2.2 (114 + k))), (1, .ref (G.2.2 (114 + (1 + k)))), (2, .ref (G.2.2 (114 + (2 + k)))), (3, .ref (G.2.2 (114 + (3 + k)))), (4, .ref (G.2.2 (114 + (4 + k)))), (5, .int s5), (6, .int s6), (7, .int s7), (8, .int s8), (9, .int 0)]) [1, 2, 3, 4, 5, 6, 7, 8, 9, 0] rfl ?_
    exact wl_L_make_74 hk C hr FU (x70, v.2) s5 s6 s7 s8 0
  · refine j_iconst (v := 0) C 69 dL_make_69 rfl ?_
    refine j_bind (fun x70 h70 => ?_)
    refine t_Rw0 C (k := k) hk w (x54, v.2) 70 h70 dL_make_70 ?_
    refine j_V (V' := (c, sRw w k (x70, v.2))) rfl ?_
    refine j_iconst (v := 0) C 71 dL_make_71 rfl ?_
    refine j_istore (L1 := [(9, .int 0), (0, .ref (G.2.2 (114 + k))), (1, .ref (G.2.2 (114 + (1 + k)))), (2, .ref (G.2.2 (114 + (2 + k)))), (3, .ref (G.2.2 (114 + (3 + k)))), (4, .ref (G.2.2 (114 + (4 + k)))), (5, .int s5), (6, .int s6), (7, .int s7), (8, .int s8)]) C 72 dL_make_72 (by decide) rfl ?_
    refine j_L (L' := [(0, .ref (G.2.2 (114 + k))), (1, .ref (G.2.2 (114 + (1 + k)))), (2, .ref (G.2.2 (114 + (2 + k)))), (3, .ref (G.2.2 (114 + (3 + k)))), (4, .ref (G.2.2 (114 + (4 + k)))), (5, .int s5), (6, .int s6), (7, .int s7), (8, .int s8), (9, .int 0)]) [1, 2, 3, 4, 5, 6, 7, 8, 9, 0] rfl ?_
    exact wl_L_make_74 hk C hr FU (x70, v.2) s5 s6 s7 s8 0
set_option maxRecDepth 100000 in
set_option maxHeartbeats 4000000 in
theorem wb_L_make_28 {G : GG} {X : WX} {c : VC} {w : VW} {k : Nat} (hk : 119 + k ≤ nG G) (C : Cx G 10 X RL cL_make 2) (hr : (xM X).sig.returnType = none) (v : VRw) (s5 : Int32) (s6 : Int32) (s7 : Int32) (t0 : Int32) : JS G 10 X (QM G X (fun x : VRw => none) (fun x : VRw => ((c, sRw w k x) : VA))) (b_L_make_28 v s5 s6 s7 t0) (c, sRw w k v) 28 [(0, .ref (G.2.2 (114 + k))), (1, .ref (G.2.2 (114 + (1 + k)))), (2, .ref (G.2.2 (114 + (2 + k)))), (3, .ref (G.2.2 (114 + (3 + k)))), (4, .ref (G.2.2 (114 + (4 + k)))), (5, .int s5), (6, .int s6), (7, .int s7)] [.int t0] := by
  unfold b_L_make_28
  refine j_istore (L1 := [(8, .int t0), (0, .ref (G.2.2 (114 + k))), (1, .ref (G.2.2 (114 + (1 + k)))), (2, .ref (G.2.2 (114 + (2 + k)))), (3, .ref (G.2.2 (114 + (3 + k)))), (4, .ref (G.2.2 (114 + (4 + k)))), (5, .int s5), (6, .int s6), (7, .int s7)]) C 28 dL_make_28 (by decide) rfl ?_
  refine j_aload_n C 30 1 rfl dL_make_30 ?_
  refine j_bipush (v := 9) C 31 dL_make_31 rfl ?_
  refine j_iload C 33 6 rfl dL_make_33 ?_
  refine j_bind (fun x35 h35 => ?_)
  refine t_Rw0 C (k := k) hk w v 35 h35 dL_make_35 ?_
  refine j_V (V' := (c, sRw w k (x35, v.2))) rfl ?_
  refine j_aload_n C 36 1 rfl dL_make_36 ?_
  refine j_iconst (v := 0) C 37 dL_make_37 rfl ?_
  refine j_iload C 38 6 rfl dL_make_38 ?_
  refine j_iconst (v := 2) C 40 dL_make_40 rfl ?_
  refine j_icmp_ne C 41 49 dL_make_41 (by decide) (fun c41 => ?_) (fun c41 => ?_)
  · refine j_iload C 44 0 rfl dL_make_44 ?_
    refine j_goto C 46 54 dL_make_46 (by decide) ?_
    refine j_L (L' := [(0, .ref (G.2.2 (114 + k))), (1, .ref (G.2.2 (114 + (1 + k)))), (2, .ref (G.2.2 (114 + (2 + k)))), (3, .ref (G.2.2 (114 + (3 + k)))), (4, .ref (G.2.2 (114 + (4 + k)))), (5, .int s5), (6, .int s6), (7, .int s7), (8, .int t0)]) [1, 2, 3, 4, 5, 6, 7, 8, 0] rfl ?_
    exact wb_L_make_54 hk C hr (x35, v.2) s5 s6 s7 t0 t0 0
  · refine j_iload C 49 7 rfl dL_make_49 ?_
    refine j_iload C 51 8 rfl dL_make_51 ?_
    refine j_iadd C 53 dL_make_53 ?_
    refine j_L (L' := [(0, .ref (G.2.2 (114 + k))), (1, .ref (G.2.2 (114 + (1 + k)))), (2, .ref (G.2.2 (114 + (2 + k)))), (3, .ref (G.2.2 (114 + (3 + k)))), (4, .ref (G.2.2 (114 + (4 + k)))), (5, .int s5), (6, .int s6), (7, .int s7), (8, .int t0)]) [1, 2, 3, 4, 5, 6, 7, 8, 0] rfl ?_
    exact wb_L_make_54 hk C hr (x35, v.2) s5 s6 s7 t0 (s6 + s7) 0
set_option maxRecDepth 100000 in
set_option maxHeartbeats 4000000 in
theorem w_L_make {G : GG} {X : WX} {c : VC} {w : VW} {k : Nat} (hk : 119 + k ≤ nG G) (C : Cx G 10 X RL cL_make 2) (hr : (xM X).sig.returnType = none) (v : VRw) (a5 : Int32) : JS G 10 X (QM G X (fun x : VRw => none) (fun x : VRw => ((c, sRw w k x) : VA))) (f_L_make v a5) (c, sRw w k v) 0 [(0, .ref (G.2.2 (114 + k))), (1, .ref (G.2.2 (114 + (1 + k)))), (2, .ref (G.2.2 (114 + (2 + k)))), (3, .ref (G.2.2 (114 + (3 + k)))), (4, .ref (G.2.2 (114 + (4 + k)))), (5, .int a5)] [] := by
  unfold f_L_make
  refine j_aload_n C 0 1 rfl dL_make_0 ?_
  refine j_iconst (v := 0) C 1 dL_make_1 rfl ?_
  refine j_bind (fun x2 h2 => ?_)
  refine j_callS_i (As := [.ref (G.2.2 (114 + (1 + k))), .int 0]) (st := []) C k_L_good 2 (c_L_good C.2.2.2.2.2.2.1 (c := c) (w := (sRw w k v)) _ _ (114 + (1 + k)) (by have := hk; omega) (a_Rw1 c w k v) _ h2) rfl ml_L_60 st_L_good dL_make_2 (by decide) rfl (Nat.le_of_ble_eq_true rfl) ?_ rfl
  refine j_istore (L1 := [(6, .int x2), (0, .ref (G.2.2 (114 + k))), (1, .ref (G.2.2 (114 + (1 + k)))), (2, .ref (G.2.2 (114 + (2 + k)))), (3, .ref (G.2.2 (114 + (3 + k)))), (4, .ref (G.2.2 (114 + (4 + k)))), (5, .int a5)]) C 5 dL_make_5 (by decide) rfl ?_
  refine j_aload_n C 7 2 rfl dL_make_7 ?_
  refine j_iconst (v := 1) C 8 dL_make_8 rfl ?_
  refine j_bind (fun x9 h9 => ?_)
  refine j_callS_i (As := [.ref (G.2.2 (114 + (1 + k))), .int 1]) (st := []) C k_L_good 9 (c_L_good C.2.2.2.2.2.2.1 (c := c) (w := (sRw w k v)) _ _ (114 + (1 + k)) (by have := hk; omega) (a_Rw1 c w k v) _ h9) rfl ml_L_60 st_L_good dL_make_9 (by decide) rfl (Nat.le_of_ble_eq_true rfl) ?_ rfl
  refine j_istore (L1 := [(7, .int x9), (6, .int x2), (0, .ref (G.2.2 (114 + k))), (1, .ref (G.2.2 (114 + (1 + k)))), (2, .ref (G.2.2 (114 + (2 + k)))), (3, .ref (G.2.2 (114 + (3 + k)))), (4, .ref (G.2.2 (114 + (4 + k)))), (5, .int a5)]) C 12 dL_make_12 (by decide) rfl ?_
  refine j_iload C 14 1 rfl dL_make_14 ?_
  refine j_iload C 16 0 rfl dL_make_16 ?_
  refine j_icmp_ge C 18 26 dL_make_18 (by decide) (fun c18 => ?_) (fun c18 => ?_)
  · refine j_iload C 21 1 rfl dL_make_21 ?_
    refine j_goto C 23 28 dL_make_23 (by decide) ?_
    refine j_L (L' := [(0, .ref (G.2.2 (114 + k))), (1, .ref (G.2.2 (114 + (1 + k)))), (2, .ref (G.2.2 (114 + (2 + k)))), (3, .ref (G.2.2 (114 + (3 + k)))), (4, .ref (G.2.2 (114 + (4 + k)))), (5, .int a5), (6, .int x2), (7, .int x9)]) [2, 3, 4, 5, 6, 7, 1, 0] rfl ?_
    exact wb_L_make_28 hk C hr v a5 x2 x9 x2
  · refine j_iload C 26 0 rfl dL_make_26 ?_
    refine j_L (L' := [(0, .ref (G.2.2 (114 + k))), (1, .ref (G.2.2 (114 + (1 + k)))), (2, .ref (G.2.2 (114 + (2 + k)))), (3, .ref (G.2.2 (114 + (3 + k)))), (4, .ref (G.2.2 (114 + (4 + k)))), (5, .int a5), (6, .int x2), (7, .int x9)]) [2, 3, 4, 5, 6, 7, 1, 0] rfl ?_
    exact wb_L_make_28 hk C hr v a5 x2 x9 x9
theorem c_L_make {G : GG} {l : Launch} (hG : Gok G) {c : VC} {w : VW} {k : Nat} (hk : 119 + k ≤ nG G) (v : VRw) (a5 : Int32) {x : VRw} (hf : f_L_make v a5 = some x) : Ct l yL_make cL_make 10 none 2 [.ref (G.2.2 (114 + k)), .ref (G.2.2 (114 + (1 + k))), .ref (G.2.2 (114 + (2 + k))), .ref (G.2.2 (114 + (3 + k))), .ref (G.2.2 (114 + (4 + k))), .int a5] G (c, sRw w k v) none (c, sRw w k x) := by
  refine ct_of (rv := fun _ : VRw => none) (fin := fun x : VRw => ((c, sRw w k x) : VA)) (own := RL) hG (plainFor_of_name (by decide)) rfl (Nat.le_of_ble_eq_true rfl) (fun X C hr _ => ?_) hf
  exact w_L_make hk C hr v a5
set_option maxRecDepth 100000 in
set_option maxHeartbeats 4000000 in
theorem w_L_can {G : GG} {X : WX} {c : VC} {w : VW} (C : Cx G 4 X RL cL_can 1) (hr : (xM X).sig.returnType = (some .boolean)) (n0 : Nat) (f0 : Nat → Int32) (q0 : Nat) (hq0 : q0 < nG G) (hc0 : cellA G.2.1 G.2.2 (c, w) q0 = cI (G.2.1 0) n0 f0) (n1 : Nat) (f1 : Nat → Int32) (q1 : Nat) (hq1 : q1 < nG G) (hc1 : cellA G.2.1 G.2.2 (c, w) q1 = cI (G.2.1 0) n1 f1) (n2 : Nat) (f2 : Nat → Int32) (q2 : Nat) (hq2 : q2 < nG G) (hc2 : cellA G.2.1 G.2.2 (c, w) q2 = cI (G.2.1 0) n2 f2) (a3 : Int32) : JS G 4 X (QM G X (fun x : Int32 => some (.int x)) (fun x : Int32 => ((c, w) : VA))) (f_L_can n0 f0 n1 f1 n2 f2 a3) (c, w) 0 [(0, .ref (G.2.2 q0)), (1, .ref (G.2.2 q1)), (2, .ref (G.2.2 q2)), (3, .int a3)] [] := by
  unfold f_L_can
  refine j_aload_n C 0 0 rfl dL_can_0 ?_
  refine j_aload_n C 1 1 rfl dL_can_1 ?_
  refine j_iload_n C 2 3 rfl dL_can_2 ?_
  refine j_bind (fun x3 h3 => ?_)
  refine j_iald C 3 q1 hq1 rfl hc1 h3 dL_can_3 ?_
  refine j_bind (fun x4 h4 => ?_)
  refine j_callS_i (As := [.ref (G.2.2 q0), .int x3]) (st := []) C k_L_isLeft 4 (c_L_isLeft C.2.2.2.2.2.2.1 (c := c) (w := w) _ _ q0 hq0 hc0 _ h4) rfl ml_L_70 st_L_isLeft dL_can_4 (by decide) rfl (Nat.le_of_ble_eq_true rfl) ?_ rfl
  refine j_if_ne C 7 20 dL_can_7 (by decide) (fun c7 => ?_) (fun c7 => ?_)
  · refine j_aload_n C 10 0 rfl dL_can_10 ?_
    refine j_aload_n C 11 2 rfl dL_can_11 ?_
    refine j_iload_n C 12 3 rfl dL_can_12 ?_
    refine j_bind (fun x13 h13 => ?_)
    refine j_iald C 13 q2 hq2 rfl hc2 h13 dL_can_13 ?_
    refine j_bind (fun x14 h14 => ?_)
    refine j_callS_i (As := [.ref (G.2.2 q0), .int x13]) (st := []) C k_L_isLeft 14 (c_L_isLeft C.2.2.2.2.2.2.1 (c := c) (w := w) _ _ q0 hq0 hc0 _ h14) rfl ml_L_70 st_L_isLeft dL_can_14 (by decide) rfl (Nat.le_of_ble_eq_true rfl) ?_ rfl
    refine j_if_eq C 17 24 dL_can_17 (by decide) (fun c17 => ?_) (fun c17 => ?_)
    · refine j_iconst (v := 0) C 24 dL_can_24 rfl ?_
      exact j_zret C 25 hr rfl rfl rfl dL_can_25
    · refine j_iconst (v := 1) C 20 dL_can_20 rfl ?_
      refine j_goto C 21 25 dL_can_21 (by decide) ?_
      exact j_zret C 25 hr rfl rfl rfl dL_can_25
  · refine j_iconst (v := 1) C 20 dL_can_20 rfl ?_
    refine j_goto C 21 25 dL_can_21 (by decide) ?_
    exact j_zret C 25 hr rfl rfl rfl dL_can_25
theorem c_L_can {G : GG} {l : Launch} (hG : Gok G) {c : VC} {w : VW} (n0 : Nat) (f0 : Nat → Int32) (q0 : Nat) (hq0 : q0 < nG G) (hc0 : cellA G.2.1 G.2.2 (c, w) q0 = cI (G.2.1 0) n0 f0) (n1 : Nat) (f1 : Nat → Int32) (q1 : Nat) (hq1 : q1 < nG G) (hc1 : cellA G.2.1 G.2.2 (c, w) q1 = cI (G.2.1 0) n1 f1) (n2 : Nat) (f2 : Nat → Int32) (q2 : Nat) (hq2 : q2 < nG G) (hc2 : cellA G.2.1 G.2.2 (c, w) q2 = cI (G.2.1 0) n2 f2) (a3 : Int32) {x : Int32} (hf : f_L_can n0 f0 n1 f1 n2 f2 a3 = some x) : Ct l yL_can cL_can 4 (some .boolean) 1 [.ref (G.2.2 q0), .ref (G.2.2 q1), .ref (G.2.2 q2), .int a3] G (c, w) (some (.int x)) (c, w) := by
  refine ct_of (rv := fun x : Int32 => (some (.int x))) (fin := fun x : Int32 => ((c, w) : VA)) (own := RL) hG (plainFor_of_name (by decide)) rfl (Nat.le_of_ble_eq_true rfl) (fun X C hr _ => ?_) hf
  exact w_L_can C hr n0 f0 q0 hq0 hc0 n1 f1 q1 hq1 hc1 n2 f2 q2 hq2 hc2 a3
set_option maxRecDepth 100000 in
set_option maxHeartbeats 4000000 in
theorem w_L_readAt {G : GG} {X : WX} {c : VC} {w : VW} (C : Cx G 4 X RL cL_readAt 1) (hr : (xM X).sig.returnType = (some .int)) (n0 : Nat) (f0 : Nat → Int32) (q0 : Nat) (hq0 : q0 < nG G) (hc0 : cellA G.2.1 G.2.2 (c, w) q0 = cI (G.2.1 0) n0 f0) (n1 : Nat) (f1 : Nat → Int32) (q1 : Nat) (hq1 : q1 < nG G) (hc1 : cellA G.2.1 G.2.2 (c, w) q1 = cI (G.2.1 0) n1 f1) (n2 : Nat) (f2 : Nat → Int32) (q2 : Nat) (hq2 : q2 < nG G) (hc2 : cellA G.2.1 G.2.2 (c, w) q2 = cI (G.2.1 0) n2 f2) (a3 : Int32) : JS G 4 X (QM G X (fun x : Int32 => some (.int x)) (fun x : Int32 => ((c, w) : VA))) (f_L_readAt n0 f0 n1 f1 n2 f2 a3) (c, w) 0 [(0, .ref (G.2.2 q0)), (1, .ref (G.2.2 q1)), (2, .ref (G.2.2 q2)), (3, .int a3)] [] := by
  unfold f_L_readAt
  refine j_aload_n C 0 0 rfl dL_readAt_0 ?_
  refine j_aload_n C 1 1 rfl dL_readAt_1 ?_
  refine j_iload_n C 2 3 rfl dL_readAt_2 ?_
  refine j_bind (fun x3 h3 => ?_)
  refine j_iald C 3 q1 hq1 rfl hc1 h3 dL_readAt_3 ?_
  refine j_bind (fun x4 h4 => ?_)
  refine j_callS_i (As := [.ref (G.2.2 q0), .int x3]) (st := []) C k_L_isLeft 4 (c_L_isLeft C.2.2.2.2.2.2.1 (c := c) (w := w) _ _ q0 hq0 hc0 _ h4) rfl ml_L_70 st_L_isLeft dL_readAt_4 (by decide) rfl (Nat.le_of_ble_eq_true rfl) ?_ rfl
  refine j_if_eq C 7 16 dL_readAt_7 (by decide) (fun c7 => ?_) (fun c7 => ?_)
  · refine j_aload_n C 16 2 rfl dL_readAt_16 ?_
    refine j_iload_n C 17 3 rfl dL_readAt_17 ?_
    refine j_bind (fun x18 h18 => ?_)
    refine j_iald C 18 q2 hq2 rfl hc2 h18 dL_readAt_18 ?_
    exact j_iret C 19 hr rfl rfl dL_readAt_19
  · refine j_aload_n C 10 1 rfl dL_readAt_10 ?_
    refine j_iload_n C 11 3 rfl dL_readAt_11 ?_
    refine j_bind (fun x12 h12 => ?_)
    refine j_iald C 12 q1 hq1 rfl hc1 h12 dL_readAt_12 ?_
    refine j_goto C 13 19 dL_readAt_13 (by decide) ?_
    exact j_iret C 19 hr rfl rfl dL_readAt_19
theorem c_L_readAt {G : GG} {l : Launch} (hG : Gok G) {c : VC} {w : VW} (n0 : Nat) (f0 : Nat → Int32) (q0 : Nat) (hq0 : q0 < nG G) (hc0 : cellA G.2.1 G.2.2 (c, w) q0 = cI (G.2.1 0) n0 f0) (n1 : Nat) (f1 : Nat → Int32) (q1 : Nat) (hq1 : q1 < nG G) (hc1 : cellA G.2.1 G.2.2 (c, w) q1 = cI (G.2.1 0) n1 f1) (n2 : Nat) (f2 : Nat → Int32) (q2 : Nat) (hq2 : q2 < nG G) (hc2 : cellA G.2.1 G.2.2 (c, w) q2 = cI (G.2.1 0) n2 f2) (a3 : Int32) {x : Int32} (hf : f_L_readAt n0 f0 n1 f1 n2 f2 a3 = some x) : Ct l yL_readAt cL_readAt 4 (some .int) 1 [.ref (G.2.2 q0), .ref (G.2.2 q1), .ref (G.2.2 q2), .int a3] G (c, w) (some (.int x)) (c, w) := by
  refine ct_of (rv := fun x : Int32 => (some (.int x))) (fin := fun x : Int32 => ((c, w) : VA)) (own := RL) hG (plainFor_of_name (by decide)) rfl (Nat.le_of_ble_eq_true rfl) (fun X C hr _ => ?_) hf
  exact w_L_readAt C hr n0 f0 q0 hq0 hc0 n1 f1 q1 hq1 hc1 n2 f2 q2 hq2 hc2 a3
set_option maxRecDepth 100000 in
set_option maxHeartbeats 4000000 in
theorem w_L_rank {G : GG} {X : WX} {c : VC} {w : VW} (C : Cx G 3 X RL cL_rank 0) (hr : (xM X).sig.returnType = (some .int)) (n0 : Nat) (f0 : Nat → Int32) (q0 : Nat) (hq0 : q0 < nG G) (hc0 : cellA G.2.1 G.2.2 (c, w) q0 = cI (G.2.1 0) n0 f0) (a1 : Int32) : JS G 3 X (QM G X (fun x : Int32 => some (.int x)) (fun x : Int32 => ((c, w) : VA))) (f_L_rank n0 f0 a1) (c, w) 0 [(0, .ref (G.2.2 q0)), (1, .int a1)] [] := by
  unfold f_L_rank
  refine j_bipush (v := 8) C 0 dL_rank_0 rfl ?_
  refine j_iload_n C 2 1 rfl dL_rank_2 ?_
  refine j_bipush (v := 12) C 3 dL_rank_3 rfl ?_
  refine j_idiv C 5 dL_rank_5 (by decide) ?_
  refine j_imul C 6 dL_rank_6 ?_
  refine j_istore_n (L1 := [(2, .int (8 * (a1 / 12))), (0, .ref (G.2.2 q0)), (1, .int a1)]) C 7 rfl dL_rank_7 (by decide) rfl ?_
  refine j_iload_n C 8 0 rfl dL_rank_8 ?_
  refine j_iconst (v := 5) C 9 dL_rank_9 rfl ?_
  refine j_iadd C 10 dL_rank_10 ?_
  refine j_aload_n C 11 1 rfl dL_rank_11 ?_
  refine j_iload_n C 12 0 rfl dL_rank_12 ?_
  refine j_iconst (v := 1) C 13 dL_rank_13 rfl ?_
  refine j_iadd C 14 dL_rank_14 ?_
  refine j_bind (fun x15 h15 => ?_)
  refine j_iald C 15 q0 hq0 rfl hc0 h15 dL_rank_15 ?_
  refine j_iconst (v := 2) C 16 dL_rank_16 rfl ?_
  refine j_icmp_ne C 17 29 dL_rank_17 (by decide) (fun c17 => ?_) (fun c17 => ?_)
  · refine j_iload_n C 20 2 rfl dL_rank_20 ?_
    refine j_bipush (v := 12) C 21 dL_rank_21 rfl ?_
    refine j_irem C 23 dL_rank_23 (by decide) ?_
    refine j_iconst (v := 2) C 24 dL_rank_24 rfl ?_
    refine j_irem C 25 dL_rank_25 (by decide) ?_
    refine j_goto C 26 30 dL_rank_26 (by decide) ?_
    refine j_iadd C 30 dL_rank_30 ?_
    exact j_iret C 31 hr rfl rfl dL_rank_31
  · refine j_iconst (v := 0) C 29 dL_rank_29 rfl ?_
    refine j_iadd C 30 dL_rank_30 ?_
    exact j_iret C 31 hr rfl rfl dL_rank_31
theorem c_L_rank {G : GG} {l : Launch} (hG : Gok G) {c : VC} {w : VW} (n0 : Nat) (f0 : Nat → Int32) (q0 : Nat) (hq0 : q0 < nG G) (hc0 : cellA G.2.1 G.2.2 (c, w) q0 = cI (G.2.1 0) n0 f0) (a1 : Int32) {x : Int32} (hf : f_L_rank n0 f0 a1 = some x) : Ct l yL_rank cL_rank 3 (some .int) 0 [.ref (G.2.2 q0), .int a1] G (c, w) (some (.int x)) (c, w) := by
  refine ct_of (rv := fun x : Int32 => (some (.int x))) (fin := fun x : Int32 => ((c, w) : VA)) (own := RL) hG (plainFor_of_name (by decide)) rfl (Nat.le_of_ble_eq_true rfl) (fun X C hr _ => ?_) hf
  exact w_L_rank C hr n0 f0 q0 hq0 hc0 a1
set_option maxRecDepth 100000 in
set_option maxHeartbeats 4000000 in
theorem wb_L_reads_95 {G : GG} {X : WX} {c : VC} {w : VW} {k : Nat} (hk : 119 + k ≤ nG G) (C : Cx G 9 X RL cL_reads 2) (hr : (xM X).sig.returnType = none) (K81 : VRw → Int32 → Int32 → Int32 → Int32 → Option VRw) (hK81 : ∀ (v : VRw) (s4 : Int32) (s5 : Int32) (s6 : Int32) (s7 : Int32), JS G 9 X (QM G X (fun x : VRw => none) (fun x : VRw => ((c, sRw w k x) : VA))) (K81 v s4 s5 s6 s7) (c, sRw w k v) 81 [(0, .ref (G.2.2 (114 + k))), (1, .ref (G.2.2 (114 + (1 + k)))), (2, .ref (G.2.2 (114 + (2 + k)))), (3, .ref (G.2.2 (114 + (3 + k)))), (4, .int s4), (5, .int s5), (6, .int s6), (7, .int s7)] []) (v : VRw) (s4 : Int32) (s5 : Int32) (s6 : Int32) (s7 : Int32) (t0 : Int32) (t1 : Int32) (t2 : Int32) : JS G 9 X (QM G X (fun x : VRw => none) (fun x : VRw => ((c, sRw w k x) : VA))) (b_L_reads_95 K81 v s4 s5 s6 s7 t0 t1 t2) (c, sRw w k v) 95 [(0, .ref (G.2.2 (114 + k))), (1, .ref (G.2.2 (114 + (1 + k)))), (2, .ref (G.2.2 (114 + (2 + k)))), (3, .ref (G.2.2 (114 + (3 + k)))), (4, .int s4), (5, .int s5), (6, .int s6), (7, .int s7)] [.int t0, .int t1, .int t2] := by
  unfold b_L_reads_95
  refine j_iadd C 95 dL_reads_95 ?_
  refine j_icmp_ge C 96 162 dL_reads_96 (by decide) (fun c96 => ?_) (fun c96 => ?_)
  · refine j_bipush (v := 8) C 99 dL_reads_99 rfl ?_
    refine j_aload_n C 101 1 rfl dL_reads_101 ?_
    refine j_aload_n C 102 2 rfl dL_reads_102 ?_
    refine j_aload_n C 103 3 rfl dL_reads_103 ?_
    refine j_iload C 104 7 rfl dL_reads_104 ?_
    refine j_bind (fun x106 h106 => ?_)
    refine j_callS_i (As := [.ref (G.2.2 (114 + (1 + k))), .ref (G.2.2 (114 + (2 + k))), .ref (G.2.2 (114 + (3 + k))), .int s7]) (st := [.int 8]) C k_L_readAt 106 (c_L_readAt C.2.2.2.2.2.2.1 (c := c) (w := (sRw w k v)) _ _ (114 + (1 + k)) (by have := hk; omega) (a_Rw1 c w k v) _ _ (114 + (2 + k)) (by have := hk; omega) (a_Rw2 c w k v) _ _ (114 + (3 + k)) (by have := hk; omega) (a_Rw3 c w k v) _ h106) rfl ml_L_74 st_L_readAt dL_reads_106 (by decide) rfl (Nat.le_of_ble_eq_true rfl) ?_ rfl
    refine j_bipush (v := 12) C 109 dL_reads_109 rfl ?_
    refine j_idiv C 111 dL_reads_111 (by decide) ?_
    refine j_imul C 112 dL_reads_112 ?_
    refine j_istore (L1 := [(8, .int (8 * (x106 / 12))), (0, .ref (G.2.2 (114 + k))), (1, .ref (G.2.2 (114 + (1 + k)))), (2, .ref (G.2.2 (114 + (2 + k)))), (3, .ref (G.2.2 (114 + (3 + k)))), (4, .int s4), (5, .int s5), (6, .int s6), (7, .int s7)]) C 113 dL_reads_113 (by decide) rfl ?_
    refine j_aload_n C 115 2 rfl dL_reads_115 ?_
    refine j_aload_n C 116 2 rfl dL_reads_116 ?_
    refine j_aload_n C 117 2 rfl dL_reads_117 ?_
    refine j_aload_n C 118 3 rfl dL_reads_118 ?_
    refine j_aload_n C 119 4 rfl dL_reads_119 ?_
    refine j_iload C 120 8 rfl dL_reads_120 ?_
    refine j_bind (fun x122 h122 => ?_)
    refine j_callS_i (As := [.ref (G.2.2 (114 + (1 + k))), .ref (G.2.2 (114 + (2 + k))), .ref (G.2.2 (114 + (3 + k))), .int s7]) (st := [.ref (G.2.2 (114 + (1 + k))), .ref (G.2.2 (114 + (1 + k)))]) C k_L_readAt 122 (c_L_readAt C.2.2.2.2.2.2.1 (c := c) (w := (sRw w k v)) _ _ (114 + (1 + k)) (by have := hk; omega) (a_Rw1 c w k v) _ _ (114 + (2 + k)) (by have := hk; omega) (a_Rw2 c w k v) _ _ (114 + (3 + k)) (by have := hk; omega) (a_Rw3 c w k v) _ h122) rfl ml_L_74 st_L_readAt dL_reads_122 (by decide) rfl (Nat.le_of_ble_eq_true rfl) ?_ rfl
    refine j_bind (fun x125 h125 => ?_)
    refine j_callS_i (As := [.ref (G.2.2 (114 + (1 + k))), .int x122]) (st := [.ref (G.2.2 (114 + (1 + k)))]) C k_L_rank 125 (c_L_rank C.2.2.2.2.2.2.1 (c := c) (w := (sRw w k v)) _ _ (114 + (1 + k)) (by have := hk; omega) (a_Rw1 c w k v) _ h125) rfl ml_L_78 st_L_rank dL_reads_125 (by decide) rfl (Nat.le_of_ble_eq_true rfl) ?_ rfl
    refine j_iload C 128 7 rfl dL_reads_128 ?_
    refine j_aload_n C 130 2 rfl dL_reads_130 ?_
    refine j_iload C 131 0 rfl dL_reads_131 ?_
    refine j_iconst (v := 2) C 133 dL_reads_133 rfl ?_
    refine j_iadd C 134 dL_reads_134 ?_
    refine j_bind (fun x135 h135 => ?_)
    refine l_Rw1 C (k := k) hk w v 135 h135 dL_reads_135 ?_
    refine j_iadd C 136 dL_reads_136 ?_
    refine j_bind (fun x137 h137 => ?_)
    refine t_Rw1 C (k := k) hk w v 137 h137 dL_reads_137 ?_
    refine j_V (V' := (c, sRw w k (v.1, x137, v.2.2))) rfl ?_
    refine j_aload_n C 138 2 rfl dL_reads_138 ?_
    refine j_iload C 139 0 rfl dL_reads_139 ?_
    refine j_bipush (v := 7) C 141 dL_reads_141 rfl ?_
    refine j_iadd C 143 dL_reads_143 ?_
    refine j_dup2 C 144 dL_reads_144 rfl rfl ?_
    refine j_bind (fun x145 h145 => ?_)
    refine l_Rw1 C (k := k) hk w (v.1, x137, v.2.2) 145 h145 dL_reads_145 ?_
    refine j_iconst (v := 1) C 146 dL_reads_146 rfl ?_
    refine j_iadd C 147 dL_reads_147 ?_
    refine j_bind (fun x148 h148 => ?_)
    refine t_Rw1 C (k := k) hk w (v.1, x137, v.2.2) 148 h148 dL_reads_148 ?_
    refine j_V (V' := (c, sRw w k (v.1, x148, v.2.2))) rfl ?_
    refine j_aload_n C 149 1 rfl dL_reads_149 ?_
    refine j_iconst (v := 3) C 150 dL_reads_150 rfl ?_
    refine j_dup2 C 151 dL_reads_151 rfl rfl ?_
    refine j_bind (fun x152 h152 => ?_)
    refine l_Rw0 C (k := k) hk w (v.1, x148, v.2.2) 152 h152 dL_reads_152 ?_
    refine j_iconst (v := 1) C 153 dL_reads_153 rfl ?_
    refine j_iadd C 154 dL_reads_154 ?_
    refine j_bind (fun x155 h155 => ?_)
    refine t_Rw0 C (k := k) hk w (v.1, x148, v.2.2) 155 h155 dL_reads_155 ?_
    refine j_V (V' := (c, sRw w k (x155, x148, v.2.2))) rfl ?_
    refine j_iinc (v := (s7 + 1)) (L1 := [(7, .int (s7 + 1)), (8, .int (8 * (x106 / 12))), (0, .ref (G.2.2 (114 + k))), (1, .ref (G.2.2 (114 + (1 + k)))), (2, .ref (G.2.2 (114 + (2 + k)))), (3, .ref (G.2.2 (114 + (3 + k)))), (4, .int s4), (5, .int s5), (6, .int s6)]) C 156 8 rfl dL_reads_156 rfl (by decide) rfl ?_
    refine j_goto C 159 81 dL_reads_159 (by decide) ?_
    refine j_L (L' := [(0, .ref (G.2.2 (114 + k))), (1, .ref (G.2.2 (114 + (1 + k)))), (2, .ref (G.2.2 (114 + (2 + k)))), (3, .ref (G.2.2 (114 + (3 + k)))), (4, .int s4), (5, .int s5), (6, .int s6), (7, .int (s7 + 1))]) [2, 3, 4, 5, 6, 7, 8, 0] rfl ?_
    exact hK81 (x155, x148, v.2.2) s4 s5 s6 (s7 + 1)
  · refine j_aload_n C 162 0 rfl dL_reads_162 ?_
    refine j_iconst (v := 4) C 163 dL_reads_163 rfl ?_
    refine j_dup2 C 164 dL_reads_164 rfl rfl ?_
    refine j_bind (fun x165 h165 => ?_)
    refine l_Rw0 C (k := k) hk w v 165 h165 dL_reads_165 ?_
    refine j_iload C 166 5 rfl dL_reads_166 ?_
    refine j_if_eq C 168 175 dL_reads_168 (by decide) (fun c168 => ?_) (fun c168 => ?_)
    · refine j_iconst (v := 0) C 175 dL_reads_175 rfl ?_
      refine j_iadd C 176 dL_reads_176 ?_
      refine j_bind (fun x177 h177 => ?_)
      refine t_Rw0 C (k := k) hk w v 177 h177 dL_reads_177 ?_
      refine j_V (V' := (c, sRw w k (x177, v.2))) rfl ?_
      refine j_aload_n C 178 0 rfl dL_reads_178 ?_
      refine j_iconst (v := 2) C 179 dL_reads_179 rfl ?_
      refine j_iload C 180 6 rfl dL_reads_180 ?_
      refine j_iconst (v := 1) C 182 dL_reads_182 rfl ?_
      refine j_iadd C 183 dL_reads_183 ?_
      refine j_bind (fun x184 h184 => ?_)
      refine t_Rw0 C (k := k) hk w (x177, v.2) 184 h184 dL_reads_184 ?_
      refine j_V (V' := (c, sRw w k (x184, v.2))) rfl ?_
      exact j_vret C 185 hr rfl rfl dL_reads_185
    · refine j_iconst (v := 1) C 171 dL_reads_171 rfl ?_
      refine j_goto C 172 176 dL_reads_172 (by decide) ?_
      refine j_iadd C 176 dL_reads_176 ?_
      refine j_bind (fun x177 h177 => ?_)
      refine t_Rw0 C (k := k) hk w v 177 h177 dL_reads_177 ?_
      refine j_V (V' := (c, sRw w k (x177, v.2))) rfl ?_
      refine j_aload_n C 178 0 rfl dL_reads_178 ?_
      refine j_iconst (v := 2) C 179 dL_reads_179 rfl ?_
      refine j_iload C 180 6 rfl dL_reads_180 ?_
      refine j_iconst (v := 1) C 182 dL_reads_182 rfl ?_
      refine j_iadd C 183 dL_reads_183 ?_
      refine j_bind (fun x184 h184 => ?_)
      refine t_Rw0 C (k := k) hk w (x177, v.2) 184 h184 dL_reads_184 ?_
      refine j_V (V' := (c, sRw w k (x184, v.2))) rfl ?_
      exact j_vret C 185 hr rfl rfl dL_reads_185
set_option maxRecDepth 100000 in
set_option maxHeartbeats 4000000 in
theorem wl_L_reads_81 {G : GG} {X : WX} {c : VC} {w : VW} {k : Nat} (hk : 119 + k ≤ nG G) (C : Cx G 9 X RL cL_reads 2) (hr : (xM X).sig.returnType = none) : ∀ (n : Nat) (v : VRw) (s4 : Int32) (s5 : Int32) (s6 : Int32) (s7 : Int32), JS G 9 X (QM G X (fun x : VRw => none) (fun x : VRw => ((c, sRw w k x) : VA))) (l_L_reads_81 n v s4 s5 s6 s7) (c, sRw w k v) 81 [(0, .ref (G.2.2 (114 + k))), (1, .ref (G.2.2 (114 + (1 + k)))), (2, .ref (G.2.2 (114 + (2 + k)))), (3, .ref (G.2.2 (114 + (3 + k)))), (4, .int s4), (5, .int s5), (6, .int s6), (7, .int s7)] [] := by
  intro n
  induction n with
  | zero => intro _ _ _ _ _; exact j_none
  | succ n ih =>
    intro v s4 s5 s6 s7
    unfold l_L_reads_81
    refine j_iload C 81 7 rfl dL_reads_81 ?_
    refine j_iload C 83 4 rfl dL_reads_83 ?_
    refine j_iload C 85 5 rfl dL_reads_85 ?_
    refine j_if_eq C 87 94 dL_reads_87 (by decide) (fun c87 => ?_) (fun c87 => ?_)
    · refine j_iconst (v := 1) C 94 dL_reads_94 rfl ?_
      exact wb_L_reads_95 hk C hr _ ih v s4 s5 s6 s7 1 s4 s7
    · refine j_iconst (v := 2) C 90 dL_reads_90 rfl ?_
      refine j_goto C 91 95 dL_reads_91 (by decide) ?_
      exact wb_L_reads_95 hk C hr _ ih v s4 s5 s6 s7 2 s4 s7
set_option maxRecDepth 100000 in
set_option maxHeartbeats 4000000 in
theorem wb_L_reads_23 {G : GG} {X : WX} {c : VC} {w : VW} {k : Nat} (hk : 119 + k ≤ nG G) (C : Cx G 9 X RL cL_reads 2) (hr : (xM X).sig.returnType = none) (K9 : VRw → Int32 → Int32 → Int32 → Int32 → Option VRw) (hK9 : ∀ (v : VRw) (s4 : Int32) (s5 : Int32) (s6 : Int32) (s7 : Int32), JS G 9 X (QM G X (fun x : VRw => none) (fun x : VRw => ((c, sRw w k x) : VA))) (K9 v s4 s5 s6 s7) (c, sRw w k v) 9 [(0, .ref (G.2.2 (114 + k))), (1, .ref (G.2.2 (114 + (1 + k)))), (2, .ref (G.2.2 (114 + (2 + k)))), (3, .ref (G.2.2 (114 + (3 + k)))), (4, .int s4), (5, .int s5), (6, .int s6), (7, .int s7)] []) (v : VRw) (s4 : Int32) (s5 : Int32) (s6 : Int32) (s7 : Int32) (t0 : Int32) (t1 : Int32) (t2 : Int32) : JS G 9 X (QM G X (fun x : VRw => none) (fun x : VRw => ((c, sRw w k x) : VA))) (b_L_reads_23 K9 v s4 s5 s6 s7 t0 t1 t2) (c, sRw w k v) 23 [(0, .ref (G.2.2 (114 + k))), (1, .ref (G.2.2 (114 + (1 + k)))), (2, .ref (G.2.2 (114 + (2 + k)))), (3, .ref (G.2.2 (114 + (3 + k)))), (4, .int s4), (5, .int s5), (6, .int s6), (7, .int s7)] [.int t0, .int t1, .int t2] := by
  unfold b_L_reads_23
  refine j_iadd C 23 dL_reads_23 ?_
  refine j_icmp_ge C 24 65 dL_reads_24 (by decide) (fun c24 => ?_) (fun c24 => ?_)
  · refine j_aload_n C 27 1 rfl dL_reads_27 ?_
    refine j_aload_n C 28 1 rfl dL_reads_28 ?_
    refine j_aload_n C 29 1 rfl dL_reads_29 ?_
    refine j_aload_n C 30 2 rfl dL_reads_30 ?_
    refine j_aload_n C 31 3 rfl dL_reads_31 ?_
    refine j_iload C 32 7 rfl dL_reads_32 ?_
    refine j_bind (fun x34 h34 => ?_)
    refine j_callS_i (As := [.ref (G.2.2 (114 + (1 + k))), .ref (G.2.2 (114 + (2 + k))), .ref (G.2.2 (114 + (3 + k))), .int s7]) (st := [.ref (G.2.2 (114 + (1 + k))), .ref (G.2.2 (114 + (1 + k)))]) C k_L_readAt 34 (c_L_readAt C.2.2.2.2.2.2.1 (c := c) (w := (sRw w k v)) _ _ (114 + (1 + k)) (by have := hk; omega) (a_Rw1 c w k v) _ _ (114 + (2 + k)) (by have := hk; omega) (a_Rw2 c w k v) _ _ (114 + (3 + k)) (by have := hk; omega) (a_Rw3 c w k v) _ h34) rfl ml_L_74 st_L_readAt dL_reads_34 (by decide) rfl (Nat.le_of_ble_eq_true rfl) ?_ rfl
    refine j_bind (fun x37 h37 => ?_)
    refine j_callS_i (As := [.ref (G.2.2 (114 + (1 + k))), .int x34]) (st := [.ref (G.2.2 (114 + (1 + k)))]) C k_L_rank 37 (c_L_rank C.2.2.2.2.2.2.1 (c := c) (w := (sRw w k v)) _ _ (114 + (1 + k)) (by have := hk; omega) (a_Rw1 c w k v) _ h37) rfl ml_L_78 st_L_rank dL_reads_37 (by decide) rfl (Nat.le_of_ble_eq_true rfl) ?_ rfl
    refine j_bind (fun x40 h40 => ?_)
    refine l_Rw1 C (k := k) hk w v 40 h40 dL_reads_40 ?_
    refine j_istore (L1 := [(8, .int x40), (0, .ref (G.2.2 (114 + k))), (1, .ref (G.2.2 (114 + (1 + k)))), (2, .ref (G.2.2 (114 + (2 + k)))), (3, .ref (G.2.2 (114 + (3 + k)))), (4, .int s4), (5, .int s5), (6, .int s6), (7, .int s7)]) C 41 dL_reads_41 (by decide) rfl ?_
    refine j_iload C 43 0 rfl dL_reads_43 ?_
    refine j_iload C 45 7 rfl dL_reads_45 ?_
    refine j_icmp_le C 47 55 dL_reads_47 (by decide) (fun c47 => ?_) (fun c47 => ?_)
    · refine j_iload C 50 0 rfl dL_reads_50 ?_
      refine j_goto C 52 57 dL_reads_52 (by decide) ?_
      refine j_istore (L1 := [(6, .int x40), (8, .int x40), (0, .ref (G.2.2 (114 + k))), (1, .ref (G.2.2 (114 + (1 + k)))), (2, .ref (G.2.2 (114 + (2 + k)))), (3, .ref (G.2.2 (114 + (3 + k)))), (4, .int s4), (5, .int s5), (7, .int s7)]) C 57 dL_reads_57 (by decide) rfl ?_
      refine j_iinc (v := (s7 + 1)) (L1 := [(7, .int (s7 + 1)), (6, .int x40), (8, .int x40), (0, .ref (G.2.2 (114 + k))), (1, .ref (G.2.2 (114 + (1 + k)))), (2, .ref (G.2.2 (114 + (2 + k)))), (3, .ref (G.2.2 (114 + (3 + k)))), (4, .int s4), (5, .int s5)]) C 59 8 rfl dL_reads_59 rfl (by decide) rfl ?_
      refine j_goto C 62 9 dL_reads_62 (by decide) ?_
      refine j_L (L' := [(0, .ref (G.2.2 (114 + k))), (1, .ref (G.2.2 (114 + (1 + k)))), (2, .ref (G.2.2 (114 + (2 + k)))), (3, .ref (G.2.2 (114 + (3 + k)))), (4, .int s4), (5, .int s5), (6, .int x40), (7, .int (s7 + 1))]) [3, 4, 5, 6, 7, 8, 1, 0] rfl ?_
      exact hK9 v s4 s5 x40 (s7 + 1)
    · refine j_iload C 55 7 rfl dL_reads_55 ?_
      refine j_istore (L1 := [(6, .int s6), (8, .int x40), (0, .ref (G.2.2 (114 + k))), (1, .ref (G.2.2 (114 + (1 + k)))), (2, .ref (G.2.2 (114 + (2 + k)))), (3, .ref (G.2.2 (114 + (3 + k)))), (4, .int s4), (5, .int s5), (7, .int s7)]) C 57 dL_reads_57 (by decide) rfl ?_
      refine j_iinc (v := (s7 + 1)) (L1 := [(7, .int (s7 + 1)), (6, .int s6), (8, .int x40), (0, .ref (G.2.2 (114 + k))), (1, .ref (G.2.2 (114 + (1 + k)))), (2, .ref (G.2.2 (114 + (2 + k)))), (3, .ref (G.2.2 (114 + (3 + k)))), (4, .int s4), (5, .int s5)]) C 59 8 rfl dL_reads_59 rfl (by decide) rfl ?_
      refine j_goto C 62 9 dL_reads_62 (by decide) ?_
      refine j_L (L' := [(0, .ref (G.2.2 (114 + k))), (1, .ref (G.2.2 (114 + (1 + k)))), (2, .ref (G.2.2 (114 + (2 + k)))), (3, .ref (G.2.2 (114 + (3 + k)))), (4, .int s4), (5, .int s5), (6, .int s6), (7, .int (s7 + 1))]) [3, 4, 5, 6, 7, 8, 1, 0] rfl ?_
      exact hK9 v s4 s5 s6 (s7 + 1)
  · refine j_aload_n C 65 0 rfl dL_reads_65 ?_
    refine j_iconst (v := 5) C 66 dL_reads_66 rfl ?_
    refine j_dup2 C 67 dL_reads_67 rfl rfl ?_
    refine j_bind (fun x68 h68 => ?_)
    refine l_Rw0 C (k := k) hk w v 68 h68 dL_reads_68 ?_
    refine j_iload C 69 6 rfl dL_reads_69 ?_
    refine j_aload_n C 71 0 rfl dL_reads_71 ?_
    refine j_iconst (v := 2) C 72 dL_reads_72 rfl ?_
    refine j_bind (fun x73 h73 => ?_)
    refine l_Rw0 C (k := k) hk w v 73 h73 dL_reads_73 ?_
    refine j_isub C 74 dL_reads_74 ?_
    refine j_iadd C 75 dL_reads_75 ?_
    refine j_bind (fun x76 h76 => ?_)
    refine t_Rw0 C (k := k) hk w v 76 h76 dL_reads_76 ?_
    refine j_V (V' := (c, sRw w k (x76, v.2))) rfl ?_
    refine j_iload C 77 4 rfl dL_reads_77 ?_
    refine j_istore (L1 := [(7, .int s4), (0, .ref (G.2.2 (114 + k))), (1, .ref (G.2.2 (114 + (1 + k)))), (2, .ref (G.2.2 (114 + (2 + k)))), (3, .ref (G.2.2 (114 + (3 + k)))), (4, .int s4), (5, .int s5), (6, .int s6)]) C 79 dL_reads_79 (by decide) rfl ?_
    refine j_L (L' := [(0, .ref (G.2.2 (114 + k))), (1, .ref (G.2.2 (114 + (1 + k)))), (2, .ref (G.2.2 (114 + (2 + k)))), (3, .ref (G.2.2 (114 + (3 + k)))), (4, .int s4), (5, .int s5), (6, .int s6), (7, .int s4)]) [1, 2, 3, 4, 5, 6, 7, 0] rfl ?_
    exact wl_L_reads_81 hk C hr FU (x76, v.2) s4 s5 s6 s4
set_option maxRecDepth 100000 in
set_option maxHeartbeats 4000000 in
theorem wl_L_reads_9 {G : GG} {X : WX} {c : VC} {w : VW} {k : Nat} (hk : 119 + k ≤ nG G) (C : Cx G 9 X RL cL_reads 2) (hr : (xM X).sig.returnType = none) : ∀ (n : Nat) (v : VRw) (s4 : Int32) (s5 : Int32) (s6 : Int32) (s7 : Int32), JS G 9 X (QM G X (fun x : VRw => none) (fun x : VRw => ((c, sRw w k x) : VA))) (l_L_reads_9 n v s4 s5 s6 s7) (c, sRw w k v) 9 [(0, .ref (G.2.2 (114 + k))), (1, .ref (G.2.2 (114 + (1 + k)))), (2, .ref (G.2.2 (114 + (2 + k)))), (3, .ref (G.2.2 (114 + (3 + k)))), (4, .int s4), (5, .int s5), (6, .int s6), (7, .int s7)] [] := by
  intro n
  induction n with
  | zero => intro _ _ _ _ _; exact j_none
  | succ n ih =>
    intro v s4 s5 s6 s7
    unfold l_L_reads_9
    refine j_iload C 9 7 rfl dL_reads_9 ?_
    refine j_iload C 11 4 rfl dL_reads_11 ?_
    refine j_iload C 13 5 rfl dL_reads_13 ?_
    refine j_if_eq C 15 22 dL_reads_15 (by decide) (fun c15 => ?_) (fun c15 => ?_)
    · refine j_iconst (v := 1) C 22 dL_reads_22 rfl ?_
      exact wb_L_reads_23 hk C hr _ ih v s4 s5 s6 s7 1 s4 s7
    · refine j_iconst (v := 2) C 18 dL_reads_18 rfl ?_
      refine j_goto C 19 23 dL_reads_19 (by decide) ?_
      exact wb_L_reads_23 hk C hr _ ih v s4 s5 s6 s7 2 s4 s7
set_option maxRecDepth 100000 in
set_option maxHeartbeats 4000000 in
theorem w_L_reads {G : GG} {X : WX} {c : VC} {w : VW} {k : Nat} (hk : 119 + k ≤ nG G) (C : Cx G 9 X RL cL_reads 2) (hr : (xM X).sig.returnType = none) (v : VRw) (a4 : Int32) (a5 : Int32) : JS G 9 X (QM G X (fun x : VRw => none) (fun x : VRw => ((c, sRw w k x) : VA))) (f_L_reads v a4 a5) (c, sRw w k v) 0 [(0, .ref (G.2.2 (114 + k))), (1, .ref (G.2.2 (114 + (1 + k)))), (2, .ref (G.2.2 (114 + (2 + k)))), (3, .ref (G.2.2 (114 + (3 + k)))), (4, .int a4), (5, .int a5)] [] := by
  unfold f_L_reads
  refine j_aload_n C 0 0 rfl dL_reads_0 ?_
  refine j_iconst (v := 2) C 1 dL_reads_1 rfl ?_
  refine j_bind (fun x2 h2 => ?_)
  refine l_Rw0 C (k := k) hk w v 2 h2 dL_reads_2 ?_
  refine j_istore (L1 := [(6, .int x2), (0, .ref (G.2.2 (114 + k))), (1, .ref (G.2.2 (114 + (1 + k)))), (2, .ref (G.2.2 (114 + (2 + k)))), (3, .ref (G.2.2 (114 + (3 + k)))), (4, .int a4), (5, .int a5)]) C 3 dL_reads_3 (by decide) rfl ?_
  refine j_iload C 5 5 rfl dL_reads_5 ?_
  refine j_istore (L1 := [(7, .int a4), (6, .int x2), (0, .ref (G.2.2 (114 + k))), (1, .ref (G.2.2 (114 + (1 + k)))), (2, .ref (G.2.2 (114 + (2 + k)))), (3, .ref (G.2.2 (114 + (3 + k)))), (4, .int a4), (5, .int a5)]) C 7 dL_reads_7 (by decide) rfl ?_
  refine j_L (L' := [(0, .ref (G.2.2 (114 + k))), (1, .ref (G.2.2 (114 + (1 + k)))), (2, .ref (G.2.2 (114 + (2 + k)))), (3, .ref (G.2.2 (114 + (3 + k)))), (4, .int a4), (5, .int a5), (6, .int x2), (7, .int a4)]) [2, 3, 4, 5, 6, 7, 1, 0] rfl ?_
  exact wl_L_reads_9 hk C hr FU v a4 a5 x2 a4
theorem c_L_reads {G : GG} {l : Launch} (hG : Gok G) {c : VC} {w : VW} {k : Nat} (hk : 119 + k ≤ nG G) (v : VRw) (a4 : Int32) (a5 : Int32) {x : VRw} (hf : f_L_reads v a4 a5 = some x) : Ct l yL_reads cL_reads 9 none 2 [.ref (G.2.2 (114 + k)), .ref (G.2.2 (114 + (1 + k))), .ref (G.2.2 (114 + (2 + k))), .ref (G.2.2 (114 + (3 + k))), .int a4, .int a5] G (c, sRw w k v) none (c, sRw w k x) := by
  refine ct_of (rv := fun _ : VRw => none) (fin := fun x : VRw => ((c, sRw w k x) : VA)) (own := RL) hG (plainFor_of_name (by decide)) rfl (Nat.le_of_ble_eq_true rfl) (fun X C hr _ => ?_) hf
  exact w_L_reads hk C hr v a4 a5
set_option maxRecDepth 100000 in
set_option maxHeartbeats 4000000 in
theorem wl_L_used_6 {G : GG} {X : WX} {c : VC} {w : VW} (C : Cx G 6 X RL cL_used 0) (hr : (xM X).sig.returnType = (some .int)) (n0 : Nat) (f0 : Nat → Int32) (q0 : Nat) (hq0 : q0 < nG G) (hc0 : cellA G.2.1 G.2.2 (c, w) q0 = cI (G.2.1 0) n0 f0) (n1 : Nat) (f1 : Nat → Int32) (q1 : Nat) (hq1 : q1 < nG G) (hc1 : cellA G.2.1 G.2.2 (c, w) q1 = cI (G.2.1 0) n1 f1) (n2 : Nat) (f2 : Nat → Int32) (q2 : Nat) (hq2 : q2 < nG G) (hc2 : cellA G.2.1 G.2.2 (c, w) q2 = cI (G.2.1 0) n2 f2) : ∀ (n : Nat) (s3 : Int32) (s4 : Int32) (s5 : Int32), JS G 6 X (QM G X (fun x : Int32 => some (.int x)) (fun x : Int32 => ((c, w) : VA))) (l_L_used_6 n0 f0 n1 f1 n2 f2 n s3 s4 s5) (c, w) 6 [(0, .ref (G.2.2 q0)), (1, .ref (G.2.2 q1)), (2, .ref (G.2.2 q2)), (3, .int s3), (4, .int s4), (5, .int s5)] [] := by
  intro n
  induction n with
  | zero => intro _ _ _; exact j_none
  | succ n ih =>
    intro s3 s4 s5
    unfold l_L_used_6
    refine j_iload C 6 5 rfl dL_used_6 ?_
    refine j_aload_n C 8 0 rfl dL_used_8 ?_
    refine j_iconst (v := 0) C 9 dL_used_9 rfl ?_
    refine j_bind (fun x10 h10 => ?_)
    refine j_iald C 10 q0 hq0 rfl hc0 h10 dL_used_10 ?_
    refine j_icmp_ge C 11 59 dL_used_11 (by decide) (fun c11 => ?_) (fun c11 => ?_)
    · refine j_iload C 14 4 rfl dL_used_14 ?_
      refine j_aload_n C 16 1 rfl dL_used_16 ?_
      refine j_iload C 17 5 rfl dL_used_17 ?_
      refine j_bind (fun x19 h19 => ?_)
      refine j_iald C 19 q1 hq1 rfl hc1 h19 dL_used_19 ?_
      refine j_bipush (v := 12) C 20 dL_used_20 rfl ?_
      refine j_idiv C 22 dL_used_22 (by decide) ?_
      refine j_iload_n C 23 3 rfl dL_used_23 ?_
      refine j_icmp_eq C 24 45 dL_used_24 (by decide) (fun c24 => ?_) (fun c24 => ?_)
      · refine j_iconst (v := 1) C 45 dL_used_45 rfl ?_
        refine j_goto C 46 50 dL_used_46 (by decide) ?_
        refine j_iadd C 50 dL_used_50 ?_
        refine j_istore (L1 := [(4, .int (s4 + 1)), (0, .ref (G.2.2 q0)), (1, .ref (G.2.2 q1)), (2, .ref (G.2.2 q2)), (3, .int s3), (5, .int s5)]) C 51 dL_used_51 (by decide) rfl ?_
        refine j_iinc (v := (s5 + 1)) (L1 := [(5, .int (s5 + 1)), (4, .int (s4 + 1)), (0, .ref (G.2.2 q0)), (1, .ref (G.2.2 q1)), (2, .ref (G.2.2 q2)), (3, .int s3)]) C 53 5 rfl dL_used_53 rfl (by decide) rfl ?_
        refine j_goto C 56 6 dL_used_56 (by decide) ?_
        refine j_L (L' := [(0, .ref (G.2.2 q0)), (1, .ref (G.2.2 q1)), (2, .ref (G.2.2 q2)), (3, .int s3), (4, .int (s4 + 1)), (5, .int (s5 + 1))]) [2, 3, 4, 5, 1, 0] rfl ?_
        exact ih s3 (s4 + 1) (s5 + 1)
      · refine j_aload_n C 27 2 rfl dL_used_27 ?_
        refine j_iload C 28 5 rfl dL_used_28 ?_
        refine j_bind (fun x30 h30 => ?_)
        refine j_iald C 30 q2 hq2 rfl hc2 h30 dL_used_30 ?_
        refine j_if_lt C 31 49 dL_used_31 (by decide) (fun c31 => ?_) (fun c31 => ?_)
        · refine j_iconst (v := 0) C 49 dL_used_49 rfl ?_
          refine j_iadd C 50 dL_used_50 ?_
          refine j_istore (L1 := [(4, .int (s4 + 0)), (0, .ref (G.2.2 q0)), (1, .ref (G.2.2 q1)), (2, .ref (G.2.2 q2)), (3, .int s3), (5, .int s5)]) C 51 dL_used_51 (by decide) rfl ?_
          refine j_iinc (v := (s5 + 1)) (L1 := [(5, .int (s5 + 1)), (4, .int (s4 + 0)), (0, .ref (G.2.2 q0)), (1, .ref (G.2.2 q1)), (2, .ref (G.2.2 q2)), (3, .int s3)]) C 53 5 rfl dL_used_53 rfl (by decide) rfl ?_
          refine j_goto C 56 6 dL_used_56 (by decide) ?_
          refine j_L (L' := [(0, .ref (G.2.2 q0)), (1, .ref (G.2.2 q1)), (2, .ref (G.2.2 q2)), (3, .int s3), (4, .int (s4 + 0)), (5, .int (s5 + 1))]) [2, 3, 4, 5, 1, 0] rfl ?_
          exact ih s3 (s4 + 0) (s5 + 1)
        · refine j_aload_n C 34 2 rfl dL_used_34 ?_
          refine j_iload C 35 5 rfl dL_used_35 ?_
          refine j_bind (fun x37 h37 => ?_)
          refine j_iald C 37 q2 hq2 rfl hc2 h37 dL_used_37 ?_
          refine j_bipush (v := 12) C 38 dL_used_38 rfl ?_
          refine j_idiv C 40 dL_used_40 (by decide) ?_
          refine j_iload_n C 41 3 rfl dL_used_41 ?_
          refine j_icmp_ne C 42 49 dL_used_42 (by decide) (fun c42 => ?_) (fun c42 => ?_)
          · refine j_iconst (v := 1) C 45 dL_used_45 rfl ?_
            refine j_goto C 46 50 dL_used_46 (by decide) ?_
            refine j_iadd C 50 dL_used_50 ?_
            refine j_istore (L1 := [(4, .int (s4 + 1)), (0, .ref (G.2.2 q0)), (1, .ref (G.2.2 q1)), (2, .ref (G.2.2 q2)), (3, .int s3), (5, .int s5)]) C 51 dL_used_51 (by decide) rfl ?_
            refine j_iinc (v := (s5 + 1)) (L1 := [(5, .int (s5 + 1)), (4, .int (s4 + 1)), (0, .ref (G.2.2 q0)), (1, .ref (G.2.2 q1)), (2, .ref (G.2.2 q2)), (3, .int s3)]) C 53 5 rfl dL_used_53 rfl (by decide) rfl ?_
            refine j_goto C 56 6 dL_used_56 (by decide) ?_
            refine j_L (L' := [(0, .ref (G.2.2 q0)), (1, .ref (G.2.2 q1)), (2, .ref (G.2.2 q2)), (3, .int s3), (4, .int (s4 + 1)), (5, .int (s5 + 1))]) [2, 3, 4, 5, 1, 0] rfl ?_
            exact ih s3 (s4 + 1) (s5 + 1)
          · refine j_iconst (v := 0) C 49 dL_used_49 rfl ?_
            refine j_iadd C 50 dL_used_50 ?_
            refine j_istore (L1 := [(4, .int (s4 + 0)), (0, .ref (G.2.2 q0)), (1, .ref (G.2.2 q1)), (2, .ref (G.2.2 q2)), (3, .int s3), (5, .int s5)]) C 51 dL_used_51 (by decide) rfl ?_
            refine j_iinc (v := (s5 + 1)) (L1 := [(5, .int (s5 + 1)), (4, .int (s4 + 0)), (0, .ref (G.2.2 q0)), (1, .ref (G.2.2 q1)), (2, .ref (G.2.2 q2)), (3, .int s3)]) C 53 5 rfl dL_used_53 rfl (by decide) rfl ?_
            refine j_goto C 56 6 dL_used_56 (by decide) ?_
            refine j_L (L' := [(0, .ref (G.2.2 q0)), (1, .ref (G.2.2 q1)), (2, .ref (G.2.2 q2)), (3, .int s3), (4, .int (s4 + 0)), (5, .int (s5 + 1))]) [2, 3, 4, 5, 1, 0] rfl ?_
            exact ih s3 (s4 + 0) (s5 + 1)
    · refine j_iload C 59 4 rfl dL_used_59 ?_
      exact j_iret C 61 hr rfl rfl dL_used_61
set_option maxRecDepth 100000 in
set_option maxHeartbeats 4000000 in
theorem w_L_used {G : GG} {X : WX} {c : VC} {w : VW} (C : Cx G 6 X RL cL_used 0) (hr : (xM X).sig.returnType = (some .int)) (n0 : Nat) (f0 : Nat → Int32) (q0 : Nat) (hq0 : q0 < nG G) (hc0 : cellA G.2.1 G.2.2 (c, w) q0 = cI (G.2.1 0) n0 f0) (n1 : Nat) (f1 : Nat → Int32) (q1 : Nat) (hq1 : q1 < nG G) (hc1 : cellA G.2.1 G.2.2 (c, w) q1 = cI (G.2.1 0) n1 f1) (n2 : Nat) (f2 : Nat → Int32) (q2 : Nat) (hq2 : q2 < nG G) (hc2 : cellA G.2.1 G.2.2 (c, w) q2 = cI (G.2.1 0) n2 f2) (a3 : Int32) : JS G 6 X (QM G X (fun x : Int32 => some (.int x)) (fun x : Int32 => ((c, w) : VA))) (f_L_used n0 f0 n1 f1 n2 f2 a3) (c, w) 0 [(0, .ref (G.2.2 q0)), (1, .ref (G.2.2 q1)), (2, .ref (G.2.2 q2)), (3, .int a3)] [] := by
  unfold f_L_used
  refine j_iconst (v := 0) C 0 dL_used_0 rfl ?_
  refine j_istore (L1 := [(4, .int 0), (0, .ref (G.2.2 q0)), (1, .ref (G.2.2 q1)), (2, .ref (G.2.2 q2)), (3, .int a3)]) C 1 dL_used_1 (by decide) rfl ?_
  refine j_iconst (v := 0) C 3 dL_used_3 rfl ?_
  refine j_istore (L1 := [(5, .int 0), (4, .int 0), (0, .ref (G.2.2 q0)), (1, .ref (G.2.2 q1)), (2, .ref (G.2.2 q2)), (3, .int a3)]) C 4 dL_used_4 (by decide) rfl ?_
  refine j_L (L' := [(0, .ref (G.2.2 q0)), (1, .ref (G.2.2 q1)), (2, .ref (G.2.2 q2)), (3, .int a3), (4, .int 0), (5, .int 0)]) [2, 3, 4, 5, 1, 0] rfl ?_
  exact wl_L_used_6 C hr n0 f0 q0 hq0 hc0 n1 f1 q1 hq1 hc1 n2 f2 q2 hq2 hc2 FU a3 0 0
theorem c_L_used {G : GG} {l : Launch} (hG : Gok G) {c : VC} {w : VW} (n0 : Nat) (f0 : Nat → Int32) (q0 : Nat) (hq0 : q0 < nG G) (hc0 : cellA G.2.1 G.2.2 (c, w) q0 = cI (G.2.1 0) n0 f0) (n1 : Nat) (f1 : Nat → Int32) (q1 : Nat) (hq1 : q1 < nG G) (hc1 : cellA G.2.1 G.2.2 (c, w) q1 = cI (G.2.1 0) n1 f1) (n2 : Nat) (f2 : Nat → Int32) (q2 : Nat) (hq2 : q2 < nG G) (hc2 : cellA G.2.1 G.2.2 (c, w) q2 = cI (G.2.1 0) n2 f2) (a3 : Int32) {x : Int32} (hf : f_L_used n0 f0 n1 f1 n2 f2 a3 = some x) : Ct l yL_used cL_used 6 (some .int) 0 [.ref (G.2.2 q0), .ref (G.2.2 q1), .ref (G.2.2 q2), .int a3] G (c, w) (some (.int x)) (c, w) := by
  refine ct_of (rv := fun x : Int32 => (some (.int x))) (fin := fun x : Int32 => ((c, w) : VA)) (own := RL) hG (plainFor_of_name (by decide)) rfl (Nat.le_of_ble_eq_true rfl) (fun X C hr _ => ?_) hf
  exact w_L_used C hr n0 f0 q0 hq0 hc0 n1 f1 q1 hq1 hc1 n2 f2 q2 hq2 hc2 a3
