def l_L_law_49 (Ln : Nat) (sc : Nat → Int32) (K145 : (VC × VRw) → Int32 → Option Unit) : Nat → (VC × VRw) → Int32 → Option Unit
  | 0, _, _ => none
  | n + 1, v, s7 =>
    if s7 < 48 then (
      (aup 48 v.2.2.2.1 s7 (-1)).bind fun x61 =>
      (aup 48 v.2.2.2.2.1 s7 (-1)).bind fun x67 =>
      l_L_law_49 Ln sc K145 n (v.1, (v.2.1, v.2.2.1, x61, x67, v.2.2.2.2.2)) (s7 + 1)
    ) else (
      (f_L_isSo v.1 v.2).bind fun x83 =>
      if x83 = 0 then (
        none
      ) else (
        (f_L_isSwept v.1 v.2 0).bind fun x93 =>
        if x93.1 = 0 then (
          none
        ) else (
          (f_L_isChange x93.2 v.2).bind fun x101 =>
          if x101 = 0 then (
            none
          ) else (
            (f_L_undo x93.2).bind fun x108 =>
            if x108.1 = (-33) then (
              (f_L_slot x108.2 4 8).bind fun x120 =>
              if x120 = (-31) then (
                (f_L_slot x108.2 0 8).bind fun x132 =>
                if x132 = (-32) then (
                  K145 (x108.2, v.2) 0
                ) else (
                  none
                )
              ) else (
                none
              )
            ) else (
              none
            )
          )
        )
      )
    )
def f_L_law_a (Ln : Nat) (sc : Nat → Int32) (K145 : (VC × VRw) → Int32 → Option Unit) (v : (VC × VRw)) : Option Unit :=
  (aup 10 v.2.1 8 1).bind fun x40 =>
  (aup 10 x40 9 (-1)).bind fun x45 =>
  l_L_law_49 Ln sc K145 FU (v.1, (x45, v.2.2)) 0
def b_L_law_246 (Ln : Nat) (sc : Nat → Int32) (K145 : (VC × VRw) → Int32 → Option Unit) (v : (VC × VRw)) (s7 : Int32) (s8 : Int32) (t0 : Int32) : Option Unit :=
  if t0 = 0 then (
    none
  ) else (
    (f_L_isSo v.1 v.2).bind fun x262 =>
    if x262 = 0 then (
      none
    ) else (
      if (s7 - s7 / 4 * 4) = 3 then (
        (f_L_low ((s8 >>> ((4 : Int32) &&& 31)) : Int32) 3).bind fun x282 =>
        (f_L_isSwept v.1 v.2 x282).bind fun x287 =>
        if x287.1 = 0 then (
          none
        ) else (
          (f_L_isChange x287.2 v.2).bind fun x295 =>
          if x295 = 0 then (
            none
          ) else (
            K145 (x287.2, v.2) (s7 + 1)
          )
        )
      ) else (
        K145 v (s7 + 1)
      )
    )
  )
def b_L_law_206 (Ln : Nat) (sc : Nat → Int32) (K145 : (VC × VRw) → Int32 → Option Unit) (v : (VC × VRw)) (s7 : Int32) (s8 : Int32) (s9 : Int32) (t0 : Int32) : Option Unit :=
  (f_L_sticks (v.1, v.2) t0 s9).bind fun x214 =>
  b_L_law_246 Ln sc K145 (x214.2.1, x214.2.2) s7 s8 x214.1
def b_L_law_193 (Ln : Nat) (sc : Nat → Int32) (K145 : (VC × VRw) → Int32 → Option Unit) (v : (VC × VRw)) (s7 : Int32) (s8 : Int32) (s9 : Int32) : Option Unit :=
  if s7 < 4 then (
    b_L_law_206 Ln sc K145 v s7 s8 s9 0
  ) else (
    b_L_law_206 Ln sc K145 v s7 s8 s9 s8
  )
def b_L_law_233 (Ln : Nat) (sc : Nat → Int32) (K145 : (VC × VRw) → Int32 → Option Unit) (v : (VC × VRw)) (s7 : Int32) (s8 : Int32) (s9 : Int32) (t0 : Int32) : Option Unit :=
  (f_L_act (v.1, v.2) t0 s9).bind fun x243 =>
  b_L_law_246 Ln sc K145 (x243.2.1, x243.2.2) s7 s8 x243.1
def f_L_law_b (Ln : Nat) (sc : Nat → Int32) (K145 : (VC × VRw) → Int32 → Option Unit) (v : (VC × VRw)) (s7 : Int32) : Option Unit :=
  (f_L_cell Ln sc (2 * s7)).bind fun x157 =>
  (f_L_cell Ln sc ((2 * s7) + 1)).bind fun x169 =>
  if s7 < 4 then (
    b_L_law_193 Ln sc K145 v s7 x157 x169
  ) else (
    (f_L_low ((x157 >>> ((8 : Int32) &&& 31)) : Int32) 6).bind fun x187 =>
    if x187 = 0 then (
      b_L_law_193 Ln sc K145 v s7 x157 x169
    ) else (
      if s7 = 4 then (
        b_L_law_233 Ln sc K145 v s7 x157 x169 0
      ) else (
        b_L_law_233 Ln sc K145 v s7 x157 x169 x157
      )
    )
  )
set_option maxRecDepth 100000 in
set_option maxHeartbeats 4000000 in
theorem wl_L_law_49 {G : GG} {X : WX} {sa : Nat → Nat} {KB ZB : Nat} {Q : Unit → State → Prop} {w : VW} (C : Cx G 11 X RL cL_law 12) (hr : (xM X).sig.returnType = (some .boolean)) (T : TB G sa KB ZB X 12 226) (b Ln : Nat) (sc : Nat → Int32) (hS0 : Scr G X b Ln sc) (hN9 : G.2.2 1000 = 119) (K145 : (VC × VRw) → Int32 → Option Unit) (hK145 : ∀ (v : (VC × VRw)) (s7 : Int32), JS G 11 (xset X KB ZB) Q (K145 v s7) (v.1, sRw w 0 v.2) 145 [(0, .ref b), (1, .ref (G.2.2 0)), (2, .ref (G.2.2 (114 + 0))), (3, .ref (G.2.2 (114 + (1 + 0)))), (4, .ref (G.2.2 (114 + (2 + 0)))), (5, .ref (G.2.2 (114 + (3 + 0)))), (6, .ref (G.2.2 (114 + (4 + 0)))), (7, .int s7)] []) : ∀ (n : Nat) (v : (VC × VRw)) (s7 : Int32), JS G 11 X Q (l_L_law_49 Ln sc K145 n v s7) (v.1, sRw w 0 v.2) 49 [(0, .ref b), (1, .ref (G.2.2 0)), (2, .ref (G.2.2 (114 + 0))), (3, .ref (G.2.2 (114 + (1 + 0)))), (4, .ref (G.2.2 (114 + (2 + 0)))), (5, .ref (G.2.2 (114 + (3 + 0)))), (6, .ref (G.2.2 (114 + (4 + 0)))), (7, .int s7)] [] := by
  intro n
  induction n with
  | zero => intro _ _; exact j_none
  | succ n ih =>
    intro v s7
    unfold l_L_law_49
    refine j_iload C 49 7 rfl dL_law_49 ?_
    refine j_bipush (v := 48) C 51 dL_law_51 rfl ?_
    refine j_icmp_ge C 53 74 dL_law_53 (by decide) (fun c53 => ?_) (fun c53 => ?_)
    · refine j_aload C 56 4 rfl dL_law_56 ?_
      refine j_iload C 58 7 rfl dL_law_58 ?_
      refine j_iconst (v := (-1)) C 60 dL_law_60 rfl ?_
      refine j_bind (fun x61 h61 => ?_)
      refine t_Rw2 C (k := 0) (nG_0 C.2.2.2.2.2.2.1) w v.2 61 h61 dL_law_61 ?_
      refine j_V (V' := (v.1, sRw w 0 (v.2.1, v.2.2.1, x61, v.2.2.2.2))) rfl ?_
      refine j_aload C 62 5 rfl dL_law_62 ?_
      refine j_iload C 64 7 rfl dL_law_64 ?_
      refine j_iconst (v := (-1)) C 66 dL_law_66 rfl ?_
      refine j_bind (fun x67 h67 => ?_)
      refine t_Rw3 C (k := 0) (nG_0 C.2.2.2.2.2.2.1) w (v.2.1, v.2.2.1, x61, v.2.2.2.2) 67 h67 dL_law_67 ?_
      refine j_V (V' := (v.1, sRw w 0 (v.2.1, v.2.2.1, x61, x67, v.2.2.2.2.2))) rfl ?_
      refine j_iinc (v := (s7 + 1)) (L1 := [(7, .int (s7 + 1)), (0, .ref b), (1, .ref (G.2.2 0)), (2, .ref (G.2.2 (114 + 0))), (3, .ref (G.2.2 (114 + (1 + 0)))), (4, .ref (G.2.2 (114 + (2 + 0)))), (5, .ref (G.2.2 (114 + (3 + 0)))), (6, .ref (G.2.2 (114 + (4 + 0))))]) C 68 7 rfl dL_law_68 rfl (by decide) rfl ?_
      refine j_goto C 71 49 dL_law_71 (by decide) ?_
      refine j_L (L' := [(0, .ref b), (1, .ref (G.2.2 0)), (2, .ref (G.2.2 (114 + 0))), (3, .ref (G.2.2 (114 + (1 + 0)))), (4, .ref (G.2.2 (114 + (2 + 0)))), (5, .ref (G.2.2 (114 + (3 + 0)))), (6, .ref (G.2.2 (114 + (4 + 0)))), (7, .int (s7 + 1))]) [1, 2, 3, 4, 5, 6, 7, 0] rfl ?_
      exact ih (v.1, (v.2.1, v.2.2.1, x61, x67, v.2.2.2.2.2)) (s7 + 1)
    · refine j_aload_n C 74 1 rfl dL_law_74 ?_
      refine j_aload_n C 75 2 rfl dL_law_75 ?_
      refine j_aload_n C 76 3 rfl dL_law_76 ?_
      refine j_aload C 77 4 rfl dL_law_77 ?_
      refine j_aload C 79 5 rfl dL_law_79 ?_
      refine j_aload C 81 6 rfl dL_law_81 ?_
      refine j_bind (fun x83 h83 => ?_)
      refine j_callB (kb := 3) (zb := 18) (As := [.ref (G.2.2 0), .ref (G.2.2 (114 + 0)), .ref (G.2.2 (114 + (1 + 0))), .ref (G.2.2 (114 + (2 + 0))), .ref (G.2.2 (114 + (3 + 0))), .ref (G.2.2 (114 + (4 + 0)))]) (st := []) C T.1 (T.d1 (by decide)) (T.d2 (by decide)) k_L_isSo 83 (c_L_isSo C.2.2.2.2.2.2.1 T.2.1 v.1 v.2 h83) ml_L_158 st_L_isSo dL_law_83 (by decide) rfl (Nat.le_of_ble_eq_true rfl) ?_ rfl
      have C := C.add (k := 3) (z := 18) (T.d1 (by decide)) (T.d2 (by decide))
      have T := TB.add (a := 9) (z := 208) (k := 3) (y := 18) T
      refine j_V (V' := (v.1, sRw w 0 v.2)) rfl ?_
      refine j_if_eq C 86 140 dL_law_86 (by decide) (fun c86 => ?_) (fun c86 => ?_)
      · refine j_iconst (v := 0) C 140 dL_law_140 rfl ?_
        exact j_none
      · refine j_aload_n C 89 1 rfl dL_law_89 ?_
        refine j_iconst (v := 0) C 90 dL_law_90 rfl ?_
        refine j_aload_n C 91 2 rfl dL_law_91 ?_
        refine j_aload_n C 92 3 rfl dL_law_92 ?_
        refine j_bind (fun x93 h93 => ?_)
        refine j_callB (kb := 5) (zb := 186) (As := [.ref (G.2.2 0), .int 0, .ref (G.2.2 (114 + 0)), .ref (G.2.2 (114 + (1 + 0)))]) (st := []) C T.1 (T.d1 (by decide)) (T.d2 (by decide)) k_L_isSwept 93 (c_L_isSwept C.2.2.2.2.2.2.1 hN9 v.1 v.2 _ h93) ml_L_161 st_L_isSwept dL_law_93 (by decide) rfl (Nat.le_of_ble_eq_true rfl) ?_ rfl
        have C := C.add (k := 5) (z := 186) (T.d1 (by decide)) (T.d2 (by decide))
        have T := TB.add (a := 4) (z := 22) (k := 5) (y := 186) T
        refine j_V (V' := (x93.2, sRw w 0 v.2)) rfl ?_
        refine j_if_eq C 96 140 dL_law_96 (by decide) (fun c96 => ?_) (fun c96 => ?_)
        · refine j_iconst (v := 0) C 140 dL_law_140 rfl ?_
          exact j_none
        · refine j_aload_n C 99 1 rfl dL_law_99 ?_
          refine j_aload_n C 100 3 rfl dL_law_100 ?_
          refine j_bind (fun x101 h101 => ?_)
          refine j_callB (kb := 1) (zb := 4) (As := [.ref (G.2.2 0), .ref (G.2.2 (114 + (1 + 0)))]) (st := []) C T.1 (T.d1 (by decide)) (T.d2 (by decide)) k_L_isChange 101 (c_L_isChange C.2.2.2.2.2.2.1 hN9 x93.2 v.2 h101) ml_L_165 st_L_isChange dL_law_101 (by decide) rfl (Nat.le_of_ble_eq_true rfl) ?_ rfl
          have C := C.add (k := 1) (z := 4) (T.d1 (by decide)) (T.d2 (by decide))
          have T := TB.add (a := 3) (z := 18) (k := 1) (y := 4) T
          refine j_V (V' := (x93.2, sRw w 0 v.2)) rfl ?_
          refine j_if_eq C 104 140 dL_law_104 (by decide) (fun c104 => ?_) (fun c104 => ?_)
          · refine j_iconst (v := 0) C 140 dL_law_140 rfl ?_
            exact j_none
          · refine j_aload_n C 107 1 rfl dL_law_107 ?_
            refine j_bind (fun x108 h108 => ?_)
            refine j_callW (As := [.ref (G.2.2 0)]) (st := []) C T.1 (T.d1 (by decide)) (T.d2 (by decide)) kw_L_undo 108 (c_L_undo C.2.2.2.2.2.2.1 T.2.1 _ h108) ml_L_169 st_L_undo dL_law_108 (by decide) rfl (Nat.le_of_ble_eq_true rfl) ?_ rfl
            have C := C.add (k := 1) (z := 6) (T.d1 (by decide)) (T.d2 (by decide))
            have T := TB.add (a := 2) (z := 12) (k := 1) (y := 6) T
            refine j_V (V' := (x108.2, sRw w 0 v.2)) rfl ?_
            refine j_bipush (v := (-33)) C 111 dL_law_111 rfl ?_
            refine j_icmp_ne C 113 140 dL_law_113 (by decide) (fun c113 => ?_) (fun c113 => ?_)
            · refine j_aload_n C 116 1 rfl dL_law_116 ?_
              refine j_iconst (v := 4) C 117 dL_law_117 rfl ?_
              refine j_bipush (v := 8) C 118 dL_law_118 rfl ?_
              refine j_bind (fun x120 h120 => ?_)
              refine j_callW (As := [.ref (G.2.2 0), .int 4, .int 8]) (st := []) C T.1 (T.d1 (by decide)) (T.d2 (by decide)) kw_L_slot 120 (c_L_slot C.2.2.2.2.2.2.1 T.2.1 _ _ _ h120) ml_L_171 st_L_slot dL_law_120 (by decide) rfl (Nat.le_of_ble_eq_true rfl) ?_ rfl
              have C := C.add (k := 1) (z := 6) (T.d1 (by decide)) (T.d2 (by decide))
              have T := TB.add (a := 1) (z := 6) (k := 1) (y := 6) T
              refine j_bipush (v := (-31)) C 123 dL_law_123 rfl ?_
              refine j_icmp_ne C 125 140 dL_law_125 (by decide) (fun c125 => ?_) (fun c125 => ?_)
              · refine j_aload_n C 128 1 rfl dL_law_128 ?_
                refine j_iconst (v := 0) C 129 dL_law_129 rfl ?_
                refine j_bipush (v := 8) C 130 dL_law_130 rfl ?_
                refine j_bind (fun x132 h132 => ?_)
                refine j_callW (As := [.ref (G.2.2 0), .int 0, .int 8]) (st := []) C T.1 (T.d1 (by decide)) (T.d2 (by decide)) kw_L_slot 132 (c_L_slot C.2.2.2.2.2.2.1 T.2.1 _ _ _ h132) ml_L_171 st_L_slot dL_law_132 (by decide) rfl (Nat.le_of_ble_eq_true rfl) ?_ rfl
                have C := C.add (k := 1) (z := 6) (T.d1 (by decide)) (T.d2 (by decide))
                have T := TB.add (a := 0) (z := 0) (k := 1) (y := 6) T
                refine j_bipush (v := (-32)) C 135 dL_law_135 rfl ?_
                refine j_icmp_eq C 137 142 dL_law_137 (by decide) (fun c137 => ?_) (fun c137 => ?_)
                · refine j_iconst (v := 0) C 142 dL_law_142 rfl ?_
                  refine j_istore (L1 := [(7, .int 0), (0, .ref b), (1, .ref (G.2.2 0)), (2, .ref (G.2.2 (114 + 0))), (3, .ref (G.2.2 (114 + (1 + 0)))), (4, .ref (G.2.2 (114 + (2 + 0)))), (5, .ref (G.2.2 (114 + (3 + 0)))), (6, .ref (G.2.2 (114 + (4 + 0))))]) C 143 dL_law_143 (by decide) rfl ?_
                  refine j_L (L' := [(0, .ref b), (1, .ref (G.2.2 0)), (2, .ref (G.2.2 (114 + 0))), (3, .ref (G.2.2 (114 + (1 + 0)))), (4, .ref (G.2.2 (114 + (2 + 0)))), (5, .ref (G.2.2 (114 + (3 + 0)))), (6, .ref (G.2.2 (114 + (4 + 0)))), (7, .int 0)]) [1, 2, 3, 4, 5, 6, 7, 0] rfl ?_
                  exact j_xset T.e1 T.e2 (hK145 (x108.2, v.2) 0)
                · refine j_iconst (v := 0) C 140 dL_law_140 rfl ?_
                  exact j_none
              · refine j_iconst (v := 0) C 140 dL_law_140 rfl ?_
                exact j_none
            · refine j_iconst (v := 0) C 140 dL_law_140 rfl ?_
              exact j_none
set_option maxRecDepth 100000 in
set_option maxHeartbeats 4000000 in
theorem w_L_law_a {G : GG} {X : WX} {sa : Nat → Nat} {KB ZB : Nat} {Q : Unit → State → Prop} {w : VW} (C : Cx G 11 X RL cL_law 12) (hr : (xM X).sig.returnType = (some .boolean)) (T : TB G sa KB ZB X 12 226) (b Ln : Nat) (sc : Nat → Int32) (hS0 : Scr G X b Ln sc) (hN9 : G.2.2 1000 = 119) (K145 : (VC × VRw) → Int32 → Option Unit) (hK145 : ∀ (v : (VC × VRw)) (s7 : Int32), JS G 11 (xset X KB ZB) Q (K145 v s7) (v.1, sRw w 0 v.2) 145 [(0, .ref b), (1, .ref (G.2.2 0)), (2, .ref (G.2.2 (114 + 0))), (3, .ref (G.2.2 (114 + (1 + 0)))), (4, .ref (G.2.2 (114 + (2 + 0)))), (5, .ref (G.2.2 (114 + (3 + 0)))), (6, .ref (G.2.2 (114 + (4 + 0)))), (7, .int s7)] []) (v : (VC × VRw)) : JS G 11 X Q (f_L_law_a Ln sc K145 v) (v.1, sRw w 0 v.2) 36 [(0, .ref b), (1, .ref (G.2.2 0)), (2, .ref (G.2.2 (114 + 0))), (3, .ref (G.2.2 (114 + (1 + 0)))), (4, .ref (G.2.2 (114 + (2 + 0)))), (5, .ref (G.2.2 (114 + (3 + 0)))), (6, .ref (G.2.2 (114 + (4 + 0))))] [] := by
  unfold f_L_law_a
  refine j_aload_n C 36 2 rfl dL_law_36 ?_
  refine j_bipush (v := 8) C 37 dL_law_37 rfl ?_
  refine j_iconst (v := 1) C 39 dL_law_39 rfl ?_
  refine j_bind (fun x40 h40 => ?_)
  refine t_Rw0 C (k := 0) (nG_0 C.2.2.2.2.2.2.1) w v.2 40 h40 dL_law_40 ?_
  refine j_V (V' := (v.1, sRw w 0 (x40, v.2.2))) rfl ?_
  refine j_aload_n C 41 2 rfl dL_law_41 ?_
  refine j_bipush (v := 9) C 42 dL_law_42 rfl ?_
  refine j_iconst (v := (-1)) C 44 dL_law_44 rfl ?_
  refine j_bind (fun x45 h45 => ?_)
  refine t_Rw0 C (k := 0) (nG_0 C.2.2.2.2.2.2.1) w (x40, v.2.2) 45 h45 dL_law_45 ?_
  refine j_V (V' := (v.1, sRw w 0 (x45, v.2.2))) rfl ?_
  refine j_iconst (v := 0) C 46 dL_law_46 rfl ?_
  refine j_istore (L1 := [(7, .int 0), (0, .ref b), (1, .ref (G.2.2 0)), (2, .ref (G.2.2 (114 + 0))), (3, .ref (G.2.2 (114 + (1 + 0)))), (4, .ref (G.2.2 (114 + (2 + 0)))), (5, .ref (G.2.2 (114 + (3 + 0)))), (6, .ref (G.2.2 (114 + (4 + 0))))]) C 47 dL_law_47 (by decide) rfl ?_
  refine j_L (L' := [(0, .ref b), (1, .ref (G.2.2 0)), (2, .ref (G.2.2 (114 + 0))), (3, .ref (G.2.2 (114 + (1 + 0)))), (4, .ref (G.2.2 (114 + (2 + 0)))), (5, .ref (G.2.2 (114 + (3 + 0)))), (6, .ref (G.2.2 (114 + (4 + 0)))), (7, .int 0)]) [1, 2, 3, 4, 5, 6, 7, 0] rfl ?_
  exact wl_L_law_49 C hr (T.mono (a := 12) (z := 226) (by decide) (by decide)) b Ln sc hS0 hN9 _ hK145 FU (v.1, (x45, v.2.2)) 0
set_option maxRecDepth 100000 in
set_option maxHeartbeats 4000000 in
theorem wb_L_law_246 {G : GG} {X : WX} {sa : Nat → Nat} {KB ZB : Nat} {Q : Unit → State → Prop} {w : VW} (C : Cx G 11 X RL cL_law 12) (hr : (xM X).sig.returnType = (some .boolean)) (T : TB G sa KB ZB X 9 208) (b Ln : Nat) (sc : Nat → Int32) (hS0 : Scr G X b Ln sc) (hN9 : G.2.2 1000 = 119) (K145 : (VC × VRw) → Int32 → Option Unit) (hK145 : ∀ (v : (VC × VRw)) (s7 : Int32), JS G 11 (xset X KB ZB) Q (K145 v s7) (v.1, sRw w 0 v.2) 145 [(0, .ref b), (1, .ref (G.2.2 0)), (2, .ref (G.2.2 (114 + 0))), (3, .ref (G.2.2 (114 + (1 + 0)))), (4, .ref (G.2.2 (114 + (2 + 0)))), (5, .ref (G.2.2 (114 + (3 + 0)))), (6, .ref (G.2.2 (114 + (4 + 0)))), (7, .int s7)] []) (v : (VC × VRw)) (s7 : Int32) (s8 : Int32) (t0 : Int32) : JS G 11 X Q (b_L_law_246 Ln sc K145 v s7 s8 t0) (v.1, sRw w 0 v.2) 246 [(0, .ref b), (1, .ref (G.2.2 0)), (2, .ref (G.2.2 (114 + 0))), (3, .ref (G.2.2 (114 + (1 + 0)))), (4, .ref (G.2.2 (114 + (2 + 0)))), (5, .ref (G.2.2 (114 + (3 + 0)))), (6, .ref (G.2.2 (114 + (4 + 0)))), (7, .int s7), (8, .int s8)] [.int t0] := by
  unfold b_L_law_246
  refine j_istore (L1 := [(10, .int t0), (0, .ref b), (1, .ref (G.2.2 0)), (2, .ref (G.2.2 (114 + 0))), (3, .ref (G.2.2 (114 + (1 + 0)))), (4, .ref (G.2.2 (114 + (2 + 0)))), (5, .ref (G.2.2 (114 + (3 + 0)))), (6, .ref (G.2.2 (114 + (4 + 0)))), (7, .int s7), (8, .int s8)]) C 246 dL_law_246 (by decide) rfl ?_
  refine j_iload C 248 0 rfl dL_law_248 ?_
  refine j_if_eq C 250 301 dL_law_250 (by decide) (fun c250 => ?_) (fun c250 => ?_)
  · refine j_iconst (v := 0) C 301 dL_law_301 rfl ?_
    exact j_none
  · refine j_aload_n C 253 2 rfl dL_law_253 ?_
    refine j_aload_n C 254 3 rfl dL_law_254 ?_
    refine j_aload_n C 255 4 rfl dL_law_255 ?_
    refine j_aload C 256 5 rfl dL_law_256 ?_
    refine j_aload C 258 6 rfl dL_law_258 ?_
    refine j_aload C 260 7 rfl dL_law_260 ?_
    refine j_bind (fun x262 h262 => ?_)
    refine j_callB (kb := 3) (zb := 18) (As := [.ref (G.2.2 0), .ref (G.2.2 (114 + 0)), .ref (G.2.2 (114 + (1 + 0))), .ref (G.2.2 (114 + (2 + 0))), .ref (G.2.2 (114 + (3 + 0))), .ref (G.2.2 (114 + (4 + 0)))]) (st := []) C T.1 (T.d1 (by decide)) (T.d2 (by decide)) k_L_isSo 262 (c_L_isSo C.2.2.2.2.2.2.1 T.2.1 v.1 v.2 h262) ml_L_158 st_L_isSo dL_law_262 (by decide) rfl (Nat.le_of_ble_eq_true rfl) ?_ rfl
    have C := C.add (k := 3) (z := 18) (T.d1 (by decide)) (T.d2 (by decide))
    have T := TB.add (a := 6) (z := 190) (k := 3) (y := 18) T
    refine j_V (V' := (v.1, sRw w 0 v.2)) rfl ?_
    refine j_if_eq C 265 301 dL_law_265 (by decide) (fun c265 => ?_) (fun c265 => ?_)
    · refine j_iconst (v := 0) C 301 dL_law_301 rfl ?_
      exact j_none
    · refine j_iload C 268 8 rfl dL_law_268 ?_
      refine j_iconst (v := 4) C 270 dL_law_270 rfl ?_
      refine j_irem C 271 dL_law_271 (by decide) ?_
      refine j_iconst (v := 3) C 272 dL_law_272 rfl ?_
      refine j_icmp_ne C 273 303 dL_law_273 (by decide) (fun c273 => ?_) (fun c273 => ?_)
      · refine j_aload_n C 276 2 rfl dL_law_276 ?_
        refine j_iload C 277 9 rfl dL_law_277 ?_
        refine j_iconst (v := 4) C 279 dL_law_279 rfl ?_
        refine j_ishr C 280 dL_law_280 ?_
        refine j_iconst (v := 3) C 281 dL_law_281 rfl ?_
        refine j_bind (fun x282 h282 => ?_)
        refine j_callS_i (As := [.int ((s8 >>> ((4 : Int32) &&& 31)) : Int32), .int 3]) (st := [.ref (G.2.2 0)]) C k_L_low 282 (c_L_low C.2.2.2.2.2.2.1 (c := v.1) (w := (sRw w 0 v.2)) _ _ h282) rfl ml_L_81 st_L_low dL_law_282 (by decide) rfl (Nat.le_of_ble_eq_true rfl) ?_ rfl
        refine j_aload_n C 285 3 rfl dL_law_285 ?_
        refine j_aload_n C 286 4 rfl dL_law_286 ?_
        refine j_bind (fun x287 h287 => ?_)
        refine j_callB (kb := 5) (zb := 186) (As := [.ref (G.2.2 0), .int x282, .ref (G.2.2 (114 + 0)), .ref (G.2.2 (114 + (1 + 0)))]) (st := []) C T.1 (T.d1 (by decide)) (T.d2 (by decide)) k_L_isSwept 287 (c_L_isSwept C.2.2.2.2.2.2.1 hN9 v.1 v.2 _ h287) ml_L_161 st_L_isSwept dL_law_287 (by decide) rfl (Nat.le_of_ble_eq_true rfl) ?_ rfl
        have C := C.add (k := 5) (z := 186) (T.d1 (by decide)) (T.d2 (by decide))
        have T := TB.add (a := 1) (z := 4) (k := 5) (y := 186) T
        refine j_V (V' := (x287.2, sRw w 0 v.2)) rfl ?_
        refine j_if_eq C 290 301 dL_law_290 (by decide) (fun c290 => ?_) (fun c290 => ?_)
        · refine j_iconst (v := 0) C 301 dL_law_301 rfl ?_
          exact j_none
        · refine j_aload_n C 293 2 rfl dL_law_293 ?_
          refine j_aload_n C 294 4 rfl dL_law_294 ?_
          refine j_bind (fun x295 h295 => ?_)
          refine j_callB (kb := 1) (zb := 4) (As := [.ref (G.2.2 0), .ref (G.2.2 (114 + (1 + 0)))]) (st := []) C T.1 (T.d1 (by decide)) (T.d2 (by decide)) k_L_isChange 295 (c_L_isChange C.2.2.2.2.2.2.1 hN9 x287.2 v.2 h295) ml_L_165 st_L_isChange dL_law_295 (by decide) rfl (Nat.le_of_ble_eq_true rfl) ?_ rfl
          have C := C.add (k := 1) (z := 4) (T.d1 (by decide)) (T.d2 (by decide))
          have T := TB.add (a := 0) (z := 0) (k := 1) (y := 4) T
          refine j_V (V' := (x287.2, sRw w 0 v.2)) rfl ?_
          refine j_if_ne C 298 303 dL_law_298 (by decide) (fun c298 => ?_) (fun c298 => ?_)
          · refine j_iconst (v := 0) C 301 dL_law_301 rfl ?_
            exact j_none
          · refine j_iinc (v := (s7 + 1)) (L1 := [(7, .int (s7 + 1)), (10, .int t0), (0, .ref b), (1, .ref (G.2.2 0)), (2, .ref (G.2.2 (114 + 0))), (3, .ref (G.2.2 (114 + (1 + 0)))), (4, .ref (G.2.2 (114 + (2 + 0)))), (5, .ref (G.2.2 (114 + (3 + 0)))), (6, .ref (G.2.2 (114 + (4 + 0)))), (8, .int s8)]) C 303 8 rfl dL_law_303 rfl (by decide) rfl ?_
            refine j_goto C 306 145 dL_law_306 (by decide) ?_
            refine j_L (L' := [(0, .ref b), (1, .ref (G.2.2 0)), (2, .ref (G.2.2 (114 + 0))), (3, .ref (G.2.2 (114 + (1 + 0)))), (4, .ref (G.2.2 (114 + (2 + 0)))), (5, .ref (G.2.2 (114 + (3 + 0)))), (6, .ref (G.2.2 (114 + (4 + 0)))), (7, .int (s7 + 1))]) [2, 3, 4, 5, 6, 7, 8, 0] rfl ?_
            exact j_xset T.e1 T.e2 (hK145 (x287.2, v.2) (s7 + 1))
      · refine j_iinc (v := (s7 + 1)) (L1 := [(7, .int (s7 + 1)), (10, .int t0), (0, .ref b), (1, .ref (G.2.2 0)), (2, .ref (G.2.2 (114 + 0))), (3, .ref (G.2.2 (114 + (1 + 0)))), (4, .ref (G.2.2 (114 + (2 + 0)))), (5, .ref (G.2.2 (114 + (3 + 0)))), (6, .ref (G.2.2 (114 + (4 + 0)))), (8, .int s8)]) C 303 8 rfl dL_law_303 rfl (by decide) rfl ?_
        refine j_goto C 306 145 dL_law_306 (by decide) ?_
        refine j_L (L' := [(0, .ref b), (1, .ref (G.2.2 0)), (2, .ref (G.2.2 (114 + 0))), (3, .ref (G.2.2 (114 + (1 + 0)))), (4, .ref (G.2.2 (114 + (2 + 0)))), (5, .ref (G.2.2 (114 + (3 + 0)))), (6, .ref (G.2.2 (114 + (4 + 0)))), (7, .int (s7 + 1))]) [2, 3, 4, 5, 6, 7, 8, 0] rfl ?_
        exact j_xset T.e1 T.e2 (hK145 v (s7 + 1))
set_option maxRecDepth 100000 in
set_option maxHeartbeats 4000000 in
theorem wb_L_law_206 {G : GG} {X : WX} {sa : Nat → Nat} {KB ZB : Nat} {Q : Unit → State → Prop} {w : VW} (C : Cx G 11 X RL cL_law 12) (hr : (xM X).sig.returnType = (some .boolean)) (T : TB G sa KB ZB X 14 238) (b Ln : Nat) (sc : Nat → Int32) (hS0 : Scr G X b Ln sc) (hN9 : G.2.2 1000 = 119) (K145 : (VC × VRw) → Int32 → Option Unit) (hK145 : ∀ (v : (VC × VRw)) (s7 : Int32), JS G 11 (xset X KB ZB) Q (K145 v s7) (v.1, sRw w 0 v.2) 145 [(0, .ref b), (1, .ref (G.2.2 0)), (2, .ref (G.2.2 (114 + 0))), (3, .ref (G.2.2 (114 + (1 + 0)))), (4, .ref (G.2.2 (114 + (2 + 0)))), (5, .ref (G.2.2 (114 + (3 + 0)))), (6, .ref (G.2.2 (114 + (4 + 0)))), (7, .int s7)] []) (v : (VC × VRw)) (s7 : Int32) (s8 : Int32) (s9 : Int32) (t0 : Int32) : JS G 11 X Q (b_L_law_206 Ln sc K145 v s7 s8 s9 t0) (v.1, sRw w 0 v.2) 206 [(0, .ref b), (1, .ref (G.2.2 0)), (2, .ref (G.2.2 (114 + 0))), (3, .ref (G.2.2 (114 + (1 + 0)))), (4, .ref (G.2.2 (114 + (2 + 0)))), (5, .ref (G.2.2 (114 + (3 + 0)))), (6, .ref (G.2.2 (114 + (4 + 0)))), (7, .int s7), (8, .int s8), (9, .int s9)] [.int t0, .ref (G.2.2 0)] := by
  unfold b_L_law_206
  refine j_iload C 206 9 rfl dL_law_206 ?_
  refine j_aload_n C 208 2 rfl dL_law_208 ?_
  refine j_aload_n C 209 3 rfl dL_law_209 ?_
  refine j_aload C 210 4 rfl dL_law_210 ?_
  refine j_aload C 212 5 rfl dL_law_212 ?_
  refine j_bind (fun x214 h214 => ?_)
  refine j_callB (kb := 5) (zb := 30) (As := [.ref (G.2.2 0), .int t0, .int s9, .ref (G.2.2 (114 + 0)), .ref (G.2.2 (114 + (1 + 0))), .ref (G.2.2 (114 + (2 + 0))), .ref (G.2.2 (114 + (3 + 0)))]) (st := []) C T.1 (T.d1 (by decide)) (T.d2 (by decide)) k_L_sticks 214 (c_L_sticks C.2.2.2.2.2.2.1 T.2.1 (v.1, v.2) _ _ h214) ml_L_176 st_L_sticks dL_law_214 (by decide) rfl (Nat.le_of_ble_eq_true rfl) ?_ rfl
  have C := C.add (k := 5) (z := 30) (T.d1 (by decide)) (T.d2 (by decide))
  have T := TB.add (a := 9) (z := 208) (k := 5) (y := 30) T
  refine j_V (V' := (x214.2.1, sRw w 0 x214.2.2)) rfl ?_
  refine j_goto C 217 246 dL_law_217 (by decide) ?_
  refine j_L (L' := [(0, .ref b), (1, .ref (G.2.2 0)), (2, .ref (G.2.2 (114 + 0))), (3, .ref (G.2.2 (114 + (1 + 0)))), (4, .ref (G.2.2 (114 + (2 + 0)))), (5, .ref (G.2.2 (114 + (3 + 0)))), (6, .ref (G.2.2 (114 + (4 + 0)))), (7, .int s7), (8, .int s8)]) [0, 1, 2, 3, 4, 5, 6, 7, 8] rfl ?_
  exact wb_L_law_246 C hr (T.mono (a := 9) (z := 208) (by decide) (by decide)) b Ln sc hS0 hN9 _ hK145 (x214.2.1, x214.2.2) s7 s8 x214.1
set_option maxRecDepth 100000 in
set_option maxHeartbeats 4000000 in
theorem wb_L_law_193 {G : GG} {X : WX} {sa : Nat → Nat} {KB ZB : Nat} {Q : Unit → State → Prop} {w : VW} (C : Cx G 11 X RL cL_law 12) (hr : (xM X).sig.returnType = (some .boolean)) (T : TB G sa KB ZB X 14 238) (b Ln : Nat) (sc : Nat → Int32) (hS0 : Scr G X b Ln sc) (hN9 : G.2.2 1000 = 119) (K145 : (VC × VRw) → Int32 → Option Unit) (hK145 : ∀ (v : (VC × VRw)) (s7 : Int32), JS G 11 (xset X KB ZB) Q (K145 v s7) (v.1, sRw w 0 v.2) 145 [(0, .ref b), (1, .ref (G.2.2 0)), (2, .ref (G.2.2 (114 + 0))), (3, .ref (G.2.2 (114 + (1 + 0)))), (4, .ref (G.2.2 (114 + (2 + 0)))), (5, .ref (G.2.2 (114 + (3 + 0)))), (6, .ref (G.2.2 (114 + (4 + 0)))), (7, .int s7)] []) (v : (VC × VRw)) (s7 : Int32) (s8 : Int32) (s9 : Int32) : JS G 11 X Q (b_L_law_193 Ln sc K145 v s7 s8 s9) (v.1, sRw w 0 v.2) 193 [(0, .ref b), (1, .ref (G.2.2 0)), (2, .ref (G.2.2 (114 + 0))), (3, .ref (G.2.2 (114 + (1 + 0)))), (4, .ref (G.2.2 (114 + (2 + 0)))), (5, .ref (G.2.2 (114 + (3 + 0)))), (6, .ref (G.2.2 (114 + (4 + 0)))), (7, .int s7), (8, .int s8), (9, .int s9)] [] := by
  unfold b_L_law_193
  refine j_aload_n C 193 1 rfl dL_law_193 ?_
  refine j_iload C 194 7 rfl dL_law_194 ?_
  refine j_iconst (v := 4) C 196 dL_law_196 rfl ?_
  refine j_icmp_ge C 197 204 dL_law_197 (by decide) (fun c197 => ?_) (fun c197 => ?_)
  · refine j_iconst (v := 0) C 200 dL_law_200 rfl ?_
    refine j_goto C 201 206 dL_law_201 (by decide) ?_
    exact wb_L_law_206 C hr (T.mono (a := 14) (z := 238) (by decide) (by decide)) b Ln sc hS0 hN9 _ hK145 v s7 s8 s9 0
  · refine j_iload C 204 8 rfl dL_law_204 ?_
    exact wb_L_law_206 C hr (T.mono (a := 14) (z := 238) (by decide) (by decide)) b Ln sc hS0 hN9 _ hK145 v s7 s8 s9 s8
set_option maxRecDepth 100000 in
set_option maxHeartbeats 4000000 in
theorem wb_L_law_233 {G : GG} {X : WX} {sa : Nat → Nat} {KB ZB : Nat} {Q : Unit → State → Prop} {w : VW} (C : Cx G 11 X RL cL_law 12) (hr : (xM X).sig.returnType = (some .boolean)) (T : TB G sa KB ZB X 14 238) (b Ln : Nat) (sc : Nat → Int32) (hS0 : Scr G X b Ln sc) (hN9 : G.2.2 1000 = 119) (K145 : (VC × VRw) → Int32 → Option Unit) (hK145 : ∀ (v : (VC × VRw)) (s7 : Int32), JS G 11 (xset X KB ZB) Q (K145 v s7) (v.1, sRw w 0 v.2) 145 [(0, .ref b), (1, .ref (G.2.2 0)), (2, .ref (G.2.2 (114 + 0))), (3, .ref (G.2.2 (114 + (1 + 0)))), (4, .ref (G.2.2 (114 + (2 + 0)))), (5, .ref (G.2.2 (114 + (3 + 0)))), (6, .ref (G.2.2 (114 + (4 + 0)))), (7, .int s7)] []) (v : (VC × VRw)) (s7 : Int32) (s8 : Int32) (s9 : Int32) (t0 : Int32) : JS G 11 X Q (b_L_law_233 Ln sc K145 v s7 s8 s9 t0) (v.1, sRw w 0 v.2) 233 [(0, .ref b), (1, .ref (G.2.2 0)), (2, .ref (G.2.2 (114 + 0))), (3, .ref (G.2.2 (114 + (1 + 0)))), (4, .ref (G.2.2 (114 + (2 + 0)))), (5, .ref (G.2.2 (114 + (3 + 0)))), (6, .ref (G.2.2 (114 + (4 + 0)))), (7, .int s7), (8, .int s8), (9, .int s9)] [.int t0, .ref (G.2.2 0)] := by
  unfold b_L_law_233
  refine j_iload C 233 9 rfl dL_law_233 ?_
  refine j_aload_n C 235 2 rfl dL_law_235 ?_
  refine j_aload_n C 236 3 rfl dL_law_236 ?_
  refine j_aload C 237 4 rfl dL_law_237 ?_
  refine j_aload C 239 5 rfl dL_law_239 ?_
  refine j_aload C 241 6 rfl dL_law_241 ?_
  refine j_bind (fun x243 h243 => ?_)
  refine j_callB (kb := 5) (zb := 30) (As := [.ref (G.2.2 0), .int t0, .int s9, .ref (G.2.2 (114 + 0)), .ref (G.2.2 (114 + (1 + 0))), .ref (G.2.2 (114 + (2 + 0))), .ref (G.2.2 (114 + (3 + 0))), .ref (G.2.2 (114 + (4 + 0)))]) (st := []) C T.1 (T.d1 (by decide)) (T.d2 (by decide)) k_L_act 243 (c_L_act C.2.2.2.2.2.2.1 T.2.1 (v.1, v.2) _ _ h243) ml_L_180 st_L_act dL_law_243 (by decide) rfl (Nat.le_of_ble_eq_true rfl) ?_ rfl
  have C := C.add (k := 5) (z := 30) (T.d1 (by decide)) (T.d2 (by decide))
  have T := TB.add (a := 9) (z := 208) (k := 5) (y := 30) T
  refine j_V (V' := (x243.2.1, sRw w 0 x243.2.2)) rfl ?_
  refine j_L (L' := [(0, .ref b), (1, .ref (G.2.2 0)), (2, .ref (G.2.2 (114 + 0))), (3, .ref (G.2.2 (114 + (1 + 0)))), (4, .ref (G.2.2 (114 + (2 + 0)))), (5, .ref (G.2.2 (114 + (3 + 0)))), (6, .ref (G.2.2 (114 + (4 + 0)))), (7, .int s7), (8, .int s8)]) [0, 1, 2, 3, 4, 5, 6, 7, 8] rfl ?_
  exact wb_L_law_246 C hr (T.mono (a := 9) (z := 208) (by decide) (by decide)) b Ln sc hS0 hN9 _ hK145 (x243.2.1, x243.2.2) s7 s8 x243.1
set_option maxRecDepth 100000 in
set_option maxHeartbeats 4000000 in
theorem w_L_law_b {G : GG} {X : WX} {sa : Nat → Nat} {KB ZB : Nat} {Q : Unit → State → Prop} {w : VW} (C : Cx G 11 X RL cL_law 12) (hr : (xM X).sig.returnType = (some .boolean)) (T : TB G sa KB ZB X 14 238) (b Ln : Nat) (sc : Nat → Int32) (hS0 : Scr G X b Ln sc) (hN9 : G.2.2 1000 = 119) (K145 : (VC × VRw) → Int32 → Option Unit) (hK145 : ∀ (v : (VC × VRw)) (s7 : Int32), JS G 11 (xset X KB ZB) Q (K145 v s7) (v.1, sRw w 0 v.2) 145 [(0, .ref b), (1, .ref (G.2.2 0)), (2, .ref (G.2.2 (114 + 0))), (3, .ref (G.2.2 (114 + (1 + 0)))), (4, .ref (G.2.2 (114 + (2 + 0)))), (5, .ref (G.2.2 (114 + (3 + 0)))), (6, .ref (G.2.2 (114 + (4 + 0)))), (7, .int s7)] []) (v : (VC × VRw)) (s7 : Int32) : JS G 11 X Q (f_L_law_b Ln sc K145 v s7) (v.1, sRw w 0 v.2) 152 [(0, .ref b), (1, .ref (G.2.2 0)), (2, .ref (G.2.2 (114 + 0))), (3, .ref (G.2.2 (114 + (1 + 0)))), (4, .ref (G.2.2 (114 + (2 + 0)))), (5, .ref (G.2.2 (114 + (3 + 0)))), (6, .ref (G.2.2 (114 + (4 + 0)))), (7, .int s7)] [] := by
  unfold f_L_law_b
  refine j_aload_n C 152 0 rfl dL_law_152 ?_
  refine j_iconst (v := 2) C 153 dL_law_153 rfl ?_
  refine j_iload C 154 7 rfl dL_law_154 ?_
  refine j_imul C 156 dL_law_156 ?_
  refine j_bind (fun x157 h157 => ?_)
  refine j_callC (As := [.ref b, .int (2 * s7)]) (st := []) C hS0 k_L_cell 157 (c_L_cell C.2.2.2.2.2.2.1 _ h157) ml_L_173 st_L_cell dL_law_157 (by decide) rfl (Nat.le_of_ble_eq_true rfl) ?_ rfl
  refine j_istore (L1 := [(8, .int x157), (0, .ref b), (1, .ref (G.2.2 0)), (2, .ref (G.2.2 (114 + 0))), (3, .ref (G.2.2 (114 + (1 + 0)))), (4, .ref (G.2.2 (114 + (2 + 0)))), (5, .ref (G.2.2 (114 + (3 + 0)))), (6, .ref (G.2.2 (114 + (4 + 0)))), (7, .int s7)]) C 160 dL_law_160 (by decide) rfl ?_
  refine j_aload_n C 162 1 rfl dL_law_162 ?_
  refine j_iconst (v := 2) C 163 dL_law_163 rfl ?_
  refine j_iload C 164 8 rfl dL_law_164 ?_
  refine j_imul C 166 dL_law_166 ?_
  refine j_iconst (v := 1) C 167 dL_law_167 rfl ?_
  refine j_iadd C 168 dL_law_168 ?_
  refine j_bind (fun x169 h169 => ?_)
  refine j_callC (As := [.ref b, .int ((2 * s7) + 1)]) (st := []) C hS0 k_L_cell 169 (c_L_cell C.2.2.2.2.2.2.1 _ h169) ml_L_173 st_L_cell dL_law_169 (by decide) rfl (Nat.le_of_ble_eq_true rfl) ?_ rfl
  refine j_istore (L1 := [(9, .int x169), (8, .int x157), (0, .ref b), (1, .ref (G.2.2 0)), (2, .ref (G.2.2 (114 + 0))), (3, .ref (G.2.2 (114 + (1 + 0)))), (4, .ref (G.2.2 (114 + (2 + 0)))), (5, .ref (G.2.2 (114 + (3 + 0)))), (6, .ref (G.2.2 (114 + (4 + 0)))), (7, .int s7)]) C 172 dL_law_172 (by decide) rfl ?_
  refine j_iload C 174 9 rfl dL_law_174 ?_
  refine j_iconst (v := 4) C 176 dL_law_176 rfl ?_
  refine j_icmp_lt C 177 193 dL_law_177 (by decide) (fun c177 => ?_) (fun c177 => ?_)
  · refine j_L (L' := [(0, .ref b), (1, .ref (G.2.2 0)), (2, .ref (G.2.2 (114 + 0))), (3, .ref (G.2.2 (114 + (1 + 0)))), (4, .ref (G.2.2 (114 + (2 + 0)))), (5, .ref (G.2.2 (114 + (3 + 0)))), (6, .ref (G.2.2 (114 + (4 + 0)))), (7, .int s7), (8, .int x157), (9, .int x169)]) [2, 3, 4, 5, 6, 7, 8, 9, 1, 0] rfl ?_
    exact wb_L_law_193 C hr (T.mono (a := 14) (z := 238) (by decide) (by decide)) b Ln sc hS0 hN9 _ hK145 v s7 x157 x169
  · refine j_iload C 180 1 rfl dL_law_180 ?_
    refine j_bipush (v := 8) C 182 dL_law_182 rfl ?_
    refine j_ishr C 184 dL_law_184 ?_
    refine j_bipush (v := 6) C 185 dL_law_185 rfl ?_
    refine j_bind (fun x187 h187 => ?_)
    refine j_callS_i (As := [.int ((x157 >>> ((8 : Int32) &&& 31)) : Int32), .int 6]) (st := []) C k_L_low 187 (c_L_low C.2.2.2.2.2.2.1 (c := v.1) (w := (sRw w 0 v.2)) _ _ h187) rfl ml_L_81 st_L_low dL_law_187 (by decide) rfl (Nat.le_of_ble_eq_true rfl) ?_ rfl
    refine j_if_ne C 190 220 dL_law_190 (by decide) (fun c190 => ?_) (fun c190 => ?_)
    · refine j_L (L' := [(0, .ref b), (1, .ref (G.2.2 0)), (2, .ref (G.2.2 (114 + 0))), (3, .ref (G.2.2 (114 + (1 + 0)))), (4, .ref (G.2.2 (114 + (2 + 0)))), (5, .ref (G.2.2 (114 + (3 + 0)))), (6, .ref (G.2.2 (114 + (4 + 0)))), (7, .int s7), (8, .int x157), (9, .int x169)]) [2, 3, 4, 5, 6, 7, 8, 9, 1, 0] rfl ?_
      exact wb_L_law_193 C hr (T.mono (a := 14) (z := 238) (by decide) (by decide)) b Ln sc hS0 hN9 _ hK145 v s7 x157 x169
    · refine j_aload_n C 220 3 rfl dL_law_220 ?_
      refine j_iload C 221 9 rfl dL_law_221 ?_
      refine j_iconst (v := 4) C 223 dL_law_223 rfl ?_
      refine j_icmp_ne C 224 231 dL_law_224 (by decide) (fun c224 => ?_) (fun c224 => ?_)
      · refine j_iconst (v := 0) C 227 dL_law_227 rfl ?_
        refine j_goto C 228 233 dL_law_228 (by decide) ?_
        refine j_L (L' := [(0, .ref b), (1, .ref (G.2.2 0)), (2, .ref (G.2.2 (114 + 0))), (3, .ref (G.2.2 (114 + (1 + 0)))), (4, .ref (G.2.2 (114 + (2 + 0)))), (5, .ref (G.2.2 (114 + (3 + 0)))), (6, .ref (G.2.2 (114 + (4 + 0)))), (7, .int s7), (8, .int x157), (9, .int x169)]) [2, 3, 4, 5, 6, 7, 8, 9, 1, 0] rfl ?_
        exact wb_L_law_233 C hr (T.mono (a := 14) (z := 238) (by decide) (by decide)) b Ln sc hS0 hN9 _ hK145 v s7 x157 x169 0
      · refine j_iload C 231 1 rfl dL_law_231 ?_
        refine j_L (L' := [(0, .ref b), (1, .ref (G.2.2 0)), (2, .ref (G.2.2 (114 + 0))), (3, .ref (G.2.2 (114 + (1 + 0)))), (4, .ref (G.2.2 (114 + (2 + 0)))), (5, .ref (G.2.2 (114 + (3 + 0)))), (6, .ref (G.2.2 (114 + (4 + 0)))), (7, .int s7), (8, .int x157), (9, .int x169)]) [2, 3, 4, 5, 6, 7, 8, 9, 1, 0] rfl ?_
        exact wb_L_law_233 C hr (T.mono (a := 14) (z := 238) (by decide) (by decide)) b Ln sc hS0 hN9 _ hK145 v s7 x157 x169 x157
