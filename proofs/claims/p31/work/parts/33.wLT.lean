def b_L_isSwept_171 (v0 : VRw) (K138 : (VC × VRw) → Int32 → Int32 → Option (Int32 × VC)) (v : (VC × VRw)) (s1 : Int32) (s9 : Int32) (t0 : Int32) (t1 : Int32) : Option (Int32 × VC) :=
  (f_L_reads v.2 t1 t0).bind fun x171 =>
  (ard 10 x171.1 1).bind fun x181 =>
  if s9 < x181 then (
    K138 (v.1, x171) s1 (s9 + 2)
  ) else (
    K138 (v.1, x171) s1 (s9 + 1)
  )
def l_L_isSwept_138 (v0 : VRw) : Nat → (VC × VRw) → Int32 → Int32 → Option (Int32 × VC)
  | 0, _, _, _ => none
  | n + 1, v, s1, s9 =>
    (ard 10 v.2.1 0).bind fun x143 =>
    if s9 < x143 then (
      (ard 10 v.2.1 1).bind fun x162 =>
      if s9 < x162 then (
        b_L_isSwept_171 v0 (l_L_isSwept_138 v0 n) v s1 s9 1 s9
      ) else (
        b_L_isSwept_171 v0 (l_L_isSwept_138 v0 n) v s1 s9 0 s9
      )
    ) else (
      (nth (f_X5_sweep v.1 s1)).bind fun x198 =>
      (ard 10 v.2.1 2).bind fun x204 =>
      (ard 10 v0.1 2).bind fun x207 =>
      if x198.1 = (x204 - x207) then (
        (nth (f_X5_ifStarted x198.2 s1 0)).bind fun x215 =>
        (ard 10 v.2.1 0).bind fun x221 =>
        if x215.1 = x221 then (
          (nth (f_X5_ifStarted x215.2 s1 1)).bind fun x228 =>
          (ard 10 v.2.1 1).bind fun x234 =>
          if x228.1 = x234 then (
            some (1, x228.2)
          ) else (
            some (0, x228.2)
          )
        ) else (
          some (0, x215.2)
        )
      ) else (
        some (0, x198.2)
      )
    )
def l_L_isSwept_58 (v0 : VRw) : Nat → (VC × VRw) → Int32 → Int32 → Option (Int32 × VC)
  | 0, _, _, _ => none
  | n + 1, v, s1, s9 =>
    if s9 < 32 then (
      (ard 32 v0.2.1 s9).bind fun x72 =>
      (aup 32 v.2.2.1 s9 x72).bind fun x73 =>
      l_L_isSwept_58 v0 n (v.1, (v.2.1, x73, v.2.2.2)) s1 (s9 + 1)
    ) else (
      (f_L_why 32 v0.2.1 s1).bind fun x82 =>
      if 0 < x82 then (
        (nth (f_X5_sweep v.1 s1)).bind fun x90 =>
        if x90.1 = (-1) then (
          (nth (f_X5_ifStarted x90.2 s1 0)).bind fun x100 =>
          if x100.1 = 0 then (
            (nth (f_X5_ifStarted x100.2 s1 1)).bind fun x109 =>
            if x109.1 = 0 then (
              some (1, x109.2)
            ) else (
              some (0, x109.2)
            )
          ) else (
            some (0, x100.2)
          )
        ) else (
          some (0, x90.2)
        )
      ) else (
        (f_L_make v.2 s1).bind fun x132 =>
        l_L_isSwept_138 v0 FU (v.1, x132) s1 0
      )
    )
def l_L_isSwept_33 (v0 : VRw) : Nat → (VC × VRw) → Int32 → Int32 → Option (Int32 × VC)
  | 0, _, _, _ => none
  | n + 1, v, s1, s9 =>
    if s9 < 10 then (
      (ard 10 v0.1 s9).bind fun x47 =>
      (aup 10 v.2.1 s9 x47).bind fun x48 =>
      l_L_isSwept_33 v0 n (v.1, (x48, v.2.2)) s1 (s9 + 1)
    ) else (
      l_L_isSwept_58 v0 FU v s1 0
    )
def f_L_isSwept_i (v : (VC × VRw)) (v0 : VRw) (a1 : Int32) : Option (Int32 × VC) :=
  l_L_isSwept_33 v0 FU v a1 0
def b_L_isChange_177 (u : VC) (v0 : VRw) (K37 : (Nat → Int32) → Int32 → Int32 → Int32 → Option Int32) (v : (Nat → Int32)) (s3 : Int32) (s5 : Int32) (s9 : Int32) (t0 : Int32) : Option Int32 :=
  if s3 < s9 then (
    K37 v s9 t0 (s5 + 1)
  ) else (
    K37 v s3 t0 (s5 + 1)
  )
def b_L_isChange_162 (u : VC) (v0 : VRw) (K37 : (Nat → Int32) → Int32 → Int32 → Int32 → Option Int32) (v : (Nat → Int32)) (s3 : Int32) (s4 : Int32) (s5 : Int32) (t0 : Int32) : Option Int32 :=
  if s3 < t0 then (
    b_L_isChange_177 u v0 K37 v s3 s5 t0 s5
  ) else (
    b_L_isChange_177 u v0 K37 v s3 s5 t0 s4
  )
def l_L_isChange_69 (u : VC) (v0 : VRw) (K37 : (Nat → Int32) → Int32 → Int32 → Int32 → Option Int32) : Nat → (Nat → Int32) → Int32 → Int32 → Int32 → Int32 → Int32 → Int32 → Option Int32
  | 0, _, _, _, _, _, _, _ => none
  | n + 1, v, s3, s4, s5, s6, s7, s8 =>
    if s8 < 4 then (
      (ard 32 v0.2.1 ((8 * s8) + 3)).bind fun x86 =>
      if x86 = 0 then (
        (ard 32 v0.2.1 (8 * s8)).bind fun x96 =>
        (aup 4 v s8 x96).bind fun x101 =>
        l_L_isChange_69 u v0 K37 n x101 s3 s4 s5 s6 s7 (s8 + 1)
      ) else (
        (aup 4 v s8 0).bind fun x101 =>
        l_L_isChange_69 u v0 K37 n x101 s3 s4 s5 s6 s7 (s8 + 1)
      )
    ) else (
      (ard 4 v s6).bind fun x111 =>
      (ard 4 v s7).bind fun x120 =>
      (aup 4 v s6 x120).bind fun x121 =>
      (aup 4 x121 s7 x111).bind fun x127 =>
      (ard 4 x127 0).bind fun x130 =>
      (ard 4 x127 1).bind fun x133 =>
      (ard 4 x127 2).bind fun x137 =>
      (ard 4 x127 3).bind fun x140 =>
      if (x130 + x133) < (x137 + x140) then (
        (ard 4 x127 0).bind fun x147 =>
        (ard 4 x127 1).bind fun x150 =>
        b_L_isChange_162 u v0 K37 x127 s3 s4 s5 (x147 + x150)
      ) else (
        (ard 4 x127 2).bind fun x157 =>
        (ard 4 x127 3).bind fun x160 =>
        b_L_isChange_162 u v0 K37 x127 s3 s4 s5 (x157 + x160)
      )
    )
def l_L_isChange_37 (u : VC) (v0 : VRw) : Nat → (Nat → Int32) → Int32 → Int32 → Int32 → Option Int32
  | 0, _, _, _, _ => none
  | n + 1, v, s3, s4, s5 =>
    if s5 < 12 then (
      if (s5 / 4) < (s5 - s5 / 4 * 4) then (
        l_L_isChange_69 u v0 (l_L_isChange_37 u v0 n) FU v s3 s4 s5 (s5 / 4) (s5 - s5 / 4 * 4) 0
      ) else (
        l_L_isChange_37 u v0 n v s3 s4 (s5 + 1)
      )
    ) else (
      (f_X5_bestChange u).bind fun x199 =>
      if x199 = s4 then (
        some 1
      ) else (
        some 0
      )
    )
def f_L_isChange_i (v : (Nat → Int32)) (u : VC) (v0 : VRw) : Option Int32 :=
  (f_L_good 32 v0.2.1 0).bind fun x6 =>
  (f_L_good 32 v0.2.1 1).bind fun x11 =>
  if x6 < x11 then (
    (f_L_good 32 v0.2.1 0).bind fun x19 =>
    l_L_isChange_37 u v0 FU v x19 (-1) 1
  ) else (
    (f_L_good 32 v0.2.1 1).bind fun x27 =>
    l_L_isChange_37 u v0 FU v x27 (-1) 1
  )
set_option maxRecDepth 100000 in
set_option maxHeartbeats 4000000 in
theorem wb_L_isSwept_171 {G : GG} {X : WX} {Q : (Int32 × VC) → State → Prop} {w : VW} (hN : 124 ≤ nG G) (C : Cx G 10 X RL cL_isSwept 9) (hr : (xM X).sig.returnType = (some .boolean)) (v0 : VRw) (hE : ∀ (x : Int32) (v : (VC × VRw)) (p : Nat) (L : List (Nat × Value)), decode cL_isSwept p = .ok (.ireturn, 1) → narrow .boolean (.int x) = .int x → JS G 10 X Q (some (x, v.1)) (v.1, sRw (sRw w 0 v0) 5 v.2) p L [.int x]) (K138 : (VC × VRw) → Int32 → Int32 → Option (Int32 × VC)) (hK138 : ∀ (v : (VC × VRw)) (s1 : Int32) (s9 : Int32), JS G 10 X Q (K138 v s1 s9) (v.1, sRw (sRw w 0 v0) 5 v.2) 138 [(0, .ref (G.2.2 0)), (1, .int s1), (2, .ref (G.2.2 (114 + 0))), (4, .ref (G.2.2 (114 + 5))), (5, .ref (G.2.2 (114 + (1 + 5)))), (6, .ref (G.2.2 (114 + (2 + 5)))), (7, .ref (G.2.2 (114 + (3 + 5)))), (9, .int s9)] []) (v : (VC × VRw)) (s1 : Int32) (s9 : Int32) (t0 : Int32) (t1 : Int32) : JS G 10 X Q (b_L_isSwept_171 v0 K138 v s1 s9 t0 t1) (v.1, sRw (sRw w 0 v0) 5 v.2) 171 [(0, .ref (G.2.2 0)), (1, .int s1), (2, .ref (G.2.2 (114 + 0))), (4, .ref (G.2.2 (114 + 5))), (5, .ref (G.2.2 (114 + (1 + 5)))), (6, .ref (G.2.2 (114 + (2 + 5)))), (7, .ref (G.2.2 (114 + (3 + 5)))), (9, .int s9)] [.int t0, .int t1, .ref (G.2.2 (114 + (3 + 5))), .ref (G.2.2 (114 + (2 + 5))), .ref (G.2.2 (114 + (1 + 5))), .ref (G.2.2 (114 + 5))] := by
  unfold b_L_isSwept_171
  refine j_bind (fun x171 h171 => ?_)
  refine j_callS_v (As := [.ref (G.2.2 (114 + 5)), .ref (G.2.2 (114 + (1 + 5))), .ref (G.2.2 (114 + (2 + 5))), .ref (G.2.2 (114 + (3 + 5))), .int t1, .int t0]) (st := []) C k_L_reads 171 (c_L_reads C.2.2.2.2.2.2.1 (c := v.1) (w := (sRw w 0 v0)) (k := 5) hN v.2 _ _ h171) rfl ml_L_116 st_L_reads dL_isSwept_171 (by decide) rfl (Nat.le_of_ble_eq_true rfl) ?_ rfl
  refine j_V (V' := (v.1, sRw (sRw w 0 v0) 5 x171)) rfl ?_
  refine j_iload C 174 7 rfl dL_isSwept_174 ?_
  refine j_iload C 176 7 rfl dL_isSwept_176 ?_
  refine j_aload C 178 3 rfl dL_isSwept_178 ?_
  refine j_iconst (v := 1) C 180 dL_isSwept_180 rfl ?_
  refine j_bind (fun x181 h181 => ?_)
  refine l_Rw0 C (k := 5) hN (sRw w 0 v0) x171 181 h181 dL_isSwept_181 ?_
  refine j_icmp_ge C 182 189 dL_isSwept_182 (by decide) (fun c182 => ?_) (fun c182 => ?_)
  · refine j_iconst (v := 2) C 185 dL_isSwept_185 rfl ?_
    refine j_goto C 186 190 dL_isSwept_186 (by decide) ?_
    refine j_iadd C 190 dL_isSwept_190 ?_
    refine j_istore (L1 := [(9, .int (s9 + 2)), (0, .ref (G.2.2 0)), (1, .int s1), (2, .ref (G.2.2 (114 + 0))), (4, .ref (G.2.2 (114 + 5))), (5, .ref (G.2.2 (114 + (1 + 5)))), (6, .ref (G.2.2 (114 + (2 + 5)))), (7, .ref (G.2.2 (114 + (3 + 5))))]) C 191 dL_isSwept_191 (by decide) rfl ?_
    refine j_goto C 193 138 dL_isSwept_193 (by decide) ?_
    refine j_L (L' := [(0, .ref (G.2.2 0)), (1, .int s1), (2, .ref (G.2.2 (114 + 0))), (4, .ref (G.2.2 (114 + 5))), (5, .ref (G.2.2 (114 + (1 + 5)))), (6, .ref (G.2.2 (114 + (2 + 5)))), (7, .ref (G.2.2 (114 + (3 + 5)))), (9, .int (s9 + 2))]) [1, 2, 3, 4, 5, 6, 7, 0] rfl ?_
    exact hK138 (v.1, x171) s1 (s9 + 2)
  · refine j_iconst (v := 1) C 189 dL_isSwept_189 rfl ?_
    refine j_iadd C 190 dL_isSwept_190 ?_
    refine j_istore (L1 := [(9, .int (s9 + 1)), (0, .ref (G.2.2 0)), (1, .int s1), (2, .ref (G.2.2 (114 + 0))), (4, .ref (G.2.2 (114 + 5))), (5, .ref (G.2.2 (114 + (1 + 5)))), (6, .ref (G.2.2 (114 + (2 + 5)))), (7, .ref (G.2.2 (114 + (3 + 5))))]) C 191 dL_isSwept_191 (by decide) rfl ?_
    refine j_goto C 193 138 dL_isSwept_193 (by decide) ?_
    refine j_L (L' := [(0, .ref (G.2.2 0)), (1, .int s1), (2, .ref (G.2.2 (114 + 0))), (4, .ref (G.2.2 (114 + 5))), (5, .ref (G.2.2 (114 + (1 + 5)))), (6, .ref (G.2.2 (114 + (2 + 5)))), (7, .ref (G.2.2 (114 + (3 + 5)))), (9, .int (s9 + 1))]) [1, 2, 3, 4, 5, 6, 7, 0] rfl ?_
    exact hK138 (v.1, x171) s1 (s9 + 1)
set_option maxRecDepth 100000 in
set_option maxHeartbeats 4000000 in
theorem wl_L_isSwept_138 {G : GG} {X : WX} {Q : (Int32 × VC) → State → Prop} {w : VW} (hN : 124 ≤ nG G) (C : Cx G 10 X RL cL_isSwept 9) (hr : (xM X).sig.returnType = (some .boolean)) (v0 : VRw) (hE : ∀ (x : Int32) (v : (VC × VRw)) (p : Nat) (L : List (Nat × Value)), decode cL_isSwept p = .ok (.ireturn, 1) → narrow .boolean (.int x) = .int x → JS G 10 X Q (some (x, v.1)) (v.1, sRw (sRw w 0 v0) 5 v.2) p L [.int x]) : ∀ (n : Nat) (v : (VC × VRw)) (s1 : Int32) (s9 : Int32), JS G 10 X Q (l_L_isSwept_138 v0 n v s1 s9) (v.1, sRw (sRw w 0 v0) 5 v.2) 138 [(0, .ref (G.2.2 0)), (1, .int s1), (2, .ref (G.2.2 (114 + 0))), (4, .ref (G.2.2 (114 + 5))), (5, .ref (G.2.2 (114 + (1 + 5)))), (6, .ref (G.2.2 (114 + (2 + 5)))), (7, .ref (G.2.2 (114 + (3 + 5)))), (9, .int s9)] [] := by
  intro n
  induction n with
  | zero => intro _ _ _; exact j_none
  | succ n ih =>
    intro v s1 s9
    unfold l_L_isSwept_138
    refine j_iload C 138 7 rfl dL_isSwept_138 ?_
    refine j_aload C 140 3 rfl dL_isSwept_140 ?_
    refine j_iconst (v := 0) C 142 dL_isSwept_142 rfl ?_
    refine j_bind (fun x143 h143 => ?_)
    refine l_Rw0 C (k := 5) hN (sRw w 0 v0) v.2 143 h143 dL_isSwept_143 ?_
    refine j_icmp_ge C 144 196 dL_isSwept_144 (by decide) (fun c144 => ?_) (fun c144 => ?_)
    · refine j_aload C 147 3 rfl dL_isSwept_147 ?_
      refine j_aload C 149 4 rfl dL_isSwept_149 ?_
      refine j_aload C 151 5 rfl dL_isSwept_151 ?_
      refine j_aload C 153 6 rfl dL_isSwept_153 ?_
      refine j_iload C 155 7 rfl dL_isSwept_155 ?_
      refine j_iload C 157 7 rfl dL_isSwept_157 ?_
      refine j_aload C 159 3 rfl dL_isSwept_159 ?_
      refine j_iconst (v := 1) C 161 dL_isSwept_161 rfl ?_
      refine j_bind (fun x162 h162 => ?_)
      refine l_Rw0 C (k := 5) hN (sRw w 0 v0) v.2 162 h162 dL_isSwept_162 ?_
      refine j_icmp_ge C 163 170 dL_isSwept_163 (by decide) (fun c163 => ?_) (fun c163 => ?_)
      · refine j_iconst (v := 1) C 166 dL_isSwept_166 rfl ?_
        refine j_goto C 167 171 dL_isSwept_167 (by decide) ?_
        exact wb_L_isSwept_171 hN C hr v0 hE _ ih v s1 s9 1 s9
      · refine j_iconst (v := 0) C 170 dL_isSwept_170 rfl ?_
        exact wb_L_isSwept_171 hN C hr v0 hE _ ih v s1 s9 0 s9
    · refine j_aload_n C 196 0 rfl dL_isSwept_196 ?_
      refine j_iload_n C 197 1 rfl dL_isSwept_197 ?_
      refine j_bind (fun x198 h198 => ?_)
      refine j_vSp_i (As := [.int s1]) (st := []) C k_X5_sweep 198 (cn_X5_sweep C.2.2.2.2.2.2.1 _ _ (nth_in h198)) rfl rfl ml_L_124 ii_X5_sweep is_X5_sweep dL_isSwept_198 (by decide) rfl (Nat.le_of_ble_eq_true rfl) ?_ rfl
      refine j_V (V' := (x198.2, sRw (sRw w 0 v0) 5 v.2)) rfl ?_
      refine j_aload C 201 3 rfl dL_isSwept_201 ?_
      refine j_iconst (v := 2) C 203 dL_isSwept_203 rfl ?_
      refine j_bind (fun x204 h204 => ?_)
      refine l_Rw0 C (k := 5) hN (sRw w 0 v0) v.2 204 h204 dL_isSwept_204 ?_
      refine j_aload_n C 205 2 rfl dL_isSwept_205 ?_
      refine j_iconst (v := 2) C 206 dL_isSwept_206 rfl ?_
      refine j_bind (fun x207 h207 => ?_)
      refine j_iald C 207 (114 + 0) (nG_lt C.2.2.2.2.2.2.1 (by omega)) rfl (by rw [at_rw]; rfl) h207 dL_isSwept_207 ?_
      refine j_isub C 208 dL_isSwept_208 ?_
      refine j_icmp_ne C 209 242 dL_isSwept_209 (by decide) (fun c209 => ?_) (fun c209 => ?_)
      · refine j_aload_n C 212 0 rfl dL_isSwept_212 ?_
        refine j_iload_n C 213 1 rfl dL_isSwept_213 ?_
        refine j_iconst (v := 0) C 214 dL_isSwept_214 rfl ?_
        refine j_bind (fun x215 h215 => ?_)
        refine j_vSp_i (As := [.int s1, .int 0]) (st := []) C k_X5_ifStarted 215 (cn_X5_ifStarted C.2.2.2.2.2.2.1 _ _ _ (nth_in h215)) rfl rfl ml_L_127 ii_X5_ifStarted is_X5_ifStarted dL_isSwept_215 (by decide) rfl (Nat.le_of_ble_eq_true rfl) ?_ rfl
        refine j_V (V' := (x215.2, sRw (sRw w 0 v0) 5 v.2)) rfl ?_
        refine j_aload C 218 3 rfl dL_isSwept_218 ?_
        refine j_iconst (v := 0) C 220 dL_isSwept_220 rfl ?_
        refine j_bind (fun x221 h221 => ?_)
        refine l_Rw0 C (k := 5) hN (sRw w 0 v0) v.2 221 h221 dL_isSwept_221 ?_
        refine j_icmp_ne C 222 242 dL_isSwept_222 (by decide) (fun c222 => ?_) (fun c222 => ?_)
        · refine j_aload_n C 225 0 rfl dL_isSwept_225 ?_
          refine j_iload_n C 226 1 rfl dL_isSwept_226 ?_
          refine j_iconst (v := 1) C 227 dL_isSwept_227 rfl ?_
          refine j_bind (fun x228 h228 => ?_)
          refine j_vSp_i (As := [.int s1, .int 1]) (st := []) C k_X5_ifStarted 228 (cn_X5_ifStarted C.2.2.2.2.2.2.1 _ _ _ (nth_in h228)) rfl rfl ml_L_127 ii_X5_ifStarted is_X5_ifStarted dL_isSwept_228 (by decide) rfl (Nat.le_of_ble_eq_true rfl) ?_ rfl
          refine j_V (V' := (x228.2, sRw (sRw w 0 v0) 5 v.2)) rfl ?_
          refine j_aload C 231 3 rfl dL_isSwept_231 ?_
          refine j_iconst (v := 1) C 233 dL_isSwept_233 rfl ?_
          refine j_bind (fun x234 h234 => ?_)
          refine l_Rw0 C (k := 5) hN (sRw w 0 v0) v.2 234 h234 dL_isSwept_234 ?_
          refine j_icmp_ne C 235 242 dL_isSwept_235 (by decide) (fun c235 => ?_) (fun c235 => ?_)
          · refine j_iconst (v := 1) C 238 dL_isSwept_238 rfl ?_
            refine j_goto C 239 243 dL_isSwept_239 (by decide) ?_
            exact hE 1 (x228.2, v.2) 243 _ dL_isSwept_243 rfl
          · refine j_iconst (v := 0) C 242 dL_isSwept_242 rfl ?_
            exact hE 0 (x228.2, v.2) 243 _ dL_isSwept_243 rfl
        · refine j_iconst (v := 0) C 242 dL_isSwept_242 rfl ?_
          exact hE 0 (x215.2, v.2) 243 _ dL_isSwept_243 rfl
      · refine j_iconst (v := 0) C 242 dL_isSwept_242 rfl ?_
        exact hE 0 (x198.2, v.2) 243 _ dL_isSwept_243 rfl
set_option maxRecDepth 100000 in
set_option maxHeartbeats 4000000 in
theorem wl_L_isSwept_58 {G : GG} {X : WX} {Q : (Int32 × VC) → State → Prop} {w : VW} (hN : 124 ≤ nG G) (C : Cx G 10 X RL cL_isSwept 9) (hr : (xM X).sig.returnType = (some .boolean)) (v0 : VRw) (hE : ∀ (x : Int32) (v : (VC × VRw)) (p : Nat) (L : List (Nat × Value)), decode cL_isSwept p = .ok (.ireturn, 1) → narrow .boolean (.int x) = .int x → JS G 10 X Q (some (x, v.1)) (v.1, sRw (sRw w 0 v0) 5 v.2) p L [.int x]) : ∀ (n : Nat) (v : (VC × VRw)) (s1 : Int32) (s9 : Int32), JS G 10 X Q (l_L_isSwept_58 v0 n v s1 s9) (v.1, sRw (sRw w 0 v0) 5 v.2) 58 [(0, .ref (G.2.2 0)), (1, .int s1), (2, .ref (G.2.2 (114 + 0))), (3, .ref (G.2.2 (114 + (1 + 0)))), (4, .ref (G.2.2 (114 + 5))), (5, .ref (G.2.2 (114 + (1 + 5)))), (6, .ref (G.2.2 (114 + (2 + 5)))), (7, .ref (G.2.2 (114 + (3 + 5)))), (8, .ref (G.2.2 (114 + (4 + 5)))), (9, .int s9)] [] := by
  intro n
  induction n with
  | zero => intro _ _ _; exact j_none
  | succ n ih =>
    intro v s1 s9
    unfold l_L_isSwept_58
    refine j_iload C 58 9 rfl dL_isSwept_58 ?_
    refine j_bipush (v := 32) C 60 dL_isSwept_60 rfl ?_
    refine j_icmp_ge C 62 80 dL_isSwept_62 (by decide) (fun c62 => ?_) (fun c62 => ?_)
    · refine j_aload C 65 5 rfl dL_isSwept_65 ?_
      refine j_iload C 67 9 rfl dL_isSwept_67 ?_
      refine j_aload_n C 69 3 rfl dL_isSwept_69 ?_
      refine j_iload C 70 9 rfl dL_isSwept_70 ?_
      refine j_bind (fun x72 h72 => ?_)
      refine j_iald C 72 (114 + (1 + 0)) (nG_lt C.2.2.2.2.2.2.1 (by omega)) rfl (by rw [at_rw]; rfl) h72 dL_isSwept_72 ?_
      refine j_bind (fun x73 h73 => ?_)
      refine t_Rw1 C (k := 5) hN (sRw w 0 v0) v.2 73 h73 dL_isSwept_73 ?_
      refine j_V (V' := (v.1, sRw (sRw w 0 v0) 5 (v.2.1, x73, v.2.2.2))) rfl ?_
      refine j_iinc (v := (s9 + 1)) (L1 := [(9, .int (s9 + 1)), (0, .ref (G.2.2 0)), (1, .int s1), (2, .ref (G.2.2 (114 + 0))), (3, .ref (G.2.2 (114 + (1 + 0)))), (4, .ref (G.2.2 (114 + 5))), (5, .ref (G.2.2 (114 + (1 + 5)))), (6, .ref (G.2.2 (114 + (2 + 5)))), (7, .ref (G.2.2 (114 + (3 + 5)))), (8, .ref (G.2.2 (114 + (4 + 5))))]) C 74 9 rfl dL_isSwept_74 rfl (by decide) rfl ?_
      refine j_goto C 77 58 dL_isSwept_77 (by decide) ?_
      refine j_L (L' := [(0, .ref (G.2.2 0)), (1, .int s1), (2, .ref (G.2.2 (114 + 0))), (3, .ref (G.2.2 (114 + (1 + 0)))), (4, .ref (G.2.2 (114 + 5))), (5, .ref (G.2.2 (114 + (1 + 5)))), (6, .ref (G.2.2 (114 + (2 + 5)))), (7, .ref (G.2.2 (114 + (3 + 5)))), (8, .ref (G.2.2 (114 + (4 + 5)))), (9, .int (s9 + 1))]) [1, 2, 3, 4, 5, 6, 7, 8, 9, 0] rfl ?_
      exact ih (v.1, (v.2.1, x73, v.2.2.2)) s1 (s9 + 1)
    · refine j_aload_n C 80 3 rfl dL_isSwept_80 ?_
      refine j_iload_n C 81 1 rfl dL_isSwept_81 ?_
      refine j_bind (fun x82 h82 => ?_)
      refine j_callS_i (As := [.ref (G.2.2 (114 + (1 + 0))), .int s1]) (st := []) C k_L_why 82 (c_L_why C.2.2.2.2.2.2.1 (c := v.1) (w := (sRw (sRw w 0 v0) 5 v.2)) _ _ (114 + (1 + 0)) (nG_lt C.2.2.2.2.2.2.1 (by omega)) (by rw [at_rw]; rfl) _ h82) rfl ml_L_95 st_L_why dL_isSwept_82 (by decide) rfl (Nat.le_of_ble_eq_true rfl) ?_ rfl
      refine j_if_le C 85 121 dL_isSwept_85 (by decide) (fun c85 => ?_) (fun c85 => ?_)
      · refine j_aload_n C 88 0 rfl dL_isSwept_88 ?_
        refine j_iload_n C 89 1 rfl dL_isSwept_89 ?_
        refine j_bind (fun x90 h90 => ?_)
        refine j_vSp_i (As := [.int s1]) (st := []) C k_X5_sweep 90 (cn_X5_sweep C.2.2.2.2.2.2.1 _ _ (nth_in h90)) rfl rfl ml_L_124 ii_X5_sweep is_X5_sweep dL_isSwept_90 (by decide) rfl (Nat.le_of_ble_eq_true rfl) ?_ rfl
        refine j_V (V' := (x90.2, sRw (sRw w 0 v0) 5 v.2)) rfl ?_
        refine j_iconst (v := (-1)) C 93 dL_isSwept_93 rfl ?_
        refine j_icmp_ne C 94 119 dL_isSwept_94 (by decide) (fun c94 => ?_) (fun c94 => ?_)
        · refine j_aload_n C 97 0 rfl dL_isSwept_97 ?_
          refine j_iload_n C 98 1 rfl dL_isSwept_98 ?_
          refine j_iconst (v := 0) C 99 dL_isSwept_99 rfl ?_
          refine j_bind (fun x100 h100 => ?_)
          refine j_vSp_i (As := [.int s1, .int 0]) (st := []) C k_X5_ifStarted 100 (cn_X5_ifStarted C.2.2.2.2.2.2.1 _ _ _ (nth_in h100)) rfl rfl ml_L_127 ii_X5_ifStarted is_X5_ifStarted dL_isSwept_100 (by decide) rfl (Nat.le_of_ble_eq_true rfl) ?_ rfl
          refine j_V (V' := (x100.2, sRw (sRw w 0 v0) 5 v.2)) rfl ?_
          refine j_if_ne C 103 119 dL_isSwept_103 (by decide) (fun c103 => ?_) (fun c103 => ?_)
          · refine j_aload_n C 106 0 rfl dL_isSwept_106 ?_
            refine j_iload_n C 107 1 rfl dL_isSwept_107 ?_
            refine j_iconst (v := 1) C 108 dL_isSwept_108 rfl ?_
            refine j_bind (fun x109 h109 => ?_)
            refine j_vSp_i (As := [.int s1, .int 1]) (st := []) C k_X5_ifStarted 109 (cn_X5_ifStarted C.2.2.2.2.2.2.1 _ _ _ (nth_in h109)) rfl rfl ml_L_127 ii_X5_ifStarted is_X5_ifStarted dL_isSwept_109 (by decide) rfl (Nat.le_of_ble_eq_true rfl) ?_ rfl
            refine j_V (V' := (x109.2, sRw (sRw w 0 v0) 5 v.2)) rfl ?_
            refine j_if_ne C 112 119 dL_isSwept_112 (by decide) (fun c112 => ?_) (fun c112 => ?_)
            · refine j_iconst (v := 1) C 115 dL_isSwept_115 rfl ?_
              refine j_goto C 116 120 dL_isSwept_116 (by decide) ?_
              exact hE 1 (x109.2, v.2) 120 _ dL_isSwept_120 rfl
            · refine j_iconst (v := 0) C 119 dL_isSwept_119 rfl ?_
              exact hE 0 (x109.2, v.2) 120 _ dL_isSwept_120 rfl
          · refine j_iconst (v := 0) C 119 dL_isSwept_119 rfl ?_
            exact hE 0 (x100.2, v.2) 120 _ dL_isSwept_120 rfl
        · refine j_iconst (v := 0) C 119 dL_isSwept_119 rfl ?_
          exact hE 0 (x90.2, v.2) 120 _ dL_isSwept_120 rfl
      · refine j_aload C 121 4 rfl dL_isSwept_121 ?_
        refine j_aload C 123 5 rfl dL_isSwept_123 ?_
        refine j_aload C 125 6 rfl dL_isSwept_125 ?_
        refine j_aload C 127 7 rfl dL_isSwept_127 ?_
        refine j_aload C 129 8 rfl dL_isSwept_129 ?_
        refine j_iload_n C 131 1 rfl dL_isSwept_131 ?_
        refine j_bind (fun x132 h132 => ?_)
        refine j_callS_v (As := [.ref (G.2.2 (114 + 5)), .ref (G.2.2 (114 + (1 + 5))), .ref (G.2.2 (114 + (2 + 5))), .ref (G.2.2 (114 + (3 + 5))), .ref (G.2.2 (114 + (4 + 5))), .int s1]) (st := []) C k_L_make 132 (c_L_make C.2.2.2.2.2.2.1 (c := v.1) (w := (sRw w 0 v0)) (k := 5) hN v.2 _ h132) rfl ml_L_101 st_L_make dL_isSwept_132 (by decide) rfl (Nat.le_of_ble_eq_true rfl) ?_ rfl
        refine j_V (V' := (v.1, sRw (sRw w 0 v0) 5 x132)) rfl ?_
        refine j_iconst (v := 0) C 135 dL_isSwept_135 rfl ?_
        refine j_istore (L1 := [(9, .int 0), (0, .ref (G.2.2 0)), (1, .int s1), (2, .ref (G.2.2 (114 + 0))), (3, .ref (G.2.2 (114 + (1 + 0)))), (4, .ref (G.2.2 (114 + 5))), (5, .ref (G.2.2 (114 + (1 + 5)))), (6, .ref (G.2.2 (114 + (2 + 5)))), (7, .ref (G.2.2 (114 + (3 + 5)))), (8, .ref (G.2.2 (114 + (4 + 5))))]) C 136 dL_isSwept_136 (by decide) rfl ?_
        refine j_L (L' := [(0, .ref (G.2.2 0)), (1, .int s1), (2, .ref (G.2.2 (114 + 0))), (4, .ref (G.2.2 (114 + 5))), (5, .ref (G.2.2 (114 + (1 + 5)))), (6, .ref (G.2.2 (114 + (2 + 5)))), (7, .ref (G.2.2 (114 + (3 + 5)))), (9, .int 0)]) [1, 2, 3, 5, 6, 7, 8, 0] rfl ?_
        exact wl_L_isSwept_138 hN C hr v0 hE FU (v.1, x132) s1 0
set_option maxRecDepth 100000 in
set_option maxHeartbeats 4000000 in
theorem wl_L_isSwept_33 {G : GG} {X : WX} {Q : (Int32 × VC) → State → Prop} {w : VW} (hN : 124 ≤ nG G) (C : Cx G 10 X RL cL_isSwept 9) (hr : (xM X).sig.returnType = (some .boolean)) (v0 : VRw) (hE : ∀ (x : Int32) (v : (VC × VRw)) (p : Nat) (L : List (Nat × Value)), decode cL_isSwept p = .ok (.ireturn, 1) → narrow .boolean (.int x) = .int x → JS G 10 X Q (some (x, v.1)) (v.1, sRw (sRw w 0 v0) 5 v.2) p L [.int x]) : ∀ (n : Nat) (v : (VC × VRw)) (s1 : Int32) (s9 : Int32), JS G 10 X Q (l_L_isSwept_33 v0 n v s1 s9) (v.1, sRw (sRw w 0 v0) 5 v.2) 33 [(0, .ref (G.2.2 0)), (1, .int s1), (2, .ref (G.2.2 (114 + 0))), (3, .ref (G.2.2 (114 + (1 + 0)))), (4, .ref (G.2.2 (114 + 5))), (5, .ref (G.2.2 (114 + (1 + 5)))), (6, .ref (G.2.2 (114 + (2 + 5)))), (7, .ref (G.2.2 (114 + (3 + 5)))), (8, .ref (G.2.2 (114 + (4 + 5)))), (9, .int s9)] [] := by
  intro n
  induction n with
  | zero => intro _ _ _; exact j_none
  | succ n ih =>
    intro v s1 s9
    unfold l_L_isSwept_33
    refine j_iload C 33 9 rfl dL_isSwept_33 ?_
    refine j_bipush (v := 10) C 35 dL_isSwept_35 rfl ?_
    refine j_icmp_ge C 37 55 dL_isSwept_37 (by decide) (fun c37 => ?_) (fun c37 => ?_)
    · refine j_aload C 40 4 rfl dL_isSwept_40 ?_
      refine j_iload C 42 9 rfl dL_isSwept_42 ?_
      refine j_aload_n C 44 2 rfl dL_isSwept_44 ?_
      refine j_iload C 45 9 rfl dL_isSwept_45 ?_
      refine j_bind (fun x47 h47 => ?_)
      refine j_iald C 47 (114 + 0) (nG_lt C.2.2.2.2.2.2.1 (by omega)) rfl (by rw [at_rw]; rfl) h47 dL_isSwept_47 ?_
      refine j_bind (fun x48 h48 => ?_)
      refine t_Rw0 C (k := 5) hN (sRw w 0 v0) v.2 48 h48 dL_isSwept_48 ?_
      refine j_V (V' := (v.1, sRw (sRw w 0 v0) 5 (x48, v.2.2))) rfl ?_
      refine j_iinc (v := (s9 + 1)) (L1 := [(9, .int (s9 + 1)), (0, .ref (G.2.2 0)), (1, .int s1), (2, .ref (G.2.2 (114 + 0))), (3, .ref (G.2.2 (114 + (1 + 0)))), (4, .ref (G.2.2 (114 + 5))), (5, .ref (G.2.2 (114 + (1 + 5)))), (6, .ref (G.2.2 (114 + (2 + 5)))), (7, .ref (G.2.2 (114 + (3 + 5)))), (8, .ref (G.2.2 (114 + (4 + 5))))]) C 49 9 rfl dL_isSwept_49 rfl (by decide) rfl ?_
      refine j_goto C 52 33 dL_isSwept_52 (by decide) ?_
      refine j_L (L' := [(0, .ref (G.2.2 0)), (1, .int s1), (2, .ref (G.2.2 (114 + 0))), (3, .ref (G.2.2 (114 + (1 + 0)))), (4, .ref (G.2.2 (114 + 5))), (5, .ref (G.2.2 (114 + (1 + 5)))), (6, .ref (G.2.2 (114 + (2 + 5)))), (7, .ref (G.2.2 (114 + (3 + 5)))), (8, .ref (G.2.2 (114 + (4 + 5)))), (9, .int (s9 + 1))]) [1, 2, 3, 4, 5, 6, 7, 8, 9, 0] rfl ?_
      exact ih (v.1, (x48, v.2.2)) s1 (s9 + 1)
    · refine j_iconst (v := 0) C 55 dL_isSwept_55 rfl ?_
      refine j_istore (L1 := [(9, .int 0), (0, .ref (G.2.2 0)), (1, .int s1), (2, .ref (G.2.2 (114 + 0))), (3, .ref (G.2.2 (114 + (1 + 0)))), (4, .ref (G.2.2 (114 + 5))), (5, .ref (G.2.2 (114 + (1 + 5)))), (6, .ref (G.2.2 (114 + (2 + 5)))), (7, .ref (G.2.2 (114 + (3 + 5)))), (8, .ref (G.2.2 (114 + (4 + 5))))]) C 56 dL_isSwept_56 (by decide) rfl ?_
      refine j_L (L' := [(0, .ref (G.2.2 0)), (1, .int s1), (2, .ref (G.2.2 (114 + 0))), (3, .ref (G.2.2 (114 + (1 + 0)))), (4, .ref (G.2.2 (114 + 5))), (5, .ref (G.2.2 (114 + (1 + 5)))), (6, .ref (G.2.2 (114 + (2 + 5)))), (7, .ref (G.2.2 (114 + (3 + 5)))), (8, .ref (G.2.2 (114 + (4 + 5)))), (9, .int 0)]) [1, 2, 3, 4, 5, 6, 7, 8, 9, 0] rfl ?_
      exact wl_L_isSwept_58 hN C hr v0 hE FU v s1 0
set_option maxRecDepth 100000 in
set_option maxHeartbeats 4000000 in
theorem w_L_isSwept {G : GG} {X : WX} {Q : (Int32 × VC) → State → Prop} {w : VW} (hN : 124 ≤ nG G) (C : Cx G 10 X RL cL_isSwept 9) (hr : (xM X).sig.returnType = (some .boolean)) (v : (VC × VRw)) (v0 : VRw) (hE : ∀ (x : Int32) (v : (VC × VRw)) (p : Nat) (L : List (Nat × Value)), decode cL_isSwept p = .ok (.ireturn, 1) → narrow .boolean (.int x) = .int x → JS G 10 X Q (some (x, v.1)) (v.1, sRw (sRw w 0 v0) 5 v.2) p L [.int x]) (a1 : Int32) : JS G 10 X Q (f_L_isSwept_i v v0 a1) (v.1, sRw (sRw w 0 v0) 5 v.2) 30 [(0, .ref (G.2.2 0)), (1, .int a1), (2, .ref (G.2.2 (114 + 0))), (3, .ref (G.2.2 (114 + (1 + 0)))), (4, .ref (G.2.2 (114 + 5))), (5, .ref (G.2.2 (114 + (1 + 5)))), (6, .ref (G.2.2 (114 + (2 + 5)))), (7, .ref (G.2.2 (114 + (3 + 5)))), (8, .ref (G.2.2 (114 + (4 + 5))))] [] := by
  unfold f_L_isSwept_i
  refine j_iconst (v := 0) C 30 dL_isSwept_30 rfl ?_
  refine j_istore (L1 := [(9, .int 0), (0, .ref (G.2.2 0)), (1, .int a1), (2, .ref (G.2.2 (114 + 0))), (3, .ref (G.2.2 (114 + (1 + 0)))), (4, .ref (G.2.2 (114 + 5))), (5, .ref (G.2.2 (114 + (1 + 5)))), (6, .ref (G.2.2 (114 + (2 + 5)))), (7, .ref (G.2.2 (114 + (3 + 5)))), (8, .ref (G.2.2 (114 + (4 + 5))))]) C 31 dL_isSwept_31 (by decide) rfl ?_
  refine j_L (L' := [(0, .ref (G.2.2 0)), (1, .int a1), (2, .ref (G.2.2 (114 + 0))), (3, .ref (G.2.2 (114 + (1 + 0)))), (4, .ref (G.2.2 (114 + 5))), (5, .ref (G.2.2 (114 + (1 + 5)))), (6, .ref (G.2.2 (114 + (2 + 5)))), (7, .ref (G.2.2 (114 + (3 + 5)))), (8, .ref (G.2.2 (114 + (4 + 5)))), (9, .int 0)]) [1, 2, 3, 4, 5, 6, 7, 8, 9, 0] rfl ?_
  exact wl_L_isSwept_33 hN C hr v0 hE FU v a1 0
set_option maxRecDepth 100000 in
set_option maxHeartbeats 4000000 in
theorem wb_L_isChange_177 {G : GG} {X : WX} {Q : Int32 → State → Prop} {w : VW} (hN : 120 ≤ nG G) (C : Cx G 10 X RL cL_isChange 5) (hr : (xM X).sig.returnType = (some .boolean)) (u : VC) (v0 : VRw) (hE : ∀ (x : Int32) (v : Nat → Int32) (p : Nat) (L : List (Nat × Value)), decode cL_isChange p = .ok (.ireturn, 1) → narrow .boolean (.int x) = .int x → JS G 10 X Q (some x) (u, va_up (sRw w 0 v0) 5 (4, v)) p L [.int x]) (K37 : (Nat → Int32) → Int32 → Int32 → Int32 → Option Int32) (hK37 : ∀ (v : (Nat → Int32)) (s3 : Int32) (s4 : Int32) (s5 : Int32), JS G 10 X Q (K37 v s3 s4 s5) (u, va_up (sRw w 0 v0) 5 (4, v)) 37 [(0, .ref (G.2.2 0)), (1, .ref (G.2.2 (114 + (1 + 0)))), (2, .ref (G.2.2 119)), (3, .int s3), (4, .int s4), (5, .int s5)] []) (v : (Nat → Int32)) (s3 : Int32) (s5 : Int32) (s9 : Int32) (t0 : Int32) : JS G 10 X Q (b_L_isChange_177 u v0 K37 v s3 s5 s9 t0) (u, va_up (sRw w 0 v0) 5 (4, v)) 177 [(0, .ref (G.2.2 0)), (1, .ref (G.2.2 (114 + (1 + 0)))), (2, .ref (G.2.2 119)), (3, .int s3), (5, .int s5), (9, .int s9)] [.int t0] := by
  unfold b_L_isChange_177
  refine j_istore (L1 := [(4, .int t0), (0, .ref (G.2.2 0)), (1, .ref (G.2.2 (114 + (1 + 0)))), (2, .ref (G.2.2 119)), (3, .int s3), (5, .int s5), (9, .int s9)]) C 177 dL_isChange_177 (by decide) rfl ?_
  refine j_iload C 179 6 rfl dL_isChange_179 ?_
  refine j_iload_n C 181 4 rfl dL_isChange_181 ?_
  refine j_icmp_le C 182 190 dL_isChange_182 (by decide) (fun c182 => ?_) (fun c182 => ?_)
  · refine j_iload C 185 6 rfl dL_isChange_185 ?_
    refine j_goto C 187 191 dL_isChange_187 (by decide) ?_
    refine j_istore_n (L1 := [(3, .int s9), (4, .int t0), (0, .ref (G.2.2 0)), (1, .ref (G.2.2 (114 + (1 + 0)))), (2, .ref (G.2.2 119)), (5, .int s5), (9, .int s9)]) C 191 rfl dL_isChange_191 (by decide) rfl ?_
    refine j_iinc (v := (s5 + 1)) (L1 := [(5, .int (s5 + 1)), (3, .int s9), (4, .int t0), (0, .ref (G.2.2 0)), (1, .ref (G.2.2 (114 + (1 + 0)))), (2, .ref (G.2.2 119)), (9, .int s9)]) C 192 5 rfl dL_isChange_192 rfl (by decide) rfl ?_
    refine j_goto C 195 37 dL_isChange_195 (by decide) ?_
    refine j_L (L' := [(0, .ref (G.2.2 0)), (1, .ref (G.2.2 (114 + (1 + 0)))), (2, .ref (G.2.2 119)), (3, .int s9), (4, .int t0), (5, .int (s5 + 1))]) [3, 4, 5, 1, 2, 0] rfl ?_
    exact hK37 v s9 t0 (s5 + 1)
  · refine j_iload_n C 190 4 rfl dL_isChange_190 ?_
    refine j_istore_n (L1 := [(3, .int s3), (4, .int t0), (0, .ref (G.2.2 0)), (1, .ref (G.2.2 (114 + (1 + 0)))), (2, .ref (G.2.2 119)), (5, .int s5), (9, .int s9)]) C 191 rfl dL_isChange_191 (by decide) rfl ?_
    refine j_iinc (v := (s5 + 1)) (L1 := [(5, .int (s5 + 1)), (3, .int s3), (4, .int t0), (0, .ref (G.2.2 0)), (1, .ref (G.2.2 (114 + (1 + 0)))), (2, .ref (G.2.2 119)), (9, .int s9)]) C 192 5 rfl dL_isChange_192 rfl (by decide) rfl ?_
    refine j_goto C 195 37 dL_isChange_195 (by decide) ?_
    refine j_L (L' := [(0, .ref (G.2.2 0)), (1, .ref (G.2.2 (114 + (1 + 0)))), (2, .ref (G.2.2 119)), (3, .int s3), (4, .int t0), (5, .int (s5 + 1))]) [3, 4, 5, 1, 2, 0] rfl ?_
    exact hK37 v s3 t0 (s5 + 1)
set_option maxRecDepth 100000 in
set_option maxHeartbeats 4000000 in
theorem wb_L_isChange_162 {G : GG} {X : WX} {Q : Int32 → State → Prop} {w : VW} (hN : 120 ≤ nG G) (C : Cx G 10 X RL cL_isChange 5) (hr : (xM X).sig.returnType = (some .boolean)) (u : VC) (v0 : VRw) (hE : ∀ (x : Int32) (v : Nat → Int32) (p : Nat) (L : List (Nat × Value)), decode cL_isChange p = .ok (.ireturn, 1) → narrow .boolean (.int x) = .int x → JS G 10 X Q (some x) (u, va_up (sRw w 0 v0) 5 (4, v)) p L [.int x]) (K37 : (Nat → Int32) → Int32 → Int32 → Int32 → Option Int32) (hK37 : ∀ (v : (Nat → Int32)) (s3 : Int32) (s4 : Int32) (s5 : Int32), JS G 10 X Q (K37 v s3 s4 s5) (u, va_up (sRw w 0 v0) 5 (4, v)) 37 [(0, .ref (G.2.2 0)), (1, .ref (G.2.2 (114 + (1 + 0)))), (2, .ref (G.2.2 119)), (3, .int s3), (4, .int s4), (5, .int s5)] []) (v : (Nat → Int32)) (s3 : Int32) (s4 : Int32) (s5 : Int32) (t0 : Int32) : JS G 10 X Q (b_L_isChange_162 u v0 K37 v s3 s4 s5 t0) (u, va_up (sRw w 0 v0) 5 (4, v)) 162 [(0, .ref (G.2.2 0)), (1, .ref (G.2.2 (114 + (1 + 0)))), (2, .ref (G.2.2 119)), (3, .int s3), (4, .int s4), (5, .int s5)] [.int t0] := by
  unfold b_L_isChange_162
  refine j_istore (L1 := [(9, .int t0), (0, .ref (G.2.2 0)), (1, .ref (G.2.2 (114 + (1 + 0)))), (2, .ref (G.2.2 119)), (3, .int s3), (4, .int s4), (5, .int s5)]) C 162 dL_isChange_162 (by decide) rfl ?_
  refine j_iload C 164 0 rfl dL_isChange_164 ?_
  refine j_iload_n C 166 4 rfl dL_isChange_166 ?_
  refine j_icmp_le C 167 175 dL_isChange_167 (by decide) (fun c167 => ?_) (fun c167 => ?_)
  · refine j_iload C 170 6 rfl dL_isChange_170 ?_
    refine j_goto C 172 177 dL_isChange_172 (by decide) ?_
    refine j_L (L' := [(0, .ref (G.2.2 0)), (1, .ref (G.2.2 (114 + (1 + 0)))), (2, .ref (G.2.2 119)), (3, .int s3), (5, .int s5), (9, .int t0)]) [1, 2, 3, 4, 6, 0] rfl ?_
    exact wb_L_isChange_177 hN C hr u v0 hE _ hK37 v s3 s5 t0 s5
  · refine j_iload C 175 5 rfl dL_isChange_175 ?_
    refine j_L (L' := [(0, .ref (G.2.2 0)), (1, .ref (G.2.2 (114 + (1 + 0)))), (2, .ref (G.2.2 119)), (3, .int s3), (5, .int s5), (9, .int t0)]) [1, 2, 3, 4, 6, 0] rfl ?_
    exact wb_L_isChange_177 hN C hr u v0 hE _ hK37 v s3 s5 t0 s4
set_option maxRecDepth 100000 in
set_option maxHeartbeats 4000000 in
theorem wl_L_isChange_69 {G : GG} {X : WX} {Q : Int32 → State → Prop} {w : VW} (hN : 120 ≤ nG G) (C : Cx G 10 X RL cL_isChange 5) (hr : (xM X).sig.returnType = (some .boolean)) (u : VC) (v0 : VRw) (hE : ∀ (x : Int32) (v : Nat → Int32) (p : Nat) (L : List (Nat × Value)), decode cL_isChange p = .ok (.ireturn, 1) → narrow .boolean (.int x) = .int x → JS G 10 X Q (some x) (u, va_up (sRw w 0 v0) 5 (4, v)) p L [.int x]) (K37 : (Nat → Int32) → Int32 → Int32 → Int32 → Option Int32) (hK37 : ∀ (v : (Nat → Int32)) (s3 : Int32) (s4 : Int32) (s5 : Int32), JS G 10 X Q (K37 v s3 s4 s5) (u, va_up (sRw w 0 v0) 5 (4, v)) 37 [(0, .ref (G.2.2 0)), (1, .ref (G.2.2 (114 + (1 + 0)))), (2, .ref (G.2.2 119)), (3, .int s3), (4, .int s4), (5, .int s5)] []) : ∀ (n : Nat) (v : (Nat → Int32)) (s3 : Int32) (s4 : Int32) (s5 : Int32) (s6 : Int32) (s7 : Int32) (s8 : Int32), JS G 10 X Q (l_L_isChange_69 u v0 K37 n v s3 s4 s5 s6 s7 s8) (u, va_up (sRw w 0 v0) 5 (4, v)) 69 [(0, .ref (G.2.2 0)), (1, .ref (G.2.2 (114 + (1 + 0)))), (2, .ref (G.2.2 119)), (3, .int s3), (4, .int s4), (5, .int s5), (6, .int s6), (7, .int s7), (8, .int s8)] [] := by
  intro n
  induction n with
  | zero => intro _ _ _ _ _ _ _; exact j_none
  | succ n ih =>
    intro v s3 s4 s5 s6 s7 s8
    unfold l_L_isChange_69
    refine j_iload C 69 8 rfl dL_isChange_69 ?_
    refine j_iconst (v := 4) C 71 dL_isChange_71 rfl ?_
    refine j_icmp_ge C 72 108 dL_isChange_72 (by decide) (fun c72 => ?_) (fun c72 => ?_)
    · refine j_aload_n C 75 2 rfl dL_isChange_75 ?_
      refine j_iload C 76 8 rfl dL_isChange_76 ?_
      refine j_aload_n C 78 1 rfl dL_isChange_78 ?_
      refine j_bipush (v := 8) C 79 dL_isChange_79 rfl ?_
      refine j_iload C 81 8 rfl dL_isChange_81 ?_
      refine j_imul C 83 dL_isChange_83 ?_
      refine j_iconst (v := 3) C 84 dL_isChange_84 rfl ?_
      refine j_iadd C 85 dL_isChange_85 ?_
      refine j_bind (fun x86 h86 => ?_)
      refine j_iald C 86 (114 + (1 + 0)) (nG_lt C.2.2.2.2.2.2.1 (by omega)) rfl (by rw [at_rw]; rfl) h86 dL_isChange_86 ?_
      refine j_if_ne C 87 100 dL_isChange_87 (by decide) (fun c87 => ?_) (fun c87 => ?_)
      · refine j_aload_n C 90 1 rfl dL_isChange_90 ?_
        refine j_bipush (v := 8) C 91 dL_isChange_91 rfl ?_
        refine j_iload C 93 8 rfl dL_isChange_93 ?_
        refine j_imul C 95 dL_isChange_95 ?_
        refine j_bind (fun x96 h96 => ?_)
        refine j_iald C 96 (114 + (1 + 0)) (nG_lt C.2.2.2.2.2.2.1 (by omega)) rfl (by rw [at_rw]; rfl) h96 dL_isChange_96 ?_
        refine j_goto C 97 101 dL_isChange_97 (by decide) ?_
        refine j_bind (fun x101 h101 => ?_)
        refine t_Sz C hN (sRw w 0 v0) v 101 h101 dL_isChange_101 ?_
        refine j_V (V' := (u, va_up (sRw w 0 v0) 5 (4, x101))) rfl ?_
        refine j_iinc (v := (s8 + 1)) (L1 := [(8, .int (s8 + 1)), (0, .ref (G.2.2 0)), (1, .ref (G.2.2 (114 + (1 + 0)))), (2, .ref (G.2.2 119)), (3, .int s3), (4, .int s4), (5, .int s5), (6, .int s6), (7, .int s7)]) C 102 8 rfl dL_isChange_102 rfl (by decide) rfl ?_
        refine j_goto C 105 69 dL_isChange_105 (by decide) ?_
        refine j_L (L' := [(0, .ref (G.2.2 0)), (1, .ref (G.2.2 (114 + (1 + 0)))), (2, .ref (G.2.2 119)), (3, .int s3), (4, .int s4), (5, .int s5), (6, .int s6), (7, .int s7), (8, .int (s8 + 1))]) [1, 2, 3, 4, 5, 6, 7, 8, 0] rfl ?_
        exact ih x101 s3 s4 s5 s6 s7 (s8 + 1)
      · refine j_iconst (v := 0) C 100 dL_isChange_100 rfl ?_
        refine j_bind (fun x101 h101 => ?_)
        refine t_Sz C hN (sRw w 0 v0) v 101 h101 dL_isChange_101 ?_
        refine j_V (V' := (u, va_up (sRw w 0 v0) 5 (4, x101))) rfl ?_
        refine j_iinc (v := (s8 + 1)) (L1 := [(8, .int (s8 + 1)), (0, .ref (G.2.2 0)), (1, .ref (G.2.2 (114 + (1 + 0)))), (2, .ref (G.2.2 119)), (3, .int s3), (4, .int s4), (5, .int s5), (6, .int s6), (7, .int s7)]) C 102 8 rfl dL_isChange_102 rfl (by decide) rfl ?_
        refine j_goto C 105 69 dL_isChange_105 (by decide) ?_
        refine j_L (L' := [(0, .ref (G.2.2 0)), (1, .ref (G.2.2 (114 + (1 + 0)))), (2, .ref (G.2.2 119)), (3, .int s3), (4, .int s4), (5, .int s5), (6, .int s6), (7, .int s7), (8, .int (s8 + 1))]) [1, 2, 3, 4, 5, 6, 7, 8, 0] rfl ?_
        exact ih x101 s3 s4 s5 s6 s7 (s8 + 1)
    · refine j_aload_n C 108 2 rfl dL_isChange_108 ?_
      refine j_iload C 109 6 rfl dL_isChange_109 ?_
      refine j_bind (fun x111 h111 => ?_)
      refine l_Sz C hN (sRw w 0 v0) v 111 h111 dL_isChange_111 ?_
      refine j_istore (L1 := [(8, .int x111), (0, .ref (G.2.2 0)), (1, .ref (G.2.2 (114 + (1 + 0)))), (2, .ref (G.2.2 119)), (3, .int s3), (4, .int s4), (5, .int s5), (6, .int s6), (7, .int s7)]) C 112 dL_isChange_112 (by decide) rfl ?_
      refine j_aload_n C 114 3 rfl dL_isChange_114 ?_
      refine j_iload C 115 7 rfl dL_isChange_115 ?_
      refine j_aload_n C 117 3 rfl dL_isChange_117 ?_
      refine j_iload C 118 8 rfl dL_isChange_118 ?_
      refine j_bind (fun x120 h120 => ?_)
      refine l_Sz C hN (sRw w 0 v0) v 120 h120 dL_isChange_120 ?_
      refine j_bind (fun x121 h121 => ?_)
      refine t_Sz C hN (sRw w 0 v0) v 121 h121 dL_isChange_121 ?_
      refine j_V (V' := (u, va_up (sRw w 0 v0) 5 (4, x121))) rfl ?_
      refine j_aload_n C 122 3 rfl dL_isChange_122 ?_
      refine j_iload C 123 8 rfl dL_isChange_123 ?_
      refine j_iload C 125 0 rfl dL_isChange_125 ?_
      refine j_bind (fun x127 h127 => ?_)
      refine t_Sz C hN (sRw w 0 v0) x121 127 h127 dL_isChange_127 ?_
      refine j_V (V' := (u, va_up (sRw w 0 v0) 5 (4, x127))) rfl ?_
      refine j_aload_n C 128 3 rfl dL_isChange_128 ?_
      refine j_iconst (v := 0) C 129 dL_isChange_129 rfl ?_
      refine j_bind (fun x130 h130 => ?_)
      refine l_Sz C hN (sRw w 0 v0) x127 130 h130 dL_isChange_130 ?_
      refine j_aload_n C 131 3 rfl dL_isChange_131 ?_
      refine j_iconst (v := 1) C 132 dL_isChange_132 rfl ?_
      refine j_bind (fun x133 h133 => ?_)
      refine l_Sz C hN (sRw w 0 v0) x127 133 h133 dL_isChange_133 ?_
      refine j_iadd C 134 dL_isChange_134 ?_
      refine j_aload_n C 135 3 rfl dL_isChange_135 ?_
      refine j_iconst (v := 2) C 136 dL_isChange_136 rfl ?_
      refine j_bind (fun x137 h137 => ?_)
      refine l_Sz C hN (sRw w 0 v0) x127 137 h137 dL_isChange_137 ?_
      refine j_aload_n C 138 3 rfl dL_isChange_138 ?_
      refine j_iconst (v := 3) C 139 dL_isChange_139 rfl ?_
      refine j_bind (fun x140 h140 => ?_)
      refine l_Sz C hN (sRw w 0 v0) x127 140 h140 dL_isChange_140 ?_
      refine j_iadd C 141 dL_isChange_141 ?_
      refine j_icmp_ge C 142 155 dL_isChange_142 (by decide) (fun c142 => ?_) (fun c142 => ?_)
      · refine j_aload_n C 145 3 rfl dL_isChange_145 ?_
        refine j_iconst (v := 0) C 146 dL_isChange_146 rfl ?_
        refine j_bind (fun x147 h147 => ?_)
        refine l_Sz C hN (sRw w 0 v0) x127 147 h147 dL_isChange_147 ?_
        refine j_aload_n C 148 3 rfl dL_isChange_148 ?_
        refine j_iconst (v := 1) C 149 dL_isChange_149 rfl ?_
        refine j_bind (fun x150 h150 => ?_)
        refine l_Sz C hN (sRw w 0 v0) x127 150 h150 dL_isChange_150 ?_
        refine j_iadd C 151 dL_isChange_151 ?_
        refine j_goto C 152 162 dL_isChange_152 (by decide) ?_
        refine j_L (L' := [(0, .ref (G.2.2 0)), (1, .ref (G.2.2 (114 + (1 + 0)))), (2, .ref (G.2.2 119)), (3, .int s3), (4, .int s4), (5, .int s5)]) [1, 2, 3, 4, 5, 6] rfl ?_
        exact wb_L_isChange_162 hN C hr u v0 hE _ hK37 x127 s3 s4 s5 (x147 + x150)
      · refine j_aload_n C 155 3 rfl dL_isChange_155 ?_
        refine j_iconst (v := 2) C 156 dL_isChange_156 rfl ?_
        refine j_bind (fun x157 h157 => ?_)
        refine l_Sz C hN (sRw w 0 v0) x127 157 h157 dL_isChange_157 ?_
        refine j_aload_n C 158 3 rfl dL_isChange_158 ?_
        refine j_iconst (v := 3) C 159 dL_isChange_159 rfl ?_
        refine j_bind (fun x160 h160 => ?_)
        refine l_Sz C hN (sRw w 0 v0) x127 160 h160 dL_isChange_160 ?_
        refine j_iadd C 161 dL_isChange_161 ?_
        refine j_L (L' := [(0, .ref (G.2.2 0)), (1, .ref (G.2.2 (114 + (1 + 0)))), (2, .ref (G.2.2 119)), (3, .int s3), (4, .int s4), (5, .int s5)]) [1, 2, 3, 4, 5, 6] rfl ?_
        exact wb_L_isChange_162 hN C hr u v0 hE _ hK37 x127 s3 s4 s5 (x157 + x160)
set_option maxRecDepth 100000 in
set_option maxHeartbeats 4000000 in
theorem wl_L_isChange_37 {G : GG} {X : WX} {Q : Int32 → State → Prop} {w : VW} (hN : 120 ≤ nG G) (C : Cx G 10 X RL cL_isChange 5) (hr : (xM X).sig.returnType = (some .boolean)) (u : VC) (v0 : VRw) (hE : ∀ (x : Int32) (v : Nat → Int32) (p : Nat) (L : List (Nat × Value)), decode cL_isChange p = .ok (.ireturn, 1) → narrow .boolean (.int x) = .int x → JS G 10 X Q (some x) (u, va_up (sRw w 0 v0) 5 (4, v)) p L [.int x]) : ∀ (n : Nat) (v : (Nat → Int32)) (s3 : Int32) (s4 : Int32) (s5 : Int32), JS G 10 X Q (l_L_isChange_37 u v0 n v s3 s4 s5) (u, va_up (sRw w 0 v0) 5 (4, v)) 37 [(0, .ref (G.2.2 0)), (1, .ref (G.2.2 (114 + (1 + 0)))), (2, .ref (G.2.2 119)), (3, .int s3), (4, .int s4), (5, .int s5)] [] := by
  intro n
  induction n with
  | zero => intro _ _ _ _; exact j_none
  | succ n ih =>
    intro v s3 s4 s5
    unfold l_L_isChange_37
    refine j_iload C 37 5 rfl dL_isChange_37 ?_
    refine j_bipush (v := 12) C 39 dL_isChange_39 rfl ?_
    refine j_icmp_ge C 41 198 dL_isChange_41 (by decide) (fun c41 => ?_) (fun c41 => ?_)
    · refine j_iload C 44 5 rfl dL_isChange_44 ?_
      refine j_iconst (v := 4) C 46 dL_isChange_46 rfl ?_
      refine j_idiv C 47 dL_isChange_47 (by decide) ?_
      refine j_istore (L1 := [(6, .int (s5 / 4)), (0, .ref (G.2.2 0)), (1, .ref (G.2.2 (114 + (1 + 0)))), (2, .ref (G.2.2 119)), (3, .int s3), (4, .int s4), (5, .int s5)]) C 48 dL_isChange_48 (by decide) rfl ?_
      refine j_iload C 50 6 rfl dL_isChange_50 ?_
      refine j_iconst (v := 4) C 52 dL_isChange_52 rfl ?_
      refine j_irem C 53 dL_isChange_53 (by decide) ?_
      refine j_istore (L1 := [(7, .int (s5 - s5 / 4 * 4)), (6, .int (s5 / 4)), (0, .ref (G.2.2 0)), (1, .ref (G.2.2 (114 + (1 + 0)))), (2, .ref (G.2.2 119)), (3, .int s3), (4, .int s4), (5, .int s5)]) C 54 dL_isChange_54 (by decide) rfl ?_
      refine j_iload C 56 1 rfl dL_isChange_56 ?_
      refine j_iload C 58 0 rfl dL_isChange_58 ?_
      refine j_icmp_lt C 60 66 dL_isChange_60 (by decide) (fun c60 => ?_) (fun c60 => ?_)
      · refine j_iconst (v := 0) C 66 dL_isChange_66 rfl ?_
        refine j_istore (L1 := [(8, .int 0), (7, .int (s5 - s5 / 4 * 4)), (6, .int (s5 / 4)), (0, .ref (G.2.2 0)), (1, .ref (G.2.2 (114 + (1 + 0)))), (2, .ref (G.2.2 119)), (3, .int s3), (4, .int s4), (5, .int s5)]) C 67 dL_isChange_67 (by decide) rfl ?_
        refine j_L (L' := [(0, .ref (G.2.2 0)), (1, .ref (G.2.2 (114 + (1 + 0)))), (2, .ref (G.2.2 119)), (3, .int s3), (4, .int s4), (5, .int s5), (6, .int (s5 / 4)), (7, .int (s5 - s5 / 4 * 4)), (8, .int 0)]) [3, 4, 5, 6, 7, 8, 2, 1, 0] rfl ?_
        exact wl_L_isChange_69 hN C hr u v0 hE _ ih FU v s3 s4 s5 (s5 / 4) (s5 - s5 / 4 * 4) 0
      · refine j_goto C 63 192 dL_isChange_63 (by decide) ?_
        refine j_iinc (v := (s5 + 1)) (L1 := [(5, .int (s5 + 1)), (7, .int (s5 - s5 / 4 * 4)), (6, .int (s5 / 4)), (0, .ref (G.2.2 0)), (1, .ref (G.2.2 (114 + (1 + 0)))), (2, .ref (G.2.2 119)), (3, .int s3), (4, .int s4)]) C 192 7 rfl dL_isChange_192 rfl (by decide) rfl ?_
        refine j_goto C 195 37 dL_isChange_195 (by decide) ?_
        refine j_L (L' := [(0, .ref (G.2.2 0)), (1, .ref (G.2.2 (114 + (1 + 0)))), (2, .ref (G.2.2 119)), (3, .int s3), (4, .int s4), (5, .int (s5 + 1))]) [3, 4, 5, 6, 7, 0] rfl ?_
        exact ih v s3 s4 (s5 + 1)
    · refine j_aload_n C 198 0 rfl dL_isChange_198 ?_
      refine j_bind (fun x199 h199 => ?_)
      refine j_vSp_i (As := []) (st := []) C k_X5_bestChange 199 (c_X5_bestChange C.2.2.2.2.2.2.1 _ h199) rfl rfl ml_L_130 ii_X5_bestChange is_X5_bestChange dL_isChange_199 (by decide) rfl (Nat.le_of_ble_eq_true rfl) ?_ rfl
      refine j_iload C 202 4 rfl dL_isChange_202 ?_
      refine j_icmp_ne C 204 211 dL_isChange_204 (by decide) (fun c204 => ?_) (fun c204 => ?_)
      · refine j_iconst (v := 1) C 207 dL_isChange_207 rfl ?_
        refine j_goto C 208 212 dL_isChange_208 (by decide) ?_
        exact hE 1 v 212 _ dL_isChange_212 rfl
      · refine j_iconst (v := 0) C 211 dL_isChange_211 rfl ?_
        exact hE 0 v 212 _ dL_isChange_212 rfl
set_option maxRecDepth 100000 in
set_option maxHeartbeats 4000000 in
theorem w_L_isChange {G : GG} {X : WX} {Q : Int32 → State → Prop} {w : VW} (hN : 120 ≤ nG G) (C : Cx G 10 X RL cL_isChange 5) (hr : (xM X).sig.returnType = (some .boolean)) (v : (Nat → Int32)) (u : VC) (v0 : VRw) (hE : ∀ (x : Int32) (v : Nat → Int32) (p : Nat) (L : List (Nat × Value)), decode cL_isChange p = .ok (.ireturn, 1) → narrow .boolean (.int x) = .int x → JS G 10 X Q (some x) (u, va_up (sRw w 0 v0) 5 (4, v)) p L [.int x]) : JS G 10 X Q (f_L_isChange_i v u v0) (u, va_up (sRw w 0 v0) 5 (4, v)) 4 [(0, .ref (G.2.2 0)), (1, .ref (G.2.2 (114 + (1 + 0)))), (2, .ref (G.2.2 119))] [] := by
  unfold f_L_isChange_i
  refine j_aload_n C 4 1 rfl dL_isChange_4 ?_
  refine j_iconst (v := 0) C 5 dL_isChange_5 rfl ?_
  refine j_bind (fun x6 h6 => ?_)
  refine j_callS_i (As := [.ref (G.2.2 (114 + (1 + 0))), .int 0]) (st := []) C k_L_good 6 (c_L_good C.2.2.2.2.2.2.1 (c := u) (w := (va_up (sRw w 0 v0) 5 (4, v))) _ _ (114 + (1 + 0)) (nG_lt C.2.2.2.2.2.2.1 (by omega)) (by rw [at_rw]; rfl) _ h6) rfl ml_L_60 st_L_good dL_isChange_6 (by decide) rfl (Nat.le_of_ble_eq_true rfl) ?_ rfl
  refine j_aload_n C 9 1 rfl dL_isChange_9 ?_
  refine j_iconst (v := 1) C 10 dL_isChange_10 rfl ?_
  refine j_bind (fun x11 h11 => ?_)
  refine j_callS_i (As := [.ref (G.2.2 (114 + (1 + 0))), .int 1]) (st := [.int x6]) C k_L_good 11 (c_L_good C.2.2.2.2.2.2.1 (c := u) (w := (va_up (sRw w 0 v0) 5 (4, v))) _ _ (114 + (1 + 0)) (nG_lt C.2.2.2.2.2.2.1 (by omega)) (by rw [at_rw]; rfl) _ h11) rfl ml_L_60 st_L_good dL_isChange_11 (by decide) rfl (Nat.le_of_ble_eq_true rfl) ?_ rfl
  refine j_icmp_ge C 14 25 dL_isChange_14 (by decide) (fun c14 => ?_) (fun c14 => ?_)
  · refine j_aload_n C 17 1 rfl dL_isChange_17 ?_
    refine j_iconst (v := 0) C 18 dL_isChange_18 rfl ?_
    refine j_bind (fun x19 h19 => ?_)
    refine j_callS_i (As := [.ref (G.2.2 (114 + (1 + 0))), .int 0]) (st := []) C k_L_good 19 (c_L_good C.2.2.2.2.2.2.1 (c := u) (w := (va_up (sRw w 0 v0) 5 (4, v))) _ _ (114 + (1 + 0)) (nG_lt C.2.2.2.2.2.2.1 (by omega)) (by rw [at_rw]; rfl) _ h19) rfl ml_L_60 st_L_good dL_isChange_19 (by decide) rfl (Nat.le_of_ble_eq_true rfl) ?_ rfl
    refine j_goto C 22 30 dL_isChange_22 (by decide) ?_
    refine j_istore_n (L1 := [(3, .int x19), (0, .ref (G.2.2 0)), (1, .ref (G.2.2 (114 + (1 + 0)))), (2, .ref (G.2.2 119))]) C 30 rfl dL_isChange_30 (by decide) rfl ?_
    refine j_iconst (v := (-1)) C 31 dL_isChange_31 rfl ?_
    refine j_istore (L1 := [(4, .int (-1)), (3, .int x19), (0, .ref (G.2.2 0)), (1, .ref (G.2.2 (114 + (1 + 0)))), (2, .ref (G.2.2 119))]) C 32 dL_isChange_32 (by decide) rfl ?_
    refine j_iconst (v := 1) C 34 dL_isChange_34 rfl ?_
    refine j_istore (L1 := [(5, .int 1), (4, .int (-1)), (3, .int x19), (0, .ref (G.2.2 0)), (1, .ref (G.2.2 (114 + (1 + 0)))), (2, .ref (G.2.2 119))]) C 35 dL_isChange_35 (by decide) rfl ?_
    refine j_L (L' := [(0, .ref (G.2.2 0)), (1, .ref (G.2.2 (114 + (1 + 0)))), (2, .ref (G.2.2 119)), (3, .int x19), (4, .int (-1)), (5, .int 1)]) [3, 4, 5, 2, 1, 0] rfl ?_
    exact wl_L_isChange_37 hN C hr u v0 hE FU v x19 (-1) 1
  · refine j_aload_n C 25 1 rfl dL_isChange_25 ?_
    refine j_iconst (v := 1) C 26 dL_isChange_26 rfl ?_
    refine j_bind (fun x27 h27 => ?_)
    refine j_callS_i (As := [.ref (G.2.2 (114 + (1 + 0))), .int 1]) (st := []) C k_L_good 27 (c_L_good C.2.2.2.2.2.2.1 (c := u) (w := (va_up (sRw w 0 v0) 5 (4, v))) _ _ (114 + (1 + 0)) (nG_lt C.2.2.2.2.2.2.1 (by omega)) (by rw [at_rw]; rfl) _ h27) rfl ml_L_60 st_L_good dL_isChange_27 (by decide) rfl (Nat.le_of_ble_eq_true rfl) ?_ rfl
    refine j_istore_n (L1 := [(3, .int x27), (0, .ref (G.2.2 0)), (1, .ref (G.2.2 (114 + (1 + 0)))), (2, .ref (G.2.2 119))]) C 30 rfl dL_isChange_30 (by decide) rfl ?_
    refine j_iconst (v := (-1)) C 31 dL_isChange_31 rfl ?_
    refine j_istore (L1 := [(4, .int (-1)), (3, .int x27), (0, .ref (G.2.2 0)), (1, .ref (G.2.2 (114 + (1 + 0)))), (2, .ref (G.2.2 119))]) C 32 dL_isChange_32 (by decide) rfl ?_
    refine j_iconst (v := 1) C 34 dL_isChange_34 rfl ?_
    refine j_istore (L1 := [(5, .int 1), (4, .int (-1)), (3, .int x27), (0, .ref (G.2.2 0)), (1, .ref (G.2.2 (114 + (1 + 0)))), (2, .ref (G.2.2 119))]) C 35 dL_isChange_35 (by decide) rfl ?_
    refine j_L (L' := [(0, .ref (G.2.2 0)), (1, .ref (G.2.2 (114 + (1 + 0)))), (2, .ref (G.2.2 119)), (3, .int x27), (4, .int (-1)), (5, .int 1)]) [3, 4, 5, 2, 1, 0] rfl ?_
    exact wl_L_isChange_37 hN C hr u v0 hE FU v x27 (-1) 1
