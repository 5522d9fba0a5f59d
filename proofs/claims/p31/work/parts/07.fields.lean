def FL (own : String) (index : Nat) (CN n dd : String) : Prop := Cond.fieldLink own index CN n dd ∈ gw ∨ ∃ host, Cond.fieldLinkNest own index CN n dd host ∈ nestW
theorem iw0 : ∀ w ∈ u_ws RX0 TX0 3, w ∈ gw := by
  show ∀ w ∈ [u_lay RX0 TX0 0, u_lay RX0 TX0 1, u_lay RX0 TX0 2], w ∈ gw
  exact (List.forall_mem_cons.mpr ⟨gwm (i := 116) (by decide +kernel) (by decide +kernel), (List.forall_mem_cons.mpr ⟨gwm (i := 118) (by decide +kernel) (by decide +kernel), (List.forall_mem_cons.mpr ⟨gwm (i := 120) (by decide +kernel) (by decide +kernel), (fun _ h => nomatch h)⟩)⟩)⟩)
theorem iw1 : ∀ w ∈ u_ws RX1 TX1 7, w ∈ gw := by
  show ∀ w ∈ [u_lay RX1 TX1 0, u_lay RX1 TX1 1, u_lay RX1 TX1 2, u_lay RX1 TX1 3, u_lay RX1 TX1 4, u_lay RX1 TX1 5, u_lay RX1 TX1 6], w ∈ gw
  exact (List.forall_mem_cons.mpr ⟨gwm (i := 90) (by decide +kernel) (by decide +kernel), (List.forall_mem_cons.mpr ⟨gwm (i := 92) (by decide +kernel) (by decide +kernel), (List.forall_mem_cons.mpr ⟨gwm (i := 94) (by decide +kernel) (by decide +kernel), (List.forall_mem_cons.mpr ⟨gwm (i := 96) (by decide +kernel) (by decide +kernel), (List.forall_mem_cons.mpr ⟨gwm (i := 98) (by decide +kernel) (by decide +kernel), (List.forall_mem_cons.mpr ⟨gwm (i := 100) (by decide +kernel) (by decide +kernel), (List.forall_mem_cons.mpr ⟨gwm (i := 102) (by decide +kernel) (by decide +kernel), (fun _ h => nomatch h)⟩)⟩)⟩)⟩)⟩)⟩)⟩)
theorem iw2 : ∀ w ∈ u_ws RX2 TX2 9, w ∈ gw := by
  show ∀ w ∈ [u_lay RX2 TX2 0, u_lay RX2 TX2 1, u_lay RX2 TX2 2, u_lay RX2 TX2 3, u_lay RX2 TX2 4, u_lay RX2 TX2 5, u_lay RX2 TX2 6, u_lay RX2 TX2 7, u_lay RX2 TX2 8], w ∈ gw
  exact (List.forall_mem_cons.mpr ⟨gwm (i := 139) (by decide +kernel) (by decide +kernel), (List.forall_mem_cons.mpr ⟨gwm (i := 141) (by decide +kernel) (by decide +kernel), (List.forall_mem_cons.mpr ⟨gwm (i := 143) (by decide +kernel) (by decide +kernel), (List.forall_mem_cons.mpr ⟨gwm (i := 145) (by decide +kernel) (by decide +kernel), (List.forall_mem_cons.mpr ⟨gwm (i := 147) (by decide +kernel) (by decide +kernel), (List.forall_mem_cons.mpr ⟨gwm (i := 149) (by decide +kernel) (by decide +kernel), (List.forall_mem_cons.mpr ⟨gwm (i := 151) (by decide +kernel) (by decide +kernel), (List.forall_mem_cons.mpr ⟨gwm (i := 153) (by decide +kernel) (by decide +kernel), (List.forall_mem_cons.mpr ⟨gwm (i := 155) (by decide +kernel) (by decide +kernel), (fun _ h => nomatch h)⟩)⟩)⟩)⟩)⟩)⟩)⟩)⟩)⟩)
theorem iw3 : ∀ w ∈ u_ws RX3 TX3 6, w ∈ gw := by
  show ∀ w ∈ [u_lay RX3 TX3 0, u_lay RX3 TX3 1, u_lay RX3 TX3 2, u_lay RX3 TX3 3, u_lay RX3 TX3 4, u_lay RX3 TX3 5], w ∈ gw
  exact (List.forall_mem_cons.mpr ⟨gwm (i := 59) (by decide +kernel) (by decide +kernel), (List.forall_mem_cons.mpr ⟨gwm (i := 61) (by decide +kernel) (by decide +kernel), (List.forall_mem_cons.mpr ⟨gwm (i := 63) (by decide +kernel) (by decide +kernel), (List.forall_mem_cons.mpr ⟨gwm (i := 65) (by decide +kernel) (by decide +kernel), (List.forall_mem_cons.mpr ⟨gwm (i := 67) (by decide +kernel) (by decide +kernel), (List.forall_mem_cons.mpr ⟨gwm (i := 69) (by decide +kernel) (by decide +kernel), (fun _ h => nomatch h)⟩)⟩)⟩)⟩)⟩)⟩)
theorem iw4 : ∀ w ∈ u_ws RX4 TX4 7, w ∈ gw := by
  show ∀ w ∈ [u_lay RX4 TX4 0, u_lay RX4 TX4 1, u_lay RX4 TX4 2, u_lay RX4 TX4 3, u_lay RX4 TX4 4, u_lay RX4 TX4 5, u_lay RX4 TX4 6], w ∈ gw
  exact (List.forall_mem_cons.mpr ⟨gwm (i := 168) (by decide +kernel) (by decide +kernel), (List.forall_mem_cons.mpr ⟨gwm (i := 170) (by decide +kernel) (by decide +kernel), (List.forall_mem_cons.mpr ⟨gwm (i := 172) (by decide +kernel) (by decide +kernel), (List.forall_mem_cons.mpr ⟨gwm (i := 174) (by decide +kernel) (by decide +kernel), (List.forall_mem_cons.mpr ⟨gwm (i := 176) (by decide +kernel) (by decide +kernel), (List.forall_mem_cons.mpr ⟨gwm (i := 178) (by decide +kernel) (by decide +kernel), (List.forall_mem_cons.mpr ⟨gwm (i := 180) (by decide +kernel) (by decide +kernel), (fun _ h => nomatch h)⟩)⟩)⟩)⟩)⟩)⟩)⟩)
theorem iw5 : ∀ w ∈ u_ws RX5 TX5 8, w ∈ gw := by
  show ∀ w ∈ [u_lay RX5 TX5 0, u_lay RX5 TX5 1, u_lay RX5 TX5 2, u_lay RX5 TX5 3, u_lay RX5 TX5 4, u_lay RX5 TX5 5, u_lay RX5 TX5 6, u_lay RX5 TX5 7], w ∈ gw
  exact (List.forall_mem_cons.mpr ⟨gwm (i := 194) (by decide +kernel) (by decide +kernel), (List.forall_mem_cons.mpr ⟨gwm (i := 196) (by decide +kernel) (by decide +kernel), (List.forall_mem_cons.mpr ⟨gwm (i := 198) (by decide +kernel) (by decide +kernel), (List.forall_mem_cons.mpr ⟨gwm (i := 200) (by decide +kernel) (by decide +kernel), (List.forall_mem_cons.mpr ⟨gwm (i := 202) (by decide +kernel) (by decide +kernel), (List.forall_mem_cons.mpr ⟨gwm (i := 204) (by decide +kernel) (by decide +kernel), (List.forall_mem_cons.mpr ⟨gwm (i := 206) (by decide +kernel) (by decide +kernel), (List.forall_mem_cons.mpr ⟨gwm (i := 208) (by decide +kernel) (by decide +kernel), (fun _ h => nomatch h)⟩)⟩)⟩)⟩)⟩)⟩)⟩)⟩)
section
variable {ρ : Type} {G : GG} {nL : Nat} {X : WX} {Q : ρ → State → Prop} {sp : Option ρ} {V : VA} {L : List (Nat × Value)} {st : List Value} {own : String} {cc : ByteArray} {d : Nat} {c0 : VC} {w : VW} {k : Nat}
theorem j_fget (C : Cx G nL X own cc d) {ci n N index a : Nat} {CN : String} {T : u_T} {fs : List Value} {v : Value} (pc q : Nat) (hq : q < nG G) (ha : a = G.2.2 q) (hc : cellA G.2.1 G.2.2 V q = .inr (ci, fs)) (hcl : vwCl[ci]? = some (CN, T, N)) (hin : ∀ w ∈ u_ws CN T N, w ∈ gw) (hk : n < N) (hlink : FL own index CN (T n).2.1 (T n).2.2.1) (hT : (T n).1 = CN) (hv : fs[n]? = some v) (hd : decode cc pc = .ok (.getfield index, 3))
    (kk : JS G nL X Q sp V (pc + 3) L (v :: st)) : JS G nL X Q sp V pc L (.ref a :: st) := by
  rcases hlink with h | ⟨host, h⟩
  · exact j_get C pc q hq ha hc hcl hin hk (ref := CN) h hT hv hd kk
  · exact j_getN C pc q hq ha hc hcl hin hk (ref := CN) h hT hv hd kk
theorem g_Sk0 (C : Cx G nL X own cc d) (hk : k < 8) (pc : Nat) {index : Nat} (hl : FL own index RX3 "sizes" "[I") (hd : decode cc pc = .ok (.getfield index, 3))
    (kk : JS G nL X Q sp (c0, w) (pc + 3) L (.ref (G.2.2 (23 + 7 * k)) :: st)) : JS G nL X Q sp (c0, w) pc L (.ref (G.2.2 (22 + 7 * k)) :: st) := by
  exact j_fget C pc (22 + 7 * k) (nG_lt C.2.2.2.2.2.2.1 (by omega)) rfl (at_sk (j := 0) hk (by omega)) (ci := 3) (n := 0) rfl iw3 (by omega) hl rfl rfl hd kk
theorem g_Sk1 (C : Cx G nL X own cc d) (hk : k < 8) (pc : Nat) {index : Nat} (hl : FL own index RX3 "ranks" "[I") (hd : decode cc pc = .ok (.getfield index, 3))
    (kk : JS G nL X Q sp (c0, w) (pc + 3) L (.ref (G.2.2 (24 + 7 * k)) :: st)) : JS G nL X Q sp (c0, w) pc L (.ref (G.2.2 (22 + 7 * k)) :: st) := by
  exact j_fget C pc (22 + 7 * k) (nG_lt C.2.2.2.2.2.2.1 (by omega)) rfl (at_sk (j := 0) hk (by omega)) (ci := 3) (n := 1) rfl iw3 (by omega) hl rfl rfl hd kk
theorem g_Sk2 (C : Cx G nL X own cc d) (hk : k < 8) (pc : Nat) {index : Nat} (hl : FL own index RX3 "delays" "[I") (hd : decode cc pc = .ok (.getfield index, 3))
    (kk : JS G nL X Q sp (c0, w) (pc + 3) L (.ref (G.2.2 (25 + 7 * k)) :: st)) : JS G nL X Q sp (c0, w) pc L (.ref (G.2.2 (22 + 7 * k)) :: st) := by
  exact j_fget C pc (22 + 7 * k) (nG_lt C.2.2.2.2.2.2.1 (by omega)) rfl (at_sk (j := 0) hk (by omega)) (ci := 3) (n := 2) rfl iw3 (by omega) hl rfl rfl hd kk
theorem g_Sk3 (C : Cx G nL X own cc d) (hk : k < 8) (pc : Nat) {index : Nat} (hl : FL own index RX3 "reads" "[I") (hd : decode cc pc = .ok (.getfield index, 3))
    (kk : JS G nL X Q sp (c0, w) (pc + 3) L (.ref (G.2.2 (26 + 7 * k)) :: st)) : JS G nL X Q sp (c0, w) pc L (.ref (G.2.2 (22 + 7 * k)) :: st) := by
  exact j_fget C pc (22 + 7 * k) (nG_lt C.2.2.2.2.2.2.1 (by omega)) rfl (at_sk (j := 0) hk (by omega)) (ci := 3) (n := 3) rfl iw3 (by omega) hl rfl rfl hd kk
theorem g_Sk4 (C : Cx G nL X own cc d) (hk : k < 8) (pc : Nat) {index : Nat} (hl : FL own index RX3 "failed" "[Z") (hd : decode cc pc = .ok (.getfield index, 3))
    (kk : JS G nL X Q sp (c0, w) (pc + 3) L (.ref (G.2.2 (27 + 7 * k)) :: st)) : JS G nL X Q sp (c0, w) pc L (.ref (G.2.2 (22 + 7 * k)) :: st) := by
  exact j_fget C pc (22 + 7 * k) (nG_lt C.2.2.2.2.2.2.1 (by omega)) rfl (at_sk (j := 0) hk (by omega)) (ci := 3) (n := 4) rfl iw3 (by omega) hl rfl rfl hd kk
theorem g_Sk5 (C : Cx G nL X own cc d) (hk : k < 8) (pc : Nat) {index : Nat} (hl : FL own index RX3 "mapped" "[Z") (hd : decode cc pc = .ok (.getfield index, 3))
    (kk : JS G nL X Q sp (c0, w) (pc + 3) L (.ref (G.2.2 (28 + 7 * k)) :: st)) : JS G nL X Q sp (c0, w) pc L (.ref (G.2.2 (22 + 7 * k)) :: st) := by
  exact j_fget C pc (22 + 7 * k) (nG_lt C.2.2.2.2.2.2.1 (by omega)) rfl (at_sk (j := 0) hk (by omega)) (ci := 3) (n := 5) rfl iw3 (by omega) hl rfl rfl hd kk
theorem g_Ly0 (C : Cx G nL X own cc d) (hk : k < 9) {v : VLy} (hv : c0.2.1 k = v) (pc : Nat) {index : Nat} (hl : FL own index RX1 "kind" "I") (hd : decode cc pc = .ok (.getfield index, 3))
    (kk : JS G nL X Q sp (c0, w) (pc + 3) L (.int v.1 :: st)) : JS G nL X Q sp (c0, w) pc L (.ref (G.2.2 (78 + 2 * k)) :: st) := by
  subst hv
  exact j_fget C pc (78 + 2 * k) (nG_lt C.2.2.2.2.2.2.1 (by omega)) rfl (at_ly hk) (ci := 1) (n := 0) rfl iw1 (by omega) hl rfl rfl hd kk
theorem g_Ly1 (C : Cx G nL X own cc d) (hk : k < 9) (pc : Nat) {index : Nat} (hl : FL own index RX1 "sizes" "[I") (hd : decode cc pc = .ok (.getfield index, 3))
    (kk : JS G nL X Q sp (c0, w) (pc + 3) L (.ref (G.2.2 (79 + 2 * k)) :: st)) : JS G nL X Q sp (c0, w) pc L (.ref (G.2.2 (78 + 2 * k)) :: st) := by
  exact j_fget C pc (78 + 2 * k) (nG_lt C.2.2.2.2.2.2.1 (by omega)) rfl (at_ly hk) (ci := 1) (n := 1) rfl iw1 (by omega) hl rfl rfl hd kk
theorem g_Ly2 (C : Cx G nL X own cc d) (hk : k < 9) {v : VLy} (hv : c0.2.1 k = v) (pc : Nat) {index : Nat} (hl : FL own index RX1 "room0" "I") (hd : decode cc pc = .ok (.getfield index, 3))
    (kk : JS G nL X Q sp (c0, w) (pc + 3) L (.int v.2.2.1 :: st)) : JS G nL X Q sp (c0, w) pc L (.ref (G.2.2 (78 + 2 * k)) :: st) := by
  subst hv
  exact j_fget C pc (78 + 2 * k) (nG_lt C.2.2.2.2.2.2.1 (by omega)) rfl (at_ly hk) (ci := 1) (n := 2) rfl iw1 (by omega) hl rfl rfl hd kk
theorem g_Ly3 (C : Cx G nL X own cc d) (hk : k < 9) {v : VLy} (hv : c0.2.1 k = v) (pc : Nat) {index : Nat} (hl : FL own index RX1 "room1" "I") (hd : decode cc pc = .ok (.getfield index, 3))
    (kk : JS G nL X Q sp (c0, w) (pc + 3) L (.int v.2.2.2.1 :: st)) : JS G nL X Q sp (c0, w) pc L (.ref (G.2.2 (78 + 2 * k)) :: st) := by
  subst hv
  exact j_fget C pc (78 + 2 * k) (nG_lt C.2.2.2.2.2.2.1 (by omega)) rfl (at_ly hk) (ci := 1) (n := 3) rfl iw1 (by omega) hl rfl rfl hd kk
theorem g_Ly4 (C : Cx G nL X own cc d) (hk : k < 9) {v : VLy} (hv : c0.2.1 k = v) (pc : Nat) {index : Nat} (hl : FL own index RX1 "lesserRoom" "I") (hd : decode cc pc = .ok (.getfield index, 3))
    (kk : JS G nL X Q sp (c0, w) (pc + 3) L (.int v.2.2.2.2.1 :: st)) : JS G nL X Q sp (c0, w) pc L (.ref (G.2.2 (78 + 2 * k)) :: st) := by
  subst hv
  exact j_fget C pc (78 + 2 * k) (nG_lt C.2.2.2.2.2.2.1 (by omega)) rfl (at_ly hk) (ci := 1) (n := 4) rfl iw1 (by omega) hl rfl rfl hd kk
theorem g_Ly5 (C : Cx G nL X own cc d) (hk : k < 9) {v : VLy} (hv : c0.2.1 k = v) (pc : Nat) {index : Nat} (hl : FL own index RX1 "blocks" "I") (hd : decode cc pc = .ok (.getfield index, 3))
    (kk : JS G nL X Q sp (c0, w) (pc + 3) L (.int v.2.2.2.2.2.1 :: st)) : JS G nL X Q sp (c0, w) pc L (.ref (G.2.2 (78 + 2 * k)) :: st) := by
  subst hv
  exact j_fget C pc (78 + 2 * k) (nG_lt C.2.2.2.2.2.2.1 (by omega)) rfl (at_ly hk) (ci := 1) (n := 5) rfl iw1 (by omega) hl rfl rfl hd kk
theorem g_Ly6 (C : Cx G nL X own cc d) (hk : k < 9) {v : VLy} (hv : c0.2.1 k = v) (pc : Nat) {index : Nat} (hl : FL own index RX1 "wide" "I") (hd : decode cc pc = .ok (.getfield index, 3))
    (kk : JS G nL X Q sp (c0, w) (pc + 3) L (.int v.2.2.2.2.2.2 :: st)) : JS G nL X Q sp (c0, w) pc L (.ref (G.2.2 (78 + 2 * k)) :: st) := by
  subst hv
  exact j_fget C pc (78 + 2 * k) (nG_lt C.2.2.2.2.2.2.1 (by omega)) rfl (at_ly hk) (ci := 1) (n := 6) rfl iw1 (by omega) hl rfl rfl hd kk
theorem g_Ck0 (C : Cx G nL X own cc d) (hk : k < 9) (pc : Nat) {index : Nat} (hl : FL own index RX0 "free" "[I") (hd : decode cc pc = .ok (.getfield index, 3))
    (kk : JS G nL X Q sp (c0, w) (pc + 3) L (.ref (G.2.2 (97 + 2 * k)) :: st)) : JS G nL X Q sp (c0, w) pc L (.ref (G.2.2 (96 + 2 * k)) :: st) := by
  exact j_fget C pc (96 + 2 * k) (nG_lt C.2.2.2.2.2.2.1 (by omega)) rfl (at_ck hk) (ci := 0) (n := 0) rfl iw0 (by omega) hl rfl rfl hd kk
theorem g_Ck1 (C : Cx G nL X own cc d) (hk : k < 9) {v : VCk} (hv : c0.2.2.1 k = v) (pc : Nat) {index : Nat} (hl : FL own index RX0 "tick" "I") (hd : decode cc pc = .ok (.getfield index, 3))
    (kk : JS G nL X Q sp (c0, w) (pc + 3) L (.int v.2.1 :: st)) : JS G nL X Q sp (c0, w) pc L (.ref (G.2.2 (96 + 2 * k)) :: st) := by
  subst hv
  exact j_fget C pc (96 + 2 * k) (nG_lt C.2.2.2.2.2.2.1 (by omega)) rfl (at_ck hk) (ci := 0) (n := 1) rfl iw0 (by omega) hl rfl rfl hd kk
theorem g_Ck2 (C : Cx G nL X own cc d) (hk : k < 9) {v : VCk} (hv : c0.2.2.1 k = v) (pc : Nat) {index : Nat} (hl : FL own index RX0 "waited" "I") (hd : decode cc pc = .ok (.getfield index, 3))
    (kk : JS G nL X Q sp (c0, w) (pc + 3) L (.int v.2.2 :: st)) : JS G nL X Q sp (c0, w) pc L (.ref (G.2.2 (96 + 2 * k)) :: st) := by
  subst hv
  exact j_fget C pc (96 + 2 * k) (nG_lt C.2.2.2.2.2.2.1 (by omega)) rfl (at_ck hk) (ci := 0) (n := 2) rfl iw0 (by omega) hl rfl rfl hd kk
theorem g_St0 (C : Cx G nL X own cc d) (hk : k < 8) (pc : Nat) {index : Nat} (hl : FL own index RX2 "sticks" "LStickPairs$Sticks;") (hd : decode cc pc = .ok (.getfield index, 3))
    (kk : JS G nL X Q sp (c0, w) (pc + 3) L (.ref (G.2.2 (22 + 7 * k)) :: st)) : JS G nL X Q sp (c0, w) pc L (.ref (G.2.2 (6 + 2 * k)) :: st) := by
  exact j_fget C pc (6 + 2 * k) (nG_lt C.2.2.2.2.2.2.1 (by omega)) rfl (at_st hk) (ci := 2) (n := 0) rfl iw2 (by omega) hl rfl rfl hd kk
theorem g_St1 (C : Cx G nL X own cc d) (hk : k < 8) (pc : Nat) {index : Nat} (hl : FL own index RX2 "layout" "LStickPairs$Layout;") (hd : decode cc pc = .ok (.getfield index, 3))
    (kk : JS G nL X Q sp (c0, w) (pc + 3) L (.ref (G.2.2 (78 + 2 * k)) :: st)) : JS G nL X Q sp (c0, w) pc L (.ref (G.2.2 (6 + 2 * k)) :: st) := by
  exact j_fget C pc (6 + 2 * k) (nG_lt C.2.2.2.2.2.2.1 (by omega)) rfl (at_st hk) (ci := 2) (n := 1) rfl iw2 (by omega) hl rfl rfl hd kk
theorem g_St2 (C : Cx G nL X own cc d) (hk : k < 8) (pc : Nat) {index : Nat} (hl : FL own index RX2 "clock" "LStickPairs$Clock;") (hd : decode cc pc = .ok (.getfield index, 3))
    (kk : JS G nL X Q sp (c0, w) (pc + 3) L (.ref (G.2.2 (96 + 2 * k)) :: st)) : JS G nL X Q sp (c0, w) pc L (.ref (G.2.2 (6 + 2 * k)) :: st) := by
  exact j_fget C pc (6 + 2 * k) (nG_lt C.2.2.2.2.2.2.1 (by omega)) rfl (at_st hk) (ci := 2) (n := 2) rfl iw2 (by omega) hl rfl rfl hd kk
theorem g_St3 (C : Cx G nL X own cc d) (hk : k < 8) (pc : Nat) {index : Nat} (hl : FL own index RX2 "values" "[I") (hd : decode cc pc = .ok (.getfield index, 3))
    (kk : JS G nL X Q sp (c0, w) (pc + 3) L (.ref (G.2.2 (7 + 2 * k)) :: st)) : JS G nL X Q sp (c0, w) pc L (.ref (G.2.2 (6 + 2 * k)) :: st) := by
  exact j_fget C pc (6 + 2 * k) (nG_lt C.2.2.2.2.2.2.1 (by omega)) rfl (at_st hk) (ci := 2) (n := 3) rfl iw2 (by omega) hl rfl rfl hd kk
theorem g_St4 (C : Cx G nL X own cc d) (hk : k < 8) {v : VI5} (hv : c0.2.2.2.2.1 k = v) (pc : Nat) {index : Nat} (hl : FL own index RX2 "mapSetting" "I") (hd : decode cc pc = .ok (.getfield index, 3))
    (kk : JS G nL X Q sp (c0, w) (pc + 3) L (.int v.1 :: st)) : JS G nL X Q sp (c0, w) pc L (.ref (G.2.2 (6 + 2 * k)) :: st) := by
  subst hv
  exact j_fget C pc (6 + 2 * k) (nG_lt C.2.2.2.2.2.2.1 (by omega)) rfl (at_st hk) (ci := 2) (n := 4) rfl iw2 (by omega) hl rfl rfl hd kk
theorem g_St5 (C : Cx G nL X own cc d) (hk : k < 8) {v : VI5} (hv : c0.2.2.2.2.1 k = v) (pc : Nat) {index : Nat} (hl : FL own index RX2 "pairSetting" "I") (hd : decode cc pc = .ok (.getfield index, 3))
    (kk : JS G nL X Q sp (c0, w) (pc + 3) L (.int v.2.1 :: st)) : JS G nL X Q sp (c0, w) pc L (.ref (G.2.2 (6 + 2 * k)) :: st) := by
  subst hv
  exact j_fget C pc (6 + 2 * k) (nG_lt C.2.2.2.2.2.2.1 (by omega)) rfl (at_st hk) (ci := 2) (n := 5) rfl iw2 (by omega) hl rfl rfl hd kk
theorem g_St6 (C : Cx G nL X own cc d) (hk : k < 8) {v : VI5} (hv : c0.2.2.2.2.1 k = v) (pc : Nat) {index : Nat} (hl : FL own index RX2 "blocksRead" "I") (hd : decode cc pc = .ok (.getfield index, 3))
    (kk : JS G nL X Q sp (c0, w) (pc + 3) L (.int v.2.2.1 :: st)) : JS G nL X Q sp (c0, w) pc L (.ref (G.2.2 (6 + 2 * k)) :: st) := by
  subst hv
  exact j_fget C pc (6 + 2 * k) (nG_lt C.2.2.2.2.2.2.1 (by omega)) rfl (at_st hk) (ci := 2) (n := 6) rfl iw2 (by omega) hl rfl rfl hd kk
theorem g_St7 (C : Cx G nL X own cc d) (hk : k < 8) {v : VI5} (hv : c0.2.2.2.2.1 k = v) (pc : Nat) {index : Nat} (hl : FL own index RX2 "pairsRead" "I") (hd : decode cc pc = .ok (.getfield index, 3))
    (kk : JS G nL X Q sp (c0, w) (pc + 3) L (.int v.2.2.2.1 :: st)) : JS G nL X Q sp (c0, w) pc L (.ref (G.2.2 (6 + 2 * k)) :: st) := by
  subst hv
  exact j_fget C pc (6 + 2 * k) (nG_lt C.2.2.2.2.2.2.1 (by omega)) rfl (at_st hk) (ci := 2) (n := 7) rfl iw2 (by omega) hl rfl rfl hd kk
theorem g_St8 (C : Cx G nL X own cc d) (hk : k < 8) {v : VI5} (hv : c0.2.2.2.2.1 k = v) (pc : Nat) {index : Nat} (hl : FL own index RX2 "starts" "I") (hd : decode cc pc = .ok (.getfield index, 3))
    (kk : JS G nL X Q sp (c0, w) (pc + 3) L (.int v.2.2.2.2 :: st)) : JS G nL X Q sp (c0, w) pc L (.ref (G.2.2 (6 + 2 * k)) :: st) := by
  subst hv
  exact j_fget C pc (6 + 2 * k) (nG_lt C.2.2.2.2.2.2.1 (by omega)) rfl (at_st hk) (ci := 2) (n := 8) rfl iw2 (by omega) hl rfl rfl hd kk
theorem g_Tx0 (C : Cx G nL X own cc d) (pc : Nat) {index : Nat} (hl : FL own index RX4 "codes" "[I") (hd : decode cc pc = .ok (.getfield index, 3))
    (kk : JS G nL X Q sp (c0, w) (pc + 3) L (.ref (G.2.2 3) :: st)) : JS G nL X Q sp (c0, w) pc L (.ref (G.2.2 2) :: st) := by
  exact j_fget C pc 2 (nG_lt C.2.2.2.2.2.2.1 (by omega)) rfl (at_sp (j := 2) (by omega)) (ci := 4) (n := 0) rfl iw4 (by omega) hl rfl rfl hd kk
theorem g_Tx1 (C : Cx G nL X own cc d) {v : VTx} (hv : c0.2.2.2.2.2.1 = v) (pc : Nat) {index : Nat} (hl : FL own index RX4 "length" "I") (hd : decode cc pc = .ok (.getfield index, 3))
    (kk : JS G nL X Q sp (c0, w) (pc + 3) L (.int v.2.1 :: st)) : JS G nL X Q sp (c0, w) pc L (.ref (G.2.2 2) :: st) := by
  subst hv
  exact j_fget C pc 2 (nG_lt C.2.2.2.2.2.2.1 (by omega)) rfl (at_sp (j := 2) (by omega)) (ci := 4) (n := 1) rfl iw4 (by omega) hl rfl rfl hd kk
theorem g_Tx2 (C : Cx G nL X own cc d) (pc : Nat) {index : Nat} (hl : FL own index RX4 "firsts" "[I") (hd : decode cc pc = .ok (.getfield index, 3))
    (kk : JS G nL X Q sp (c0, w) (pc + 3) L (.ref (G.2.2 4) :: st)) : JS G nL X Q sp (c0, w) pc L (.ref (G.2.2 2) :: st) := by
  exact j_fget C pc 2 (nG_lt C.2.2.2.2.2.2.1 (by omega)) rfl (at_sp (j := 2) (by omega)) (ci := 4) (n := 2) rfl iw4 (by omega) hl rfl rfl hd kk
theorem g_Tx3 (C : Cx G nL X own cc d) (pc : Nat) {index : Nat} (hl : FL own index RX4 "lasts" "[I") (hd : decode cc pc = .ok (.getfield index, 3))
    (kk : JS G nL X Q sp (c0, w) (pc + 3) L (.ref (G.2.2 5) :: st)) : JS G nL X Q sp (c0, w) pc L (.ref (G.2.2 2) :: st) := by
  exact j_fget C pc 2 (nG_lt C.2.2.2.2.2.2.1 (by omega)) rfl (at_sp (j := 2) (by omega)) (ci := 4) (n := 3) rfl iw4 (by omega) hl rfl rfl hd kk
theorem g_Tx4 (C : Cx G nL X own cc d) {v : VTx} (hv : c0.2.2.2.2.2.1 = v) (pc : Nat) {index : Nat} (hl : FL own index RX4 "part" "I") (hd : decode cc pc = .ok (.getfield index, 3))
    (kk : JS G nL X Q sp (c0, w) (pc + 3) L (.int v.2.2.2.2.1 :: st)) : JS G nL X Q sp (c0, w) pc L (.ref (G.2.2 2) :: st) := by
  subst hv
  exact j_fget C pc 2 (nG_lt C.2.2.2.2.2.2.1 (by omega)) rfl (at_sp (j := 2) (by omega)) (ci := 4) (n := 4) rfl iw4 (by omega) hl rfl rfl hd kk
theorem g_Tx5 (C : Cx G nL X own cc d) {v : VTx} (hv : c0.2.2.2.2.2.1 = v) (pc : Nat) {index : Nat} (hl : FL own index RX4 "ranged" "Z") (hd : decode cc pc = .ok (.getfield index, 3))
    (kk : JS G nL X Q sp (c0, w) (pc + 3) L (.int v.2.2.2.2.2.1 :: st)) : JS G nL X Q sp (c0, w) pc L (.ref (G.2.2 2) :: st) := by
  subst hv
  exact j_fget C pc 2 (nG_lt C.2.2.2.2.2.2.1 (by omega)) rfl (at_sp (j := 2) (by omega)) (ci := 4) (n := 5) rfl iw4 (by omega) hl rfl rfl hd kk
theorem g_Tx6 (C : Cx G nL X own cc d) {v : VTx} (hv : c0.2.2.2.2.2.1 = v) (pc : Nat) {index : Nat} (hl : FL own index RX4 "number" "I") (hd : decode cc pc = .ok (.getfield index, 3))
    (kk : JS G nL X Q sp (c0, w) (pc + 3) L (.int v.2.2.2.2.2.2 :: st)) : JS G nL X Q sp (c0, w) pc L (.ref (G.2.2 2) :: st) := by
  subst hv
  exact j_fget C pc 2 (nG_lt C.2.2.2.2.2.2.1 (by omega)) rfl (at_sp (j := 2) (by omega)) (ci := 4) (n := 6) rfl iw4 (by omega) hl rfl rfl hd kk
theorem g_Sp0 (C : Cx G nL X own cc d) (pc : Nat) {index : Nat} (hl : FL own index RX5 "now" "LStickPairs$State;") (hd : decode cc pc = .ok (.getfield index, 3))
    (kk : JS G nL X Q sp (c0, w) (pc + 3) L (.ref (G.2.2 6) :: st)) : JS G nL X Q sp (c0, w) pc L (.ref (G.2.2 0) :: st) := by
  exact j_fget C pc 0 (nG_lt C.2.2.2.2.2.2.1 (by omega)) rfl (at_sp (j := 0) (by omega)) (ci := 5) (n := 0) rfl iw5 (by omega) hl rfl rfl hd kk
theorem g_Sp1 (C : Cx G nL X own cc d) (pc : Nat) {index : Nat} (hl : FL own index RX5 "snapshot" "LStickPairs$State;") (hd : decode cc pc = .ok (.getfield index, 3))
    (kk : JS G nL X Q sp (c0, w) (pc + 3) L (.ref (G.2.2 8) :: st)) : JS G nL X Q sp (c0, w) pc L (.ref (G.2.2 0) :: st) := by
  exact j_fget C pc 0 (nG_lt C.2.2.2.2.2.2.1 (by omega)) rfl (at_sp (j := 0) (by omega)) (ci := 5) (n := 1) rfl iw5 (by omega) hl rfl rfl hd kk
theorem g_Sp2 (C : Cx G nL X own cc d) (pc : Nat) {index : Nat} (hl : FL own index RX5 "hasSnapshot" "Z") (hd : decode cc pc = .ok (.getfield index, 3))
    (kk : JS G nL X Q sp (c0, w) (pc + 3) L (.int c0.2.2.2.2.2.2.1 :: st)) : JS G nL X Q sp (c0, w) pc L (.ref (G.2.2 0) :: st) := by
  exact j_fget C pc 0 (nG_lt C.2.2.2.2.2.2.1 (by omega)) rfl (at_sp (j := 0) (by omega)) (ci := 5) (n := 2) rfl iw5 (by omega) hl rfl rfl hd kk
theorem g_Sp3 (C : Cx G nL X own cc d) (pc : Nat) {index : Nat} (hl : FL own index RX5 "saved" "[LStickPairs$State;") (hd : decode cc pc = .ok (.getfield index, 3))
    (kk : JS G nL X Q sp (c0, w) (pc + 3) L (.ref (G.2.2 1) :: st)) : JS G nL X Q sp (c0, w) pc L (.ref (G.2.2 0) :: st) := by
  exact j_fget C pc 0 (nG_lt C.2.2.2.2.2.2.1 (by omega)) rfl (at_sp (j := 0) (by omega)) (ci := 5) (n := 3) rfl iw5 (by omega) hl rfl rfl hd kk
theorem g_Sp4 (C : Cx G nL X own cc d) (pc : Nat) {index : Nat} (hl : FL own index RX5 "savedCount" "I") (hd : decode cc pc = .ok (.getfield index, 3))
    (kk : JS G nL X Q sp (c0, w) (pc + 3) L (.int c0.2.2.2.2.2.2.2.1 :: st)) : JS G nL X Q sp (c0, w) pc L (.ref (G.2.2 0) :: st) := by
  exact j_fget C pc 0 (nG_lt C.2.2.2.2.2.2.1 (by omega)) rfl (at_sp (j := 0) (by omega)) (ci := 5) (n := 4) rfl iw5 (by omega) hl rfl rfl hd kk
theorem g_Sp5 (C : Cx G nL X own cc d) (pc : Nat) {index : Nat} (hl : FL own index RX5 "text" "LStickPairs$Text;") (hd : decode cc pc = .ok (.getfield index, 3))
    (kk : JS G nL X Q sp (c0, w) (pc + 3) L (.ref (G.2.2 2) :: st)) : JS G nL X Q sp (c0, w) pc L (.ref (G.2.2 0) :: st) := by
  exact j_fget C pc 0 (nG_lt C.2.2.2.2.2.2.1 (by omega)) rfl (at_sp (j := 0) (by omega)) (ci := 5) (n := 5) rfl iw5 (by omega) hl rfl rfl hd kk
theorem g_Sp6 (C : Cx G nL X own cc d) (pc : Nat) {index : Nat} (hl : FL own index RX5 "trialLayout" "LStickPairs$Layout;") (hd : decode cc pc = .ok (.getfield index, 3))
    (kk : JS G nL X Q sp (c0, w) (pc + 3) L (.ref (G.2.2 94) :: st)) : JS G nL X Q sp (c0, w) pc L (.ref (G.2.2 0) :: st) := by
  exact j_fget C pc 0 (nG_lt C.2.2.2.2.2.2.1 (by omega)) rfl (at_sp (j := 0) (by omega)) (ci := 5) (n := 6) rfl iw5 (by omega) hl rfl rfl hd kk
theorem g_Sp7 (C : Cx G nL X own cc d) (pc : Nat) {index : Nat} (hl : FL own index RX5 "trialClock" "LStickPairs$Clock;") (hd : decode cc pc = .ok (.getfield index, 3))
    (kk : JS G nL X Q sp (c0, w) (pc + 3) L (.ref (G.2.2 112) :: st)) : JS G nL X Q sp (c0, w) pc L (.ref (G.2.2 0) :: st) := by
  exact j_fget C pc 0 (nG_lt C.2.2.2.2.2.2.1 (by omega)) rfl (at_sp (j := 0) (by omega)) (ci := 5) (n := 7) rfl iw5 (by omega) hl rfl rfl hd kk
theorem p_Ly0 (C : Cx G nL X own cc d) (hk : k < 9) {v : VLy} {x : Int32} (pc : Nat) {index : Nat} (hl : Cond.fieldLink own index RX1 "kind" "I" ∈ gw) (hd : decode cc pc = .ok (.putfield index, 3))
    (kk : JS G nL X Q sp (sLy c0 k (x, v.2), w) (pc + 3) L st) : JS G nL X Q sp (sLy c0 k v, w) pc L (.int x :: .ref (G.2.2 (78 + 2 * k)) :: st) :=
  j_put C pc (78 + 2 * k) (nG_lt C.2.2.2.2.2.2.1 (by omega)) rfl (at_ly hk) (ci := 1) (n := 0) rfl iw1 tyX1_ok nmX1 (by omega) hl rfl rfl rfl rfl rfl (Nat.le_of_ble_eq_true rfl) (by have h := up_ly (n0 := nG G) (cy := G.2.1) (ad := G.2.2) (c := sLy c0 k v) (w := w) (v := (x, v.2)) hk (by rw [sLy_get]); rw [sLy_up] at h; rw [sLy_get]; exact h) hd kk
theorem p_Ly2 (C : Cx G nL X own cc d) (hk : k < 9) {v : VLy} {x : Int32} (pc : Nat) {index : Nat} (hl : Cond.fieldLink own index RX1 "room0" "I" ∈ gw) (hd : decode cc pc = .ok (.putfield index, 3))
    (kk : JS G nL X Q sp (sLy c0 k (v.1, v.2.1, x, v.2.2.2), w) (pc + 3) L st) : JS G nL X Q sp (sLy c0 k v, w) pc L (.int x :: .ref (G.2.2 (78 + 2 * k)) :: st) :=
  j_put C pc (78 + 2 * k) (nG_lt C.2.2.2.2.2.2.1 (by omega)) rfl (at_ly hk) (ci := 1) (n := 2) rfl iw1 tyX1_ok nmX1 (by omega) hl rfl rfl rfl rfl rfl (Nat.le_of_ble_eq_true rfl) (by have h := up_ly (n0 := nG G) (cy := G.2.1) (ad := G.2.2) (c := sLy c0 k v) (w := w) (v := (v.1, v.2.1, x, v.2.2.2)) hk (by rw [sLy_get]); rw [sLy_up] at h; rw [sLy_get]; exact h) hd kk
theorem p_Ly3 (C : Cx G nL X own cc d) (hk : k < 9) {v : VLy} {x : Int32} (pc : Nat) {index : Nat} (hl : Cond.fieldLink own index RX1 "room1" "I" ∈ gw) (hd : decode cc pc = .ok (.putfield index, 3))
    (kk : JS G nL X Q sp (sLy c0 k (v.1, v.2.1, v.2.2.1, x, v.2.2.2.2), w) (pc + 3) L st) : JS G nL X Q sp (sLy c0 k v, w) pc L (.int x :: .ref (G.2.2 (78 + 2 * k)) :: st) :=
  j_put C pc (78 + 2 * k) (nG_lt C.2.2.2.2.2.2.1 (by omega)) rfl (at_ly hk) (ci := 1) (n := 3) rfl iw1 tyX1_ok nmX1 (by omega) hl rfl rfl rfl rfl rfl (Nat.le_of_ble_eq_true rfl) (by have h := up_ly (n0 := nG G) (cy := G.2.1) (ad := G.2.2) (c := sLy c0 k v) (w := w) (v := (v.1, v.2.1, v.2.2.1, x, v.2.2.2.2)) hk (by rw [sLy_get]); rw [sLy_up] at h; rw [sLy_get]; exact h) hd kk
theorem p_Ly4 (C : Cx G nL X own cc d) (hk : k < 9) {v : VLy} {x : Int32} (pc : Nat) {index : Nat} (hl : Cond.fieldLink own index RX1 "lesserRoom" "I" ∈ gw) (hd : decode cc pc = .ok (.putfield index, 3))
    (kk : JS G nL X Q sp (sLy c0 k (v.1, v.2.1, v.2.2.1, v.2.2.2.1, x, v.2.2.2.2.2), w) (pc + 3) L st) : JS G nL X Q sp (sLy c0 k v, w) pc L (.int x :: .ref (G.2.2 (78 + 2 * k)) :: st) :=
  j_put C pc (78 + 2 * k) (nG_lt C.2.2.2.2.2.2.1 (by omega)) rfl (at_ly hk) (ci := 1) (n := 4) rfl iw1 tyX1_ok nmX1 (by omega) hl rfl rfl rfl rfl rfl (Nat.le_of_ble_eq_true rfl) (by have h := up_ly (n0 := nG G) (cy := G.2.1) (ad := G.2.2) (c := sLy c0 k v) (w := w) (v := (v.1, v.2.1, v.2.2.1, v.2.2.2.1, x, v.2.2.2.2.2)) hk (by rw [sLy_get]); rw [sLy_up] at h; rw [sLy_get]; exact h) hd kk
theorem p_Ly5 (C : Cx G nL X own cc d) (hk : k < 9) {v : VLy} {x : Int32} (pc : Nat) {index : Nat} (hl : Cond.fieldLink own index RX1 "blocks" "I" ∈ gw) (hd : decode cc pc = .ok (.putfield index, 3))
    (kk : JS G nL X Q sp (sLy c0 k (v.1, v.2.1, v.2.2.1, v.2.2.2.1, v.2.2.2.2.1, x, v.2.2.2.2.2.2), w) (pc + 3) L st) : JS G nL X Q sp (sLy c0 k v, w) pc L (.int x :: .ref (G.2.2 (78 + 2 * k)) :: st) :=
  j_put C pc (78 + 2 * k) (nG_lt C.2.2.2.2.2.2.1 (by omega)) rfl (at_ly hk) (ci := 1) (n := 5) rfl iw1 tyX1_ok nmX1 (by omega) hl rfl rfl rfl rfl rfl (Nat.le_of_ble_eq_true rfl) (by have h := up_ly (n0 := nG G) (cy := G.2.1) (ad := G.2.2) (c := sLy c0 k v) (w := w) (v := (v.1, v.2.1, v.2.2.1, v.2.2.2.1, v.2.2.2.2.1, x, v.2.2.2.2.2.2)) hk (by rw [sLy_get]); rw [sLy_up] at h; rw [sLy_get]; exact h) hd kk
theorem p_Ly6 (C : Cx G nL X own cc d) (hk : k < 9) {v : VLy} {x : Int32} (pc : Nat) {index : Nat} (hl : Cond.fieldLink own index RX1 "wide" "I" ∈ gw) (hd : decode cc pc = .ok (.putfield index, 3))
    (kk : JS G nL X Q sp (sLy c0 k (v.1, v.2.1, v.2.2.1, v.2.2.2.1, v.2.2.2.2.1, v.2.2.2.2.2.1, x), w) (pc + 3) L st) : JS G nL X Q sp (sLy c0 k v, w) pc L (.int x :: .ref (G.2.2 (78 + 2 * k)) :: st) :=
  j_put C pc (78 + 2 * k) (nG_lt C.2.2.2.2.2.2.1 (by omega)) rfl (at_ly hk) (ci := 1) (n := 6) rfl iw1 tyX1_ok nmX1 (by omega) hl rfl rfl rfl rfl rfl (Nat.le_of_ble_eq_true rfl) (by have h := up_ly (n0 := nG G) (cy := G.2.1) (ad := G.2.2) (c := sLy c0 k v) (w := w) (v := (v.1, v.2.1, v.2.2.1, v.2.2.2.1, v.2.2.2.2.1, v.2.2.2.2.2.1, x)) hk (by rw [sLy_get]); rw [sLy_up] at h; rw [sLy_get]; exact h) hd kk
theorem p_Ck1 (C : Cx G nL X own cc d) (hk : k < 9) {v : VCk} {x : Int32} (pc : Nat) {index : Nat} (hl : Cond.fieldLink own index RX0 "tick" "I" ∈ gw) (hd : decode cc pc = .ok (.putfield index, 3))
    (kk : JS G nL X Q sp (sCk c0 k (v.1, x, v.2.2), w) (pc + 3) L st) : JS G nL X Q sp (sCk c0 k v, w) pc L (.int x :: .ref (G.2.2 (96 + 2 * k)) :: st) :=
  j_put C pc (96 + 2 * k) (nG_lt C.2.2.2.2.2.2.1 (by omega)) rfl (at_ck hk) (ci := 0) (n := 1) rfl iw0 tyX0_ok nmX0 (by omega) hl rfl rfl rfl rfl rfl (Nat.le_of_ble_eq_true rfl) (by have h := up_ck (n0 := nG G) (cy := G.2.1) (ad := G.2.2) (c := sCk c0 k v) (w := w) (v := (v.1, x, v.2.2)) hk (by rw [sCk_get]); rw [sCk_up] at h; rw [sCk_get]; exact h) hd kk
theorem p_Ck2 (C : Cx G nL X own cc d) (hk : k < 9) {v : VCk} {x : Int32} (pc : Nat) {index : Nat} (hl : Cond.fieldLink own index RX0 "waited" "I" ∈ gw) (hd : decode cc pc = .ok (.putfield index, 3))
    (kk : JS G nL X Q sp (sCk c0 k (v.1, v.2.1, x), w) (pc + 3) L st) : JS G nL X Q sp (sCk c0 k v, w) pc L (.int x :: .ref (G.2.2 (96 + 2 * k)) :: st) :=
  j_put C pc (96 + 2 * k) (nG_lt C.2.2.2.2.2.2.1 (by omega)) rfl (at_ck hk) (ci := 0) (n := 2) rfl iw0 tyX0_ok nmX0 (by omega) hl rfl rfl rfl rfl rfl (Nat.le_of_ble_eq_true rfl) (by have h := up_ck (n0 := nG G) (cy := G.2.1) (ad := G.2.2) (c := sCk c0 k v) (w := w) (v := (v.1, v.2.1, x)) hk (by rw [sCk_get]); rw [sCk_up] at h; rw [sCk_get]; exact h) hd kk
theorem p_St4 (C : Cx G nL X own cc d) (hk : k < 8) {v : VSt} {x : Int32} (pc : Nat) {index : Nat} (hl : Cond.fieldLink own index RX2 "mapSetting" "I" ∈ gw) (hd : decode cc pc = .ok (.putfield index, 3))
    (kk : JS G nL X Q sp (sSt c0 k (v.1, v.2.1, v.2.2.1, v.2.2.2.1, (x, v.2.2.2.2.2)), w) (pc + 3) L st) : JS G nL X Q sp (sSt c0 k v, w) pc L (.int x :: .ref (G.2.2 (6 + 2 * k)) :: st) :=
  j_put C pc (6 + 2 * k) (nG_lt C.2.2.2.2.2.2.1 (by omega)) rfl (at_st hk) (ci := 2) (n := 4) rfl iw2 tyX2_ok nmX2 (by omega) hl rfl rfl rfl rfl rfl (Nat.le_of_ble_eq_true rfl) (by have h := up_st (n0 := nG G) (cy := G.2.1) (ad := G.2.2) (c := sSt c0 k v) (w := w) (v := (x, v.2.2.2.2.2)) hk; rw [sSt_sI5] at h; rw [sSt_g5]; exact h) hd kk
theorem p_St5 (C : Cx G nL X own cc d) (hk : k < 8) {v : VSt} {x : Int32} (pc : Nat) {index : Nat} (hl : Cond.fieldLink own index RX2 "pairSetting" "I" ∈ gw) (hd : decode cc pc = .ok (.putfield index, 3))
    (kk : JS G nL X Q sp (sSt c0 k (v.1, v.2.1, v.2.2.1, v.2.2.2.1, (v.2.2.2.2.1, x, v.2.2.2.2.2.2)), w) (pc + 3) L st) : JS G nL X Q sp (sSt c0 k v, w) pc L (.int x :: .ref (G.2.2 (6 + 2 * k)) :: st) :=
  j_put C pc (6 + 2 * k) (nG_lt C.2.2.2.2.2.2.1 (by omega)) rfl (at_st hk) (ci := 2) (n := 5) rfl iw2 tyX2_ok nmX2 (by omega) hl rfl rfl rfl rfl rfl (Nat.le_of_ble_eq_true rfl) (by have h := up_st (n0 := nG G) (cy := G.2.1) (ad := G.2.2) (c := sSt c0 k v) (w := w) (v := (v.2.2.2.2.1, x, v.2.2.2.2.2.2)) hk; rw [sSt_sI5] at h; rw [sSt_g5]; exact h) hd kk
theorem p_St6 (C : Cx G nL X own cc d) (hk : k < 8) {v : VSt} {x : Int32} (pc : Nat) {index : Nat} (hl : Cond.fieldLink own index RX2 "blocksRead" "I" ∈ gw) (hd : decode cc pc = .ok (.putfield index, 3))
    (kk : JS G nL X Q sp (sSt c0 k (v.1, v.2.1, v.2.2.1, v.2.2.2.1, (v.2.2.2.2.1, v.2.2.2.2.2.1, x, v.2.2.2.2.2.2.2)), w) (pc + 3) L st) : JS G nL X Q sp (sSt c0 k v, w) pc L (.int x :: .ref (G.2.2 (6 + 2 * k)) :: st) :=
  j_put C pc (6 + 2 * k) (nG_lt C.2.2.2.2.2.2.1 (by omega)) rfl (at_st hk) (ci := 2) (n := 6) rfl iw2 tyX2_ok nmX2 (by omega) hl rfl rfl rfl rfl rfl (Nat.le_of_ble_eq_true rfl) (by have h := up_st (n0 := nG G) (cy := G.2.1) (ad := G.2.2) (c := sSt c0 k v) (w := w) (v := (v.2.2.2.2.1, v.2.2.2.2.2.1, x, v.2.2.2.2.2.2.2)) hk; rw [sSt_sI5] at h; rw [sSt_g5]; exact h) hd kk
theorem p_St7 (C : Cx G nL X own cc d) (hk : k < 8) {v : VSt} {x : Int32} (pc : Nat) {index : Nat} (hl : Cond.fieldLink own index RX2 "pairsRead" "I" ∈ gw) (hd : decode cc pc = .ok (.putfield index, 3))
    (kk : JS G nL X Q sp (sSt c0 k (v.1, v.2.1, v.2.2.1, v.2.2.2.1, (v.2.2.2.2.1, v.2.2.2.2.2.1, v.2.2.2.2.2.2.1, x, v.2.2.2.2.2.2.2.2)), w) (pc + 3) L st) : JS G nL X Q sp (sSt c0 k v, w) pc L (.int x :: .ref (G.2.2 (6 + 2 * k)) :: st) :=
  j_put C pc (6 + 2 * k) (nG_lt C.2.2.2.2.2.2.1 (by omega)) rfl (at_st hk) (ci := 2) (n := 7) rfl iw2 tyX2_ok nmX2 (by omega) hl rfl rfl rfl rfl rfl (Nat.le_of_ble_eq_true rfl) (by have h := up_st (n0 := nG G) (cy := G.2.1) (ad := G.2.2) (c := sSt c0 k v) (w := w) (v := (v.2.2.2.2.1, v.2.2.2.2.2.1, v.2.2.2.2.2.2.1, x, v.2.2.2.2.2.2.2.2)) hk; rw [sSt_sI5] at h; rw [sSt_g5]; exact h) hd kk
theorem p_St8 (C : Cx G nL X own cc d) (hk : k < 8) {v : VSt} {x : Int32} (pc : Nat) {index : Nat} (hl : Cond.fieldLink own index RX2 "starts" "I" ∈ gw) (hd : decode cc pc = .ok (.putfield index, 3))
    (kk : JS G nL X Q sp (sSt c0 k (v.1, v.2.1, v.2.2.1, v.2.2.2.1, (v.2.2.2.2.1, v.2.2.2.2.2.1, v.2.2.2.2.2.2.1, v.2.2.2.2.2.2.2.1, x)), w) (pc + 3) L st) : JS G nL X Q sp (sSt c0 k v, w) pc L (.int x :: .ref (G.2.2 (6 + 2 * k)) :: st) :=
  j_put C pc (6 + 2 * k) (nG_lt C.2.2.2.2.2.2.1 (by omega)) rfl (at_st hk) (ci := 2) (n := 8) rfl iw2 tyX2_ok nmX2 (by omega) hl rfl rfl rfl rfl rfl (Nat.le_of_ble_eq_true rfl) (by have h := up_st (n0 := nG G) (cy := G.2.1) (ad := G.2.2) (c := sSt c0 k v) (w := w) (v := (v.2.2.2.2.1, v.2.2.2.2.2.1, v.2.2.2.2.2.2.1, v.2.2.2.2.2.2.2.1, x)) hk; rw [sSt_sI5] at h; rw [sSt_g5]; exact h) hd kk
theorem p_Tx1 (C : Cx G nL X own cc d) {v : VTx} {x : Int32} (pc : Nat) {index : Nat} (hl : Cond.fieldLink own index RX4 "length" "I" ∈ gw) (hd : decode cc pc = .ok (.putfield index, 3))
    (kk : JS G nL X Q sp (sTx c0 (v.1, x, v.2.2), w) (pc + 3) L st) : JS G nL X Q sp (sTx c0 v, w) pc L (.int x :: .ref (G.2.2 2) :: st) :=
  j_put C pc 2 (nG_lt C.2.2.2.2.2.2.1 (by omega)) rfl (at_sp (j := 2) (by omega)) (ci := 4) (n := 1) rfl iw4 tyX4_ok nmX4 (by omega) hl rfl rfl rfl rfl rfl (Nat.le_of_ble_eq_true rfl) (fun j hj => up_sp (cy := G.2.1) (ad := G.2.2) (c := sTx c0 v) (w := w) (t := (v.1, x, v.2.2)) (v := c0.2.2.2.2.2.2) (j0 := 2) (by omega) (by intro i hi he; rcases (show i = 0 ∨ i = 1 ∨ i = 3 ∨ i = 4 ∨ i = 5 by omega) with rfl | rfl | rfl | rfl | rfl <;> rfl) j hj) hd kk
theorem p_Tx4 (C : Cx G nL X own cc d) {v : VTx} {x : Int32} (pc : Nat) {index : Nat} (hl : Cond.fieldLink own index RX4 "part" "I" ∈ gw) (hd : decode cc pc = .ok (.putfield index, 3))
    (kk : JS G nL X Q sp (sTx c0 (v.1, v.2.1, v.2.2.1, v.2.2.2.1, x, v.2.2.2.2.2), w) (pc + 3) L st) : JS G nL X Q sp (sTx c0 v, w) pc L (.int x :: .ref (G.2.2 2) :: st) :=
  j_put C pc 2 (nG_lt C.2.2.2.2.2.2.1 (by omega)) rfl (at_sp (j := 2) (by omega)) (ci := 4) (n := 4) rfl iw4 tyX4_ok nmX4 (by omega) hl rfl rfl rfl rfl rfl (Nat.le_of_ble_eq_true rfl) (fun j hj => up_sp (cy := G.2.1) (ad := G.2.2) (c := sTx c0 v) (w := w) (t := (v.1, v.2.1, v.2.2.1, v.2.2.2.1, x, v.2.2.2.2.2)) (v := c0.2.2.2.2.2.2) (j0 := 2) (by omega) (by intro i hi he; rcases (show i = 0 ∨ i = 1 ∨ i = 3 ∨ i = 4 ∨ i = 5 by omega) with rfl | rfl | rfl | rfl | rfl <;> rfl) j hj) hd kk
theorem p_Tx5 (C : Cx G nL X own cc d) {v : VTx} {x : Int32} (pc : Nat) {index : Nat} (hn : narrow .boolean (.int x) = .int x) (hf : fits .boolean (.int x) = true) (hl : Cond.fieldLink own index RX4 "ranged" "Z" ∈ gw) (hd : decode cc pc = .ok (.putfield index, 3))
    (kk : JS G nL X Q sp (sTx c0 (v.1, v.2.1, v.2.2.1, v.2.2.2.1, v.2.2.2.2.1, x, v.2.2.2.2.2.2), w) (pc + 3) L st) : JS G nL X Q sp (sTx c0 v, w) pc L (.int x :: .ref (G.2.2 2) :: st) :=
  j_put C pc 2 (nG_lt C.2.2.2.2.2.2.1 (by omega)) rfl (at_sp (j := 2) (by omega)) (ci := 4) (n := 5) rfl iw4 tyX4_ok nmX4 (by omega) hl rfl rfl rfl hn hf (Nat.le_of_ble_eq_true rfl) (fun j hj => up_sp (cy := G.2.1) (ad := G.2.2) (c := sTx c0 v) (w := w) (t := (v.1, v.2.1, v.2.2.1, v.2.2.2.1, v.2.2.2.2.1, x, v.2.2.2.2.2.2)) (v := c0.2.2.2.2.2.2) (j0 := 2) (by omega) (by intro i hi he; rcases (show i = 0 ∨ i = 1 ∨ i = 3 ∨ i = 4 ∨ i = 5 by omega) with rfl | rfl | rfl | rfl | rfl <;> rfl) j hj) hd kk
theorem p_Tx6 (C : Cx G nL X own cc d) {v : VTx} {x : Int32} (pc : Nat) {index : Nat} (hl : Cond.fieldLink own index RX4 "number" "I" ∈ gw) (hd : decode cc pc = .ok (.putfield index, 3))
    (kk : JS G nL X Q sp (sTx c0 (v.1, v.2.1, v.2.2.1, v.2.2.2.1, v.2.2.2.2.1, v.2.2.2.2.2.1, x), w) (pc + 3) L st) : JS G nL X Q sp (sTx c0 v, w) pc L (.int x :: .ref (G.2.2 2) :: st) :=
  j_put C pc 2 (nG_lt C.2.2.2.2.2.2.1 (by omega)) rfl (at_sp (j := 2) (by omega)) (ci := 4) (n := 6) rfl iw4 tyX4_ok nmX4 (by omega) hl rfl rfl rfl rfl rfl (Nat.le_of_ble_eq_true rfl) (fun j hj => up_sp (cy := G.2.1) (ad := G.2.2) (c := sTx c0 v) (w := w) (t := (v.1, v.2.1, v.2.2.1, v.2.2.2.1, v.2.2.2.2.1, v.2.2.2.2.2.1, x)) (v := c0.2.2.2.2.2.2) (j0 := 2) (by omega) (by intro i hi he; rcases (show i = 0 ∨ i = 1 ∨ i = 3 ∨ i = 4 ∨ i = 5 by omega) with rfl | rfl | rfl | rfl | rfl <;> rfl) j hj) hd kk
theorem p_Sp2 (C : Cx G nL X own cc d) {x : Int32} (pc : Nat) {index : Nat} (hn : narrow .boolean (.int x) = .int x) (hf : fits .boolean (.int x) = true) (hl : Cond.fieldLink own index RX5 "hasSnapshot" "Z" ∈ gw) (hd : decode cc pc = .ok (.putfield index, 3))
    (kk : JS G nL X Q sp (sSp c0 (x, c0.2.2.2.2.2.2.2), w) (pc + 3) L st) : JS G nL X Q sp (c0, w) pc L (.int x :: .ref (G.2.2 0) :: st) :=
  j_put C pc 0 (nG_lt C.2.2.2.2.2.2.1 (by omega)) rfl (at_sp (j := 0) (by omega)) (ci := 5) (n := 2) rfl iw5 tyX5_ok nmX5 (by omega) hl rfl rfl rfl hn hf (Nat.le_of_ble_eq_true rfl) (fun j hj => up_sp (cy := G.2.1) (ad := G.2.2) (c := c0) (w := w) (t := c0.2.2.2.2.2.1) (v := (x, c0.2.2.2.2.2.2.2)) (j0 := 0) (by omega) (by intro i hi he; rcases (show i = 1 ∨ i = 2 ∨ i = 3 ∨ i = 4 ∨ i = 5 by omega) with rfl | rfl | rfl | rfl | rfl <;> rfl) j hj) hd kk
theorem p_Sp4 (C : Cx G nL X own cc d) {x : Int32} (pc : Nat) {index : Nat} (hl : Cond.fieldLink own index RX5 "savedCount" "I" ∈ gw) (hd : decode cc pc = .ok (.putfield index, 3))
    (kk : JS G nL X Q sp (sSp c0 (c0.2.2.2.2.2.2.1, x, c0.2.2.2.2.2.2.2.2), w) (pc + 3) L st) : JS G nL X Q sp (c0, w) pc L (.int x :: .ref (G.2.2 0) :: st) :=
  j_put C pc 0 (nG_lt C.2.2.2.2.2.2.1 (by omega)) rfl (at_sp (j := 0) (by omega)) (ci := 5) (n := 4) rfl iw5 tyX5_ok nmX5 (by omega) hl rfl rfl rfl rfl rfl (Nat.le_of_ble_eq_true rfl) (fun j hj => up_sp (cy := G.2.1) (ad := G.2.2) (c := c0) (w := w) (t := c0.2.2.2.2.2.1) (v := (c0.2.2.2.2.2.2.1, x, c0.2.2.2.2.2.2.2.2)) (j0 := 0) (by omega) (by intro i hi he; rcases (show i = 1 ∨ i = 2 ∨ i = 3 ∨ i = 4 ∨ i = 5 by omega) with rfl | rfl | rfl | rfl | rfl <;> rfl) j hj) hd kk
theorem a_Sk1 (hk : k < 8) {v : VSk} (hv : c0.1 k = v) : cellA G.2.1 G.2.2 (c0, w) (23 + 7 * k) = cI (G.2.1 0) 4 v.1 := (by subst hv; exact at_sk (j := 1) hk (by omega))
theorem l_Sk1 (C : Cx G nL X own cc d) (hk : k < 8) {v : VSk} (hv : c0.1 k = v) {i x : Int32} (pc : Nat) (hr : ard 4 v.1 i = some x) (hd : decode cc pc = .ok (.iaload, 1))
    (kk : JS G nL X Q sp (c0, w) (pc + 1) L (.int x :: st)) : JS G nL X Q sp (c0, w) pc L (.int i :: .ref (G.2.2 (23 + 7 * k)) :: st) :=
  j_iald C pc (23 + 7 * k) (nG_lt C.2.2.2.2.2.2.1 (by omega)) rfl (a_Sk1 hk hv) hr hd kk
theorem b_Sk1 (hk : k < 8) {v : VSk} (f : Nat → Int32) : ∀ j, j < nG G → va_up (cellA G.2.1 G.2.2 (sSk c0 k v, w)) (23 + 7 * k) (cI (G.2.1 0) 4 f) j = cellA G.2.1 G.2.2 (sSk c0 k (f, v.2), w) j := (by have h := up_sk (n0 := nG G) (cy := G.2.1) (ad := G.2.2) (c := sSk c0 k v) (w := w) (v := (f, v.2)) (j0 := 1) hk (by omega) (by intro i hi he; rw [sSk_get]; rcases (show i = 0 ∨ i = 2 ∨ i = 3 ∨ i = 4 ∨ i = 5 ∨ i = 6 by omega) with rfl | rfl | rfl | rfl | rfl | rfl <;> rfl); rw [sSk_up] at h; exact h)
theorem t_Sk1 (C : Cx G nL X own cc d) (hk : k < 8) {v : VSk} {i x : Int32} {f : Nat → Int32} (pc : Nat) (hr : aup 4 v.1 i x = some f) (hd : decode cc pc = .ok (.iastore, 1))
    (kk : JS G nL X Q sp (sSk c0 k (f, v.2), w) (pc + 1) L st) : JS G nL X Q sp (sSk c0 k v, w) pc L (.int x :: .int i :: .ref (G.2.2 (23 + 7 * k)) :: st) :=
  j_iast C pc (23 + 7 * k) (nG_lt C.2.2.2.2.2.2.1 (by omega)) rfl (a_Sk1 hk (sSk_get _ _ _)) hr (b_Sk1 hk f) hd kk
theorem a_Sk2 (hk : k < 8) {v : VSk} (hv : c0.1 k = v) : cellA G.2.1 G.2.2 (c0, w) (24 + 7 * k) = cI (G.2.1 0) 4 v.2.1 := (by subst hv; exact at_sk (j := 2) hk (by omega))
theorem l_Sk2 (C : Cx G nL X own cc d) (hk : k < 8) {v : VSk} (hv : c0.1 k = v) {i x : Int32} (pc : Nat) (hr : ard 4 v.2.1 i = some x) (hd : decode cc pc = .ok (.iaload, 1))
    (kk : JS G nL X Q sp (c0, w) (pc + 1) L (.int x :: st)) : JS G nL X Q sp (c0, w) pc L (.int i :: .ref (G.2.2 (24 + 7 * k)) :: st) :=
  j_iald C pc (24 + 7 * k) (nG_lt C.2.2.2.2.2.2.1 (by omega)) rfl (a_Sk2 hk hv) hr hd kk
theorem b_Sk2 (hk : k < 8) {v : VSk} (f : Nat → Int32) : ∀ j, j < nG G → va_up (cellA G.2.1 G.2.2 (sSk c0 k v, w)) (24 + 7 * k) (cI (G.2.1 0) 4 f) j = cellA G.2.1 G.2.2 (sSk c0 k (v.1, f, v.2.2), w) j := (by have h := up_sk (n0 := nG G) (cy := G.2.1) (ad := G.2.2) (c := sSk c0 k v) (w := w) (v := (v.1, f, v.2.2)) (j0 := 2) hk (by omega) (by intro i hi he; rw [sSk_get]; rcases (show i = 0 ∨ i = 1 ∨ i = 3 ∨ i = 4 ∨ i = 5 ∨ i = 6 by omega) with rfl | rfl | rfl | rfl | rfl | rfl <;> rfl); rw [sSk_up] at h; exact h)
theorem t_Sk2 (C : Cx G nL X own cc d) (hk : k < 8) {v : VSk} {i x : Int32} {f : Nat → Int32} (pc : Nat) (hr : aup 4 v.2.1 i x = some f) (hd : decode cc pc = .ok (.iastore, 1))
    (kk : JS G nL X Q sp (sSk c0 k (v.1, f, v.2.2), w) (pc + 1) L st) : JS G nL X Q sp (sSk c0 k v, w) pc L (.int x :: .int i :: .ref (G.2.2 (24 + 7 * k)) :: st) :=
  j_iast C pc (24 + 7 * k) (nG_lt C.2.2.2.2.2.2.1 (by omega)) rfl (a_Sk2 hk (sSk_get _ _ _)) hr (b_Sk2 hk f) hd kk
theorem a_Sk3 (hk : k < 8) {v : VSk} (hv : c0.1 k = v) : cellA G.2.1 G.2.2 (c0, w) (25 + 7 * k) = cI (G.2.1 0) 4 v.2.2.1 := (by subst hv; exact at_sk (j := 3) hk (by omega))
theorem l_Sk3 (C : Cx G nL X own cc d) (hk : k < 8) {v : VSk} (hv : c0.1 k = v) {i x : Int32} (pc : Nat) (hr : ard 4 v.2.2.1 i = some x) (hd : decode cc pc = .ok (.iaload, 1))
    (kk : JS G nL X Q sp (c0, w) (pc + 1) L (.int x :: st)) : JS G nL X Q sp (c0, w) pc L (.int i :: .ref (G.2.2 (25 + 7 * k)) :: st) :=
  j_iald C pc (25 + 7 * k) (nG_lt C.2.2.2.2.2.2.1 (by omega)) rfl (a_Sk3 hk hv) hr hd kk
theorem b_Sk3 (hk : k < 8) {v : VSk} (f : Nat → Int32) : ∀ j, j < nG G → va_up (cellA G.2.1 G.2.2 (sSk c0 k v, w)) (25 + 7 * k) (cI (G.2.1 0) 4 f) j = cellA G.2.1 G.2.2 (sSk c0 k (v.1, v.2.1, f, v.2.2.2), w) j := (by have h := up_sk (n0 := nG G) (cy := G.2.1) (ad := G.2.2) (c := sSk c0 k v) (w := w) (v := (v.1, v.2.1, f, v.2.2.2)) (j0 := 3) hk (by omega) (by intro i hi he; rw [sSk_get]; rcases (show i = 0 ∨ i = 1 ∨ i = 2 ∨ i = 4 ∨ i = 5 ∨ i = 6 by omega) with rfl | rfl | rfl | rfl | rfl | rfl <;> rfl); rw [sSk_up] at h; exact h)
theorem t_Sk3 (C : Cx G nL X own cc d) (hk : k < 8) {v : VSk} {i x : Int32} {f : Nat → Int32} (pc : Nat) (hr : aup 4 v.2.2.1 i x = some f) (hd : decode cc pc = .ok (.iastore, 1))
    (kk : JS G nL X Q sp (sSk c0 k (v.1, v.2.1, f, v.2.2.2), w) (pc + 1) L st) : JS G nL X Q sp (sSk c0 k v, w) pc L (.int x :: .int i :: .ref (G.2.2 (25 + 7 * k)) :: st) :=
  j_iast C pc (25 + 7 * k) (nG_lt C.2.2.2.2.2.2.1 (by omega)) rfl (a_Sk3 hk (sSk_get _ _ _)) hr (b_Sk3 hk f) hd kk
theorem a_Sk4 (hk : k < 8) {v : VSk} (hv : c0.1 k = v) : cellA G.2.1 G.2.2 (c0, w) (26 + 7 * k) = cI (G.2.1 0) 4 v.2.2.2.1 := (by subst hv; exact at_sk (j := 4) hk (by omega))
theorem l_Sk4 (C : Cx G nL X own cc d) (hk : k < 8) {v : VSk} (hv : c0.1 k = v) {i x : Int32} (pc : Nat) (hr : ard 4 v.2.2.2.1 i = some x) (hd : decode cc pc = .ok (.iaload, 1))
    (kk : JS G nL X Q sp (c0, w) (pc + 1) L (.int x :: st)) : JS G nL X Q sp (c0, w) pc L (.int i :: .ref (G.2.2 (26 + 7 * k)) :: st) :=
  j_iald C pc (26 + 7 * k) (nG_lt C.2.2.2.2.2.2.1 (by omega)) rfl (a_Sk4 hk hv) hr hd kk
theorem b_Sk4 (hk : k < 8) {v : VSk} (f : Nat → Int32) : ∀ j, j < nG G → va_up (cellA G.2.1 G.2.2 (sSk c0 k v, w)) (26 + 7 * k) (cI (G.2.1 0) 4 f) j = cellA G.2.1 G.2.2 (sSk c0 k (v.1, v.2.1, v.2.2.1, f, v.2.2.2.2), w) j := (by have h := up_sk (n0 := nG G) (cy := G.2.1) (ad := G.2.2) (c := sSk c0 k v) (w := w) (v := (v.1, v.2.1, v.2.2.1, f, v.2.2.2.2)) (j0 := 4) hk (by omega) (by intro i hi he; rw [sSk_get]; rcases (show i = 0 ∨ i = 1 ∨ i = 2 ∨ i = 3 ∨ i = 5 ∨ i = 6 by omega) with rfl | rfl | rfl | rfl | rfl | rfl <;> rfl); rw [sSk_up] at h; exact h)
theorem t_Sk4 (C : Cx G nL X own cc d) (hk : k < 8) {v : VSk} {i x : Int32} {f : Nat → Int32} (pc : Nat) (hr : aup 4 v.2.2.2.1 i x = some f) (hd : decode cc pc = .ok (.iastore, 1))
    (kk : JS G nL X Q sp (sSk c0 k (v.1, v.2.1, v.2.2.1, f, v.2.2.2.2), w) (pc + 1) L st) : JS G nL X Q sp (sSk c0 k v, w) pc L (.int x :: .int i :: .ref (G.2.2 (26 + 7 * k)) :: st) :=
  j_iast C pc (26 + 7 * k) (nG_lt C.2.2.2.2.2.2.1 (by omega)) rfl (a_Sk4 hk (sSk_get _ _ _)) hr (b_Sk4 hk f) hd kk
theorem a_Sk5 (hk : k < 8) {v : VSk} (hv : c0.1 k = v) : cellA G.2.1 G.2.2 (c0, w) (27 + 7 * k) = cI (G.2.1 1) 4 v.2.2.2.2.1 := (by subst hv; exact at_sk (j := 5) hk (by omega))
theorem l_Sk5 (C : Cx G nL X own cc d) (hk : k < 8) {v : VSk} (hv : c0.1 k = v) {i x : Int32} (pc : Nat) (hr : ard 4 v.2.2.2.2.1 i = some x) (hd : decode cc pc = .ok (.baload, 1))
    (kk : JS G nL X Q sp (c0, w) (pc + 1) L (.int x :: st)) : JS G nL X Q sp (c0, w) pc L (.int i :: .ref (G.2.2 (27 + 7 * k)) :: st) :=
  j_zald C pc (27 + 7 * k) (nG_lt C.2.2.2.2.2.2.1 (by omega)) rfl (a_Sk5 hk hv) hr hd kk
theorem b_Sk5 (hk : k < 8) {v : VSk} (f : Nat → Int32) : ∀ j, j < nG G → va_up (cellA G.2.1 G.2.2 (sSk c0 k v, w)) (27 + 7 * k) (cI (G.2.1 1) 4 f) j = cellA G.2.1 G.2.2 (sSk c0 k (v.1, v.2.1, v.2.2.1, v.2.2.2.1, f, v.2.2.2.2.2), w) j := (by have h := up_sk (n0 := nG G) (cy := G.2.1) (ad := G.2.2) (c := sSk c0 k v) (w := w) (v := (v.1, v.2.1, v.2.2.1, v.2.2.2.1, f, v.2.2.2.2.2)) (j0 := 5) hk (by omega) (by intro i hi he; rw [sSk_get]; rcases (show i = 0 ∨ i = 1 ∨ i = 2 ∨ i = 3 ∨ i = 4 ∨ i = 6 by omega) with rfl | rfl | rfl | rfl | rfl | rfl <;> rfl); rw [sSk_up] at h; exact h)
theorem t_Sk5 (C : Cx G nL X own cc d) (hk : k < 8) {v : VSk} {i x : Int32} {f : Nat → Int32} (pc : Nat) (hr : aupz 4 v.2.2.2.2.1 i x = some f) (hd : decode cc pc = .ok (.bastore, 1))
    (kk : JS G nL X Q sp (sSk c0 k (v.1, v.2.1, v.2.2.1, v.2.2.2.1, f, v.2.2.2.2.2), w) (pc + 1) L st) : JS G nL X Q sp (sSk c0 k v, w) pc L (.int x :: .int i :: .ref (G.2.2 (27 + 7 * k)) :: st) :=
  j_zast C pc (27 + 7 * k) (nG_lt C.2.2.2.2.2.2.1 (by omega)) rfl (a_Sk5 hk (sSk_get _ _ _)) hr (b_Sk5 hk f) hd kk
theorem a_Sk6 (hk : k < 8) {v : VSk} (hv : c0.1 k = v) : cellA G.2.1 G.2.2 (c0, w) (28 + 7 * k) = cI (G.2.1 1) 4 v.2.2.2.2.2 := (by subst hv; exact at_sk (j := 6) hk (by omega))
theorem l_Sk6 (C : Cx G nL X own cc d) (hk : k < 8) {v : VSk} (hv : c0.1 k = v) {i x : Int32} (pc : Nat) (hr : ard 4 v.2.2.2.2.2 i = some x) (hd : decode cc pc = .ok (.baload, 1))
    (kk : JS G nL X Q sp (c0, w) (pc + 1) L (.int x :: st)) : JS G nL X Q sp (c0, w) pc L (.int i :: .ref (G.2.2 (28 + 7 * k)) :: st) :=
  j_zald C pc (28 + 7 * k) (nG_lt C.2.2.2.2.2.2.1 (by omega)) rfl (a_Sk6 hk hv) hr hd kk
theorem b_Sk6 (hk : k < 8) {v : VSk} (f : Nat → Int32) : ∀ j, j < nG G → va_up (cellA G.2.1 G.2.2 (sSk c0 k v, w)) (28 + 7 * k) (cI (G.2.1 1) 4 f) j = cellA G.2.1 G.2.2 (sSk c0 k (v.1, v.2.1, v.2.2.1, v.2.2.2.1, v.2.2.2.2.1, f), w) j := (by have h := up_sk (n0 := nG G) (cy := G.2.1) (ad := G.2.2) (c := sSk c0 k v) (w := w) (v := (v.1, v.2.1, v.2.2.1, v.2.2.2.1, v.2.2.2.2.1, f)) (j0 := 6) hk (by omega) (by intro i hi he; rw [sSk_get]; rcases (show i = 0 ∨ i = 1 ∨ i = 2 ∨ i = 3 ∨ i = 4 ∨ i = 5 by omega) with rfl | rfl | rfl | rfl | rfl | rfl <;> rfl); rw [sSk_up] at h; exact h)
theorem t_Sk6 (C : Cx G nL X own cc d) (hk : k < 8) {v : VSk} {i x : Int32} {f : Nat → Int32} (pc : Nat) (hr : aupz 4 v.2.2.2.2.2 i x = some f) (hd : decode cc pc = .ok (.bastore, 1))
    (kk : JS G nL X Q sp (sSk c0 k (v.1, v.2.1, v.2.2.1, v.2.2.2.1, v.2.2.2.2.1, f), w) (pc + 1) L st) : JS G nL X Q sp (sSk c0 k v, w) pc L (.int x :: .int i :: .ref (G.2.2 (28 + 7 * k)) :: st) :=
  j_zast C pc (28 + 7 * k) (nG_lt C.2.2.2.2.2.2.1 (by omega)) rfl (a_Sk6 hk (sSk_get _ _ _)) hr (b_Sk6 hk f) hd kk
theorem a_Ly1 (hk : k < 9) {v : VLy} (hv : c0.2.1 k = v) : cellA G.2.1 G.2.2 (c0, w) (79 + 2 * k) = cI (G.2.1 0) 4 v.2.1 := (by subst hv; exact at_lr hk)
theorem l_Ly1 (C : Cx G nL X own cc d) (hk : k < 9) {v : VLy} (hv : c0.2.1 k = v) {i x : Int32} (pc : Nat) (hr : ard 4 v.2.1 i = some x) (hd : decode cc pc = .ok (.iaload, 1))
    (kk : JS G nL X Q sp (c0, w) (pc + 1) L (.int x :: st)) : JS G nL X Q sp (c0, w) pc L (.int i :: .ref (G.2.2 (79 + 2 * k)) :: st) :=
  j_iald C pc (79 + 2 * k) (nG_lt C.2.2.2.2.2.2.1 (by omega)) rfl (a_Ly1 hk hv) hr hd kk
theorem b_Ly1 (hk : k < 9) {v : VLy} (f : Nat → Int32) : ∀ j, j < nG G → va_up (cellA G.2.1 G.2.2 (sLy c0 k v, w)) (79 + 2 * k) (cI (G.2.1 0) 4 f) j = cellA G.2.1 G.2.2 (sLy c0 k (v.1, f, v.2.2), w) j := (by have h := up_lr (n0 := nG G) (cy := G.2.1) (ad := G.2.2) (c := sLy c0 k v) (w := w) (v := v) (f := f) hk (sLy_get _ _ _); rw [sLy_up] at h; exact h)
theorem t_Ly1 (C : Cx G nL X own cc d) (hk : k < 9) {v : VLy} {i x : Int32} {f : Nat → Int32} (pc : Nat) (hr : aup 4 v.2.1 i x = some f) (hd : decode cc pc = .ok (.iastore, 1))
    (kk : JS G nL X Q sp (sLy c0 k (v.1, f, v.2.2), w) (pc + 1) L st) : JS G nL X Q sp (sLy c0 k v, w) pc L (.int x :: .int i :: .ref (G.2.2 (79 + 2 * k)) :: st) :=
  j_iast C pc (79 + 2 * k) (nG_lt C.2.2.2.2.2.2.1 (by omega)) rfl (a_Ly1 hk (sLy_get _ _ _)) hr (b_Ly1 hk f) hd kk
theorem a_Ck0 (hk : k < 9) {v : VCk} (hv : c0.2.2.1 k = v) : cellA G.2.1 G.2.2 (c0, w) (97 + 2 * k) = cI (G.2.1 0) 8 v.1 := (by subst hv; exact at_cr hk)
theorem l_Ck0 (C : Cx G nL X own cc d) (hk : k < 9) {v : VCk} (hv : c0.2.2.1 k = v) {i x : Int32} (pc : Nat) (hr : ard 8 v.1 i = some x) (hd : decode cc pc = .ok (.iaload, 1))
    (kk : JS G nL X Q sp (c0, w) (pc + 1) L (.int x :: st)) : JS G nL X Q sp (c0, w) pc L (.int i :: .ref (G.2.2 (97 + 2 * k)) :: st) :=
  j_iald C pc (97 + 2 * k) (nG_lt C.2.2.2.2.2.2.1 (by omega)) rfl (a_Ck0 hk hv) hr hd kk
theorem b_Ck0 (hk : k < 9) {v : VCk} (f : Nat → Int32) : ∀ j, j < nG G → va_up (cellA G.2.1 G.2.2 (sCk c0 k v, w)) (97 + 2 * k) (cI (G.2.1 0) 8 f) j = cellA G.2.1 G.2.2 (sCk c0 k (f, v.2), w) j := (by have h := up_cr (n0 := nG G) (cy := G.2.1) (ad := G.2.2) (c := sCk c0 k v) (w := w) (v := v) (f := f) hk (sCk_get _ _ _); rw [sCk_up] at h; exact h)
theorem t_Ck0 (C : Cx G nL X own cc d) (hk : k < 9) {v : VCk} {i x : Int32} {f : Nat → Int32} (pc : Nat) (hr : aup 8 v.1 i x = some f) (hd : decode cc pc = .ok (.iastore, 1))
    (kk : JS G nL X Q sp (sCk c0 k (f, v.2), w) (pc + 1) L st) : JS G nL X Q sp (sCk c0 k v, w) pc L (.int x :: .int i :: .ref (G.2.2 (97 + 2 * k)) :: st) :=
  j_iast C pc (97 + 2 * k) (nG_lt C.2.2.2.2.2.2.1 (by omega)) rfl (a_Ck0 hk (sCk_get _ _ _)) hr (b_Ck0 hk f) hd kk
theorem a_St3 (hk : k < 8) {v : Nat → Int32} (hv : c0.2.2.2.1 k = v) : cellA G.2.1 G.2.2 (c0, w) (7 + 2 * k) = cI (G.2.1 0) 48 v := (by subst hv; exact at_vl hk)
theorem l_St3 (C : Cx G nL X own cc d) (hk : k < 8) {v : Nat → Int32} (hv : c0.2.2.2.1 k = v) {i x : Int32} (pc : Nat) (hr : ard 48 v i = some x) (hd : decode cc pc = .ok (.iaload, 1))
    (kk : JS G nL X Q sp (c0, w) (pc + 1) L (.int x :: st)) : JS G nL X Q sp (c0, w) pc L (.int i :: .ref (G.2.2 (7 + 2 * k)) :: st) :=
  j_iald C pc (7 + 2 * k) (nG_lt C.2.2.2.2.2.2.1 (by omega)) rfl (a_St3 hk hv) hr hd kk
theorem b_St3 (hk : k < 8) {v : VSt} (f : Nat → Int32) : ∀ j, j < nG G → va_up (cellA G.2.1 G.2.2 (sSt c0 k v, w)) (7 + 2 * k) (cI (G.2.1 0) 48 f) j = cellA G.2.1 G.2.2 (sSt c0 k (v.1, v.2.1, v.2.2.1, f, v.2.2.2.2), w) j := (by have h := up_vl (n0 := nG G) (cy := G.2.1) (ad := G.2.2) (c := sSt c0 k v) (w := w) (v := f) hk; rw [sSt_sVl] at h; exact h)
theorem t_St3 (C : Cx G nL X own cc d) (hk : k < 8) {v : VSt} {i x : Int32} {f : Nat → Int32} (pc : Nat) (hr : aup 48 v.2.2.2.1 i x = some f) (hd : decode cc pc = .ok (.iastore, 1))
    (kk : JS G nL X Q sp (sSt c0 k (v.1, v.2.1, v.2.2.1, f, v.2.2.2.2), w) (pc + 1) L st) : JS G nL X Q sp (sSt c0 k v, w) pc L (.int x :: .int i :: .ref (G.2.2 (7 + 2 * k)) :: st) :=
  j_iast C pc (7 + 2 * k) (nG_lt C.2.2.2.2.2.2.1 (by omega)) rfl (a_St3 hk (sSt_g4 _ _ _)) hr (b_St3 hk f) hd kk
theorem a_Tx0 {v : VTx} (hv : c0.2.2.2.2.2.1 = v) : cellA G.2.1 G.2.2 (c0, w) 3 = cI (G.2.1 0) 60 v.1 := (by subst hv; exact at_sp (j := 3) (by omega))
theorem l_Tx0 (C : Cx G nL X own cc d) {v : VTx} (hv : c0.2.2.2.2.2.1 = v) {i x : Int32} (pc : Nat) (hr : ard 60 v.1 i = some x) (hd : decode cc pc = .ok (.iaload, 1))
    (kk : JS G nL X Q sp (c0, w) (pc + 1) L (.int x :: st)) : JS G nL X Q sp (c0, w) pc L (.int i :: .ref (G.2.2 3) :: st) :=
  j_iald C pc 3 (nG_lt C.2.2.2.2.2.2.1 (by omega)) rfl (a_Tx0 hv) hr hd kk
theorem b_Tx0 {v : VTx} (f : Nat → Int32) : ∀ j, j < nG G → va_up (cellA G.2.1 G.2.2 (sTx c0 v, w)) 3 (cI (G.2.1 0) 60 f) j = cellA G.2.1 G.2.2 (sTx c0 (f, v.2), w) j := (fun j hj => up_sp (cy := G.2.1) (ad := G.2.2) (c := sTx c0 v) (w := w) (t := (f, v.2)) (v := c0.2.2.2.2.2.2) (j0 := 3) (by omega) (by intro i hi he; rcases (show i = 0 ∨ i = 1 ∨ i = 2 ∨ i = 4 ∨ i = 5 by omega) with rfl | rfl | rfl | rfl | rfl <;> rfl) j hj)
theorem t_Tx0 (C : Cx G nL X own cc d) {v : VTx} {i x : Int32} {f : Nat → Int32} (pc : Nat) (hr : aup 60 v.1 i x = some f) (hd : decode cc pc = .ok (.iastore, 1))
    (kk : JS G nL X Q sp (sTx c0 (f, v.2), w) (pc + 1) L st) : JS G nL X Q sp (sTx c0 v, w) pc L (.int x :: .int i :: .ref (G.2.2 3) :: st) :=
  j_iast C pc 3 (nG_lt C.2.2.2.2.2.2.1 (by omega)) rfl (a_Tx0 rfl) hr (b_Tx0 f) hd kk
theorem a_Tx2 {v : VTx} (hv : c0.2.2.2.2.2.1 = v) : cellA G.2.1 G.2.2 (c0, w) 4 = cI (G.2.1 0) 30 v.2.2.1 := (by subst hv; exact at_sp (j := 4) (by omega))
theorem l_Tx2 (C : Cx G nL X own cc d) {v : VTx} (hv : c0.2.2.2.2.2.1 = v) {i x : Int32} (pc : Nat) (hr : ard 30 v.2.2.1 i = some x) (hd : decode cc pc = .ok (.iaload, 1))
    (kk : JS G nL X Q sp (c0, w) (pc + 1) L (.int x :: st)) : JS G nL X Q sp (c0, w) pc L (.int i :: .ref (G.2.2 4) :: st) :=
  j_iald C pc 4 (nG_lt C.2.2.2.2.2.2.1 (by omega)) rfl (a_Tx2 hv) hr hd kk
theorem b_Tx2 {v : VTx} (f : Nat → Int32) : ∀ j, j < nG G → va_up (cellA G.2.1 G.2.2 (sTx c0 v, w)) 4 (cI (G.2.1 0) 30 f) j = cellA G.2.1 G.2.2 (sTx c0 (v.1, v.2.1, f, v.2.2.2), w) j := (fun j hj => up_sp (cy := G.2.1) (ad := G.2.2) (c := sTx c0 v) (w := w) (t := (v.1, v.2.1, f, v.2.2.2)) (v := c0.2.2.2.2.2.2) (j0 := 4) (by omega) (by intro i hi he; rcases (show i = 0 ∨ i = 1 ∨ i = 2 ∨ i = 3 ∨ i = 5 by omega) with rfl | rfl | rfl | rfl | rfl <;> rfl) j hj)
theorem t_Tx2 (C : Cx G nL X own cc d) {v : VTx} {i x : Int32} {f : Nat → Int32} (pc : Nat) (hr : aup 30 v.2.2.1 i x = some f) (hd : decode cc pc = .ok (.iastore, 1))
    (kk : JS G nL X Q sp (sTx c0 (v.1, v.2.1, f, v.2.2.2), w) (pc + 1) L st) : JS G nL X Q sp (sTx c0 v, w) pc L (.int x :: .int i :: .ref (G.2.2 4) :: st) :=
  j_iast C pc 4 (nG_lt C.2.2.2.2.2.2.1 (by omega)) rfl (a_Tx2 rfl) hr (b_Tx2 f) hd kk
theorem a_Tx3 {v : VTx} (hv : c0.2.2.2.2.2.1 = v) : cellA G.2.1 G.2.2 (c0, w) 5 = cI (G.2.1 0) 30 v.2.2.2.1 := (by subst hv; exact at_sp (j := 5) (by omega))
theorem l_Tx3 (C : Cx G nL X own cc d) {v : VTx} (hv : c0.2.2.2.2.2.1 = v) {i x : Int32} (pc : Nat) (hr : ard 30 v.2.2.2.1 i = some x) (hd : decode cc pc = .ok (.iaload, 1))
    (kk : JS G nL X Q sp (c0, w) (pc + 1) L (.int x :: st)) : JS G nL X Q sp (c0, w) pc L (.int i :: .ref (G.2.2 5) :: st) :=
  j_iald C pc 5 (nG_lt C.2.2.2.2.2.2.1 (by omega)) rfl (a_Tx3 hv) hr hd kk
theorem b_Tx3 {v : VTx} (f : Nat → Int32) : ∀ j, j < nG G → va_up (cellA G.2.1 G.2.2 (sTx c0 v, w)) 5 (cI (G.2.1 0) 30 f) j = cellA G.2.1 G.2.2 (sTx c0 (v.1, v.2.1, v.2.2.1, f, v.2.2.2.2), w) j := (fun j hj => up_sp (cy := G.2.1) (ad := G.2.2) (c := sTx c0 v) (w := w) (t := (v.1, v.2.1, v.2.2.1, f, v.2.2.2.2)) (v := c0.2.2.2.2.2.2) (j0 := 5) (by omega) (by intro i hi he; rcases (show i = 0 ∨ i = 1 ∨ i = 2 ∨ i = 3 ∨ i = 4 by omega) with rfl | rfl | rfl | rfl | rfl <;> rfl) j hj)
theorem t_Tx3 (C : Cx G nL X own cc d) {v : VTx} {i x : Int32} {f : Nat → Int32} (pc : Nat) (hr : aup 30 v.2.2.2.1 i x = some f) (hd : decode cc pc = .ok (.iastore, 1))
    (kk : JS G nL X Q sp (sTx c0 (v.1, v.2.1, v.2.2.1, f, v.2.2.2.2), w) (pc + 1) L st) : JS G nL X Q sp (sTx c0 v, w) pc L (.int x :: .int i :: .ref (G.2.2 5) :: st) :=
  j_iast C pc 5 (nG_lt C.2.2.2.2.2.2.1 (by omega)) rfl (a_Tx3 rfl) hr (b_Tx3 f) hd kk
theorem a_Rw0 (c0 : VC) (w : VW) (k : Nat) (v : VRw) : cellA G.2.1 G.2.2 (c0, sRw w k v) (114 + k) = cI (G.2.1 0) 10 v.1 := by rw [at_rw, sRw_0]
theorem b_Rw0 (c0 : VC) (w : VW) (k : Nat) (v : VRw) (f : Nat → Int32) : ∀ j, j < nG G → va_up (cellA G.2.1 G.2.2 (c0, sRw w k v)) (114 + k) (cI (G.2.1 0) 10 f) j = cellA G.2.1 G.2.2 (c0, sRw w k (f, v.2)) j := by rw [← sRw_u0 w k v f]; exact up_rw
theorem l_Rw0 (C : Cx G nL X own cc d) {k : Nat} (hk : 119 + k ≤ nG G) (w : VW) (v : VRw) {i x : Int32} (pc : Nat) (hr : ard 10 v.1 i = some x) (hd : decode cc pc = .ok (.iaload, 1))
    (kk : JS G nL X Q sp (c0, sRw w k v) (pc + 1) L (.int x :: st)) : JS G nL X Q sp (c0, sRw w k v) pc L (.int i :: .ref (G.2.2 (114 + k)) :: st) :=
  j_iald C pc (114 + k) (by omega) rfl (a_Rw0 c0 w k v) hr hd kk
theorem t_Rw0 (C : Cx G nL X own cc d) {k : Nat} (hk : 119 + k ≤ nG G) (w : VW) (v : VRw) {i x : Int32} {f : Nat → Int32} (pc : Nat) (hr : aup 10 v.1 i x = some f) (hd : decode cc pc = .ok (.iastore, 1))
    (kk : JS G nL X Q sp (c0, sRw w k (f, v.2)) (pc + 1) L st) : JS G nL X Q sp (c0, sRw w k v) pc L (.int x :: .int i :: .ref (G.2.2 (114 + k)) :: st) :=
  j_iast C pc (114 + k) (by omega) rfl (a_Rw0 c0 w k v) hr (b_Rw0 c0 w k v f) hd kk
theorem a_Rw1 (c0 : VC) (w : VW) (k : Nat) (v : VRw) : cellA G.2.1 G.2.2 (c0, sRw w k v) (114 + (1 + k)) = cI (G.2.1 0) 32 v.2.1 := by rw [at_rw, sRw_1]
theorem b_Rw1 (c0 : VC) (w : VW) (k : Nat) (v : VRw) (f : Nat → Int32) : ∀ j, j < nG G → va_up (cellA G.2.1 G.2.2 (c0, sRw w k v)) (114 + (1 + k)) (cI (G.2.1 0) 32 f) j = cellA G.2.1 G.2.2 (c0, sRw w k (v.1, f, v.2.2)) j := by rw [← sRw_u1 w k v f]; exact up_rw
theorem l_Rw1 (C : Cx G nL X own cc d) {k : Nat} (hk : 119 + k ≤ nG G) (w : VW) (v : VRw) {i x : Int32} (pc : Nat) (hr : ard 32 v.2.1 i = some x) (hd : decode cc pc = .ok (.iaload, 1))
    (kk : JS G nL X Q sp (c0, sRw w k v) (pc + 1) L (.int x :: st)) : JS G nL X Q sp (c0, sRw w k v) pc L (.int i :: .ref (G.2.2 (114 + (1 + k))) :: st) :=
  j_iald C pc (114 + (1 + k)) (by omega) rfl (a_Rw1 c0 w k v) hr hd kk
theorem t_Rw1 (C : Cx G nL X own cc d) {k : Nat} (hk : 119 + k ≤ nG G) (w : VW) (v : VRw) {i x : Int32} {f : Nat → Int32} (pc : Nat) (hr : aup 32 v.2.1 i x = some f) (hd : decode cc pc = .ok (.iastore, 1))
    (kk : JS G nL X Q sp (c0, sRw w k (v.1, f, v.2.2)) (pc + 1) L st) : JS G nL X Q sp (c0, sRw w k v) pc L (.int x :: .int i :: .ref (G.2.2 (114 + (1 + k))) :: st) :=
  j_iast C pc (114 + (1 + k)) (by omega) rfl (a_Rw1 c0 w k v) hr (b_Rw1 c0 w k v f) hd kk
theorem a_Rw2 (c0 : VC) (w : VW) (k : Nat) (v : VRw) : cellA G.2.1 G.2.2 (c0, sRw w k v) (114 + (2 + k)) = cI (G.2.1 0) 48 v.2.2.1 := by rw [at_rw, sRw_2]
theorem b_Rw2 (c0 : VC) (w : VW) (k : Nat) (v : VRw) (f : Nat → Int32) : ∀ j, j < nG G → va_up (cellA G.2.1 G.2.2 (c0, sRw w k v)) (114 + (2 + k)) (cI (G.2.1 0) 48 f) j = cellA G.2.1 G.2.2 (c0, sRw w k (v.1, v.2.1, f, v.2.2.2)) j := by rw [← sRw_u2 w k v f]; exact up_rw
theorem l_Rw2 (C : Cx G nL X own cc d) {k : Nat} (hk : 119 + k ≤ nG G) (w : VW) (v : VRw) {i x : Int32} (pc : Nat) (hr : ard 48 v.2.2.1 i = some x) (hd : decode cc pc = .ok (.iaload, 1))
    (kk : JS G nL X Q sp (c0, sRw w k v) (pc + 1) L (.int x :: st)) : JS G nL X Q sp (c0, sRw w k v) pc L (.int i :: .ref (G.2.2 (114 + (2 + k))) :: st) :=
  j_iald C pc (114 + (2 + k)) (by omega) rfl (a_Rw2 c0 w k v) hr hd kk
theorem t_Rw2 (C : Cx G nL X own cc d) {k : Nat} (hk : 119 + k ≤ nG G) (w : VW) (v : VRw) {i x : Int32} {f : Nat → Int32} (pc : Nat) (hr : aup 48 v.2.2.1 i x = some f) (hd : decode cc pc = .ok (.iastore, 1))
    (kk : JS G nL X Q sp (c0, sRw w k (v.1, v.2.1, f, v.2.2.2)) (pc + 1) L st) : JS G nL X Q sp (c0, sRw w k v) pc L (.int x :: .int i :: .ref (G.2.2 (114 + (2 + k))) :: st) :=
  j_iast C pc (114 + (2 + k)) (by omega) rfl (a_Rw2 c0 w k v) hr (b_Rw2 c0 w k v f) hd kk
theorem a_Rw3 (c0 : VC) (w : VW) (k : Nat) (v : VRw) : cellA G.2.1 G.2.2 (c0, sRw w k v) (114 + (3 + k)) = cI (G.2.1 0) 48 v.2.2.2.1 := by rw [at_rw, sRw_3]
theorem b_Rw3 (c0 : VC) (w : VW) (k : Nat) (v : VRw) (f : Nat → Int32) : ∀ j, j < nG G → va_up (cellA G.2.1 G.2.2 (c0, sRw w k v)) (114 + (3 + k)) (cI (G.2.1 0) 48 f) j = cellA G.2.1 G.2.2 (c0, sRw w k (v.1, v.2.1, v.2.2.1, f, v.2.2.2.2)) j := by rw [← sRw_u3 w k v f]; exact up_rw
theorem l_Rw3 (C : Cx G nL X own cc d) {k : Nat} (hk : 119 + k ≤ nG G) (w : VW) (v : VRw) {i x : Int32} (pc : Nat) (hr : ard 48 v.2.2.2.1 i = some x) (hd : decode cc pc = .ok (.iaload, 1))
    (kk : JS G nL X Q sp (c0, sRw w k v) (pc + 1) L (.int x :: st)) : JS G nL X Q sp (c0, sRw w k v) pc L (.int i :: .ref (G.2.2 (114 + (3 + k))) :: st) :=
  j_iald C pc (114 + (3 + k)) (by omega) rfl (a_Rw3 c0 w k v) hr hd kk
theorem t_Rw3 (C : Cx G nL X own cc d) {k : Nat} (hk : 119 + k ≤ nG G) (w : VW) (v : VRw) {i x : Int32} {f : Nat → Int32} (pc : Nat) (hr : aup 48 v.2.2.2.1 i x = some f) (hd : decode cc pc = .ok (.iastore, 1))
    (kk : JS G nL X Q sp (c0, sRw w k (v.1, v.2.1, v.2.2.1, f, v.2.2.2.2)) (pc + 1) L st) : JS G nL X Q sp (c0, sRw w k v) pc L (.int x :: .int i :: .ref (G.2.2 (114 + (3 + k))) :: st) :=
  j_iast C pc (114 + (3 + k)) (by omega) rfl (a_Rw3 c0 w k v) hr (b_Rw3 c0 w k v f) hd kk
theorem a_Rw4 (c0 : VC) (w : VW) (k : Nat) (v : VRw) : cellA G.2.1 G.2.2 (c0, sRw w k v) (114 + (4 + k)) = cI (G.2.1 0) 48 v.2.2.2.2 := by rw [at_rw, sRw_4]
theorem b_Rw4 (c0 : VC) (w : VW) (k : Nat) (v : VRw) (f : Nat → Int32) : ∀ j, j < nG G → va_up (cellA G.2.1 G.2.2 (c0, sRw w k v)) (114 + (4 + k)) (cI (G.2.1 0) 48 f) j = cellA G.2.1 G.2.2 (c0, sRw w k (v.1, v.2.1, v.2.2.1, v.2.2.2.1, f)) j := by rw [← sRw_u4 w k v f]; exact up_rw
theorem l_Rw4 (C : Cx G nL X own cc d) {k : Nat} (hk : 119 + k ≤ nG G) (w : VW) (v : VRw) {i x : Int32} (pc : Nat) (hr : ard 48 v.2.2.2.2 i = some x) (hd : decode cc pc = .ok (.iaload, 1))
    (kk : JS G nL X Q sp (c0, sRw w k v) (pc + 1) L (.int x :: st)) : JS G nL X Q sp (c0, sRw w k v) pc L (.int i :: .ref (G.2.2 (114 + (4 + k))) :: st) :=
  j_iald C pc (114 + (4 + k)) (by omega) rfl (a_Rw4 c0 w k v) hr hd kk
theorem t_Rw4 (C : Cx G nL X own cc d) {k : Nat} (hk : 119 + k ≤ nG G) (w : VW) (v : VRw) {i x : Int32} {f : Nat → Int32} (pc : Nat) (hr : aup 48 v.2.2.2.2 i x = some f) (hd : decode cc pc = .ok (.iastore, 1))
    (kk : JS G nL X Q sp (c0, sRw w k (v.1, v.2.1, v.2.2.1, v.2.2.2.1, f)) (pc + 1) L st) : JS G nL X Q sp (c0, sRw w k v) pc L (.int x :: .int i :: .ref (G.2.2 (114 + (4 + k))) :: st) :=
  j_iast C pc (114 + (4 + k)) (by omega) rfl (a_Rw4 c0 w k v) hr (b_Rw4 c0 w k v f) hd kk
theorem l_Sz (C : Cx G nL X own cc d) (hk : 120 ≤ nG G) (w : VW) (v : Nat → Int32) {i x : Int32} (pc : Nat) (hr : ard 4 v i = some x) (hd : decode cc pc = .ok (.iaload, 1))
    (kk : JS G nL X Q sp (c0, va_up w 5 (4, v)) (pc + 1) L (.int x :: st)) : JS G nL X Q sp (c0, va_up w 5 (4, v)) pc L (.int i :: .ref (G.2.2 119) :: st) :=
  j_iald C pc 119 (by omega) rfl (show cellA G.2.1 G.2.2 (c0, va_up w 5 (4, v)) (114 + 5) = cI (G.2.1 0) 4 v by rw [at_rw, va_up_self]) hr hd kk
theorem t_Sz (C : Cx G nL X own cc d) (hk : 120 ≤ nG G) (w : VW) (v : Nat → Int32) {i x : Int32} {f : Nat → Int32} (pc : Nat) (hr : aup 4 v i x = some f) (hd : decode cc pc = .ok (.iastore, 1))
    (kk : JS G nL X Q sp (c0, va_up w 5 (4, f)) (pc + 1) L st) : JS G nL X Q sp (c0, va_up w 5 (4, v)) pc L (.int x :: .int i :: .ref (G.2.2 119) :: st) :=
  j_iast C pc 119 (by omega) rfl (show cellA G.2.1 G.2.2 (c0, va_up w 5 (4, v)) (114 + 5) = cI (G.2.1 0) 4 v by rw [at_rw, va_up_self]) hr (by
    have h := up_rw (n0 := nG G) (cy := G.2.1) (ad := G.2.2) (c := c0) (w := va_up w 5 (4, v)) (j0 := 5) (n := 4) (f := f)
    rw [va_up_up] at h
    exact h) hd kk
end
