def FL (own : String) (index : Nat) (CN n dd : String) : Prop := Cond.fieldLink own index CN n dd ∈ gw ∨ ∃ host, Cond.fieldLinkNest own index CN n dd host ∈ nestW
theorem iw0 : ∀ w ∈ u_ws RX0 TX0 3, w ∈ gw := by
  show ∀ w ∈ [u_lay RX0 TX0 0, u_lay RX0 TX0 1, u_lay RX0 TX0 2], w ∈ gw
  exact (List.forall_mem_cons.mpr ⟨gwm (i := 182) (by decide +kernel) (by decide +kernel), (List.forall_mem_cons.mpr ⟨gwm (i := 184) (by decide +kernel) (by decide +kernel), (List.forall_mem_cons.mpr ⟨gwm (i := 186) (by decide +kernel) (by decide +kernel), (fun _ h => nomatch h)⟩)⟩)⟩)
theorem iw1 : ∀ w ∈ u_ws RX1 TX1 7, w ∈ gw := by
  show ∀ w ∈ [u_lay RX1 TX1 0, u_lay RX1 TX1 1, u_lay RX1 TX1 2, u_lay RX1 TX1 3, u_lay RX1 TX1 4, u_lay RX1 TX1 5, u_lay RX1 TX1 6], w ∈ gw
  exact (List.forall_mem_cons.mpr ⟨gwm (i := 156) (by decide +kernel) (by decide +kernel), (List.forall_mem_cons.mpr ⟨gwm (i := 158) (by decide +kernel) (by decide +kernel), (List.forall_mem_cons.mpr ⟨gwm (i := 160) (by decide +kernel) (by decide +kernel), (List.forall_mem_cons.mpr ⟨gwm (i := 162) (by decide +kernel) (by decide +kernel), (List.forall_mem_cons.mpr ⟨gwm (i := 164) (by decide +kernel) (by decide +kernel), (List.forall_mem_cons.mpr ⟨gwm (i := 166) (by decide +kernel) (by decide +kernel), (List.forall_mem_cons.mpr ⟨gwm (i := 168) (by decide +kernel) (by decide +kernel), (fun _ h => nomatch h)⟩)⟩)⟩)⟩)⟩)⟩)⟩)
theorem iw2 : ∀ w ∈ u_ws RX2 TX2 9, w ∈ gw := by
  show ∀ w ∈ [u_lay RX2 TX2 0, u_lay RX2 TX2 1, u_lay RX2 TX2 2, u_lay RX2 TX2 3, u_lay RX2 TX2 4, u_lay RX2 TX2 5, u_lay RX2 TX2 6, u_lay RX2 TX2 7, u_lay RX2 TX2 8], w ∈ gw
  exact (List.forall_mem_cons.mpr ⟨gwm (i := 205) (by decide +kernel) (by decide +kernel), (List.forall_mem_cons.mpr ⟨gwm (i := 207) (by decide +kernel) (by decide +kernel), (List.forall_mem_cons.mpr ⟨gwm (i := 209) (by decide +kernel) (by decide +kernel), (List.forall_mem_cons.mpr ⟨gwm (i := 211) (by decide +kernel) (by decide +kernel), (List.forall_mem_cons.mpr ⟨gwm (i := 213) (by decide +kernel) (by decide +kernel), (List.forall_mem_cons.mpr ⟨gwm (i := 215) (by decide +kernel) (by decide +kernel), (List.forall_mem_cons.mpr ⟨gwm (i := 217) (by decide +kernel) (by decide +kernel), (List.forall_mem_cons.mpr ⟨gwm (i := 219) (by decide +kernel) (by decide +kernel), (List.forall_mem_cons.mpr ⟨gwm (i := 221) (by decide +kernel) (by decide +kernel), (fun _ h => nomatch h)⟩)⟩)⟩)⟩)⟩)⟩)⟩)⟩)⟩)
theorem iw3 : ∀ w ∈ u_ws RX3 TX3 6, w ∈ gw := by
  show ∀ w ∈ [u_lay RX3 TX3 0, u_lay RX3 TX3 1, u_lay RX3 TX3 2, u_lay RX3 TX3 3, u_lay RX3 TX3 4, u_lay RX3 TX3 5], w ∈ gw
  exact (List.forall_mem_cons.mpr ⟨gwm (i := 125) (by decide +kernel) (by decide +kernel), (List.forall_mem_cons.mpr ⟨gwm (i := 127) (by decide +kernel) (by decide +kernel), (List.forall_mem_cons.mpr ⟨gwm (i := 129) (by decide +kernel) (by decide +kernel), (List.forall_mem_cons.mpr ⟨gwm (i := 131) (by decide +kernel) (by decide +kernel), (List.forall_mem_cons.mpr ⟨gwm (i := 133) (by decide +kernel) (by decide +kernel), (List.forall_mem_cons.mpr ⟨gwm (i := 135) (by decide +kernel) (by decide +kernel), (fun _ h => nomatch h)⟩)⟩)⟩)⟩)⟩)⟩)
theorem iw4 : ∀ w ∈ u_ws RX4 TX4 7, w ∈ gw := by
  show ∀ w ∈ [u_lay RX4 TX4 0, u_lay RX4 TX4 1, u_lay RX4 TX4 2, u_lay RX4 TX4 3, u_lay RX4 TX4 4, u_lay RX4 TX4 5, u_lay RX4 TX4 6], w ∈ gw
  exact (List.forall_mem_cons.mpr ⟨gwm (i := 240) (by decide +kernel) (by decide +kernel), (List.forall_mem_cons.mpr ⟨gwm (i := 242) (by decide +kernel) (by decide +kernel), (List.forall_mem_cons.mpr ⟨gwm (i := 244) (by decide +kernel) (by decide +kernel), (List.forall_mem_cons.mpr ⟨gwm (i := 246) (by decide +kernel) (by decide +kernel), (List.forall_mem_cons.mpr ⟨gwm (i := 248) (by decide +kernel) (by decide +kernel), (List.forall_mem_cons.mpr ⟨gwm (i := 250) (by decide +kernel) (by decide +kernel), (List.forall_mem_cons.mpr ⟨gwm (i := 252) (by decide +kernel) (by decide +kernel), (fun _ h => nomatch h)⟩)⟩)⟩)⟩)⟩)⟩)⟩)
theorem iw5 : ∀ w ∈ u_ws RX5 TX5 8, w ∈ gw := by
  show ∀ w ∈ [u_lay RX5 TX5 0, u_lay RX5 TX5 1, u_lay RX5 TX5 2, u_lay RX5 TX5 3, u_lay RX5 TX5 4, u_lay RX5 TX5 5, u_lay RX5 TX5 6, u_lay RX5 TX5 7], w ∈ gw
  exact (List.forall_mem_cons.mpr ⟨gwm (i := 267) (by decide +kernel) (by decide +kernel), (List.forall_mem_cons.mpr ⟨gwm (i := 269) (by decide +kernel) (by decide +kernel), (List.forall_mem_cons.mpr ⟨gwm (i := 271) (by decide +kernel) (by decide +kernel), (List.forall_mem_cons.mpr ⟨gwm (i := 273) (by decide +kernel) (by decide +kernel), (List.forall_mem_cons.mpr ⟨gwm (i := 275) (by decide +kernel) (by decide +kernel), (List.forall_mem_cons.mpr ⟨gwm (i := 277) (by decide +kernel) (by decide +kernel), (List.forall_mem_cons.mpr ⟨gwm (i := 279) (by decide +kernel) (by decide +kernel), (List.forall_mem_cons.mpr ⟨gwm (i := 281) (by decide +kernel) (by decide +kernel), (fun _ h => nomatch h)⟩)⟩)⟩)⟩)⟩)⟩)⟩)⟩)
theorem iw6 : ∀ w ∈ u_ws RX6 TX6 11, w ∈ gw := by
  show ∀ w ∈ [u_lay RX6 TX6 0, u_lay RX6 TX6 1, u_lay RX6 TX6 2, u_lay RX6 TX6 3, u_lay RX6 TX6 4, u_lay RX6 TX6 5, u_lay RX6 TX6 6, u_lay RX6 TX6 7, u_lay RX6 TX6 8, u_lay RX6 TX6 9, u_lay RX6 TX6 10], w ∈ gw
  exact (List.forall_mem_cons.mpr ⟨gwm (i := 1036) (by decide +kernel) (by decide +kernel), (List.forall_mem_cons.mpr ⟨gwm (i := 1038) (by decide +kernel) (by decide +kernel), (List.forall_mem_cons.mpr ⟨gwm (i := 1040) (by decide +kernel) (by decide +kernel), (List.forall_mem_cons.mpr ⟨gwm (i := 1042) (by decide +kernel) (by decide +kernel), (List.forall_mem_cons.mpr ⟨gwm (i := 1044) (by decide +kernel) (by decide +kernel), (List.forall_mem_cons.mpr ⟨gwm (i := 1046) (by decide +kernel) (by decide +kernel), (List.forall_mem_cons.mpr ⟨gwm (i := 1048) (by decide +kernel) (by decide +kernel), (List.forall_mem_cons.mpr ⟨gwm (i := 1050) (by decide +kernel) (by decide +kernel), (List.forall_mem_cons.mpr ⟨gwm (i := 1052) (by decide +kernel) (by decide +kernel), (List.forall_mem_cons.mpr ⟨gwm (i := 1054) (by decide +kernel) (by decide +kernel), (List.forall_mem_cons.mpr ⟨gwm (i := 1056) (by decide +kernel) (by decide +kernel), (fun _ h => nomatch h)⟩)⟩)⟩)⟩)⟩)⟩)⟩)⟩)⟩)⟩)⟩)
section
variable {ρ : Type} {G : GG} {nL : Nat} {X : WX} {Q : ρ → State → Prop} {sp : Option ρ} {V : VA} {L : List (Nat × Value)} {st : List Value} {own : String} {cc : ByteArray} {d : Nat} {c0 : VC} {w : VR} {k : Nat}
theorem j_fget (C : Cx G nL X own cc d) {ci n N index a : Nat} {CN : String} {T : u_T} {fs : List Value} {v : Value} (pc q : Nat) (hq : q < 121) (ha : a = G.2.2 q) (hc : cellA G.2.1 G.2.2 V q = .inr (ci, fs)) (hcl : vwCl[ci]? = some (CN, T, N)) (hin : ∀ w ∈ u_ws CN T N, w ∈ gw) (hk : n < N) (hlink : FL own index CN (T n).2.1 (T n).2.2.1) (hT : (T n).1 = CN) (hv : fs[n]? = some v) (hd : decode cc pc = .ok (.getfield index, 3))
    (kk : JS G nL X Q sp V (pc + 3) L (v :: st)) : JS G nL X Q sp V pc L (.ref a :: st) := by
  rcases hlink with h | ⟨host, h⟩
  · exact j_get C pc q hq ha hc hcl hin hk (ref := CN) h hT hv hd kk
  · exact j_getN C pc q hq ha hc hcl hin hk (ref := CN) h hT hv hd kk
theorem g_Sk0 (C : Cx G nL X own cc d) (hk : k < 8) (pc : Nat) {index : Nat} (hl : FL own index RX3 "sizes" "[I") (hd : decode cc pc = .ok (.getfield index, 3))
    (kk : JS G nL X Q sp (c0, w) (pc + 3) L (.ref (G.2.2 (23 + 7 * k)) :: st)) : JS G nL X Q sp (c0, w) pc L (.ref (G.2.2 (22 + 7 * k)) :: st) := by
  exact j_fget C pc (22 + 7 * k) (by omega) rfl (at_sk (j := 0) hk (by omega)) (ci := 3) (n := 0) rfl iw3 (by omega) hl rfl rfl hd kk
theorem g_Sk1 (C : Cx G nL X own cc d) (hk : k < 8) (pc : Nat) {index : Nat} (hl : FL own index RX3 "ranks" "[I") (hd : decode cc pc = .ok (.getfield index, 3))
    (kk : JS G nL X Q sp (c0, w) (pc + 3) L (.ref (G.2.2 (24 + 7 * k)) :: st)) : JS G nL X Q sp (c0, w) pc L (.ref (G.2.2 (22 + 7 * k)) :: st) := by
  exact j_fget C pc (22 + 7 * k) (by omega) rfl (at_sk (j := 0) hk (by omega)) (ci := 3) (n := 1) rfl iw3 (by omega) hl rfl rfl hd kk
theorem g_Sk2 (C : Cx G nL X own cc d) (hk : k < 8) (pc : Nat) {index : Nat} (hl : FL own index RX3 "delays" "[I") (hd : decode cc pc = .ok (.getfield index, 3))
    (kk : JS G nL X Q sp (c0, w) (pc + 3) L (.ref (G.2.2 (25 + 7 * k)) :: st)) : JS G nL X Q sp (c0, w) pc L (.ref (G.2.2 (22 + 7 * k)) :: st) := by
  exact j_fget C pc (22 + 7 * k) (by omega) rfl (at_sk (j := 0) hk (by omega)) (ci := 3) (n := 2) rfl iw3 (by omega) hl rfl rfl hd kk
theorem g_Sk3 (C : Cx G nL X own cc d) (hk : k < 8) (pc : Nat) {index : Nat} (hl : FL own index RX3 "reads" "[I") (hd : decode cc pc = .ok (.getfield index, 3))
    (kk : JS G nL X Q sp (c0, w) (pc + 3) L (.ref (G.2.2 (26 + 7 * k)) :: st)) : JS G nL X Q sp (c0, w) pc L (.ref (G.2.2 (22 + 7 * k)) :: st) := by
  exact j_fget C pc (22 + 7 * k) (by omega) rfl (at_sk (j := 0) hk (by omega)) (ci := 3) (n := 3) rfl iw3 (by omega) hl rfl rfl hd kk
theorem g_Sk4 (C : Cx G nL X own cc d) (hk : k < 8) (pc : Nat) {index : Nat} (hl : FL own index RX3 "failed" "[Z") (hd : decode cc pc = .ok (.getfield index, 3))
    (kk : JS G nL X Q sp (c0, w) (pc + 3) L (.ref (G.2.2 (27 + 7 * k)) :: st)) : JS G nL X Q sp (c0, w) pc L (.ref (G.2.2 (22 + 7 * k)) :: st) := by
  exact j_fget C pc (22 + 7 * k) (by omega) rfl (at_sk (j := 0) hk (by omega)) (ci := 3) (n := 4) rfl iw3 (by omega) hl rfl rfl hd kk
theorem g_Sk5 (C : Cx G nL X own cc d) (hk : k < 8) (pc : Nat) {index : Nat} (hl : FL own index RX3 "mapped" "[Z") (hd : decode cc pc = .ok (.getfield index, 3))
    (kk : JS G nL X Q sp (c0, w) (pc + 3) L (.ref (G.2.2 (28 + 7 * k)) :: st)) : JS G nL X Q sp (c0, w) pc L (.ref (G.2.2 (22 + 7 * k)) :: st) := by
  exact j_fget C pc (22 + 7 * k) (by omega) rfl (at_sk (j := 0) hk (by omega)) (ci := 3) (n := 5) rfl iw3 (by omega) hl rfl rfl hd kk
theorem g_Ly0 (C : Cx G nL X own cc d) (hk : k < 9) {v : VLy} (hv : c0.2.1 k = v) (pc : Nat) {index : Nat} (hl : FL own index RX1 "kind" "I") (hd : decode cc pc = .ok (.getfield index, 3))
    (kk : JS G nL X Q sp (c0, w) (pc + 3) L (.int v.1 :: st)) : JS G nL X Q sp (c0, w) pc L (.ref (G.2.2 (78 + 2 * k)) :: st) := by
  subst hv
  exact j_fget C pc (78 + 2 * k) (by omega) rfl (at_ly hk) (ci := 1) (n := 0) rfl iw1 (by omega) hl rfl rfl hd kk
theorem g_Ly1 (C : Cx G nL X own cc d) (hk : k < 9) (pc : Nat) {index : Nat} (hl : FL own index RX1 "sizes" "[I") (hd : decode cc pc = .ok (.getfield index, 3))
    (kk : JS G nL X Q sp (c0, w) (pc + 3) L (.ref (G.2.2 (79 + 2 * k)) :: st)) : JS G nL X Q sp (c0, w) pc L (.ref (G.2.2 (78 + 2 * k)) :: st) := by
  exact j_fget C pc (78 + 2 * k) (by omega) rfl (at_ly hk) (ci := 1) (n := 1) rfl iw1 (by omega) hl rfl rfl hd kk
theorem g_Ly2 (C : Cx G nL X own cc d) (hk : k < 9) {v : VLy} (hv : c0.2.1 k = v) (pc : Nat) {index : Nat} (hl : FL own index RX1 "room0" "I") (hd : decode cc pc = .ok (.getfield index, 3))
    (kk : JS G nL X Q sp (c0, w) (pc + 3) L (.int v.2.2.1 :: st)) : JS G nL X Q sp (c0, w) pc L (.ref (G.2.2 (78 + 2 * k)) :: st) := by
  subst hv
  exact j_fget C pc (78 + 2 * k) (by omega) rfl (at_ly hk) (ci := 1) (n := 2) rfl iw1 (by omega) hl rfl rfl hd kk
theorem g_Ly3 (C : Cx G nL X own cc d) (hk : k < 9) {v : VLy} (hv : c0.2.1 k = v) (pc : Nat) {index : Nat} (hl : FL own index RX1 "room1" "I") (hd : decode cc pc = .ok (.getfield index, 3))
    (kk : JS G nL X Q sp (c0, w) (pc + 3) L (.int v.2.2.2.1 :: st)) : JS G nL X Q sp (c0, w) pc L (.ref (G.2.2 (78 + 2 * k)) :: st) := by
  subst hv
  exact j_fget C pc (78 + 2 * k) (by omega) rfl (at_ly hk) (ci := 1) (n := 3) rfl iw1 (by omega) hl rfl rfl hd kk
theorem g_Ly4 (C : Cx G nL X own cc d) (hk : k < 9) {v : VLy} (hv : c0.2.1 k = v) (pc : Nat) {index : Nat} (hl : FL own index RX1 "lesserRoom" "I") (hd : decode cc pc = .ok (.getfield index, 3))
    (kk : JS G nL X Q sp (c0, w) (pc + 3) L (.int v.2.2.2.2.1 :: st)) : JS G nL X Q sp (c0, w) pc L (.ref (G.2.2 (78 + 2 * k)) :: st) := by
  subst hv
  exact j_fget C pc (78 + 2 * k) (by omega) rfl (at_ly hk) (ci := 1) (n := 4) rfl iw1 (by omega) hl rfl rfl hd kk
theorem g_Ly5 (C : Cx G nL X own cc d) (hk : k < 9) {v : VLy} (hv : c0.2.1 k = v) (pc : Nat) {index : Nat} (hl : FL own index RX1 "blocks" "I") (hd : decode cc pc = .ok (.getfield index, 3))
    (kk : JS G nL X Q sp (c0, w) (pc + 3) L (.int v.2.2.2.2.2.1 :: st)) : JS G nL X Q sp (c0, w) pc L (.ref (G.2.2 (78 + 2 * k)) :: st) := by
  subst hv
  exact j_fget C pc (78 + 2 * k) (by omega) rfl (at_ly hk) (ci := 1) (n := 5) rfl iw1 (by omega) hl rfl rfl hd kk
theorem g_Ly6 (C : Cx G nL X own cc d) (hk : k < 9) {v : VLy} (hv : c0.2.1 k = v) (pc : Nat) {index : Nat} (hl : FL own index RX1 "wide" "I") (hd : decode cc pc = .ok (.getfield index, 3))
    (kk : JS G nL X Q sp (c0, w) (pc + 3) L (.int v.2.2.2.2.2.2 :: st)) : JS G nL X Q sp (c0, w) pc L (.ref (G.2.2 (78 + 2 * k)) :: st) := by
  subst hv
  exact j_fget C pc (78 + 2 * k) (by omega) rfl (at_ly hk) (ci := 1) (n := 6) rfl iw1 (by omega) hl rfl rfl hd kk
theorem g_Ck0 (C : Cx G nL X own cc d) (hk : k < 9) (pc : Nat) {index : Nat} (hl : FL own index RX0 "free" "[I") (hd : decode cc pc = .ok (.getfield index, 3))
    (kk : JS G nL X Q sp (c0, w) (pc + 3) L (.ref (G.2.2 (97 + 2 * k)) :: st)) : JS G nL X Q sp (c0, w) pc L (.ref (G.2.2 (96 + 2 * k)) :: st) := by
  exact j_fget C pc (96 + 2 * k) (by omega) rfl (at_ck hk) (ci := 0) (n := 0) rfl iw0 (by omega) hl rfl rfl hd kk
theorem g_Ck1 (C : Cx G nL X own cc d) (hk : k < 9) {v : VCk} (hv : c0.2.2.1 k = v) (pc : Nat) {index : Nat} (hl : FL own index RX0 "tick" "I") (hd : decode cc pc = .ok (.getfield index, 3))
    (kk : JS G nL X Q sp (c0, w) (pc + 3) L (.int v.2.1 :: st)) : JS G nL X Q sp (c0, w) pc L (.ref (G.2.2 (96 + 2 * k)) :: st) := by
  subst hv
  exact j_fget C pc (96 + 2 * k) (by omega) rfl (at_ck hk) (ci := 0) (n := 1) rfl iw0 (by omega) hl rfl rfl hd kk
theorem g_Ck2 (C : Cx G nL X own cc d) (hk : k < 9) {v : VCk} (hv : c0.2.2.1 k = v) (pc : Nat) {index : Nat} (hl : FL own index RX0 "waited" "I") (hd : decode cc pc = .ok (.getfield index, 3))
    (kk : JS G nL X Q sp (c0, w) (pc + 3) L (.int v.2.2 :: st)) : JS G nL X Q sp (c0, w) pc L (.ref (G.2.2 (96 + 2 * k)) :: st) := by
  subst hv
  exact j_fget C pc (96 + 2 * k) (by omega) rfl (at_ck hk) (ci := 0) (n := 2) rfl iw0 (by omega) hl rfl rfl hd kk
theorem g_St0 (C : Cx G nL X own cc d) (hk : k < 8) (pc : Nat) {index : Nat} (hl : FL own index RX2 "sticks" "LStickPairs$Sticks;") (hd : decode cc pc = .ok (.getfield index, 3))
    (kk : JS G nL X Q sp (c0, w) (pc + 3) L (.ref (G.2.2 (22 + 7 * k)) :: st)) : JS G nL X Q sp (c0, w) pc L (.ref (G.2.2 (6 + 2 * k)) :: st) := by
  exact j_fget C pc (6 + 2 * k) (by omega) rfl (at_st hk) (ci := 2) (n := 0) rfl iw2 (by omega) hl rfl rfl hd kk
theorem g_St1 (C : Cx G nL X own cc d) (hk : k < 8) (pc : Nat) {index : Nat} (hl : FL own index RX2 "layout" "LStickPairs$Layout;") (hd : decode cc pc = .ok (.getfield index, 3))
    (kk : JS G nL X Q sp (c0, w) (pc + 3) L (.ref (G.2.2 (78 + 2 * k)) :: st)) : JS G nL X Q sp (c0, w) pc L (.ref (G.2.2 (6 + 2 * k)) :: st) := by
  exact j_fget C pc (6 + 2 * k) (by omega) rfl (at_st hk) (ci := 2) (n := 1) rfl iw2 (by omega) hl rfl rfl hd kk
theorem g_St2 (C : Cx G nL X own cc d) (hk : k < 8) (pc : Nat) {index : Nat} (hl : FL own index RX2 "clock" "LStickPairs$Clock;") (hd : decode cc pc = .ok (.getfield index, 3))
    (kk : JS G nL X Q sp (c0, w) (pc + 3) L (.ref (G.2.2 (96 + 2 * k)) :: st)) : JS G nL X Q sp (c0, w) pc L (.ref (G.2.2 (6 + 2 * k)) :: st) := by
  exact j_fget C pc (6 + 2 * k) (by omega) rfl (at_st hk) (ci := 2) (n := 2) rfl iw2 (by omega) hl rfl rfl hd kk
theorem g_St3 (C : Cx G nL X own cc d) (hk : k < 8) (pc : Nat) {index : Nat} (hl : FL own index RX2 "values" "[I") (hd : decode cc pc = .ok (.getfield index, 3))
    (kk : JS G nL X Q sp (c0, w) (pc + 3) L (.ref (G.2.2 (7 + 2 * k)) :: st)) : JS G nL X Q sp (c0, w) pc L (.ref (G.2.2 (6 + 2 * k)) :: st) := by
  exact j_fget C pc (6 + 2 * k) (by omega) rfl (at_st hk) (ci := 2) (n := 3) rfl iw2 (by omega) hl rfl rfl hd kk
theorem g_St4 (C : Cx G nL X own cc d) (hk : k < 8) {v : VI5} (hv : c0.2.2.2.2.1 k = v) (pc : Nat) {index : Nat} (hl : FL own index RX2 "mapSetting" "I") (hd : decode cc pc = .ok (.getfield index, 3))
    (kk : JS G nL X Q sp (c0, w) (pc + 3) L (.int v.1 :: st)) : JS G nL X Q sp (c0, w) pc L (.ref (G.2.2 (6 + 2 * k)) :: st) := by
  subst hv
  exact j_fget C pc (6 + 2 * k) (by omega) rfl (at_st hk) (ci := 2) (n := 4) rfl iw2 (by omega) hl rfl rfl hd kk
theorem g_St5 (C : Cx G nL X own cc d) (hk : k < 8) {v : VI5} (hv : c0.2.2.2.2.1 k = v) (pc : Nat) {index : Nat} (hl : FL own index RX2 "pairSetting" "I") (hd : decode cc pc = .ok (.getfield index, 3))
    (kk : JS G nL X Q sp (c0, w) (pc + 3) L (.int v.2.1 :: st)) : JS G nL X Q sp (c0, w) pc L (.ref (G.2.2 (6 + 2 * k)) :: st) := by
  subst hv
  exact j_fget C pc (6 + 2 * k) (by omega) rfl (at_st hk) (ci := 2) (n := 5) rfl iw2 (by omega) hl rfl rfl hd kk
theorem g_St6 (C : Cx G nL X own cc d) (hk : k < 8) {v : VI5} (hv : c0.2.2.2.2.1 k = v) (pc : Nat) {index : Nat} (hl : FL own index RX2 "blocksRead" "I") (hd : decode cc pc = .ok (.getfield index, 3))
    (kk : JS G nL X Q sp (c0, w) (pc + 3) L (.int v.2.2.1 :: st)) : JS G nL X Q sp (c0, w) pc L (.ref (G.2.2 (6 + 2 * k)) :: st) := by
  subst hv
  exact j_fget C pc (6 + 2 * k) (by omega) rfl (at_st hk) (ci := 2) (n := 6) rfl iw2 (by omega) hl rfl rfl hd kk
theorem g_St7 (C : Cx G nL X own cc d) (hk : k < 8) {v : VI5} (hv : c0.2.2.2.2.1 k = v) (pc : Nat) {index : Nat} (hl : FL own index RX2 "pairsRead" "I") (hd : decode cc pc = .ok (.getfield index, 3))
    (kk : JS G nL X Q sp (c0, w) (pc + 3) L (.int v.2.2.2.1 :: st)) : JS G nL X Q sp (c0, w) pc L (.ref (G.2.2 (6 + 2 * k)) :: st) := by
  subst hv
  exact j_fget C pc (6 + 2 * k) (by omega) rfl (at_st hk) (ci := 2) (n := 7) rfl iw2 (by omega) hl rfl rfl hd kk
theorem g_St8 (C : Cx G nL X own cc d) (hk : k < 8) {v : VI5} (hv : c0.2.2.2.2.1 k = v) (pc : Nat) {index : Nat} (hl : FL own index RX2 "starts" "I") (hd : decode cc pc = .ok (.getfield index, 3))
    (kk : JS G nL X Q sp (c0, w) (pc + 3) L (.int v.2.2.2.2 :: st)) : JS G nL X Q sp (c0, w) pc L (.ref (G.2.2 (6 + 2 * k)) :: st) := by
  subst hv
  exact j_fget C pc (6 + 2 * k) (by omega) rfl (at_st hk) (ci := 2) (n := 8) rfl iw2 (by omega) hl rfl rfl hd kk
theorem g_Tx0 (C : Cx G nL X own cc d) (pc : Nat) {index : Nat} (hl : FL own index RX4 "codes" "[I") (hd : decode cc pc = .ok (.getfield index, 3))
    (kk : JS G nL X Q sp (c0, w) (pc + 3) L (.ref (G.2.2 3) :: st)) : JS G nL X Q sp (c0, w) pc L (.ref (G.2.2 2) :: st) := by
  exact j_fget C pc 2 (by omega) rfl (at_sp (j := 2) (by omega)) (ci := 4) (n := 0) rfl iw4 (by omega) hl rfl rfl hd kk
theorem g_Tx1 (C : Cx G nL X own cc d) {v : VTx} (hv : c0.2.2.2.2.2.1 = v) (pc : Nat) {index : Nat} (hl : FL own index RX4 "length" "I") (hd : decode cc pc = .ok (.getfield index, 3))
    (kk : JS G nL X Q sp (c0, w) (pc + 3) L (.int v.2.1 :: st)) : JS G nL X Q sp (c0, w) pc L (.ref (G.2.2 2) :: st) := by
  subst hv
  exact j_fget C pc 2 (by omega) rfl (at_sp (j := 2) (by omega)) (ci := 4) (n := 1) rfl iw4 (by omega) hl rfl rfl hd kk
theorem g_Tx2 (C : Cx G nL X own cc d) (pc : Nat) {index : Nat} (hl : FL own index RX4 "firsts" "[I") (hd : decode cc pc = .ok (.getfield index, 3))
    (kk : JS G nL X Q sp (c0, w) (pc + 3) L (.ref (G.2.2 4) :: st)) : JS G nL X Q sp (c0, w) pc L (.ref (G.2.2 2) :: st) := by
  exact j_fget C pc 2 (by omega) rfl (at_sp (j := 2) (by omega)) (ci := 4) (n := 2) rfl iw4 (by omega) hl rfl rfl hd kk
theorem g_Tx3 (C : Cx G nL X own cc d) (pc : Nat) {index : Nat} (hl : FL own index RX4 "lasts" "[I") (hd : decode cc pc = .ok (.getfield index, 3))
    (kk : JS G nL X Q sp (c0, w) (pc + 3) L (.ref (G.2.2 5) :: st)) : JS G nL X Q sp (c0, w) pc L (.ref (G.2.2 2) :: st) := by
  exact j_fget C pc 2 (by omega) rfl (at_sp (j := 2) (by omega)) (ci := 4) (n := 3) rfl iw4 (by omega) hl rfl rfl hd kk
theorem g_Tx4 (C : Cx G nL X own cc d) {v : VTx} (hv : c0.2.2.2.2.2.1 = v) (pc : Nat) {index : Nat} (hl : FL own index RX4 "part" "I") (hd : decode cc pc = .ok (.getfield index, 3))
    (kk : JS G nL X Q sp (c0, w) (pc + 3) L (.int v.2.2.2.2.1 :: st)) : JS G nL X Q sp (c0, w) pc L (.ref (G.2.2 2) :: st) := by
  subst hv
  exact j_fget C pc 2 (by omega) rfl (at_sp (j := 2) (by omega)) (ci := 4) (n := 4) rfl iw4 (by omega) hl rfl rfl hd kk
theorem g_Tx5 (C : Cx G nL X own cc d) {v : VTx} (hv : c0.2.2.2.2.2.1 = v) (pc : Nat) {index : Nat} (hl : FL own index RX4 "ranged" "Z") (hd : decode cc pc = .ok (.getfield index, 3))
    (kk : JS G nL X Q sp (c0, w) (pc + 3) L (.int v.2.2.2.2.2.1 :: st)) : JS G nL X Q sp (c0, w) pc L (.ref (G.2.2 2) :: st) := by
  subst hv
  exact j_fget C pc 2 (by omega) rfl (at_sp (j := 2) (by omega)) (ci := 4) (n := 5) rfl iw4 (by omega) hl rfl rfl hd kk
theorem g_Tx6 (C : Cx G nL X own cc d) {v : VTx} (hv : c0.2.2.2.2.2.1 = v) (pc : Nat) {index : Nat} (hl : FL own index RX4 "number" "I") (hd : decode cc pc = .ok (.getfield index, 3))
    (kk : JS G nL X Q sp (c0, w) (pc + 3) L (.int v.2.2.2.2.2.2 :: st)) : JS G nL X Q sp (c0, w) pc L (.ref (G.2.2 2) :: st) := by
  subst hv
  exact j_fget C pc 2 (by omega) rfl (at_sp (j := 2) (by omega)) (ci := 4) (n := 6) rfl iw4 (by omega) hl rfl rfl hd kk
theorem g_Sp0 (C : Cx G nL X own cc d) (pc : Nat) {index : Nat} (hl : FL own index RX5 "now" "LStickPairs$State;") (hd : decode cc pc = .ok (.getfield index, 3))
    (kk : JS G nL X Q sp (c0, w) (pc + 3) L (.ref (G.2.2 6) :: st)) : JS G nL X Q sp (c0, w) pc L (.ref (G.2.2 0) :: st) := by
  exact j_fget C pc 0 (by omega) rfl (at_sp (j := 0) (by omega)) (ci := 5) (n := 0) rfl iw5 (by omega) hl rfl rfl hd kk
theorem g_Sp1 (C : Cx G nL X own cc d) (pc : Nat) {index : Nat} (hl : FL own index RX5 "snapshot" "LStickPairs$State;") (hd : decode cc pc = .ok (.getfield index, 3))
    (kk : JS G nL X Q sp (c0, w) (pc + 3) L (.ref (G.2.2 8) :: st)) : JS G nL X Q sp (c0, w) pc L (.ref (G.2.2 0) :: st) := by
  exact j_fget C pc 0 (by omega) rfl (at_sp (j := 0) (by omega)) (ci := 5) (n := 1) rfl iw5 (by omega) hl rfl rfl hd kk
theorem g_Sp2 (C : Cx G nL X own cc d) (pc : Nat) {index : Nat} (hl : FL own index RX5 "hasSnapshot" "Z") (hd : decode cc pc = .ok (.getfield index, 3))
    (kk : JS G nL X Q sp (c0, w) (pc + 3) L (.int c0.2.2.2.2.2.2.1 :: st)) : JS G nL X Q sp (c0, w) pc L (.ref (G.2.2 0) :: st) := by
  exact j_fget C pc 0 (by omega) rfl (at_sp (j := 0) (by omega)) (ci := 5) (n := 2) rfl iw5 (by omega) hl rfl rfl hd kk
theorem g_Sp3 (C : Cx G nL X own cc d) (pc : Nat) {index : Nat} (hl : FL own index RX5 "saved" "[LStickPairs$State;") (hd : decode cc pc = .ok (.getfield index, 3))
    (kk : JS G nL X Q sp (c0, w) (pc + 3) L (.ref (G.2.2 1) :: st)) : JS G nL X Q sp (c0, w) pc L (.ref (G.2.2 0) :: st) := by
  exact j_fget C pc 0 (by omega) rfl (at_sp (j := 0) (by omega)) (ci := 5) (n := 3) rfl iw5 (by omega) hl rfl rfl hd kk
theorem g_Sp4 (C : Cx G nL X own cc d) (pc : Nat) {index : Nat} (hl : FL own index RX5 "savedCount" "I") (hd : decode cc pc = .ok (.getfield index, 3))
    (kk : JS G nL X Q sp (c0, w) (pc + 3) L (.int c0.2.2.2.2.2.2.2.1 :: st)) : JS G nL X Q sp (c0, w) pc L (.ref (G.2.2 0) :: st) := by
  exact j_fget C pc 0 (by omega) rfl (at_sp (j := 0) (by omega)) (ci := 5) (n := 4) rfl iw5 (by omega) hl rfl rfl hd kk
theorem g_Sp5 (C : Cx G nL X own cc d) (pc : Nat) {index : Nat} (hl : FL own index RX5 "text" "LStickPairs$Text;") (hd : decode cc pc = .ok (.getfield index, 3))
    (kk : JS G nL X Q sp (c0, w) (pc + 3) L (.ref (G.2.2 2) :: st)) : JS G nL X Q sp (c0, w) pc L (.ref (G.2.2 0) :: st) := by
  exact j_fget C pc 0 (by omega) rfl (at_sp (j := 0) (by omega)) (ci := 5) (n := 5) rfl iw5 (by omega) hl rfl rfl hd kk
theorem g_Sp6 (C : Cx G nL X own cc d) (pc : Nat) {index : Nat} (hl : FL own index RX5 "trialLayout" "LStickPairs$Layout;") (hd : decode cc pc = .ok (.getfield index, 3))
    (kk : JS G nL X Q sp (c0, w) (pc + 3) L (.ref (G.2.2 94) :: st)) : JS G nL X Q sp (c0, w) pc L (.ref (G.2.2 0) :: st) := by
  exact j_fget C pc 0 (by omega) rfl (at_sp (j := 0) (by omega)) (ci := 5) (n := 6) rfl iw5 (by omega) hl rfl rfl hd kk
theorem g_Sp7 (C : Cx G nL X own cc d) (pc : Nat) {index : Nat} (hl : FL own index RX5 "trialClock" "LStickPairs$Clock;") (hd : decode cc pc = .ok (.getfield index, 3))
    (kk : JS G nL X Q sp (c0, w) (pc + 3) L (.ref (G.2.2 112) :: st)) : JS G nL X Q sp (c0, w) pc L (.ref (G.2.2 0) :: st) := by
  exact j_fget C pc 0 (by omega) rfl (at_sp (j := 0) (by omega)) (ci := 5) (n := 7) rfl iw5 (by omega) hl rfl rfl hd kk
theorem g_Mo0 (C : Cx G nL X own cc d) (pc : Nat) {index : Nat} (hl : FL own index RX6 "thrown" "I") (hd : decode cc pc = .ok (.getfield index, 3))
    (kk : JS G nL X Q sp (c0, w) (pc + 3) L (.int w.1.1 :: st)) : JS G nL X Q sp (c0, w) pc L (.ref (G.2.2 114) :: st) := by
  exact j_fget C pc 114 (by omega) rfl (at_mo (j := 0)) (ci := 6) (n := 0) rfl iw6 (by omega) hl rfl rfl hd kk
theorem g_Mo1 (C : Cx G nL X own cc d) (pc : Nat) {index : Nat} (hl : FL own index RX6 "z" "[I") (hd : decode cc pc = .ok (.getfield index, 3))
    (kk : JS G nL X Q sp (c0, w) (pc + 3) L (.ref (G.2.2 115) :: st)) : JS G nL X Q sp (c0, w) pc L (.ref (G.2.2 114) :: st) := by
  exact j_fget C pc 114 (by omega) rfl (at_mo (j := 0)) (ci := 6) (n := 1) rfl iw6 (by omega) hl rfl rfl hd kk
theorem g_Mo2 (C : Cx G nL X own cc d) (pc : Nat) {index : Nat} (hl : FL own index RX6 "aside" "[I") (hd : decode cc pc = .ok (.getfield index, 3))
    (kk : JS G nL X Q sp (c0, w) (pc + 3) L (.ref (G.2.2 116) :: st)) : JS G nL X Q sp (c0, w) pc L (.ref (G.2.2 114) :: st) := by
  exact j_fget C pc 114 (by omega) rfl (at_mo (j := 0)) (ci := 6) (n := 2) rfl iw6 (by omega) hl rfl rfl hd kk
theorem g_Mo3 (C : Cx G nL X own cc d) (pc : Nat) {index : Nat} (hl : FL own index RX6 "saved" "[I") (hd : decode cc pc = .ok (.getfield index, 3))
    (kk : JS G nL X Q sp (c0, w) (pc + 3) L (.ref (G.2.2 117) :: st)) : JS G nL X Q sp (c0, w) pc L (.ref (G.2.2 114) :: st) := by
  exact j_fget C pc 114 (by omega) rfl (at_mo (j := 0)) (ci := 6) (n := 3) rfl iw6 (by omega) hl rfl rfl hd kk
theorem g_Mo4 (C : Cx G nL X own cc d) (pc : Nat) {index : Nat} (hl : FL own index RX6 "saves" "I") (hd : decode cc pc = .ok (.getfield index, 3))
    (kk : JS G nL X Q sp (c0, w) (pc + 3) L (.int w.1.2.2.2.2.1 :: st)) : JS G nL X Q sp (c0, w) pc L (.ref (G.2.2 114) :: st) := by
  exact j_fget C pc 114 (by omega) rfl (at_mo (j := 0)) (ci := 6) (n := 4) rfl iw6 (by omega) hl rfl rfl hd kk
theorem g_Mo5 (C : Cx G nL X own cc d) (pc : Nat) {index : Nat} (hl : FL own index RX6 "kept" "[I") (hd : decode cc pc = .ok (.getfield index, 3))
    (kk : JS G nL X Q sp (c0, w) (pc + 3) L (.ref (G.2.2 118) :: st)) : JS G nL X Q sp (c0, w) pc L (.ref (G.2.2 114) :: st) := by
  exact j_fget C pc 114 (by omega) rfl (at_mo (j := 0)) (ci := 6) (n := 5) rfl iw6 (by omega) hl rfl rfl hd kk
theorem g_Mo6 (C : Cx G nL X own cc d) (pc : Nat) {index : Nat} (hl : FL own index RX6 "isKept" "Z") (hd : decode cc pc = .ok (.getfield index, 3))
    (kk : JS G nL X Q sp (c0, w) (pc + 3) L (.int w.1.2.2.2.2.2.2.1 :: st)) : JS G nL X Q sp (c0, w) pc L (.ref (G.2.2 114) :: st) := by
  exact j_fget C pc 114 (by omega) rfl (at_mo (j := 0)) (ci := 6) (n := 6) rfl iw6 (by omega) hl rfl rfl hd kk
theorem g_Mo7 (C : Cx G nL X own cc d) (pc : Nat) {index : Nat} (hl : FL own index RX6 "text" "[I") (hd : decode cc pc = .ok (.getfield index, 3))
    (kk : JS G nL X Q sp (c0, w) (pc + 3) L (.ref (G.2.2 119) :: st)) : JS G nL X Q sp (c0, w) pc L (.ref (G.2.2 114) :: st) := by
  exact j_fget C pc 114 (by omega) rfl (at_mo (j := 0)) (ci := 6) (n := 7) rfl iw6 (by omega) hl rfl rfl hd kk
theorem g_Mo8 (C : Cx G nL X own cc d) (pc : Nat) {index : Nat} (hl : FL own index RX6 "length" "I") (hd : decode cc pc = .ok (.getfield index, 3))
    (kk : JS G nL X Q sp (c0, w) (pc + 3) L (.int w.1.2.2.2.2.2.2.2.2.1 :: st)) : JS G nL X Q sp (c0, w) pc L (.ref (G.2.2 114) :: st) := by
  exact j_fget C pc 114 (by omega) rfl (at_mo (j := 0)) (ci := 6) (n := 8) rfl iw6 (by omega) hl rfl rfl hd kk
theorem g_Mo9 (C : Cx G nL X own cc d) (pc : Nat) {index : Nat} (hl : FL own index RX6 "from" "I") (hd : decode cc pc = .ok (.getfield index, 3))
    (kk : JS G nL X Q sp (c0, w) (pc + 3) L (.int w.1.2.2.2.2.2.2.2.2.2.1 :: st)) : JS G nL X Q sp (c0, w) pc L (.ref (G.2.2 114) :: st) := by
  exact j_fget C pc 114 (by omega) rfl (at_mo (j := 0)) (ci := 6) (n := 9) rfl iw6 (by omega) hl rfl rfl hd kk
theorem g_Mo10 (C : Cx G nL X own cc d) (pc : Nat) {index : Nat} (hl : FL own index RX6 "to" "I") (hd : decode cc pc = .ok (.getfield index, 3))
    (kk : JS G nL X Q sp (c0, w) (pc + 3) L (.int w.1.2.2.2.2.2.2.2.2.2.2 :: st)) : JS G nL X Q sp (c0, w) pc L (.ref (G.2.2 114) :: st) := by
  exact j_fget C pc 114 (by omega) rfl (at_mo (j := 0)) (ci := 6) (n := 10) rfl iw6 (by omega) hl rfl rfl hd kk
theorem p_Ly0 (C : Cx G nL X own cc d) (hk : k < 9) {v : VLy} {x : Int32} (pc : Nat) {index : Nat} (hl : Cond.fieldLink own index RX1 "kind" "I" ∈ gw) (hd : decode cc pc = .ok (.putfield index, 3))
    (kk : JS G nL X Q sp (sLy c0 k (x, v.2), w) (pc + 3) L st) : JS G nL X Q sp (sLy c0 k v, w) pc L (.int x :: .ref (G.2.2 (78 + 2 * k)) :: st) :=
  j_put C pc (78 + 2 * k) (by omega) rfl (at_ly hk) (ci := 1) (n := 0) rfl iw1 tyX1_ok nmX1 (by omega) hl rfl rfl rfl rfl rfl (Nat.le_of_ble_eq_true rfl) (by have h := up_ly (cy := G.2.1) (ad := G.2.2) (c := sLy c0 k v) (w := w) (v := (x, v.2)) hk (by rw [sLy_get]); rw [sLy_up] at h; rw [sLy_get]; exact h) hd kk
theorem p_Ly2 (C : Cx G nL X own cc d) (hk : k < 9) {v : VLy} {x : Int32} (pc : Nat) {index : Nat} (hl : Cond.fieldLink own index RX1 "room0" "I" ∈ gw) (hd : decode cc pc = .ok (.putfield index, 3))
    (kk : JS G nL X Q sp (sLy c0 k (v.1, v.2.1, x, v.2.2.2), w) (pc + 3) L st) : JS G nL X Q sp (sLy c0 k v, w) pc L (.int x :: .ref (G.2.2 (78 + 2 * k)) :: st) :=
  j_put C pc (78 + 2 * k) (by omega) rfl (at_ly hk) (ci := 1) (n := 2) rfl iw1 tyX1_ok nmX1 (by omega) hl rfl rfl rfl rfl rfl (Nat.le_of_ble_eq_true rfl) (by have h := up_ly (cy := G.2.1) (ad := G.2.2) (c := sLy c0 k v) (w := w) (v := (v.1, v.2.1, x, v.2.2.2)) hk (by rw [sLy_get]); rw [sLy_up] at h; rw [sLy_get]; exact h) hd kk
theorem p_Ly3 (C : Cx G nL X own cc d) (hk : k < 9) {v : VLy} {x : Int32} (pc : Nat) {index : Nat} (hl : Cond.fieldLink own index RX1 "room1" "I" ∈ gw) (hd : decode cc pc = .ok (.putfield index, 3))
    (kk : JS G nL X Q sp (sLy c0 k (v.1, v.2.1, v.2.2.1, x, v.2.2.2.2), w) (pc + 3) L st) : JS G nL X Q sp (sLy c0 k v, w) pc L (.int x :: .ref (G.2.2 (78 + 2 * k)) :: st) :=
  j_put C pc (78 + 2 * k) (by omega) rfl (at_ly hk) (ci := 1) (n := 3) rfl iw1 tyX1_ok nmX1 (by omega) hl rfl rfl rfl rfl rfl (Nat.le_of_ble_eq_true rfl) (by have h := up_ly (cy := G.2.1) (ad := G.2.2) (c := sLy c0 k v) (w := w) (v := (v.1, v.2.1, v.2.2.1, x, v.2.2.2.2)) hk (by rw [sLy_get]); rw [sLy_up] at h; rw [sLy_get]; exact h) hd kk
theorem p_Ly4 (C : Cx G nL X own cc d) (hk : k < 9) {v : VLy} {x : Int32} (pc : Nat) {index : Nat} (hl : Cond.fieldLink own index RX1 "lesserRoom" "I" ∈ gw) (hd : decode cc pc = .ok (.putfield index, 3))
    (kk : JS G nL X Q sp (sLy c0 k (v.1, v.2.1, v.2.2.1, v.2.2.2.1, x, v.2.2.2.2.2), w) (pc + 3) L st) : JS G nL X Q sp (sLy c0 k v, w) pc L (.int x :: .ref (G.2.2 (78 + 2 * k)) :: st) :=
  j_put C pc (78 + 2 * k) (by omega) rfl (at_ly hk) (ci := 1) (n := 4) rfl iw1 tyX1_ok nmX1 (by omega) hl rfl rfl rfl rfl rfl (Nat.le_of_ble_eq_true rfl) (by have h := up_ly (cy := G.2.1) (ad := G.2.2) (c := sLy c0 k v) (w := w) (v := (v.1, v.2.1, v.2.2.1, v.2.2.2.1, x, v.2.2.2.2.2)) hk (by rw [sLy_get]); rw [sLy_up] at h; rw [sLy_get]; exact h) hd kk
theorem p_Ly5 (C : Cx G nL X own cc d) (hk : k < 9) {v : VLy} {x : Int32} (pc : Nat) {index : Nat} (hl : Cond.fieldLink own index RX1 "blocks" "I" ∈ gw) (hd : decode cc pc = .ok (.putfield index, 3))
    (kk : JS G nL X Q sp (sLy c0 k (v.1, v.2.1, v.2.2.1, v.2.2.2.1, v.2.2.2.2.1, x, v.2.2.2.2.2.2), w) (pc + 3) L st) : JS G nL X Q sp (sLy c0 k v, w) pc L (.int x :: .ref (G.2.2 (78 + 2 * k)) :: st) :=
  j_put C pc (78 + 2 * k) (by omega) rfl (at_ly hk) (ci := 1) (n := 5) rfl iw1 tyX1_ok nmX1 (by omega) hl rfl rfl rfl rfl rfl (Nat.le_of_ble_eq_true rfl) (by have h := up_ly (cy := G.2.1) (ad := G.2.2) (c := sLy c0 k v) (w := w) (v := (v.1, v.2.1, v.2.2.1, v.2.2.2.1, v.2.2.2.2.1, x, v.2.2.2.2.2.2)) hk (by rw [sLy_get]); rw [sLy_up] at h; rw [sLy_get]; exact h) hd kk
theorem p_Ly6 (C : Cx G nL X own cc d) (hk : k < 9) {v : VLy} {x : Int32} (pc : Nat) {index : Nat} (hl : Cond.fieldLink own index RX1 "wide" "I" ∈ gw) (hd : decode cc pc = .ok (.putfield index, 3))
    (kk : JS G nL X Q sp (sLy c0 k (v.1, v.2.1, v.2.2.1, v.2.2.2.1, v.2.2.2.2.1, v.2.2.2.2.2.1, x), w) (pc + 3) L st) : JS G nL X Q sp (sLy c0 k v, w) pc L (.int x :: .ref (G.2.2 (78 + 2 * k)) :: st) :=
  j_put C pc (78 + 2 * k) (by omega) rfl (at_ly hk) (ci := 1) (n := 6) rfl iw1 tyX1_ok nmX1 (by omega) hl rfl rfl rfl rfl rfl (Nat.le_of_ble_eq_true rfl) (by have h := up_ly (cy := G.2.1) (ad := G.2.2) (c := sLy c0 k v) (w := w) (v := (v.1, v.2.1, v.2.2.1, v.2.2.2.1, v.2.2.2.2.1, v.2.2.2.2.2.1, x)) hk (by rw [sLy_get]); rw [sLy_up] at h; rw [sLy_get]; exact h) hd kk
theorem p_Ck1 (C : Cx G nL X own cc d) (hk : k < 9) {v : VCk} {x : Int32} (pc : Nat) {index : Nat} (hl : Cond.fieldLink own index RX0 "tick" "I" ∈ gw) (hd : decode cc pc = .ok (.putfield index, 3))
    (kk : JS G nL X Q sp (sCk c0 k (v.1, x, v.2.2), w) (pc + 3) L st) : JS G nL X Q sp (sCk c0 k v, w) pc L (.int x :: .ref (G.2.2 (96 + 2 * k)) :: st) :=
  j_put C pc (96 + 2 * k) (by omega) rfl (at_ck hk) (ci := 0) (n := 1) rfl iw0 tyX0_ok nmX0 (by omega) hl rfl rfl rfl rfl rfl (Nat.le_of_ble_eq_true rfl) (by have h := up_ck (cy := G.2.1) (ad := G.2.2) (c := sCk c0 k v) (w := w) (v := (v.1, x, v.2.2)) hk (by rw [sCk_get]); rw [sCk_up] at h; rw [sCk_get]; exact h) hd kk
theorem p_Ck2 (C : Cx G nL X own cc d) (hk : k < 9) {v : VCk} {x : Int32} (pc : Nat) {index : Nat} (hl : Cond.fieldLink own index RX0 "waited" "I" ∈ gw) (hd : decode cc pc = .ok (.putfield index, 3))
    (kk : JS G nL X Q sp (sCk c0 k (v.1, v.2.1, x), w) (pc + 3) L st) : JS G nL X Q sp (sCk c0 k v, w) pc L (.int x :: .ref (G.2.2 (96 + 2 * k)) :: st) :=
  j_put C pc (96 + 2 * k) (by omega) rfl (at_ck hk) (ci := 0) (n := 2) rfl iw0 tyX0_ok nmX0 (by omega) hl rfl rfl rfl rfl rfl (Nat.le_of_ble_eq_true rfl) (by have h := up_ck (cy := G.2.1) (ad := G.2.2) (c := sCk c0 k v) (w := w) (v := (v.1, v.2.1, x)) hk (by rw [sCk_get]); rw [sCk_up] at h; rw [sCk_get]; exact h) hd kk
theorem p_St4 (C : Cx G nL X own cc d) (hk : k < 8) {v : VSt} {x : Int32} (pc : Nat) {index : Nat} (hl : Cond.fieldLink own index RX2 "mapSetting" "I" ∈ gw) (hd : decode cc pc = .ok (.putfield index, 3))
    (kk : JS G nL X Q sp (sSt c0 k (v.1, v.2.1, v.2.2.1, v.2.2.2.1, (x, v.2.2.2.2.2)), w) (pc + 3) L st) : JS G nL X Q sp (sSt c0 k v, w) pc L (.int x :: .ref (G.2.2 (6 + 2 * k)) :: st) :=
  j_put C pc (6 + 2 * k) (by omega) rfl (at_st hk) (ci := 2) (n := 4) rfl iw2 tyX2_ok nmX2 (by omega) hl rfl rfl rfl rfl rfl (Nat.le_of_ble_eq_true rfl) (by have h := up_st (cy := G.2.1) (ad := G.2.2) (c := sSt c0 k v) (w := w) (v := (x, v.2.2.2.2.2)) hk; rw [sSt_sI5] at h; rw [sSt_g5]; exact h) hd kk
theorem p_St5 (C : Cx G nL X own cc d) (hk : k < 8) {v : VSt} {x : Int32} (pc : Nat) {index : Nat} (hl : Cond.fieldLink own index RX2 "pairSetting" "I" ∈ gw) (hd : decode cc pc = .ok (.putfield index, 3))
    (kk : JS G nL X Q sp (sSt c0 k (v.1, v.2.1, v.2.2.1, v.2.2.2.1, (v.2.2.2.2.1, x, v.2.2.2.2.2.2)), w) (pc + 3) L st) : JS G nL X Q sp (sSt c0 k v, w) pc L (.int x :: .ref (G.2.2 (6 + 2 * k)) :: st) :=
  j_put C pc (6 + 2 * k) (by omega) rfl (at_st hk) (ci := 2) (n := 5) rfl iw2 tyX2_ok nmX2 (by omega) hl rfl rfl rfl rfl rfl (Nat.le_of_ble_eq_true rfl) (by have h := up_st (cy := G.2.1) (ad := G.2.2) (c := sSt c0 k v) (w := w) (v := (v.2.2.2.2.1, x, v.2.2.2.2.2.2)) hk; rw [sSt_sI5] at h; rw [sSt_g5]; exact h) hd kk
theorem p_St6 (C : Cx G nL X own cc d) (hk : k < 8) {v : VSt} {x : Int32} (pc : Nat) {index : Nat} (hl : Cond.fieldLink own index RX2 "blocksRead" "I" ∈ gw) (hd : decode cc pc = .ok (.putfield index, 3))
    (kk : JS G nL X Q sp (sSt c0 k (v.1, v.2.1, v.2.2.1, v.2.2.2.1, (v.2.2.2.2.1, v.2.2.2.2.2.1, x, v.2.2.2.2.2.2.2)), w) (pc + 3) L st) : JS G nL X Q sp (sSt c0 k v, w) pc L (.int x :: .ref (G.2.2 (6 + 2 * k)) :: st) :=
  j_put C pc (6 + 2 * k) (by omega) rfl (at_st hk) (ci := 2) (n := 6) rfl iw2 tyX2_ok nmX2 (by omega) hl rfl rfl rfl rfl rfl (Nat.le_of_ble_eq_true rfl) (by have h := up_st (cy := G.2.1) (ad := G.2.2) (c := sSt c0 k v) (w := w) (v := (v.2.2.2.2.1, v.2.2.2.2.2.1, x, v.2.2.2.2.2.2.2)) hk; rw [sSt_sI5] at h; rw [sSt_g5]; exact h) hd kk
theorem p_St7 (C : Cx G nL X own cc d) (hk : k < 8) {v : VSt} {x : Int32} (pc : Nat) {index : Nat} (hl : Cond.fieldLink own index RX2 "pairsRead" "I" ∈ gw) (hd : decode cc pc = .ok (.putfield index, 3))
    (kk : JS G nL X Q sp (sSt c0 k (v.1, v.2.1, v.2.2.1, v.2.2.2.1, (v.2.2.2.2.1, v.2.2.2.2.2.1, v.2.2.2.2.2.2.1, x, v.2.2.2.2.2.2.2.2)), w) (pc + 3) L st) : JS G nL X Q sp (sSt c0 k v, w) pc L (.int x :: .ref (G.2.2 (6 + 2 * k)) :: st) :=
  j_put C pc (6 + 2 * k) (by omega) rfl (at_st hk) (ci := 2) (n := 7) rfl iw2 tyX2_ok nmX2 (by omega) hl rfl rfl rfl rfl rfl (Nat.le_of_ble_eq_true rfl) (by have h := up_st (cy := G.2.1) (ad := G.2.2) (c := sSt c0 k v) (w := w) (v := (v.2.2.2.2.1, v.2.2.2.2.2.1, v.2.2.2.2.2.2.1, x, v.2.2.2.2.2.2.2.2)) hk; rw [sSt_sI5] at h; rw [sSt_g5]; exact h) hd kk
theorem p_St8 (C : Cx G nL X own cc d) (hk : k < 8) {v : VSt} {x : Int32} (pc : Nat) {index : Nat} (hl : Cond.fieldLink own index RX2 "starts" "I" ∈ gw) (hd : decode cc pc = .ok (.putfield index, 3))
    (kk : JS G nL X Q sp (sSt c0 k (v.1, v.2.1, v.2.2.1, v.2.2.2.1, (v.2.2.2.2.1, v.2.2.2.2.2.1, v.2.2.2.2.2.2.1, v.2.2.2.2.2.2.2.1, x)), w) (pc + 3) L st) : JS G nL X Q sp (sSt c0 k v, w) pc L (.int x :: .ref (G.2.2 (6 + 2 * k)) :: st) :=
  j_put C pc (6 + 2 * k) (by omega) rfl (at_st hk) (ci := 2) (n := 8) rfl iw2 tyX2_ok nmX2 (by omega) hl rfl rfl rfl rfl rfl (Nat.le_of_ble_eq_true rfl) (by have h := up_st (cy := G.2.1) (ad := G.2.2) (c := sSt c0 k v) (w := w) (v := (v.2.2.2.2.1, v.2.2.2.2.2.1, v.2.2.2.2.2.2.1, v.2.2.2.2.2.2.2.1, x)) hk; rw [sSt_sI5] at h; rw [sSt_g5]; exact h) hd kk
theorem p_Tx1 (C : Cx G nL X own cc d) {v : VTx} {x : Int32} (pc : Nat) {index : Nat} (hl : Cond.fieldLink own index RX4 "length" "I" ∈ gw) (hd : decode cc pc = .ok (.putfield index, 3))
    (kk : JS G nL X Q sp (sTx c0 (v.1, x, v.2.2), w) (pc + 3) L st) : JS G nL X Q sp (sTx c0 v, w) pc L (.int x :: .ref (G.2.2 2) :: st) :=
  j_put C pc 2 (by omega) rfl (at_sp (j := 2) (by omega)) (ci := 4) (n := 1) rfl iw4 tyX4_ok nmX4 (by omega) hl rfl rfl rfl rfl rfl (Nat.le_of_ble_eq_true rfl) (fun j hj => up_sp (cy := G.2.1) (ad := G.2.2) (c := sTx c0 v) (w := w) (t := (v.1, x, v.2.2)) (v := c0.2.2.2.2.2.2) (j0 := 2) (by omega) (by intro i hi he; rcases (show i = 0 ∨ i = 1 ∨ i = 3 ∨ i = 4 ∨ i = 5 by omega) with rfl | rfl | rfl | rfl | rfl <;> rfl) j hj) hd kk
theorem p_Tx4 (C : Cx G nL X own cc d) {v : VTx} {x : Int32} (pc : Nat) {index : Nat} (hl : Cond.fieldLink own index RX4 "part" "I" ∈ gw) (hd : decode cc pc = .ok (.putfield index, 3))
    (kk : JS G nL X Q sp (sTx c0 (v.1, v.2.1, v.2.2.1, v.2.2.2.1, x, v.2.2.2.2.2), w) (pc + 3) L st) : JS G nL X Q sp (sTx c0 v, w) pc L (.int x :: .ref (G.2.2 2) :: st) :=
  j_put C pc 2 (by omega) rfl (at_sp (j := 2) (by omega)) (ci := 4) (n := 4) rfl iw4 tyX4_ok nmX4 (by omega) hl rfl rfl rfl rfl rfl (Nat.le_of_ble_eq_true rfl) (fun j hj => up_sp (cy := G.2.1) (ad := G.2.2) (c := sTx c0 v) (w := w) (t := (v.1, v.2.1, v.2.2.1, v.2.2.2.1, x, v.2.2.2.2.2)) (v := c0.2.2.2.2.2.2) (j0 := 2) (by omega) (by intro i hi he; rcases (show i = 0 ∨ i = 1 ∨ i = 3 ∨ i = 4 ∨ i = 5 by omega) with rfl | rfl | rfl | rfl | rfl <;> rfl) j hj) hd kk
theorem p_Tx5 (C : Cx G nL X own cc d) {v : VTx} {x : Int32} (pc : Nat) {index : Nat} (hn : narrow .boolean (.int x) = .int x) (hf : fits .boolean (.int x) = true) (hl : Cond.fieldLink own index RX4 "ranged" "Z" ∈ gw) (hd : decode cc pc = .ok (.putfield index, 3))
    (kk : JS G nL X Q sp (sTx c0 (v.1, v.2.1, v.2.2.1, v.2.2.2.1, v.2.2.2.2.1, x, v.2.2.2.2.2.2), w) (pc + 3) L st) : JS G nL X Q sp (sTx c0 v, w) pc L (.int x :: .ref (G.2.2 2) :: st) :=
  j_put C pc 2 (by omega) rfl (at_sp (j := 2) (by omega)) (ci := 4) (n := 5) rfl iw4 tyX4_ok nmX4 (by omega) hl rfl rfl rfl hn hf (Nat.le_of_ble_eq_true rfl) (fun j hj => up_sp (cy := G.2.1) (ad := G.2.2) (c := sTx c0 v) (w := w) (t := (v.1, v.2.1, v.2.2.1, v.2.2.2.1, v.2.2.2.2.1, x, v.2.2.2.2.2.2)) (v := c0.2.2.2.2.2.2) (j0 := 2) (by omega) (by intro i hi he; rcases (show i = 0 ∨ i = 1 ∨ i = 3 ∨ i = 4 ∨ i = 5 by omega) with rfl | rfl | rfl | rfl | rfl <;> rfl) j hj) hd kk
theorem p_Tx6 (C : Cx G nL X own cc d) {v : VTx} {x : Int32} (pc : Nat) {index : Nat} (hl : Cond.fieldLink own index RX4 "number" "I" ∈ gw) (hd : decode cc pc = .ok (.putfield index, 3))
    (kk : JS G nL X Q sp (sTx c0 (v.1, v.2.1, v.2.2.1, v.2.2.2.1, v.2.2.2.2.1, v.2.2.2.2.2.1, x), w) (pc + 3) L st) : JS G nL X Q sp (sTx c0 v, w) pc L (.int x :: .ref (G.2.2 2) :: st) :=
  j_put C pc 2 (by omega) rfl (at_sp (j := 2) (by omega)) (ci := 4) (n := 6) rfl iw4 tyX4_ok nmX4 (by omega) hl rfl rfl rfl rfl rfl (Nat.le_of_ble_eq_true rfl) (fun j hj => up_sp (cy := G.2.1) (ad := G.2.2) (c := sTx c0 v) (w := w) (t := (v.1, v.2.1, v.2.2.1, v.2.2.2.1, v.2.2.2.2.1, v.2.2.2.2.2.1, x)) (v := c0.2.2.2.2.2.2) (j0 := 2) (by omega) (by intro i hi he; rcases (show i = 0 ∨ i = 1 ∨ i = 3 ∨ i = 4 ∨ i = 5 by omega) with rfl | rfl | rfl | rfl | rfl <;> rfl) j hj) hd kk
theorem p_Sp2 (C : Cx G nL X own cc d) {x : Int32} (pc : Nat) {index : Nat} (hn : narrow .boolean (.int x) = .int x) (hf : fits .boolean (.int x) = true) (hl : Cond.fieldLink own index RX5 "hasSnapshot" "Z" ∈ gw) (hd : decode cc pc = .ok (.putfield index, 3))
    (kk : JS G nL X Q sp (sSp c0 (x, c0.2.2.2.2.2.2.2), w) (pc + 3) L st) : JS G nL X Q sp (c0, w) pc L (.int x :: .ref (G.2.2 0) :: st) :=
  j_put C pc 0 (by omega) rfl (at_sp (j := 0) (by omega)) (ci := 5) (n := 2) rfl iw5 tyX5_ok nmX5 (by omega) hl rfl rfl rfl hn hf (Nat.le_of_ble_eq_true rfl) (fun j hj => up_sp (cy := G.2.1) (ad := G.2.2) (c := c0) (w := w) (t := c0.2.2.2.2.2.1) (v := (x, c0.2.2.2.2.2.2.2)) (j0 := 0) (by omega) (by intro i hi he; rcases (show i = 1 ∨ i = 2 ∨ i = 3 ∨ i = 4 ∨ i = 5 by omega) with rfl | rfl | rfl | rfl | rfl <;> rfl) j hj) hd kk
theorem p_Sp4 (C : Cx G nL X own cc d) {x : Int32} (pc : Nat) {index : Nat} (hl : Cond.fieldLink own index RX5 "savedCount" "I" ∈ gw) (hd : decode cc pc = .ok (.putfield index, 3))
    (kk : JS G nL X Q sp (sSp c0 (c0.2.2.2.2.2.2.1, x, c0.2.2.2.2.2.2.2.2), w) (pc + 3) L st) : JS G nL X Q sp (c0, w) pc L (.int x :: .ref (G.2.2 0) :: st) :=
  j_put C pc 0 (by omega) rfl (at_sp (j := 0) (by omega)) (ci := 5) (n := 4) rfl iw5 tyX5_ok nmX5 (by omega) hl rfl rfl rfl rfl rfl (Nat.le_of_ble_eq_true rfl) (fun j hj => up_sp (cy := G.2.1) (ad := G.2.2) (c := c0) (w := w) (t := c0.2.2.2.2.2.1) (v := (c0.2.2.2.2.2.2.1, x, c0.2.2.2.2.2.2.2.2)) (j0 := 0) (by omega) (by intro i hi he; rcases (show i = 1 ∨ i = 2 ∨ i = 3 ∨ i = 4 ∨ i = 5 by omega) with rfl | rfl | rfl | rfl | rfl <;> rfl) j hj) hd kk
theorem p_Mo0 (C : Cx G nL X own cc d) {x : Int32} (pc : Nat) {index : Nat} (hl : Cond.fieldLink own index RX6 "thrown" "I" ∈ gw) (hd : decode cc pc = .ok (.putfield index, 3))
    (kk : JS G nL X Q sp (c0, ((x, w.1.2), w.2)) (pc + 3) L st) : JS G nL X Q sp (c0, w) pc L (.int x :: .ref (G.2.2 114) :: st) :=
  j_put C pc 114 (by omega) rfl (at_mo (j := 0)) (ci := 6) (n := 0) rfl iw6 tyX6_ok nmX6 (by omega) hl rfl rfl rfl rfl rfl (Nat.le_of_ble_eq_true rfl) (fun j hj => up_mo (cy := G.2.1) (ad := G.2.2) (c := c0) (w := w) (w' := ((x, w.1.2), w.2)) (j0 := 0) (by intro i hi he; rcases (show i = 1 ∨ i = 2 ∨ i = 3 ∨ i = 4 ∨ i = 5 ∨ i = 6 by omega) with rfl | rfl | rfl | rfl | rfl | rfl <;> rfl) j hj) hd kk
theorem p_Mo4 (C : Cx G nL X own cc d) {x : Int32} (pc : Nat) {index : Nat} (hl : Cond.fieldLink own index RX6 "saves" "I" ∈ gw) (hd : decode cc pc = .ok (.putfield index, 3))
    (kk : JS G nL X Q sp (c0, ((w.1.1, w.1.2.1, w.1.2.2.1, w.1.2.2.2.1, x, w.1.2.2.2.2.2), w.2)) (pc + 3) L st) : JS G nL X Q sp (c0, w) pc L (.int x :: .ref (G.2.2 114) :: st) :=
  j_put C pc 114 (by omega) rfl (at_mo (j := 0)) (ci := 6) (n := 4) rfl iw6 tyX6_ok nmX6 (by omega) hl rfl rfl rfl rfl rfl (Nat.le_of_ble_eq_true rfl) (fun j hj => up_mo (cy := G.2.1) (ad := G.2.2) (c := c0) (w := w) (w' := ((w.1.1, w.1.2.1, w.1.2.2.1, w.1.2.2.2.1, x, w.1.2.2.2.2.2), w.2)) (j0 := 0) (by intro i hi he; rcases (show i = 1 ∨ i = 2 ∨ i = 3 ∨ i = 4 ∨ i = 5 ∨ i = 6 by omega) with rfl | rfl | rfl | rfl | rfl | rfl <;> rfl) j hj) hd kk
theorem p_Mo6 (C : Cx G nL X own cc d) {x : Int32} (pc : Nat) {index : Nat} (hn : narrow .boolean (.int x) = .int x) (hf : fits .boolean (.int x) = true) (hl : Cond.fieldLink own index RX6 "isKept" "Z" ∈ gw) (hd : decode cc pc = .ok (.putfield index, 3))
    (kk : JS G nL X Q sp (c0, ((w.1.1, w.1.2.1, w.1.2.2.1, w.1.2.2.2.1, w.1.2.2.2.2.1, w.1.2.2.2.2.2.1, x, w.1.2.2.2.2.2.2.2), w.2)) (pc + 3) L st) : JS G nL X Q sp (c0, w) pc L (.int x :: .ref (G.2.2 114) :: st) :=
  j_put C pc 114 (by omega) rfl (at_mo (j := 0)) (ci := 6) (n := 6) rfl iw6 tyX6_ok nmX6 (by omega) hl rfl rfl rfl hn hf (Nat.le_of_ble_eq_true rfl) (fun j hj => up_mo (cy := G.2.1) (ad := G.2.2) (c := c0) (w := w) (w' := ((w.1.1, w.1.2.1, w.1.2.2.1, w.1.2.2.2.1, w.1.2.2.2.2.1, w.1.2.2.2.2.2.1, x, w.1.2.2.2.2.2.2.2), w.2)) (j0 := 0) (by intro i hi he; rcases (show i = 1 ∨ i = 2 ∨ i = 3 ∨ i = 4 ∨ i = 5 ∨ i = 6 by omega) with rfl | rfl | rfl | rfl | rfl | rfl <;> rfl) j hj) hd kk
theorem p_Mo8 (C : Cx G nL X own cc d) {x : Int32} (pc : Nat) {index : Nat} (hl : Cond.fieldLink own index RX6 "length" "I" ∈ gw) (hd : decode cc pc = .ok (.putfield index, 3))
    (kk : JS G nL X Q sp (c0, ((w.1.1, w.1.2.1, w.1.2.2.1, w.1.2.2.2.1, w.1.2.2.2.2.1, w.1.2.2.2.2.2.1, w.1.2.2.2.2.2.2.1, w.1.2.2.2.2.2.2.2.1, x, w.1.2.2.2.2.2.2.2.2.2), w.2)) (pc + 3) L st) : JS G nL X Q sp (c0, w) pc L (.int x :: .ref (G.2.2 114) :: st) :=
  j_put C pc 114 (by omega) rfl (at_mo (j := 0)) (ci := 6) (n := 8) rfl iw6 tyX6_ok nmX6 (by omega) hl rfl rfl rfl rfl rfl (Nat.le_of_ble_eq_true rfl) (fun j hj => up_mo (cy := G.2.1) (ad := G.2.2) (c := c0) (w := w) (w' := ((w.1.1, w.1.2.1, w.1.2.2.1, w.1.2.2.2.1, w.1.2.2.2.2.1, w.1.2.2.2.2.2.1, w.1.2.2.2.2.2.2.1, w.1.2.2.2.2.2.2.2.1, x, w.1.2.2.2.2.2.2.2.2.2), w.2)) (j0 := 0) (by intro i hi he; rcases (show i = 1 ∨ i = 2 ∨ i = 3 ∨ i = 4 ∨ i = 5 ∨ i = 6 by omega) with rfl | rfl | rfl | rfl | rfl | rfl <;> rfl) j hj) hd kk
theorem p_Mo9 (C : Cx G nL X own cc d) {x : Int32} (pc : Nat) {index : Nat} (hl : Cond.fieldLink own index RX6 "from" "I" ∈ gw) (hd : decode cc pc = .ok (.putfield index, 3))
    (kk : JS G nL X Q sp (c0, ((w.1.1, w.1.2.1, w.1.2.2.1, w.1.2.2.2.1, w.1.2.2.2.2.1, w.1.2.2.2.2.2.1, w.1.2.2.2.2.2.2.1, w.1.2.2.2.2.2.2.2.1, w.1.2.2.2.2.2.2.2.2.1, x, w.1.2.2.2.2.2.2.2.2.2.2), w.2)) (pc + 3) L st) : JS G nL X Q sp (c0, w) pc L (.int x :: .ref (G.2.2 114) :: st) :=
  j_put C pc 114 (by omega) rfl (at_mo (j := 0)) (ci := 6) (n := 9) rfl iw6 tyX6_ok nmX6 (by omega) hl rfl rfl rfl rfl rfl (Nat.le_of_ble_eq_true rfl) (fun j hj => up_mo (cy := G.2.1) (ad := G.2.2) (c := c0) (w := w) (w' := ((w.1.1, w.1.2.1, w.1.2.2.1, w.1.2.2.2.1, w.1.2.2.2.2.1, w.1.2.2.2.2.2.1, w.1.2.2.2.2.2.2.1, w.1.2.2.2.2.2.2.2.1, w.1.2.2.2.2.2.2.2.2.1, x, w.1.2.2.2.2.2.2.2.2.2.2), w.2)) (j0 := 0) (by intro i hi he; rcases (show i = 1 ∨ i = 2 ∨ i = 3 ∨ i = 4 ∨ i = 5 ∨ i = 6 by omega) with rfl | rfl | rfl | rfl | rfl | rfl <;> rfl) j hj) hd kk
theorem p_Mo10 (C : Cx G nL X own cc d) {x : Int32} (pc : Nat) {index : Nat} (hl : Cond.fieldLink own index RX6 "to" "I" ∈ gw) (hd : decode cc pc = .ok (.putfield index, 3))
    (kk : JS G nL X Q sp (c0, ((w.1.1, w.1.2.1, w.1.2.2.1, w.1.2.2.2.1, w.1.2.2.2.2.1, w.1.2.2.2.2.2.1, w.1.2.2.2.2.2.2.1, w.1.2.2.2.2.2.2.2.1, w.1.2.2.2.2.2.2.2.2.1, w.1.2.2.2.2.2.2.2.2.2.1, x), w.2)) (pc + 3) L st) : JS G nL X Q sp (c0, w) pc L (.int x :: .ref (G.2.2 114) :: st) :=
  j_put C pc 114 (by omega) rfl (at_mo (j := 0)) (ci := 6) (n := 10) rfl iw6 tyX6_ok nmX6 (by omega) hl rfl rfl rfl rfl rfl (Nat.le_of_ble_eq_true rfl) (fun j hj => up_mo (cy := G.2.1) (ad := G.2.2) (c := c0) (w := w) (w' := ((w.1.1, w.1.2.1, w.1.2.2.1, w.1.2.2.2.1, w.1.2.2.2.2.1, w.1.2.2.2.2.2.1, w.1.2.2.2.2.2.2.1, w.1.2.2.2.2.2.2.2.1, w.1.2.2.2.2.2.2.2.2.1, w.1.2.2.2.2.2.2.2.2.2.1, x), w.2)) (j0 := 0) (by intro i hi he; rcases (show i = 1 ∨ i = 2 ∨ i = 3 ∨ i = 4 ∨ i = 5 ∨ i = 6 by omega) with rfl | rfl | rfl | rfl | rfl | rfl <;> rfl) j hj) hd kk
theorem a_Sk1 (hk : k < 8) {v : VSk} (hv : c0.1 k = v) : cellA G.2.1 G.2.2 (c0, w) (23 + 7 * k) = cI (G.2.1 0) 4 v.1 := (by subst hv; exact at_sk (j := 1) hk (by omega))
theorem l_Sk1 (C : Cx G nL X own cc d) (hk : k < 8) {v : VSk} (hv : c0.1 k = v) {i x : Int32} (pc : Nat) (hr : ard 4 v.1 i = some x) (hd : decode cc pc = .ok (.iaload, 1))
    (kk : JS G nL X Q sp (c0, w) (pc + 1) L (.int x :: st)) : JS G nL X Q sp (c0, w) pc L (.int i :: .ref (G.2.2 (23 + 7 * k)) :: st) :=
  j_iald C pc (23 + 7 * k) (by omega) rfl (a_Sk1 hk hv) hr hd kk
theorem b_Sk1 (hk : k < 8) {v : VSk} (f : Nat → Int32) : ∀ j, j < 121 → va_up (cellA G.2.1 G.2.2 (sSk c0 k v, w)) (23 + 7 * k) (cI (G.2.1 0) 4 f) j = cellA G.2.1 G.2.2 (sSk c0 k (f, v.2), w) j := (by have h := up_sk (cy := G.2.1) (ad := G.2.2) (c := sSk c0 k v) (w := w) (v := (f, v.2)) (j0 := 1) hk (by omega) (by intro i hi he; rw [sSk_get]; rcases (show i = 0 ∨ i = 2 ∨ i = 3 ∨ i = 4 ∨ i = 5 ∨ i = 6 by omega) with rfl | rfl | rfl | rfl | rfl | rfl <;> rfl); rw [sSk_up] at h; exact h)
theorem t_Sk1 (C : Cx G nL X own cc d) (hk : k < 8) {v : VSk} {i x : Int32} {f : Nat → Int32} (pc : Nat) (hr : aup 4 v.1 i x = some f) (hd : decode cc pc = .ok (.iastore, 1))
    (kk : JS G nL X Q sp (sSk c0 k (f, v.2), w) (pc + 1) L st) : JS G nL X Q sp (sSk c0 k v, w) pc L (.int x :: .int i :: .ref (G.2.2 (23 + 7 * k)) :: st) :=
  j_iast C pc (23 + 7 * k) (by omega) rfl (a_Sk1 hk (sSk_get _ _ _)) hr (b_Sk1 hk f) hd kk
theorem a_Sk2 (hk : k < 8) {v : VSk} (hv : c0.1 k = v) : cellA G.2.1 G.2.2 (c0, w) (24 + 7 * k) = cI (G.2.1 0) 4 v.2.1 := (by subst hv; exact at_sk (j := 2) hk (by omega))
theorem l_Sk2 (C : Cx G nL X own cc d) (hk : k < 8) {v : VSk} (hv : c0.1 k = v) {i x : Int32} (pc : Nat) (hr : ard 4 v.2.1 i = some x) (hd : decode cc pc = .ok (.iaload, 1))
    (kk : JS G nL X Q sp (c0, w) (pc + 1) L (.int x :: st)) : JS G nL X Q sp (c0, w) pc L (.int i :: .ref (G.2.2 (24 + 7 * k)) :: st) :=
  j_iald C pc (24 + 7 * k) (by omega) rfl (a_Sk2 hk hv) hr hd kk
theorem b_Sk2 (hk : k < 8) {v : VSk} (f : Nat → Int32) : ∀ j, j < 121 → va_up (cellA G.2.1 G.2.2 (sSk c0 k v, w)) (24 + 7 * k) (cI (G.2.1 0) 4 f) j = cellA G.2.1 G.2.2 (sSk c0 k (v.1, f, v.2.2), w) j := (by have h := up_sk (cy := G.2.1) (ad := G.2.2) (c := sSk c0 k v) (w := w) (v := (v.1, f, v.2.2)) (j0 := 2) hk (by omega) (by intro i hi he; rw [sSk_get]; rcases (show i = 0 ∨ i = 1 ∨ i = 3 ∨ i = 4 ∨ i = 5 ∨ i = 6 by omega) with rfl | rfl | rfl | rfl | rfl | rfl <;> rfl); rw [sSk_up] at h; exact h)
theorem t_Sk2 (C : Cx G nL X own cc d) (hk : k < 8) {v : VSk} {i x : Int32} {f : Nat → Int32} (pc : Nat) (hr : aup 4 v.2.1 i x = some f) (hd : decode cc pc = .ok (.iastore, 1))
    (kk : JS G nL X Q sp (sSk c0 k (v.1, f, v.2.2), w) (pc + 1) L st) : JS G nL X Q sp (sSk c0 k v, w) pc L (.int x :: .int i :: .ref (G.2.2 (24 + 7 * k)) :: st) :=
  j_iast C pc (24 + 7 * k) (by omega) rfl (a_Sk2 hk (sSk_get _ _ _)) hr (b_Sk2 hk f) hd kk
theorem a_Sk3 (hk : k < 8) {v : VSk} (hv : c0.1 k = v) : cellA G.2.1 G.2.2 (c0, w) (25 + 7 * k) = cI (G.2.1 0) 4 v.2.2.1 := (by subst hv; exact at_sk (j := 3) hk (by omega))
theorem l_Sk3 (C : Cx G nL X own cc d) (hk : k < 8) {v : VSk} (hv : c0.1 k = v) {i x : Int32} (pc : Nat) (hr : ard 4 v.2.2.1 i = some x) (hd : decode cc pc = .ok (.iaload, 1))
    (kk : JS G nL X Q sp (c0, w) (pc + 1) L (.int x :: st)) : JS G nL X Q sp (c0, w) pc L (.int i :: .ref (G.2.2 (25 + 7 * k)) :: st) :=
  j_iald C pc (25 + 7 * k) (by omega) rfl (a_Sk3 hk hv) hr hd kk
theorem b_Sk3 (hk : k < 8) {v : VSk} (f : Nat → Int32) : ∀ j, j < 121 → va_up (cellA G.2.1 G.2.2 (sSk c0 k v, w)) (25 + 7 * k) (cI (G.2.1 0) 4 f) j = cellA G.2.1 G.2.2 (sSk c0 k (v.1, v.2.1, f, v.2.2.2), w) j := (by have h := up_sk (cy := G.2.1) (ad := G.2.2) (c := sSk c0 k v) (w := w) (v := (v.1, v.2.1, f, v.2.2.2)) (j0 := 3) hk (by omega) (by intro i hi he; rw [sSk_get]; rcases (show i = 0 ∨ i = 1 ∨ i = 2 ∨ i = 4 ∨ i = 5 ∨ i = 6 by omega) with rfl | rfl | rfl | rfl | rfl | rfl <;> rfl); rw [sSk_up] at h; exact h)
theorem t_Sk3 (C : Cx G nL X own cc d) (hk : k < 8) {v : VSk} {i x : Int32} {f : Nat → Int32} (pc : Nat) (hr : aup 4 v.2.2.1 i x = some f) (hd : decode cc pc = .ok (.iastore, 1))
    (kk : JS G nL X Q sp (sSk c0 k (v.1, v.2.1, f, v.2.2.2), w) (pc + 1) L st) : JS G nL X Q sp (sSk c0 k v, w) pc L (.int x :: .int i :: .ref (G.2.2 (25 + 7 * k)) :: st) :=
  j_iast C pc (25 + 7 * k) (by omega) rfl (a_Sk3 hk (sSk_get _ _ _)) hr (b_Sk3 hk f) hd kk
theorem a_Sk4 (hk : k < 8) {v : VSk} (hv : c0.1 k = v) : cellA G.2.1 G.2.2 (c0, w) (26 + 7 * k) = cI (G.2.1 0) 4 v.2.2.2.1 := (by subst hv; exact at_sk (j := 4) hk (by omega))
theorem l_Sk4 (C : Cx G nL X own cc d) (hk : k < 8) {v : VSk} (hv : c0.1 k = v) {i x : Int32} (pc : Nat) (hr : ard 4 v.2.2.2.1 i = some x) (hd : decode cc pc = .ok (.iaload, 1))
    (kk : JS G nL X Q sp (c0, w) (pc + 1) L (.int x :: st)) : JS G nL X Q sp (c0, w) pc L (.int i :: .ref (G.2.2 (26 + 7 * k)) :: st) :=
  j_iald C pc (26 + 7 * k) (by omega) rfl (a_Sk4 hk hv) hr hd kk
theorem b_Sk4 (hk : k < 8) {v : VSk} (f : Nat → Int32) : ∀ j, j < 121 → va_up (cellA G.2.1 G.2.2 (sSk c0 k v, w)) (26 + 7 * k) (cI (G.2.1 0) 4 f) j = cellA G.2.1 G.2.2 (sSk c0 k (v.1, v.2.1, v.2.2.1, f, v.2.2.2.2), w) j := (by have h := up_sk (cy := G.2.1) (ad := G.2.2) (c := sSk c0 k v) (w := w) (v := (v.1, v.2.1, v.2.2.1, f, v.2.2.2.2)) (j0 := 4) hk (by omega) (by intro i hi he; rw [sSk_get]; rcases (show i = 0 ∨ i = 1 ∨ i = 2 ∨ i = 3 ∨ i = 5 ∨ i = 6 by omega) with rfl | rfl | rfl | rfl | rfl | rfl <;> rfl); rw [sSk_up] at h; exact h)
theorem t_Sk4 (C : Cx G nL X own cc d) (hk : k < 8) {v : VSk} {i x : Int32} {f : Nat → Int32} (pc : Nat) (hr : aup 4 v.2.2.2.1 i x = some f) (hd : decode cc pc = .ok (.iastore, 1))
    (kk : JS G nL X Q sp (sSk c0 k (v.1, v.2.1, v.2.2.1, f, v.2.2.2.2), w) (pc + 1) L st) : JS G nL X Q sp (sSk c0 k v, w) pc L (.int x :: .int i :: .ref (G.2.2 (26 + 7 * k)) :: st) :=
  j_iast C pc (26 + 7 * k) (by omega) rfl (a_Sk4 hk (sSk_get _ _ _)) hr (b_Sk4 hk f) hd kk
theorem a_Sk5 (hk : k < 8) {v : VSk} (hv : c0.1 k = v) : cellA G.2.1 G.2.2 (c0, w) (27 + 7 * k) = cI (G.2.1 1) 4 v.2.2.2.2.1 := (by subst hv; exact at_sk (j := 5) hk (by omega))
theorem l_Sk5 (C : Cx G nL X own cc d) (hk : k < 8) {v : VSk} (hv : c0.1 k = v) {i x : Int32} (pc : Nat) (hr : ard 4 v.2.2.2.2.1 i = some x) (hd : decode cc pc = .ok (.baload, 1))
    (kk : JS G nL X Q sp (c0, w) (pc + 1) L (.int x :: st)) : JS G nL X Q sp (c0, w) pc L (.int i :: .ref (G.2.2 (27 + 7 * k)) :: st) :=
  j_zald C pc (27 + 7 * k) (by omega) rfl (a_Sk5 hk hv) hr hd kk
theorem b_Sk5 (hk : k < 8) {v : VSk} (f : Nat → Int32) : ∀ j, j < 121 → va_up (cellA G.2.1 G.2.2 (sSk c0 k v, w)) (27 + 7 * k) (cI (G.2.1 1) 4 f) j = cellA G.2.1 G.2.2 (sSk c0 k (v.1, v.2.1, v.2.2.1, v.2.2.2.1, f, v.2.2.2.2.2), w) j := (by have h := up_sk (cy := G.2.1) (ad := G.2.2) (c := sSk c0 k v) (w := w) (v := (v.1, v.2.1, v.2.2.1, v.2.2.2.1, f, v.2.2.2.2.2)) (j0 := 5) hk (by omega) (by intro i hi he; rw [sSk_get]; rcases (show i = 0 ∨ i = 1 ∨ i = 2 ∨ i = 3 ∨ i = 4 ∨ i = 6 by omega) with rfl | rfl | rfl | rfl | rfl | rfl <;> rfl); rw [sSk_up] at h; exact h)
theorem t_Sk5 (C : Cx G nL X own cc d) (hk : k < 8) {v : VSk} {i x : Int32} {f : Nat → Int32} (pc : Nat) (hr : aupz 4 v.2.2.2.2.1 i x = some f) (hd : decode cc pc = .ok (.bastore, 1))
    (kk : JS G nL X Q sp (sSk c0 k (v.1, v.2.1, v.2.2.1, v.2.2.2.1, f, v.2.2.2.2.2), w) (pc + 1) L st) : JS G nL X Q sp (sSk c0 k v, w) pc L (.int x :: .int i :: .ref (G.2.2 (27 + 7 * k)) :: st) :=
  j_zast C pc (27 + 7 * k) (by omega) rfl (a_Sk5 hk (sSk_get _ _ _)) hr (b_Sk5 hk f) hd kk
theorem a_Sk6 (hk : k < 8) {v : VSk} (hv : c0.1 k = v) : cellA G.2.1 G.2.2 (c0, w) (28 + 7 * k) = cI (G.2.1 1) 4 v.2.2.2.2.2 := (by subst hv; exact at_sk (j := 6) hk (by omega))
theorem l_Sk6 (C : Cx G nL X own cc d) (hk : k < 8) {v : VSk} (hv : c0.1 k = v) {i x : Int32} (pc : Nat) (hr : ard 4 v.2.2.2.2.2 i = some x) (hd : decode cc pc = .ok (.baload, 1))
    (kk : JS G nL X Q sp (c0, w) (pc + 1) L (.int x :: st)) : JS G nL X Q sp (c0, w) pc L (.int i :: .ref (G.2.2 (28 + 7 * k)) :: st) :=
  j_zald C pc (28 + 7 * k) (by omega) rfl (a_Sk6 hk hv) hr hd kk
theorem b_Sk6 (hk : k < 8) {v : VSk} (f : Nat → Int32) : ∀ j, j < 121 → va_up (cellA G.2.1 G.2.2 (sSk c0 k v, w)) (28 + 7 * k) (cI (G.2.1 1) 4 f) j = cellA G.2.1 G.2.2 (sSk c0 k (v.1, v.2.1, v.2.2.1, v.2.2.2.1, v.2.2.2.2.1, f), w) j := (by have h := up_sk (cy := G.2.1) (ad := G.2.2) (c := sSk c0 k v) (w := w) (v := (v.1, v.2.1, v.2.2.1, v.2.2.2.1, v.2.2.2.2.1, f)) (j0 := 6) hk (by omega) (by intro i hi he; rw [sSk_get]; rcases (show i = 0 ∨ i = 1 ∨ i = 2 ∨ i = 3 ∨ i = 4 ∨ i = 5 by omega) with rfl | rfl | rfl | rfl | rfl | rfl <;> rfl); rw [sSk_up] at h; exact h)
theorem t_Sk6 (C : Cx G nL X own cc d) (hk : k < 8) {v : VSk} {i x : Int32} {f : Nat → Int32} (pc : Nat) (hr : aupz 4 v.2.2.2.2.2 i x = some f) (hd : decode cc pc = .ok (.bastore, 1))
    (kk : JS G nL X Q sp (sSk c0 k (v.1, v.2.1, v.2.2.1, v.2.2.2.1, v.2.2.2.2.1, f), w) (pc + 1) L st) : JS G nL X Q sp (sSk c0 k v, w) pc L (.int x :: .int i :: .ref (G.2.2 (28 + 7 * k)) :: st) :=
  j_zast C pc (28 + 7 * k) (by omega) rfl (a_Sk6 hk (sSk_get _ _ _)) hr (b_Sk6 hk f) hd kk
theorem a_Ly1 (hk : k < 9) {v : VLy} (hv : c0.2.1 k = v) : cellA G.2.1 G.2.2 (c0, w) (79 + 2 * k) = cI (G.2.1 0) 4 v.2.1 := (by subst hv; exact at_lr hk)
theorem l_Ly1 (C : Cx G nL X own cc d) (hk : k < 9) {v : VLy} (hv : c0.2.1 k = v) {i x : Int32} (pc : Nat) (hr : ard 4 v.2.1 i = some x) (hd : decode cc pc = .ok (.iaload, 1))
    (kk : JS G nL X Q sp (c0, w) (pc + 1) L (.int x :: st)) : JS G nL X Q sp (c0, w) pc L (.int i :: .ref (G.2.2 (79 + 2 * k)) :: st) :=
  j_iald C pc (79 + 2 * k) (by omega) rfl (a_Ly1 hk hv) hr hd kk
theorem b_Ly1 (hk : k < 9) {v : VLy} (f : Nat → Int32) : ∀ j, j < 121 → va_up (cellA G.2.1 G.2.2 (sLy c0 k v, w)) (79 + 2 * k) (cI (G.2.1 0) 4 f) j = cellA G.2.1 G.2.2 (sLy c0 k (v.1, f, v.2.2), w) j := (by have h := up_lr (cy := G.2.1) (ad := G.2.2) (c := sLy c0 k v) (w := w) (v := v) (f := f) hk (sLy_get _ _ _); rw [sLy_up] at h; exact h)
theorem t_Ly1 (C : Cx G nL X own cc d) (hk : k < 9) {v : VLy} {i x : Int32} {f : Nat → Int32} (pc : Nat) (hr : aup 4 v.2.1 i x = some f) (hd : decode cc pc = .ok (.iastore, 1))
    (kk : JS G nL X Q sp (sLy c0 k (v.1, f, v.2.2), w) (pc + 1) L st) : JS G nL X Q sp (sLy c0 k v, w) pc L (.int x :: .int i :: .ref (G.2.2 (79 + 2 * k)) :: st) :=
  j_iast C pc (79 + 2 * k) (by omega) rfl (a_Ly1 hk (sLy_get _ _ _)) hr (b_Ly1 hk f) hd kk
theorem a_Ck0 (hk : k < 9) {v : VCk} (hv : c0.2.2.1 k = v) : cellA G.2.1 G.2.2 (c0, w) (97 + 2 * k) = cI (G.2.1 0) 8 v.1 := (by subst hv; exact at_cr hk)
theorem l_Ck0 (C : Cx G nL X own cc d) (hk : k < 9) {v : VCk} (hv : c0.2.2.1 k = v) {i x : Int32} (pc : Nat) (hr : ard 8 v.1 i = some x) (hd : decode cc pc = .ok (.iaload, 1))
    (kk : JS G nL X Q sp (c0, w) (pc + 1) L (.int x :: st)) : JS G nL X Q sp (c0, w) pc L (.int i :: .ref (G.2.2 (97 + 2 * k)) :: st) :=
  j_iald C pc (97 + 2 * k) (by omega) rfl (a_Ck0 hk hv) hr hd kk
theorem b_Ck0 (hk : k < 9) {v : VCk} (f : Nat → Int32) : ∀ j, j < 121 → va_up (cellA G.2.1 G.2.2 (sCk c0 k v, w)) (97 + 2 * k) (cI (G.2.1 0) 8 f) j = cellA G.2.1 G.2.2 (sCk c0 k (f, v.2), w) j := (by have h := up_cr (cy := G.2.1) (ad := G.2.2) (c := sCk c0 k v) (w := w) (v := v) (f := f) hk (sCk_get _ _ _); rw [sCk_up] at h; exact h)
theorem t_Ck0 (C : Cx G nL X own cc d) (hk : k < 9) {v : VCk} {i x : Int32} {f : Nat → Int32} (pc : Nat) (hr : aup 8 v.1 i x = some f) (hd : decode cc pc = .ok (.iastore, 1))
    (kk : JS G nL X Q sp (sCk c0 k (f, v.2), w) (pc + 1) L st) : JS G nL X Q sp (sCk c0 k v, w) pc L (.int x :: .int i :: .ref (G.2.2 (97 + 2 * k)) :: st) :=
  j_iast C pc (97 + 2 * k) (by omega) rfl (a_Ck0 hk (sCk_get _ _ _)) hr (b_Ck0 hk f) hd kk
theorem a_St3 (hk : k < 8) {v : Nat → Int32} (hv : c0.2.2.2.1 k = v) : cellA G.2.1 G.2.2 (c0, w) (7 + 2 * k) = cI (G.2.1 0) 48 v := (by subst hv; exact at_vl hk)
theorem l_St3 (C : Cx G nL X own cc d) (hk : k < 8) {v : Nat → Int32} (hv : c0.2.2.2.1 k = v) {i x : Int32} (pc : Nat) (hr : ard 48 v i = some x) (hd : decode cc pc = .ok (.iaload, 1))
    (kk : JS G nL X Q sp (c0, w) (pc + 1) L (.int x :: st)) : JS G nL X Q sp (c0, w) pc L (.int i :: .ref (G.2.2 (7 + 2 * k)) :: st) :=
  j_iald C pc (7 + 2 * k) (by omega) rfl (a_St3 hk hv) hr hd kk
theorem b_St3 (hk : k < 8) {v : VSt} (f : Nat → Int32) : ∀ j, j < 121 → va_up (cellA G.2.1 G.2.2 (sSt c0 k v, w)) (7 + 2 * k) (cI (G.2.1 0) 48 f) j = cellA G.2.1 G.2.2 (sSt c0 k (v.1, v.2.1, v.2.2.1, f, v.2.2.2.2), w) j := (by have h := up_vl (cy := G.2.1) (ad := G.2.2) (c := sSt c0 k v) (w := w) (v := f) hk; rw [sSt_sVl] at h; exact h)
theorem t_St3 (C : Cx G nL X own cc d) (hk : k < 8) {v : VSt} {i x : Int32} {f : Nat → Int32} (pc : Nat) (hr : aup 48 v.2.2.2.1 i x = some f) (hd : decode cc pc = .ok (.iastore, 1))
    (kk : JS G nL X Q sp (sSt c0 k (v.1, v.2.1, v.2.2.1, f, v.2.2.2.2), w) (pc + 1) L st) : JS G nL X Q sp (sSt c0 k v, w) pc L (.int x :: .int i :: .ref (G.2.2 (7 + 2 * k)) :: st) :=
  j_iast C pc (7 + 2 * k) (by omega) rfl (a_St3 hk (sSt_g4 _ _ _)) hr (b_St3 hk f) hd kk
theorem a_Tx0 {v : VTx} (hv : c0.2.2.2.2.2.1 = v) : cellA G.2.1 G.2.2 (c0, w) 3 = cI (G.2.1 0) 60 v.1 := (by subst hv; exact at_sp (j := 3) (by omega))
theorem l_Tx0 (C : Cx G nL X own cc d) {v : VTx} (hv : c0.2.2.2.2.2.1 = v) {i x : Int32} (pc : Nat) (hr : ard 60 v.1 i = some x) (hd : decode cc pc = .ok (.iaload, 1))
    (kk : JS G nL X Q sp (c0, w) (pc + 1) L (.int x :: st)) : JS G nL X Q sp (c0, w) pc L (.int i :: .ref (G.2.2 3) :: st) :=
  j_iald C pc 3 (by omega) rfl (a_Tx0 hv) hr hd kk
theorem b_Tx0 {v : VTx} (f : Nat → Int32) : ∀ j, j < 121 → va_up (cellA G.2.1 G.2.2 (sTx c0 v, w)) 3 (cI (G.2.1 0) 60 f) j = cellA G.2.1 G.2.2 (sTx c0 (f, v.2), w) j := (fun j hj => up_sp (cy := G.2.1) (ad := G.2.2) (c := sTx c0 v) (w := w) (t := (f, v.2)) (v := c0.2.2.2.2.2.2) (j0 := 3) (by omega) (by intro i hi he; rcases (show i = 0 ∨ i = 1 ∨ i = 2 ∨ i = 4 ∨ i = 5 by omega) with rfl | rfl | rfl | rfl | rfl <;> rfl) j hj)
theorem t_Tx0 (C : Cx G nL X own cc d) {v : VTx} {i x : Int32} {f : Nat → Int32} (pc : Nat) (hr : aup 60 v.1 i x = some f) (hd : decode cc pc = .ok (.iastore, 1))
    (kk : JS G nL X Q sp (sTx c0 (f, v.2), w) (pc + 1) L st) : JS G nL X Q sp (sTx c0 v, w) pc L (.int x :: .int i :: .ref (G.2.2 3) :: st) :=
  j_iast C pc 3 (by omega) rfl (a_Tx0 rfl) hr (b_Tx0 f) hd kk
theorem a_Tx2 {v : VTx} (hv : c0.2.2.2.2.2.1 = v) : cellA G.2.1 G.2.2 (c0, w) 4 = cI (G.2.1 0) 30 v.2.2.1 := (by subst hv; exact at_sp (j := 4) (by omega))
theorem l_Tx2 (C : Cx G nL X own cc d) {v : VTx} (hv : c0.2.2.2.2.2.1 = v) {i x : Int32} (pc : Nat) (hr : ard 30 v.2.2.1 i = some x) (hd : decode cc pc = .ok (.iaload, 1))
    (kk : JS G nL X Q sp (c0, w) (pc + 1) L (.int x :: st)) : JS G nL X Q sp (c0, w) pc L (.int i :: .ref (G.2.2 4) :: st) :=
  j_iald C pc 4 (by omega) rfl (a_Tx2 hv) hr hd kk
theorem b_Tx2 {v : VTx} (f : Nat → Int32) : ∀ j, j < 121 → va_up (cellA G.2.1 G.2.2 (sTx c0 v, w)) 4 (cI (G.2.1 0) 30 f) j = cellA G.2.1 G.2.2 (sTx c0 (v.1, v.2.1, f, v.2.2.2), w) j := (fun j hj => up_sp (cy := G.2.1) (ad := G.2.2) (c := sTx c0 v) (w := w) (t := (v.1, v.2.1, f, v.2.2.2)) (v := c0.2.2.2.2.2.2) (j0 := 4) (by omega) (by intro i hi he; rcases (show i = 0 ∨ i = 1 ∨ i = 2 ∨ i = 3 ∨ i = 5 by omega) with rfl | rfl | rfl | rfl | rfl <;> rfl) j hj)
theorem t_Tx2 (C : Cx G nL X own cc d) {v : VTx} {i x : Int32} {f : Nat → Int32} (pc : Nat) (hr : aup 30 v.2.2.1 i x = some f) (hd : decode cc pc = .ok (.iastore, 1))
    (kk : JS G nL X Q sp (sTx c0 (v.1, v.2.1, f, v.2.2.2), w) (pc + 1) L st) : JS G nL X Q sp (sTx c0 v, w) pc L (.int x :: .int i :: .ref (G.2.2 4) :: st) :=
  j_iast C pc 4 (by omega) rfl (a_Tx2 rfl) hr (b_Tx2 f) hd kk
theorem a_Tx3 {v : VTx} (hv : c0.2.2.2.2.2.1 = v) : cellA G.2.1 G.2.2 (c0, w) 5 = cI (G.2.1 0) 30 v.2.2.2.1 := (by subst hv; exact at_sp (j := 5) (by omega))
theorem l_Tx3 (C : Cx G nL X own cc d) {v : VTx} (hv : c0.2.2.2.2.2.1 = v) {i x : Int32} (pc : Nat) (hr : ard 30 v.2.2.2.1 i = some x) (hd : decode cc pc = .ok (.iaload, 1))
    (kk : JS G nL X Q sp (c0, w) (pc + 1) L (.int x :: st)) : JS G nL X Q sp (c0, w) pc L (.int i :: .ref (G.2.2 5) :: st) :=
  j_iald C pc 5 (by omega) rfl (a_Tx3 hv) hr hd kk
theorem b_Tx3 {v : VTx} (f : Nat → Int32) : ∀ j, j < 121 → va_up (cellA G.2.1 G.2.2 (sTx c0 v, w)) 5 (cI (G.2.1 0) 30 f) j = cellA G.2.1 G.2.2 (sTx c0 (v.1, v.2.1, v.2.2.1, f, v.2.2.2.2), w) j := (fun j hj => up_sp (cy := G.2.1) (ad := G.2.2) (c := sTx c0 v) (w := w) (t := (v.1, v.2.1, v.2.2.1, f, v.2.2.2.2)) (v := c0.2.2.2.2.2.2) (j0 := 5) (by omega) (by intro i hi he; rcases (show i = 0 ∨ i = 1 ∨ i = 2 ∨ i = 3 ∨ i = 4 by omega) with rfl | rfl | rfl | rfl | rfl <;> rfl) j hj)
theorem t_Tx3 (C : Cx G nL X own cc d) {v : VTx} {i x : Int32} {f : Nat → Int32} (pc : Nat) (hr : aup 30 v.2.2.2.1 i x = some f) (hd : decode cc pc = .ok (.iastore, 1))
    (kk : JS G nL X Q sp (sTx c0 (v.1, v.2.1, v.2.2.1, f, v.2.2.2.2), w) (pc + 1) L st) : JS G nL X Q sp (sTx c0 v, w) pc L (.int x :: .int i :: .ref (G.2.2 5) :: st) :=
  j_iast C pc 5 (by omega) rfl (a_Tx3 rfl) hr (b_Tx3 f) hd kk
theorem a_Mo1 : cellA G.2.1 G.2.2 (c0, w) 115 = cI (G.2.1 0) 96 w.1.2.1 := (at_mo (j := 1))
theorem l_Mo1 (C : Cx G nL X own cc d) {i x : Int32} (pc : Nat) (hr : ard 96 w.1.2.1 i = some x) (hd : decode cc pc = .ok (.iaload, 1))
    (kk : JS G nL X Q sp (c0, w) (pc + 1) L (.int x :: st)) : JS G nL X Q sp (c0, w) pc L (.int i :: .ref (G.2.2 115) :: st) :=
  j_iald C pc 115 (by omega) rfl (a_Mo1 ) hr hd kk
theorem b_Mo1 (f : Nat → Int32) : ∀ j, j < 121 → va_up (cellA G.2.1 G.2.2 (c0, w)) 115 (cI (G.2.1 0) 96 f) j = cellA G.2.1 G.2.2 (c0, ((w.1.1, f, w.1.2.2), w.2)) j := (fun j hj => up_mo (cy := G.2.1) (ad := G.2.2) (c := c0) (w := w) (w' := ((w.1.1, f, w.1.2.2), w.2)) (j0 := 1) (by intro i hi he; rcases (show i = 0 ∨ i = 2 ∨ i = 3 ∨ i = 4 ∨ i = 5 ∨ i = 6 by omega) with rfl | rfl | rfl | rfl | rfl | rfl <;> rfl) j hj)
theorem t_Mo1 (C : Cx G nL X own cc d) {i x : Int32} {f : Nat → Int32} (pc : Nat) (hr : aup 96 w.1.2.1 i x = some f) (hd : decode cc pc = .ok (.iastore, 1))
    (kk : JS G nL X Q sp (c0, ((w.1.1, f, w.1.2.2), w.2)) (pc + 1) L st) : JS G nL X Q sp (c0, w) pc L (.int x :: .int i :: .ref (G.2.2 115) :: st) :=
  j_iast C pc 115 (by omega) rfl (a_Mo1 ) hr (b_Mo1 f) hd kk
theorem a_Mo2 : cellA G.2.1 G.2.2 (c0, w) 116 = cI (G.2.1 0) 96 w.1.2.2.1 := (at_mo (j := 2))
theorem l_Mo2 (C : Cx G nL X own cc d) {i x : Int32} (pc : Nat) (hr : ard 96 w.1.2.2.1 i = some x) (hd : decode cc pc = .ok (.iaload, 1))
    (kk : JS G nL X Q sp (c0, w) (pc + 1) L (.int x :: st)) : JS G nL X Q sp (c0, w) pc L (.int i :: .ref (G.2.2 116) :: st) :=
  j_iald C pc 116 (by omega) rfl (a_Mo2 ) hr hd kk
theorem b_Mo2 (f : Nat → Int32) : ∀ j, j < 121 → va_up (cellA G.2.1 G.2.2 (c0, w)) 116 (cI (G.2.1 0) 96 f) j = cellA G.2.1 G.2.2 (c0, ((w.1.1, w.1.2.1, f, w.1.2.2.2), w.2)) j := (fun j hj => up_mo (cy := G.2.1) (ad := G.2.2) (c := c0) (w := w) (w' := ((w.1.1, w.1.2.1, f, w.1.2.2.2), w.2)) (j0 := 2) (by intro i hi he; rcases (show i = 0 ∨ i = 1 ∨ i = 3 ∨ i = 4 ∨ i = 5 ∨ i = 6 by omega) with rfl | rfl | rfl | rfl | rfl | rfl <;> rfl) j hj)
theorem t_Mo2 (C : Cx G nL X own cc d) {i x : Int32} {f : Nat → Int32} (pc : Nat) (hr : aup 96 w.1.2.2.1 i x = some f) (hd : decode cc pc = .ok (.iastore, 1))
    (kk : JS G nL X Q sp (c0, ((w.1.1, w.1.2.1, f, w.1.2.2.2), w.2)) (pc + 1) L st) : JS G nL X Q sp (c0, w) pc L (.int x :: .int i :: .ref (G.2.2 116) :: st) :=
  j_iast C pc 116 (by omega) rfl (a_Mo2 ) hr (b_Mo2 f) hd kk
theorem a_Mo3 : cellA G.2.1 G.2.2 (c0, w) 117 = cI (G.2.1 0) 576 w.1.2.2.2.1 := (at_mo (j := 3))
theorem l_Mo3 (C : Cx G nL X own cc d) {i x : Int32} (pc : Nat) (hr : ard 576 w.1.2.2.2.1 i = some x) (hd : decode cc pc = .ok (.iaload, 1))
    (kk : JS G nL X Q sp (c0, w) (pc + 1) L (.int x :: st)) : JS G nL X Q sp (c0, w) pc L (.int i :: .ref (G.2.2 117) :: st) :=
  j_iald C pc 117 (by omega) rfl (a_Mo3 ) hr hd kk
theorem b_Mo3 (f : Nat → Int32) : ∀ j, j < 121 → va_up (cellA G.2.1 G.2.2 (c0, w)) 117 (cI (G.2.1 0) 576 f) j = cellA G.2.1 G.2.2 (c0, ((w.1.1, w.1.2.1, w.1.2.2.1, f, w.1.2.2.2.2), w.2)) j := (fun j hj => up_mo (cy := G.2.1) (ad := G.2.2) (c := c0) (w := w) (w' := ((w.1.1, w.1.2.1, w.1.2.2.1, f, w.1.2.2.2.2), w.2)) (j0 := 3) (by intro i hi he; rcases (show i = 0 ∨ i = 1 ∨ i = 2 ∨ i = 4 ∨ i = 5 ∨ i = 6 by omega) with rfl | rfl | rfl | rfl | rfl | rfl <;> rfl) j hj)
theorem t_Mo3 (C : Cx G nL X own cc d) {i x : Int32} {f : Nat → Int32} (pc : Nat) (hr : aup 576 w.1.2.2.2.1 i x = some f) (hd : decode cc pc = .ok (.iastore, 1))
    (kk : JS G nL X Q sp (c0, ((w.1.1, w.1.2.1, w.1.2.2.1, f, w.1.2.2.2.2), w.2)) (pc + 1) L st) : JS G nL X Q sp (c0, w) pc L (.int x :: .int i :: .ref (G.2.2 117) :: st) :=
  j_iast C pc 117 (by omega) rfl (a_Mo3 ) hr (b_Mo3 f) hd kk
theorem a_Mo5 : cellA G.2.1 G.2.2 (c0, w) 118 = cI (G.2.1 0) 96 w.1.2.2.2.2.2.1 := (at_mo (j := 4))
theorem l_Mo5 (C : Cx G nL X own cc d) {i x : Int32} (pc : Nat) (hr : ard 96 w.1.2.2.2.2.2.1 i = some x) (hd : decode cc pc = .ok (.iaload, 1))
    (kk : JS G nL X Q sp (c0, w) (pc + 1) L (.int x :: st)) : JS G nL X Q sp (c0, w) pc L (.int i :: .ref (G.2.2 118) :: st) :=
  j_iald C pc 118 (by omega) rfl (a_Mo5 ) hr hd kk
theorem b_Mo5 (f : Nat → Int32) : ∀ j, j < 121 → va_up (cellA G.2.1 G.2.2 (c0, w)) 118 (cI (G.2.1 0) 96 f) j = cellA G.2.1 G.2.2 (c0, ((w.1.1, w.1.2.1, w.1.2.2.1, w.1.2.2.2.1, w.1.2.2.2.2.1, f, w.1.2.2.2.2.2.2), w.2)) j := (fun j hj => up_mo (cy := G.2.1) (ad := G.2.2) (c := c0) (w := w) (w' := ((w.1.1, w.1.2.1, w.1.2.2.1, w.1.2.2.2.1, w.1.2.2.2.2.1, f, w.1.2.2.2.2.2.2), w.2)) (j0 := 4) (by intro i hi he; rcases (show i = 0 ∨ i = 1 ∨ i = 2 ∨ i = 3 ∨ i = 5 ∨ i = 6 by omega) with rfl | rfl | rfl | rfl | rfl | rfl <;> rfl) j hj)
theorem t_Mo5 (C : Cx G nL X own cc d) {i x : Int32} {f : Nat → Int32} (pc : Nat) (hr : aup 96 w.1.2.2.2.2.2.1 i x = some f) (hd : decode cc pc = .ok (.iastore, 1))
    (kk : JS G nL X Q sp (c0, ((w.1.1, w.1.2.1, w.1.2.2.1, w.1.2.2.2.1, w.1.2.2.2.2.1, f, w.1.2.2.2.2.2.2), w.2)) (pc + 1) L st) : JS G nL X Q sp (c0, w) pc L (.int x :: .int i :: .ref (G.2.2 118) :: st) :=
  j_iast C pc 118 (by omega) rfl (a_Mo5 ) hr (b_Mo5 f) hd kk
theorem a_Mo7 : cellA G.2.1 G.2.2 (c0, w) 119 = cI (G.2.1 0) 60 w.1.2.2.2.2.2.2.2.1 := (at_mo (j := 5))
theorem l_Mo7 (C : Cx G nL X own cc d) {i x : Int32} (pc : Nat) (hr : ard 60 w.1.2.2.2.2.2.2.2.1 i = some x) (hd : decode cc pc = .ok (.iaload, 1))
    (kk : JS G nL X Q sp (c0, w) (pc + 1) L (.int x :: st)) : JS G nL X Q sp (c0, w) pc L (.int i :: .ref (G.2.2 119) :: st) :=
  j_iald C pc 119 (by omega) rfl (a_Mo7 ) hr hd kk
theorem b_Mo7 (f : Nat → Int32) : ∀ j, j < 121 → va_up (cellA G.2.1 G.2.2 (c0, w)) 119 (cI (G.2.1 0) 60 f) j = cellA G.2.1 G.2.2 (c0, ((w.1.1, w.1.2.1, w.1.2.2.1, w.1.2.2.2.1, w.1.2.2.2.2.1, w.1.2.2.2.2.2.1, w.1.2.2.2.2.2.2.1, f, w.1.2.2.2.2.2.2.2.2), w.2)) j := (fun j hj => up_mo (cy := G.2.1) (ad := G.2.2) (c := c0) (w := w) (w' := ((w.1.1, w.1.2.1, w.1.2.2.1, w.1.2.2.2.1, w.1.2.2.2.2.1, w.1.2.2.2.2.2.1, w.1.2.2.2.2.2.2.1, f, w.1.2.2.2.2.2.2.2.2), w.2)) (j0 := 5) (by intro i hi he; rcases (show i = 0 ∨ i = 1 ∨ i = 2 ∨ i = 3 ∨ i = 4 ∨ i = 6 by omega) with rfl | rfl | rfl | rfl | rfl | rfl <;> rfl) j hj)
theorem t_Mo7 (C : Cx G nL X own cc d) {i x : Int32} {f : Nat → Int32} (pc : Nat) (hr : aup 60 w.1.2.2.2.2.2.2.2.1 i x = some f) (hd : decode cc pc = .ok (.iastore, 1))
    (kk : JS G nL X Q sp (c0, ((w.1.1, w.1.2.1, w.1.2.2.1, w.1.2.2.2.1, w.1.2.2.2.2.1, w.1.2.2.2.2.2.1, w.1.2.2.2.2.2.2.1, f, w.1.2.2.2.2.2.2.2.2), w.2)) (pc + 1) L st) : JS G nL X Q sp (c0, w) pc L (.int x :: .int i :: .ref (G.2.2 119) :: st) :=
  j_iast C pc 119 (by omega) rfl (a_Mo7 ) hr (b_Mo7 f) hd kk
end
