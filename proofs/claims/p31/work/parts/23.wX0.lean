set_option maxRecDepth 100000 in
set_option maxHeartbeats 4000000 in
theorem w_X0_copyFrom {G : GG} {X : WX} {c : VC} {w : VW} {k : Nat} (hk : k < 9) (C : Cx G 2 X RX0 cX0_copyFrom 2) (hr : (xM X).sig.returnType = none) (v : VCk) (j1 : Nat) (hj1 : j1 < 9) (u1 : VCk) (hu1 : c.2.2.1 j1 = u1) (hne1 : j1 ≠ k) : JS G 2 X (QM G X (fun x : VCk => none) (fun x : VCk => ((sCk c k x, w) : VA))) (f_X0_copyFrom v u1) (sCk c k v, w) 0 [(0, .ref (G.2.2 (96 + 2 * k))), (1, .ref (G.2.2 (96 + 2 * j1)))] [] := by
  unfold f_X0_copyFrom
  refine j_aload_n C 0 1 rfl dX0_copyFrom_0 ?_
  refine g_Ck0 (k := j1) C hj1 1 (Or.inl fl_X0_9) dX0_copyFrom_1 ?_
  refine j_iconst (v := 0) C 4 dX0_copyFrom_4 rfl ?_
  refine j_aload_n C 5 0 rfl dX0_copyFrom_5 ?_
  refine g_Ck0 (k := k) C hk 6 (Or.inl fl_X0_9) dX0_copyFrom_6 ?_
  refine j_iconst (v := 0) C 9 dX0_copyFrom_9 rfl ?_
  refine j_bipush (v := 8) C 10 dX0_copyFrom_10 rfl ?_
  refine j_bind (fun x12 h12 => ?_)
  refine j_acp C 12 (97 + 2 * j1) (97 + 2 * k) (nG_lt C.2.2.2.2.2.2.1 (by omega)) (nG_lt C.2.2.2.2.2.2.1 (by omega)) rfl rfl (a_Ck0 (k := j1) hj1 ((sCk_ne c _ hne1).trans hu1)) (a_Ck0 (k := k) hk (sCk_get _ _ _)) h12 (b_Ck0 (k := k) hk _) ml_X0_15 dX0_copyFrom_12 (by decide) (Nat.le_of_ble_eq_true rfl) ?_
  refine j_V (V' := (sCk c k (x12, v.2), w)) rfl ?_
  refine j_aload_n C 15 0 rfl dX0_copyFrom_15 ?_
  refine j_aload_n C 16 1 rfl dX0_copyFrom_16 ?_
  refine g_Ck1 (k := j1) (c0 := (sCk c k (x12, v.2))) C hj1 ((sCk_ne c _ hne1).trans hu1) 17 (Or.inl fl_X0_21) dX0_copyFrom_17 ?_
  refine p_Ck1 (k := k) C hk 20 fl_X0_21 dX0_copyFrom_20 ?_
  refine j_V (V' := (sCk c k (x12, u1.2.1, v.2.2), w)) rfl ?_
  refine j_aload_n C 23 0 rfl dX0_copyFrom_23 ?_
  refine j_aload_n C 24 1 rfl dX0_copyFrom_24 ?_
  refine g_Ck2 (k := j1) (c0 := (sCk c k (x12, u1.2.1, v.2.2))) C hj1 ((sCk_ne c _ hne1).trans hu1) 25 (Or.inl fl_X0_25) dX0_copyFrom_25 ?_
  refine p_Ck2 (k := k) C hk 28 fl_X0_25 dX0_copyFrom_28 ?_
  refine j_V (V' := (sCk c k (x12, u1.2.1, u1.2.2), w)) rfl ?_
  exact j_vret C 31 hr rfl rfl dX0_copyFrom_31
theorem c_X0_copyFrom {G : GG} {l : Launch} (hG : Gok G) {c : VC} {w : VW} {k : Nat} (hk : k < 9) (v : VCk) (hv : c.2.2.1 k = v) (j1 : Nat) (hj1 : j1 < 9) (u1 : VCk) (hu1 : c.2.2.1 j1 = u1) (hne1 : j1 ≠ k) {x : VCk} (hf : f_X0_copyFrom v u1 = some x) : Ct l yX0_copyFrom cX0_copyFrom 2 none 2 [.ref (G.2.2 (96 + 2 * k)), .ref (G.2.2 (96 + 2 * j1))] G (c, w) none (sCk c k x, w) := by
  refine ct_of (rv := fun x : VCk => none) (fin := fun x : VCk => ((sCk c k x, w) : VA)) (own := RX0) hG (plainFor_of_name (by decide)) rfl (Nat.le_of_ble_eq_true rfl) (fun X C hr _ => ?_) hf
  refine j_V (congrArg (fun z => (z, w)) (sCk_id hv).symm) ?_; exact w_X0_copyFrom hk C hr v j1 hj1 u1 hu1 hne1
set_option maxRecDepth 100000 in
set_option maxHeartbeats 4000000 in
theorem w_X0_freeSlot {G : GG} {X : WX} {c : VC} {w : VW} {k : Nat} (hk : k < 9) (C : Cx G 2 X RX0 cX0_freeSlot 1) (hr : (xM X).sig.returnType = none) (v : VCk) (a1 : Int32) : JS G 2 X (QM G X (fun x : VCk => none) (fun x : VCk => ((sCk c k x, w) : VA))) (f_X0_freeSlot v a1) (sCk c k v, w) 0 [(0, .ref (G.2.2 (96 + 2 * k))), (1, .int a1)] [] := by
  unfold f_X0_freeSlot
  refine j_iload_n C 0 1 rfl dX0_freeSlot_0 ?_
  refine j_bind (fun x1 h1 => ?_)
  refine j_callSN_i (As := [.int a1]) (st := []) C k_X5_isSlot 1 (c_X5_isSlot C.2.2.2.2.2.2.1 (c := (sCk c k v)) _ h1) rfl ml_X0_34 st_X5_isSlot dX0_freeSlot_1 (by decide) rfl (Nat.le_of_ble_eq_true rfl) ?_ rfl
  refine j_if_eq C 4 27 dX0_freeSlot_4 (by decide) (fun c4 => ?_) (fun c4 => ?_)
  · exact j_vret C 27 hr rfl rfl dX0_freeSlot_27
  · refine j_aload_n C 7 0 rfl dX0_freeSlot_7 ?_
    refine g_Ck0 (k := k) C hk 8 (Or.inl fl_X0_9) dX0_freeSlot_8 ?_
    refine j_iconst (v := 2) C 11 dX0_freeSlot_11 rfl ?_
    refine j_iload_n C 12 1 rfl dX0_freeSlot_12 ?_
    refine j_imul C 13 dX0_freeSlot_13 ?_
    refine j_iconst (v := 0) C 14 dX0_freeSlot_14 rfl ?_
    refine j_bind (fun x15 h15 => ?_)
    refine t_Ck0 (k := k) C hk 15 h15 dX0_freeSlot_15 ?_
    refine j_V (V' := (sCk c k (x15, v.2), w)) rfl ?_
    refine j_aload_n C 16 0 rfl dX0_freeSlot_16 ?_
    refine g_Ck0 (k := k) C hk 17 (Or.inl fl_X0_9) dX0_freeSlot_17 ?_
    refine j_iconst (v := 2) C 20 dX0_freeSlot_20 rfl ?_
    refine j_iload_n C 21 1 rfl dX0_freeSlot_21 ?_
    refine j_imul C 22 dX0_freeSlot_22 ?_
    refine j_iconst (v := 1) C 23 dX0_freeSlot_23 rfl ?_
    refine j_iadd C 24 dX0_freeSlot_24 ?_
    refine j_iconst (v := 0) C 25 dX0_freeSlot_25 rfl ?_
    refine j_bind (fun x26 h26 => ?_)
    refine t_Ck0 (k := k) C hk 26 h26 dX0_freeSlot_26 ?_
    refine j_V (V' := (sCk c k (x26, v.2), w)) rfl ?_
    exact j_vret C 27 hr rfl rfl dX0_freeSlot_27
theorem c_X0_freeSlot {G : GG} {l : Launch} (hG : Gok G) {c : VC} {w : VW} {k : Nat} (hk : k < 9) (v : VCk) (hv : c.2.2.1 k = v) (a1 : Int32) {x : VCk} (hf : f_X0_freeSlot v a1 = some x) : Ct l yX0_freeSlot cX0_freeSlot 2 none 1 [.ref (G.2.2 (96 + 2 * k)), .int a1] G (c, w) none (sCk c k x, w) := by
  refine ct_of (rv := fun x : VCk => none) (fin := fun x : VCk => ((sCk c k x, w) : VA)) (own := RX0) hG (plainFor_of_name (by decide)) rfl (Nat.le_of_ble_eq_true rfl) (fun X C hr _ => ?_) hf
  refine j_V (congrArg (fun z => (z, w)) (sCk_id hv).symm) ?_; exact w_X0_freeSlot hk C hr v a1
set_option maxRecDepth 100000 in
set_option maxHeartbeats 4000000 in
theorem w_X0_freeAllNow {G : GG} {X : WX} {c : VC} {w : VW} {k : Nat} (hk : k < 9) (C : Cx G 1 X RX0 cX0_freeAllNow 2) (hr : (xM X).sig.returnType = none) (v : VCk) : JS G 1 X (QM G X (fun x : VCk => none) (fun x : VCk => ((sCk c k x, w) : VA))) (f_X0_freeAllNow v) (sCk c k v, w) 0 [(0, .ref (G.2.2 (96 + 2 * k)))] [] := by
  unfold f_X0_freeAllNow
  refine j_aload_n C 0 0 rfl dX0_freeAllNow_0 ?_
  refine g_Ck0 (k := k) C hk 1 (Or.inl fl_X0_9) dX0_freeAllNow_1 ?_
  refine j_aload_n C 4 0 rfl dX0_freeAllNow_4 ?_
  refine g_Ck1 (k := k) (c0 := (sCk c k v)) C hk (sCk_get _ _ _) 5 (Or.inl fl_X0_21) dX0_freeAllNow_5 ?_
  refine j_bind (fun x8 h8 => ?_)
  refine j_fill C 8 (97 + 2 * k) (nG_lt C.2.2.2.2.2.2.1 (by omega)) rfl (fun f => ((sCk c k (f, v.2), w) : VA)) (fun f => a_Ck0 (k := k) hk (sCk_get _ _ _)) (fun _ f => b_Ck0 (k := k) hk f) (by decide) h8 ml_X0_28 dX0_freeAllNow_8 (by decide) (Nat.le_of_ble_eq_true rfl) ?_
  refine j_V (V' := (sCk c k (x8, v.2), w)) rfl ?_
  exact j_vret C 11 hr rfl rfl dX0_freeAllNow_11
theorem c_X0_freeAllNow {G : GG} {l : Launch} (hG : Gok G) {c : VC} {w : VW} {k : Nat} (hk : k < 9) (v : VCk) (hv : c.2.2.1 k = v) {x : VCk} (hf : f_X0_freeAllNow v = some x) : Ct l yX0_freeAllNow cX0_freeAllNow 1 none 2 [.ref (G.2.2 (96 + 2 * k))] G (c, w) none (sCk c k x, w) := by
  refine ct_of (rv := fun x : VCk => none) (fin := fun x : VCk => ((sCk c k x, w) : VA)) (own := RX0) hG (plainFor_of_name (by decide)) rfl (Nat.le_of_ble_eq_true rfl) (fun X C hr _ => ?_) hf
  refine j_V (congrArg (fun z => (z, w)) (sCk_id hv).symm) ?_; exact w_X0_freeAllNow hk C hr v
set_option maxRecDepth 100000 in
set_option maxHeartbeats 4000000 in
theorem w_X0_waitFor {G : GG} {X : WX} {c : VC} {w : VW} {k : Nat} (hk : k < 9) (C : Cx G 3 X RX0 cX0_waitFor 1) (hr : (xM X).sig.returnType = none) (v : VCk) (a1 : Int32) : JS G 3 X (QM G X (fun x : VCk => none) (fun x : VCk => ((sCk c k x, w) : VA))) (f_X0_waitFor v a1) (sCk c k v, w) 0 [(0, .ref (G.2.2 (96 + 2 * k))), (1, .int a1)] [] := by
  unfold f_X0_waitFor
  refine j_aload_n C 0 0 rfl dX0_waitFor_0 ?_
  refine g_Ck0 (k := k) C hk 1 (Or.inl fl_X0_9) dX0_waitFor_1 ?_
  refine j_iload_n C 4 1 rfl dX0_waitFor_4 ?_
  refine j_bind (fun x5 h5 => ?_)
  refine j_callSN_i (As := [.ref (G.2.2 (97 + 2 * k)), .int a1]) (st := []) C k_X5_entry 5 (c_X5_entry C.2.2.2.2.2.2.1 (c := (sCk c k v)) _ _ (97 + 2 * k) (nG_lt C.2.2.2.2.2.2.1 (by omega)) (a_Ck0 (k := k) hk (sCk_get _ _ _)) _ h5) rfl ml_X0_38 st_X5_entry dX0_waitFor_5 (by decide) rfl (Nat.le_of_ble_eq_true rfl) ?_ rfl
  refine j_istore_n (L1 := [(2, .int x5), (0, .ref (G.2.2 (96 + 2 * k))), (1, .int a1)]) C 8 rfl dX0_waitFor_8 (by decide) rfl ?_
  refine j_iload_n C 9 0 rfl dX0_waitFor_9 ?_
  refine j_aload_n C 10 1 rfl dX0_waitFor_10 ?_
  refine g_Ck1 (k := k) (c0 := (sCk c k v)) C hk (sCk_get _ _ _) 11 (Or.inl fl_X0_21) dX0_waitFor_11 ?_
  refine j_icmp_le C 14 37 dX0_waitFor_14 (by decide) (fun c14 => ?_) (fun c14 => ?_)
  · refine j_aload_n C 17 1 rfl dX0_waitFor_17 ?_
    refine j_dup C 18 dX0_waitFor_18 rfl ?_
    refine g_Ck2 (k := k) (c0 := (sCk c k v)) C hk (sCk_get _ _ _) 19 (Or.inl fl_X0_25) dX0_waitFor_19 ?_
    refine j_iload_n C 22 0 rfl dX0_waitFor_22 ?_
    refine j_aload_n C 23 1 rfl dX0_waitFor_23 ?_
    refine g_Ck1 (k := k) (c0 := (sCk c k v)) C hk (sCk_get _ _ _) 24 (Or.inl fl_X0_21) dX0_waitFor_24 ?_
    refine j_isub C 27 dX0_waitFor_27 ?_
    refine j_iadd C 28 dX0_waitFor_28 ?_
    refine p_Ck2 (k := k) C hk 29 fl_X0_25 dX0_waitFor_29 ?_
    refine j_V (V' := (sCk c k (v.1, v.2.1, (v.2.2 + (x5 - v.2.1))), w)) rfl ?_
    refine j_aload_n C 32 1 rfl dX0_waitFor_32 ?_
    refine j_iload_n C 33 0 rfl dX0_waitFor_33 ?_
    refine p_Ck1 (k := k) C hk 34 fl_X0_21 dX0_waitFor_34 ?_
    refine j_V (V' := (sCk c k (v.1, x5, (v.2.2 + (x5 - v.2.1))), w)) rfl ?_
    exact j_vret C 37 hr rfl rfl dX0_waitFor_37
  · exact j_vret C 37 hr rfl rfl dX0_waitFor_37
theorem c_X0_waitFor {G : GG} {l : Launch} (hG : Gok G) {c : VC} {w : VW} {k : Nat} (hk : k < 9) (v : VCk) (hv : c.2.2.1 k = v) (a1 : Int32) {x : VCk} (hf : f_X0_waitFor v a1 = some x) : Ct l yX0_waitFor cX0_waitFor 3 none 1 [.ref (G.2.2 (96 + 2 * k)), .int a1] G (c, w) none (sCk c k x, w) := by
  refine ct_of (rv := fun x : VCk => none) (fin := fun x : VCk => ((sCk c k x, w) : VA)) (own := RX0) hG (plainFor_of_name (by decide)) rfl (Nat.le_of_ble_eq_true rfl) (fun X C hr _ => ?_) hf
  refine j_V (congrArg (fun z => (z, w)) (sCk_id hv).symm) ?_; exact w_X0_waitFor hk C hr v a1
set_option maxRecDepth 100000 in
set_option maxHeartbeats 4000000 in
theorem w_X0_occupy {G : GG} {X : WX} {c : VC} {w : VW} {k : Nat} (hk : k < 9) (C : Cx G 3 X RX0 cX0_occupy 0) (hr : (xM X).sig.returnType = none) (v : VCk) (a1 : Int32) (a2 : Int32) : JS G 3 X (QM G X (fun x : VCk => none) (fun x : VCk => ((sCk c k x, w) : VA))) (f_X0_occupy v a1 a2) (sCk c k v, w) 0 [(0, .ref (G.2.2 (96 + 2 * k))), (1, .int a1), (2, .int a2)] [] := by
  unfold f_X0_occupy
  refine j_iload_n C 0 1 rfl dX0_occupy_0 ?_
  refine j_if_lt C 1 25 dX0_occupy_1 (by decide) (fun c1 => ?_) (fun c1 => ?_)
  · exact j_vret C 25 hr rfl rfl dX0_occupy_25
  · refine j_iload_n C 4 1 rfl dX0_occupy_4 ?_
    refine j_aload_n C 5 0 rfl dX0_occupy_5 ?_
    refine g_Ck0 (k := k) C hk 6 (Or.inl fl_X0_9) dX0_occupy_6 ?_
    refine j_alen (v := 8) C 9 (97 + 2 * k) (nG_lt C.2.2.2.2.2.2.1 (by omega)) rfl (a_Ck0 (k := k) hk (sCk_get _ _ _)) rfl dX0_occupy_9 ?_
    refine j_icmp_ge C 10 25 dX0_occupy_10 (by decide) (fun c10 => ?_) (fun c10 => ?_)
    · refine j_aload_n C 13 0 rfl dX0_occupy_13 ?_
      refine g_Ck0 (k := k) C hk 14 (Or.inl fl_X0_9) dX0_occupy_14 ?_
      refine j_iload_n C 17 1 rfl dX0_occupy_17 ?_
      refine j_aload_n C 18 0 rfl dX0_occupy_18 ?_
      refine g_Ck1 (k := k) (c0 := (sCk c k v)) C hk (sCk_get _ _ _) 19 (Or.inl fl_X0_21) dX0_occupy_19 ?_
      refine j_iload_n C 22 2 rfl dX0_occupy_22 ?_
      refine j_iadd C 23 dX0_occupy_23 ?_
      refine j_bind (fun x24 h24 => ?_)
      refine t_Ck0 (k := k) C hk 24 h24 dX0_occupy_24 ?_
      refine j_V (V' := (sCk c k (x24, v.2), w)) rfl ?_
      exact j_vret C 25 hr rfl rfl dX0_occupy_25
    · exact j_vret C 25 hr rfl rfl dX0_occupy_25
theorem c_X0_occupy {G : GG} {l : Launch} (hG : Gok G) {c : VC} {w : VW} {k : Nat} (hk : k < 9) (v : VCk) (hv : c.2.2.1 k = v) (a1 : Int32) (a2 : Int32) {x : VCk} (hf : f_X0_occupy v a1 a2 = some x) : Ct l yX0_occupy cX0_occupy 3 none 0 [.ref (G.2.2 (96 + 2 * k)), .int a1, .int a2] G (c, w) none (sCk c k x, w) := by
  refine ct_of (rv := fun x : VCk => none) (fin := fun x : VCk => ((sCk c k x, w) : VA)) (own := RX0) hG (plainFor_of_name (by decide)) rfl (Nat.le_of_ble_eq_true rfl) (fun X C hr _ => ?_) hf
  refine j_V (congrArg (fun z => (z, w)) (sCk_id hv).symm) ?_; exact w_X0_occupy hk C hr v a1 a2
set_option maxRecDepth 100000 in
set_option maxHeartbeats 4000000 in
theorem w_X0_pass {G : GG} {X : WX} {c : VC} {w : VW} {k : Nat} (hk : k < 9) (C : Cx G 2 X RX0 cX0_pass 0) (hr : (xM X).sig.returnType = none) (v : VCk) (a1 : Int32) : JS G 2 X (QM G X (fun x : VCk => none) (fun x : VCk => ((sCk c k x, w) : VA))) (f_X0_pass v a1) (sCk c k v, w) 0 [(0, .ref (G.2.2 (96 + 2 * k))), (1, .int a1)] [] := by
  unfold f_X0_pass
  refine j_aload_n C 0 0 rfl dX0_pass_0 ?_
  refine j_dup C 1 dX0_pass_1 rfl ?_
  refine g_Ck1 (k := k) (c0 := (sCk c k v)) C hk (sCk_get _ _ _) 2 (Or.inl fl_X0_21) dX0_pass_2 ?_
  refine j_iload_n C 5 1 rfl dX0_pass_5 ?_
  refine j_iadd C 6 dX0_pass_6 ?_
  refine p_Ck1 (k := k) C hk 7 fl_X0_21 dX0_pass_7 ?_
  refine j_V (V' := (sCk c k (v.1, (v.2.1 + a1), v.2.2), w)) rfl ?_
  exact j_vret C 10 hr rfl rfl dX0_pass_10
theorem c_X0_pass {G : GG} {l : Launch} (hG : Gok G) {c : VC} {w : VW} {k : Nat} (hk : k < 9) (v : VCk) (hv : c.2.2.1 k = v) (a1 : Int32) {x : VCk} (hf : f_X0_pass v a1 = some x) : Ct l yX0_pass cX0_pass 2 none 0 [.ref (G.2.2 (96 + 2 * k)), .int a1] G (c, w) none (sCk c k x, w) := by
  refine ct_of (rv := fun x : VCk => none) (fin := fun x : VCk => ((sCk c k x, w) : VA)) (own := RX0) hG (plainFor_of_name (by decide)) rfl (Nat.le_of_ble_eq_true rfl) (fun X C hr _ => ?_) hf
  refine j_V (congrArg (fun z => (z, w)) (sCk_id hv).symm) ?_; exact w_X0_pass hk C hr v a1
set_option maxRecDepth 100000 in
set_option maxHeartbeats 4000000 in
theorem w_X0_readSingle {G : GG} {X : WX} {c : VC} {w : VW} {k : Nat} (hk : k < 9) (C : Cx G 3 X RX0 cX0_readSingle 2) (hr : (xM X).sig.returnType = none) (v : VCk) (a1 : Int32) (a2 : Int32) : JS G 3 X (QM G X (fun x : VCk => none) (fun x : VCk => ((sCk c k x, w) : VA))) (f_X0_readSingle v a1 a2) (sCk c k v, w) 0 [(0, .ref (G.2.2 (96 + 2 * k))), (1, .int a1), (2, .int a2)] [] := by
  unfold f_X0_readSingle
  refine j_aload_n C 0 0 rfl dX0_readSingle_0 ?_
  refine j_iload_n C 1 1 rfl dX0_readSingle_1 ?_
  refine j_bind (fun x2 h2 => ?_)
  refine j_vCk_v (k := k) (As := [.int a1]) (st := []) C hk k_X0_waitFor 2 (c_X0_waitFor C.2.2.2.2.2.2.1 (c := (sCk c k v)) (k := k) hk _ (sCk_get _ _ _) _ h2) (congrArg (fun z => (z, w)) (sCk_up _ _ _ _)) rfl ml_X0_42 ii_X0_waitFor is_X0_waitFor dX0_readSingle_2 (by decide) rfl (Nat.le_of_ble_eq_true rfl) ?_ rfl
  refine j_V (V' := (sCk c k x2, w)) rfl ?_
  refine j_aload_n C 5 0 rfl dX0_readSingle_5 ?_
  refine j_iload_n C 6 1 rfl dX0_readSingle_6 ?_
  refine j_iload_n C 7 2 rfl dX0_readSingle_7 ?_
  refine j_bind (fun x8 h8 => ?_)
  refine j_vCk_v (k := k) (As := [.int a1, .int a2]) (st := []) C hk k_X0_occupy 8 (c_X0_occupy C.2.2.2.2.2.2.1 (c := (sCk c k x2)) (k := k) hk _ (sCk_get _ _ _) _ _ h8) (congrArg (fun z => (z, w)) (sCk_up _ _ _ _)) rfl ml_X0_46 ii_X0_occupy is_X0_occupy dX0_readSingle_8 (by decide) rfl (Nat.le_of_ble_eq_true rfl) ?_ rfl
  refine j_V (V' := (sCk c k x8, w)) rfl ?_
  refine j_aload_n C 11 0 rfl dX0_readSingle_11 ?_
  refine j_iconst (v := 1) C 12 dX0_readSingle_12 rfl ?_
  refine j_bind (fun x13 h13 => ?_)
  refine j_vCk_v (k := k) (As := [.int 1]) (st := []) C hk k_X0_pass 13 (c_X0_pass C.2.2.2.2.2.2.1 (c := (sCk c k x8)) (k := k) hk _ (sCk_get _ _ _) _ h13) (congrArg (fun z => (z, w)) (sCk_up _ _ _ _)) rfl ml_X0_50 ii_X0_pass is_X0_pass dX0_readSingle_13 (by decide) rfl (Nat.le_of_ble_eq_true rfl) ?_ rfl
  refine j_V (V' := (sCk c k x13, w)) rfl ?_
  exact j_vret C 16 hr rfl rfl dX0_readSingle_16
theorem c_X0_readSingle {G : GG} {l : Launch} (hG : Gok G) {c : VC} {w : VW} {k : Nat} (hk : k < 9) (v : VCk) (hv : c.2.2.1 k = v) (a1 : Int32) (a2 : Int32) {x : VCk} (hf : f_X0_readSingle v a1 a2 = some x) : Ct l yX0_readSingle cX0_readSingle 3 none 2 [.ref (G.2.2 (96 + 2 * k)), .int a1, .int a2] G (c, w) none (sCk c k x, w) := by
  refine ct_of (rv := fun x : VCk => none) (fin := fun x : VCk => ((sCk c k x, w) : VA)) (own := RX0) hG (plainFor_of_name (by decide)) rfl (Nat.le_of_ble_eq_true rfl) (fun X C hr _ => ?_) hf
  refine j_V (congrArg (fun z => (z, w)) (sCk_id hv).symm) ?_; exact w_X0_readSingle hk C hr v a1 a2
set_option maxRecDepth 100000 in
set_option maxHeartbeats 4000000 in
theorem w_X0_freeFrom {G : GG} {X : WX} {c : VC} {w : VW} {k : Nat} (hk : k < 9) (C : Cx G 3 X RX0 cX0_freeFrom 1) (hr : (xM X).sig.returnType = (some .int)) (v : VCk) (hv : c.2.2.1 k = v) (a1 : Int32) (a2 : Int32) : JS G 3 X (QM G X (fun x : Int32 => some (.int x)) (fun x : Int32 => ((c, w) : VA))) (f_X0_freeFrom v a1 a2) (c, w) 0 [(0, .ref (G.2.2 (96 + 2 * k))), (1, .int a1), (2, .int a2)] [] := by
  unfold f_X0_freeFrom
  refine j_aload_n C 0 0 rfl dX0_freeFrom_0 ?_
  refine g_Ck0 (k := k) C hk 1 (Or.inl fl_X0_9) dX0_freeFrom_1 ?_
  refine j_iconst (v := 2) C 4 dX0_freeFrom_4 rfl ?_
  refine j_iload_n C 5 1 rfl dX0_freeFrom_5 ?_
  refine j_imul C 6 dX0_freeFrom_6 ?_
  refine j_iload_n C 7 2 rfl dX0_freeFrom_7 ?_
  refine j_iadd C 8 dX0_freeFrom_8 ?_
  refine j_bind (fun x9 h9 => ?_)
  refine j_callSN_i (As := [.ref (G.2.2 (97 + 2 * k)), .int ((2 * a1) + a2)]) (st := []) C k_X5_entry 9 (c_X5_entry C.2.2.2.2.2.2.1 (c := c) _ _ (97 + 2 * k) (nG_lt C.2.2.2.2.2.2.1 (by omega)) (a_Ck0 (k := k) hk hv) _ h9) rfl ml_X0_38 st_X5_entry dX0_freeFrom_9 (by decide) rfl (Nat.le_of_ble_eq_true rfl) ?_ rfl
  exact j_iret C 12 hr rfl rfl dX0_freeFrom_12
theorem c_X0_freeFrom {G : GG} {l : Launch} (hG : Gok G) {c : VC} {w : VW} {k : Nat} (hk : k < 9) (v : VCk) (hv : c.2.2.1 k = v) (a1 : Int32) (a2 : Int32) {x : Int32} (hf : f_X0_freeFrom v a1 a2 = some x) : Ct l yX0_freeFrom cX0_freeFrom 3 (some .int) 1 [.ref (G.2.2 (96 + 2 * k)), .int a1, .int a2] G (c, w) (some (.int x)) (c, w) := by
  refine ct_of (rv := fun x : Int32 => (some (.int x))) (fin := fun x : Int32 => ((c, w) : VA)) (own := RX0) hG (plainFor_of_name (by decide)) rfl (Nat.le_of_ble_eq_true rfl) (fun X C hr _ => ?_) hf
  exact w_X0_freeFrom hk C hr v hv a1 a2
set_option maxRecDepth 100000 in
set_option maxHeartbeats 4000000 in
theorem w_X0_reset {G : GG} {X : WX} {c : VC} {w : VW} {k : Nat} (hk : k < 9) (C : Cx G 1 X RX0 cX0_reset 2) (hr : (xM X).sig.returnType = none) (v : VCk) : JS G 1 X (QM G X (fun x : VCk => none) (fun x : VCk => ((sCk c k x, w) : VA))) (f_X0_reset v) (sCk c k v, w) 0 [(0, .ref (G.2.2 (96 + 2 * k)))] [] := by
  unfold f_X0_reset
  refine j_aload_n C 0 0 rfl dX0_reset_0 ?_
  refine g_Ck0 (k := k) C hk 1 (Or.inl fl_X0_9) dX0_reset_1 ?_
  refine j_iconst (v := 0) C 4 dX0_reset_4 rfl ?_
  refine j_bind (fun x5 h5 => ?_)
  refine j_fill C 5 (97 + 2 * k) (nG_lt C.2.2.2.2.2.2.1 (by omega)) rfl (fun f => ((sCk c k (f, v.2), w) : VA)) (fun f => a_Ck0 (k := k) hk (sCk_get _ _ _)) (fun _ f => b_Ck0 (k := k) hk f) (by decide) h5 ml_X0_28 dX0_reset_5 (by decide) (Nat.le_of_ble_eq_true rfl) ?_
  refine j_V (V' := (sCk c k (x5, v.2), w)) rfl ?_
  refine j_aload_n C 8 0 rfl dX0_reset_8 ?_
  refine j_iconst (v := 0) C 9 dX0_reset_9 rfl ?_
  refine p_Ck1 (k := k) C hk 10 fl_X0_21 dX0_reset_10 ?_
  refine j_V (V' := (sCk c k (x5, 0, v.2.2), w)) rfl ?_
  refine j_aload_n C 13 0 rfl dX0_reset_13 ?_
  refine j_iconst (v := 0) C 14 dX0_reset_14 rfl ?_
  refine p_Ck2 (k := k) C hk 15 fl_X0_25 dX0_reset_15 ?_
  refine j_V (V' := (sCk c k (x5, 0, 0), w)) rfl ?_
  exact j_vret C 18 hr rfl rfl dX0_reset_18
theorem c_X0_reset {G : GG} {l : Launch} (hG : Gok G) {c : VC} {w : VW} {k : Nat} (hk : k < 9) (v : VCk) (hv : c.2.2.1 k = v) {x : VCk} (hf : f_X0_reset v = some x) : Ct l yX0_reset cX0_reset 1 none 2 [.ref (G.2.2 (96 + 2 * k))] G (c, w) none (sCk c k x, w) := by
  refine ct_of (rv := fun x : VCk => none) (fin := fun x : VCk => ((sCk c k x, w) : VA)) (own := RX0) hG (plainFor_of_name (by decide)) rfl (Nat.le_of_ble_eq_true rfl) (fun X C hr _ => ?_) hf
  refine j_V (congrArg (fun z => (z, w)) (sCk_id hv).symm) ?_; exact w_X0_reset hk C hr v
set_option maxRecDepth 100000 in
set_option maxHeartbeats 4000000 in
theorem w_X0_readPair {G : GG} {X : WX} {c : VC} {w : VW} {k : Nat} (hk : k < 9) (C : Cx G 5 X RX0 cX0_readPair 2) (hr : (xM X).sig.returnType = none) (v : VCk) (a1 : Int32) (a2 : Int32) (a3 : Int32) (a4 : Int32) : JS G 5 X (QM G X (fun x : VCk => none) (fun x : VCk => ((sCk c k x, w) : VA))) (f_X0_readPair v a1 a2 a3 a4) (sCk c k v, w) 0 [(0, .ref (G.2.2 (96 + 2 * k))), (1, .int a1), (2, .int a2), (3, .int a3), (4, .int a4)] [] := by
  unfold f_X0_readPair
  refine j_aload_n C 0 0 rfl dX0_readPair_0 ?_
  refine j_iload_n C 1 1 rfl dX0_readPair_1 ?_
  refine j_bind (fun x2 h2 => ?_)
  refine j_vCk_v (k := k) (As := [.int a1]) (st := []) C hk k_X0_waitFor 2 (c_X0_waitFor C.2.2.2.2.2.2.1 (c := (sCk c k v)) (k := k) hk _ (sCk_get _ _ _) _ h2) (congrArg (fun z => (z, w)) (sCk_up _ _ _ _)) rfl ml_X0_42 ii_X0_waitFor is_X0_waitFor dX0_readPair_2 (by decide) rfl (Nat.le_of_ble_eq_true rfl) ?_ rfl
  refine j_V (V' := (sCk c k x2, w)) rfl ?_
  refine j_aload_n C 5 0 rfl dX0_readPair_5 ?_
  refine j_iload_n C 6 3 rfl dX0_readPair_6 ?_
  refine j_bind (fun x7 h7 => ?_)
  refine j_vCk_v (k := k) (As := [.int a3]) (st := []) C hk k_X0_waitFor 7 (c_X0_waitFor C.2.2.2.2.2.2.1 (c := (sCk c k x2)) (k := k) hk _ (sCk_get _ _ _) _ h7) (congrArg (fun z => (z, w)) (sCk_up _ _ _ _)) rfl ml_X0_42 ii_X0_waitFor is_X0_waitFor dX0_readPair_7 (by decide) rfl (Nat.le_of_ble_eq_true rfl) ?_ rfl
  refine j_V (V' := (sCk c k x7, w)) rfl ?_
  refine j_aload_n C 10 0 rfl dX0_readPair_10 ?_
  refine j_iload_n C 11 1 rfl dX0_readPair_11 ?_
  refine j_iload_n C 12 2 rfl dX0_readPair_12 ?_
  refine j_bind (fun x13 h13 => ?_)
  refine j_vCk_v (k := k) (As := [.int a1, .int a2]) (st := []) C hk k_X0_occupy 13 (c_X0_occupy C.2.2.2.2.2.2.1 (c := (sCk c k x7)) (k := k) hk _ (sCk_get _ _ _) _ _ h13) (congrArg (fun z => (z, w)) (sCk_up _ _ _ _)) rfl ml_X0_46 ii_X0_occupy is_X0_occupy dX0_readPair_13 (by decide) rfl (Nat.le_of_ble_eq_true rfl) ?_ rfl
  refine j_V (V' := (sCk c k x13, w)) rfl ?_
  refine j_aload_n C 16 0 rfl dX0_readPair_16 ?_
  refine j_iload_n C 17 3 rfl dX0_readPair_17 ?_
  refine j_iload C 18 4 rfl dX0_readPair_18 ?_
  refine j_bind (fun x20 h20 => ?_)
  refine j_vCk_v (k := k) (As := [.int a3, .int a4]) (st := []) C hk k_X0_occupy 20 (c_X0_occupy C.2.2.2.2.2.2.1 (c := (sCk c k x13)) (k := k) hk _ (sCk_get _ _ _) _ _ h20) (congrArg (fun z => (z, w)) (sCk_up _ _ _ _)) rfl ml_X0_46 ii_X0_occupy is_X0_occupy dX0_readPair_20 (by decide) rfl (Nat.le_of_ble_eq_true rfl) ?_ rfl
  refine j_V (V' := (sCk c k x20, w)) rfl ?_
  refine j_aload_n C 23 0 rfl dX0_readPair_23 ?_
  refine j_iconst (v := 1) C 24 dX0_readPair_24 rfl ?_
  refine j_bind (fun x25 h25 => ?_)
  refine j_vCk_v (k := k) (As := [.int 1]) (st := []) C hk k_X0_pass 25 (c_X0_pass C.2.2.2.2.2.2.1 (c := (sCk c k x20)) (k := k) hk _ (sCk_get _ _ _) _ h25) (congrArg (fun z => (z, w)) (sCk_up _ _ _ _)) rfl ml_X0_50 ii_X0_pass is_X0_pass dX0_readPair_25 (by decide) rfl (Nat.le_of_ble_eq_true rfl) ?_ rfl
  refine j_V (V' := (sCk c k x25, w)) rfl ?_
  exact j_vret C 28 hr rfl rfl dX0_readPair_28
theorem c_X0_readPair {G : GG} {l : Launch} (hG : Gok G) {c : VC} {w : VW} {k : Nat} (hk : k < 9) (v : VCk) (hv : c.2.2.1 k = v) (a1 : Int32) (a2 : Int32) (a3 : Int32) (a4 : Int32) {x : VCk} (hf : f_X0_readPair v a1 a2 a3 a4 = some x) : Ct l yX0_readPair cX0_readPair 5 none 2 [.ref (G.2.2 (96 + 2 * k)), .int a1, .int a2, .int a3, .int a4] G (c, w) none (sCk c k x, w) := by
  refine ct_of (rv := fun x : VCk => none) (fin := fun x : VCk => ((sCk c k x, w) : VA)) (own := RX0) hG (plainFor_of_name (by decide)) rfl (Nat.le_of_ble_eq_true rfl) (fun X C hr _ => ?_) hf
  refine j_V (congrArg (fun z => (z, w)) (sCk_id hv).symm) ?_; exact w_X0_readPair hk C hr v a1 a2 a3 a4
