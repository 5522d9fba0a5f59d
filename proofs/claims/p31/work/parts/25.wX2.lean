set_option maxRecDepth 100000 in
set_option maxHeartbeats 4000000 in
theorem w_X2_copyFrom {G : GG} {X : WX} {c : VC} {w : VW} {k : Nat} (hk : k < 8) (C : Cx G 2 X RX2 cX2_copyFrom 3) (hr : (xM X).sig.returnType = none) (v : VSt) (j1 : Nat) (hj1 : j1 < 8) (u1 : VSt) (hu1 : gSt c j1 = u1) (hne1 : j1 ≠ k) : JS G 2 X (QM G X (fun x : VSt => none) (fun x : VSt => ((sSt c k x, w) : VA))) (f_X2_copyFrom v u1) (sSt c k v, w) 0 [(0, .ref (G.2.2 (6 + 2 * k))), (1, .ref (G.2.2 (6 + 2 * j1)))] [] := by
  unfold f_X2_copyFrom
  refine j_aload_n C 0 0 rfl dX2_copyFrom_0 ?_
  refine g_St0 (k := k) C hk 1 (Or.inl fl_X2_12) dX2_copyFrom_1 ?_
  refine j_aload_n C 4 1 rfl dX2_copyFrom_4 ?_
  refine g_St0 (k := j1) C hj1 5 (Or.inl fl_X2_12) dX2_copyFrom_5 ?_
  refine j_bind (fun x8 h8 => ?_)
  refine j_vSk_v (k := k) (As := [.ref (G.2.2 (22 + 7 * j1))]) (st := []) C hk k_X3_copyFrom 8 (c_X3_copyFrom C.2.2.2.2.2.2.1 (c := (sSt c k v)) (k := k) hk _ (sSt_g1 _ _ _) j1 hj1 _ ((sSt_ne1 c _ hne1).trans (congrArg (fun z => z.1) hu1)) hne1 h8) (congrArg (fun z => (z, w)) (sSt_sSk _ _ _ _)) rfl ml_X2_43 ii_X3_copyFrom is_X3_copyFrom dX2_copyFrom_8 (by decide) rfl (Nat.le_of_ble_eq_true rfl) ?_ rfl
  refine j_V (V' := (sSt c k (x8, v.2), w)) rfl ?_
  refine j_aload_n C 11 0 rfl dX2_copyFrom_11 ?_
  refine g_St1 (k := k) C hk 12 (Or.inl fl_X2_21) dX2_copyFrom_12 ?_
  refine j_aload_n C 15 1 rfl dX2_copyFrom_15 ?_
  refine g_St1 (k := j1) C hj1 16 (Or.inl fl_X2_21) dX2_copyFrom_16 ?_
  refine j_bind (fun x19 h19 => ?_)
  refine j_vLy_v (k := k) (As := [.ref (G.2.2 (78 + 2 * j1))]) (st := []) C (Nat.lt_succ_of_lt hk) k_X1_copyFrom 19 (c_X1_copyFrom C.2.2.2.2.2.2.1 (c := (sSt c k (x8, v.2))) (k := k) (Nat.lt_succ_of_lt hk) _ (sSt_g2 _ _ _) j1 (Nat.lt_succ_of_lt hj1) _ ((sSt_ne2 c _ hne1).trans (congrArg (fun z => z.2.1) hu1)) hne1 h19) (congrArg (fun z => (z, w)) (sSt_sLy _ _ _ _)) rfl ml_X2_47 ii_X1_copyFrom is_X1_copyFrom dX2_copyFrom_19 (by decide) rfl (Nat.le_of_ble_eq_true rfl) ?_ rfl
  refine j_V (V' := (sSt c k (x8, x19, v.2.2), w)) rfl ?_
  refine j_aload_n C 22 0 rfl dX2_copyFrom_22 ?_
  refine g_St2 (k := k) C hk 23 (Or.inl fl_X2_28) dX2_copyFrom_23 ?_
  refine j_aload_n C 26 1 rfl dX2_copyFrom_26 ?_
  refine g_St2 (k := j1) C hj1 27 (Or.inl fl_X2_28) dX2_copyFrom_27 ?_
  refine j_bind (fun x30 h30 => ?_)
  refine j_vCk_v (k := k) (As := [.ref (G.2.2 (96 + 2 * j1))]) (st := []) C (Nat.lt_succ_of_lt hk) k_X0_copyFrom 30 (c_X0_copyFrom C.2.2.2.2.2.2.1 (c := (sSt c k (x8, x19, v.2.2))) (k := k) (Nat.lt_succ_of_lt hk) _ (sSt_g3 _ _ _) j1 (Nat.lt_succ_of_lt hj1) _ ((sSt_ne3 c _ hne1).trans (congrArg (fun z => z.2.2.1) hu1)) hne1 h30) (congrArg (fun z => (z, w)) (sSt_sCk _ _ _ _)) rfl ml_X2_50 ii_X0_copyFrom is_X0_copyFrom dX2_copyFrom_30 (by decide) rfl (Nat.le_of_ble_eq_true rfl) ?_ rfl
  refine j_V (V' := (sSt c k (x8, x19, x30, v.2.2.2), w)) rfl ?_
  refine j_aload_n C 33 1 rfl dX2_copyFrom_33 ?_
  refine g_St3 (k := j1) C hj1 34 (Or.inl fl_X2_32) dX2_copyFrom_34 ?_
  refine j_iconst (v := 0) C 37 dX2_copyFrom_37 rfl ?_
  refine j_aload_n C 38 0 rfl dX2_copyFrom_38 ?_
  refine g_St3 (k := k) C hk 39 (Or.inl fl_X2_32) dX2_copyFrom_39 ?_
  refine j_iconst (v := 0) C 42 dX2_copyFrom_42 rfl ?_
  refine j_bipush (v := 48) C 43 dX2_copyFrom_43 rfl ?_
  refine j_bind (fun x45 h45 => ?_)
  refine j_acp C 45 (7 + 2 * j1) (7 + 2 * k) (nG_lt C.2.2.2.2.2.2.1 (by omega)) (nG_lt C.2.2.2.2.2.2.1 (by omega)) rfl rfl (a_St3 (k := j1) hj1 ((sSt_ne4 c _ hne1).trans (congrArg (fun z => z.2.2.2.1) hu1))) (a_St3 (k := k) hk (sSt_g4 _ _ _)) h45 (b_St3 (k := k) hk _) ml_X2_53 dX2_copyFrom_45 (by decide) (Nat.le_of_ble_eq_true rfl) ?_
  refine j_V (V' := (sSt c k (x8, x19, x30, x45, v.2.2.2.2), w)) rfl ?_
  refine j_aload_n C 48 0 rfl dX2_copyFrom_48 ?_
  refine j_aload_n C 49 1 rfl dX2_copyFrom_49 ?_
  refine g_St4 (k := j1) (c0 := (sSt c k (x8, x19, x30, x45, v.2.2.2.2))) C hj1 ((sSt_ne5 c _ hne1).trans (congrArg (fun z => z.2.2.2.2) hu1)) 50 (Or.inl fl_X2_36) dX2_copyFrom_50 ?_
  refine p_St4 (k := k) C hk 53 fl_X2_36 dX2_copyFrom_53 ?_
  refine j_V (V' := (sSt c k (x8, x19, x30, x45, (u1.2.2.2.2.1, v.2.2.2.2.2)), w)) rfl ?_
  refine j_aload_n C 56 0 rfl dX2_copyFrom_56 ?_
  refine j_aload_n C 57 1 rfl dX2_copyFrom_57 ?_
  refine g_St5 (k := j1) (c0 := (sSt c k (x8, x19, x30, x45, (u1.2.2.2.2.1, v.2.2.2.2.2)))) C hj1 ((sSt_ne5 c _ hne1).trans (congrArg (fun z => z.2.2.2.2) hu1)) 58 (Or.inl fl_X2_40) dX2_copyFrom_58 ?_
  refine p_St5 (k := k) C hk 61 fl_X2_40 dX2_copyFrom_61 ?_
  refine j_V (V' := (sSt c k (x8, x19, x30, x45, (u1.2.2.2.2.1, u1.2.2.2.2.2.1, v.2.2.2.2.2.2)), w)) rfl ?_
  refine j_aload_n C 64 0 rfl dX2_copyFrom_64 ?_
  refine j_aload_n C 65 1 rfl dX2_copyFrom_65 ?_
  refine g_St6 (k := j1) (c0 := (sSt c k (x8, x19, x30, x45, (u1.2.2.2.2.1, u1.2.2.2.2.2.1, v.2.2.2.2.2.2)))) C hj1 ((sSt_ne5 c _ hne1).trans (congrArg (fun z => z.2.2.2.2) hu1)) 66 (Or.inl fl_X2_59) dX2_copyFrom_66 ?_
  refine p_St6 (k := k) C hk 69 fl_X2_59 dX2_copyFrom_69 ?_
  refine j_V (V' := (sSt c k (x8, x19, x30, x45, (u1.2.2.2.2.1, u1.2.2.2.2.2.1, u1.2.2.2.2.2.2.1, v.2.2.2.2.2.2.2)), w)) rfl ?_
  refine j_aload_n C 72 0 rfl dX2_copyFrom_72 ?_
  refine j_aload_n C 73 1 rfl dX2_copyFrom_73 ?_
  refine g_St7 (k := j1) (c0 := (sSt c k (x8, x19, x30, x45, (u1.2.2.2.2.1, u1.2.2.2.2.2.1, u1.2.2.2.2.2.2.1, v.2.2.2.2.2.2.2)))) C hj1 ((sSt_ne5 c _ hne1).trans (congrArg (fun z => z.2.2.2.2) hu1)) 74 (Or.inl fl_X2_62) dX2_copyFrom_74 ?_
  refine p_St7 (k := k) C hk 77 fl_X2_62 dX2_copyFrom_77 ?_
  refine j_V (V' := (sSt c k (x8, x19, x30, x45, (u1.2.2.2.2.1, u1.2.2.2.2.2.1, u1.2.2.2.2.2.2.1, u1.2.2.2.2.2.2.2.1, v.2.2.2.2.2.2.2.2)), w)) rfl ?_
  refine j_aload_n C 80 0 rfl dX2_copyFrom_80 ?_
  refine j_aload_n C 81 1 rfl dX2_copyFrom_81 ?_
  refine g_St8 (k := j1) (c0 := (sSt c k (x8, x19, x30, x45, (u1.2.2.2.2.1, u1.2.2.2.2.2.1, u1.2.2.2.2.2.2.1, u1.2.2.2.2.2.2.2.1, v.2.2.2.2.2.2.2.2)))) C hj1 ((sSt_ne5 c _ hne1).trans (congrArg (fun z => z.2.2.2.2) hu1)) 82 (Or.inl fl_X2_65) dX2_copyFrom_82 ?_
  refine p_St8 (k := k) C hk 85 fl_X2_65 dX2_copyFrom_85 ?_
  refine j_V (V' := (sSt c k (x8, x19, x30, x45, (u1.2.2.2.2.1, u1.2.2.2.2.2.1, u1.2.2.2.2.2.2.1, u1.2.2.2.2.2.2.2.1, u1.2.2.2.2.2.2.2.2)), w)) rfl ?_
  exact j_vret C 88 hr rfl rfl dX2_copyFrom_88
theorem c_X2_copyFrom {G : GG} {l : Launch} (hG : Gok G) {c : VC} {w : VW} {k : Nat} (hk : k < 8) (v : VSt) (hv : gSt c k = v) (j1 : Nat) (hj1 : j1 < 8) (u1 : VSt) (hu1 : gSt c j1 = u1) (hne1 : j1 ≠ k) {x : VSt} (hf : f_X2_copyFrom v u1 = some x) : Ct l yX2_copyFrom cX2_copyFrom 2 none 3 [.ref (G.2.2 (6 + 2 * k)), .ref (G.2.2 (6 + 2 * j1))] G (c, w) none (sSt c k x, w) := by
  refine ct_of (rv := fun x : VSt => none) (fin := fun x : VSt => ((sSt c k x, w) : VA)) (own := RX2) hG (plainFor_of_name (by decide)) rfl (Nat.le_of_ble_eq_true rfl) (fun X C hr _ => ?_) hf
  refine j_V (congrArg (fun z => (z, w)) (sSt_id hv).symm) ?_; exact w_X2_copyFrom hk C hr v j1 hj1 u1 hu1 hne1
set_option maxRecDepth 100000 in
set_option maxHeartbeats 4000000 in
theorem w_X2_usedPlaces {G : GG} {X : WX} {c : VC} {w : VW} {k : Nat} (hk : k < 8) (C : Cx G 2 X RX2 cX2_usedPlaces 3) (hr : (xM X).sig.returnType = (some .int)) (v : VSt) (hv : gSt c k = v) (a1 : Int32) : JS G 2 X (QM G X (fun x : Int32 => some (.int x)) (fun x : Int32 => ((c, w) : VA))) (f_X2_usedPlaces v a1) (c, w) 0 [(0, .ref (G.2.2 (6 + 2 * k))), (1, .int a1)] [] := by
  unfold f_X2_usedPlaces
  refine j_aload_n C 0 0 rfl dX2_usedPlaces_0 ?_
  refine g_St0 (k := k) C hk 1 (Or.inl fl_X2_12) dX2_usedPlaces_1 ?_
  refine j_iload_n C 4 1 rfl dX2_usedPlaces_4 ?_
  refine j_bind (fun x5 h5 => ?_)
  refine j_vSk_i (k := k) (As := [.int a1]) (st := []) C hk k_X3_isLeft 5 (c_X3_isLeft C.2.2.2.2.2.2.1 (c := c) (k := k) hk _ (congrArg (fun z : VSt => z.1) hv) _ h5) rfl rfl ml_X2_94 ii_X3_isLeft is_X3_isLeft dX2_usedPlaces_5 (by decide) rfl (Nat.le_of_ble_eq_true rfl) ?_ rfl
  refine j_if_eq C 8 22 dX2_usedPlaces_8 (by decide) (fun c8 => ?_) (fun c8 => ?_)
  · refine j_iconst (v := 0) C 22 dX2_usedPlaces_22 rfl ?_
    exact j_iret C 23 hr rfl rfl dX2_usedPlaces_23
  · refine j_aload_n C 11 0 rfl dX2_usedPlaces_11 ?_
    refine g_St1 (k := k) C hk 12 (Or.inl fl_X2_21) dX2_usedPlaces_12 ?_
    refine j_iload_n C 15 1 rfl dX2_usedPlaces_15 ?_
    refine j_bind (fun x16 h16 => ?_)
    refine j_vLy_i (k := k) (As := [.int a1]) (st := []) C (Nat.lt_succ_of_lt hk) k_X1_usedIn 16 (c_X1_usedIn C.2.2.2.2.2.2.1 (c := c) (k := k) (Nat.lt_succ_of_lt hk) _ (congrArg (fun z : VSt => z.2.1) hv) _ h16) rfl rfl ml_X2_98 ii_X1_usedIn is_X1_usedIn dX2_usedPlaces_16 (by decide) rfl (Nat.le_of_ble_eq_true rfl) ?_ rfl
    refine j_goto C 19 23 dX2_usedPlaces_19 (by decide) ?_
    exact j_iret C 23 hr rfl rfl dX2_usedPlaces_23
theorem c_X2_usedPlaces {G : GG} {l : Launch} (hG : Gok G) {c : VC} {w : VW} {k : Nat} (hk : k < 8) (v : VSt) (hv : gSt c k = v) (a1 : Int32) {x : Int32} (hf : f_X2_usedPlaces v a1 = some x) : Ct l yX2_usedPlaces cX2_usedPlaces 2 (some .int) 3 [.ref (G.2.2 (6 + 2 * k)), .int a1] G (c, w) (some (.int x)) (c, w) := by
  refine ct_of (rv := fun x : Int32 => (some (.int x))) (fin := fun x : Int32 => ((c, w) : VA)) (own := RX2) hG (plainFor_of_name (by decide)) rfl (Nat.le_of_ble_eq_true rfl) (fun X C hr _ => ?_) hf
  exact w_X2_usedPlaces hk C hr v hv a1
set_option maxRecDepth 100000 in
set_option maxHeartbeats 4000000 in
theorem w_X2_begin {G : GG} {X : WX} {c : VC} {w : VW} {k : Nat} (hk : k < 8) (C : Cx G 1 X RX2 cX2_begin 4) (hr : (xM X).sig.returnType = none) (v : VSt) : JS G 1 X (QM G X (fun x : VSt => none) (fun x : VSt => ((sSt c k x, w) : VA))) (f_X2_begin v) (sSt c k v, w) 0 [(0, .ref (G.2.2 (6 + 2 * k)))] [] := by
  unfold f_X2_begin
  refine j_aload_n C 0 0 rfl dX2_begin_0 ?_
  refine g_St1 (k := k) C hk 1 (Or.inl fl_X2_21) dX2_begin_1 ?_
  refine j_aload_n C 4 0 rfl dX2_begin_4 ?_
  refine g_St4 (k := k) (c0 := (sSt c k v)) C hk (sSt_g5 _ _ _) 5 (Or.inl fl_X2_36) dX2_begin_5 ?_
  refine j_aload_n C 8 0 rfl dX2_begin_8 ?_
  refine g_St0 (k := k) C hk 9 (Or.inl fl_X2_12) dX2_begin_9 ?_
  refine j_bind (fun x12 h12 => ?_)
  refine j_vLy_v (k := k) (As := [.int v.2.2.2.2.1, .ref (G.2.2 (22 + 7 * k))]) (st := []) C (Nat.lt_succ_of_lt hk) k_X1_lay 12 (c_X1_lay C.2.2.2.2.2.2.1 (c := (sSt c k v)) (k := k) (Nat.lt_succ_of_lt hk) _ (sSt_g2 _ _ _) k hk _ (sSt_g1 _ _ _) _ h12) (congrArg (fun z => (z, w)) (sSt_sLy _ _ _ _)) rfl ml_X2_68 ii_X1_lay is_X1_lay dX2_begin_12 (by decide) rfl (Nat.le_of_ble_eq_true rfl) ?_ rfl
  refine j_V (V' := (sSt c k (v.1, x12, v.2.2), w)) rfl ?_
  refine j_aload_n C 15 0 rfl dX2_begin_15 ?_
  refine g_St0 (k := k) C hk 16 (Or.inl fl_X2_12) dX2_begin_16 ?_
  refine j_bind (fun x19 h19 => ?_)
  refine j_vSk_v (k := k) (As := []) (st := []) C hk k_X3_mapGoodOnes 19 (c_X3_mapGoodOnes C.2.2.2.2.2.2.1 (c := (sSt c k (v.1, x12, v.2.2))) (k := k) hk _ (sSt_g1 _ _ _) h19) (congrArg (fun z => (z, w)) (sSt_sSk _ _ _ _)) rfl ml_X2_72 ii_X3_mapGoodOnes is_X3_mapGoodOnes dX2_begin_19 (by decide) rfl (Nat.le_of_ble_eq_true rfl) ?_ rfl
  refine j_V (V' := (sSt c k (x19, x12, v.2.2), w)) rfl ?_
  refine j_aload_n C 22 0 rfl dX2_begin_22 ?_
  refine g_St2 (k := k) C hk 23 (Or.inl fl_X2_28) dX2_begin_23 ?_
  refine j_bind (fun x26 h26 => ?_)
  refine j_vCk_v (k := k) (As := []) (st := []) C (Nat.lt_succ_of_lt hk) k_X0_freeAllNow 26 (c_X0_freeAllNow C.2.2.2.2.2.2.1 (c := (sSt c k (x19, x12, v.2.2))) (k := k) (Nat.lt_succ_of_lt hk) _ (sSt_g3 _ _ _) h26) (congrArg (fun z => (z, w)) (sSt_sCk _ _ _ _)) rfl ml_X2_75 ii_X0_freeAllNow is_X0_freeAllNow dX2_begin_26 (by decide) rfl (Nat.le_of_ble_eq_true rfl) ?_ rfl
  refine j_V (V' := (sSt c k (x19, x12, x26, v.2.2.2), w)) rfl ?_
  refine j_aload_n C 29 0 rfl dX2_begin_29 ?_
  refine g_St3 (k := k) C hk 30 (Or.inl fl_X2_32) dX2_begin_30 ?_
  refine j_iconst (v := 0) C 33 dX2_begin_33 rfl ?_
  refine j_bind (fun x34 h34 => ?_)
  refine j_fill C 34 (7 + 2 * k) (nG_lt C.2.2.2.2.2.2.1 (by omega)) rfl (fun f => ((sSt c k (x19, x12, x26, f, v.2.2.2.2), w) : VA)) (fun f => a_St3 (k := k) hk (sSt_g4 _ _ _)) (fun _ f => b_St3 (k := k) hk f) (by decide) h34 ml_X2_78 dX2_begin_34 (by decide) (Nat.le_of_ble_eq_true rfl) ?_
  refine j_V (V' := (sSt c k (x19, x12, x26, x34, v.2.2.2.2), w)) rfl ?_
  refine j_aload_n C 37 0 rfl dX2_begin_37 ?_
  refine j_dup C 38 dX2_begin_38 rfl ?_
  refine g_St8 (k := k) (c0 := (sSt c k (x19, x12, x26, x34, v.2.2.2.2))) C hk (sSt_g5 _ _ _) 39 (Or.inl fl_X2_65) dX2_begin_39 ?_
  refine j_iconst (v := 1) C 42 dX2_begin_42 rfl ?_
  refine j_iadd C 43 dX2_begin_43 ?_
  refine p_St8 (k := k) C hk 44 fl_X2_65 dX2_begin_44 ?_
  refine j_V (V' := (sSt c k (x19, x12, x26, x34, (v.2.2.2.2.1, v.2.2.2.2.2.1, v.2.2.2.2.2.2.1, v.2.2.2.2.2.2.2.1, (v.2.2.2.2.2.2.2.2 + 1))), w)) rfl ?_
  exact j_vret C 47 hr rfl rfl dX2_begin_47
theorem c_X2_begin {G : GG} {l : Launch} (hG : Gok G) {c : VC} {w : VW} {k : Nat} (hk : k < 8) (v : VSt) (hv : gSt c k = v) {x : VSt} (hf : f_X2_begin v = some x) : Ct l yX2_begin cX2_begin 1 none 4 [.ref (G.2.2 (6 + 2 * k))] G (c, w) none (sSt c k x, w) := by
  refine ct_of (rv := fun x : VSt => none) (fin := fun x : VSt => ((sSt c k x, w) : VA)) (own := RX2) hG (plainFor_of_name (by decide)) rfl (Nat.le_of_ble_eq_true rfl) (fun X C hr _ => ?_) hf
  refine j_V (congrArg (fun z => (z, w)) (sSt_id hv).symm) ?_; exact w_X2_begin hk C hr v
set_option maxRecDepth 100000 in
set_option maxHeartbeats 4000000 in
theorem w_X2_end {G : GG} {X : WX} {c : VC} {w : VW} {k : Nat} (hk : k < 8) (C : Cx G 1 X RX2 cX2_end 3) (hr : (xM X).sig.returnType = none) (v : VSt) : JS G 1 X (QM G X (fun x : VSt => none) (fun x : VSt => ((sSt c k x, w) : VA))) (f_X2_end v) (sSt c k v, w) 0 [(0, .ref (G.2.2 (6 + 2 * k)))] [] := by
  unfold f_X2_end
  refine j_aload_n C 0 0 rfl dX2_end_0 ?_
  refine g_St1 (k := k) C hk 1 (Or.inl fl_X2_21) dX2_end_1 ?_
  refine j_bind (fun x4 h4 => ?_)
  refine j_vLy_v (k := k) (As := []) (st := []) C (Nat.lt_succ_of_lt hk) k_X1_clear 4 (c_X1_clear C.2.2.2.2.2.2.1 (c := (sSt c k v)) (k := k) (Nat.lt_succ_of_lt hk) _ (sSt_g2 _ _ _) h4) (congrArg (fun z => (z, w)) (sSt_sLy _ _ _ _)) rfl ml_X2_84 ii_X1_clear is_X1_clear dX2_end_4 (by decide) rfl (Nat.le_of_ble_eq_true rfl) ?_ rfl
  refine j_V (V' := (sSt c k (v.1, x4, v.2.2), w)) rfl ?_
  refine j_aload_n C 7 0 rfl dX2_end_7 ?_
  refine g_St0 (k := k) C hk 8 (Or.inl fl_X2_12) dX2_end_8 ?_
  refine j_bind (fun x11 h11 => ?_)
  refine j_vSk_v (k := k) (As := []) (st := []) C hk k_X3_unmapAll 11 (c_X3_unmapAll C.2.2.2.2.2.2.1 (c := (sSt c k (v.1, x4, v.2.2))) (k := k) hk _ (sSt_g1 _ _ _) h11) (congrArg (fun z => (z, w)) (sSt_sSk _ _ _ _)) rfl ml_X2_87 ii_X3_unmapAll is_X3_unmapAll dX2_end_11 (by decide) rfl (Nat.le_of_ble_eq_true rfl) ?_ rfl
  refine j_V (V' := (sSt c k (x11, x4, v.2.2), w)) rfl ?_
  exact j_vret C 14 hr rfl rfl dX2_end_14
theorem c_X2_end {G : GG} {l : Launch} (hG : Gok G) {c : VC} {w : VW} {k : Nat} (hk : k < 8) (v : VSt) (hv : gSt c k = v) {x : VSt} (hf : f_X2_end v = some x) : Ct l yX2_end cX2_end 1 none 3 [.ref (G.2.2 (6 + 2 * k))] G (c, w) none (sSt c k x, w) := by
  refine ct_of (rv := fun x : VSt => none) (fin := fun x : VSt => ((sSt c k x, w) : VA)) (own := RX2) hG (plainFor_of_name (by decide)) rfl (Nat.le_of_ble_eq_true rfl) (fun X C hr _ => ?_) hf
  refine j_V (congrArg (fun z => (z, w)) (sSt_id hv).symm) ?_; exact w_X2_end hk C hr v
set_option maxRecDepth 100000 in
set_option maxHeartbeats 4000000 in
theorem w_X2_hasBlock {G : GG} {X : WX} {c : VC} {w : VW} {k : Nat} (hk : k < 8) (C : Cx G 2 X RX2 cX2_hasBlock 0) (hr : (xM X).sig.returnType = (some .boolean)) (v : VSt) (hv : gSt c k = v) (a1 : Int32) : JS G 2 X (QM G X (fun x : Int32 => some (.int x)) (fun x : Int32 => ((c, w) : VA))) (f_X2_hasBlock v a1) (c, w) 0 [(0, .ref (G.2.2 (6 + 2 * k))), (1, .int a1)] [] := by
  unfold f_X2_hasBlock
  refine j_iload_n C 0 1 rfl dX2_hasBlock_0 ?_
  refine j_if_lt C 1 19 dX2_hasBlock_1 (by decide) (fun c1 => ?_) (fun c1 => ?_)
  · refine j_iconst (v := 0) C 19 dX2_hasBlock_19 rfl ?_
    exact j_zret C 20 hr rfl rfl rfl dX2_hasBlock_20
  · refine j_iload_n C 4 1 rfl dX2_hasBlock_4 ?_
    refine j_aload_n C 5 0 rfl dX2_hasBlock_5 ?_
    refine g_St1 (k := k) C hk 6 (Or.inl fl_X2_21) dX2_hasBlock_6 ?_
    refine g_Ly5 (k := k) (c0 := c) C (Nat.lt_succ_of_lt hk) (congrArg (fun z : VSt => z.2.1) hv) 9 (Or.inr ⟨_, fl_X2_101⟩) dX2_hasBlock_9 ?_
    refine j_icmp_ge C 12 19 dX2_hasBlock_12 (by decide) (fun c12 => ?_) (fun c12 => ?_)
    · refine j_iconst (v := 1) C 15 dX2_hasBlock_15 rfl ?_
      refine j_goto C 16 20 dX2_hasBlock_16 (by decide) ?_
      exact j_zret C 20 hr rfl rfl rfl dX2_hasBlock_20
    · refine j_iconst (v := 0) C 19 dX2_hasBlock_19 rfl ?_
      exact j_zret C 20 hr rfl rfl rfl dX2_hasBlock_20
theorem c_X2_hasBlock {G : GG} {l : Launch} (hG : Gok G) {c : VC} {w : VW} {k : Nat} (hk : k < 8) (v : VSt) (hv : gSt c k = v) (a1 : Int32) {x : Int32} (hf : f_X2_hasBlock v a1 = some x) : Ct l yX2_hasBlock cX2_hasBlock 2 (some .boolean) 0 [.ref (G.2.2 (6 + 2 * k)), .int a1] G (c, w) (some (.int x)) (c, w) := by
  refine ct_of (rv := fun x : Int32 => (some (.int x))) (fin := fun x : Int32 => ((c, w) : VA)) (own := RX2) hG (plainFor_of_name (by decide)) rfl (Nat.le_of_ble_eq_true rfl) (fun X C hr _ => ?_) hf
  exact w_X2_hasBlock hk C hr v hv a1
set_option maxRecDepth 100000 in
set_option maxHeartbeats 4000000 in
theorem w_X2_readSlotOf {G : GG} {X : WX} {c : VC} {w : VW} {k : Nat} (hk : k < 8) (C : Cx G 4 X RX2 cX2_readSlotOf 2) (hr : (xM X).sig.returnType = (some .int)) (v : VSt) (hv : gSt c k = v) (a1 : Int32) : JS G 4 X (QM G X (fun x : Int32 => some (.int x)) (fun x : Int32 => ((c, w) : VA))) (f_X2_readSlotOf v a1) (c, w) 0 [(0, .ref (G.2.2 (6 + 2 * k))), (1, .int a1)] [] := by
  unfold f_X2_readSlotOf
  refine j_aload_n C 0 0 rfl dX2_readSlotOf_0 ?_
  refine g_St1 (k := k) C hk 1 (Or.inl fl_X2_21) dX2_readSlotOf_1 ?_
  refine j_iload_n C 4 1 rfl dX2_readSlotOf_4 ?_
  refine j_bind (fun x5 h5 => ?_)
  refine j_vLy_i (k := k) (As := [.int a1]) (st := []) C (Nat.lt_succ_of_lt hk) k_X1_slotOf 5 (c_X1_slotOf C.2.2.2.2.2.2.1 (c := c) (k := k) (Nat.lt_succ_of_lt hk) _ (congrArg (fun z : VSt => z.2.1) hv) _ h5) rfl rfl ml_X2_117 ii_X1_slotOf is_X1_slotOf dX2_readSlotOf_5 (by decide) rfl (Nat.le_of_ble_eq_true rfl) ?_ rfl
  refine j_istore_n (L1 := [(2, .int x5), (0, .ref (G.2.2 (6 + 2 * k))), (1, .int a1)]) C 8 rfl dX2_readSlotOf_8 (by decide) rfl ?_
  refine j_aload_n C 9 1 rfl dX2_readSlotOf_9 ?_
  refine g_St0 (k := k) C hk 10 (Or.inl fl_X2_12) dX2_readSlotOf_10 ?_
  refine j_iload_n C 13 0 rfl dX2_readSlotOf_13 ?_
  refine j_bind (fun x14 h14 => ?_)
  refine j_vSk_i (k := k) (As := [.int x5]) (st := []) C hk k_X3_isLeft 14 (c_X3_isLeft C.2.2.2.2.2.2.1 (c := c) (k := k) hk _ (congrArg (fun z : VSt => z.1) hv) _ h14) rfl rfl ml_X2_94 ii_X3_isLeft is_X3_isLeft dX2_readSlotOf_14 (by decide) rfl (Nat.le_of_ble_eq_true rfl) ?_ rfl
  refine j_if_eq C 17 22 dX2_readSlotOf_17 (by decide) (fun c17 => ?_) (fun c17 => ?_)
  · refine j_aload_n C 22 1 rfl dX2_readSlotOf_22 ?_
    refine g_St1 (k := k) C hk 23 (Or.inl fl_X2_21) dX2_readSlotOf_23 ?_
    refine j_iload_n C 26 2 rfl dX2_readSlotOf_26 ?_
    refine j_bind (fun x27 h27 => ?_)
    refine j_vLy_i (k := k) (As := [.int a1]) (st := []) C (Nat.lt_succ_of_lt hk) k_X1_slotAgainOf 27 (c_X1_slotAgainOf C.2.2.2.2.2.2.1 (c := c) (k := k) (Nat.lt_succ_of_lt hk) _ (congrArg (fun z : VSt => z.2.1) hv) _ h27) rfl rfl ml_X2_120 ii_X1_slotAgainOf is_X1_slotAgainOf dX2_readSlotOf_27 (by decide) rfl (Nat.le_of_ble_eq_true rfl) ?_ rfl
    refine j_istore_n (L1 := [(3, .int x27), (2, .int x5), (0, .ref (G.2.2 (6 + 2 * k))), (1, .int a1)]) C 30 rfl dX2_readSlotOf_30 (by decide) rfl ?_
    refine j_aload_n C 31 2 rfl dX2_readSlotOf_31 ?_
    refine g_St0 (k := k) C hk 32 (Or.inl fl_X2_12) dX2_readSlotOf_32 ?_
    refine j_iload_n C 35 0 rfl dX2_readSlotOf_35 ?_
    refine j_bind (fun x36 h36 => ?_)
    refine j_vSk_i (k := k) (As := [.int x27]) (st := []) C hk k_X3_isLeft 36 (c_X3_isLeft C.2.2.2.2.2.2.1 (c := c) (k := k) hk _ (congrArg (fun z : VSt => z.1) hv) _ h36) rfl rfl ml_X2_94 ii_X3_isLeft is_X3_isLeft dX2_readSlotOf_36 (by decide) rfl (Nat.le_of_ble_eq_true rfl) ?_ rfl
    refine j_if_eq C 39 46 dX2_readSlotOf_39 (by decide) (fun c39 => ?_) (fun c39 => ?_)
    · refine j_iconst (v := (-1)) C 46 dX2_readSlotOf_46 rfl ?_
      exact j_iret C 47 hr rfl rfl dX2_readSlotOf_47
    · refine j_iload_n C 42 0 rfl dX2_readSlotOf_42 ?_
      refine j_goto C 43 47 dX2_readSlotOf_43 (by decide) ?_
      exact j_iret C 47 hr rfl rfl dX2_readSlotOf_47
  · refine j_iload_n C 20 0 rfl dX2_readSlotOf_20 ?_
    exact j_iret C 21 hr rfl rfl dX2_readSlotOf_21
theorem c_X2_readSlotOf {G : GG} {l : Launch} (hG : Gok G) {c : VC} {w : VW} {k : Nat} (hk : k < 8) (v : VSt) (hv : gSt c k = v) (a1 : Int32) {x : Int32} (hf : f_X2_readSlotOf v a1 = some x) : Ct l yX2_readSlotOf cX2_readSlotOf 4 (some .int) 2 [.ref (G.2.2 (6 + 2 * k)), .int a1] G (c, w) (some (.int x)) (c, w) := by
  refine ct_of (rv := fun x : Int32 => (some (.int x))) (fin := fun x : Int32 => ((c, w) : VA)) (own := RX2) hG (plainFor_of_name (by decide)) rfl (Nat.le_of_ble_eq_true rfl) (fun X C hr _ => ?_) hf
  exact w_X2_readSlotOf hk C hr v hv a1
set_option maxRecDepth 100000 in
set_option maxHeartbeats 4000000 in
theorem w_X2_canRead {G : GG} {X : WX} {c : VC} {w : VW} {k : Nat} (hk : k < 8) (C : Cx G 2 X RX2 cX2_canRead 3) (hr : (xM X).sig.returnType = (some .boolean)) (v : VSt) (hv : gSt c k = v) (a1 : Int32) : JS G 2 X (QM G X (fun x : Int32 => some (.int x)) (fun x : Int32 => ((c, w) : VA))) (f_X2_canRead v a1) (c, w) 0 [(0, .ref (G.2.2 (6 + 2 * k))), (1, .int a1)] [] := by
  unfold f_X2_canRead
  refine j_aload_n C 0 0 rfl dX2_canRead_0 ?_
  refine j_iload_n C 1 1 rfl dX2_canRead_1 ?_
  refine j_bind (fun x2 h2 => ?_)
  refine j_vSt_i (k := k) (As := [.int a1]) (st := []) C hk k_X2_hasBlock 2 (c_X2_hasBlock C.2.2.2.2.2.2.1 (c := c) (k := k) hk _ hv _ h2) rfl rfl ml_X2_104 ii_X2_hasBlock is_X2_hasBlock dX2_canRead_2 (by decide) rfl (Nat.le_of_ble_eq_true rfl) ?_ rfl
  refine j_if_eq C 5 21 dX2_canRead_5 (by decide) (fun c5 => ?_) (fun c5 => ?_)
  · refine j_iconst (v := 0) C 21 dX2_canRead_21 rfl ?_
    exact j_zret C 22 hr rfl rfl rfl dX2_canRead_22
  · refine j_aload_n C 8 0 rfl dX2_canRead_8 ?_
    refine j_iload_n C 9 1 rfl dX2_canRead_9 ?_
    refine j_bind (fun x10 h10 => ?_)
    refine j_vSt_i (k := k) (As := [.int a1]) (st := []) C hk k_X2_readSlotOf 10 (c_X2_readSlotOf C.2.2.2.2.2.2.1 (c := c) (k := k) hk _ hv _ h10) rfl rfl ml_X2_107 ii_X2_readSlotOf is_X2_readSlotOf dX2_canRead_10 (by decide) rfl (Nat.le_of_ble_eq_true rfl) ?_ rfl
    refine j_iconst (v := (-1)) C 13 dX2_canRead_13 rfl ?_
    refine j_icmp_eq C 14 21 dX2_canRead_14 (by decide) (fun c14 => ?_) (fun c14 => ?_)
    · refine j_iconst (v := 0) C 21 dX2_canRead_21 rfl ?_
      exact j_zret C 22 hr rfl rfl rfl dX2_canRead_22
    · refine j_iconst (v := 1) C 17 dX2_canRead_17 rfl ?_
      refine j_goto C 18 22 dX2_canRead_18 (by decide) ?_
      exact j_zret C 22 hr rfl rfl rfl dX2_canRead_22
theorem c_X2_canRead {G : GG} {l : Launch} (hG : Gok G) {c : VC} {w : VW} {k : Nat} (hk : k < 8) (v : VSt) (hv : gSt c k = v) (a1 : Int32) {x : Int32} (hf : f_X2_canRead v a1 = some x) : Ct l yX2_canRead cX2_canRead 2 (some .boolean) 3 [.ref (G.2.2 (6 + 2 * k)), .int a1] G (c, w) (some (.int x)) (c, w) := by
  refine ct_of (rv := fun x : Int32 => (some (.int x))) (fin := fun x : Int32 => ((c, w) : VA)) (own := RX2) hG (plainFor_of_name (by decide)) rfl (Nat.le_of_ble_eq_true rfl) (fun X C hr _ => ?_) hf
  exact w_X2_canRead hk C hr v hv a1
set_option maxRecDepth 100000 in
set_option maxHeartbeats 4000000 in
theorem w_X2_heldBy {G : GG} {X : WX} {c : VC} {w : VW} {k : Nat} (hk : k < 8) (C : Cx G 2 X RX2 cX2_heldBy 1) (hr : (xM X).sig.returnType = (some .int)) (v : VSt) (hv : gSt c k = v) (a1 : Int32) : JS G 2 X (QM G X (fun x : Int32 => some (.int x)) (fun x : Int32 => ((c, w) : VA))) (f_X2_heldBy v a1) (c, w) 0 [(0, .ref (G.2.2 (6 + 2 * k))), (1, .int a1)] [] := by
  unfold f_X2_heldBy
  refine j_aload_n C 0 0 rfl dX2_heldBy_0 ?_
  refine g_St3 (k := k) C hk 1 (Or.inl fl_X2_32) dX2_heldBy_1 ?_
  refine j_iload_n C 4 1 rfl dX2_heldBy_4 ?_
  refine j_bind (fun x5 h5 => ?_)
  refine j_callSN_i (As := [.ref (G.2.2 (7 + 2 * k)), .int a1]) (st := []) C k_X5_entry 5 (c_X5_entry C.2.2.2.2.2.2.1 (c := c) _ _ (7 + 2 * k) (nG_lt C.2.2.2.2.2.2.1 (by omega)) (a_St3 (k := k) hk (congrArg (fun z : VSt => z.2.2.2.1) hv)) _ h5) rfl ml_X2_110 st_X5_entry dX2_heldBy_5 (by decide) rfl (Nat.le_of_ble_eq_true rfl) ?_ rfl
  exact j_iret C 8 hr rfl rfl dX2_heldBy_8
theorem c_X2_heldBy {G : GG} {l : Launch} (hG : Gok G) {c : VC} {w : VW} {k : Nat} (hk : k < 8) (v : VSt) (hv : gSt c k = v) (a1 : Int32) {x : Int32} (hf : f_X2_heldBy v a1 = some x) : Ct l yX2_heldBy cX2_heldBy 2 (some .int) 1 [.ref (G.2.2 (6 + 2 * k)), .int a1] G (c, w) (some (.int x)) (c, w) := by
  refine ct_of (rv := fun x : Int32 => (some (.int x))) (fin := fun x : Int32 => ((c, w) : VA)) (own := RX2) hG (plainFor_of_name (by decide)) rfl (Nat.le_of_ble_eq_true rfl) (fun X C hr _ => ?_) hf
  exact w_X2_heldBy hk C hr v hv a1
set_option maxRecDepth 100000 in
set_option maxHeartbeats 4000000 in
theorem w_X2_exchange {G : GG} {X : WX} {c : VC} {w : VW} {k : Nat} (hk : k < 8) (C : Cx G 4 X RX2 cX2_exchange 2) (hr : (xM X).sig.returnType = (some .int)) (v : VSt) (a1 : Int32) (a2 : Int32) : JS G 4 X (QM G X (fun x : (Int32 × VSt) => some (.int x.1)) (fun x : (Int32 × VSt) => ((sSt c k x.2, w) : VA))) (f_X2_exchange v a1 a2) (sSt c k v, w) 0 [(0, .ref (G.2.2 (6 + 2 * k))), (1, .int a1), (2, .int a2)] [] := by
  unfold f_X2_exchange
  refine j_aload_n C 0 0 rfl dX2_exchange_0 ?_
  refine j_iload_n C 1 1 rfl dX2_exchange_1 ?_
  refine j_bind (fun x2 h2 => ?_)
  refine j_vSt_i (k := k) (As := [.int a1]) (st := []) C hk k_X2_heldBy 2 (c_X2_heldBy C.2.2.2.2.2.2.1 (c := (sSt c k v)) (k := k) hk _ (sSt_get _ _ _) _ h2) rfl rfl ml_X2_114 ii_X2_heldBy is_X2_heldBy dX2_exchange_2 (by decide) rfl (Nat.le_of_ble_eq_true rfl) ?_ rfl
  refine j_istore_n (L1 := [(3, .int x2), (0, .ref (G.2.2 (6 + 2 * k))), (1, .int a1), (2, .int a2)]) C 5 rfl dX2_exchange_5 (by decide) rfl ?_
  refine j_iload_n C 6 2 rfl dX2_exchange_6 ?_
  refine j_if_lt C 7 26 dX2_exchange_7 (by decide) (fun c7 => ?_) (fun c7 => ?_)
  · refine j_iload_n C 26 0 rfl dX2_exchange_26 ?_
    exact j_iret C 27 hr rfl rfl dX2_exchange_27
  · refine j_iload_n C 10 2 rfl dX2_exchange_10 ?_
    refine j_aload_n C 11 1 rfl dX2_exchange_11 ?_
    refine g_St3 (k := k) C hk 12 (Or.inl fl_X2_32) dX2_exchange_12 ?_
    refine j_alen (v := 48) C 15 (7 + 2 * k) (nG_lt C.2.2.2.2.2.2.1 (by omega)) rfl (a_St3 (k := k) hk (sSt_g4 _ _ _)) rfl dX2_exchange_15 ?_
    refine j_icmp_ge C 16 26 dX2_exchange_16 (by decide) (fun c16 => ?_) (fun c16 => ?_)
    · refine j_aload_n C 19 1 rfl dX2_exchange_19 ?_
      refine g_St3 (k := k) C hk 20 (Or.inl fl_X2_32) dX2_exchange_20 ?_
      refine j_iload_n C 23 2 rfl dX2_exchange_23 ?_
      refine j_iload_n C 24 3 rfl dX2_exchange_24 ?_
      refine j_bind (fun x25 h25 => ?_)
      refine t_St3 (k := k) C hk 25 h25 dX2_exchange_25 ?_
      refine j_V (V' := (sSt c k (v.1, v.2.1, v.2.2.1, x25, v.2.2.2.2), w)) rfl ?_
      refine j_iload_n C 26 0 rfl dX2_exchange_26 ?_
      exact j_iret C 27 hr rfl rfl dX2_exchange_27
    · refine j_iload_n C 26 0 rfl dX2_exchange_26 ?_
      exact j_iret C 27 hr rfl rfl dX2_exchange_27
theorem c_X2_exchange {G : GG} {l : Launch} (hG : Gok G) {c : VC} {w : VW} {k : Nat} (hk : k < 8) (v : VSt) (hv : gSt c k = v) (a1 : Int32) (a2 : Int32) {x : (Int32 × VSt)} (hf : f_X2_exchange v a1 a2 = some x) : Ct l yX2_exchange cX2_exchange 4 (some .int) 2 [.ref (G.2.2 (6 + 2 * k)), .int a1, .int a2] G (c, w) (some (.int x.1)) (sSt c k x.2, w) := by
  refine ct_of (rv := fun x : (Int32 × VSt) => (some (.int x.1))) (fin := fun x : (Int32 × VSt) => ((sSt c k x.2, w) : VA)) (own := RX2) hG (plainFor_of_name (by decide)) rfl (Nat.le_of_ble_eq_true rfl) (fun X C hr _ => ?_) hf
  refine j_V (congrArg (fun z => (z, w)) (sSt_id hv).symm) ?_; exact w_X2_exchange hk C hr v a1 a2
set_option maxRecDepth 100000 in
set_option maxHeartbeats 4000000 in
theorem wb_X2_readRankOf_47 {G : GG} {X : WX} {c : VC} {w : VW} {k : Nat} (hk : k < 8) (C : Cx G 5 X RX2 cX2_readRankOf 3) (hr : (xM X).sig.returnType = (some .int)) (v : VSt) (hv : gSt c k = v) (s2 : Int32) (t0 : Int32) : JS G 5 X (QM G X (fun x : Int32 => some (.int x)) (fun x : Int32 => ((c, w) : VA))) (b_X2_readRankOf_47 v s2 t0) (c, w) 47 [(0, .ref (G.2.2 (6 + 2 * k))), (2, .int s2)] [.int t0] := by
  unfold b_X2_readRankOf_47
  refine j_istore (L1 := [(4, .int t0), (0, .ref (G.2.2 (6 + 2 * k))), (2, .int s2)]) C 47 dX2_readRankOf_47 (by decide) rfl ?_
  refine j_aload_n C 49 1 rfl dX2_readRankOf_49 ?_
  refine g_St0 (k := k) C hk 50 (Or.inl fl_X2_12) dX2_readRankOf_50 ?_
  refine j_iload_n C 53 2 rfl dX2_readRankOf_53 ?_
  refine j_iload C 54 0 rfl dX2_readRankOf_54 ?_
  refine j_bind (fun x56 h56 => ?_)
  refine j_vSk_i (k := k) (As := [.int s2, .int t0]) (st := []) C hk k_X3_rankRow 56 (c_X3_rankRow C.2.2.2.2.2.2.1 (c := c) (k := k) hk _ (congrArg (fun z : VSt => z.1) hv) _ _ h56) rfl rfl ml_X2_129 ii_X3_rankRow is_X3_rankRow dX2_readRankOf_56 (by decide) rfl (Nat.le_of_ble_eq_true rfl) ?_ rfl
  exact j_iret C 59 hr rfl rfl dX2_readRankOf_59
set_option maxRecDepth 100000 in
set_option maxHeartbeats 4000000 in
theorem wb_X2_readRankOf_23 {G : GG} {X : WX} {c : VC} {w : VW} {k : Nat} (hk : k < 8) (C : Cx G 5 X RX2 cX2_readRankOf 3) (hr : (xM X).sig.returnType = (some .int)) (v : VSt) (hv : gSt c k = v) (s1 : Int32) (s2 : Int32) (t0 : Int32) : JS G 5 X (QM G X (fun x : Int32 => some (.int x)) (fun x : Int32 => ((c, w) : VA))) (b_X2_readRankOf_23 v s1 s2 t0) (c, w) 23 [(0, .ref (G.2.2 (6 + 2 * k))), (1, .int s1), (2, .int s2)] [.int t0] := by
  unfold b_X2_readRankOf_23
  refine j_istore_n (L1 := [(3, .int t0), (0, .ref (G.2.2 (6 + 2 * k))), (1, .int s1), (2, .int s2)]) C 23 rfl dX2_readRankOf_23 (by decide) rfl ?_
  refine j_iload_n C 24 0 rfl dX2_readRankOf_24 ?_
  refine j_if_eq C 25 39 dX2_readRankOf_25 (by decide) (fun c25 => ?_) (fun c25 => ?_)
  · refine j_aload_n C 39 1 rfl dX2_readRankOf_39 ?_
    refine g_St1 (k := k) C hk 40 (Or.inl fl_X2_21) dX2_readRankOf_40 ?_
    refine j_iload_n C 43 2 rfl dX2_readRankOf_43 ?_
    refine j_bind (fun x44 h44 => ?_)
    refine j_vLy_i (k := k) (As := [.int s1]) (st := []) C (Nat.lt_succ_of_lt hk) k_X1_numberOf 44 (c_X1_numberOf C.2.2.2.2.2.2.1 (c := c) (k := k) (Nat.lt_succ_of_lt hk) _ (congrArg (fun z : VSt => z.2.1) hv) _ h44) rfl rfl ml_X2_126 ii_X1_numberOf is_X1_numberOf dX2_readRankOf_44 (by decide) rfl (Nat.le_of_ble_eq_true rfl) ?_ rfl
    refine j_L (L' := [(0, .ref (G.2.2 (6 + 2 * k))), (2, .int s2)]) [1, 3] rfl ?_
    exact wb_X2_readRankOf_47 hk C hr v hv s2 x44
  · refine j_aload_n C 28 1 rfl dX2_readRankOf_28 ?_
    refine g_St1 (k := k) C hk 29 (Or.inl fl_X2_21) dX2_readRankOf_29 ?_
    refine j_iload_n C 32 2 rfl dX2_readRankOf_32 ?_
    refine j_bind (fun x33 h33 => ?_)
    refine j_vLy_i (k := k) (As := [.int s1]) (st := []) C (Nat.lt_succ_of_lt hk) k_X1_numberAgainOf 33 (c_X1_numberAgainOf C.2.2.2.2.2.2.1 (c := c) (k := k) (Nat.lt_succ_of_lt hk) _ (congrArg (fun z : VSt => z.2.1) hv) _ h33) rfl rfl ml_X2_123 ii_X1_numberAgainOf is_X1_numberAgainOf dX2_readRankOf_33 (by decide) rfl (Nat.le_of_ble_eq_true rfl) ?_ rfl
    refine j_goto C 36 47 dX2_readRankOf_36 (by decide) ?_
    refine j_L (L' := [(0, .ref (G.2.2 (6 + 2 * k))), (2, .int s2)]) [1, 3] rfl ?_
    exact wb_X2_readRankOf_47 hk C hr v hv s2 x33
set_option maxRecDepth 100000 in
set_option maxHeartbeats 4000000 in
theorem w_X2_readRankOf {G : GG} {X : WX} {c : VC} {w : VW} {k : Nat} (hk : k < 8) (C : Cx G 5 X RX2 cX2_readRankOf 3) (hr : (xM X).sig.returnType = (some .int)) (v : VSt) (hv : gSt c k = v) (a1 : Int32) : JS G 5 X (QM G X (fun x : Int32 => some (.int x)) (fun x : Int32 => ((c, w) : VA))) (f_X2_readRankOf v a1) (c, w) 0 [(0, .ref (G.2.2 (6 + 2 * k))), (1, .int a1)] [] := by
  unfold f_X2_readRankOf
  refine j_aload_n C 0 0 rfl dX2_readRankOf_0 ?_
  refine j_iload_n C 1 1 rfl dX2_readRankOf_1 ?_
  refine j_bind (fun x2 h2 => ?_)
  refine j_vSt_i (k := k) (As := [.int a1]) (st := []) C hk k_X2_readSlotOf 2 (c_X2_readSlotOf C.2.2.2.2.2.2.1 (c := c) (k := k) hk _ hv _ h2) rfl rfl ml_X2_107 ii_X2_readSlotOf is_X2_readSlotOf dX2_readRankOf_2 (by decide) rfl (Nat.le_of_ble_eq_true rfl) ?_ rfl
  refine j_istore_n (L1 := [(2, .int x2), (0, .ref (G.2.2 (6 + 2 * k))), (1, .int a1)]) C 5 rfl dX2_readRankOf_5 (by decide) rfl ?_
  refine j_iload_n C 6 0 rfl dX2_readRankOf_6 ?_
  refine j_aload_n C 7 1 rfl dX2_readRankOf_7 ?_
  refine g_St1 (k := k) C hk 8 (Or.inl fl_X2_21) dX2_readRankOf_8 ?_
  refine j_iload_n C 11 2 rfl dX2_readRankOf_11 ?_
  refine j_bind (fun x12 h12 => ?_)
  refine j_vLy_i (k := k) (As := [.int a1]) (st := [.int x2]) C (Nat.lt_succ_of_lt hk) k_X1_slotOf 12 (c_X1_slotOf C.2.2.2.2.2.2.1 (c := c) (k := k) (Nat.lt_succ_of_lt hk) _ (congrArg (fun z : VSt => z.2.1) hv) _ h12) rfl rfl ml_X2_117 ii_X1_slotOf is_X1_slotOf dX2_readRankOf_12 (by decide) rfl (Nat.le_of_ble_eq_true rfl) ?_ rfl
  refine j_icmp_eq C 15 22 dX2_readRankOf_15 (by decide) (fun c15 => ?_) (fun c15 => ?_)
  · refine j_iconst (v := 0) C 22 dX2_readRankOf_22 rfl ?_
    refine j_L (L' := [(0, .ref (G.2.2 (6 + 2 * k))), (1, .int a1), (2, .int x2)]) [1, 2, 0] rfl ?_
    exact wb_X2_readRankOf_23 hk C hr v hv a1 x2 0
  · refine j_iconst (v := 1) C 18 dX2_readRankOf_18 rfl ?_
    refine j_goto C 19 23 dX2_readRankOf_19 (by decide) ?_
    refine j_L (L' := [(0, .ref (G.2.2 (6 + 2 * k))), (1, .int a1), (2, .int x2)]) [1, 2, 0] rfl ?_
    exact wb_X2_readRankOf_23 hk C hr v hv a1 x2 1
theorem c_X2_readRankOf {G : GG} {l : Launch} (hG : Gok G) {c : VC} {w : VW} {k : Nat} (hk : k < 8) (v : VSt) (hv : gSt c k = v) (a1 : Int32) {x : Int32} (hf : f_X2_readRankOf v a1 = some x) : Ct l yX2_readRankOf cX2_readRankOf 5 (some .int) 3 [.ref (G.2.2 (6 + 2 * k)), .int a1] G (c, w) (some (.int x)) (c, w) := by
  refine ct_of (rv := fun x : Int32 => (some (.int x))) (fin := fun x : Int32 => ((c, w) : VA)) (own := RX2) hG (plainFor_of_name (by decide)) rfl (Nat.le_of_ble_eq_true rfl) (fun X C hr _ => ?_) hf
  exact w_X2_readRankOf hk C hr v hv a1
set_option maxRecDepth 100000 in
set_option maxHeartbeats 4000000 in
theorem w_X2_readOne {G : GG} {X : WX} {c : VC} {w : VW} {k : Nat} (hk : k < 8) (C : Cx G 3 X RX2 cX2_readOne 4) (hr : (xM X).sig.returnType = (some .int)) (v : VSt) (a1 : Int32) : JS G 3 X (QM G X (fun x : (Int32 × VSt) => some (.int x.1)) (fun x : (Int32 × VSt) => ((sSt c k x.2, w) : VA))) (f_X2_readOne v a1) (sSt c k v, w) 0 [(0, .ref (G.2.2 (6 + 2 * k))), (1, .int a1)] [] := by
  unfold f_X2_readOne
  refine j_aload_n C 0 0 rfl dX2_readOne_0 ?_
  refine j_iload_n C 1 1 rfl dX2_readOne_1 ?_
  refine j_bind (fun x2 h2 => ?_)
  refine j_vSt_i (k := k) (As := [.int a1]) (st := []) C hk k_X2_readSlotOf 2 (c_X2_readSlotOf C.2.2.2.2.2.2.1 (c := (sSt c k v)) (k := k) hk _ (sSt_get _ _ _) _ h2) rfl rfl ml_X2_107 ii_X2_readSlotOf is_X2_readSlotOf dX2_readOne_2 (by decide) rfl (Nat.le_of_ble_eq_true rfl) ?_ rfl
  refine j_istore_n (L1 := [(2, .int x2), (0, .ref (G.2.2 (6 + 2 * k))), (1, .int a1)]) C 5 rfl dX2_readOne_5 (by decide) rfl ?_
  refine j_aload_n C 6 1 rfl dX2_readOne_6 ?_
  refine g_St2 (k := k) C hk 7 (Or.inl fl_X2_28) dX2_readOne_7 ?_
  refine j_aload_n C 10 1 rfl dX2_readOne_10 ?_
  refine j_iload_n C 11 2 rfl dX2_readOne_11 ?_
  refine j_bind (fun x12 h12 => ?_)
  refine j_vSt_i (k := k) (As := [.int a1]) (st := [.ref (G.2.2 (96 + 2 * k))]) C hk k_X2_readRankOf 12 (c_X2_readRankOf C.2.2.2.2.2.2.1 (c := (sSt c k v)) (k := k) hk _ (sSt_get _ _ _) _ h12) rfl rfl ml_X2_133 ii_X2_readRankOf is_X2_readRankOf dX2_readOne_12 (by decide) rfl (Nat.le_of_ble_eq_true rfl) ?_ rfl
  refine j_aload_n C 15 1 rfl dX2_readOne_15 ?_
  refine g_St0 (k := k) C hk 16 (Or.inl fl_X2_12) dX2_readOne_16 ?_
  refine j_iload_n C 19 0 rfl dX2_readOne_19 ?_
  refine j_bind (fun x20 h20 => ?_)
  refine j_vSk_i (k := k) (As := [.int x2]) (st := [.int x12, .ref (G.2.2 (96 + 2 * k))]) C hk k_X3_delayIn 20 (c_X3_delayIn C.2.2.2.2.2.2.1 (c := (sSt c k v)) (k := k) hk _ (sSt_g1 _ _ _) _ h20) rfl rfl ml_X2_136 ii_X3_delayIn is_X3_delayIn dX2_readOne_20 (by decide) rfl (Nat.le_of_ble_eq_true rfl) ?_ rfl
  refine j_bind (fun x23 h23 => ?_)
  refine j_vCk_v (k := k) (As := [.int x12, .int x20]) (st := []) C (Nat.lt_succ_of_lt hk) k_X0_readSingle 23 (c_X0_readSingle C.2.2.2.2.2.2.1 (c := (sSt c k v)) (k := k) (Nat.lt_succ_of_lt hk) _ (sSt_g3 _ _ _) _ _ h23) (congrArg (fun z => (z, w)) (sSt_sCk _ _ _ _)) rfl ml_X2_139 ii_X0_readSingle is_X0_readSingle dX2_readOne_23 (by decide) rfl (Nat.le_of_ble_eq_true rfl) ?_ rfl
  refine j_V (V' := (sSt c k (v.1, v.2.1, x23, v.2.2.2), w)) rfl ?_
  refine j_aload_n C 26 1 rfl dX2_readOne_26 ?_
  refine g_St0 (k := k) C hk 27 (Or.inl fl_X2_12) dX2_readOne_27 ?_
  refine j_iload_n C 30 0 rfl dX2_readOne_30 ?_
  refine j_bind (fun x31 h31 => ?_)
  refine j_vSk_v (k := k) (As := [.int x2]) (st := []) C hk k_X3_tellRead 31 (c_X3_tellRead C.2.2.2.2.2.2.1 (c := (sSt c k (v.1, v.2.1, x23, v.2.2.2))) (k := k) hk _ (sSt_g1 _ _ _) _ h31) (congrArg (fun z => (z, w)) (sSt_sSk _ _ _ _)) rfl ml_X2_143 ii_X3_tellRead is_X3_tellRead dX2_readOne_31 (by decide) rfl (Nat.le_of_ble_eq_true rfl) ?_ rfl
  refine j_V (V' := (sSt c k (x31, v.2.1, x23, v.2.2.2), w)) rfl ?_
  refine j_aload_n C 34 1 rfl dX2_readOne_34 ?_
  refine j_dup C 35 dX2_readOne_35 rfl ?_
  refine g_St6 (k := k) (c0 := (sSt c k (x31, v.2.1, x23, v.2.2.2))) C hk (sSt_g5 _ _ _) 36 (Or.inl fl_X2_59) dX2_readOne_36 ?_
  refine j_iconst (v := 1) C 39 dX2_readOne_39 rfl ?_
  refine j_iadd C 40 dX2_readOne_40 ?_
  refine p_St6 (k := k) C hk 41 fl_X2_59 dX2_readOne_41 ?_
  refine j_V (V' := (sSt c k (x31, v.2.1, x23, v.2.2.2.1, (v.2.2.2.2.1, v.2.2.2.2.2.1, (v.2.2.2.2.2.2.1 + 1), v.2.2.2.2.2.2.2)), w)) rfl ?_
  refine j_aload_n C 44 1 rfl dX2_readOne_44 ?_
  refine j_iload_n C 45 2 rfl dX2_readOne_45 ?_
  refine j_bind (fun x46 h46 => ?_)
  refine j_vSt_i (k := k) (As := [.int a1]) (st := []) C hk k_X2_heldBy 46 (c_X2_heldBy C.2.2.2.2.2.2.1 (c := (sSt c k (x31, v.2.1, x23, v.2.2.2.1, (v.2.2.2.2.1, v.2.2.2.2.2.1, (v.2.2.2.2.2.2.1 + 1), v.2.2.2.2.2.2.2)))) (k := k) hk _ (sSt_get _ _ _) _ h46) rfl rfl ml_X2_114 ii_X2_heldBy is_X2_heldBy dX2_readOne_46 (by decide) rfl (Nat.le_of_ble_eq_true rfl) ?_ rfl
  exact j_iret C 49 hr rfl rfl dX2_readOne_49
theorem c_X2_readOne {G : GG} {l : Launch} (hG : Gok G) {c : VC} {w : VW} {k : Nat} (hk : k < 8) (v : VSt) (hv : gSt c k = v) (a1 : Int32) {x : (Int32 × VSt)} (hf : f_X2_readOne v a1 = some x) : Ct l yX2_readOne cX2_readOne 3 (some .int) 4 [.ref (G.2.2 (6 + 2 * k)), .int a1] G (c, w) (some (.int x.1)) (sSt c k x.2, w) := by
  refine ct_of (rv := fun x : (Int32 × VSt) => (some (.int x.1))) (fin := fun x : (Int32 × VSt) => ((sSt c k x.2, w) : VA)) (own := RX2) hG (plainFor_of_name (by decide)) rfl (Nat.le_of_ble_eq_true rfl) (fun X C hr _ => ?_) hf
  refine j_V (congrArg (fun z => (z, w)) (sSt_id hv).symm) ?_; exact w_X2_readOne hk C hr v a1
set_option maxRecDepth 100000 in
set_option maxHeartbeats 4000000 in
theorem w_X2_settingOf {G : GG} {X : WX} {c : VC} {w : VW} {k : Nat} (hk : k < 8) (C : Cx G 2 X RX2 cX2_settingOf 0) (hr : (xM X).sig.returnType = (some .int)) (v : VSt) (hv : gSt c k = v) (a1 : Int32) : JS G 2 X (QM G X (fun x : Int32 => some (.int x)) (fun x : Int32 => ((c, w) : VA))) (f_X2_settingOf v a1) (c, w) 0 [(0, .ref (G.2.2 (6 + 2 * k))), (1, .int a1)] [] := by
  unfold f_X2_settingOf
  refine j_iload_n C 0 1 rfl dX2_settingOf_0 ?_
  refine j_iconst (v := 1) C 1 dX2_settingOf_1 rfl ?_
  refine j_icmp_ne C 2 12 dX2_settingOf_2 (by decide) (fun c2 => ?_) (fun c2 => ?_)
  · refine j_aload_n C 5 0 rfl dX2_settingOf_5 ?_
    refine g_St5 (k := k) (c0 := c) C hk (congrArg (fun z : VSt => z.2.2.2.2) hv) 6 (Or.inl fl_X2_40) dX2_settingOf_6 ?_
    refine j_goto C 9 16 dX2_settingOf_9 (by decide) ?_
    exact j_iret C 16 hr rfl rfl dX2_settingOf_16
  · refine j_aload_n C 12 0 rfl dX2_settingOf_12 ?_
    refine g_St4 (k := k) (c0 := c) C hk (congrArg (fun z : VSt => z.2.2.2.2) hv) 13 (Or.inl fl_X2_36) dX2_settingOf_13 ?_
    exact j_iret C 16 hr rfl rfl dX2_settingOf_16
theorem c_X2_settingOf {G : GG} {l : Launch} (hG : Gok G) {c : VC} {w : VW} {k : Nat} (hk : k < 8) (v : VSt) (hv : gSt c k = v) (a1 : Int32) {x : Int32} (hf : f_X2_settingOf v a1 = some x) : Ct l yX2_settingOf cX2_settingOf 2 (some .int) 0 [.ref (G.2.2 (6 + 2 * k)), .int a1] G (c, w) (some (.int x)) (c, w) := by
  refine ct_of (rv := fun x : Int32 => (some (.int x))) (fin := fun x : Int32 => ((c, w) : VA)) (own := RX2) hG (plainFor_of_name (by decide)) rfl (Nat.le_of_ble_eq_true rfl) (fun X C hr _ => ?_) hf
  exact w_X2_settingOf hk C hr v hv a1
set_option maxRecDepth 100000 in
set_option maxHeartbeats 4000000 in
theorem w_X2_exchangeSetting {G : GG} {X : WX} {c : VC} {w : VW} {k : Nat} (hk : k < 8) (C : Cx G 4 X RX2 cX2_exchangeSetting 1) (hr : (xM X).sig.returnType = (some .int)) (v : VSt) (a1 : Int32) (a2 : Int32) : JS G 4 X (QM G X (fun x : (Int32 × VSt) => some (.int x.1)) (fun x : (Int32 × VSt) => ((sSt c k x.2, w) : VA))) (f_X2_exchangeSetting v a1 a2) (sSt c k v, w) 0 [(0, .ref (G.2.2 (6 + 2 * k))), (1, .int a1), (2, .int a2)] [] := by
  unfold f_X2_exchangeSetting
  refine j_aload_n C 0 0 rfl dX2_exchangeSetting_0 ?_
  refine j_iload_n C 1 1 rfl dX2_exchangeSetting_1 ?_
  refine j_bind (fun x2 h2 => ?_)
  refine j_vSt_i (k := k) (As := [.int a1]) (st := []) C hk k_X2_settingOf 2 (c_X2_settingOf C.2.2.2.2.2.2.1 (c := (sSt c k v)) (k := k) hk _ (sSt_get _ _ _) _ h2) rfl rfl ml_X2_90 ii_X2_settingOf is_X2_settingOf dX2_exchangeSetting_2 (by decide) rfl (Nat.le_of_ble_eq_true rfl) ?_ rfl
  refine j_istore_n (L1 := [(3, .int x2), (0, .ref (G.2.2 (6 + 2 * k))), (1, .int a1), (2, .int a2)]) C 5 rfl dX2_exchangeSetting_5 (by decide) rfl ?_
  refine j_iload_n C 6 2 rfl dX2_exchangeSetting_6 ?_
  refine j_iconst (v := 1) C 7 dX2_exchangeSetting_7 rfl ?_
  refine j_icmp_ne C 8 19 dX2_exchangeSetting_8 (by decide) (fun c8 => ?_) (fun c8 => ?_)
  · refine j_aload_n C 11 1 rfl dX2_exchangeSetting_11 ?_
    refine j_iload_n C 12 3 rfl dX2_exchangeSetting_12 ?_
    refine p_St5 (k := k) C hk 13 fl_X2_40 dX2_exchangeSetting_13 ?_
    refine j_V (V' := (sSt c k (v.1, v.2.1, v.2.2.1, v.2.2.2.1, (v.2.2.2.2.1, a2, v.2.2.2.2.2.2)), w)) rfl ?_
    refine j_goto C 16 24 dX2_exchangeSetting_16 (by decide) ?_
    refine j_iload_n C 24 0 rfl dX2_exchangeSetting_24 ?_
    exact j_iret C 25 hr rfl rfl dX2_exchangeSetting_25
  · refine j_aload_n C 19 1 rfl dX2_exchangeSetting_19 ?_
    refine j_iload_n C 20 3 rfl dX2_exchangeSetting_20 ?_
    refine p_St4 (k := k) C hk 21 fl_X2_36 dX2_exchangeSetting_21 ?_
    refine j_V (V' := (sSt c k (v.1, v.2.1, v.2.2.1, v.2.2.2.1, (a2, v.2.2.2.2.2)), w)) rfl ?_
    refine j_iload_n C 24 0 rfl dX2_exchangeSetting_24 ?_
    exact j_iret C 25 hr rfl rfl dX2_exchangeSetting_25
theorem c_X2_exchangeSetting {G : GG} {l : Launch} (hG : Gok G) {c : VC} {w : VW} {k : Nat} (hk : k < 8) (v : VSt) (hv : gSt c k = v) (a1 : Int32) (a2 : Int32) {x : (Int32 × VSt)} (hf : f_X2_exchangeSetting v a1 a2 = some x) : Ct l yX2_exchangeSetting cX2_exchangeSetting 4 (some .int) 1 [.ref (G.2.2 (6 + 2 * k)), .int a1, .int a2] G (c, w) (some (.int x.1)) (sSt c k x.2, w) := by
  refine ct_of (rv := fun x : (Int32 × VSt) => (some (.int x.1))) (fin := fun x : (Int32 × VSt) => ((sSt c k x.2, w) : VA)) (own := RX2) hG (plainFor_of_name (by decide)) rfl (Nat.le_of_ble_eq_true rfl) (fun X C hr _ => ?_) hf
  refine j_V (congrArg (fun z => (z, w)) (sSt_id hv).symm) ?_; exact w_X2_exchangeSetting hk C hr v a1 a2
set_option maxRecDepth 100000 in
set_option maxHeartbeats 4000000 in
theorem w_X2_slotNumber {G : GG} {X : WX} {c : VC} {w : VW} {k : Nat} (hk : k < 8) (C : Cx G 3 X RX2 cX2_slotNumber 2) (hr : (xM X).sig.returnType = (some .int)) (v : VSt) (hv : gSt c k = v) (a1 : Int32) (a2 : Int32) : JS G 3 X (QM G X (fun x : Int32 => some (.int x)) (fun x : Int32 => ((c, w) : VA))) (f_X2_slotNumber v a1 a2) (c, w) 0 [(0, .ref (G.2.2 (6 + 2 * k))), (1, .int a1), (2, .int a2)] [] := by
  unfold f_X2_slotNumber
  refine j_aload_n C 0 0 rfl dX2_slotNumber_0 ?_
  refine g_St0 (k := k) C hk 1 (Or.inl fl_X2_12) dX2_slotNumber_1 ?_
  refine j_iload_n C 4 1 rfl dX2_slotNumber_4 ?_
  refine j_bind (fun x5 h5 => ?_)
  refine j_vSk_i (k := k) (As := [.int a1]) (st := []) C hk k_X3_isPlugged 5 (c_X3_isPlugged C.2.2.2.2.2.2.1 (c := c) (k := k) hk _ (congrArg (fun z : VSt => z.1) hv) _ h5) rfl rfl ml_X2_178 ii_X3_isPlugged is_X3_isPlugged dX2_slotNumber_5 (by decide) rfl (Nat.le_of_ble_eq_true rfl) ?_ rfl
  refine j_if_ne C 8 13 dX2_slotNumber_8 (by decide) (fun c8 => ?_) (fun c8 => ?_)
  · refine j_iconst (v := (-1)) C 11 dX2_slotNumber_11 rfl ?_
    exact j_iret C 12 hr rfl rfl dX2_slotNumber_12
  · refine j_iload_n C 13 2 rfl dX2_slotNumber_13 ?_
    refine j_case (off := 42) C 14 56 dX2_slotNumber_14 (by decide) (by decide) (by decide) (fun c14_0 => ?_) (fun c14_0 => ?_)
    · refine j_aload_n C 56 0 rfl dX2_slotNumber_56 ?_
      refine g_St0 (k := k) C hk 57 (Or.inl fl_X2_12) dX2_slotNumber_57 ?_
      refine j_iload_n C 60 1 rfl dX2_slotNumber_60 ?_
      refine j_bind (fun x61 h61 => ?_)
      refine j_vSk_i (k := k) (As := [.int a1]) (st := []) C hk k_X3_sizeIn 61 (c_X3_sizeIn C.2.2.2.2.2.2.1 (c := c) (k := k) hk _ (congrArg (fun z : VSt => z.1) hv) _ h61) rfl rfl ml_X2_181 ii_X3_sizeIn is_X3_sizeIn dX2_slotNumber_61 (by decide) rfl (Nat.le_of_ble_eq_true rfl) ?_ rfl
      exact j_iret C 64 hr rfl rfl dX2_slotNumber_64
    · refine j_case (off := 51) C 14 65 dX2_slotNumber_14 (by decide) (by decide) (by decide) (fun c14_1 => ?_) (fun c14_1 => ?_)
      · refine j_aload_n C 65 0 rfl dX2_slotNumber_65 ?_
        refine g_St0 (k := k) C hk 66 (Or.inl fl_X2_12) dX2_slotNumber_66 ?_
        refine j_iload_n C 69 1 rfl dX2_slotNumber_69 ?_
        refine j_bind (fun x70 h70 => ?_)
        refine j_vSk_i (k := k) (As := [.int a1]) (st := []) C hk k_X3_ranksIn 70 (c_X3_ranksIn C.2.2.2.2.2.2.1 (c := c) (k := k) hk _ (congrArg (fun z : VSt => z.1) hv) _ h70) rfl rfl ml_X2_184 ii_X3_ranksIn is_X3_ranksIn dX2_slotNumber_70 (by decide) rfl (Nat.le_of_ble_eq_true rfl) ?_ rfl
        exact j_iret C 73 hr rfl rfl dX2_slotNumber_73
      · refine j_case (off := 60) C 14 74 dX2_slotNumber_14 (by decide) (by decide) (by decide) (fun c14_2 => ?_) (fun c14_2 => ?_)
        · refine j_aload_n C 74 0 rfl dX2_slotNumber_74 ?_
          refine g_St0 (k := k) C hk 75 (Or.inl fl_X2_12) dX2_slotNumber_75 ?_
          refine j_iload_n C 78 1 rfl dX2_slotNumber_78 ?_
          refine j_bind (fun x79 h79 => ?_)
          refine j_vSk_i (k := k) (As := [.int a1]) (st := []) C hk k_X3_delayIn 79 (c_X3_delayIn C.2.2.2.2.2.2.1 (c := c) (k := k) hk _ (congrArg (fun z : VSt => z.1) hv) _ h79) rfl rfl ml_X2_136 ii_X3_delayIn is_X3_delayIn dX2_slotNumber_79 (by decide) rfl (Nat.le_of_ble_eq_true rfl) ?_ rfl
          exact j_iret C 82 hr rfl rfl dX2_slotNumber_82
        · refine j_case (off := 69) C 14 83 dX2_slotNumber_14 (by decide) (by decide) (by decide) (fun c14_3 => ?_) (fun c14_3 => ?_)
          · refine j_aload_n C 83 0 rfl dX2_slotNumber_83 ?_
            refine g_St0 (k := k) C hk 84 (Or.inl fl_X2_12) dX2_slotNumber_84 ?_
            refine j_iload_n C 87 1 rfl dX2_slotNumber_87 ?_
            refine j_bind (fun x88 h88 => ?_)
            refine j_vSk_i (k := k) (As := [.int a1]) (st := []) C hk k_X3_hasFailed 88 (c_X3_hasFailed C.2.2.2.2.2.2.1 (c := c) (k := k) hk _ (congrArg (fun z : VSt => z.1) hv) _ h88) rfl rfl ml_X2_187 ii_X3_hasFailed is_X3_hasFailed dX2_slotNumber_88 (by decide) rfl (Nat.le_of_ble_eq_true rfl) ?_ rfl
            refine j_if_eq C 91 98 dX2_slotNumber_91 (by decide) (fun c91 => ?_) (fun c91 => ?_)
            · refine j_iconst (v := 0) C 98 dX2_slotNumber_98 rfl ?_
              exact j_iret C 99 hr rfl rfl dX2_slotNumber_99
            · refine j_iconst (v := 1) C 94 dX2_slotNumber_94 rfl ?_
              refine j_goto C 95 99 dX2_slotNumber_95 (by decide) ?_
              exact j_iret C 99 hr rfl rfl dX2_slotNumber_99
          · refine j_case (off := 86) C 14 100 dX2_slotNumber_14 (by decide) (by decide) (by decide) (fun c14_4 => ?_) (fun c14_4 => ?_)
            · refine j_aload_n C 100 0 rfl dX2_slotNumber_100 ?_
              refine g_St0 (k := k) C hk 101 (Or.inl fl_X2_12) dX2_slotNumber_101 ?_
              refine j_iload_n C 104 1 rfl dX2_slotNumber_104 ?_
              refine j_bind (fun x105 h105 => ?_)
              refine j_vSk_i (k := k) (As := [.int a1]) (st := []) C hk k_X3_isMapped 105 (c_X3_isMapped C.2.2.2.2.2.2.1 (c := c) (k := k) hk _ (congrArg (fun z : VSt => z.1) hv) _ h105) rfl rfl ml_X2_190 ii_X3_isMapped is_X3_isMapped dX2_slotNumber_105 (by decide) rfl (Nat.le_of_ble_eq_true rfl) ?_ rfl
              refine j_if_eq C 108 115 dX2_slotNumber_108 (by decide) (fun c108 => ?_) (fun c108 => ?_)
              · refine j_iconst (v := 0) C 115 dX2_slotNumber_115 rfl ?_
                exact j_iret C 116 hr rfl rfl dX2_slotNumber_116
              · refine j_iconst (v := 1) C 111 dX2_slotNumber_111 rfl ?_
                refine j_goto C 112 116 dX2_slotNumber_112 (by decide) ?_
                exact j_iret C 116 hr rfl rfl dX2_slotNumber_116
            · refine j_case (off := 103) C 14 117 dX2_slotNumber_14 (by decide) (by decide) (by decide) (fun c14_5 => ?_) (fun c14_5 => ?_)
              · refine j_aload_n C 117 0 rfl dX2_slotNumber_117 ?_
                refine g_St2 (k := k) C hk 118 (Or.inl fl_X2_28) dX2_slotNumber_118 ?_
                refine j_iload_n C 121 1 rfl dX2_slotNumber_121 ?_
                refine j_iconst (v := 0) C 122 dX2_slotNumber_122 rfl ?_
                refine j_bind (fun x123 h123 => ?_)
                refine j_vCk_i (k := k) (As := [.int a1, .int 0]) (st := []) C (Nat.lt_succ_of_lt hk) k_X0_freeFrom 123 (c_X0_freeFrom C.2.2.2.2.2.2.1 (c := c) (k := k) (Nat.lt_succ_of_lt hk) _ (congrArg (fun z : VSt => z.2.2.1) hv) _ _ h123) rfl rfl ml_X2_193 ii_X0_freeFrom is_X0_freeFrom dX2_slotNumber_123 (by decide) rfl (Nat.le_of_ble_eq_true rfl) ?_ rfl
                exact j_iret C 126 hr rfl rfl dX2_slotNumber_126
              · refine j_case (off := 113) C 14 127 dX2_slotNumber_14 (by decide) (by decide) (by decide) (fun c14_6 => ?_) (fun c14_6 => ?_)
                · refine j_aload_n C 127 0 rfl dX2_slotNumber_127 ?_
                  refine g_St0 (k := k) C hk 128 (Or.inl fl_X2_12) dX2_slotNumber_128 ?_
                  refine j_iload_n C 131 1 rfl dX2_slotNumber_131 ?_
                  refine j_bind (fun x132 h132 => ?_)
                  refine j_vSk_i (k := k) (As := [.int a1]) (st := []) C hk k_X3_ranksIn 132 (c_X3_ranksIn C.2.2.2.2.2.2.1 (c := c) (k := k) hk _ (congrArg (fun z : VSt => z.1) hv) _ h132) rfl rfl ml_X2_184 ii_X3_ranksIn is_X3_ranksIn dX2_slotNumber_132 (by decide) rfl (Nat.le_of_ble_eq_true rfl) ?_ rfl
                  refine j_iconst (v := 2) C 135 dX2_slotNumber_135 rfl ?_
                  refine j_icmp_ne C 136 151 dX2_slotNumber_136 (by decide) (fun c136 => ?_) (fun c136 => ?_)
                  · refine j_aload_n C 139 0 rfl dX2_slotNumber_139 ?_
                    refine g_St2 (k := k) C hk 140 (Or.inl fl_X2_28) dX2_slotNumber_140 ?_
                    refine j_iload_n C 143 1 rfl dX2_slotNumber_143 ?_
                    refine j_iconst (v := 1) C 144 dX2_slotNumber_144 rfl ?_
                    refine j_bind (fun x145 h145 => ?_)
                    refine j_vCk_i (k := k) (As := [.int a1, .int 1]) (st := []) C (Nat.lt_succ_of_lt hk) k_X0_freeFrom 145 (c_X0_freeFrom C.2.2.2.2.2.2.1 (c := c) (k := k) (Nat.lt_succ_of_lt hk) _ (congrArg (fun z : VSt => z.2.2.1) hv) _ _ h145) rfl rfl ml_X2_193 ii_X0_freeFrom is_X0_freeFrom dX2_slotNumber_145 (by decide) rfl (Nat.le_of_ble_eq_true rfl) ?_ rfl
                    refine j_goto C 148 152 dX2_slotNumber_148 (by decide) ?_
                    exact j_iret C 152 hr rfl rfl dX2_slotNumber_152
                  · refine j_iconst (v := (-1)) C 151 dX2_slotNumber_151 rfl ?_
                    exact j_iret C 152 hr rfl rfl dX2_slotNumber_152
                · refine j_dflt C 14 153 dX2_slotNumber_14 (by decide) (fun z h1 h2 e => ?_) ?_
                  · rcases (show z = 0 ∨ z = 1 ∨ z = 2 ∨ z = 3 ∨ z = 4 ∨ z = 5 ∨ z = 6 by omega) with rfl | rfl | rfl | rfl | rfl | rfl | rfl
                    · exact c14_0 (Int32.toInt_inj.mp e)
                    · exact c14_1 (Int32.toInt_inj.mp e)
                    · exact c14_2 (Int32.toInt_inj.mp e)
                    · exact c14_3 (Int32.toInt_inj.mp e)
                    · exact c14_4 (Int32.toInt_inj.mp e)
                    · exact c14_5 (Int32.toInt_inj.mp e)
                    · exact c14_6 (Int32.toInt_inj.mp e)
                  · refine j_aload_n C 153 0 rfl dX2_slotNumber_153 ?_
                    refine g_St0 (k := k) C hk 154 (Or.inl fl_X2_12) dX2_slotNumber_154 ?_
                    refine j_iload_n C 157 1 rfl dX2_slotNumber_157 ?_
                    refine j_bind (fun x158 h158 => ?_)
                    refine j_vSk_i (k := k) (As := [.int a1]) (st := []) C hk k_X3_readsIn 158 (c_X3_readsIn C.2.2.2.2.2.2.1 (c := c) (k := k) hk _ (congrArg (fun z : VSt => z.1) hv) _ h158) rfl rfl ml_X2_196 ii_X3_readsIn is_X3_readsIn dX2_slotNumber_158 (by decide) rfl (Nat.le_of_ble_eq_true rfl) ?_ rfl
                    exact j_iret C 161 hr rfl rfl dX2_slotNumber_161
theorem c_X2_slotNumber {G : GG} {l : Launch} (hG : Gok G) {c : VC} {w : VW} {k : Nat} (hk : k < 8) (v : VSt) (hv : gSt c k = v) (a1 : Int32) (a2 : Int32) {x : Int32} (hf : f_X2_slotNumber v a1 a2 = some x) : Ct l yX2_slotNumber cX2_slotNumber 3 (some .int) 2 [.ref (G.2.2 (6 + 2 * k)), .int a1, .int a2] G (c, w) (some (.int x)) (c, w) := by
  refine ct_of (rv := fun x : Int32 => (some (.int x))) (fin := fun x : Int32 => ((c, w) : VA)) (own := RX2) hG (plainFor_of_name (by decide)) rfl (Nat.le_of_ble_eq_true rfl) (fun X C hr _ => ?_) hf
  exact w_X2_slotNumber hk C hr v hv a1 a2
set_option maxRecDepth 100000 in
set_option maxHeartbeats 4000000 in
theorem w_X2_rankOrNone {G : GG} {X : WX} {c : VC} {w : VW} {k : Nat} (hk : k < 8) (C : Cx G 3 X RX2 cX2_rankOrNone 2) (hr : (xM X).sig.returnType = (some .int)) (v : VSt) (hv : gSt c k = v) (a1 : Int32) (a2 : Int32) : JS G 3 X (QM G X (fun x : Int32 => some (.int x)) (fun x : Int32 => ((c, w) : VA))) (f_X2_rankOrNone v a1 a2) (c, w) 0 [(0, .ref (G.2.2 (6 + 2 * k))), (1, .int a1), (2, .int a2)] [] := by
  unfold f_X2_rankOrNone
  refine j_aload_n C 0 0 rfl dX2_rankOrNone_0 ?_
  refine g_St0 (k := k) C hk 1 (Or.inl fl_X2_12) dX2_rankOrNone_1 ?_
  refine j_iload_n C 4 1 rfl dX2_rankOrNone_4 ?_
  refine j_bind (fun x5 h5 => ?_)
  refine j_vSk_i (k := k) (As := [.int a1]) (st := []) C hk k_X3_isMapped 5 (c_X3_isMapped C.2.2.2.2.2.2.1 (c := c) (k := k) hk _ (congrArg (fun z : VSt => z.1) hv) _ h5) rfl rfl ml_X2_190 ii_X3_isMapped is_X3_isMapped dX2_rankOrNone_5 (by decide) rfl (Nat.le_of_ble_eq_true rfl) ?_ rfl
  refine j_if_eq C 8 23 dX2_rankOrNone_8 (by decide) (fun c8 => ?_) (fun c8 => ?_)
  · refine j_iconst (v := (-1)) C 23 dX2_rankOrNone_23 rfl ?_
    exact j_iret C 24 hr rfl rfl dX2_rankOrNone_24
  · refine j_aload_n C 11 0 rfl dX2_rankOrNone_11 ?_
    refine g_St0 (k := k) C hk 12 (Or.inl fl_X2_12) dX2_rankOrNone_12 ?_
    refine j_iload_n C 15 1 rfl dX2_rankOrNone_15 ?_
    refine j_iload_n C 16 2 rfl dX2_rankOrNone_16 ?_
    refine j_bind (fun x17 h17 => ?_)
    refine j_vSk_i (k := k) (As := [.int a1, .int a2]) (st := []) C hk k_X3_rankOf 17 (c_X3_rankOf C.2.2.2.2.2.2.1 (c := c) (k := k) hk _ (congrArg (fun z : VSt => z.1) hv) _ _ h17) rfl rfl ml_X2_209 ii_X3_rankOf is_X3_rankOf dX2_rankOrNone_17 (by decide) rfl (Nat.le_of_ble_eq_true rfl) ?_ rfl
    refine j_goto C 20 24 dX2_rankOrNone_20 (by decide) ?_
    exact j_iret C 24 hr rfl rfl dX2_rankOrNone_24
theorem c_X2_rankOrNone {G : GG} {l : Launch} (hG : Gok G) {c : VC} {w : VW} {k : Nat} (hk : k < 8) (v : VSt) (hv : gSt c k = v) (a1 : Int32) (a2 : Int32) {x : Int32} (hf : f_X2_rankOrNone v a1 a2 = some x) : Ct l yX2_rankOrNone cX2_rankOrNone 3 (some .int) 2 [.ref (G.2.2 (6 + 2 * k)), .int a1, .int a2] G (c, w) (some (.int x)) (c, w) := by
  refine ct_of (rv := fun x : Int32 => (some (.int x))) (fin := fun x : Int32 => ((c, w) : VA)) (own := RX2) hG (plainFor_of_name (by decide)) rfl (Nat.le_of_ble_eq_true rfl) (fun X C hr _ => ?_) hf
  exact w_X2_rankOrNone hk C hr v hv a1 a2
set_option maxRecDepth 100000 in
set_option maxHeartbeats 4000000 in
theorem w_X2_blockNumber {G : GG} {X : WX} {c : VC} {w : VW} {k : Nat} (hk : k < 8) (C : Cx G 3 X RX2 cX2_blockNumber 4) (hr : (xM X).sig.returnType = (some .int)) (v : VSt) (hv : gSt c k = v) (a1 : Int32) (a2 : Int32) : JS G 3 X (QM G X (fun x : Int32 => some (.int x)) (fun x : Int32 => ((c, w) : VA))) (f_X2_blockNumber v a1 a2) (c, w) 0 [(0, .ref (G.2.2 (6 + 2 * k))), (1, .int a1), (2, .int a2)] [] := by
  unfold f_X2_blockNumber
  refine j_iload_n C 0 2 rfl dX2_blockNumber_0 ?_
  refine j_case (off := 39) C 1 40 dX2_blockNumber_1 (by decide) (by decide) (by decide) (fun c1_0 => ?_) (fun c1_0 => ?_)
  · refine j_aload_n C 40 0 rfl dX2_blockNumber_40 ?_
    refine g_St1 (k := k) C hk 41 (Or.inl fl_X2_21) dX2_blockNumber_41 ?_
    refine j_iload_n C 44 1 rfl dX2_blockNumber_44 ?_
    refine j_bind (fun x45 h45 => ?_)
    refine j_vLy_i (k := k) (As := [.int a1]) (st := []) C (Nat.lt_succ_of_lt hk) k_X1_slotOf 45 (c_X1_slotOf C.2.2.2.2.2.2.1 (c := c) (k := k) (Nat.lt_succ_of_lt hk) _ (congrArg (fun z : VSt => z.2.1) hv) _ h45) rfl rfl ml_X2_117 ii_X1_slotOf is_X1_slotOf dX2_blockNumber_45 (by decide) rfl (Nat.le_of_ble_eq_true rfl) ?_ rfl
    exact j_iret C 48 hr rfl rfl dX2_blockNumber_48
  · refine j_case (off := 48) C 1 49 dX2_blockNumber_1 (by decide) (by decide) (by decide) (fun c1_1 => ?_) (fun c1_1 => ?_)
    · refine j_aload_n C 49 0 rfl dX2_blockNumber_49 ?_
      refine g_St1 (k := k) C hk 50 (Or.inl fl_X2_21) dX2_blockNumber_50 ?_
      refine j_iload_n C 53 1 rfl dX2_blockNumber_53 ?_
      refine j_bind (fun x54 h54 => ?_)
      refine j_vLy_i (k := k) (As := [.int a1]) (st := []) C (Nat.lt_succ_of_lt hk) k_X1_numberOf 54 (c_X1_numberOf C.2.2.2.2.2.2.1 (c := c) (k := k) (Nat.lt_succ_of_lt hk) _ (congrArg (fun z : VSt => z.2.1) hv) _ h54) rfl rfl ml_X2_126 ii_X1_numberOf is_X1_numberOf dX2_blockNumber_54 (by decide) rfl (Nat.le_of_ble_eq_true rfl) ?_ rfl
      exact j_iret C 57 hr rfl rfl dX2_blockNumber_57
    · refine j_case (off := 57) C 1 58 dX2_blockNumber_1 (by decide) (by decide) (by decide) (fun c1_2 => ?_) (fun c1_2 => ?_)
      · refine j_aload_n C 58 0 rfl dX2_blockNumber_58 ?_
        refine j_aload_n C 59 0 rfl dX2_blockNumber_59 ?_
        refine g_St1 (k := k) C hk 60 (Or.inl fl_X2_21) dX2_blockNumber_60 ?_
        refine j_iload_n C 63 1 rfl dX2_blockNumber_63 ?_
        refine j_bind (fun x64 h64 => ?_)
        refine j_vLy_i (k := k) (As := [.int a1]) (st := [.ref (G.2.2 (6 + 2 * k))]) C (Nat.lt_succ_of_lt hk) k_X1_slotOf 64 (c_X1_slotOf C.2.2.2.2.2.2.1 (c := c) (k := k) (Nat.lt_succ_of_lt hk) _ (congrArg (fun z : VSt => z.2.1) hv) _ h64) rfl rfl ml_X2_117 ii_X1_slotOf is_X1_slotOf dX2_blockNumber_64 (by decide) rfl (Nat.le_of_ble_eq_true rfl) ?_ rfl
        refine j_aload_n C 67 0 rfl dX2_blockNumber_67 ?_
        refine g_St1 (k := k) C hk 68 (Or.inl fl_X2_21) dX2_blockNumber_68 ?_
        refine j_iload_n C 71 1 rfl dX2_blockNumber_71 ?_
        refine j_bind (fun x72 h72 => ?_)
        refine j_vLy_i (k := k) (As := [.int a1]) (st := [.int x64, .ref (G.2.2 (6 + 2 * k))]) C (Nat.lt_succ_of_lt hk) k_X1_numberOf 72 (c_X1_numberOf C.2.2.2.2.2.2.1 (c := c) (k := k) (Nat.lt_succ_of_lt hk) _ (congrArg (fun z : VSt => z.2.1) hv) _ h72) rfl rfl ml_X2_126 ii_X1_numberOf is_X1_numberOf dX2_blockNumber_72 (by decide) rfl (Nat.le_of_ble_eq_true rfl) ?_ rfl
        refine j_bind (fun x75 h75 => ?_)
        refine j_vSt_i (k := k) (As := [.int x64, .int x72]) (st := []) C hk k_X2_rankOrNone 75 (c_X2_rankOrNone C.2.2.2.2.2.2.1 (c := c) (k := k) hk _ hv _ _ h75) rfl rfl ml_X2_199 ii_X2_rankOrNone is_X2_rankOrNone dX2_blockNumber_75 (by decide) rfl (Nat.le_of_ble_eq_true rfl) ?_ rfl
        exact j_iret C 78 hr rfl rfl dX2_blockNumber_78
      · refine j_case (off := 78) C 1 79 dX2_blockNumber_1 (by decide) (by decide) (by decide) (fun c1_3 => ?_) (fun c1_3 => ?_)
        · refine j_aload_n C 79 0 rfl dX2_blockNumber_79 ?_
          refine g_St1 (k := k) C hk 80 (Or.inl fl_X2_21) dX2_blockNumber_80 ?_
          refine j_bind (fun x83 h83 => ?_)
          refine j_vLy_i (k := k) (As := []) (st := []) C (Nat.lt_succ_of_lt hk) k_X1_isMirrored 83 (c_X1_isMirrored C.2.2.2.2.2.2.1 (c := c) (k := k) (Nat.lt_succ_of_lt hk) _ (congrArg (fun z : VSt => z.2.1) hv) h83) rfl rfl ml_X2_202 ii_X1_isMirrored is_X1_isMirrored dX2_blockNumber_83 (by decide) rfl (Nat.le_of_ble_eq_true rfl) ?_ rfl
          refine j_if_eq C 86 93 dX2_blockNumber_86 (by decide) (fun c86 => ?_) (fun c86 => ?_)
          · refine j_aload_n C 93 0 rfl dX2_blockNumber_93 ?_
            refine g_St1 (k := k) C hk 94 (Or.inl fl_X2_21) dX2_blockNumber_94 ?_
            refine j_iload_n C 97 1 rfl dX2_blockNumber_97 ?_
            refine j_bind (fun x98 h98 => ?_)
            refine j_vLy_i (k := k) (As := [.int a1]) (st := []) C (Nat.lt_succ_of_lt hk) k_X1_isWide 98 (c_X1_isWide C.2.2.2.2.2.2.1 (c := c) (k := k) (Nat.lt_succ_of_lt hk) _ (congrArg (fun z : VSt => z.2.1) hv) _ h98) rfl rfl ml_X2_206 ii_X1_isWide is_X1_isWide dX2_blockNumber_98 (by decide) rfl (Nat.le_of_ble_eq_true rfl) ?_ rfl
            refine j_if_eq C 101 108 dX2_blockNumber_101 (by decide) (fun c101 => ?_) (fun c101 => ?_)
            · refine j_iconst (v := 0) C 108 dX2_blockNumber_108 rfl ?_
              exact j_iret C 109 hr rfl rfl dX2_blockNumber_109
            · refine j_iconst (v := 1) C 104 dX2_blockNumber_104 rfl ?_
              refine j_goto C 105 109 dX2_blockNumber_105 (by decide) ?_
              exact j_iret C 109 hr rfl rfl dX2_blockNumber_109
          · refine j_iconst (v := 2) C 89 dX2_blockNumber_89 rfl ?_
            refine j_goto C 90 109 dX2_blockNumber_90 (by decide) ?_
            exact j_iret C 109 hr rfl rfl dX2_blockNumber_109
        · refine j_case (off := 109) C 1 110 dX2_blockNumber_1 (by decide) (by decide) (by decide) (fun c1_4 => ?_) (fun c1_4 => ?_)
          · refine j_aload_n C 110 0 rfl dX2_blockNumber_110 ?_
            refine g_St1 (k := k) C hk 111 (Or.inl fl_X2_21) dX2_blockNumber_111 ?_
            refine j_iload_n C 114 1 rfl dX2_blockNumber_114 ?_
            refine j_bind (fun x115 h115 => ?_)
            refine j_vLy_i (k := k) (As := [.int a1]) (st := []) C (Nat.lt_succ_of_lt hk) k_X1_slotAgainOf 115 (c_X1_slotAgainOf C.2.2.2.2.2.2.1 (c := c) (k := k) (Nat.lt_succ_of_lt hk) _ (congrArg (fun z : VSt => z.2.1) hv) _ h115) rfl rfl ml_X2_120 ii_X1_slotAgainOf is_X1_slotAgainOf dX2_blockNumber_115 (by decide) rfl (Nat.le_of_ble_eq_true rfl) ?_ rfl
            exact j_iret C 118 hr rfl rfl dX2_blockNumber_118
          · refine j_case (off := 118) C 1 119 dX2_blockNumber_1 (by decide) (by decide) (by decide) (fun c1_5 => ?_) (fun c1_5 => ?_)
            · refine j_aload_n C 119 0 rfl dX2_blockNumber_119 ?_
              refine g_St1 (k := k) C hk 120 (Or.inl fl_X2_21) dX2_blockNumber_120 ?_
              refine j_iload_n C 123 1 rfl dX2_blockNumber_123 ?_
              refine j_bind (fun x124 h124 => ?_)
              refine j_vLy_i (k := k) (As := [.int a1]) (st := []) C (Nat.lt_succ_of_lt hk) k_X1_numberAgainOf 124 (c_X1_numberAgainOf C.2.2.2.2.2.2.1 (c := c) (k := k) (Nat.lt_succ_of_lt hk) _ (congrArg (fun z : VSt => z.2.1) hv) _ h124) rfl rfl ml_X2_123 ii_X1_numberAgainOf is_X1_numberAgainOf dX2_blockNumber_124 (by decide) rfl (Nat.le_of_ble_eq_true rfl) ?_ rfl
              exact j_iret C 127 hr rfl rfl dX2_blockNumber_127
            · refine j_dflt C 1 128 dX2_blockNumber_1 (by decide) (fun z h1 h2 e => ?_) ?_
              · rcases (show z = 0 ∨ z = 1 ∨ z = 2 ∨ z = 3 ∨ z = 4 ∨ z = 5 by omega) with rfl | rfl | rfl | rfl | rfl | rfl
                · exact c1_0 (Int32.toInt_inj.mp e)
                · exact c1_1 (Int32.toInt_inj.mp e)
                · exact c1_2 (Int32.toInt_inj.mp e)
                · exact c1_3 (Int32.toInt_inj.mp e)
                · exact c1_4 (Int32.toInt_inj.mp e)
                · exact c1_5 (Int32.toInt_inj.mp e)
              · refine j_aload_n C 128 0 rfl dX2_blockNumber_128 ?_
                refine j_iload_n C 129 1 rfl dX2_blockNumber_129 ?_
                refine j_bind (fun x130 h130 => ?_)
                refine j_vSt_i (k := k) (As := [.int a1]) (st := []) C hk k_X2_canRead 130 (c_X2_canRead C.2.2.2.2.2.2.1 (c := c) (k := k) hk _ hv _ h130) rfl rfl ml_X2_162 ii_X2_canRead is_X2_canRead dX2_blockNumber_130 (by decide) rfl (Nat.le_of_ble_eq_true rfl) ?_ rfl
                refine j_if_eq C 133 140 dX2_blockNumber_133 (by decide) (fun c133 => ?_) (fun c133 => ?_)
                · refine j_iconst (v := 0) C 140 dX2_blockNumber_140 rfl ?_
                  exact j_iret C 141 hr rfl rfl dX2_blockNumber_141
                · refine j_iconst (v := 1) C 136 dX2_blockNumber_136 rfl ?_
                  refine j_goto C 137 141 dX2_blockNumber_137 (by decide) ?_
                  exact j_iret C 141 hr rfl rfl dX2_blockNumber_141
theorem c_X2_blockNumber {G : GG} {l : Launch} (hG : Gok G) {c : VC} {w : VW} {k : Nat} (hk : k < 8) (v : VSt) (hv : gSt c k = v) (a1 : Int32) (a2 : Int32) {x : Int32} (hf : f_X2_blockNumber v a1 a2 = some x) : Ct l yX2_blockNumber cX2_blockNumber 3 (some .int) 4 [.ref (G.2.2 (6 + 2 * k)), .int a1, .int a2] G (c, w) (some (.int x)) (c, w) := by
  refine ct_of (rv := fun x : Int32 => (some (.int x))) (fin := fun x : Int32 => ((c, w) : VA)) (own := RX2) hG (plainFor_of_name (by decide)) rfl (Nat.le_of_ble_eq_true rfl) (fun X C hr _ => ?_) hf
  exact w_X2_blockNumber hk C hr v hv a1 a2
set_option maxRecDepth 100000 in
set_option maxHeartbeats 4000000 in
theorem wl_X2_lostBlocks_4 {G : GG} {X : WX} {c : VC} {w : VW} {k : Nat} (hk : k < 8) (C : Cx G 3 X RX2 cX2_lostBlocks 4) (hr : (xM X).sig.returnType = (some .int)) (v : VSt) (hv : gSt c k = v) : ∀ (n : Nat) (s1 : Int32) (s2 : Int32), JS G 3 X (QM G X (fun x : Int32 => some (.int x)) (fun x : Int32 => ((c, w) : VA))) (l_X2_lostBlocks_4 v n s1 s2) (c, w) 4 [(0, .ref (G.2.2 (6 + 2 * k))), (1, .int s1), (2, .int s2)] [] := by
  intro n
  induction n with
  | zero => intro _ _; exact j_none
  | succ n ih =>
    intro s1 s2
    unfold l_X2_lostBlocks_4
    refine j_iload_n C 4 2 rfl dX2_lostBlocks_4 ?_
    refine j_aload_n C 5 0 rfl dX2_lostBlocks_5 ?_
    refine g_St1 (k := k) C hk 6 (Or.inl fl_X2_21) dX2_lostBlocks_6 ?_
    refine g_Ly5 (k := k) (c0 := c) C (Nat.lt_succ_of_lt hk) (congrArg (fun z : VSt => z.2.1) hv) 9 (Or.inr ⟨_, fl_X2_101⟩) dX2_lostBlocks_9 ?_
    refine j_icmp_ge C 12 37 dX2_lostBlocks_12 (by decide) (fun c12 => ?_) (fun c12 => ?_)
    · refine j_iload_n C 15 1 rfl dX2_lostBlocks_15 ?_
      refine j_aload_n C 16 0 rfl dX2_lostBlocks_16 ?_
      refine j_iload_n C 17 2 rfl dX2_lostBlocks_17 ?_
      refine j_bind (fun x18 h18 => ?_)
      refine j_vSt_i (k := k) (As := [.int s2]) (st := [.int s1]) C hk k_X2_canRead 18 (c_X2_canRead C.2.2.2.2.2.2.1 (c := c) (k := k) hk _ hv _ h18) rfl rfl ml_X2_162 ii_X2_canRead is_X2_canRead dX2_lostBlocks_18 (by decide) rfl (Nat.le_of_ble_eq_true rfl) ?_ rfl
      refine j_if_eq C 21 28 dX2_lostBlocks_21 (by decide) (fun c21 => ?_) (fun c21 => ?_)
      · refine j_iconst (v := 1) C 28 dX2_lostBlocks_28 rfl ?_
        refine j_iadd C 29 dX2_lostBlocks_29 ?_
        refine j_istore_n (L1 := [(1, .int (s1 + 1)), (0, .ref (G.2.2 (6 + 2 * k))), (2, .int s2)]) C 30 rfl dX2_lostBlocks_30 (by decide) rfl ?_
        refine j_iinc (v := (s2 + 1)) (L1 := [(2, .int (s2 + 1)), (1, .int (s1 + 1)), (0, .ref (G.2.2 (6 + 2 * k)))]) C 31 2 rfl dX2_lostBlocks_31 rfl (by decide) rfl ?_
        refine j_goto C 34 4 dX2_lostBlocks_34 (by decide) ?_
        refine j_L (L' := [(0, .ref (G.2.2 (6 + 2 * k))), (1, .int (s1 + 1)), (2, .int (s2 + 1))]) [2, 1, 0] rfl ?_
        exact ih (s1 + 1) (s2 + 1)
      · refine j_iconst (v := 0) C 24 dX2_lostBlocks_24 rfl ?_
        refine j_goto C 25 29 dX2_lostBlocks_25 (by decide) ?_
        refine j_iadd C 29 dX2_lostBlocks_29 ?_
        refine j_istore_n (L1 := [(1, .int (s1 + 0)), (0, .ref (G.2.2 (6 + 2 * k))), (2, .int s2)]) C 30 rfl dX2_lostBlocks_30 (by decide) rfl ?_
        refine j_iinc (v := (s2 + 1)) (L1 := [(2, .int (s2 + 1)), (1, .int (s1 + 0)), (0, .ref (G.2.2 (6 + 2 * k)))]) C 31 2 rfl dX2_lostBlocks_31 rfl (by decide) rfl ?_
        refine j_goto C 34 4 dX2_lostBlocks_34 (by decide) ?_
        refine j_L (L' := [(0, .ref (G.2.2 (6 + 2 * k))), (1, .int (s1 + 0)), (2, .int (s2 + 1))]) [2, 1, 0] rfl ?_
        exact ih (s1 + 0) (s2 + 1)
    · refine j_iload_n C 37 1 rfl dX2_lostBlocks_37 ?_
      exact j_iret C 38 hr rfl rfl dX2_lostBlocks_38
set_option maxRecDepth 100000 in
set_option maxHeartbeats 4000000 in
theorem w_X2_lostBlocks {G : GG} {X : WX} {c : VC} {w : VW} {k : Nat} (hk : k < 8) (C : Cx G 3 X RX2 cX2_lostBlocks 4) (hr : (xM X).sig.returnType = (some .int)) (v : VSt) (hv : gSt c k = v) : JS G 3 X (QM G X (fun x : Int32 => some (.int x)) (fun x : Int32 => ((c, w) : VA))) (f_X2_lostBlocks v) (c, w) 0 [(0, .ref (G.2.2 (6 + 2 * k)))] [] := by
  unfold f_X2_lostBlocks
  refine j_iconst (v := 0) C 0 dX2_lostBlocks_0 rfl ?_
  refine j_istore_n (L1 := [(1, .int 0), (0, .ref (G.2.2 (6 + 2 * k)))]) C 1 rfl dX2_lostBlocks_1 (by decide) rfl ?_
  refine j_iconst (v := 0) C 2 dX2_lostBlocks_2 rfl ?_
  refine j_istore_n (L1 := [(2, .int 0), (1, .int 0), (0, .ref (G.2.2 (6 + 2 * k)))]) C 3 rfl dX2_lostBlocks_3 (by decide) rfl ?_
  refine j_L (L' := [(0, .ref (G.2.2 (6 + 2 * k))), (1, .int 0), (2, .int 0)]) [2, 1, 0] rfl ?_
  exact wl_X2_lostBlocks_4 hk C hr v hv FU 0 0
theorem c_X2_lostBlocks {G : GG} {l : Launch} (hG : Gok G) {c : VC} {w : VW} {k : Nat} (hk : k < 8) (v : VSt) (hv : gSt c k = v) {x : Int32} (hf : f_X2_lostBlocks v = some x) : Ct l yX2_lostBlocks cX2_lostBlocks 3 (some .int) 4 [.ref (G.2.2 (6 + 2 * k))] G (c, w) (some (.int x)) (c, w) := by
  refine ct_of (rv := fun x : Int32 => (some (.int x))) (fin := fun x : Int32 => ((c, w) : VA)) (own := RX2) hG (plainFor_of_name (by decide)) rfl (Nat.le_of_ble_eq_true rfl) (fun X C hr _ => ?_) hf
  exact w_X2_lostBlocks hk C hr v hv
set_option maxRecDepth 100000 in
set_option maxHeartbeats 4000000 in
theorem wl_X2_sumOfValues_4 {G : GG} {X : WX} {c : VC} {w : VW} {k : Nat} (hk : k < 8) (C : Cx G 3 X RX2 cX2_sumOfValues 4) (hr : (xM X).sig.returnType = (some .int)) (v : VSt) (hv : gSt c k = v) : ∀ (n : Nat) (s1 : Int32) (s2 : Int32), JS G 3 X (QM G X (fun x : Int32 => some (.int x)) (fun x : Int32 => ((c, w) : VA))) (l_X2_sumOfValues_4 v n s1 s2) (c, w) 4 [(0, .ref (G.2.2 (6 + 2 * k))), (1, .int s1), (2, .int s2)] [] := by
  intro n
  induction n with
  | zero => intro _ _; exact j_none
  | succ n ih =>
    intro s1 s2
    unfold l_X2_sumOfValues_4
    refine j_iload_n C 4 2 rfl dX2_sumOfValues_4 ?_
    refine j_aload_n C 5 0 rfl dX2_sumOfValues_5 ?_
    refine g_St1 (k := k) C hk 6 (Or.inl fl_X2_21) dX2_sumOfValues_6 ?_
    refine g_Ly5 (k := k) (c0 := c) C (Nat.lt_succ_of_lt hk) (congrArg (fun z : VSt => z.2.1) hv) 9 (Or.inr ⟨_, fl_X2_101⟩) dX2_sumOfValues_9 ?_
    refine j_icmp_ge C 12 41 dX2_sumOfValues_12 (by decide) (fun c12 => ?_) (fun c12 => ?_)
    · refine j_iload_n C 15 1 rfl dX2_sumOfValues_15 ?_
      refine j_aload_n C 16 0 rfl dX2_sumOfValues_16 ?_
      refine j_iload_n C 17 2 rfl dX2_sumOfValues_17 ?_
      refine j_bind (fun x18 h18 => ?_)
      refine j_vSt_i (k := k) (As := [.int s2]) (st := [.int s1]) C hk k_X2_canRead 18 (c_X2_canRead C.2.2.2.2.2.2.1 (c := c) (k := k) hk _ hv _ h18) rfl rfl ml_X2_162 ii_X2_canRead is_X2_canRead dX2_sumOfValues_18 (by decide) rfl (Nat.le_of_ble_eq_true rfl) ?_ rfl
      refine j_if_eq C 21 32 dX2_sumOfValues_21 (by decide) (fun c21 => ?_) (fun c21 => ?_)
      · refine j_iconst (v := 0) C 32 dX2_sumOfValues_32 rfl ?_
        refine j_iadd C 33 dX2_sumOfValues_33 ?_
        refine j_istore_n (L1 := [(1, .int (s1 + 0)), (0, .ref (G.2.2 (6 + 2 * k))), (2, .int s2)]) C 34 rfl dX2_sumOfValues_34 (by decide) rfl ?_
        refine j_iinc (v := (s2 + 1)) (L1 := [(2, .int (s2 + 1)), (1, .int (s1 + 0)), (0, .ref (G.2.2 (6 + 2 * k)))]) C 35 2 rfl dX2_sumOfValues_35 rfl (by decide) rfl ?_
        refine j_goto C 38 4 dX2_sumOfValues_38 (by decide) ?_
        refine j_L (L' := [(0, .ref (G.2.2 (6 + 2 * k))), (1, .int (s1 + 0)), (2, .int (s2 + 1))]) [2, 1, 0] rfl ?_
        exact ih (s1 + 0) (s2 + 1)
      · refine j_aload_n C 24 0 rfl dX2_sumOfValues_24 ?_
        refine j_iload_n C 25 2 rfl dX2_sumOfValues_25 ?_
        refine j_bind (fun x26 h26 => ?_)
        refine j_vSt_i (k := k) (As := [.int s2]) (st := [.int s1]) C hk k_X2_heldBy 26 (c_X2_heldBy C.2.2.2.2.2.2.1 (c := c) (k := k) hk _ hv _ h26) rfl rfl ml_X2_114 ii_X2_heldBy is_X2_heldBy dX2_sumOfValues_26 (by decide) rfl (Nat.le_of_ble_eq_true rfl) ?_ rfl
        refine j_goto C 29 33 dX2_sumOfValues_29 (by decide) ?_
        refine j_iadd C 33 dX2_sumOfValues_33 ?_
        refine j_istore_n (L1 := [(1, .int (s1 + x26)), (0, .ref (G.2.2 (6 + 2 * k))), (2, .int s2)]) C 34 rfl dX2_sumOfValues_34 (by decide) rfl ?_
        refine j_iinc (v := (s2 + 1)) (L1 := [(2, .int (s2 + 1)), (1, .int (s1 + x26)), (0, .ref (G.2.2 (6 + 2 * k)))]) C 35 2 rfl dX2_sumOfValues_35 rfl (by decide) rfl ?_
        refine j_goto C 38 4 dX2_sumOfValues_38 (by decide) ?_
        refine j_L (L' := [(0, .ref (G.2.2 (6 + 2 * k))), (1, .int (s1 + x26)), (2, .int (s2 + 1))]) [2, 1, 0] rfl ?_
        exact ih (s1 + x26) (s2 + 1)
    · refine j_iload_n C 41 1 rfl dX2_sumOfValues_41 ?_
      exact j_iret C 42 hr rfl rfl dX2_sumOfValues_42
set_option maxRecDepth 100000 in
set_option maxHeartbeats 4000000 in
theorem w_X2_sumOfValues {G : GG} {X : WX} {c : VC} {w : VW} {k : Nat} (hk : k < 8) (C : Cx G 3 X RX2 cX2_sumOfValues 4) (hr : (xM X).sig.returnType = (some .int)) (v : VSt) (hv : gSt c k = v) : JS G 3 X (QM G X (fun x : Int32 => some (.int x)) (fun x : Int32 => ((c, w) : VA))) (f_X2_sumOfValues v) (c, w) 0 [(0, .ref (G.2.2 (6 + 2 * k)))] [] := by
  unfold f_X2_sumOfValues
  refine j_iconst (v := 0) C 0 dX2_sumOfValues_0 rfl ?_
  refine j_istore_n (L1 := [(1, .int 0), (0, .ref (G.2.2 (6 + 2 * k)))]) C 1 rfl dX2_sumOfValues_1 (by decide) rfl ?_
  refine j_iconst (v := 0) C 2 dX2_sumOfValues_2 rfl ?_
  refine j_istore_n (L1 := [(2, .int 0), (1, .int 0), (0, .ref (G.2.2 (6 + 2 * k)))]) C 3 rfl dX2_sumOfValues_3 (by decide) rfl ?_
  refine j_L (L' := [(0, .ref (G.2.2 (6 + 2 * k))), (1, .int 0), (2, .int 0)]) [2, 1, 0] rfl ?_
  exact wl_X2_sumOfValues_4 hk C hr v hv FU 0 0
theorem c_X2_sumOfValues {G : GG} {l : Launch} (hG : Gok G) {c : VC} {w : VW} {k : Nat} (hk : k < 8) (v : VSt) (hv : gSt c k = v) {x : Int32} (hf : f_X2_sumOfValues v = some x) : Ct l yX2_sumOfValues cX2_sumOfValues 3 (some .int) 4 [.ref (G.2.2 (6 + 2 * k))] G (c, w) (some (.int x)) (c, w) := by
  refine ct_of (rv := fun x : Int32 => (some (.int x))) (fin := fun x : Int32 => ((c, w) : VA)) (own := RX2) hG (plainFor_of_name (by decide)) rfl (Nat.le_of_ble_eq_true rfl) (fun X C hr _ => ?_) hf
  exact w_X2_sumOfValues hk C hr v hv
