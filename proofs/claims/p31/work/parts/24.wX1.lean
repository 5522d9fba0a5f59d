set_option maxRecDepth 100000 in
set_option maxHeartbeats 4000000 in
theorem w_X1_copyFrom {G : GG} {X : WX} {c : VC} {w : VW} {k : Nat} (hk : k < 9) (C : Cx G 2 X RX1 cX1_copyFrom 2) (hr : (xM X).sig.returnType = none) (v : VLy) (j1 : Nat) (hj1 : j1 < 9) (u1 : VLy) (hu1 : c.2.1 j1 = u1) (hne1 : j1 ≠ k) : JS G 2 X (QM G X (fun x : VLy => none) (fun x : VLy => ((sLy c k x, w) : VA))) (f_X1_copyFrom v u1) (sLy c k v, w) 0 [(0, .ref (G.2.2 (78 + 2 * k))), (1, .ref (G.2.2 (78 + 2 * j1)))] [] := by
  unfold f_X1_copyFrom
  refine j_aload_n C 0 0 rfl dX1_copyFrom_0 ?_
  refine j_aload_n C 1 1 rfl dX1_copyFrom_1 ?_
  refine g_Ly0 (k := j1) (c0 := (sLy c k v)) C hj1 ((sLy_ne c _ hne1).trans hu1) 2 (Or.inl fl_X1_9) dX1_copyFrom_2 ?_
  refine p_Ly0 (k := k) C hk 5 fl_X1_9 dX1_copyFrom_5 ?_
  refine j_V (V' := (sLy c k (u1.1, v.2), w)) rfl ?_
  refine j_aload_n C 8 1 rfl dX1_copyFrom_8 ?_
  refine g_Ly1 (k := j1) C hj1 9 (Or.inl fl_X1_15) dX1_copyFrom_9 ?_
  refine j_iconst (v := 0) C 12 dX1_copyFrom_12 rfl ?_
  refine j_aload_n C 13 0 rfl dX1_copyFrom_13 ?_
  refine g_Ly1 (k := k) C hk 14 (Or.inl fl_X1_15) dX1_copyFrom_14 ?_
  refine j_iconst (v := 0) C 17 dX1_copyFrom_17 rfl ?_
  refine j_iconst (v := 4) C 18 dX1_copyFrom_18 rfl ?_
  refine j_bind (fun x19 h19 => ?_)
  refine j_acp C 19 (79 + 2 * j1) (79 + 2 * k) (nG_lt C.2.2.2.2.2.2.1 (by omega)) (nG_lt C.2.2.2.2.2.2.1 (by omega)) rfl rfl (a_Ly1 (k := j1) hj1 ((sLy_ne c _ hne1).trans hu1)) (a_Ly1 (k := k) hk (sLy_get _ _ _)) h19 (b_Ly1 (k := k) hk _) ml_X1_19 dX1_copyFrom_19 (by decide) (Nat.le_of_ble_eq_true rfl) ?_
  refine j_V (V' := (sLy c k (u1.1, x19, v.2.2), w)) rfl ?_
  refine j_aload_n C 22 0 rfl dX1_copyFrom_22 ?_
  refine j_aload_n C 23 1 rfl dX1_copyFrom_23 ?_
  refine g_Ly2 (k := j1) (c0 := (sLy c k (u1.1, x19, v.2.2))) C hj1 ((sLy_ne c _ hne1).trans hu1) 24 (Or.inl fl_X1_25) dX1_copyFrom_24 ?_
  refine p_Ly2 (k := k) C hk 27 fl_X1_25 dX1_copyFrom_27 ?_
  refine j_V (V' := (sLy c k (u1.1, x19, u1.2.2.1, v.2.2.2), w)) rfl ?_
  refine j_aload_n C 30 0 rfl dX1_copyFrom_30 ?_
  refine j_aload_n C 31 1 rfl dX1_copyFrom_31 ?_
  refine g_Ly3 (k := j1) (c0 := (sLy c k (u1.1, x19, u1.2.2.1, v.2.2.2))) C hj1 ((sLy_ne c _ hne1).trans hu1) 32 (Or.inl fl_X1_28) dX1_copyFrom_32 ?_
  refine p_Ly3 (k := k) C hk 35 fl_X1_28 dX1_copyFrom_35 ?_
  refine j_V (V' := (sLy c k (u1.1, x19, u1.2.2.1, u1.2.2.2.1, v.2.2.2.2), w)) rfl ?_
  refine j_aload_n C 38 0 rfl dX1_copyFrom_38 ?_
  refine j_aload_n C 39 1 rfl dX1_copyFrom_39 ?_
  refine g_Ly4 (k := j1) (c0 := (sLy c k (u1.1, x19, u1.2.2.1, u1.2.2.2.1, v.2.2.2.2))) C hj1 ((sLy_ne c _ hne1).trans hu1) 40 (Or.inl fl_X1_31) dX1_copyFrom_40 ?_
  refine p_Ly4 (k := k) C hk 43 fl_X1_31 dX1_copyFrom_43 ?_
  refine j_V (V' := (sLy c k (u1.1, x19, u1.2.2.1, u1.2.2.2.1, u1.2.2.2.2.1, v.2.2.2.2.2), w)) rfl ?_
  refine j_aload_n C 46 0 rfl dX1_copyFrom_46 ?_
  refine j_aload_n C 47 1 rfl dX1_copyFrom_47 ?_
  refine g_Ly5 (k := j1) (c0 := (sLy c k (u1.1, x19, u1.2.2.1, u1.2.2.2.1, u1.2.2.2.2.1, v.2.2.2.2.2))) C hj1 ((sLy_ne c _ hne1).trans hu1) 48 (Or.inl fl_X1_34) dX1_copyFrom_48 ?_
  refine p_Ly5 (k := k) C hk 51 fl_X1_34 dX1_copyFrom_51 ?_
  refine j_V (V' := (sLy c k (u1.1, x19, u1.2.2.1, u1.2.2.2.1, u1.2.2.2.2.1, u1.2.2.2.2.2.1, v.2.2.2.2.2.2), w)) rfl ?_
  refine j_aload_n C 54 0 rfl dX1_copyFrom_54 ?_
  refine j_aload_n C 55 1 rfl dX1_copyFrom_55 ?_
  refine g_Ly6 (k := j1) (c0 := (sLy c k (u1.1, x19, u1.2.2.1, u1.2.2.2.1, u1.2.2.2.2.1, u1.2.2.2.2.2.1, v.2.2.2.2.2.2))) C hj1 ((sLy_ne c _ hne1).trans hu1) 56 (Or.inl fl_X1_37) dX1_copyFrom_56 ?_
  refine p_Ly6 (k := k) C hk 59 fl_X1_37 dX1_copyFrom_59 ?_
  refine j_V (V' := (sLy c k (u1.1, x19, u1.2.2.1, u1.2.2.2.1, u1.2.2.2.2.1, u1.2.2.2.2.2.1, u1.2.2.2.2.2.2), w)) rfl ?_
  exact j_vret C 62 hr rfl rfl dX1_copyFrom_62
theorem c_X1_copyFrom {G : GG} {l : Launch} (hG : Gok G) {c : VC} {w : VW} {k : Nat} (hk : k < 9) (v : VLy) (hv : c.2.1 k = v) (j1 : Nat) (hj1 : j1 < 9) (u1 : VLy) (hu1 : c.2.1 j1 = u1) (hne1 : j1 ≠ k) {x : VLy} (hf : f_X1_copyFrom v u1 = some x) : Ct l yX1_copyFrom cX1_copyFrom 2 none 2 [.ref (G.2.2 (78 + 2 * k)), .ref (G.2.2 (78 + 2 * j1))] G (c, w) none (sLy c k x, w) := by
  refine ct_of (rv := fun x : VLy => none) (fin := fun x : VLy => ((sLy c k x, w) : VA)) (own := RX1) hG (plainFor_of_name (by decide)) rfl (Nat.le_of_ble_eq_true rfl) (fun X C hr _ => ?_) hf
  refine j_V (congrArg (fun z => (z, w)) (sLy_id hv).symm) ?_; exact w_X1_copyFrom hk C hr v j1 hj1 u1 hu1 hne1
set_option maxRecDepth 100000 in
set_option maxHeartbeats 4000000 in
theorem w_X1_isMirrored {G : GG} {X : WX} {c : VC} {w : VW} {k : Nat} (hk : k < 9) (C : Cx G 1 X RX1 cX1_isMirrored 0) (hr : (xM X).sig.returnType = (some .boolean)) (v : VLy) (hv : c.2.1 k = v) : JS G 1 X (QM G X (fun x : Int32 => some (.int x)) (fun x : Int32 => ((c, w) : VA))) (f_X1_isMirrored v) (c, w) 0 [(0, .ref (G.2.2 (78 + 2 * k)))] [] := by
  unfold f_X1_isMirrored
  refine j_aload_n C 0 0 rfl dX1_isMirrored_0 ?_
  refine g_Ly0 (k := k) (c0 := c) C hk hv 1 (Or.inl fl_X1_9) dX1_isMirrored_1 ?_
  refine j_iconst (v := 2) C 4 dX1_isMirrored_4 rfl ?_
  refine j_icmp_ne C 5 12 dX1_isMirrored_5 (by decide) (fun c5 => ?_) (fun c5 => ?_)
  · refine j_iconst (v := 1) C 8 dX1_isMirrored_8 rfl ?_
    refine j_goto C 9 13 dX1_isMirrored_9 (by decide) ?_
    exact j_zret C 13 hr rfl rfl rfl dX1_isMirrored_13
  · refine j_iconst (v := 0) C 12 dX1_isMirrored_12 rfl ?_
    exact j_zret C 13 hr rfl rfl rfl dX1_isMirrored_13
theorem c_X1_isMirrored {G : GG} {l : Launch} (hG : Gok G) {c : VC} {w : VW} {k : Nat} (hk : k < 9) (v : VLy) (hv : c.2.1 k = v) {x : Int32} (hf : f_X1_isMirrored v = some x) : Ct l yX1_isMirrored cX1_isMirrored 1 (some .boolean) 0 [.ref (G.2.2 (78 + 2 * k))] G (c, w) (some (.int x)) (c, w) := by
  refine ct_of (rv := fun x : Int32 => (some (.int x))) (fin := fun x : Int32 => ((c, w) : VA)) (own := RX1) hG (plainFor_of_name (by decide)) rfl (Nat.le_of_ble_eq_true rfl) (fun X C hr _ => ?_) hf
  exact w_X1_isMirrored hk C hr v hv
set_option maxRecDepth 100000 in
set_option maxHeartbeats 4000000 in
theorem wb_X1_blockAt_51 {G : GG} {X : WX} {c : VC} {w : VW} {k : Nat} (hk : k < 9) (C : Cx G 5 X RX1 cX1_blockAt 1) (hr : (xM X).sig.returnType = (some .int)) (v : VLy) (hv : c.2.1 k = v) (s3 : Int32) (t0 : Int32) : JS G 5 X (QM G X (fun x : Int32 => some (.int x)) (fun x : Int32 => ((c, w) : VA))) (b_X1_blockAt_51 v s3 t0) (c, w) 51 [(0, .ref (G.2.2 (78 + 2 * k))), (3, .int s3)] [.int t0] := by
  unfold b_X1_blockAt_51
  refine j_istore (L1 := [(4, .int t0), (0, .ref (G.2.2 (78 + 2 * k))), (3, .int s3)]) C 51 dX1_blockAt_51 (by decide) rfl ?_
  refine j_aload_n C 53 1 rfl dX1_blockAt_53 ?_
  refine j_bind (fun x54 h54 => ?_)
  refine j_vLy_i (k := k) (As := []) (st := []) C hk k_X1_isMirrored 54 (c_X1_isMirrored C.2.2.2.2.2.2.1 (c := c) (k := k) hk _ hv h54) rfl rfl ml_X1_74 ii_X1_isMirrored is_X1_isMirrored dX1_blockAt_54 (by decide) rfl (Nat.le_of_ble_eq_true rfl) ?_ rfl
  refine j_if_eq C 57 76 dX1_blockAt_57 (by decide) (fun c57 => ?_) (fun c57 => ?_)
  · refine j_aload_n C 76 1 rfl dX1_blockAt_76 ?_
    refine g_Ly0 (k := k) (c0 := c) C hk hv 77 (Or.inl fl_X1_9) dX1_blockAt_77 ?_
    refine j_if_ne C 80 109 dX1_blockAt_80 (by decide) (fun c80 => ?_) (fun c80 => ?_)
    · refine j_iload C 83 0 rfl dX1_blockAt_83 ?_
      refine j_aload_n C 85 1 rfl dX1_blockAt_85 ?_
      refine g_Ly4 (k := k) (c0 := c) C hk hv 86 (Or.inl fl_X1_31) dX1_blockAt_86 ?_
      refine j_icmp_ge C 89 101 dX1_blockAt_89 (by decide) (fun c89 => ?_) (fun c89 => ?_)
      · refine j_iconst (v := 2) C 92 dX1_blockAt_92 rfl ?_
        refine j_iload C 93 0 rfl dX1_blockAt_93 ?_
        refine j_imul C 95 dX1_blockAt_95 ?_
        refine j_iload_n C 96 2 rfl dX1_blockAt_96 ?_
        refine j_iadd C 97 dX1_blockAt_97 ?_
        refine j_goto C 98 108 dX1_blockAt_98 (by decide) ?_
        exact j_iret C 108 hr rfl rfl dX1_blockAt_108
      · refine j_iload C 101 0 rfl dX1_blockAt_101 ?_
        refine j_aload_n C 103 1 rfl dX1_blockAt_103 ?_
        refine g_Ly4 (k := k) (c0 := c) C hk hv 104 (Or.inl fl_X1_31) dX1_blockAt_104 ?_
        refine j_iadd C 107 dX1_blockAt_107 ?_
        exact j_iret C 108 hr rfl rfl dX1_blockAt_108
    · refine j_iload_n C 109 2 rfl dX1_blockAt_109 ?_
      refine j_if_ne C 110 118 dX1_blockAt_110 (by decide) (fun c110 => ?_) (fun c110 => ?_)
      · refine j_iload C 113 0 rfl dX1_blockAt_113 ?_
        refine j_goto C 115 125 dX1_blockAt_115 (by decide) ?_
        exact j_iret C 125 hr rfl rfl dX1_blockAt_125
      · refine j_aload_n C 118 1 rfl dX1_blockAt_118 ?_
        refine g_Ly2 (k := k) (c0 := c) C hk hv 119 (Or.inl fl_X1_25) dX1_blockAt_119 ?_
        refine j_iload C 122 0 rfl dX1_blockAt_122 ?_
        refine j_iadd C 124 dX1_blockAt_124 ?_
        exact j_iret C 125 hr rfl rfl dX1_blockAt_125
  · refine j_iload C 60 0 rfl dX1_blockAt_60 ?_
    refine j_aload_n C 62 1 rfl dX1_blockAt_62 ?_
    refine g_Ly5 (k := k) (c0 := c) C hk hv 63 (Or.inl fl_X1_34) dX1_blockAt_63 ?_
    refine j_icmp_ge C 66 74 dX1_blockAt_66 (by decide) (fun c66 => ?_) (fun c66 => ?_)
    · refine j_iload C 69 0 rfl dX1_blockAt_69 ?_
      refine j_goto C 71 75 dX1_blockAt_71 (by decide) ?_
      exact j_iret C 75 hr rfl rfl dX1_blockAt_75
    · refine j_iconst (v := (-1)) C 74 dX1_blockAt_74 rfl ?_
      exact j_iret C 75 hr rfl rfl dX1_blockAt_75
set_option maxRecDepth 100000 in
set_option maxHeartbeats 4000000 in
theorem wb_X1_blockAt_28 {G : GG} {X : WX} {c : VC} {w : VW} {k : Nat} (hk : k < 9) (C : Cx G 5 X RX1 cX1_blockAt 1) (hr : (xM X).sig.returnType = (some .int)) (v : VLy) (hv : c.2.1 k = v) (s1 : Int32) (s2 : Int32) (t0 : Int32) : JS G 5 X (QM G X (fun x : Int32 => some (.int x)) (fun x : Int32 => ((c, w) : VA))) (b_X1_blockAt_28 v s1 s2 t0) (c, w) 28 [(0, .ref (G.2.2 (78 + 2 * k))), (1, .int s1), (2, .int s2)] [.int t0] := by
  unfold b_X1_blockAt_28
  refine j_istore_n (L1 := [(3, .int t0), (0, .ref (G.2.2 (78 + 2 * k))), (1, .int s1), (2, .int s2)]) C 28 rfl dX1_blockAt_28 (by decide) rfl ?_
  refine j_iload_n C 29 2 rfl dX1_blockAt_29 ?_
  refine j_iconst (v := 1) C 30 dX1_blockAt_30 rfl ?_
  refine j_iand C 31 dX1_blockAt_31 ?_
  refine j_if_ne C 32 39 dX1_blockAt_32 (by decide) (fun c32 => ?_) (fun c32 => ?_)
  · refine j_iload_n C 35 3 rfl dX1_blockAt_35 ?_
    refine j_goto C 36 51 dX1_blockAt_36 (by decide) ?_
    refine j_L (L' := [(0, .ref (G.2.2 (78 + 2 * k))), (3, .int t0)]) [1, 0] rfl ?_
    exact wb_X1_blockAt_51 hk C hr v hv t0 s2
  · refine j_iload_n C 39 3 rfl dX1_blockAt_39 ?_
    refine j_aload_n C 40 1 rfl dX1_blockAt_40 ?_
    refine g_Ly1 (k := k) C hk 41 (Or.inl fl_X1_15) dX1_blockAt_41 ?_
    refine j_iload_n C 44 2 rfl dX1_blockAt_44 ?_
    refine j_iconst (v := 1) C 45 dX1_blockAt_45 rfl ?_
    refine j_isub C 46 dX1_blockAt_46 ?_
    refine j_bind (fun x47 h47 => ?_)
    refine j_callSN_i (As := [.ref (G.2.2 (79 + 2 * k)), .int (s1 - 1)]) (st := [.int s2]) C k_X5_entry 47 (c_X5_entry C.2.2.2.2.2.2.1 (c := c) _ _ (79 + 2 * k) (nG_lt C.2.2.2.2.2.2.1 (by omega)) (a_Ly1 (k := k) hk hv) _ h47) rfl ml_X1_78 st_X5_entry dX1_blockAt_47 (by decide) rfl (Nat.le_of_ble_eq_true rfl) ?_ rfl
    refine j_iadd C 50 dX1_blockAt_50 ?_
    refine j_L (L' := [(0, .ref (G.2.2 (78 + 2 * k))), (3, .int t0)]) [1, 0] rfl ?_
    exact wb_X1_blockAt_51 hk C hr v hv t0 (s2 + x47)
set_option maxRecDepth 100000 in
set_option maxHeartbeats 4000000 in
theorem w_X1_blockAt {G : GG} {X : WX} {c : VC} {w : VW} {k : Nat} (hk : k < 9) (C : Cx G 5 X RX1 cX1_blockAt 1) (hr : (xM X).sig.returnType = (some .int)) (v : VLy) (hv : c.2.1 k = v) (a1 : Int32) (a2 : Int32) : JS G 5 X (QM G X (fun x : Int32 => some (.int x)) (fun x : Int32 => ((c, w) : VA))) (f_X1_blockAt v a1 a2) (c, w) 0 [(0, .ref (G.2.2 (78 + 2 * k))), (1, .int a1), (2, .int a2)] [] := by
  unfold f_X1_blockAt
  refine j_iload_n C 0 2 rfl dX1_blockAt_0 ?_
  refine j_if_lt C 1 16 dX1_blockAt_1 (by decide) (fun c1 => ?_) (fun c1 => ?_)
  · refine j_iconst (v := (-1)) C 16 dX1_blockAt_16 rfl ?_
    exact j_iret C 17 hr rfl rfl dX1_blockAt_17
  · refine j_iload_n C 4 2 rfl dX1_blockAt_4 ?_
    refine j_aload_n C 5 0 rfl dX1_blockAt_5 ?_
    refine g_Ly1 (k := k) C hk 6 (Or.inl fl_X1_15) dX1_blockAt_6 ?_
    refine j_iload_n C 9 1 rfl dX1_blockAt_9 ?_
    refine j_bind (fun x10 h10 => ?_)
    refine j_callSN_i (As := [.ref (G.2.2 (79 + 2 * k)), .int a1]) (st := [.int a2]) C k_X5_entry 10 (c_X5_entry C.2.2.2.2.2.2.1 (c := c) _ _ (79 + 2 * k) (nG_lt C.2.2.2.2.2.2.1 (by omega)) (a_Ly1 (k := k) hk hv) _ h10) rfl ml_X1_78 st_X5_entry dX1_blockAt_10 (by decide) rfl (Nat.le_of_ble_eq_true rfl) ?_ rfl
    refine j_icmp_lt C 13 18 dX1_blockAt_13 (by decide) (fun c13 => ?_) (fun c13 => ?_)
    · refine j_iload_n C 18 1 rfl dX1_blockAt_18 ?_
      refine j_iconst (v := 2) C 19 dX1_blockAt_19 rfl ?_
      refine j_icmp_ge C 20 27 dX1_blockAt_20 (by decide) (fun c20 => ?_) (fun c20 => ?_)
      · refine j_iconst (v := 0) C 23 dX1_blockAt_23 rfl ?_
        refine j_goto C 24 28 dX1_blockAt_24 (by decide) ?_
        exact wb_X1_blockAt_28 hk C hr v hv a1 a2 0
      · refine j_iconst (v := 1) C 27 dX1_blockAt_27 rfl ?_
        exact wb_X1_blockAt_28 hk C hr v hv a1 a2 1
    · refine j_iconst (v := (-1)) C 16 dX1_blockAt_16 rfl ?_
      exact j_iret C 17 hr rfl rfl dX1_blockAt_17
theorem c_X1_blockAt {G : GG} {l : Launch} (hG : Gok G) {c : VC} {w : VW} {k : Nat} (hk : k < 9) (v : VLy) (hv : c.2.1 k = v) (a1 : Int32) (a2 : Int32) {x : Int32} (hf : f_X1_blockAt v a1 a2 = some x) : Ct l yX1_blockAt cX1_blockAt 5 (some .int) 1 [.ref (G.2.2 (78 + 2 * k)), .int a1, .int a2] G (c, w) (some (.int x)) (c, w) := by
  refine ct_of (rv := fun x : Int32 => (some (.int x))) (fin := fun x : Int32 => ((c, w) : VA)) (own := RX1) hG (plainFor_of_name (by decide)) rfl (Nat.le_of_ble_eq_true rfl) (fun X C hr _ => ?_) hf
  exact w_X1_blockAt hk C hr v hv a1 a2
set_option maxRecDepth 100000 in
set_option maxHeartbeats 4000000 in
theorem wl_X1_usedIn_4 {G : GG} {X : WX} {c : VC} {w : VW} {k : Nat} (hk : k < 9) (C : Cx G 4 X RX1 cX1_usedIn 2) (hr : (xM X).sig.returnType = (some .int)) (v : VLy) (hv : c.2.1 k = v) : ∀ (n : Nat) (s1 : Int32) (s2 : Int32) (s3 : Int32), JS G 4 X (QM G X (fun x : Int32 => some (.int x)) (fun x : Int32 => ((c, w) : VA))) (l_X1_usedIn_4 v n s1 s2 s3) (c, w) 4 [(0, .ref (G.2.2 (78 + 2 * k))), (1, .int s1), (2, .int s2), (3, .int s3)] [] := by
  intro n
  induction n with
  | zero => intro _ _ _; exact j_none
  | succ n ih =>
    intro s1 s2 s3
    unfold l_X1_usedIn_4
    refine j_iload_n C 4 3 rfl dX1_usedIn_4 ?_
    refine j_bipush (v := 12) C 5 dX1_usedIn_5 rfl ?_
    refine j_icmp_ge C 7 34 dX1_usedIn_7 (by decide) (fun c7 => ?_) (fun c7 => ?_)
    · refine j_iload_n C 10 2 rfl dX1_usedIn_10 ?_
      refine j_aload_n C 11 0 rfl dX1_usedIn_11 ?_
      refine j_iload_n C 12 1 rfl dX1_usedIn_12 ?_
      refine j_iload_n C 13 3 rfl dX1_usedIn_13 ?_
      refine j_bind (fun x14 h14 => ?_)
      refine j_vLy_i (k := k) (As := [.int s1, .int s3]) (st := [.int s2]) C hk k_X1_blockAt 14 (c_X1_blockAt C.2.2.2.2.2.2.1 (c := c) (k := k) hk _ hv _ _ h14) rfl rfl ml_X1_82 ii_X1_blockAt is_X1_blockAt dX1_usedIn_14 (by decide) rfl (Nat.le_of_ble_eq_true rfl) ?_ rfl
      refine j_iconst (v := (-1)) C 17 dX1_usedIn_17 rfl ?_
      refine j_icmp_ne C 18 25 dX1_usedIn_18 (by decide) (fun c18 => ?_) (fun c18 => ?_)
      · refine j_iconst (v := 0) C 21 dX1_usedIn_21 rfl ?_
        refine j_goto C 22 26 dX1_usedIn_22 (by decide) ?_
        refine j_iadd C 26 dX1_usedIn_26 ?_
        refine j_istore_n (L1 := [(2, .int (s2 + 0)), (0, .ref (G.2.2 (78 + 2 * k))), (1, .int s1), (3, .int s3)]) C 27 rfl dX1_usedIn_27 (by decide) rfl ?_
        refine j_iinc (v := (s3 + 1)) (L1 := [(3, .int (s3 + 1)), (2, .int (s2 + 0)), (0, .ref (G.2.2 (78 + 2 * k))), (1, .int s1)]) C 28 3 rfl dX1_usedIn_28 rfl (by decide) rfl ?_
        refine j_goto C 31 4 dX1_usedIn_31 (by decide) ?_
        refine j_L (L' := [(0, .ref (G.2.2 (78 + 2 * k))), (1, .int s1), (2, .int (s2 + 0)), (3, .int (s3 + 1))]) [2, 3, 1, 0] rfl ?_
        exact ih s1 (s2 + 0) (s3 + 1)
      · refine j_iconst (v := 1) C 25 dX1_usedIn_25 rfl ?_
        refine j_iadd C 26 dX1_usedIn_26 ?_
        refine j_istore_n (L1 := [(2, .int (s2 + 1)), (0, .ref (G.2.2 (78 + 2 * k))), (1, .int s1), (3, .int s3)]) C 27 rfl dX1_usedIn_27 (by decide) rfl ?_
        refine j_iinc (v := (s3 + 1)) (L1 := [(3, .int (s3 + 1)), (2, .int (s2 + 1)), (0, .ref (G.2.2 (78 + 2 * k))), (1, .int s1)]) C 28 3 rfl dX1_usedIn_28 rfl (by decide) rfl ?_
        refine j_goto C 31 4 dX1_usedIn_31 (by decide) ?_
        refine j_L (L' := [(0, .ref (G.2.2 (78 + 2 * k))), (1, .int s1), (2, .int (s2 + 1)), (3, .int (s3 + 1))]) [2, 3, 1, 0] rfl ?_
        exact ih s1 (s2 + 1) (s3 + 1)
    · refine j_iload_n C 34 2 rfl dX1_usedIn_34 ?_
      exact j_iret C 35 hr rfl rfl dX1_usedIn_35
set_option maxRecDepth 100000 in
set_option maxHeartbeats 4000000 in
theorem w_X1_usedIn {G : GG} {X : WX} {c : VC} {w : VW} {k : Nat} (hk : k < 9) (C : Cx G 4 X RX1 cX1_usedIn 2) (hr : (xM X).sig.returnType = (some .int)) (v : VLy) (hv : c.2.1 k = v) (a1 : Int32) : JS G 4 X (QM G X (fun x : Int32 => some (.int x)) (fun x : Int32 => ((c, w) : VA))) (f_X1_usedIn v a1) (c, w) 0 [(0, .ref (G.2.2 (78 + 2 * k))), (1, .int a1)] [] := by
  unfold f_X1_usedIn
  refine j_iconst (v := 0) C 0 dX1_usedIn_0 rfl ?_
  refine j_istore_n (L1 := [(2, .int 0), (0, .ref (G.2.2 (78 + 2 * k))), (1, .int a1)]) C 1 rfl dX1_usedIn_1 (by decide) rfl ?_
  refine j_iconst (v := 0) C 2 dX1_usedIn_2 rfl ?_
  refine j_istore_n (L1 := [(3, .int 0), (2, .int 0), (0, .ref (G.2.2 (78 + 2 * k))), (1, .int a1)]) C 3 rfl dX1_usedIn_3 (by decide) rfl ?_
  refine j_L (L' := [(0, .ref (G.2.2 (78 + 2 * k))), (1, .int a1), (2, .int 0), (3, .int 0)]) [2, 3, 1, 0] rfl ?_
  exact wl_X1_usedIn_4 hk C hr v hv FU a1 0 0
theorem c_X1_usedIn {G : GG} {l : Launch} (hG : Gok G) {c : VC} {w : VW} {k : Nat} (hk : k < 9) (v : VLy) (hv : c.2.1 k = v) (a1 : Int32) {x : Int32} (hf : f_X1_usedIn v a1 = some x) : Ct l yX1_usedIn cX1_usedIn 4 (some .int) 2 [.ref (G.2.2 (78 + 2 * k)), .int a1] G (c, w) (some (.int x)) (c, w) := by
  refine ct_of (rv := fun x : Int32 => (some (.int x))) (fin := fun x : Int32 => ((c, w) : VA)) (own := RX1) hG (plainFor_of_name (by decide)) rfl (Nat.le_of_ble_eq_true rfl) (fun X C hr _ => ?_) hf
  exact w_X1_usedIn hk C hr v hv a1
set_option maxRecDepth 100000 in
set_option maxHeartbeats 4000000 in
theorem wb_X1_lay_103 {G : GG} {X : WX} {c : VC} {w : VW} {k : Nat} (hk : k < 9) (C : Cx G 4 X RX1 cX1_lay 3) (hr : (xM X).sig.returnType = none) (j2 : Nat) (hj2 : j2 < 8) (u2 : VSk) (hu2 : c.1 j2 = u2) (v : VLy) (t0 : Int32) : JS G 4 X (QM G X (fun x : VLy => none) (fun x : VLy => ((sLy c k x, w) : VA))) (b_X1_lay_103 u2 v t0) (sLy c k v, w) 103 [(0, .ref (G.2.2 (78 + 2 * k)))] [.int t0, .ref (G.2.2 (78 + 2 * k))] := by
  unfold b_X1_lay_103
  refine p_Ly5 (k := k) C hk 103 fl_X1_34 dX1_lay_103 ?_
  refine j_V (V' := (sLy c k (v.1, v.2.1, v.2.2.1, v.2.2.2.1, v.2.2.2.2.1, t0, v.2.2.2.2.2.2), w)) rfl ?_
  refine j_aload_n C 106 0 rfl dX1_lay_106 ?_
  refine j_aload_n C 107 0 rfl dX1_lay_107 ?_
  refine g_Ly0 (k := k) (c0 := (sLy c k (v.1, v.2.1, v.2.2.1, v.2.2.2.1, v.2.2.2.2.1, t0, v.2.2.2.2.2.2))) C hk (sLy_get _ _ _) 108 (Or.inl fl_X1_9) dX1_lay_108 ?_
  refine j_if_ne C 111 123 dX1_lay_111 (by decide) (fun c111 => ?_) (fun c111 => ?_)
  · refine j_iconst (v := 2) C 114 dX1_lay_114 rfl ?_
    refine j_aload_n C 115 0 rfl dX1_lay_115 ?_
    refine g_Ly4 (k := k) (c0 := (sLy c k (v.1, v.2.1, v.2.2.1, v.2.2.2.1, v.2.2.2.2.1, t0, v.2.2.2.2.2.2))) C hk (sLy_get _ _ _) 116 (Or.inl fl_X1_31) dX1_lay_116 ?_
    refine j_imul C 119 dX1_lay_119 ?_
    refine j_goto C 120 124 dX1_lay_120 (by decide) ?_
    refine p_Ly6 (k := k) C hk 124 fl_X1_37 dX1_lay_124 ?_
    refine j_V (V' := (sLy c k (v.1, v.2.1, v.2.2.1, v.2.2.2.1, v.2.2.2.2.1, t0, (2 * v.2.2.2.2.1)), w)) rfl ?_
    exact j_vret C 127 hr rfl rfl dX1_lay_127
  · refine j_iconst (v := 0) C 123 dX1_lay_123 rfl ?_
    refine p_Ly6 (k := k) C hk 124 fl_X1_37 dX1_lay_124 ?_
    refine j_V (V' := (sLy c k (v.1, v.2.1, v.2.2.1, v.2.2.2.1, v.2.2.2.2.1, t0, 0), w)) rfl ?_
    exact j_vret C 127 hr rfl rfl dX1_lay_127
set_option maxRecDepth 100000 in
set_option maxHeartbeats 4000000 in
theorem wl_X1_lay_7 {G : GG} {X : WX} {c : VC} {w : VW} {k : Nat} (hk : k < 9) (C : Cx G 4 X RX1 cX1_lay 3) (hr : (xM X).sig.returnType = none) (j2 : Nat) (hj2 : j2 < 8) (u2 : VSk) (hu2 : c.1 j2 = u2) : ∀ (n : Nat) (v : VLy) (s3 : Int32), JS G 4 X (QM G X (fun x : VLy => none) (fun x : VLy => ((sLy c k x, w) : VA))) (l_X1_lay_7 u2 n v s3) (sLy c k v, w) 7 [(0, .ref (G.2.2 (78 + 2 * k))), (2, .ref (G.2.2 (22 + 7 * j2))), (3, .int s3)] [] := by
  intro n
  induction n with
  | zero => intro _ _; exact j_none
  | succ n ih =>
    intro v s3
    unfold l_X1_lay_7
    refine j_iload_n C 7 2 rfl dX1_lay_7 ?_
    refine j_iconst (v := 4) C 8 dX1_lay_8 rfl ?_
    refine j_icmp_ge C 9 29 dX1_lay_9 (by decide) (fun c9 => ?_) (fun c9 => ?_)
    · refine j_aload_n C 12 0 rfl dX1_lay_12 ?_
      refine g_Ly1 (k := k) C hk 13 (Or.inl fl_X1_15) dX1_lay_13 ?_
      refine j_iload_n C 16 2 rfl dX1_lay_16 ?_
      refine j_aload_n C 17 1 rfl dX1_lay_17 ?_
      refine j_iload_n C 18 2 rfl dX1_lay_18 ?_
      refine j_bind (fun x19 h19 => ?_)
      refine j_vSk_i (k := j2) (As := [.int s3]) (st := [.int s3, .ref (G.2.2 (79 + 2 * k))]) C hj2 k_X3_goodSizeIn 19 (c_X3_goodSizeIn C.2.2.2.2.2.2.1 (c := (sLy c k v)) (k := j2) hj2 _ hu2 _ h19) rfl rfl ml_X1_40 ii_X3_goodSizeIn is_X3_goodSizeIn dX1_lay_19 (by decide) rfl (Nat.le_of_ble_eq_true rfl) ?_ rfl
      refine j_bind (fun x22 h22 => ?_)
      refine t_Ly1 (k := k) C hk 22 h22 dX1_lay_22 ?_
      refine j_V (V' := (sLy c k (v.1, x22, v.2.2), w)) rfl ?_
      refine j_iinc (v := (s3 + 1)) (L1 := [(3, .int (s3 + 1)), (0, .ref (G.2.2 (78 + 2 * k))), (2, .ref (G.2.2 (22 + 7 * j2)))]) C 23 2 rfl dX1_lay_23 rfl (by decide) rfl ?_
      refine j_goto C 26 7 dX1_lay_26 (by decide) ?_
      refine j_L (L' := [(0, .ref (G.2.2 (78 + 2 * k))), (2, .ref (G.2.2 (22 + 7 * j2))), (3, .int (s3 + 1))]) [1, 2, 0] rfl ?_
      exact ih (v.1, x22, v.2.2) (s3 + 1)
    · refine j_aload_n C 29 0 rfl dX1_lay_29 ?_
      refine j_aload_n C 30 0 rfl dX1_lay_30 ?_
      refine g_Ly1 (k := k) C hk 31 (Or.inl fl_X1_15) dX1_lay_31 ?_
      refine j_iconst (v := 0) C 34 dX1_lay_34 rfl ?_
      refine j_bind (fun x35 h35 => ?_)
      refine l_Ly1 (k := k) (c0 := (sLy c k v)) C hk (sLy_get _ _ _) 35 h35 dX1_lay_35 ?_
      refine j_aload_n C 36 0 rfl dX1_lay_36 ?_
      refine g_Ly1 (k := k) C hk 37 (Or.inl fl_X1_15) dX1_lay_37 ?_
      refine j_iconst (v := 1) C 40 dX1_lay_40 rfl ?_
      refine j_bind (fun x41 h41 => ?_)
      refine l_Ly1 (k := k) (c0 := (sLy c k v)) C hk (sLy_get _ _ _) 41 h41 dX1_lay_41 ?_
      refine j_iadd C 42 dX1_lay_42 ?_
      refine p_Ly2 (k := k) C hk 43 fl_X1_25 dX1_lay_43 ?_
      refine j_V (V' := (sLy c k (v.1, v.2.1, (x35 + x41), v.2.2.2), w)) rfl ?_
      refine j_aload_n C 46 0 rfl dX1_lay_46 ?_
      refine j_aload_n C 47 0 rfl dX1_lay_47 ?_
      refine g_Ly1 (k := k) C hk 48 (Or.inl fl_X1_15) dX1_lay_48 ?_
      refine j_iconst (v := 2) C 51 dX1_lay_51 rfl ?_
      refine j_bind (fun x52 h52 => ?_)
      refine l_Ly1 (k := k) (c0 := (sLy c k (v.1, v.2.1, (x35 + x41), v.2.2.2))) C hk (sLy_get _ _ _) 52 h52 dX1_lay_52 ?_
      refine j_aload_n C 53 0 rfl dX1_lay_53 ?_
      refine g_Ly1 (k := k) C hk 54 (Or.inl fl_X1_15) dX1_lay_54 ?_
      refine j_iconst (v := 3) C 57 dX1_lay_57 rfl ?_
      refine j_bind (fun x58 h58 => ?_)
      refine l_Ly1 (k := k) (c0 := (sLy c k (v.1, v.2.1, (x35 + x41), v.2.2.2))) C hk (sLy_get _ _ _) 58 h58 dX1_lay_58 ?_
      refine j_iadd C 59 dX1_lay_59 ?_
      refine p_Ly3 (k := k) C hk 60 fl_X1_28 dX1_lay_60 ?_
      refine j_V (V' := (sLy c k (v.1, v.2.1, (x35 + x41), (x52 + x58), v.2.2.2.2), w)) rfl ?_
      refine j_aload_n C 63 0 rfl dX1_lay_63 ?_
      refine j_aload_n C 64 0 rfl dX1_lay_64 ?_
      refine g_Ly2 (k := k) (c0 := (sLy c k (v.1, v.2.1, (x35 + x41), (x52 + x58), v.2.2.2.2))) C hk (sLy_get _ _ _) 65 (Or.inl fl_X1_25) dX1_lay_65 ?_
      refine j_aload_n C 68 0 rfl dX1_lay_68 ?_
      refine g_Ly3 (k := k) (c0 := (sLy c k (v.1, v.2.1, (x35 + x41), (x52 + x58), v.2.2.2.2))) C hk (sLy_get _ _ _) 69 (Or.inl fl_X1_28) dX1_lay_69 ?_
      refine j_bind (fun x72 h72 => ?_)
      refine j_callS_i (As := [.int (x35 + x41), .int (x52 + x58)]) (st := [.ref (G.2.2 (78 + 2 * k))]) C k_J9_min_7cf53 72 (c_J9_min_7cf53 C.2.2.2.2.2.2.1 (c := (sLy c k (v.1, v.2.1, (x35 + x41), (x52 + x58), v.2.2.2.2))) _ _ h72) rfl ml_X1_46 st_J9_min_7cf53 dX1_lay_72 (by decide) rfl (Nat.le_of_ble_eq_true rfl) ?_ rfl
      refine p_Ly4 (k := k) C hk 75 fl_X1_31 dX1_lay_75 ?_
      refine j_V (V' := (sLy c k (v.1, v.2.1, (x35 + x41), (x52 + x58), x72, v.2.2.2.2.2), w)) rfl ?_
      refine j_aload_n C 78 0 rfl dX1_lay_78 ?_
      refine j_aload_n C 79 0 rfl dX1_lay_79 ?_
      refine g_Ly0 (k := k) (c0 := (sLy c k (v.1, v.2.1, (x35 + x41), (x52 + x58), x72, v.2.2.2.2.2))) C hk (sLy_get _ _ _) 80 (Or.inl fl_X1_9) dX1_lay_80 ?_
      refine j_iconst (v := 2) C 83 dX1_lay_83 rfl ?_
      refine j_icmp_ne C 84 94 dX1_lay_84 (by decide) (fun c84 => ?_) (fun c84 => ?_)
      · refine j_aload_n C 87 0 rfl dX1_lay_87 ?_
        refine g_Ly4 (k := k) (c0 := (sLy c k (v.1, v.2.1, (x35 + x41), (x52 + x58), x72, v.2.2.2.2.2))) C hk (sLy_get _ _ _) 88 (Or.inl fl_X1_31) dX1_lay_88 ?_
        refine j_goto C 91 103 dX1_lay_91 (by decide) ?_
        refine j_L (L' := [(0, .ref (G.2.2 (78 + 2 * k)))]) [0] rfl ?_
        exact wb_X1_lay_103 hk C hr j2 hj2 u2 hu2 (v.1, v.2.1, (x35 + x41), (x52 + x58), x72, v.2.2.2.2.2) x72
      · refine j_aload_n C 94 0 rfl dX1_lay_94 ?_
        refine g_Ly2 (k := k) (c0 := (sLy c k (v.1, v.2.1, (x35 + x41), (x52 + x58), x72, v.2.2.2.2.2))) C hk (sLy_get _ _ _) 95 (Or.inl fl_X1_25) dX1_lay_95 ?_
        refine j_aload_n C 98 0 rfl dX1_lay_98 ?_
        refine g_Ly3 (k := k) (c0 := (sLy c k (v.1, v.2.1, (x35 + x41), (x52 + x58), x72, v.2.2.2.2.2))) C hk (sLy_get _ _ _) 99 (Or.inl fl_X1_28) dX1_lay_99 ?_
        refine j_iadd C 102 dX1_lay_102 ?_
        refine j_L (L' := [(0, .ref (G.2.2 (78 + 2 * k)))]) [0] rfl ?_
        exact wb_X1_lay_103 hk C hr j2 hj2 u2 hu2 (v.1, v.2.1, (x35 + x41), (x52 + x58), x72, v.2.2.2.2.2) ((x35 + x41) + (x52 + x58))
set_option maxRecDepth 100000 in
set_option maxHeartbeats 4000000 in
theorem w_X1_lay {G : GG} {X : WX} {c : VC} {w : VW} {k : Nat} (hk : k < 9) (C : Cx G 4 X RX1 cX1_lay 3) (hr : (xM X).sig.returnType = none) (v : VLy) (j2 : Nat) (hj2 : j2 < 8) (u2 : VSk) (hu2 : c.1 j2 = u2) (a1 : Int32) : JS G 4 X (QM G X (fun x : VLy => none) (fun x : VLy => ((sLy c k x, w) : VA))) (f_X1_lay v u2 a1) (sLy c k v, w) 0 [(0, .ref (G.2.2 (78 + 2 * k))), (1, .int a1), (2, .ref (G.2.2 (22 + 7 * j2)))] [] := by
  unfold f_X1_lay
  refine j_aload_n C 0 0 rfl dX1_lay_0 ?_
  refine j_iload_n C 1 1 rfl dX1_lay_1 ?_
  refine p_Ly0 (k := k) C hk 2 fl_X1_9 dX1_lay_2 ?_
  refine j_V (V' := (sLy c k (a1, v.2), w)) rfl ?_
  refine j_iconst (v := 0) C 5 dX1_lay_5 rfl ?_
  refine j_istore_n (L1 := [(3, .int 0), (0, .ref (G.2.2 (78 + 2 * k))), (1, .int a1), (2, .ref (G.2.2 (22 + 7 * j2)))]) C 6 rfl dX1_lay_6 (by decide) rfl ?_
  refine j_L (L' := [(0, .ref (G.2.2 (78 + 2 * k))), (2, .ref (G.2.2 (22 + 7 * j2))), (3, .int 0)]) [1, 3, 0] rfl ?_
  exact wl_X1_lay_7 hk C hr j2 hj2 u2 hu2 FU (a1, v.2) 0
theorem c_X1_lay {G : GG} {l : Launch} (hG : Gok G) {c : VC} {w : VW} {k : Nat} (hk : k < 9) (v : VLy) (hv : c.2.1 k = v) (j2 : Nat) (hj2 : j2 < 8) (u2 : VSk) (hu2 : c.1 j2 = u2) (a1 : Int32) {x : VLy} (hf : f_X1_lay v u2 a1 = some x) : Ct l yX1_lay cX1_lay 4 none 3 [.ref (G.2.2 (78 + 2 * k)), .int a1, .ref (G.2.2 (22 + 7 * j2))] G (c, w) none (sLy c k x, w) := by
  refine ct_of (rv := fun x : VLy => none) (fin := fun x : VLy => ((sLy c k x, w) : VA)) (own := RX1) hG (plainFor_of_name (by decide)) rfl (Nat.le_of_ble_eq_true rfl) (fun X C hr _ => ?_) hf
  refine j_V (congrArg (fun z => (z, w)) (sLy_id hv).symm) ?_; exact w_X1_lay hk C hr v j2 hj2 u2 hu2 a1
set_option maxRecDepth 100000 in
set_option maxHeartbeats 4000000 in
theorem w_X1_isLaid {G : GG} {X : WX} {c : VC} {w : VW} {k : Nat} (hk : k < 9) (C : Cx G 1 X RX1 cX1_isLaid 0) (hr : (xM X).sig.returnType = (some .boolean)) (v : VLy) (hv : c.2.1 k = v) : JS G 1 X (QM G X (fun x : Int32 => some (.int x)) (fun x : Int32 => ((c, w) : VA))) (f_X1_isLaid v) (c, w) 0 [(0, .ref (G.2.2 (78 + 2 * k)))] [] := by
  unfold f_X1_isLaid
  refine j_aload_n C 0 0 rfl dX1_isLaid_0 ?_
  refine g_Ly0 (k := k) (c0 := c) C hk hv 1 (Or.inl fl_X1_9) dX1_isLaid_1 ?_
  refine j_iconst (v := (-1)) C 4 dX1_isLaid_4 rfl ?_
  refine j_icmp_eq C 5 12 dX1_isLaid_5 (by decide) (fun c5 => ?_) (fun c5 => ?_)
  · refine j_iconst (v := 0) C 12 dX1_isLaid_12 rfl ?_
    exact j_zret C 13 hr rfl rfl rfl dX1_isLaid_13
  · refine j_iconst (v := 1) C 8 dX1_isLaid_8 rfl ?_
    refine j_goto C 9 13 dX1_isLaid_9 (by decide) ?_
    exact j_zret C 13 hr rfl rfl rfl dX1_isLaid_13
theorem c_X1_isLaid {G : GG} {l : Launch} (hG : Gok G) {c : VC} {w : VW} {k : Nat} (hk : k < 9) (v : VLy) (hv : c.2.1 k = v) {x : Int32} (hf : f_X1_isLaid v = some x) : Ct l yX1_isLaid cX1_isLaid 1 (some .boolean) 0 [.ref (G.2.2 (78 + 2 * k))] G (c, w) (some (.int x)) (c, w) := by
  refine ct_of (rv := fun x : Int32 => (some (.int x))) (fin := fun x : Int32 => ((c, w) : VA)) (own := RX1) hG (plainFor_of_name (by decide)) rfl (Nat.le_of_ble_eq_true rfl) (fun X C hr _ => ?_) hf
  exact w_X1_isLaid hk C hr v hv
set_option maxRecDepth 100000 in
set_option maxHeartbeats 4000000 in
theorem w_X1_clear {G : GG} {X : WX} {c : VC} {w : VW} {k : Nat} (hk : k < 9) (C : Cx G 1 X RX1 cX1_clear 2) (hr : (xM X).sig.returnType = none) (v : VLy) : JS G 1 X (QM G X (fun x : VLy => none) (fun x : VLy => ((sLy c k x, w) : VA))) (f_X1_clear v) (sLy c k v, w) 0 [(0, .ref (G.2.2 (78 + 2 * k)))] [] := by
  unfold f_X1_clear
  refine j_aload_n C 0 0 rfl dX1_clear_0 ?_
  refine j_iconst (v := (-1)) C 1 dX1_clear_1 rfl ?_
  refine p_Ly0 (k := k) C hk 2 fl_X1_9 dX1_clear_2 ?_
  refine j_V (V' := (sLy c k ((-1), v.2), w)) rfl ?_
  refine j_aload_n C 5 0 rfl dX1_clear_5 ?_
  refine g_Ly1 (k := k) C hk 6 (Or.inl fl_X1_15) dX1_clear_6 ?_
  refine j_iconst (v := 0) C 9 dX1_clear_9 rfl ?_
  refine j_bind (fun x10 h10 => ?_)
  refine j_fill C 10 (79 + 2 * k) (nG_lt C.2.2.2.2.2.2.1 (by omega)) rfl (fun f => ((sLy c k ((-1), f, v.2.2), w) : VA)) (fun f => a_Ly1 (k := k) hk (sLy_get _ _ _)) (fun _ f => b_Ly1 (k := k) hk f) (by decide) h10 ml_X1_52 dX1_clear_10 (by decide) (Nat.le_of_ble_eq_true rfl) ?_
  refine j_V (V' := (sLy c k ((-1), x10, v.2.2), w)) rfl ?_
  refine j_aload_n C 13 0 rfl dX1_clear_13 ?_
  refine j_iconst (v := 0) C 14 dX1_clear_14 rfl ?_
  refine p_Ly2 (k := k) C hk 15 fl_X1_25 dX1_clear_15 ?_
  refine j_V (V' := (sLy c k ((-1), x10, 0, v.2.2.2), w)) rfl ?_
  refine j_aload_n C 18 0 rfl dX1_clear_18 ?_
  refine j_iconst (v := 0) C 19 dX1_clear_19 rfl ?_
  refine p_Ly3 (k := k) C hk 20 fl_X1_28 dX1_clear_20 ?_
  refine j_V (V' := (sLy c k ((-1), x10, 0, 0, v.2.2.2.2), w)) rfl ?_
  refine j_aload_n C 23 0 rfl dX1_clear_23 ?_
  refine j_iconst (v := 0) C 24 dX1_clear_24 rfl ?_
  refine p_Ly4 (k := k) C hk 25 fl_X1_31 dX1_clear_25 ?_
  refine j_V (V' := (sLy c k ((-1), x10, 0, 0, 0, v.2.2.2.2.2), w)) rfl ?_
  refine j_aload_n C 28 0 rfl dX1_clear_28 ?_
  refine j_iconst (v := 0) C 29 dX1_clear_29 rfl ?_
  refine p_Ly5 (k := k) C hk 30 fl_X1_34 dX1_clear_30 ?_
  refine j_V (V' := (sLy c k ((-1), x10, 0, 0, 0, 0, v.2.2.2.2.2.2), w)) rfl ?_
  refine j_aload_n C 33 0 rfl dX1_clear_33 ?_
  refine j_iconst (v := 0) C 34 dX1_clear_34 rfl ?_
  refine p_Ly6 (k := k) C hk 35 fl_X1_37 dX1_clear_35 ?_
  refine j_V (V' := (sLy c k ((-1), x10, 0, 0, 0, 0, 0), w)) rfl ?_
  exact j_vret C 38 hr rfl rfl dX1_clear_38
theorem c_X1_clear {G : GG} {l : Launch} (hG : Gok G) {c : VC} {w : VW} {k : Nat} (hk : k < 9) (v : VLy) (hv : c.2.1 k = v) {x : VLy} (hf : f_X1_clear v = some x) : Ct l yX1_clear cX1_clear 1 none 2 [.ref (G.2.2 (78 + 2 * k))] G (c, w) none (sLy c k x, w) := by
  refine ct_of (rv := fun x : VLy => none) (fin := fun x : VLy => ((sLy c k x, w) : VA)) (own := RX1) hG (plainFor_of_name (by decide)) rfl (Nat.le_of_ble_eq_true rfl) (fun X C hr _ => ?_) hf
  refine j_V (congrArg (fun z => (z, w)) (sLy_id hv).symm) ?_; exact w_X1_clear hk C hr v
set_option maxRecDepth 100000 in
set_option maxHeartbeats 4000000 in
theorem w_X1_channelOf {G : GG} {X : WX} {c : VC} {w : VW} {k : Nat} (hk : k < 9) (C : Cx G 2 X RX1 cX1_channelOf 0) (hr : (xM X).sig.returnType = (some .int)) (v : VLy) (hv : c.2.1 k = v) (a1 : Int32) : JS G 2 X (QM G X (fun x : Int32 => some (.int x)) (fun x : Int32 => ((c, w) : VA))) (f_X1_channelOf v a1) (c, w) 0 [(0, .ref (G.2.2 (78 + 2 * k))), (1, .int a1)] [] := by
  unfold f_X1_channelOf
  refine j_aload_n C 0 0 rfl dX1_channelOf_0 ?_
  refine g_Ly0 (k := k) (c0 := c) C hk hv 1 (Or.inl fl_X1_9) dX1_channelOf_1 ?_
  refine j_iconst (v := 2) C 4 dX1_channelOf_4 rfl ?_
  refine j_icmp_ne C 5 10 dX1_channelOf_5 (by decide) (fun c5 => ?_) (fun c5 => ?_)
  · refine j_iconst (v := 0) C 8 dX1_channelOf_8 rfl ?_
    exact j_iret C 9 hr rfl rfl dX1_channelOf_9
  · refine j_iload_n C 10 1 rfl dX1_channelOf_10 ?_
    refine j_aload_n C 11 0 rfl dX1_channelOf_11 ?_
    refine g_Ly6 (k := k) (c0 := c) C hk hv 12 (Or.inl fl_X1_37) dX1_channelOf_12 ?_
    refine j_icmp_ge C 15 22 dX1_channelOf_15 (by decide) (fun c15 => ?_) (fun c15 => ?_)
    · refine j_iload_n C 18 1 rfl dX1_channelOf_18 ?_
      refine j_iconst (v := 1) C 19 dX1_channelOf_19 rfl ?_
      refine j_iand C 20 dX1_channelOf_20 ?_
      exact j_iret C 21 hr rfl rfl dX1_channelOf_21
    · refine j_aload_n C 22 0 rfl dX1_channelOf_22 ?_
      refine g_Ly0 (k := k) (c0 := c) C hk hv 23 (Or.inl fl_X1_9) dX1_channelOf_23 ?_
      refine j_if_ne C 26 46 dX1_channelOf_26 (by decide) (fun c26 => ?_) (fun c26 => ?_)
      · refine j_aload_n C 29 0 rfl dX1_channelOf_29 ?_
        refine g_Ly2 (k := k) (c0 := c) C hk hv 30 (Or.inl fl_X1_25) dX1_channelOf_30 ?_
        refine j_aload_n C 33 0 rfl dX1_channelOf_33 ?_
        refine g_Ly3 (k := k) (c0 := c) C hk hv 34 (Or.inl fl_X1_28) dX1_channelOf_34 ?_
        refine j_icmp_le C 37 44 dX1_channelOf_37 (by decide) (fun c37 => ?_) (fun c37 => ?_)
        · refine j_iconst (v := 0) C 40 dX1_channelOf_40 rfl ?_
          refine j_goto C 41 45 dX1_channelOf_41 (by decide) ?_
          exact j_iret C 45 hr rfl rfl dX1_channelOf_45
        · refine j_iconst (v := 1) C 44 dX1_channelOf_44 rfl ?_
          exact j_iret C 45 hr rfl rfl dX1_channelOf_45
      · refine j_iload_n C 46 1 rfl dX1_channelOf_46 ?_
        refine j_aload_n C 47 0 rfl dX1_channelOf_47 ?_
        refine g_Ly2 (k := k) (c0 := c) C hk hv 48 (Or.inl fl_X1_25) dX1_channelOf_48 ?_
        refine j_icmp_ge C 51 58 dX1_channelOf_51 (by decide) (fun c51 => ?_) (fun c51 => ?_)
        · refine j_iconst (v := 0) C 54 dX1_channelOf_54 rfl ?_
          refine j_goto C 55 59 dX1_channelOf_55 (by decide) ?_
          exact j_iret C 59 hr rfl rfl dX1_channelOf_59
        · refine j_iconst (v := 1) C 58 dX1_channelOf_58 rfl ?_
          exact j_iret C 59 hr rfl rfl dX1_channelOf_59
theorem c_X1_channelOf {G : GG} {l : Launch} (hG : Gok G) {c : VC} {w : VW} {k : Nat} (hk : k < 9) (v : VLy) (hv : c.2.1 k = v) (a1 : Int32) {x : Int32} (hf : f_X1_channelOf v a1 = some x) : Ct l yX1_channelOf cX1_channelOf 2 (some .int) 0 [.ref (G.2.2 (78 + 2 * k)), .int a1] G (c, w) (some (.int x)) (c, w) := by
  refine ct_of (rv := fun x : Int32 => (some (.int x))) (fin := fun x : Int32 => ((c, w) : VA)) (own := RX1) hG (plainFor_of_name (by decide)) rfl (Nat.le_of_ble_eq_true rfl) (fun X C hr _ => ?_) hf
  exact w_X1_channelOf hk C hr v hv a1
set_option maxRecDepth 100000 in
set_option maxHeartbeats 4000000 in
theorem w_X1_indexOf {G : GG} {X : WX} {c : VC} {w : VW} {k : Nat} (hk : k < 9) (C : Cx G 2 X RX1 cX1_indexOf 0) (hr : (xM X).sig.returnType = (some .int)) (v : VLy) (hv : c.2.1 k = v) (a1 : Int32) : JS G 2 X (QM G X (fun x : Int32 => some (.int x)) (fun x : Int32 => ((c, w) : VA))) (f_X1_indexOf v a1) (c, w) 0 [(0, .ref (G.2.2 (78 + 2 * k))), (1, .int a1)] [] := by
  unfold f_X1_indexOf
  refine j_iload_n C 0 1 rfl dX1_indexOf_0 ?_
  refine j_aload_n C 1 0 rfl dX1_indexOf_1 ?_
  refine g_Ly6 (k := k) (c0 := c) C hk hv 2 (Or.inl fl_X1_37) dX1_indexOf_2 ?_
  refine j_icmp_ge C 5 12 dX1_indexOf_5 (by decide) (fun c5 => ?_) (fun c5 => ?_)
  · refine j_iload_n C 8 1 rfl dX1_indexOf_8 ?_
    refine j_iconst (v := 2) C 9 dX1_indexOf_9 rfl ?_
    refine j_idiv C 10 dX1_indexOf_10 (by decide) ?_
    exact j_iret C 11 hr rfl rfl dX1_indexOf_11
  · refine j_aload_n C 12 0 rfl dX1_indexOf_12 ?_
    refine g_Ly0 (k := k) (c0 := c) C hk hv 13 (Or.inl fl_X1_9) dX1_indexOf_13 ?_
    refine j_if_ne C 16 26 dX1_indexOf_16 (by decide) (fun c16 => ?_) (fun c16 => ?_)
    · refine j_iload_n C 19 1 rfl dX1_indexOf_19 ?_
      refine j_aload_n C 20 0 rfl dX1_indexOf_20 ?_
      refine g_Ly4 (k := k) (c0 := c) C hk hv 21 (Or.inl fl_X1_31) dX1_indexOf_21 ?_
      refine j_isub C 24 dX1_indexOf_24 ?_
      exact j_iret C 25 hr rfl rfl dX1_indexOf_25
    · refine j_aload_n C 26 0 rfl dX1_indexOf_26 ?_
      refine g_Ly0 (k := k) (c0 := c) C hk hv 27 (Or.inl fl_X1_9) dX1_indexOf_27 ?_
      refine j_iconst (v := 2) C 30 dX1_indexOf_30 rfl ?_
      refine j_icmp_eq C 31 42 dX1_indexOf_31 (by decide) (fun c31 => ?_) (fun c31 => ?_)
      · refine j_iload_n C 42 1 rfl dX1_indexOf_42 ?_
        refine j_goto C 43 52 dX1_indexOf_43 (by decide) ?_
        exact j_iret C 52 hr rfl rfl dX1_indexOf_52
      · refine j_iload_n C 34 1 rfl dX1_indexOf_34 ?_
        refine j_aload_n C 35 0 rfl dX1_indexOf_35 ?_
        refine g_Ly2 (k := k) (c0 := c) C hk hv 36 (Or.inl fl_X1_25) dX1_indexOf_36 ?_
        refine j_icmp_ge C 39 46 dX1_indexOf_39 (by decide) (fun c39 => ?_) (fun c39 => ?_)
        · refine j_iload_n C 42 1 rfl dX1_indexOf_42 ?_
          refine j_goto C 43 52 dX1_indexOf_43 (by decide) ?_
          exact j_iret C 52 hr rfl rfl dX1_indexOf_52
        · refine j_iload_n C 46 1 rfl dX1_indexOf_46 ?_
          refine j_aload_n C 47 0 rfl dX1_indexOf_47 ?_
          refine g_Ly2 (k := k) (c0 := c) C hk hv 48 (Or.inl fl_X1_25) dX1_indexOf_48 ?_
          refine j_isub C 51 dX1_indexOf_51 ?_
          exact j_iret C 52 hr rfl rfl dX1_indexOf_52
theorem c_X1_indexOf {G : GG} {l : Launch} (hG : Gok G) {c : VC} {w : VW} {k : Nat} (hk : k < 9) (v : VLy) (hv : c.2.1 k = v) (a1 : Int32) {x : Int32} (hf : f_X1_indexOf v a1 = some x) : Ct l yX1_indexOf cX1_indexOf 2 (some .int) 0 [.ref (G.2.2 (78 + 2 * k)), .int a1] G (c, w) (some (.int x)) (c, w) := by
  refine ct_of (rv := fun x : Int32 => (some (.int x))) (fin := fun x : Int32 => ((c, w) : VA)) (own := RX1) hG (plainFor_of_name (by decide)) rfl (Nat.le_of_ble_eq_true rfl) (fun X C hr _ => ?_) hf
  exact w_X1_indexOf hk C hr v hv a1
set_option maxRecDepth 100000 in
set_option maxHeartbeats 4000000 in
theorem w_X1_slotAt {G : GG} {X : WX} {c : VC} {w : VW} {k : Nat} (hk : k < 9) (C : Cx G 3 X RX1 cX1_slotAt 0) (hr : (xM X).sig.returnType = (some .int)) (v : VLy) (hv : c.2.1 k = v) (a1 : Int32) (a2 : Int32) : JS G 3 X (QM G X (fun x : Int32 => some (.int x)) (fun x : Int32 => ((c, w) : VA))) (f_X1_slotAt v a1 a2) (c, w) 0 [(0, .ref (G.2.2 (78 + 2 * k))), (1, .int a1), (2, .int a2)] [] := by
  unfold f_X1_slotAt
  refine j_iload_n C 0 1 rfl dX1_slotAt_0 ?_
  refine j_if_ne C 1 20 dX1_slotAt_1 (by decide) (fun c1 => ?_) (fun c1 => ?_)
  · refine j_iload_n C 4 2 rfl dX1_slotAt_4 ?_
    refine j_aload_n C 5 0 rfl dX1_slotAt_5 ?_
    refine g_Ly1 (k := k) C hk 6 (Or.inl fl_X1_15) dX1_slotAt_6 ?_
    refine j_iconst (v := 0) C 9 dX1_slotAt_9 rfl ?_
    refine j_bind (fun x10 h10 => ?_)
    refine l_Ly1 (k := k) (c0 := c) C hk hv 10 h10 dX1_slotAt_10 ?_
    refine j_icmp_ge C 11 18 dX1_slotAt_11 (by decide) (fun c11 => ?_) (fun c11 => ?_)
    · refine j_iconst (v := 0) C 14 dX1_slotAt_14 rfl ?_
      refine j_goto C 15 19 dX1_slotAt_15 (by decide) ?_
      exact j_iret C 19 hr rfl rfl dX1_slotAt_19
    · refine j_iconst (v := 1) C 18 dX1_slotAt_18 rfl ?_
      exact j_iret C 19 hr rfl rfl dX1_slotAt_19
  · refine j_iload_n C 20 2 rfl dX1_slotAt_20 ?_
    refine j_aload_n C 21 0 rfl dX1_slotAt_21 ?_
    refine g_Ly1 (k := k) C hk 22 (Or.inl fl_X1_15) dX1_slotAt_22 ?_
    refine j_iconst (v := 2) C 25 dX1_slotAt_25 rfl ?_
    refine j_bind (fun x26 h26 => ?_)
    refine l_Ly1 (k := k) (c0 := c) C hk hv 26 h26 dX1_slotAt_26 ?_
    refine j_icmp_ge C 27 34 dX1_slotAt_27 (by decide) (fun c27 => ?_) (fun c27 => ?_)
    · refine j_iconst (v := 2) C 30 dX1_slotAt_30 rfl ?_
      refine j_goto C 31 35 dX1_slotAt_31 (by decide) ?_
      exact j_iret C 35 hr rfl rfl dX1_slotAt_35
    · refine j_iconst (v := 3) C 34 dX1_slotAt_34 rfl ?_
      exact j_iret C 35 hr rfl rfl dX1_slotAt_35
theorem c_X1_slotAt {G : GG} {l : Launch} (hG : Gok G) {c : VC} {w : VW} {k : Nat} (hk : k < 9) (v : VLy) (hv : c.2.1 k = v) (a1 : Int32) (a2 : Int32) {x : Int32} (hf : f_X1_slotAt v a1 a2 = some x) : Ct l yX1_slotAt cX1_slotAt 3 (some .int) 0 [.ref (G.2.2 (78 + 2 * k)), .int a1, .int a2] G (c, w) (some (.int x)) (c, w) := by
  refine ct_of (rv := fun x : Int32 => (some (.int x))) (fin := fun x : Int32 => ((c, w) : VA)) (own := RX1) hG (plainFor_of_name (by decide)) rfl (Nat.le_of_ble_eq_true rfl) (fun X C hr _ => ?_) hf
  exact w_X1_slotAt hk C hr v hv a1 a2
set_option maxRecDepth 100000 in
set_option maxHeartbeats 4000000 in
theorem w_X1_slotOf {G : GG} {X : WX} {c : VC} {w : VW} {k : Nat} (hk : k < 9) (C : Cx G 2 X RX1 cX1_slotOf 1) (hr : (xM X).sig.returnType = (some .int)) (v : VLy) (hv : c.2.1 k = v) (a1 : Int32) : JS G 2 X (QM G X (fun x : Int32 => some (.int x)) (fun x : Int32 => ((c, w) : VA))) (f_X1_slotOf v a1) (c, w) 0 [(0, .ref (G.2.2 (78 + 2 * k))), (1, .int a1)] [] := by
  unfold f_X1_slotOf
  refine j_aload_n C 0 0 rfl dX1_slotOf_0 ?_
  refine j_aload_n C 1 0 rfl dX1_slotOf_1 ?_
  refine j_iload_n C 2 1 rfl dX1_slotOf_2 ?_
  refine j_bind (fun x3 h3 => ?_)
  refine j_vLy_i (k := k) (As := [.int a1]) (st := [.ref (G.2.2 (78 + 2 * k))]) C hk k_X1_channelOf 3 (c_X1_channelOf C.2.2.2.2.2.2.1 (c := c) (k := k) hk _ hv _ h3) rfl rfl ml_X1_62 ii_X1_channelOf is_X1_channelOf dX1_slotOf_3 (by decide) rfl (Nat.le_of_ble_eq_true rfl) ?_ rfl
  refine j_aload_n C 6 0 rfl dX1_slotOf_6 ?_
  refine j_iload_n C 7 1 rfl dX1_slotOf_7 ?_
  refine j_bind (fun x8 h8 => ?_)
  refine j_vLy_i (k := k) (As := [.int a1]) (st := [.int x3, .ref (G.2.2 (78 + 2 * k))]) C hk k_X1_indexOf 8 (c_X1_indexOf C.2.2.2.2.2.2.1 (c := c) (k := k) hk _ hv _ h8) rfl rfl ml_X1_65 ii_X1_indexOf is_X1_indexOf dX1_slotOf_8 (by decide) rfl (Nat.le_of_ble_eq_true rfl) ?_ rfl
  refine j_bind (fun x11 h11 => ?_)
  refine j_vLy_i (k := k) (As := [.int x3, .int x8]) (st := []) C hk k_X1_slotAt 11 (c_X1_slotAt C.2.2.2.2.2.2.1 (c := c) (k := k) hk _ hv _ _ h11) rfl rfl ml_X1_68 ii_X1_slotAt is_X1_slotAt dX1_slotOf_11 (by decide) rfl (Nat.le_of_ble_eq_true rfl) ?_ rfl
  exact j_iret C 14 hr rfl rfl dX1_slotOf_14
theorem c_X1_slotOf {G : GG} {l : Launch} (hG : Gok G) {c : VC} {w : VW} {k : Nat} (hk : k < 9) (v : VLy) (hv : c.2.1 k = v) (a1 : Int32) {x : Int32} (hf : f_X1_slotOf v a1 = some x) : Ct l yX1_slotOf cX1_slotOf 2 (some .int) 1 [.ref (G.2.2 (78 + 2 * k)), .int a1] G (c, w) (some (.int x)) (c, w) := by
  refine ct_of (rv := fun x : Int32 => (some (.int x))) (fin := fun x : Int32 => ((c, w) : VA)) (own := RX1) hG (plainFor_of_name (by decide)) rfl (Nat.le_of_ble_eq_true rfl) (fun X C hr _ => ?_) hf
  exact w_X1_slotOf hk C hr v hv a1
set_option maxRecDepth 100000 in
set_option maxHeartbeats 4000000 in
theorem w_X1_slotAgainOf {G : GG} {X : WX} {c : VC} {w : VW} {k : Nat} (hk : k < 9) (C : Cx G 2 X RX1 cX1_slotAgainOf 1) (hr : (xM X).sig.returnType = (some .int)) (v : VLy) (hv : c.2.1 k = v) (a1 : Int32) : JS G 2 X (QM G X (fun x : Int32 => some (.int x)) (fun x : Int32 => ((c, w) : VA))) (f_X1_slotAgainOf v a1) (c, w) 0 [(0, .ref (G.2.2 (78 + 2 * k))), (1, .int a1)] [] := by
  unfold f_X1_slotAgainOf
  refine j_aload_n C 0 0 rfl dX1_slotAgainOf_0 ?_
  refine j_bind (fun x1 h1 => ?_)
  refine j_vLy_i (k := k) (As := []) (st := []) C hk k_X1_isMirrored 1 (c_X1_isMirrored C.2.2.2.2.2.2.1 (c := c) (k := k) hk _ hv h1) rfl rfl ml_X1_74 ii_X1_isMirrored is_X1_isMirrored dX1_slotAgainOf_1 (by decide) rfl (Nat.le_of_ble_eq_true rfl) ?_ rfl
  refine j_if_eq C 4 16 dX1_slotAgainOf_4 (by decide) (fun c4 => ?_) (fun c4 => ?_)
  · refine j_iconst (v := (-1)) C 16 dX1_slotAgainOf_16 rfl ?_
    exact j_iret C 17 hr rfl rfl dX1_slotAgainOf_17
  · refine j_aload_n C 7 0 rfl dX1_slotAgainOf_7 ?_
    refine j_iconst (v := 1) C 8 dX1_slotAgainOf_8 rfl ?_
    refine j_iload_n C 9 1 rfl dX1_slotAgainOf_9 ?_
    refine j_bind (fun x10 h10 => ?_)
    refine j_vLy_i (k := k) (As := [.int 1, .int a1]) (st := []) C hk k_X1_slotAt 10 (c_X1_slotAt C.2.2.2.2.2.2.1 (c := c) (k := k) hk _ hv _ _ h10) rfl rfl ml_X1_68 ii_X1_slotAt is_X1_slotAt dX1_slotAgainOf_10 (by decide) rfl (Nat.le_of_ble_eq_true rfl) ?_ rfl
    refine j_goto C 13 17 dX1_slotAgainOf_13 (by decide) ?_
    exact j_iret C 17 hr rfl rfl dX1_slotAgainOf_17
theorem c_X1_slotAgainOf {G : GG} {l : Launch} (hG : Gok G) {c : VC} {w : VW} {k : Nat} (hk : k < 9) (v : VLy) (hv : c.2.1 k = v) (a1 : Int32) {x : Int32} (hf : f_X1_slotAgainOf v a1 = some x) : Ct l yX1_slotAgainOf cX1_slotAgainOf 2 (some .int) 1 [.ref (G.2.2 (78 + 2 * k)), .int a1] G (c, w) (some (.int x)) (c, w) := by
  refine ct_of (rv := fun x : Int32 => (some (.int x))) (fin := fun x : Int32 => ((c, w) : VA)) (own := RX1) hG (plainFor_of_name (by decide)) rfl (Nat.le_of_ble_eq_true rfl) (fun X C hr _ => ?_) hf
  exact w_X1_slotAgainOf hk C hr v hv a1
set_option maxRecDepth 100000 in
set_option maxHeartbeats 4000000 in
theorem wb_X1_numberAt_19 {G : GG} {X : WX} {c : VC} {w : VW} {k : Nat} (hk : k < 9) (C : Cx G 4 X RX1 cX1_numberAt 0) (hr : (xM X).sig.returnType = (some .int)) (v : VLy) (hv : c.2.1 k = v) (s2 : Int32) (t0 : Int32) : JS G 4 X (QM G X (fun x : Int32 => some (.int x)) (fun x : Int32 => ((c, w) : VA))) (b_X1_numberAt_19 v s2 t0) (c, w) 19 [(2, .int s2)] [.int t0] := by
  unfold b_X1_numberAt_19
  refine j_istore_n (L1 := [(3, .int t0), (2, .int s2)]) C 19 rfl dX1_numberAt_19 (by decide) rfl ?_
  refine j_iload_n C 20 1 rfl dX1_numberAt_20 ?_
  refine j_iload_n C 21 0 rfl dX1_numberAt_21 ?_
  refine j_icmp_ge C 22 29 dX1_numberAt_22 (by decide) (fun c22 => ?_) (fun c22 => ?_)
  · refine j_iload_n C 25 1 rfl dX1_numberAt_25 ?_
    refine j_goto C 26 32 dX1_numberAt_26 (by decide) ?_
    exact j_iret C 32 hr rfl rfl dX1_numberAt_32
  · refine j_iload_n C 29 1 rfl dX1_numberAt_29 ?_
    refine j_iload_n C 30 0 rfl dX1_numberAt_30 ?_
    refine j_isub C 31 dX1_numberAt_31 ?_
    exact j_iret C 32 hr rfl rfl dX1_numberAt_32
set_option maxRecDepth 100000 in
set_option maxHeartbeats 4000000 in
theorem w_X1_numberAt {G : GG} {X : WX} {c : VC} {w : VW} {k : Nat} (hk : k < 9) (C : Cx G 4 X RX1 cX1_numberAt 0) (hr : (xM X).sig.returnType = (some .int)) (v : VLy) (hv : c.2.1 k = v) (a1 : Int32) (a2 : Int32) : JS G 4 X (QM G X (fun x : Int32 => some (.int x)) (fun x : Int32 => ((c, w) : VA))) (f_X1_numberAt v a1 a2) (c, w) 0 [(0, .ref (G.2.2 (78 + 2 * k))), (1, .int a1), (2, .int a2)] [] := by
  unfold f_X1_numberAt
  refine j_iload_n C 0 1 rfl dX1_numberAt_0 ?_
  refine j_if_ne C 1 13 dX1_numberAt_1 (by decide) (fun c1 => ?_) (fun c1 => ?_)
  · refine j_aload_n C 4 0 rfl dX1_numberAt_4 ?_
    refine g_Ly1 (k := k) C hk 5 (Or.inl fl_X1_15) dX1_numberAt_5 ?_
    refine j_iconst (v := 0) C 8 dX1_numberAt_8 rfl ?_
    refine j_bind (fun x9 h9 => ?_)
    refine l_Ly1 (k := k) (c0 := c) C hk hv 9 h9 dX1_numberAt_9 ?_
    refine j_goto C 10 19 dX1_numberAt_10 (by decide) ?_
    refine j_L (L' := [(2, .int a2)]) [2] rfl ?_
    exact wb_X1_numberAt_19 hk C hr v hv a2 x9
  · refine j_aload_n C 13 0 rfl dX1_numberAt_13 ?_
    refine g_Ly1 (k := k) C hk 14 (Or.inl fl_X1_15) dX1_numberAt_14 ?_
    refine j_iconst (v := 2) C 17 dX1_numberAt_17 rfl ?_
    refine j_bind (fun x18 h18 => ?_)
    refine l_Ly1 (k := k) (c0 := c) C hk hv 18 h18 dX1_numberAt_18 ?_
    refine j_L (L' := [(2, .int a2)]) [2] rfl ?_
    exact wb_X1_numberAt_19 hk C hr v hv a2 x18
theorem c_X1_numberAt {G : GG} {l : Launch} (hG : Gok G) {c : VC} {w : VW} {k : Nat} (hk : k < 9) (v : VLy) (hv : c.2.1 k = v) (a1 : Int32) (a2 : Int32) {x : Int32} (hf : f_X1_numberAt v a1 a2 = some x) : Ct l yX1_numberAt cX1_numberAt 4 (some .int) 0 [.ref (G.2.2 (78 + 2 * k)), .int a1, .int a2] G (c, w) (some (.int x)) (c, w) := by
  refine ct_of (rv := fun x : Int32 => (some (.int x))) (fin := fun x : Int32 => ((c, w) : VA)) (own := RX1) hG (plainFor_of_name (by decide)) rfl (Nat.le_of_ble_eq_true rfl) (fun X C hr _ => ?_) hf
  exact w_X1_numberAt hk C hr v hv a1 a2
set_option maxRecDepth 100000 in
set_option maxHeartbeats 4000000 in
theorem w_X1_numberAgainOf {G : GG} {X : WX} {c : VC} {w : VW} {k : Nat} (hk : k < 9) (C : Cx G 2 X RX1 cX1_numberAgainOf 1) (hr : (xM X).sig.returnType = (some .int)) (v : VLy) (hv : c.2.1 k = v) (a1 : Int32) : JS G 2 X (QM G X (fun x : Int32 => some (.int x)) (fun x : Int32 => ((c, w) : VA))) (f_X1_numberAgainOf v a1) (c, w) 0 [(0, .ref (G.2.2 (78 + 2 * k))), (1, .int a1)] [] := by
  unfold f_X1_numberAgainOf
  refine j_aload_n C 0 0 rfl dX1_numberAgainOf_0 ?_
  refine j_bind (fun x1 h1 => ?_)
  refine j_vLy_i (k := k) (As := []) (st := []) C hk k_X1_isMirrored 1 (c_X1_isMirrored C.2.2.2.2.2.2.1 (c := c) (k := k) hk _ hv h1) rfl rfl ml_X1_74 ii_X1_isMirrored is_X1_isMirrored dX1_numberAgainOf_1 (by decide) rfl (Nat.le_of_ble_eq_true rfl) ?_ rfl
  refine j_if_eq C 4 16 dX1_numberAgainOf_4 (by decide) (fun c4 => ?_) (fun c4 => ?_)
  · refine j_iconst (v := (-1)) C 16 dX1_numberAgainOf_16 rfl ?_
    exact j_iret C 17 hr rfl rfl dX1_numberAgainOf_17
  · refine j_aload_n C 7 0 rfl dX1_numberAgainOf_7 ?_
    refine j_iconst (v := 1) C 8 dX1_numberAgainOf_8 rfl ?_
    refine j_iload_n C 9 1 rfl dX1_numberAgainOf_9 ?_
    refine j_bind (fun x10 h10 => ?_)
    refine j_vLy_i (k := k) (As := [.int 1, .int a1]) (st := []) C hk k_X1_numberAt 10 (c_X1_numberAt C.2.2.2.2.2.2.1 (c := c) (k := k) hk _ hv _ _ h10) rfl rfl ml_X1_71 ii_X1_numberAt is_X1_numberAt dX1_numberAgainOf_10 (by decide) rfl (Nat.le_of_ble_eq_true rfl) ?_ rfl
    refine j_goto C 13 17 dX1_numberAgainOf_13 (by decide) ?_
    exact j_iret C 17 hr rfl rfl dX1_numberAgainOf_17
theorem c_X1_numberAgainOf {G : GG} {l : Launch} (hG : Gok G) {c : VC} {w : VW} {k : Nat} (hk : k < 9) (v : VLy) (hv : c.2.1 k = v) (a1 : Int32) {x : Int32} (hf : f_X1_numberAgainOf v a1 = some x) : Ct l yX1_numberAgainOf cX1_numberAgainOf 2 (some .int) 1 [.ref (G.2.2 (78 + 2 * k)), .int a1] G (c, w) (some (.int x)) (c, w) := by
  refine ct_of (rv := fun x : Int32 => (some (.int x))) (fin := fun x : Int32 => ((c, w) : VA)) (own := RX1) hG (plainFor_of_name (by decide)) rfl (Nat.le_of_ble_eq_true rfl) (fun X C hr _ => ?_) hf
  exact w_X1_numberAgainOf hk C hr v hv a1
set_option maxRecDepth 100000 in
set_option maxHeartbeats 4000000 in
theorem w_X1_numberOf {G : GG} {X : WX} {c : VC} {w : VW} {k : Nat} (hk : k < 9) (C : Cx G 2 X RX1 cX1_numberOf 1) (hr : (xM X).sig.returnType = (some .int)) (v : VLy) (hv : c.2.1 k = v) (a1 : Int32) : JS G 2 X (QM G X (fun x : Int32 => some (.int x)) (fun x : Int32 => ((c, w) : VA))) (f_X1_numberOf v a1) (c, w) 0 [(0, .ref (G.2.2 (78 + 2 * k))), (1, .int a1)] [] := by
  unfold f_X1_numberOf
  refine j_aload_n C 0 0 rfl dX1_numberOf_0 ?_
  refine j_aload_n C 1 0 rfl dX1_numberOf_1 ?_
  refine j_iload_n C 2 1 rfl dX1_numberOf_2 ?_
  refine j_bind (fun x3 h3 => ?_)
  refine j_vLy_i (k := k) (As := [.int a1]) (st := [.ref (G.2.2 (78 + 2 * k))]) C hk k_X1_channelOf 3 (c_X1_channelOf C.2.2.2.2.2.2.1 (c := c) (k := k) hk _ hv _ h3) rfl rfl ml_X1_62 ii_X1_channelOf is_X1_channelOf dX1_numberOf_3 (by decide) rfl (Nat.le_of_ble_eq_true rfl) ?_ rfl
  refine j_aload_n C 6 0 rfl dX1_numberOf_6 ?_
  refine j_iload_n C 7 1 rfl dX1_numberOf_7 ?_
  refine j_bind (fun x8 h8 => ?_)
  refine j_vLy_i (k := k) (As := [.int a1]) (st := [.int x3, .ref (G.2.2 (78 + 2 * k))]) C hk k_X1_indexOf 8 (c_X1_indexOf C.2.2.2.2.2.2.1 (c := c) (k := k) hk _ hv _ h8) rfl rfl ml_X1_65 ii_X1_indexOf is_X1_indexOf dX1_numberOf_8 (by decide) rfl (Nat.le_of_ble_eq_true rfl) ?_ rfl
  refine j_bind (fun x11 h11 => ?_)
  refine j_vLy_i (k := k) (As := [.int x3, .int x8]) (st := []) C hk k_X1_numberAt 11 (c_X1_numberAt C.2.2.2.2.2.2.1 (c := c) (k := k) hk _ hv _ _ h11) rfl rfl ml_X1_71 ii_X1_numberAt is_X1_numberAt dX1_numberOf_11 (by decide) rfl (Nat.le_of_ble_eq_true rfl) ?_ rfl
  exact j_iret C 14 hr rfl rfl dX1_numberOf_14
theorem c_X1_numberOf {G : GG} {l : Launch} (hG : Gok G) {c : VC} {w : VW} {k : Nat} (hk : k < 9) (v : VLy) (hv : c.2.1 k = v) (a1 : Int32) {x : Int32} (hf : f_X1_numberOf v a1 = some x) : Ct l yX1_numberOf cX1_numberOf 2 (some .int) 1 [.ref (G.2.2 (78 + 2 * k)), .int a1] G (c, w) (some (.int x)) (c, w) := by
  refine ct_of (rv := fun x : Int32 => (some (.int x))) (fin := fun x : Int32 => ((c, w) : VA)) (own := RX1) hG (plainFor_of_name (by decide)) rfl (Nat.le_of_ble_eq_true rfl) (fun X C hr _ => ?_) hf
  exact w_X1_numberOf hk C hr v hv a1
set_option maxRecDepth 100000 in
set_option maxHeartbeats 4000000 in
theorem w_X1_isWide {G : GG} {X : WX} {c : VC} {w : VW} {k : Nat} (hk : k < 9) (C : Cx G 2 X RX1 cX1_isWide 0) (hr : (xM X).sig.returnType = (some .boolean)) (v : VLy) (hv : c.2.1 k = v) (a1 : Int32) : JS G 2 X (QM G X (fun x : Int32 => some (.int x)) (fun x : Int32 => ((c, w) : VA))) (f_X1_isWide v a1) (c, w) 0 [(0, .ref (G.2.2 (78 + 2 * k))), (1, .int a1)] [] := by
  unfold f_X1_isWide
  refine j_iload_n C 0 1 rfl dX1_isWide_0 ?_
  refine j_aload_n C 1 0 rfl dX1_isWide_1 ?_
  refine g_Ly6 (k := k) (c0 := c) C hk hv 2 (Or.inl fl_X1_37) dX1_isWide_2 ?_
  refine j_icmp_ge C 5 12 dX1_isWide_5 (by decide) (fun c5 => ?_) (fun c5 => ?_)
  · refine j_iconst (v := 1) C 8 dX1_isWide_8 rfl ?_
    refine j_goto C 9 13 dX1_isWide_9 (by decide) ?_
    exact j_zret C 13 hr rfl rfl rfl dX1_isWide_13
  · refine j_iconst (v := 0) C 12 dX1_isWide_12 rfl ?_
    exact j_zret C 13 hr rfl rfl rfl dX1_isWide_13
theorem c_X1_isWide {G : GG} {l : Launch} (hG : Gok G) {c : VC} {w : VW} {k : Nat} (hk : k < 9) (v : VLy) (hv : c.2.1 k = v) (a1 : Int32) {x : Int32} (hf : f_X1_isWide v a1 = some x) : Ct l yX1_isWide cX1_isWide 2 (some .boolean) 0 [.ref (G.2.2 (78 + 2 * k)), .int a1] G (c, w) (some (.int x)) (c, w) := by
  refine ct_of (rv := fun x : Int32 => (some (.int x))) (fin := fun x : Int32 => ((c, w) : VA)) (own := RX1) hG (plainFor_of_name (by decide)) rfl (Nat.le_of_ble_eq_true rfl) (fun X C hr _ => ?_) hf
  exact w_X1_isWide hk C hr v hv a1
set_option maxRecDepth 100000 in
set_option maxHeartbeats 4000000 in
theorem w_X1_beginsPair {G : GG} {X : WX} {c : VC} {w : VW} {k : Nat} (hk : k < 9) (C : Cx G 2 X RX1 cX1_beginsPair 1) (hr : (xM X).sig.returnType = (some .boolean)) (v : VLy) (hv : c.2.1 k = v) (a1 : Int32) : JS G 2 X (QM G X (fun x : Int32 => some (.int x)) (fun x : Int32 => ((c, w) : VA))) (f_X1_beginsPair v a1) (c, w) 0 [(0, .ref (G.2.2 (78 + 2 * k))), (1, .int a1)] [] := by
  unfold f_X1_beginsPair
  refine j_aload_n C 0 0 rfl dX1_beginsPair_0 ?_
  refine j_iload_n C 1 1 rfl dX1_beginsPair_1 ?_
  refine j_bind (fun x2 h2 => ?_)
  refine j_vLy_i (k := k) (As := [.int a1]) (st := []) C hk k_X1_isWide 2 (c_X1_isWide C.2.2.2.2.2.2.1 (c := c) (k := k) hk _ hv _ h2) rfl rfl ml_X1_58 ii_X1_isWide is_X1_isWide dX1_beginsPair_2 (by decide) rfl (Nat.le_of_ble_eq_true rfl) ?_ rfl
  refine j_if_eq C 5 18 dX1_beginsPair_5 (by decide) (fun c5 => ?_) (fun c5 => ?_)
  · refine j_iconst (v := 0) C 18 dX1_beginsPair_18 rfl ?_
    exact j_zret C 19 hr rfl rfl rfl dX1_beginsPair_19
  · refine j_iload_n C 8 1 rfl dX1_beginsPair_8 ?_
    refine j_iconst (v := 1) C 9 dX1_beginsPair_9 rfl ?_
    refine j_iand C 10 dX1_beginsPair_10 ?_
    refine j_if_ne C 11 18 dX1_beginsPair_11 (by decide) (fun c11 => ?_) (fun c11 => ?_)
    · refine j_iconst (v := 1) C 14 dX1_beginsPair_14 rfl ?_
      refine j_goto C 15 19 dX1_beginsPair_15 (by decide) ?_
      exact j_zret C 19 hr rfl rfl rfl dX1_beginsPair_19
    · refine j_iconst (v := 0) C 18 dX1_beginsPair_18 rfl ?_
      exact j_zret C 19 hr rfl rfl rfl dX1_beginsPair_19
theorem c_X1_beginsPair {G : GG} {l : Launch} (hG : Gok G) {c : VC} {w : VW} {k : Nat} (hk : k < 9) (v : VLy) (hv : c.2.1 k = v) (a1 : Int32) {x : Int32} (hf : f_X1_beginsPair v a1 = some x) : Ct l yX1_beginsPair cX1_beginsPair 2 (some .boolean) 1 [.ref (G.2.2 (78 + 2 * k)), .int a1] G (c, w) (some (.int x)) (c, w) := by
  refine ct_of (rv := fun x : Int32 => (some (.int x))) (fin := fun x : Int32 => ((c, w) : VA)) (own := RX1) hG (plainFor_of_name (by decide)) rfl (Nat.le_of_ble_eq_true rfl) (fun X C hr _ => ?_) hf
  exact w_X1_beginsPair hk C hr v hv a1
