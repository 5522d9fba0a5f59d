set_option maxRecDepth 100000 in
set_option maxHeartbeats 4000000 in
theorem w_X5_isSlot {G : GG} {X : WX} {c : VC} {w : VR} (C : Cx G 1 X RX5 cX5_isSlot 0) (hr : (xM X).sig.returnType = (some .boolean)) (a0 : Int32) : JS G 1 X (QM G X (fun x : Int32 => some (.int x)) (fun x : Int32 => ((c, w) : VA))) (f_X5_isSlot a0) (c, w) 0 [(0, .int a0)] [] := by
  unfold f_X5_isSlot
  refine j_iload_n C 0 0 rfl dX5_isSlot_0 ?_
  refine j_if_lt C 1 13 dX5_isSlot_1 (by decide) (fun c1 => ?_) (fun c1 => ?_)
  · refine j_iconst (v := 0) C 13 dX5_isSlot_13 rfl ?_
    exact j_zret C 14 hr rfl rfl rfl dX5_isSlot_14
  · refine j_iload_n C 4 0 rfl dX5_isSlot_4 ?_
    refine j_iconst (v := 4) C 5 dX5_isSlot_5 rfl ?_
    refine j_icmp_ge C 6 13 dX5_isSlot_6 (by decide) (fun c6 => ?_) (fun c6 => ?_)
    · refine j_iconst (v := 1) C 9 dX5_isSlot_9 rfl ?_
      refine j_goto C 10 14 dX5_isSlot_10 (by decide) ?_
      exact j_zret C 14 hr rfl rfl rfl dX5_isSlot_14
    · refine j_iconst (v := 0) C 13 dX5_isSlot_13 rfl ?_
      exact j_zret C 14 hr rfl rfl rfl dX5_isSlot_14
theorem c_X5_isSlot {G : GG} {l : Launch} (hG : Gok G) {c : VC} {w : VR} (a0 : Int32) {x : Int32} (hf : f_X5_isSlot a0 = some x) : Ct l yX5_isSlot cX5_isSlot 1 (some .boolean) 0 [.int a0] G (c, w) (some (.int x)) (c, w) := by
  refine ct_of (rv := fun x : Int32 => (some (.int x))) (fin := fun x : Int32 => ((c, w) : VA)) (own := RX5) hG (plainFor_of_name (by decide)) rfl (Nat.le_of_ble_eq_true rfl) (fun X C hr _ => ?_) hf
  exact w_X5_isSlot C hr a0
set_option maxRecDepth 100000 in
set_option maxHeartbeats 4000000 in
theorem w_X5_isWithin {G : GG} {X : WX} {c : VC} {w : VR} (C : Cx G 3 X RX5 cX5_isWithin 0) (hr : (xM X).sig.returnType = (some .boolean)) (a0 : Int32) (a1 : Int32) (a2 : Int32) : JS G 3 X (QM G X (fun x : Int32 => some (.int x)) (fun x : Int32 => ((c, w) : VA))) (f_X5_isWithin a0 a1 a2) (c, w) 0 [(0, .int a0), (1, .int a1), (2, .int a2)] [] := by
  unfold f_X5_isWithin
  refine j_iload_n C 0 0 rfl dX5_isWithin_0 ?_
  refine j_iload_n C 1 1 rfl dX5_isWithin_1 ?_
  refine j_icmp_lt C 2 14 dX5_isWithin_2 (by decide) (fun c2 => ?_) (fun c2 => ?_)
  · refine j_iconst (v := 0) C 14 dX5_isWithin_14 rfl ?_
    exact j_zret C 15 hr rfl rfl rfl dX5_isWithin_15
  · refine j_iload_n C 5 0 rfl dX5_isWithin_5 ?_
    refine j_iload_n C 6 2 rfl dX5_isWithin_6 ?_
    refine j_icmp_gt C 7 14 dX5_isWithin_7 (by decide) (fun c7 => ?_) (fun c7 => ?_)
    · refine j_iconst (v := 0) C 14 dX5_isWithin_14 rfl ?_
      exact j_zret C 15 hr rfl rfl rfl dX5_isWithin_15
    · refine j_iconst (v := 1) C 10 dX5_isWithin_10 rfl ?_
      refine j_goto C 11 15 dX5_isWithin_11 (by decide) ?_
      exact j_zret C 15 hr rfl rfl rfl dX5_isWithin_15
theorem c_X5_isWithin {G : GG} {l : Launch} (hG : Gok G) {c : VC} {w : VR} (a0 : Int32) (a1 : Int32) (a2 : Int32) {x : Int32} (hf : f_X5_isWithin a0 a1 a2 = some x) : Ct l yX5_isWithin cX5_isWithin 3 (some .boolean) 0 [.int a0, .int a1, .int a2] G (c, w) (some (.int x)) (c, w) := by
  refine ct_of (rv := fun x : Int32 => (some (.int x))) (fin := fun x : Int32 => ((c, w) : VA)) (own := RX5) hG (plainFor_of_name (by decide)) rfl (Nat.le_of_ble_eq_true rfl) (fun X C hr _ => ?_) hf
  exact w_X5_isWithin C hr a0 a1 a2
set_option maxRecDepth 100000 in
set_option maxHeartbeats 4000000 in
theorem w_X5_entry {G : GG} {X : WX} {c : VC} {w : VR} (C : Cx G 2 X RX5 cX5_entry 0) (hr : (xM X).sig.returnType = (some .int)) (n0 : Nat) (f0 : Nat → Int32) (q0 : Nat) (hq0 : q0 < 121) (hc0 : cellA G.2.1 G.2.2 (c, w) q0 = cI (G.2.1 0) n0 f0) (a1 : Int32) : JS G 2 X (QM G X (fun x : Int32 => some (.int x)) (fun x : Int32 => ((c, w) : VA))) (f_X5_entry n0 f0 a1) (c, w) 0 [(0, .ref (G.2.2 q0)), (1, .int a1)] [] := by
  unfold f_X5_entry
  refine j_iload_n C 0 1 rfl dX5_entry_0 ?_
  refine j_if_lt C 1 16 dX5_entry_1 (by decide) (fun c1 => ?_) (fun c1 => ?_)
  · refine j_iconst (v := 0) C 16 dX5_entry_16 rfl ?_
    exact j_iret C 17 hr rfl rfl dX5_entry_17
  · refine j_iload_n C 4 1 rfl dX5_entry_4 ?_
    refine j_aload_n C 5 0 rfl dX5_entry_5 ?_
    refine j_alen C 6 q0 hq0 rfl hc0 rfl dX5_entry_6 ?_
    refine j_icmp_ge C 7 16 dX5_entry_7 (by decide) (fun c7 => ?_) (fun c7 => ?_)
    · refine j_aload_n C 10 0 rfl dX5_entry_10 ?_
      refine j_iload_n C 11 1 rfl dX5_entry_11 ?_
      refine j_bind (fun x12 h12 => ?_)
      refine j_iald C 12 q0 hq0 rfl hc0 h12 dX5_entry_12 ?_
      refine j_goto C 13 17 dX5_entry_13 (by decide) ?_
      exact j_iret C 17 hr rfl rfl dX5_entry_17
    · refine j_iconst (v := 0) C 16 dX5_entry_16 rfl ?_
      exact j_iret C 17 hr rfl rfl dX5_entry_17
theorem c_X5_entry {G : GG} {l : Launch} (hG : Gok G) {c : VC} {w : VR} (n0 : Nat) (f0 : Nat → Int32) (q0 : Nat) (hq0 : q0 < 121) (hc0 : cellA G.2.1 G.2.2 (c, w) q0 = cI (G.2.1 0) n0 f0) (a1 : Int32) {x : Int32} (hf : f_X5_entry n0 f0 a1 = some x) : Ct l yX5_entry cX5_entry 2 (some .int) 0 [.ref (G.2.2 q0), .int a1] G (c, w) (some (.int x)) (c, w) := by
  refine ct_of (rv := fun x : Int32 => (some (.int x))) (fin := fun x : Int32 => ((c, w) : VA)) (own := RX5) hG (plainFor_of_name (by decide)) rfl (Nat.le_of_ble_eq_true rfl) (fun X C hr _ => ?_) hf
  exact w_X5_entry C hr n0 f0 q0 hq0 hc0 a1
set_option maxRecDepth 100000 in
set_option maxHeartbeats 4000000 in
theorem wb_X5_bits_72 {G : GG} {X : WX} {c : VC} {w : VR} (C : Cx G 9 X RX5 cX5_bits 0) (hr : (xM X).sig.returnType = (some .long)) (s3 : Int32) (s4 : UInt64) (s6 : UInt64) (s8 : Int32) : JS G 9 X (QM G X (fun x : Int64 => some (.long x)) (fun x : Int64 => ((c, w) : VA))) (b_X5_bits_72 s3 s4 s6 s8) (c, w) 72 [(3, .int s3), (4, .double s4), (6, .double s6), (8, .int s8)] [] := by
  unfold b_X5_bits_72
  refine j_iload C 72 3 rfl dX5_bits_72 ?_
  refine j_i2l C 74 dX5_bits_74 ?_
  refine j_iload_n C 75 0 rfl dX5_bits_75 ?_
  refine j_lshl C 76 dX5_bits_76 ?_
  refine j_dload C 77 2 rfl dX5_bits_77 ?_
  refine j_dconst1 C 79 dX5_bits_79 ?_
  refine j_bind (fun x80 h80 => ?_)
  refine j_dsub C 80 h80 dX5_bits_80 ?_
  refine j_dload C 81 1 rfl dX5_bits_81 ?_
  refine j_bind (fun x83 h83 => ?_)
  refine j_dmul C 83 h83 dX5_bits_83 ?_
  refine j_d2l C 84 dX5_bits_84 ?_
  refine j_ladd C 85 dX5_bits_85 ?_
  exact j_lret C 86 hr rfl rfl dX5_bits_86
set_option maxRecDepth 100000 in
set_option maxHeartbeats 4000000 in
theorem wl_X5_bits_41 {G : GG} {X : WX} {c : VC} {w : VR} (C : Cx G 9 X RX5 cX5_bits 0) (hr : (xM X).sig.returnType = (some .long)) : ∀ (n : Nat) (s2 : Int32) (s3 : Int32) (s4 : UInt64) (s6 : UInt64) (s8 : Int32), JS G 9 X (QM G X (fun x : Int64 => some (.long x)) (fun x : Int64 => ((c, w) : VA))) (l_X5_bits_41 n s2 s3 s4 s6 s8) (c, w) 41 [(2, .int s2), (3, .int s3), (4, .double s4), (6, .double s6), (8, .int s8)] [] := by
  intro n
  induction n with
  | zero => intro _ _ _ _ _; exact j_none
  | succ n ih =>
    intro s2 s3 s4 s6 s8
    unfold l_X5_bits_41
    refine j_dload C 41 3 rfl dX5_bits_41 ?_
    refine j_ldc2d C 43 dX5_bits_43 lc_X5_365 ?_
    refine j_dcmp C 46 dX5_bits_46 ?_
    refine j_if_lt C 47 72 dX5_bits_47 (by decide) (fun c47 => ?_) (fun c47 => ?_)
    · refine j_L (L' := [(3, .int s3), (4, .double s4), (6, .double s6), (8, .int s8)]) [1, 2, 3, 4] rfl ?_
      exact wb_X5_bits_72 C hr s3 s4 s6 s8
    · refine j_iload C 50 4 rfl dX5_bits_50 ?_
      refine j_iconst (v := 2) C 52 dX5_bits_52 rfl ?_
      refine j_iload_n C 53 0 rfl dX5_bits_53 ?_
      refine j_imul C 54 dX5_bits_54 ?_
      refine j_icmp_ge C 55 72 dX5_bits_55 (by decide) (fun c55 => ?_) (fun c55 => ?_)
      · refine j_dload C 58 3 rfl dX5_bits_58 ?_
        refine j_ldc2d C 60 dX5_bits_60 lc_X5_365 ?_
        refine j_bind (fun x63 h63 => ?_)
        refine j_ddiv C 63 h63 dX5_bits_63 ?_
        refine j_dstore (L1 := [(6, .double x63), (2, .int s2), (3, .int s3), (4, .double s4), (8, .int s8)]) C 64 dX5_bits_64 (by decide) rfl ?_
        refine j_iinc (v := (s8 + 1)) (L1 := [(8, .int (s8 + 1)), (6, .double x63), (2, .int s2), (3, .int s3), (4, .double s4)]) C 66 4 rfl dX5_bits_66 rfl (by decide) rfl ?_
        refine j_goto C 69 41 dX5_bits_69 (by decide) ?_
        refine j_L (L' := [(2, .int s2), (3, .int s3), (4, .double s4), (6, .double x63), (8, .int (s8 + 1))]) [2, 3, 4, 1, 0] rfl ?_
        exact ih s2 s3 s4 x63 (s8 + 1)
      · refine j_L (L' := [(3, .int s3), (4, .double s4), (6, .double s6), (8, .int s8)]) [1, 2, 3, 4] rfl ?_
        exact wb_X5_bits_72 C hr s3 s4 s6 s8
set_option maxRecDepth 100000 in
set_option maxHeartbeats 4000000 in
theorem wl_X5_bits_14 {G : GG} {X : WX} {c : VC} {w : VR} (C : Cx G 9 X RX5 cX5_bits 0) (hr : (xM X).sig.returnType = (some .long)) : ∀ (n : Nat) (s2 : Int32) (s3 : Int32) (s4 : UInt64) (s6 : UInt64) (s8 : Int32), JS G 9 X (QM G X (fun x : Int64 => some (.long x)) (fun x : Int64 => ((c, w) : VA))) (l_X5_bits_14 n s2 s3 s4 s6 s8) (c, w) 14 [(2, .int s2), (3, .int s3), (4, .double s4), (6, .double s6), (8, .int s8)] [] := by
  intro n
  induction n with
  | zero => intro _ _ _ _ _; exact j_none
  | succ n ih =>
    intro s2 s3 s4 s6 s8
    unfold l_X5_bits_14
    refine j_dload C 14 3 rfl dX5_bits_14 ?_
    refine j_dconst1 C 16 dX5_bits_16 ?_
    refine j_dcmp C 17 dX5_bits_17 ?_
    refine j_if_ge C 18 41 dX5_bits_18 (by decide) (fun c18 => ?_) (fun c18 => ?_)
    · refine j_iload C 21 4 rfl dX5_bits_21 ?_
      refine j_iconst (v := 1) C 23 dX5_bits_23 rfl ?_
      refine j_icmp_le C 24 41 dX5_bits_24 (by decide) (fun c24 => ?_) (fun c24 => ?_)
      · refine j_dload C 27 3 rfl dX5_bits_27 ?_
        refine j_ldc2d C 29 dX5_bits_29 lc_X5_365 ?_
        refine j_bind (fun x32 h32 => ?_)
        refine j_dmul C 32 h32 dX5_bits_32 ?_
        refine j_dstore (L1 := [(6, .double x32), (2, .int s2), (3, .int s3), (4, .double s4), (8, .int s8)]) C 33 dX5_bits_33 (by decide) rfl ?_
        refine j_iinc (v := (s8 + (-1))) (L1 := [(8, .int (s8 + (-1))), (6, .double x32), (2, .int s2), (3, .int s3), (4, .double s4)]) C 35 4 rfl dX5_bits_35 rfl (by decide) rfl ?_
        refine j_goto C 38 14 dX5_bits_38 (by decide) ?_
        refine j_L (L' := [(2, .int s2), (3, .int s3), (4, .double s4), (6, .double x32), (8, .int (s8 + (-1)))]) [2, 3, 4, 1, 0] rfl ?_
        exact ih s2 s3 s4 x32 (s8 + (-1))
      · exact wl_X5_bits_41 C hr FU s2 s3 s4 s6 s8
    · exact wl_X5_bits_41 C hr FU s2 s3 s4 s6 s8
set_option maxRecDepth 100000 in
set_option maxHeartbeats 4000000 in
theorem w_X5_bits {G : GG} {X : WX} {c : VC} {w : VR} (C : Cx G 9 X RX5 cX5_bits 0) (hr : (xM X).sig.returnType = (some .long)) (a0 : UInt64) (a2 : Int32) (a3 : Int32) (a4 : UInt64) : JS G 9 X (QM G X (fun x : Int64 => some (.long x)) (fun x : Int64 => ((c, w) : VA))) (f_X5_bits a0 a2 a3 a4) (c, w) 0 [(0, .double a0), (2, .int a2), (3, .int a3), (4, .double a4)] [] := by
  unfold f_X5_bits
  refine j_dload_n C 0 0 rfl dX5_bits_0 ?_
  refine j_dconst0 C 1 dX5_bits_1 ?_
  refine j_dcmp C 2 dX5_bits_2 ?_
  refine j_if_gt C 3 8 dX5_bits_3 (by decide) (fun c3 => ?_) (fun c3 => ?_)
  · refine j_dload_n C 8 0 rfl dX5_bits_8 ?_
    refine j_dstore (L1 := [(6, .double a0), (0, .double a0), (2, .int a2), (3, .int a3), (4, .double a4)]) C 9 dX5_bits_9 (by decide) rfl ?_
    refine j_iload_n C 11 2 rfl dX5_bits_11 ?_
    refine j_istore (L1 := [(8, .int a2), (6, .double a0), (0, .double a0), (2, .int a2), (3, .int a3), (4, .double a4)]) C 12 dX5_bits_12 (by decide) rfl ?_
    refine j_L (L' := [(2, .int a2), (3, .int a3), (4, .double a4), (6, .double a0), (8, .int a2)]) [3, 4, 5, 1, 0] rfl ?_
    exact wl_X5_bits_14 C hr FU a2 a3 a4 a0 a2
  · refine j_lconst (v := 0) C 6 dX5_bits_6 rfl ?_
    exact j_lret C 7 hr rfl rfl dX5_bits_7
theorem c_X5_bits {G : GG} {l : Launch} (hG : Gok G) {c : VC} {w : VR} (a0 : UInt64) (a2 : Int32) (a3 : Int32) (a4 : UInt64) {x : Int64} (hf : f_X5_bits a0 a2 a3 a4 = some x) : Ct l yX5_bits cX5_bits 9 (some .long) 0 [.double a0, .int a2, .int a3, .double a4] G (c, w) (some (.long x)) (c, w) := by
  refine ct_of (rv := fun x : Int64 => (some (.long x))) (fin := fun x : Int64 => ((c, w) : VA)) (own := RX5) hG (plainFor_of_name (by decide)) rfl (Nat.le_of_ble_eq_true rfl) (fun X C hr _ => ?_) hf
  exact w_X5_bits C hr a0 a2 a3 a4
set_option maxRecDepth 100000 in
set_option maxHeartbeats 4000000 in
theorem w_X5_doubleBits {G : GG} {X : WX} {c : VC} {w : VR} (C : Cx G 2 X RX5 cX5_doubleBits 1) (hr : (xM X).sig.returnType = (some .long)) (a0 : UInt64) : JS G 2 X (QM G X (fun x : Int64 => some (.long x)) (fun x : Int64 => ((c, w) : VA))) (f_X5_doubleBits a0) (c, w) 0 [(0, .double a0)] [] := by
  unfold f_X5_doubleBits
  refine j_dload_n C 0 0 rfl dX5_doubleBits_0 ?_
  refine j_sipush (v := 1023) C 1 dX5_doubleBits_1 rfl ?_
  refine j_bipush (v := 52) C 4 dX5_doubleBits_4 rfl ?_
  refine j_ldc2d C 6 dX5_doubleBits_6 lc_X5_357 ?_
  refine j_bind (fun x9 h9 => ?_)
  refine j_callS_l (As := [.double a0, .int 1023, .int 52, .double (4841369599423283200 : UInt64)]) (st := []) C k_X5_bits 9 (c_X5_bits C.2.2.2.2.2.2.1 (c := c) _ _ _ _ h9) rfl ml_X5_359 st_X5_bits dX5_doubleBits_9 (by decide) rfl (Nat.le_of_ble_eq_true rfl) ?_ rfl
  exact j_lret C 12 hr rfl rfl dX5_doubleBits_12
theorem c_X5_doubleBits {G : GG} {l : Launch} (hG : Gok G) {c : VC} {w : VR} (a0 : UInt64) {x : Int64} (hf : f_X5_doubleBits a0 = some x) : Ct l yX5_doubleBits cX5_doubleBits 2 (some .long) 1 [.double a0] G (c, w) (some (.long x)) (c, w) := by
  refine ct_of (rv := fun x : Int64 => (some (.long x))) (fin := fun x : Int64 => ((c, w) : VA)) (own := RX5) hG (plainFor_of_name (by decide)) rfl (Nat.le_of_ble_eq_true rfl) (fun X C hr _ => ?_) hf
  exact w_X5_doubleBits C hr a0
set_option maxRecDepth 100000 in
set_option maxHeartbeats 4000000 in
theorem w_X5_floatBits {G : GG} {X : WX} {c : VC} {w : VR} (C : Cx G 1 X RX5 cX5_floatBits 1) (hr : (xM X).sig.returnType = (some .long)) (a0 : UInt32) : JS G 1 X (QM G X (fun x : Int64 => some (.long x)) (fun x : Int64 => ((c, w) : VA))) (f_X5_floatBits a0) (c, w) 0 [(0, .float a0)] [] := by
  unfold f_X5_floatBits
  refine j_fload_n C 0 0 rfl dX5_floatBits_0 ?_
  refine j_bind (fun x1 h1 => ?_)
  refine j_f2d C 1 h1 dX5_floatBits_1 ?_
  refine j_bipush (v := 127) C 2 dX5_floatBits_2 rfl ?_
  refine j_bipush (v := 23) C 4 dX5_floatBits_4 rfl ?_
  refine j_ldc2d C 6 dX5_floatBits_6 lc_X5_363 ?_
  refine j_bind (fun x9 h9 => ?_)
  refine j_callS_l (As := [.double x1, .int 127, .int 23, .double (4710765210229538816 : UInt64)]) (st := []) C k_X5_bits 9 (c_X5_bits C.2.2.2.2.2.2.1 (c := c) _ _ _ _ h9) rfl ml_X5_359 st_X5_bits dX5_floatBits_9 (by decide) rfl (Nat.le_of_ble_eq_true rfl) ?_ rfl
  exact j_lret C 12 hr rfl rfl dX5_floatBits_12
theorem c_X5_floatBits {G : GG} {l : Launch} (hG : Gok G) {c : VC} {w : VR} (a0 : UInt32) {x : Int64} (hf : f_X5_floatBits a0 = some x) : Ct l yX5_floatBits cX5_floatBits 1 (some .long) 1 [.float a0] G (c, w) (some (.long x)) (c, w) := by
  refine ct_of (rv := fun x : Int64 => (some (.long x))) (fin := fun x : Int64 => ((c, w) : VA)) (own := RX5) hG (plainFor_of_name (by decide)) rfl (Nat.le_of_ble_eq_true rfl) (fun X C hr _ => ?_) hf
  exact w_X5_floatBits C hr a0
