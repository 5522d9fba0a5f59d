set_option maxRecDepth 100000 in
set_option maxHeartbeats 4000000 in
theorem w_J9_min_7cf53 {G : GG} {X : WX} {c : VC} {w : VR} (C : Cx G 2 X RJ9 cJ9_min_7cf53 0) (hr : (xM X).sig.returnType = (some .int)) (a0 : Int32) (a1 : Int32) : JS G 2 X (QM G X (fun x : Int32 => some (.int x)) (fun x : Int32 => ((c, w) : VA))) (f_J9_min_7cf53 a0 a1) (c, w) 0 [(0, .int a0), (1, .int a1)] [] := by
  unfold f_J9_min_7cf53
  refine j_iload_n C 0 0 rfl dJ9_min_7cf53_0 ?_
  refine j_iload_n C 1 1 rfl dJ9_min_7cf53_1 ?_
  refine j_icmp_gt C 2 9 dJ9_min_7cf53_2 (by decide) (fun c2 => ?_) (fun c2 => ?_)
  · refine j_iload_n C 9 1 rfl dJ9_min_7cf53_9 ?_
    exact j_iret C 10 hr rfl rfl dJ9_min_7cf53_10
  · refine j_iload_n C 5 0 rfl dJ9_min_7cf53_5 ?_
    refine j_goto C 6 10 dJ9_min_7cf53_6 (by decide) ?_
    exact j_iret C 10 hr rfl rfl dJ9_min_7cf53_10
theorem c_J9_min_7cf53 {G : GG} {l : Launch} (hG : Gok G) {c : VC} {w : VR} (a0 : Int32) (a1 : Int32) {x : Int32} (hf : f_J9_min_7cf53 a0 a1 = some x) : Ct l yJ9_min_7cf53 cJ9_min_7cf53 2 (some .int) 0 [.int a0, .int a1] G (c, w) (some (.int x)) (c, w) := by
  refine ct_of (rv := fun x : Int32 => (some (.int x))) (fin := fun x : Int32 => ((c, w) : VA)) (own := RJ9) hG (by decide +kernel) rfl (Nat.le_of_ble_eq_true rfl) (fun X C hr _ => ?_) hf
  exact w_J9_min_7cf53 C hr a0 a1
set_option maxRecDepth 100000 in
set_option maxHeartbeats 4000000 in
theorem w_Jxe99ae_isNaN_b9ae7 {G : GG} {X : WX} {c : VC} {w : VR} (C : Cx G 2 X RJxe99ae cJxe99ae_isNaN_b9ae7 0) (hr : (xM X).sig.returnType = (some .boolean)) (a0 : UInt64) : JS G 2 X (QM G X (fun x : Int32 => some (.int x)) (fun x : Int32 => ((c, w) : VA))) (f_Jxe99ae_isNaN_b9ae7 a0) (c, w) 0 [(0, .double a0)] [] := by
  unfold f_Jxe99ae_isNaN_b9ae7
  refine j_dload_n C 0 0 rfl dJxe99ae_isNaN_b9ae7_0 ?_
  refine j_dload_n C 1 0 rfl dJxe99ae_isNaN_b9ae7_1 ?_
  refine j_dcmp C 2 dJxe99ae_isNaN_b9ae7_2 ?_
  refine j_if_eq C 3 10 dJxe99ae_isNaN_b9ae7_3 (by decide) (fun c3 => ?_) (fun c3 => ?_)
  · refine j_iconst (v := 0) C 10 dJxe99ae_isNaN_b9ae7_10 rfl ?_
    exact j_zret C 11 hr rfl rfl rfl dJxe99ae_isNaN_b9ae7_11
  · refine j_iconst (v := 1) C 6 dJxe99ae_isNaN_b9ae7_6 rfl ?_
    refine j_goto C 7 11 dJxe99ae_isNaN_b9ae7_7 (by decide) ?_
    exact j_zret C 11 hr rfl rfl rfl dJxe99ae_isNaN_b9ae7_11
theorem c_Jxe99ae_isNaN_b9ae7 {G : GG} {l : Launch} (hG : Gok G) {c : VC} {w : VR} (a0 : UInt64) {x : Int32} (hf : f_Jxe99ae_isNaN_b9ae7 a0 = some x) : Ct l yJxe99ae_isNaN_b9ae7 cJxe99ae_isNaN_b9ae7 2 (some .boolean) 0 [.double a0] G (c, w) (some (.int x)) (c, w) := by
  refine ct_of (rv := fun x : Int32 => (some (.int x))) (fin := fun x : Int32 => ((c, w) : VA)) (own := RJxe99ae) hG (by decide +kernel) rfl (Nat.le_of_ble_eq_true rfl) (fun X C hr _ => ?_) hf
  exact w_Jxe99ae_isNaN_b9ae7 C hr a0
set_option maxRecDepth 100000 in
set_option maxHeartbeats 4000000 in
theorem w_Jxe99ae_doubleToLongBits_ccdee {G : GG} {X : WX} {c : VC} {w : VR} (C : Cx G 2 X RJxe99ae cJxe99ae_doubleToLongBits_ccdee 2) (hr : (xM X).sig.returnType = (some .long)) (a0 : UInt64) : JS G 2 X (QM G X (fun x : Int64 => some (.long x)) (fun x : Int64 => ((c, w) : VA))) (f_Jxe99ae_doubleToLongBits_ccdee a0) (c, w) 0 [(0, .double a0)] [] := by
  unfold f_Jxe99ae_doubleToLongBits_ccdee
  refine j_dload_n C 0 0 rfl dJxe99ae_doubleToLongBits_ccdee_0 ?_
  refine j_bind (fun x1 h1 => ?_)
  refine j_callS_i (As := [.double a0]) (st := []) C k_Jxe99ae_isNaN_b9ae7 1 (c_Jxe99ae_isNaN_b9ae7 C.2.2.2.2.2.2.1 (c := c) _ h1) rfl ml_Jd_122 st_Jxe99ae_isNaN_b9ae7 dJxe99ae_doubleToLongBits_ccdee_1 (by decide) rfl (Nat.le_of_ble_eq_true rfl) ?_ rfl
  refine j_if_ne C 4 12 dJxe99ae_doubleToLongBits_ccdee_4 (by decide) (fun c4 => ?_) (fun c4 => ?_)
  · refine j_dload_n C 7 0 rfl dJxe99ae_doubleToLongBits_ccdee_7 ?_
    refine j_draw C 8 (by decide) ml_Jd_134 dJxe99ae_doubleToLongBits_ccdee_8 ?_
    exact j_lret C 11 hr rfl rfl dJxe99ae_doubleToLongBits_ccdee_11
  · refine j_ldc2 C 12 dJxe99ae_doubleToLongBits_ccdee_12 lc_Jd_137 ?_
    exact j_lret C 15 hr rfl rfl dJxe99ae_doubleToLongBits_ccdee_15
theorem c_Jxe99ae_doubleToLongBits_ccdee {G : GG} {l : Launch} (hG : Gok G) {c : VC} {w : VR} (a0 : UInt64) {x : Int64} (hf : f_Jxe99ae_doubleToLongBits_ccdee a0 = some x) : Ct l yJxe99ae_doubleToLongBits_ccdee cJxe99ae_doubleToLongBits_ccdee 2 (some .long) 2 [.double a0] G (c, w) (some (.long x)) (c, w) := by
  refine ct_of (rv := fun x : Int64 => (some (.long x))) (fin := fun x : Int64 => ((c, w) : VA)) (own := RJxe99ae) hG (by decide +kernel) rfl (Nat.le_of_ble_eq_true rfl) (fun X C hr _ => ?_) hf
  exact w_Jxe99ae_doubleToLongBits_ccdee C hr a0
set_option maxRecDepth 100000 in
set_option maxHeartbeats 4000000 in
theorem w_Jxf58ca_isNaN_12338 {G : GG} {X : WX} {c : VC} {w : VR} (C : Cx G 1 X RJxf58ca cJxf58ca_isNaN_12338 0) (hr : (xM X).sig.returnType = (some .boolean)) (a0 : UInt32) : JS G 1 X (QM G X (fun x : Int32 => some (.int x)) (fun x : Int32 => ((c, w) : VA))) (f_Jxf58ca_isNaN_12338 a0) (c, w) 0 [(0, .float a0)] [] := by
  unfold f_Jxf58ca_isNaN_12338
  refine j_fload_n C 0 0 rfl dJxf58ca_isNaN_12338_0 ?_
  refine j_fload_n C 1 0 rfl dJxf58ca_isNaN_12338_1 ?_
  refine j_fcmp C 2 dJxf58ca_isNaN_12338_2 ?_
  refine j_if_eq C 3 10 dJxf58ca_isNaN_12338_3 (by decide) (fun c3 => ?_) (fun c3 => ?_)
  · refine j_iconst (v := 0) C 10 dJxf58ca_isNaN_12338_10 rfl ?_
    exact j_zret C 11 hr rfl rfl rfl dJxf58ca_isNaN_12338_11
  · refine j_iconst (v := 1) C 6 dJxf58ca_isNaN_12338_6 rfl ?_
    refine j_goto C 7 11 dJxf58ca_isNaN_12338_7 (by decide) ?_
    exact j_zret C 11 hr rfl rfl rfl dJxf58ca_isNaN_12338_11
theorem c_Jxf58ca_isNaN_12338 {G : GG} {l : Launch} (hG : Gok G) {c : VC} {w : VR} (a0 : UInt32) {x : Int32} (hf : f_Jxf58ca_isNaN_12338 a0 = some x) : Ct l yJxf58ca_isNaN_12338 cJxf58ca_isNaN_12338 1 (some .boolean) 0 [.float a0] G (c, w) (some (.int x)) (c, w) := by
  refine ct_of (rv := fun x : Int32 => (some (.int x))) (fin := fun x : Int32 => ((c, w) : VA)) (own := RJxf58ca) hG (by decide +kernel) rfl (Nat.le_of_ble_eq_true rfl) (fun X C hr _ => ?_) hf
  exact w_Jxf58ca_isNaN_12338 C hr a0
set_option maxRecDepth 100000 in
set_option maxHeartbeats 4000000 in
theorem w_Jxf58ca_floatToIntBits_5c35a {G : GG} {X : WX} {c : VC} {w : VR} (C : Cx G 1 X RJxf58ca cJxf58ca_floatToIntBits_5c35a 2) (hr : (xM X).sig.returnType = (some .int)) (a0 : UInt32) : JS G 1 X (QM G X (fun x : Int32 => some (.int x)) (fun x : Int32 => ((c, w) : VA))) (f_Jxf58ca_floatToIntBits_5c35a a0) (c, w) 0 [(0, .float a0)] [] := by
  unfold f_Jxf58ca_floatToIntBits_5c35a
  refine j_fload_n C 0 0 rfl dJxf58ca_floatToIntBits_5c35a_0 ?_
  refine j_bind (fun x1 h1 => ?_)
  refine j_callS_i (As := [.float a0]) (st := []) C k_Jxf58ca_isNaN_12338 1 (c_Jxf58ca_isNaN_12338 C.2.2.2.2.2.2.1 (c := c) _ h1) rfl ml_Jf_59 st_Jxf58ca_isNaN_12338 dJxf58ca_floatToIntBits_5c35a_1 (by decide) rfl (Nat.le_of_ble_eq_true rfl) ?_ rfl
  refine j_if_ne C 4 12 dJxf58ca_floatToIntBits_5c35a_4 (by decide) (fun c4 => ?_) (fun c4 => ?_)
  · refine j_fload_n C 7 0 rfl dJxf58ca_floatToIntBits_5c35a_7 ?_
    refine j_fraw C 8 (by decide) ml_Jf_74 dJxf58ca_floatToIntBits_5c35a_8 ?_
    exact j_iret C 11 hr rfl rfl dJxf58ca_floatToIntBits_5c35a_11
  · refine j_ldc C 12 dJxf58ca_floatToIntBits_5c35a_12 lc_Jf_77 ?_
    exact j_iret C 14 hr rfl rfl dJxf58ca_floatToIntBits_5c35a_14
theorem c_Jxf58ca_floatToIntBits_5c35a {G : GG} {l : Launch} (hG : Gok G) {c : VC} {w : VR} (a0 : UInt32) {x : Int32} (hf : f_Jxf58ca_floatToIntBits_5c35a a0 = some x) : Ct l yJxf58ca_floatToIntBits_5c35a cJxf58ca_floatToIntBits_5c35a 1 (some .int) 2 [.float a0] G (c, w) (some (.int x)) (c, w) := by
  refine ct_of (rv := fun x : Int32 => (some (.int x))) (fin := fun x : Int32 => ((c, w) : VA)) (own := RJxf58ca) hG (by decide +kernel) rfl (Nat.le_of_ble_eq_true rfl) (fun X C hr _ => ?_) hf
  exact w_Jxf58ca_floatToIntBits_5c35a C hr a0
