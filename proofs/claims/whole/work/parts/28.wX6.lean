set_option maxRecDepth 100000 in
set_option maxHeartbeats 4000000 in
theorem w_X6_thrown {G : GG} {X : WX} {c : VC} {o : Nat → Int64} (C : Cx G 1 X RX6 cX6_thrown 0) (hr : (xM X).sig.returnType = (some .int)) (v : VM) : JS G 1 X (QM G X (fun x : Int32 => some (.int x)) (fun x : Int32 => ((c, (v, o)) : VA))) (f_X6_thrown v) (c, (v, o)) 0 [(0, .ref (G.2.2 114))] [] := by
  unfold f_X6_thrown
  refine j_aload_n C 0 0 rfl dX6_thrown_0 ?_
  refine g_Mo0 C 1 (Or.inl fl_X6_25) dX6_thrown_1 ?_
  exact j_iret C 4 hr rfl rfl dX6_thrown_4
theorem c_X6_thrown {G : GG} {l : Launch} (hG : Gok G) {c : VC} {o : Nat → Int64} (v : VM) {x : Int32} (hf : f_X6_thrown v = some x) : Ct l yX6_thrown cX6_thrown 1 (some .int) 0 [.ref (G.2.2 114)] G (c, (v, o)) (some (.int x)) (c, (v, o)) := by
  refine ct_of (rv := fun x : Int32 => (some (.int x))) (fin := fun x : Int32 => ((c, (v, o)) : VA)) (own := RX6) hG (plainFor_of_name (by decide)) rfl (Nat.le_of_ble_eq_true rfl) (fun X C hr _ => ?_) hf
  exact w_X6_thrown C hr v
set_option maxRecDepth 100000 in
set_option maxHeartbeats 4000000 in
theorem w_X6_in {G : GG} {X : WX} {c : VC} {w : VR} (C : Cx G 3 X RX6 cX6_in 0) (hr : (xM X).sig.returnType = (some .boolean)) (a0 : Int32) (a1 : Int32) (a2 : Int32) : JS G 3 X (QM G X (fun x : Int32 => some (.int x)) (fun x : Int32 => ((c, w) : VA))) (f_X6_in a0 a1 a2) (c, w) 0 [(0, .int a0), (1, .int a1), (2, .int a2)] [] := by
  unfold f_X6_in
  refine j_iload_n C 0 0 rfl dX6_in_0 ?_
  refine j_iload_n C 1 1 rfl dX6_in_1 ?_
  refine j_icmp_lt C 2 14 dX6_in_2 (by decide) (fun c2 => ?_) (fun c2 => ?_)
  · refine j_iconst (v := 0) C 14 dX6_in_14 rfl ?_
    exact j_zret C 15 hr rfl rfl rfl dX6_in_15
  · refine j_iload_n C 5 0 rfl dX6_in_5 ?_
    refine j_iload_n C 6 2 rfl dX6_in_6 ?_
    refine j_icmp_gt C 7 14 dX6_in_7 (by decide) (fun c7 => ?_) (fun c7 => ?_)
    · refine j_iconst (v := 0) C 14 dX6_in_14 rfl ?_
      exact j_zret C 15 hr rfl rfl rfl dX6_in_15
    · refine j_iconst (v := 1) C 10 dX6_in_10 rfl ?_
      refine j_goto C 11 15 dX6_in_11 (by decide) ?_
      exact j_zret C 15 hr rfl rfl rfl dX6_in_15
theorem c_X6_in {G : GG} {l : Launch} (hG : Gok G) {c : VC} {w : VR} (a0 : Int32) (a1 : Int32) (a2 : Int32) {x : Int32} (hf : f_X6_in a0 a1 a2 = some x) : Ct l yX6_in cX6_in 3 (some .boolean) 0 [.int a0, .int a1, .int a2] G (c, w) (some (.int x)) (c, w) := by
  refine ct_of (rv := fun x : Int32 => (some (.int x))) (fin := fun x : Int32 => ((c, w) : VA)) (own := RX6) hG (plainFor_of_name (by decide)) rfl (Nat.le_of_ble_eq_true rfl) (fun X C hr _ => ?_) hf
  exact w_X6_in C hr a0 a1 a2
set_option maxRecDepth 100000 in
set_option maxHeartbeats 4000000 in
theorem w_X6_isSlot {G : GG} {X : WX} {c : VC} {w : VR} (C : Cx G 1 X RX6 cX6_isSlot 1) (hr : (xM X).sig.returnType = (some .boolean)) (a0 : Int32) : JS G 1 X (QM G X (fun x : Int32 => some (.int x)) (fun x : Int32 => ((c, w) : VA))) (f_X6_isSlot a0) (c, w) 0 [(0, .int a0)] [] := by
  unfold f_X6_isSlot
  refine j_iload_n C 0 0 rfl dX6_isSlot_0 ?_
  refine j_iconst (v := 0) C 1 dX6_isSlot_1 rfl ?_
  refine j_iconst (v := 3) C 2 dX6_isSlot_2 rfl ?_
  refine j_bind (fun x3 h3 => ?_)
  refine j_callS_i (As := [.int a0, .int 0, .int 3]) (st := []) C k_X6_in 3 (c_X6_in C.2.2.2.2.2.2.1 (c := c) _ _ _ h3) rfl ml_X6_29 st_X6_in dX6_isSlot_3 (by decide) rfl (Nat.le_of_ble_eq_true rfl) ?_ rfl
  refine j_bind (fun r6 h6 => ?_)
  obtain ⟨hb6, rfl⟩ := bck_in h6
  exact j_zret C 6 hr hb6 rfl rfl dX6_isSlot_6
theorem c_X6_isSlot {G : GG} {l : Launch} (hG : Gok G) {c : VC} {w : VR} (a0 : Int32) {x : Int32} (hf : f_X6_isSlot a0 = some x) : Ct l yX6_isSlot cX6_isSlot 1 (some .boolean) 1 [.int a0] G (c, w) (some (.int x)) (c, w) := by
  refine ct_of (rv := fun x : Int32 => (some (.int x))) (fin := fun x : Int32 => ((c, w) : VA)) (own := RX6) hG (plainFor_of_name (by decide)) rfl (Nat.le_of_ble_eq_true rfl) (fun X C hr _ => ?_) hf
  exact w_X6_isSlot C hr a0
set_option maxRecDepth 100000 in
set_option maxHeartbeats 4000000 in
theorem w_X6_of {G : GG} {X : WX} {c : VC} {o : Nat → Int64} (C : Cx G 3 X RX6 cX6_of 0) (hr : (xM X).sig.returnType = (some .int)) (v : VM) (a1 : Int32) (a2 : Int32) : JS G 3 X (QM G X (fun x : Int32 => some (.int x)) (fun x : Int32 => ((c, (v, o)) : VA))) (f_X6_of v a1 a2) (c, (v, o)) 0 [(0, .ref (G.2.2 114)), (1, .int a1), (2, .int a2)] [] := by
  unfold f_X6_of
  refine j_aload_n C 0 0 rfl dX6_of_0 ?_
  refine g_Mo1 C 1 (Or.inl fl_X6_7) dX6_of_1 ?_
  refine j_bipush (v := 9) C 4 dX6_of_4 rfl ?_
  refine j_iload_n C 6 1 rfl dX6_of_6 ?_
  refine j_imul C 7 dX6_of_7 ?_
  refine j_iload_n C 8 2 rfl dX6_of_8 ?_
  refine j_iadd C 9 dX6_of_9 ?_
  refine j_bind (fun x10 h10 => ?_)
  refine l_Mo1 C 10 h10 dX6_of_10 ?_
  exact j_iret C 11 hr rfl rfl dX6_of_11
theorem c_X6_of {G : GG} {l : Launch} (hG : Gok G) {c : VC} {o : Nat → Int64} (v : VM) (a1 : Int32) (a2 : Int32) {x : Int32} (hf : f_X6_of v a1 a2 = some x) : Ct l yX6_of cX6_of 3 (some .int) 0 [.ref (G.2.2 114), .int a1, .int a2] G (c, (v, o)) (some (.int x)) (c, (v, o)) := by
  refine ct_of (rv := fun x : Int32 => (some (.int x))) (fin := fun x : Int32 => ((c, (v, o)) : VA)) (own := RX6) hG (plainFor_of_name (by decide)) rfl (Nat.le_of_ble_eq_true rfl) (fun X C hr _ => ?_) hf
  exact w_X6_of C hr v a1 a2
set_option maxRecDepth 100000 in
set_option maxHeartbeats 4000000 in
theorem w_X6_put {G : GG} {X : WX} {c : VC} {o : Nat → Int64} (C : Cx G 4 X RX6 cX6_put 0) (hr : (xM X).sig.returnType = none) (v : VM) (a1 : Int32) (a2 : Int32) (a3 : Int32) : JS G 4 X (QM G X (fun x : VM => none) (fun x : VM => ((c, (x, o)) : VA))) (f_X6_put v a1 a2 a3) (c, (v, o)) 0 [(0, .ref (G.2.2 114)), (1, .int a1), (2, .int a2), (3, .int a3)] [] := by
  unfold f_X6_put
  refine j_aload_n C 0 0 rfl dX6_put_0 ?_
  refine g_Mo1 C 1 (Or.inl fl_X6_7) dX6_put_1 ?_
  refine j_bipush (v := 9) C 4 dX6_put_4 rfl ?_
  refine j_iload_n C 6 1 rfl dX6_put_6 ?_
  refine j_imul C 7 dX6_put_7 ?_
  refine j_iload_n C 8 2 rfl dX6_put_8 ?_
  refine j_iadd C 9 dX6_put_9 ?_
  refine j_iload_n C 10 3 rfl dX6_put_10 ?_
  refine j_bind (fun x11 h11 => ?_)
  refine t_Mo1 C 11 h11 dX6_put_11 ?_
  refine j_V (V' := (c, ((v.1, x11, v.2.2), o))) rfl ?_
  exact j_vret C 12 hr rfl rfl dX6_put_12
theorem c_X6_put {G : GG} {l : Launch} (hG : Gok G) {c : VC} {o : Nat → Int64} (v : VM) (a1 : Int32) (a2 : Int32) (a3 : Int32) {x : VM} (hf : f_X6_put v a1 a2 a3 = some x) : Ct l yX6_put cX6_put 4 none 0 [.ref (G.2.2 114), .int a1, .int a2, .int a3] G (c, (v, o)) none (c, (x, o)) := by
  refine ct_of (rv := fun x : VM => none) (fin := fun x : VM => ((c, (x, o)) : VA)) (own := RX6) hG (plainFor_of_name (by decide)) rfl (Nat.le_of_ble_eq_true rfl) (fun X C hr _ => ?_) hf
  exact w_X6_put C hr v a1 a2 a3
set_option maxRecDepth 100000 in
set_option maxHeartbeats 4000000 in
theorem w_X6_isThere {G : GG} {X : WX} {c : VC} {o : Nat → Int64} (C : Cx G 2 X RX6 cX6_isThere 1) (hr : (xM X).sig.returnType = (some .boolean)) (v : VM) (a1 : Int32) : JS G 2 X (QM G X (fun x : Int32 => some (.int x)) (fun x : Int32 => ((c, (v, o)) : VA))) (f_X6_isThere v a1) (c, (v, o)) 0 [(0, .ref (G.2.2 114)), (1, .int a1)] [] := by
  unfold f_X6_isThere
  refine j_aload_n C 0 0 rfl dX6_isThere_0 ?_
  refine j_iload_n C 1 1 rfl dX6_isThere_1 ?_
  refine j_iconst (v := 0) C 2 dX6_isThere_2 rfl ?_
  refine j_bind (fun x3 h3 => ?_)
  refine j_vMo_i (As := [.int a1, .int 0]) (st := []) C k_X6_of 3 (c_X6_of C.2.2.2.2.2.2.1 _ _ _ h3) rfl rfl ml_X6_33 ii_X6_of is_X6_of dX6_isThere_3 (by decide) rfl (Nat.le_of_ble_eq_true rfl) ?_ rfl
  refine j_iconst (v := 1) C 6 dX6_isThere_6 rfl ?_
  refine j_icmp_ne C 7 14 dX6_isThere_7 (by decide) (fun c7 => ?_) (fun c7 => ?_)
  · refine j_iconst (v := 1) C 10 dX6_isThere_10 rfl ?_
    refine j_goto C 11 15 dX6_isThere_11 (by decide) ?_
    exact j_zret C 15 hr rfl rfl rfl dX6_isThere_15
  · refine j_iconst (v := 0) C 14 dX6_isThere_14 rfl ?_
    exact j_zret C 15 hr rfl rfl rfl dX6_isThere_15
theorem c_X6_isThere {G : GG} {l : Launch} (hG : Gok G) {c : VC} {o : Nat → Int64} (v : VM) (a1 : Int32) {x : Int32} (hf : f_X6_isThere v a1 = some x) : Ct l yX6_isThere cX6_isThere 2 (some .boolean) 1 [.ref (G.2.2 114), .int a1] G (c, (v, o)) (some (.int x)) (c, (v, o)) := by
  refine ct_of (rv := fun x : Int32 => (some (.int x))) (fin := fun x : Int32 => ((c, (v, o)) : VA)) (own := RX6) hG (plainFor_of_name (by decide)) rfl (Nat.le_of_ble_eq_true rfl) (fun X C hr _ => ?_) hf
  exact w_X6_isThere C hr v a1
set_option maxRecDepth 100000 in
set_option maxHeartbeats 4000000 in
theorem w_X6_isLeft {G : GG} {X : WX} {c : VC} {o : Nat → Int64} (C : Cx G 2 X RX6 cX6_isLeft 1) (hr : (xM X).sig.returnType = (some .boolean)) (v : VM) (a1 : Int32) : JS G 2 X (QM G X (fun x : Int32 => some (.int x)) (fun x : Int32 => ((c, (v, o)) : VA))) (f_X6_isLeft v a1) (c, (v, o)) 0 [(0, .ref (G.2.2 114)), (1, .int a1)] [] := by
  unfold f_X6_isLeft
  refine j_aload_n C 0 0 rfl dX6_isLeft_0 ?_
  refine j_iload_n C 1 1 rfl dX6_isLeft_1 ?_
  refine j_iconst (v := 5) C 2 dX6_isLeft_2 rfl ?_
  refine j_bind (fun x3 h3 => ?_)
  refine j_vMo_i (As := [.int a1, .int 5]) (st := []) C k_X6_of 3 (c_X6_of C.2.2.2.2.2.2.1 _ _ _ h3) rfl rfl ml_X6_33 ii_X6_of is_X6_of dX6_isLeft_3 (by decide) rfl (Nat.le_of_ble_eq_true rfl) ?_ rfl
  refine j_iconst (v := 1) C 6 dX6_isLeft_6 rfl ?_
  refine j_icmp_ne C 7 23 dX6_isLeft_7 (by decide) (fun c7 => ?_) (fun c7 => ?_)
  · refine j_aload_n C 10 0 rfl dX6_isLeft_10 ?_
    refine j_iload_n C 11 1 rfl dX6_isLeft_11 ?_
    refine j_iconst (v := 4) C 12 dX6_isLeft_12 rfl ?_
    refine j_bind (fun x13 h13 => ?_)
    refine j_vMo_i (As := [.int a1, .int 4]) (st := []) C k_X6_of 13 (c_X6_of C.2.2.2.2.2.2.1 _ _ _ h13) rfl rfl ml_X6_33 ii_X6_of is_X6_of dX6_isLeft_13 (by decide) rfl (Nat.le_of_ble_eq_true rfl) ?_ rfl
    refine j_if_ne C 16 23 dX6_isLeft_16 (by decide) (fun c16 => ?_) (fun c16 => ?_)
    · refine j_iconst (v := 1) C 19 dX6_isLeft_19 rfl ?_
      refine j_goto C 20 24 dX6_isLeft_20 (by decide) ?_
      exact j_zret C 24 hr rfl rfl rfl dX6_isLeft_24
    · refine j_iconst (v := 0) C 23 dX6_isLeft_23 rfl ?_
      exact j_zret C 24 hr rfl rfl rfl dX6_isLeft_24
  · refine j_iconst (v := 0) C 23 dX6_isLeft_23 rfl ?_
    exact j_zret C 24 hr rfl rfl rfl dX6_isLeft_24
theorem c_X6_isLeft {G : GG} {l : Launch} (hG : Gok G) {c : VC} {o : Nat → Int64} (v : VM) (a1 : Int32) {x : Int32} (hf : f_X6_isLeft v a1 = some x) : Ct l yX6_isLeft cX6_isLeft 2 (some .boolean) 1 [.ref (G.2.2 114), .int a1] G (c, (v, o)) (some (.int x)) (c, (v, o)) := by
  refine ct_of (rv := fun x : Int32 => (some (.int x))) (fin := fun x : Int32 => ((c, (v, o)) : VA)) (own := RX6) hG (plainFor_of_name (by decide)) rfl (Nat.le_of_ble_eq_true rfl) (fun X C hr _ => ?_) hf
  exact w_X6_isLeft C hr v a1
set_option maxRecDepth 100000 in
set_option maxHeartbeats 4000000 in
theorem wl_X6_record_51 {G : GG} {X : WX} {c : VC} {o : Nat → Int64} (C : Cx G 2 X RX6 cX6_record 0) (hr : (xM X).sig.returnType = none) : ∀ (n : Nat) (v : VM) (s1 : Int32), JS G 2 X (QM G X (fun x : VM => none) (fun x : VM => ((c, (x, o)) : VA))) (l_X6_record_51 n v s1) (c, (v, o)) 51 [(0, .ref (G.2.2 114)), (1, .int s1)] [] := by
  intro n
  induction n with
  | zero => intro _ _; exact j_none
  | succ n ih =>
    intro v s1
    unfold l_X6_record_51
    refine j_iload_n C 51 1 rfl dX6_record_51 ?_
    refine j_bipush (v := 96) C 52 dX6_record_52 rfl ?_
    refine j_icmp_ge C 54 83 dX6_record_54 (by decide) (fun c54 => ?_) (fun c54 => ?_)
    · refine j_aload_n C 57 0 rfl dX6_record_57 ?_
      refine g_Mo3 C 58 (Or.inl fl_X6_16) dX6_record_58 ?_
      refine j_bipush (v := 96) C 61 dX6_record_61 rfl ?_
      refine j_aload_n C 63 0 rfl dX6_record_63 ?_
      refine g_Mo4 C 64 (Or.inl fl_X6_37) dX6_record_64 ?_
      refine j_imul C 67 dX6_record_67 ?_
      refine j_iload_n C 68 1 rfl dX6_record_68 ?_
      refine j_iadd C 69 dX6_record_69 ?_
      refine j_aload_n C 70 0 rfl dX6_record_70 ?_
      refine g_Mo1 C 71 (Or.inl fl_X6_7) dX6_record_71 ?_
      refine j_iload_n C 74 1 rfl dX6_record_74 ?_
      refine j_bind (fun x75 h75 => ?_)
      refine l_Mo1 C 75 h75 dX6_record_75 ?_
      refine j_bind (fun x76 h76 => ?_)
      refine t_Mo3 C 76 h76 dX6_record_76 ?_
      refine j_V (V' := (c, ((v.1, v.2.1, v.2.2.1, x76, v.2.2.2.2), o))) rfl ?_
      refine j_iinc (v := (s1 + 1)) (L1 := [(1, .int (s1 + 1)), (0, .ref (G.2.2 114))]) C 77 1 rfl dX6_record_77 rfl (by decide) rfl ?_
      refine j_goto C 80 51 dX6_record_80 (by decide) ?_
      refine j_L (L' := [(0, .ref (G.2.2 114)), (1, .int (s1 + 1))]) [1, 0] rfl ?_
      exact ih (v.1, v.2.1, v.2.2.1, x76, v.2.2.2.2) (s1 + 1)
    · refine j_aload_n C 83 0 rfl dX6_record_83 ?_
      refine j_dup C 84 dX6_record_84 rfl ?_
      refine g_Mo4 C 85 (Or.inl fl_X6_37) dX6_record_85 ?_
      refine j_iconst (v := 1) C 88 dX6_record_88 rfl ?_
      refine j_iadd C 89 dX6_record_89 ?_
      refine p_Mo4 C 90 fl_X6_37 dX6_record_90 ?_
      refine j_V (V' := (c, ((v.1, v.2.1, v.2.2.1, v.2.2.2.1, (v.2.2.2.2.1 + 1), v.2.2.2.2.2), o))) rfl ?_
      exact j_vret C 93 hr rfl rfl dX6_record_93
set_option maxRecDepth 100000 in
set_option maxHeartbeats 4000000 in
theorem wl_X6_record_11 {G : GG} {X : WX} {c : VC} {o : Nat → Int64} (C : Cx G 2 X RX6 cX6_record 0) (hr : (xM X).sig.returnType = none) : ∀ (n : Nat) (v : VM) (s1 : Int32), JS G 2 X (QM G X (fun x : VM => none) (fun x : VM => ((c, (x, o)) : VA))) (l_X6_record_11 n v s1) (c, (v, o)) 11 [(0, .ref (G.2.2 114)), (1, .int s1)] [] := by
  intro n
  induction n with
  | zero => intro _ _; exact j_none
  | succ n ih =>
    intro v s1
    unfold l_X6_record_11
    refine j_iload_n C 11 1 rfl dX6_record_11 ?_
    refine j_sipush (v := 480) C 12 dX6_record_12 rfl ?_
    refine j_icmp_ge C 15 39 dX6_record_15 (by decide) (fun c15 => ?_) (fun c15 => ?_)
    · refine j_aload_n C 18 0 rfl dX6_record_18 ?_
      refine g_Mo3 C 19 (Or.inl fl_X6_16) dX6_record_19 ?_
      refine j_iload_n C 22 1 rfl dX6_record_22 ?_
      refine j_aload_n C 23 0 rfl dX6_record_23 ?_
      refine g_Mo3 C 24 (Or.inl fl_X6_16) dX6_record_24 ?_
      refine j_bipush (v := 96) C 27 dX6_record_27 rfl ?_
      refine j_iload_n C 29 1 rfl dX6_record_29 ?_
      refine j_iadd C 30 dX6_record_30 ?_
      refine j_bind (fun x31 h31 => ?_)
      refine l_Mo3 C 31 h31 dX6_record_31 ?_
      refine j_bind (fun x32 h32 => ?_)
      refine t_Mo3 C 32 h32 dX6_record_32 ?_
      refine j_V (V' := (c, ((v.1, v.2.1, v.2.2.1, x32, v.2.2.2.2), o))) rfl ?_
      refine j_iinc (v := (s1 + 1)) (L1 := [(1, .int (s1 + 1)), (0, .ref (G.2.2 114))]) C 33 1 rfl dX6_record_33 rfl (by decide) rfl ?_
      refine j_goto C 36 11 dX6_record_36 (by decide) ?_
      refine j_L (L' := [(0, .ref (G.2.2 114)), (1, .int (s1 + 1))]) [1, 0] rfl ?_
      exact ih (v.1, v.2.1, v.2.2.1, x32, v.2.2.2.2) (s1 + 1)
    · refine j_aload_n C 39 0 rfl dX6_record_39 ?_
      refine j_dup C 40 dX6_record_40 rfl ?_
      refine g_Mo4 C 41 (Or.inl fl_X6_37) dX6_record_41 ?_
      refine j_iconst (v := 1) C 44 dX6_record_44 rfl ?_
      refine j_isub C 45 dX6_record_45 ?_
      refine p_Mo4 C 46 fl_X6_37 dX6_record_46 ?_
      refine j_V (V' := (c, ((v.1, v.2.1, v.2.2.1, v.2.2.2.1, (v.2.2.2.2.1 - 1), v.2.2.2.2.2), o))) rfl ?_
      refine j_iconst (v := 0) C 49 dX6_record_49 rfl ?_
      refine j_istore_n (L1 := [(1, .int 0), (0, .ref (G.2.2 114))]) C 50 rfl dX6_record_50 (by decide) rfl ?_
      refine j_L (L' := [(0, .ref (G.2.2 114)), (1, .int 0)]) [1, 0] rfl ?_
      exact wl_X6_record_51 C hr FU (v.1, v.2.1, v.2.2.1, v.2.2.2.1, (v.2.2.2.2.1 - 1), v.2.2.2.2.2) 0
set_option maxRecDepth 100000 in
set_option maxHeartbeats 4000000 in
theorem w_X6_record {G : GG} {X : WX} {c : VC} {o : Nat → Int64} (C : Cx G 2 X RX6 cX6_record 0) (hr : (xM X).sig.returnType = none) (v : VM) : JS G 2 X (QM G X (fun x : VM => none) (fun x : VM => ((c, (x, o)) : VA))) (f_X6_record v) (c, (v, o)) 0 [(0, .ref (G.2.2 114))] [] := by
  unfold f_X6_record
  refine j_aload_n C 0 0 rfl dX6_record_0 ?_
  refine g_Mo4 C 1 (Or.inl fl_X6_37) dX6_record_1 ?_
  refine j_bipush (v := 6) C 4 dX6_record_4 rfl ?_
  refine j_icmp_ne C 6 49 dX6_record_6 (by decide) (fun c6 => ?_) (fun c6 => ?_)
  · refine j_iconst (v := 0) C 9 dX6_record_9 rfl ?_
    refine j_istore_n (L1 := [(1, .int 0), (0, .ref (G.2.2 114))]) C 10 rfl dX6_record_10 (by decide) rfl ?_
    refine j_L (L' := [(0, .ref (G.2.2 114)), (1, .int 0)]) [1, 0] rfl ?_
    exact wl_X6_record_11 C hr FU v 0
  · refine j_iconst (v := 0) C 49 dX6_record_49 rfl ?_
    refine j_istore_n (L1 := [(1, .int 0), (0, .ref (G.2.2 114))]) C 50 rfl dX6_record_50 (by decide) rfl ?_
    refine j_L (L' := [(0, .ref (G.2.2 114)), (1, .int 0)]) [1, 0] rfl ?_
    exact wl_X6_record_51 C hr FU v 0
theorem c_X6_record {G : GG} {l : Launch} (hG : Gok G) {c : VC} {o : Nat → Int64} (v : VM) {x : VM} (hf : f_X6_record v = some x) : Ct l yX6_record cX6_record 2 none 0 [.ref (G.2.2 114)] G (c, (v, o)) none (c, (x, o)) := by
  refine ct_of (rv := fun x : VM => none) (fin := fun x : VM => ((c, (x, o)) : VA)) (own := RX6) hG (plainFor_of_name (by decide)) rfl (Nat.le_of_ble_eq_true rfl) (fun X C hr _ => ?_) hf
  exact w_X6_record C hr v
set_option maxRecDepth 100000 in
set_option maxHeartbeats 4000000 in
theorem wl_X6_undo_37 {G : GG} {X : WX} {c : VC} {o : Nat → Int64} (C : Cx G 2 X RX6 cX6_undo 0) (hr : (xM X).sig.returnType = (some .int)) : ∀ (n : Nat) (v : VM) (s1 : Int32), JS G 2 X (QM G X (fun x : (Int32 × VM) => some (.int x.1)) (fun x : (Int32 × VM) => ((c, (x.2, o)) : VA))) (l_X6_undo_37 n v s1) (c, (v, o)) 37 [(0, .ref (G.2.2 114)), (1, .int s1)] [] := by
  intro n
  induction n with
  | zero => intro _ _; exact j_none
  | succ n ih =>
    intro v s1
    unfold l_X6_undo_37
    refine j_iload_n C 37 1 rfl dX6_undo_37 ?_
    refine j_bipush (v := 96) C 38 dX6_undo_38 rfl ?_
    refine j_icmp_ge C 40 69 dX6_undo_40 (by decide) (fun c40 => ?_) (fun c40 => ?_)
    · refine j_aload_n C 43 0 rfl dX6_undo_43 ?_
      refine g_Mo1 C 44 (Or.inl fl_X6_7) dX6_undo_44 ?_
      refine j_iload_n C 47 1 rfl dX6_undo_47 ?_
      refine j_aload_n C 48 0 rfl dX6_undo_48 ?_
      refine g_Mo3 C 49 (Or.inl fl_X6_16) dX6_undo_49 ?_
      refine j_bipush (v := 96) C 52 dX6_undo_52 rfl ?_
      refine j_aload_n C 54 0 rfl dX6_undo_54 ?_
      refine g_Mo4 C 55 (Or.inl fl_X6_37) dX6_undo_55 ?_
      refine j_imul C 58 dX6_undo_58 ?_
      refine j_iload_n C 59 1 rfl dX6_undo_59 ?_
      refine j_iadd C 60 dX6_undo_60 ?_
      refine j_bind (fun x61 h61 => ?_)
      refine l_Mo3 C 61 h61 dX6_undo_61 ?_
      refine j_bind (fun x62 h62 => ?_)
      refine t_Mo1 C 62 h62 dX6_undo_62 ?_
      refine j_V (V' := (c, ((v.1, x62, v.2.2), o))) rfl ?_
      refine j_iinc (v := (s1 + 1)) (L1 := [(1, .int (s1 + 1)), (0, .ref (G.2.2 114))]) C 63 1 rfl dX6_undo_63 rfl (by decide) rfl ?_
      refine j_goto C 66 37 dX6_undo_66 (by decide) ?_
      refine j_L (L' := [(0, .ref (G.2.2 114)), (1, .int (s1 + 1))]) [1, 0] rfl ?_
      exact ih (v.1, x62, v.2.2) (s1 + 1)
    · refine j_aload_n C 69 0 rfl dX6_undo_69 ?_
      refine g_Mo4 C 70 (Or.inl fl_X6_37) dX6_undo_70 ?_
      exact j_iret C 73 hr rfl rfl dX6_undo_73
set_option maxRecDepth 100000 in
set_option maxHeartbeats 4000000 in
theorem wb_X6_undo_13 {G : GG} {X : WX} {c : VC} {o : Nat → Int64} (C : Cx G 2 X RX6 cX6_undo 0) (hr : (xM X).sig.returnType = (some .int)) (v : VM) (t0 : Int32) : JS G 2 X (QM G X (fun x : (Int32 × VM) => some (.int x.1)) (fun x : (Int32 × VM) => ((c, (x.2, o)) : VA))) (b_X6_undo_13 v t0) (c, (v, o)) 13 [(0, .ref (G.2.2 114))] [.int t0, .ref (G.2.2 114)] := by
  unfold b_X6_undo_13
  refine p_Mo0 C 13 fl_X6_25 dX6_undo_13 ?_
  refine j_V (V' := (c, ((t0, v.2), o))) rfl ?_
  refine j_aload_n C 16 0 rfl dX6_undo_16 ?_
  refine g_Mo0 C 17 (Or.inl fl_X6_25) dX6_undo_17 ?_
  refine j_if_le C 20 25 dX6_undo_20 (by decide) (fun c20 => ?_) (fun c20 => ?_)
  · refine j_iconst (v := 0) C 23 dX6_undo_23 rfl ?_
    exact j_iret C 24 hr rfl rfl dX6_undo_24
  · refine j_aload_n C 25 0 rfl dX6_undo_25 ?_
    refine j_dup C 26 dX6_undo_26 rfl ?_
    refine g_Mo4 C 27 (Or.inl fl_X6_37) dX6_undo_27 ?_
    refine j_iconst (v := 1) C 30 dX6_undo_30 rfl ?_
    refine j_isub C 31 dX6_undo_31 ?_
    refine p_Mo4 C 32 fl_X6_37 dX6_undo_32 ?_
    refine j_V (V' := (c, ((t0, v.2.1, v.2.2.1, v.2.2.2.1, (v.2.2.2.2.1 - 1), v.2.2.2.2.2), o))) rfl ?_
    refine j_iconst (v := 0) C 35 dX6_undo_35 rfl ?_
    refine j_istore_n (L1 := [(1, .int 0), (0, .ref (G.2.2 114))]) C 36 rfl dX6_undo_36 (by decide) rfl ?_
    refine j_L (L' := [(0, .ref (G.2.2 114)), (1, .int 0)]) [1, 0] rfl ?_
    exact wl_X6_undo_37 C hr FU (t0, v.2.1, v.2.2.1, v.2.2.2.1, (v.2.2.2.2.1 - 1), v.2.2.2.2.2) 0
set_option maxRecDepth 100000 in
set_option maxHeartbeats 4000000 in
theorem w_X6_undo {G : GG} {X : WX} {c : VC} {o : Nat → Int64} (C : Cx G 2 X RX6 cX6_undo 0) (hr : (xM X).sig.returnType = (some .int)) (v : VM) : JS G 2 X (QM G X (fun x : (Int32 × VM) => some (.int x.1)) (fun x : (Int32 × VM) => ((c, (x.2, o)) : VA))) (f_X6_undo v) (c, (v, o)) 0 [(0, .ref (G.2.2 114))] [] := by
  unfold f_X6_undo
  refine j_aload_n C 0 0 rfl dX6_undo_0 ?_
  refine j_aload_n C 1 0 rfl dX6_undo_1 ?_
  refine g_Mo4 C 2 (Or.inl fl_X6_37) dX6_undo_2 ?_
  refine j_if_ne C 5 12 dX6_undo_5 (by decide) (fun c5 => ?_) (fun c5 => ?_)
  · refine j_iconst (v := 1) C 8 dX6_undo_8 rfl ?_
    refine j_goto C 9 13 dX6_undo_9 (by decide) ?_
    exact wb_X6_undo_13 C hr v 1
  · refine j_iconst (v := 0) C 12 dX6_undo_12 rfl ?_
    exact wb_X6_undo_13 C hr v 0
theorem c_X6_undo {G : GG} {l : Launch} (hG : Gok G) {c : VC} {o : Nat → Int64} (v : VM) {x : (Int32 × VM)} (hf : f_X6_undo v = some x) : Ct l yX6_undo cX6_undo 2 (some .int) 0 [.ref (G.2.2 114)] G (c, (v, o)) (some (.int x.1)) (c, (x.2, o)) := by
  refine ct_of (rv := fun x : (Int32 × VM) => (some (.int x.1))) (fin := fun x : (Int32 × VM) => ((c, (x.2, o)) : VA)) (own := RX6) hG (plainFor_of_name (by decide)) rfl (Nat.le_of_ble_eq_true rfl) (fun X C hr _ => ?_) hf
  exact w_X6_undo C hr v
set_option maxRecDepth 100000 in
set_option maxHeartbeats 4000000 in
theorem wl_X6_keep_7 {G : GG} {X : WX} {c : VC} {o : Nat → Int64} (C : Cx G 2 X RX6 cX6_keep 0) (hr : (xM X).sig.returnType = (some .int)) : ∀ (n : Nat) (v : VM) (s1 : Int32), JS G 2 X (QM G X (fun x : (Int32 × VM) => some (.int x.1)) (fun x : (Int32 × VM) => ((c, (x.2, o)) : VA))) (l_X6_keep_7 n v s1) (c, (v, o)) 7 [(0, .ref (G.2.2 114)), (1, .int s1)] [] := by
  intro n
  induction n with
  | zero => intro _ _; exact j_none
  | succ n ih =>
    intro v s1
    unfold l_X6_keep_7
    refine j_iload_n C 7 1 rfl dX6_keep_7 ?_
    refine j_bipush (v := 96) C 8 dX6_keep_8 rfl ?_
    refine j_icmp_ge C 10 31 dX6_keep_10 (by decide) (fun c10 => ?_) (fun c10 => ?_)
    · refine j_aload_n C 13 0 rfl dX6_keep_13 ?_
      refine g_Mo5 C 14 (Or.inl fl_X6_19) dX6_keep_14 ?_
      refine j_iload_n C 17 1 rfl dX6_keep_17 ?_
      refine j_aload_n C 18 0 rfl dX6_keep_18 ?_
      refine g_Mo1 C 19 (Or.inl fl_X6_7) dX6_keep_19 ?_
      refine j_iload_n C 22 1 rfl dX6_keep_22 ?_
      refine j_bind (fun x23 h23 => ?_)
      refine l_Mo1 C 23 h23 dX6_keep_23 ?_
      refine j_bind (fun x24 h24 => ?_)
      refine t_Mo5 C 24 h24 dX6_keep_24 ?_
      refine j_V (V' := (c, ((v.1, v.2.1, v.2.2.1, v.2.2.2.1, v.2.2.2.2.1, x24, v.2.2.2.2.2.2), o))) rfl ?_
      refine j_iinc (v := (s1 + 1)) (L1 := [(1, .int (s1 + 1)), (0, .ref (G.2.2 114))]) C 25 1 rfl dX6_keep_25 rfl (by decide) rfl ?_
      refine j_goto C 28 7 dX6_keep_28 (by decide) ?_
      refine j_L (L' := [(0, .ref (G.2.2 114)), (1, .int (s1 + 1))]) [1, 0] rfl ?_
      exact ih (v.1, v.2.1, v.2.2.1, v.2.2.2.1, v.2.2.2.2.1, x24, v.2.2.2.2.2.2) (s1 + 1)
    · refine j_aload_n C 31 0 rfl dX6_keep_31 ?_
      refine j_iconst (v := 1) C 32 dX6_keep_32 rfl ?_
      refine p_Mo6 C 33 rfl rfl fl_X6_40 dX6_keep_33 ?_
      refine j_V (V' := (c, ((v.1, v.2.1, v.2.2.1, v.2.2.2.1, v.2.2.2.2.1, v.2.2.2.2.2.1, 1, v.2.2.2.2.2.2.2), o))) rfl ?_
      refine j_aload_n C 36 0 rfl dX6_keep_36 ?_
      refine g_Mo1 C 37 (Or.inl fl_X6_7) dX6_keep_37 ?_
      refine j_bipush (v := 41) C 40 dX6_keep_40 rfl ?_
      refine j_bind (fun x42 h42 => ?_)
      refine l_Mo1 C 42 h42 dX6_keep_42 ?_
      exact j_iret C 43 hr rfl rfl dX6_keep_43
set_option maxRecDepth 100000 in
set_option maxHeartbeats 4000000 in
theorem w_X6_keep {G : GG} {X : WX} {c : VC} {o : Nat → Int64} (C : Cx G 2 X RX6 cX6_keep 0) (hr : (xM X).sig.returnType = (some .int)) (v : VM) : JS G 2 X (QM G X (fun x : (Int32 × VM) => some (.int x.1)) (fun x : (Int32 × VM) => ((c, (x.2, o)) : VA))) (f_X6_keep v) (c, (v, o)) 0 [(0, .ref (G.2.2 114))] [] := by
  unfold f_X6_keep
  refine j_aload_n C 0 0 rfl dX6_keep_0 ?_
  refine j_iconst (v := 0) C 1 dX6_keep_1 rfl ?_
  refine p_Mo0 C 2 fl_X6_25 dX6_keep_2 ?_
  refine j_V (V' := (c, ((0, v.2), o))) rfl ?_
  refine j_iconst (v := 0) C 5 dX6_keep_5 rfl ?_
  refine j_istore_n (L1 := [(1, .int 0), (0, .ref (G.2.2 114))]) C 6 rfl dX6_keep_6 (by decide) rfl ?_
  refine j_L (L' := [(0, .ref (G.2.2 114)), (1, .int 0)]) [1, 0] rfl ?_
  exact wl_X6_keep_7 C hr FU (0, v.2) 0
theorem c_X6_keep {G : GG} {l : Launch} (hG : Gok G) {c : VC} {o : Nat → Int64} (v : VM) {x : (Int32 × VM)} (hf : f_X6_keep v = some x) : Ct l yX6_keep cX6_keep 2 (some .int) 0 [.ref (G.2.2 114)] G (c, (v, o)) (some (.int x.1)) (c, (x.2, o)) := by
  refine ct_of (rv := fun x : (Int32 × VM) => (some (.int x.1))) (fin := fun x : (Int32 × VM) => ((c, (x.2, o)) : VA)) (own := RX6) hG (plainFor_of_name (by decide)) rfl (Nat.le_of_ble_eq_true rfl) (fun X C hr _ => ?_) hf
  exact w_X6_keep C hr v
set_option maxRecDepth 100000 in
set_option maxHeartbeats 4000000 in
theorem wl_X6_goBack_31 {G : GG} {X : WX} {c : VC} {o : Nat → Int64} (C : Cx G 2 X RX6 cX6_goBack 1) (hr : (xM X).sig.returnType = (some .int)) : ∀ (n : Nat) (v : VM) (s1 : Int32), JS G 2 X (QM G X (fun x : (Int32 × VM) => some (.int x.1)) (fun x : (Int32 × VM) => ((c, (x.2, o)) : VA))) (l_X6_goBack_31 n v s1) (c, (v, o)) 31 [(0, .ref (G.2.2 114)), (1, .int s1)] [] := by
  intro n
  induction n with
  | zero => intro _ _; exact j_none
  | succ n ih =>
    intro v s1
    unfold l_X6_goBack_31
    refine j_iload_n C 31 1 rfl dX6_goBack_31 ?_
    refine j_bipush (v := 96) C 32 dX6_goBack_32 rfl ?_
    refine j_icmp_ge C 34 55 dX6_goBack_34 (by decide) (fun c34 => ?_) (fun c34 => ?_)
    · refine j_aload_n C 37 0 rfl dX6_goBack_37 ?_
      refine g_Mo1 C 38 (Or.inl fl_X6_7) dX6_goBack_38 ?_
      refine j_iload_n C 41 1 rfl dX6_goBack_41 ?_
      refine j_aload_n C 42 0 rfl dX6_goBack_42 ?_
      refine g_Mo5 C 43 (Or.inl fl_X6_19) dX6_goBack_43 ?_
      refine j_iload_n C 46 1 rfl dX6_goBack_46 ?_
      refine j_bind (fun x47 h47 => ?_)
      refine l_Mo5 C 47 h47 dX6_goBack_47 ?_
      refine j_bind (fun x48 h48 => ?_)
      refine t_Mo1 C 48 h48 dX6_goBack_48 ?_
      refine j_V (V' := (c, ((v.1, x48, v.2.2), o))) rfl ?_
      refine j_iinc (v := (s1 + 1)) (L1 := [(1, .int (s1 + 1)), (0, .ref (G.2.2 114))]) C 49 1 rfl dX6_goBack_49 rfl (by decide) rfl ?_
      refine j_goto C 52 31 dX6_goBack_52 (by decide) ?_
      refine j_L (L' := [(0, .ref (G.2.2 114)), (1, .int (s1 + 1))]) [1, 0] rfl ?_
      exact ih (v.1, x48, v.2.2) (s1 + 1)
    · refine j_aload_n C 55 0 rfl dX6_goBack_55 ?_
      refine g_Mo1 C 56 (Or.inl fl_X6_7) dX6_goBack_56 ?_
      refine j_bipush (v := 41) C 59 dX6_goBack_59 rfl ?_
      refine j_bind (fun x61 h61 => ?_)
      refine l_Mo1 C 61 h61 dX6_goBack_61 ?_
      exact j_iret C 62 hr rfl rfl dX6_goBack_62
set_option maxRecDepth 100000 in
set_option maxHeartbeats 4000000 in
theorem wb_X6_goBack_13 {G : GG} {X : WX} {c : VC} {o : Nat → Int64} (C : Cx G 2 X RX6 cX6_goBack 1) (hr : (xM X).sig.returnType = (some .int)) (v : VM) (t0 : Int32) : JS G 2 X (QM G X (fun x : (Int32 × VM) => some (.int x.1)) (fun x : (Int32 × VM) => ((c, (x.2, o)) : VA))) (b_X6_goBack_13 v t0) (c, (v, o)) 13 [(0, .ref (G.2.2 114))] [.int t0, .ref (G.2.2 114)] := by
  unfold b_X6_goBack_13
  refine p_Mo0 C 13 fl_X6_25 dX6_goBack_13 ?_
  refine j_V (V' := (c, ((t0, v.2), o))) rfl ?_
  refine j_aload_n C 16 0 rfl dX6_goBack_16 ?_
  refine g_Mo0 C 17 (Or.inl fl_X6_25) dX6_goBack_17 ?_
  refine j_if_le C 20 25 dX6_goBack_20 (by decide) (fun c20 => ?_) (fun c20 => ?_)
  · refine j_iconst (v := 0) C 23 dX6_goBack_23 rfl ?_
    exact j_iret C 24 hr rfl rfl dX6_goBack_24
  · refine j_aload_n C 25 0 rfl dX6_goBack_25 ?_
    refine j_bind (fun x26 h26 => ?_)
    refine j_vMo_v (As := []) (st := []) C k_X6_record 26 (c_X6_record C.2.2.2.2.2.2.1 _ h26) rfl rfl ml_X6_44 ii_X6_record is_X6_record dX6_goBack_26 (by decide) rfl (Nat.le_of_ble_eq_true rfl) ?_ rfl
    refine j_V (V' := (c, (x26, o))) rfl ?_
    refine j_iconst (v := 0) C 29 dX6_goBack_29 rfl ?_
    refine j_istore_n (L1 := [(1, .int 0), (0, .ref (G.2.2 114))]) C 30 rfl dX6_goBack_30 (by decide) rfl ?_
    refine j_L (L' := [(0, .ref (G.2.2 114)), (1, .int 0)]) [1, 0] rfl ?_
    exact wl_X6_goBack_31 C hr FU x26 0
set_option maxRecDepth 100000 in
set_option maxHeartbeats 4000000 in
theorem w_X6_goBack {G : GG} {X : WX} {c : VC} {o : Nat → Int64} (C : Cx G 2 X RX6 cX6_goBack 1) (hr : (xM X).sig.returnType = (some .int)) (v : VM) : JS G 2 X (QM G X (fun x : (Int32 × VM) => some (.int x.1)) (fun x : (Int32 × VM) => ((c, (x.2, o)) : VA))) (f_X6_goBack v) (c, (v, o)) 0 [(0, .ref (G.2.2 114))] [] := by
  unfold f_X6_goBack
  refine j_aload_n C 0 0 rfl dX6_goBack_0 ?_
  refine j_aload_n C 1 0 rfl dX6_goBack_1 ?_
  refine g_Mo6 C 2 (Or.inl fl_X6_40) dX6_goBack_2 ?_
  refine j_if_eq C 5 12 dX6_goBack_5 (by decide) (fun c5 => ?_) (fun c5 => ?_)
  · refine j_iconst (v := 1) C 12 dX6_goBack_12 rfl ?_
    exact wb_X6_goBack_13 C hr v 1
  · refine j_iconst (v := 0) C 8 dX6_goBack_8 rfl ?_
    refine j_goto C 9 13 dX6_goBack_9 (by decide) ?_
    exact wb_X6_goBack_13 C hr v 0
theorem c_X6_goBack {G : GG} {l : Launch} (hG : Gok G) {c : VC} {o : Nat → Int64} (v : VM) {x : (Int32 × VM)} (hf : f_X6_goBack v = some x) : Ct l yX6_goBack cX6_goBack 2 (some .int) 1 [.ref (G.2.2 114)] G (c, (v, o)) (some (.int x.1)) (c, (x.2, o)) := by
  refine ct_of (rv := fun x : (Int32 × VM) => (some (.int x.1))) (fin := fun x : (Int32 × VM) => ((c, (x.2, o)) : VA)) (own := RX6) hG (plainFor_of_name (by decide)) rfl (Nat.le_of_ble_eq_true rfl) (fun X C hr _ => ?_) hf
  exact w_X6_goBack C hr v
set_option maxRecDepth 100000 in
set_option maxHeartbeats 4000000 in
theorem wl_X6_putAside_2 {G : GG} {X : WX} {c : VC} {o : Nat → Int64} (C : Cx G 2 X RX6 cX6_putAside 0) (hr : (xM X).sig.returnType = none) : ∀ (n : Nat) (v : VM) (s1 : Int32), JS G 2 X (QM G X (fun x : VM => none) (fun x : VM => ((c, (x, o)) : VA))) (l_X6_putAside_2 n v s1) (c, (v, o)) 2 [(0, .ref (G.2.2 114)), (1, .int s1)] [] := by
  intro n
  induction n with
  | zero => intro _ _; exact j_none
  | succ n ih =>
    intro v s1
    unfold l_X6_putAside_2
    refine j_iload_n C 2 1 rfl dX6_putAside_2 ?_
    refine j_bipush (v := 96) C 3 dX6_putAside_3 rfl ?_
    refine j_icmp_ge C 5 26 dX6_putAside_5 (by decide) (fun c5 => ?_) (fun c5 => ?_)
    · refine j_aload_n C 8 0 rfl dX6_putAside_8 ?_
      refine g_Mo2 C 9 (Or.inl fl_X6_13) dX6_putAside_9 ?_
      refine j_iload_n C 12 1 rfl dX6_putAside_12 ?_
      refine j_aload_n C 13 0 rfl dX6_putAside_13 ?_
      refine g_Mo1 C 14 (Or.inl fl_X6_7) dX6_putAside_14 ?_
      refine j_iload_n C 17 1 rfl dX6_putAside_17 ?_
      refine j_bind (fun x18 h18 => ?_)
      refine l_Mo1 C 18 h18 dX6_putAside_18 ?_
      refine j_bind (fun x19 h19 => ?_)
      refine t_Mo2 C 19 h19 dX6_putAside_19 ?_
      refine j_V (V' := (c, ((v.1, v.2.1, x19, v.2.2.2), o))) rfl ?_
      refine j_iinc (v := (s1 + 1)) (L1 := [(1, .int (s1 + 1)), (0, .ref (G.2.2 114))]) C 20 1 rfl dX6_putAside_20 rfl (by decide) rfl ?_
      refine j_goto C 23 2 dX6_putAside_23 (by decide) ?_
      refine j_L (L' := [(0, .ref (G.2.2 114)), (1, .int (s1 + 1))]) [1, 0] rfl ?_
      exact ih (v.1, v.2.1, x19, v.2.2.2) (s1 + 1)
    · exact j_vret C 26 hr rfl rfl dX6_putAside_26
set_option maxRecDepth 100000 in
set_option maxHeartbeats 4000000 in
theorem w_X6_putAside {G : GG} {X : WX} {c : VC} {o : Nat → Int64} (C : Cx G 2 X RX6 cX6_putAside 0) (hr : (xM X).sig.returnType = none) (v : VM) : JS G 2 X (QM G X (fun x : VM => none) (fun x : VM => ((c, (x, o)) : VA))) (f_X6_putAside v) (c, (v, o)) 0 [(0, .ref (G.2.2 114))] [] := by
  unfold f_X6_putAside
  refine j_iconst (v := 0) C 0 dX6_putAside_0 rfl ?_
  refine j_istore_n (L1 := [(1, .int 0), (0, .ref (G.2.2 114))]) C 1 rfl dX6_putAside_1 (by decide) rfl ?_
  refine j_L (L' := [(0, .ref (G.2.2 114)), (1, .int 0)]) [1, 0] rfl ?_
  exact wl_X6_putAside_2 C hr FU v 0
theorem c_X6_putAside {G : GG} {l : Launch} (hG : Gok G) {c : VC} {o : Nat → Int64} (v : VM) {x : VM} (hf : f_X6_putAside v = some x) : Ct l yX6_putAside cX6_putAside 2 none 0 [.ref (G.2.2 114)] G (c, (v, o)) none (c, (x, o)) := by
  refine ct_of (rv := fun x : VM => none) (fin := fun x : VM => ((c, (x, o)) : VA)) (own := RX6) hG (plainFor_of_name (by decide)) rfl (Nat.le_of_ble_eq_true rfl) (fun X C hr _ => ?_) hf
  exact w_X6_putAside C hr v
set_option maxRecDepth 100000 in
set_option maxHeartbeats 4000000 in
theorem wl_X6_putBack_2 {G : GG} {X : WX} {c : VC} {o : Nat → Int64} (C : Cx G 2 X RX6 cX6_putBack 0) (hr : (xM X).sig.returnType = none) : ∀ (n : Nat) (v : VM) (s1 : Int32), JS G 2 X (QM G X (fun x : VM => none) (fun x : VM => ((c, (x, o)) : VA))) (l_X6_putBack_2 n v s1) (c, (v, o)) 2 [(0, .ref (G.2.2 114)), (1, .int s1)] [] := by
  intro n
  induction n with
  | zero => intro _ _; exact j_none
  | succ n ih =>
    intro v s1
    unfold l_X6_putBack_2
    refine j_iload_n C 2 1 rfl dX6_putBack_2 ?_
    refine j_bipush (v := 96) C 3 dX6_putBack_3 rfl ?_
    refine j_icmp_ge C 5 26 dX6_putBack_5 (by decide) (fun c5 => ?_) (fun c5 => ?_)
    · refine j_aload_n C 8 0 rfl dX6_putBack_8 ?_
      refine g_Mo1 C 9 (Or.inl fl_X6_7) dX6_putBack_9 ?_
      refine j_iload_n C 12 1 rfl dX6_putBack_12 ?_
      refine j_aload_n C 13 0 rfl dX6_putBack_13 ?_
      refine g_Mo2 C 14 (Or.inl fl_X6_13) dX6_putBack_14 ?_
      refine j_iload_n C 17 1 rfl dX6_putBack_17 ?_
      refine j_bind (fun x18 h18 => ?_)
      refine l_Mo2 C 18 h18 dX6_putBack_18 ?_
      refine j_bind (fun x19 h19 => ?_)
      refine t_Mo1 C 19 h19 dX6_putBack_19 ?_
      refine j_V (V' := (c, ((v.1, x19, v.2.2), o))) rfl ?_
      refine j_iinc (v := (s1 + 1)) (L1 := [(1, .int (s1 + 1)), (0, .ref (G.2.2 114))]) C 20 1 rfl dX6_putBack_20 rfl (by decide) rfl ?_
      refine j_goto C 23 2 dX6_putBack_23 (by decide) ?_
      refine j_L (L' := [(0, .ref (G.2.2 114)), (1, .int (s1 + 1))]) [1, 0] rfl ?_
      exact ih (v.1, x19, v.2.2) (s1 + 1)
    · exact j_vret C 26 hr rfl rfl dX6_putBack_26
set_option maxRecDepth 100000 in
set_option maxHeartbeats 4000000 in
theorem w_X6_putBack {G : GG} {X : WX} {c : VC} {o : Nat → Int64} (C : Cx G 2 X RX6 cX6_putBack 0) (hr : (xM X).sig.returnType = none) (v : VM) : JS G 2 X (QM G X (fun x : VM => none) (fun x : VM => ((c, (x, o)) : VA))) (f_X6_putBack v) (c, (v, o)) 0 [(0, .ref (G.2.2 114))] [] := by
  unfold f_X6_putBack
  refine j_iconst (v := 0) C 0 dX6_putBack_0 rfl ?_
  refine j_istore_n (L1 := [(1, .int 0), (0, .ref (G.2.2 114))]) C 1 rfl dX6_putBack_1 (by decide) rfl ?_
  refine j_L (L' := [(0, .ref (G.2.2 114)), (1, .int 0)]) [1, 0] rfl ?_
  exact wl_X6_putBack_2 C hr FU v 0
theorem c_X6_putBack {G : GG} {l : Launch} (hG : Gok G) {c : VC} {o : Nat → Int64} (v : VM) {x : VM} (hf : f_X6_putBack v = some x) : Ct l yX6_putBack cX6_putBack 2 none 0 [.ref (G.2.2 114)] G (c, (v, o)) none (c, (x, o)) := by
  refine ct_of (rv := fun x : VM => none) (fin := fun x : VM => ((c, (x, o)) : VA)) (own := RX6) hG (plainFor_of_name (by decide)) rfl (Nat.le_of_ble_eq_true rfl) (fun X C hr _ => ?_) hf
  exact w_X6_putBack C hr v
set_option maxRecDepth 100000 in
set_option maxHeartbeats 4000000 in
theorem w_X6_room {G : GG} {X : WX} {c : VC} {o : Nat → Int64} (C : Cx G 2 X RX6 cX6_room 0) (hr : (xM X).sig.returnType = (some .int)) (v : VM) (a1 : Int32) : JS G 2 X (QM G X (fun x : Int32 => some (.int x)) (fun x : Int32 => ((c, (v, o)) : VA))) (f_X6_room v a1) (c, (v, o)) 0 [(0, .ref (G.2.2 114)), (1, .int a1)] [] := by
  unfold f_X6_room
  refine j_aload_n C 0 0 rfl dX6_room_0 ?_
  refine g_Mo1 C 1 (Or.inl fl_X6_7) dX6_room_1 ?_
  refine j_bipush (v := 36) C 4 dX6_room_4 rfl ?_
  refine j_iconst (v := 2) C 6 dX6_room_6 rfl ?_
  refine j_iload_n C 7 1 rfl dX6_room_7 ?_
  refine j_imul C 8 dX6_room_8 ?_
  refine j_iadd C 9 dX6_room_9 ?_
  refine j_bind (fun x10 h10 => ?_)
  refine l_Mo1 C 10 h10 dX6_room_10 ?_
  refine j_aload_n C 11 0 rfl dX6_room_11 ?_
  refine g_Mo1 C 12 (Or.inl fl_X6_7) dX6_room_12 ?_
  refine j_bipush (v := 36) C 15 dX6_room_15 rfl ?_
  refine j_iconst (v := 2) C 17 dX6_room_17 rfl ?_
  refine j_iload_n C 18 1 rfl dX6_room_18 ?_
  refine j_imul C 19 dX6_room_19 ?_
  refine j_iadd C 20 dX6_room_20 ?_
  refine j_iconst (v := 1) C 21 dX6_room_21 rfl ?_
  refine j_iadd C 22 dX6_room_22 ?_
  refine j_bind (fun x23 h23 => ?_)
  refine l_Mo1 C 23 h23 dX6_room_23 ?_
  refine j_iadd C 24 dX6_room_24 ?_
  exact j_iret C 25 hr rfl rfl dX6_room_25
theorem c_X6_room {G : GG} {l : Launch} (hG : Gok G) {c : VC} {o : Nat → Int64} (v : VM) (a1 : Int32) {x : Int32} (hf : f_X6_room v a1 = some x) : Ct l yX6_room cX6_room 2 (some .int) 0 [.ref (G.2.2 114), .int a1] G (c, (v, o)) (some (.int x)) (c, (v, o)) := by
  refine ct_of (rv := fun x : Int32 => (some (.int x))) (fin := fun x : Int32 => ((c, (v, o)) : VA)) (own := RX6) hG (plainFor_of_name (by decide)) rfl (Nat.le_of_ble_eq_true rfl) (fun X C hr _ => ?_) hf
  exact w_X6_room C hr v a1
set_option maxRecDepth 100000 in
set_option maxHeartbeats 4000000 in
theorem w_X6_lesserRoom {G : GG} {X : WX} {c : VC} {o : Nat → Int64} (C : Cx G 1 X RX6 cX6_lesserRoom 1) (hr : (xM X).sig.returnType = (some .int)) (v : VM) : JS G 1 X (QM G X (fun x : Int32 => some (.int x)) (fun x : Int32 => ((c, (v, o)) : VA))) (f_X6_lesserRoom v) (c, (v, o)) 0 [(0, .ref (G.2.2 114))] [] := by
  unfold f_X6_lesserRoom
  refine j_aload_n C 0 0 rfl dX6_lesserRoom_0 ?_
  refine j_iconst (v := 0) C 1 dX6_lesserRoom_1 rfl ?_
  refine j_bind (fun x2 h2 => ?_)
  refine j_vMo_i (As := [.int 0]) (st := []) C k_X6_room 2 (c_X6_room C.2.2.2.2.2.2.1 _ _ h2) rfl rfl ml_X6_47 ii_X6_room is_X6_room dX6_lesserRoom_2 (by decide) rfl (Nat.le_of_ble_eq_true rfl) ?_ rfl
  refine j_aload_n C 5 0 rfl dX6_lesserRoom_5 ?_
  refine j_iconst (v := 1) C 6 dX6_lesserRoom_6 rfl ?_
  refine j_bind (fun x7 h7 => ?_)
  refine j_vMo_i (As := [.int 1]) (st := [.int x2]) C k_X6_room 7 (c_X6_room C.2.2.2.2.2.2.1 _ _ h7) rfl rfl ml_X6_47 ii_X6_room is_X6_room dX6_lesserRoom_7 (by decide) rfl (Nat.le_of_ble_eq_true rfl) ?_ rfl
  refine j_icmp_ge C 10 21 dX6_lesserRoom_10 (by decide) (fun c10 => ?_) (fun c10 => ?_)
  · refine j_aload_n C 13 0 rfl dX6_lesserRoom_13 ?_
    refine j_iconst (v := 0) C 14 dX6_lesserRoom_14 rfl ?_
    refine j_bind (fun x15 h15 => ?_)
    refine j_vMo_i (As := [.int 0]) (st := []) C k_X6_room 15 (c_X6_room C.2.2.2.2.2.2.1 _ _ h15) rfl rfl ml_X6_47 ii_X6_room is_X6_room dX6_lesserRoom_15 (by decide) rfl (Nat.le_of_ble_eq_true rfl) ?_ rfl
    refine j_goto C 18 26 dX6_lesserRoom_18 (by decide) ?_
    exact j_iret C 26 hr rfl rfl dX6_lesserRoom_26
  · refine j_aload_n C 21 0 rfl dX6_lesserRoom_21 ?_
    refine j_iconst (v := 1) C 22 dX6_lesserRoom_22 rfl ?_
    refine j_bind (fun x23 h23 => ?_)
    refine j_vMo_i (As := [.int 1]) (st := []) C k_X6_room 23 (c_X6_room C.2.2.2.2.2.2.1 _ _ h23) rfl rfl ml_X6_47 ii_X6_room is_X6_room dX6_lesserRoom_23 (by decide) rfl (Nat.le_of_ble_eq_true rfl) ?_ rfl
    exact j_iret C 26 hr rfl rfl dX6_lesserRoom_26
theorem c_X6_lesserRoom {G : GG} {l : Launch} (hG : Gok G) {c : VC} {o : Nat → Int64} (v : VM) {x : Int32} (hf : f_X6_lesserRoom v = some x) : Ct l yX6_lesserRoom cX6_lesserRoom 1 (some .int) 1 [.ref (G.2.2 114)] G (c, (v, o)) (some (.int x)) (c, (v, o)) := by
  refine ct_of (rv := fun x : Int32 => (some (.int x))) (fin := fun x : Int32 => ((c, (v, o)) : VA)) (own := RX6) hG (plainFor_of_name (by decide)) rfl (Nat.le_of_ble_eq_true rfl) (fun X C hr _ => ?_) hf
  exact w_X6_lesserRoom C hr v
set_option maxRecDepth 100000 in
set_option maxHeartbeats 4000000 in
theorem w_X6_blocks {G : GG} {X : WX} {c : VC} {o : Nat → Int64} (C : Cx G 1 X RX6 cX6_blocks 2) (hr : (xM X).sig.returnType = (some .int)) (v : VM) : JS G 1 X (QM G X (fun x : Int32 => some (.int x)) (fun x : Int32 => ((c, (v, o)) : VA))) (f_X6_blocks v) (c, (v, o)) 0 [(0, .ref (G.2.2 114))] [] := by
  unfold f_X6_blocks
  refine j_aload_n C 0 0 rfl dX6_blocks_0 ?_
  refine g_Mo1 C 1 (Or.inl fl_X6_7) dX6_blocks_1 ?_
  refine j_bipush (v := 40) C 4 dX6_blocks_4 rfl ?_
  refine j_bind (fun x6 h6 => ?_)
  refine l_Mo1 C 6 h6 dX6_blocks_6 ?_
  refine j_iconst (v := (-1)) C 7 dX6_blocks_7 rfl ?_
  refine j_icmp_ne C 8 15 dX6_blocks_8 (by decide) (fun c8 => ?_) (fun c8 => ?_)
  · refine j_iconst (v := 0) C 11 dX6_blocks_11 rfl ?_
    refine j_goto C 12 44 dX6_blocks_12 (by decide) ?_
    exact j_iret C 44 hr rfl rfl dX6_blocks_44
  · refine j_aload_n C 15 0 rfl dX6_blocks_15 ?_
    refine g_Mo1 C 16 (Or.inl fl_X6_7) dX6_blocks_16 ?_
    refine j_bipush (v := 40) C 19 dX6_blocks_19 rfl ?_
    refine j_bind (fun x21 h21 => ?_)
    refine l_Mo1 C 21 h21 dX6_blocks_21 ?_
    refine j_iconst (v := 2) C 22 dX6_blocks_22 rfl ?_
    refine j_icmp_ne C 23 33 dX6_blocks_23 (by decide) (fun c23 => ?_) (fun c23 => ?_)
    · refine j_aload_n C 26 0 rfl dX6_blocks_26 ?_
      refine j_bind (fun x27 h27 => ?_)
      refine j_vMo_i (As := []) (st := []) C k_X6_lesserRoom 27 (c_X6_lesserRoom C.2.2.2.2.2.2.1 _ h27) rfl rfl ml_X6_51 ii_X6_lesserRoom is_X6_lesserRoom dX6_blocks_27 (by decide) rfl (Nat.le_of_ble_eq_true rfl) ?_ rfl
      refine j_goto C 30 44 dX6_blocks_30 (by decide) ?_
      exact j_iret C 44 hr rfl rfl dX6_blocks_44
    · refine j_aload_n C 33 0 rfl dX6_blocks_33 ?_
      refine j_iconst (v := 0) C 34 dX6_blocks_34 rfl ?_
      refine j_bind (fun x35 h35 => ?_)
      refine j_vMo_i (As := [.int 0]) (st := []) C k_X6_room 35 (c_X6_room C.2.2.2.2.2.2.1 _ _ h35) rfl rfl ml_X6_47 ii_X6_room is_X6_room dX6_blocks_35 (by decide) rfl (Nat.le_of_ble_eq_true rfl) ?_ rfl
      refine j_aload_n C 38 0 rfl dX6_blocks_38 ?_
      refine j_iconst (v := 1) C 39 dX6_blocks_39 rfl ?_
      refine j_bind (fun x40 h40 => ?_)
      refine j_vMo_i (As := [.int 1]) (st := [.int x35]) C k_X6_room 40 (c_X6_room C.2.2.2.2.2.2.1 _ _ h40) rfl rfl ml_X6_47 ii_X6_room is_X6_room dX6_blocks_40 (by decide) rfl (Nat.le_of_ble_eq_true rfl) ?_ rfl
      refine j_iadd C 43 dX6_blocks_43 ?_
      exact j_iret C 44 hr rfl rfl dX6_blocks_44
theorem c_X6_blocks {G : GG} {l : Launch} (hG : Gok G) {c : VC} {o : Nat → Int64} (v : VM) {x : Int32} (hf : f_X6_blocks v = some x) : Ct l yX6_blocks cX6_blocks 1 (some .int) 2 [.ref (G.2.2 114)] G (c, (v, o)) (some (.int x)) (c, (v, o)) := by
  refine ct_of (rv := fun x : Int32 => (some (.int x))) (fin := fun x : Int32 => ((c, (v, o)) : VA)) (own := RX6) hG (plainFor_of_name (by decide)) rfl (Nat.le_of_ble_eq_true rfl) (fun X C hr _ => ?_) hf
  exact w_X6_blocks C hr v
set_option maxRecDepth 100000 in
set_option maxHeartbeats 4000000 in
theorem w_X6_wideBlocks {G : GG} {X : WX} {c : VC} {o : Nat → Int64} (C : Cx G 1 X RX6 cX6_wideBlocks 2) (hr : (xM X).sig.returnType = (some .int)) (v : VM) : JS G 1 X (QM G X (fun x : Int32 => some (.int x)) (fun x : Int32 => ((c, (v, o)) : VA))) (f_X6_wideBlocks v) (c, (v, o)) 0 [(0, .ref (G.2.2 114))] [] := by
  unfold f_X6_wideBlocks
  refine j_aload_n C 0 0 rfl dX6_wideBlocks_0 ?_
  refine g_Mo1 C 1 (Or.inl fl_X6_7) dX6_wideBlocks_1 ?_
  refine j_bipush (v := 40) C 4 dX6_wideBlocks_4 rfl ?_
  refine j_bind (fun x6 h6 => ?_)
  refine l_Mo1 C 6 h6 dX6_wideBlocks_6 ?_
  refine j_if_ne C 7 19 dX6_wideBlocks_7 (by decide) (fun c7 => ?_) (fun c7 => ?_)
  · refine j_iconst (v := 2) C 10 dX6_wideBlocks_10 rfl ?_
    refine j_aload_n C 11 0 rfl dX6_wideBlocks_11 ?_
    refine j_bind (fun x12 h12 => ?_)
    refine j_vMo_i (As := []) (st := [.int 2]) C k_X6_lesserRoom 12 (c_X6_lesserRoom C.2.2.2.2.2.2.1 _ h12) rfl rfl ml_X6_51 ii_X6_lesserRoom is_X6_lesserRoom dX6_wideBlocks_12 (by decide) rfl (Nat.le_of_ble_eq_true rfl) ?_ rfl
    refine j_imul C 15 dX6_wideBlocks_15 ?_
    refine j_goto C 16 20 dX6_wideBlocks_16 (by decide) ?_
    exact j_iret C 20 hr rfl rfl dX6_wideBlocks_20
  · refine j_iconst (v := 0) C 19 dX6_wideBlocks_19 rfl ?_
    exact j_iret C 20 hr rfl rfl dX6_wideBlocks_20
theorem c_X6_wideBlocks {G : GG} {l : Launch} (hG : Gok G) {c : VC} {o : Nat → Int64} (v : VM) {x : Int32} (hf : f_X6_wideBlocks v = some x) : Ct l yX6_wideBlocks cX6_wideBlocks 1 (some .int) 2 [.ref (G.2.2 114)] G (c, (v, o)) (some (.int x)) (c, (v, o)) := by
  refine ct_of (rv := fun x : Int32 => (some (.int x))) (fin := fun x : Int32 => ((c, (v, o)) : VA)) (own := RX6) hG (plainFor_of_name (by decide)) rfl (Nat.le_of_ble_eq_true rfl) (fun X C hr _ => ?_) hf
  exact w_X6_wideBlocks C hr v
set_option maxRecDepth 100000 in
set_option maxHeartbeats 4000000 in
theorem w_X6_isBlock {G : GG} {X : WX} {c : VC} {o : Nat → Int64} (C : Cx G 2 X RX6 cX6_isBlock 3) (hr : (xM X).sig.returnType = (some .boolean)) (v : VM) (a1 : Int32) : JS G 2 X (QM G X (fun x : Int32 => some (.int x)) (fun x : Int32 => ((c, (v, o)) : VA))) (f_X6_isBlock v a1) (c, (v, o)) 0 [(0, .ref (G.2.2 114)), (1, .int a1)] [] := by
  unfold f_X6_isBlock
  refine j_iload_n C 0 1 rfl dX6_isBlock_0 ?_
  refine j_iconst (v := 0) C 1 dX6_isBlock_1 rfl ?_
  refine j_aload_n C 2 0 rfl dX6_isBlock_2 ?_
  refine j_bind (fun x3 h3 => ?_)
  refine j_vMo_i (As := []) (st := [.int 0, .int a1]) C k_X6_blocks 3 (c_X6_blocks C.2.2.2.2.2.2.1 _ h3) rfl rfl ml_X6_55 ii_X6_blocks is_X6_blocks dX6_isBlock_3 (by decide) rfl (Nat.le_of_ble_eq_true rfl) ?_ rfl
  refine j_iconst (v := 1) C 6 dX6_isBlock_6 rfl ?_
  refine j_isub C 7 dX6_isBlock_7 ?_
  refine j_bind (fun x8 h8 => ?_)
  refine j_callS_i (As := [.int a1, .int 0, .int (x3 - 1)]) (st := []) C k_X6_in 8 (c_X6_in C.2.2.2.2.2.2.1 (c := c) _ _ _ h8) rfl ml_X6_29 st_X6_in dX6_isBlock_8 (by decide) rfl (Nat.le_of_ble_eq_true rfl) ?_ rfl
  refine j_bind (fun r11 h11 => ?_)
  obtain ⟨hb11, rfl⟩ := bck_in h11
  exact j_zret C 11 hr hb11 rfl rfl dX6_isBlock_11
theorem c_X6_isBlock {G : GG} {l : Launch} (hG : Gok G) {c : VC} {o : Nat → Int64} (v : VM) (a1 : Int32) {x : Int32} (hf : f_X6_isBlock v a1 = some x) : Ct l yX6_isBlock cX6_isBlock 2 (some .boolean) 3 [.ref (G.2.2 114), .int a1] G (c, (v, o)) (some (.int x)) (c, (v, o)) := by
  refine ct_of (rv := fun x : Int32 => (some (.int x))) (fin := fun x : Int32 => ((c, (v, o)) : VA)) (own := RX6) hG (plainFor_of_name (by decide)) rfl (Nat.le_of_ble_eq_true rfl) (fun X C hr _ => ?_) hf
  exact w_X6_isBlock C hr v a1
set_option maxRecDepth 100000 in
set_option maxHeartbeats 4000000 in
theorem w_X6_channelOf {G : GG} {X : WX} {c : VC} {o : Nat → Int64} (C : Cx G 2 X RX6 cX6_channelOf 3) (hr : (xM X).sig.returnType = (some .int)) (v : VM) (a1 : Int32) : JS G 2 X (QM G X (fun x : Int32 => some (.int x)) (fun x : Int32 => ((c, (v, o)) : VA))) (f_X6_channelOf v a1) (c, (v, o)) 0 [(0, .ref (G.2.2 114)), (1, .int a1)] [] := by
  unfold f_X6_channelOf
  refine j_aload_n C 0 0 rfl dX6_channelOf_0 ?_
  refine g_Mo1 C 1 (Or.inl fl_X6_7) dX6_channelOf_1 ?_
  refine j_bipush (v := 40) C 4 dX6_channelOf_4 rfl ?_
  refine j_bind (fun x6 h6 => ?_)
  refine l_Mo1 C 6 h6 dX6_channelOf_6 ?_
  refine j_iconst (v := 2) C 7 dX6_channelOf_7 rfl ?_
  refine j_icmp_ne C 8 13 dX6_channelOf_8 (by decide) (fun c8 => ?_) (fun c8 => ?_)
  · refine j_iconst (v := 0) C 11 dX6_channelOf_11 rfl ?_
    exact j_iret C 12 hr rfl rfl dX6_channelOf_12
  · refine j_aload_n C 13 0 rfl dX6_channelOf_13 ?_
    refine g_Mo1 C 14 (Or.inl fl_X6_7) dX6_channelOf_14 ?_
    refine j_bipush (v := 40) C 17 dX6_channelOf_17 rfl ?_
    refine j_bind (fun x19 h19 => ?_)
    refine l_Mo1 C 19 h19 dX6_channelOf_19 ?_
    refine j_iconst (v := 1) C 20 dX6_channelOf_20 rfl ?_
    refine j_icmp_ne C 21 39 dX6_channelOf_21 (by decide) (fun c21 => ?_) (fun c21 => ?_)
    · refine j_iload_n C 24 1 rfl dX6_channelOf_24 ?_
      refine j_aload_n C 25 0 rfl dX6_channelOf_25 ?_
      refine j_iconst (v := 0) C 26 dX6_channelOf_26 rfl ?_
      refine j_bind (fun x27 h27 => ?_)
      refine j_vMo_i (As := [.int 0]) (st := [.int a1]) C k_X6_room 27 (c_X6_room C.2.2.2.2.2.2.1 _ _ h27) rfl rfl ml_X6_47 ii_X6_room is_X6_room dX6_channelOf_27 (by decide) rfl (Nat.le_of_ble_eq_true rfl) ?_ rfl
      refine j_icmp_ge C 30 37 dX6_channelOf_30 (by decide) (fun c30 => ?_) (fun c30 => ?_)
      · refine j_iconst (v := 0) C 33 dX6_channelOf_33 rfl ?_
        refine j_goto C 34 38 dX6_channelOf_34 (by decide) ?_
        exact j_iret C 38 hr rfl rfl dX6_channelOf_38
      · refine j_iconst (v := 1) C 37 dX6_channelOf_37 rfl ?_
        exact j_iret C 38 hr rfl rfl dX6_channelOf_38
    · refine j_iload_n C 39 1 rfl dX6_channelOf_39 ?_
      refine j_aload_n C 40 0 rfl dX6_channelOf_40 ?_
      refine j_bind (fun x41 h41 => ?_)
      refine j_vMo_i (As := []) (st := [.int a1]) C k_X6_wideBlocks 41 (c_X6_wideBlocks C.2.2.2.2.2.2.1 _ h41) rfl rfl ml_X6_58 ii_X6_wideBlocks is_X6_wideBlocks dX6_channelOf_41 (by decide) rfl (Nat.le_of_ble_eq_true rfl) ?_ rfl
      refine j_icmp_ge C 44 53 dX6_channelOf_44 (by decide) (fun c44 => ?_) (fun c44 => ?_)
      · refine j_iload_n C 47 1 rfl dX6_channelOf_47 ?_
        refine j_iconst (v := 2) C 48 dX6_channelOf_48 rfl ?_
        refine j_irem C 49 dX6_channelOf_49 (by decide) ?_
        refine j_goto C 50 71 dX6_channelOf_50 (by decide) ?_
        exact j_iret C 71 hr rfl rfl dX6_channelOf_71
      · refine j_aload_n C 53 0 rfl dX6_channelOf_53 ?_
        refine j_iconst (v := 0) C 54 dX6_channelOf_54 rfl ?_
        refine j_bind (fun x55 h55 => ?_)
        refine j_vMo_i (As := [.int 0]) (st := []) C k_X6_room 55 (c_X6_room C.2.2.2.2.2.2.1 _ _ h55) rfl rfl ml_X6_47 ii_X6_room is_X6_room dX6_channelOf_55 (by decide) rfl (Nat.le_of_ble_eq_true rfl) ?_ rfl
        refine j_aload_n C 58 0 rfl dX6_channelOf_58 ?_
        refine j_iconst (v := 1) C 59 dX6_channelOf_59 rfl ?_
        refine j_bind (fun x60 h60 => ?_)
        refine j_vMo_i (As := [.int 1]) (st := [.int x55]) C k_X6_room 60 (c_X6_room C.2.2.2.2.2.2.1 _ _ h60) rfl rfl ml_X6_47 ii_X6_room is_X6_room dX6_channelOf_60 (by decide) rfl (Nat.le_of_ble_eq_true rfl) ?_ rfl
        refine j_icmp_le C 63 70 dX6_channelOf_63 (by decide) (fun c63 => ?_) (fun c63 => ?_)
        · refine j_iconst (v := 0) C 66 dX6_channelOf_66 rfl ?_
          refine j_goto C 67 71 dX6_channelOf_67 (by decide) ?_
          exact j_iret C 71 hr rfl rfl dX6_channelOf_71
        · refine j_iconst (v := 1) C 70 dX6_channelOf_70 rfl ?_
          exact j_iret C 71 hr rfl rfl dX6_channelOf_71
theorem c_X6_channelOf {G : GG} {l : Launch} (hG : Gok G) {c : VC} {o : Nat → Int64} (v : VM) (a1 : Int32) {x : Int32} (hf : f_X6_channelOf v a1 = some x) : Ct l yX6_channelOf cX6_channelOf 2 (some .int) 3 [.ref (G.2.2 114), .int a1] G (c, (v, o)) (some (.int x)) (c, (v, o)) := by
  refine ct_of (rv := fun x : Int32 => (some (.int x))) (fin := fun x : Int32 => ((c, (v, o)) : VA)) (own := RX6) hG (plainFor_of_name (by decide)) rfl (Nat.le_of_ble_eq_true rfl) (fun X C hr _ => ?_) hf
  exact w_X6_channelOf C hr v a1
set_option maxRecDepth 100000 in
set_option maxHeartbeats 4000000 in
theorem w_X6_inChannel {G : GG} {X : WX} {c : VC} {o : Nat → Int64} (C : Cx G 2 X RX6 cX6_inChannel 3) (hr : (xM X).sig.returnType = (some .int)) (v : VM) (a1 : Int32) : JS G 2 X (QM G X (fun x : Int32 => some (.int x)) (fun x : Int32 => ((c, (v, o)) : VA))) (f_X6_inChannel v a1) (c, (v, o)) 0 [(0, .ref (G.2.2 114)), (1, .int a1)] [] := by
  unfold f_X6_inChannel
  refine j_aload_n C 0 0 rfl dX6_inChannel_0 ?_
  refine g_Mo1 C 1 (Or.inl fl_X6_7) dX6_inChannel_1 ?_
  refine j_bipush (v := 40) C 4 dX6_inChannel_4 rfl ?_
  refine j_bind (fun x6 h6 => ?_)
  refine l_Mo1 C 6 h6 dX6_inChannel_6 ?_
  refine j_iconst (v := 2) C 7 dX6_inChannel_7 rfl ?_
  refine j_icmp_ne C 8 13 dX6_inChannel_8 (by decide) (fun c8 => ?_) (fun c8 => ?_)
  · refine j_iload_n C 11 1 rfl dX6_inChannel_11 ?_
    exact j_iret C 12 hr rfl rfl dX6_inChannel_12
  · refine j_aload_n C 13 0 rfl dX6_inChannel_13 ?_
    refine g_Mo1 C 14 (Or.inl fl_X6_7) dX6_inChannel_14 ?_
    refine j_bipush (v := 40) C 17 dX6_inChannel_17 rfl ?_
    refine j_bind (fun x19 h19 => ?_)
    refine l_Mo1 C 19 h19 dX6_inChannel_19 ?_
    refine j_iconst (v := 1) C 20 dX6_inChannel_20 rfl ?_
    refine j_icmp_ne C 21 45 dX6_inChannel_21 (by decide) (fun c21 => ?_) (fun c21 => ?_)
    · refine j_iload_n C 24 1 rfl dX6_inChannel_24 ?_
      refine j_aload_n C 25 0 rfl dX6_inChannel_25 ?_
      refine j_iconst (v := 0) C 26 dX6_inChannel_26 rfl ?_
      refine j_bind (fun x27 h27 => ?_)
      refine j_vMo_i (As := [.int 0]) (st := [.int a1]) C k_X6_room 27 (c_X6_room C.2.2.2.2.2.2.1 _ _ h27) rfl rfl ml_X6_47 ii_X6_room is_X6_room dX6_inChannel_27 (by decide) rfl (Nat.le_of_ble_eq_true rfl) ?_ rfl
      refine j_icmp_ge C 30 37 dX6_inChannel_30 (by decide) (fun c30 => ?_) (fun c30 => ?_)
      · refine j_iload_n C 33 1 rfl dX6_inChannel_33 ?_
        refine j_goto C 34 44 dX6_inChannel_34 (by decide) ?_
        exact j_iret C 44 hr rfl rfl dX6_inChannel_44
      · refine j_iload_n C 37 1 rfl dX6_inChannel_37 ?_
        refine j_aload_n C 38 0 rfl dX6_inChannel_38 ?_
        refine j_iconst (v := 0) C 39 dX6_inChannel_39 rfl ?_
        refine j_bind (fun x40 h40 => ?_)
        refine j_vMo_i (As := [.int 0]) (st := [.int a1]) C k_X6_room 40 (c_X6_room C.2.2.2.2.2.2.1 _ _ h40) rfl rfl ml_X6_47 ii_X6_room is_X6_room dX6_inChannel_40 (by decide) rfl (Nat.le_of_ble_eq_true rfl) ?_ rfl
        refine j_isub C 43 dX6_inChannel_43 ?_
        exact j_iret C 44 hr rfl rfl dX6_inChannel_44
    · refine j_iload_n C 45 1 rfl dX6_inChannel_45 ?_
      refine j_aload_n C 46 0 rfl dX6_inChannel_46 ?_
      refine j_bind (fun x47 h47 => ?_)
      refine j_vMo_i (As := []) (st := [.int a1]) C k_X6_wideBlocks 47 (c_X6_wideBlocks C.2.2.2.2.2.2.1 _ h47) rfl rfl ml_X6_58 ii_X6_wideBlocks is_X6_wideBlocks dX6_inChannel_47 (by decide) rfl (Nat.le_of_ble_eq_true rfl) ?_ rfl
      refine j_icmp_ge C 50 59 dX6_inChannel_50 (by decide) (fun c50 => ?_) (fun c50 => ?_)
      · refine j_iload_n C 53 1 rfl dX6_inChannel_53 ?_
        refine j_iconst (v := 2) C 54 dX6_inChannel_54 rfl ?_
        refine j_idiv C 55 dX6_inChannel_55 (by decide) ?_
        refine j_goto C 56 65 dX6_inChannel_56 (by decide) ?_
        exact j_iret C 65 hr rfl rfl dX6_inChannel_65
      · refine j_iload_n C 59 1 rfl dX6_inChannel_59 ?_
        refine j_aload_n C 60 0 rfl dX6_inChannel_60 ?_
        refine j_bind (fun x61 h61 => ?_)
        refine j_vMo_i (As := []) (st := [.int a1]) C k_X6_lesserRoom 61 (c_X6_lesserRoom C.2.2.2.2.2.2.1 _ h61) rfl rfl ml_X6_51 ii_X6_lesserRoom is_X6_lesserRoom dX6_inChannel_61 (by decide) rfl (Nat.le_of_ble_eq_true rfl) ?_ rfl
        refine j_isub C 64 dX6_inChannel_64 ?_
        exact j_iret C 65 hr rfl rfl dX6_inChannel_65
theorem c_X6_inChannel {G : GG} {l : Launch} (hG : Gok G) {c : VC} {o : Nat → Int64} (v : VM) (a1 : Int32) {x : Int32} (hf : f_X6_inChannel v a1 = some x) : Ct l yX6_inChannel cX6_inChannel 2 (some .int) 3 [.ref (G.2.2 114), .int a1] G (c, (v, o)) (some (.int x)) (c, (v, o)) := by
  refine ct_of (rv := fun x : Int32 => (some (.int x))) (fin := fun x : Int32 => ((c, (v, o)) : VA)) (own := RX6) hG (plainFor_of_name (by decide)) rfl (Nat.le_of_ble_eq_true rfl) (fun X C hr _ => ?_) hf
  exact w_X6_inChannel C hr v a1
set_option maxRecDepth 100000 in
set_option maxHeartbeats 4000000 in
theorem w_X6_slotIn {G : GG} {X : WX} {c : VC} {o : Nat → Int64} (C : Cx G 3 X RX6 cX6_slotIn 0) (hr : (xM X).sig.returnType = (some .int)) (v : VM) (a1 : Int32) (a2 : Int32) : JS G 3 X (QM G X (fun x : Int32 => some (.int x)) (fun x : Int32 => ((c, (v, o)) : VA))) (f_X6_slotIn v a1 a2) (c, (v, o)) 0 [(0, .ref (G.2.2 114)), (1, .int a1), (2, .int a2)] [] := by
  unfold f_X6_slotIn
  refine j_iload_n C 0 2 rfl dX6_slotIn_0 ?_
  refine j_aload_n C 1 0 rfl dX6_slotIn_1 ?_
  refine g_Mo1 C 2 (Or.inl fl_X6_7) dX6_slotIn_2 ?_
  refine j_bipush (v := 36) C 5 dX6_slotIn_5 rfl ?_
  refine j_iconst (v := 2) C 7 dX6_slotIn_7 rfl ?_
  refine j_iload_n C 8 1 rfl dX6_slotIn_8 ?_
  refine j_imul C 9 dX6_slotIn_9 ?_
  refine j_iadd C 10 dX6_slotIn_10 ?_
  refine j_bind (fun x11 h11 => ?_)
  refine l_Mo1 C 11 h11 dX6_slotIn_11 ?_
  refine j_icmp_ge C 12 21 dX6_slotIn_12 (by decide) (fun c12 => ?_) (fun c12 => ?_)
  · refine j_iconst (v := 2) C 15 dX6_slotIn_15 rfl ?_
    refine j_iload_n C 16 1 rfl dX6_slotIn_16 ?_
    refine j_imul C 17 dX6_slotIn_17 ?_
    refine j_goto C 18 26 dX6_slotIn_18 (by decide) ?_
    exact j_iret C 26 hr rfl rfl dX6_slotIn_26
  · refine j_iconst (v := 2) C 21 dX6_slotIn_21 rfl ?_
    refine j_iload_n C 22 1 rfl dX6_slotIn_22 ?_
    refine j_imul C 23 dX6_slotIn_23 ?_
    refine j_iconst (v := 1) C 24 dX6_slotIn_24 rfl ?_
    refine j_iadd C 25 dX6_slotIn_25 ?_
    exact j_iret C 26 hr rfl rfl dX6_slotIn_26
theorem c_X6_slotIn {G : GG} {l : Launch} (hG : Gok G) {c : VC} {o : Nat → Int64} (v : VM) (a1 : Int32) (a2 : Int32) {x : Int32} (hf : f_X6_slotIn v a1 a2 = some x) : Ct l yX6_slotIn cX6_slotIn 3 (some .int) 0 [.ref (G.2.2 114), .int a1, .int a2] G (c, (v, o)) (some (.int x)) (c, (v, o)) := by
  refine ct_of (rv := fun x : Int32 => (some (.int x))) (fin := fun x : Int32 => ((c, (v, o)) : VA)) (own := RX6) hG (plainFor_of_name (by decide)) rfl (Nat.le_of_ble_eq_true rfl) (fun X C hr _ => ?_) hf
  exact w_X6_slotIn C hr v a1 a2
set_option maxRecDepth 100000 in
set_option maxHeartbeats 4000000 in
theorem w_X6_numberIn {G : GG} {X : WX} {c : VC} {o : Nat → Int64} (C : Cx G 3 X RX6 cX6_numberIn 0) (hr : (xM X).sig.returnType = (some .int)) (v : VM) (a1 : Int32) (a2 : Int32) : JS G 3 X (QM G X (fun x : Int32 => some (.int x)) (fun x : Int32 => ((c, (v, o)) : VA))) (f_X6_numberIn v a1 a2) (c, (v, o)) 0 [(0, .ref (G.2.2 114)), (1, .int a1), (2, .int a2)] [] := by
  unfold f_X6_numberIn
  refine j_iload_n C 0 2 rfl dX6_numberIn_0 ?_
  refine j_aload_n C 1 0 rfl dX6_numberIn_1 ?_
  refine g_Mo1 C 2 (Or.inl fl_X6_7) dX6_numberIn_2 ?_
  refine j_bipush (v := 36) C 5 dX6_numberIn_5 rfl ?_
  refine j_iconst (v := 2) C 7 dX6_numberIn_7 rfl ?_
  refine j_iload_n C 8 1 rfl dX6_numberIn_8 ?_
  refine j_imul C 9 dX6_numberIn_9 ?_
  refine j_iadd C 10 dX6_numberIn_10 ?_
  refine j_bind (fun x11 h11 => ?_)
  refine l_Mo1 C 11 h11 dX6_numberIn_11 ?_
  refine j_icmp_ge C 12 19 dX6_numberIn_12 (by decide) (fun c12 => ?_) (fun c12 => ?_)
  · refine j_iload_n C 15 2 rfl dX6_numberIn_15 ?_
    refine j_goto C 16 32 dX6_numberIn_16 (by decide) ?_
    exact j_iret C 32 hr rfl rfl dX6_numberIn_32
  · refine j_iload_n C 19 2 rfl dX6_numberIn_19 ?_
    refine j_aload_n C 20 0 rfl dX6_numberIn_20 ?_
    refine g_Mo1 C 21 (Or.inl fl_X6_7) dX6_numberIn_21 ?_
    refine j_bipush (v := 36) C 24 dX6_numberIn_24 rfl ?_
    refine j_iconst (v := 2) C 26 dX6_numberIn_26 rfl ?_
    refine j_iload_n C 27 1 rfl dX6_numberIn_27 ?_
    refine j_imul C 28 dX6_numberIn_28 ?_
    refine j_iadd C 29 dX6_numberIn_29 ?_
    refine j_bind (fun x30 h30 => ?_)
    refine l_Mo1 C 30 h30 dX6_numberIn_30 ?_
    refine j_isub C 31 dX6_numberIn_31 ?_
    exact j_iret C 32 hr rfl rfl dX6_numberIn_32
theorem c_X6_numberIn {G : GG} {l : Launch} (hG : Gok G) {c : VC} {o : Nat → Int64} (v : VM) (a1 : Int32) (a2 : Int32) {x : Int32} (hf : f_X6_numberIn v a1 a2 = some x) : Ct l yX6_numberIn cX6_numberIn 3 (some .int) 0 [.ref (G.2.2 114), .int a1, .int a2] G (c, (v, o)) (some (.int x)) (c, (v, o)) := by
  refine ct_of (rv := fun x : Int32 => (some (.int x))) (fin := fun x : Int32 => ((c, (v, o)) : VA)) (own := RX6) hG (plainFor_of_name (by decide)) rfl (Nat.le_of_ble_eq_true rfl) (fun X C hr _ => ?_) hf
  exact w_X6_numberIn C hr v a1 a2
set_option maxRecDepth 100000 in
set_option maxHeartbeats 4000000 in
theorem w_X6_slotOf {G : GG} {X : WX} {c : VC} {o : Nat → Int64} (C : Cx G 2 X RX6 cX6_slotOf 4) (hr : (xM X).sig.returnType = (some .int)) (v : VM) (a1 : Int32) : JS G 2 X (QM G X (fun x : Int32 => some (.int x)) (fun x : Int32 => ((c, (v, o)) : VA))) (f_X6_slotOf v a1) (c, (v, o)) 0 [(0, .ref (G.2.2 114)), (1, .int a1)] [] := by
  unfold f_X6_slotOf
  refine j_aload_n C 0 0 rfl dX6_slotOf_0 ?_
  refine j_aload_n C 1 0 rfl dX6_slotOf_1 ?_
  refine j_iload_n C 2 1 rfl dX6_slotOf_2 ?_
  refine j_bind (fun x3 h3 => ?_)
  refine j_vMo_i (As := [.int a1]) (st := [.ref (G.2.2 114)]) C k_X6_channelOf 3 (c_X6_channelOf C.2.2.2.2.2.2.1 _ _ h3) rfl rfl ml_X6_61 ii_X6_channelOf is_X6_channelOf dX6_slotOf_3 (by decide) rfl (Nat.le_of_ble_eq_true rfl) ?_ rfl
  refine j_aload_n C 6 0 rfl dX6_slotOf_6 ?_
  refine j_iload_n C 7 1 rfl dX6_slotOf_7 ?_
  refine j_bind (fun x8 h8 => ?_)
  refine j_vMo_i (As := [.int a1]) (st := [.int x3, .ref (G.2.2 114)]) C k_X6_inChannel 8 (c_X6_inChannel C.2.2.2.2.2.2.1 _ _ h8) rfl rfl ml_X6_64 ii_X6_inChannel is_X6_inChannel dX6_slotOf_8 (by decide) rfl (Nat.le_of_ble_eq_true rfl) ?_ rfl
  refine j_bind (fun x11 h11 => ?_)
  refine j_vMo_i (As := [.int x3, .int x8]) (st := []) C k_X6_slotIn 11 (c_X6_slotIn C.2.2.2.2.2.2.1 _ _ _ h11) rfl rfl ml_X6_67 ii_X6_slotIn is_X6_slotIn dX6_slotOf_11 (by decide) rfl (Nat.le_of_ble_eq_true rfl) ?_ rfl
  exact j_iret C 14 hr rfl rfl dX6_slotOf_14
theorem c_X6_slotOf {G : GG} {l : Launch} (hG : Gok G) {c : VC} {o : Nat → Int64} (v : VM) (a1 : Int32) {x : Int32} (hf : f_X6_slotOf v a1 = some x) : Ct l yX6_slotOf cX6_slotOf 2 (some .int) 4 [.ref (G.2.2 114), .int a1] G (c, (v, o)) (some (.int x)) (c, (v, o)) := by
  refine ct_of (rv := fun x : Int32 => (some (.int x))) (fin := fun x : Int32 => ((c, (v, o)) : VA)) (own := RX6) hG (plainFor_of_name (by decide)) rfl (Nat.le_of_ble_eq_true rfl) (fun X C hr _ => ?_) hf
  exact w_X6_slotOf C hr v a1
set_option maxRecDepth 100000 in
set_option maxHeartbeats 4000000 in
theorem w_X6_numberOf {G : GG} {X : WX} {c : VC} {o : Nat → Int64} (C : Cx G 2 X RX6 cX6_numberOf 4) (hr : (xM X).sig.returnType = (some .int)) (v : VM) (a1 : Int32) : JS G 2 X (QM G X (fun x : Int32 => some (.int x)) (fun x : Int32 => ((c, (v, o)) : VA))) (f_X6_numberOf v a1) (c, (v, o)) 0 [(0, .ref (G.2.2 114)), (1, .int a1)] [] := by
  unfold f_X6_numberOf
  refine j_aload_n C 0 0 rfl dX6_numberOf_0 ?_
  refine j_aload_n C 1 0 rfl dX6_numberOf_1 ?_
  refine j_iload_n C 2 1 rfl dX6_numberOf_2 ?_
  refine j_bind (fun x3 h3 => ?_)
  refine j_vMo_i (As := [.int a1]) (st := [.ref (G.2.2 114)]) C k_X6_channelOf 3 (c_X6_channelOf C.2.2.2.2.2.2.1 _ _ h3) rfl rfl ml_X6_61 ii_X6_channelOf is_X6_channelOf dX6_numberOf_3 (by decide) rfl (Nat.le_of_ble_eq_true rfl) ?_ rfl
  refine j_aload_n C 6 0 rfl dX6_numberOf_6 ?_
  refine j_iload_n C 7 1 rfl dX6_numberOf_7 ?_
  refine j_bind (fun x8 h8 => ?_)
  refine j_vMo_i (As := [.int a1]) (st := [.int x3, .ref (G.2.2 114)]) C k_X6_inChannel 8 (c_X6_inChannel C.2.2.2.2.2.2.1 _ _ h8) rfl rfl ml_X6_64 ii_X6_inChannel is_X6_inChannel dX6_numberOf_8 (by decide) rfl (Nat.le_of_ble_eq_true rfl) ?_ rfl
  refine j_bind (fun x11 h11 => ?_)
  refine j_vMo_i (As := [.int x3, .int x8]) (st := []) C k_X6_numberIn 11 (c_X6_numberIn C.2.2.2.2.2.2.1 _ _ _ h11) rfl rfl ml_X6_70 ii_X6_numberIn is_X6_numberIn dX6_numberOf_11 (by decide) rfl (Nat.le_of_ble_eq_true rfl) ?_ rfl
  exact j_iret C 14 hr rfl rfl dX6_numberOf_14
theorem c_X6_numberOf {G : GG} {l : Launch} (hG : Gok G) {c : VC} {o : Nat → Int64} (v : VM) (a1 : Int32) {x : Int32} (hf : f_X6_numberOf v a1 = some x) : Ct l yX6_numberOf cX6_numberOf 2 (some .int) 4 [.ref (G.2.2 114), .int a1] G (c, (v, o)) (some (.int x)) (c, (v, o)) := by
  refine ct_of (rv := fun x : Int32 => (some (.int x))) (fin := fun x : Int32 => ((c, (v, o)) : VA)) (own := RX6) hG (plainFor_of_name (by decide)) rfl (Nat.le_of_ble_eq_true rfl) (fun X C hr _ => ?_) hf
  exact w_X6_numberOf C hr v a1
set_option maxRecDepth 100000 in
set_option maxHeartbeats 4000000 in
theorem w_X6_secondSlot {G : GG} {X : WX} {c : VC} {o : Nat → Int64} (C : Cx G 2 X RX6 cX6_secondSlot 1) (hr : (xM X).sig.returnType = (some .int)) (v : VM) (a1 : Int32) : JS G 2 X (QM G X (fun x : Int32 => some (.int x)) (fun x : Int32 => ((c, (v, o)) : VA))) (f_X6_secondSlot v a1) (c, (v, o)) 0 [(0, .ref (G.2.2 114)), (1, .int a1)] [] := by
  unfold f_X6_secondSlot
  refine j_aload_n C 0 0 rfl dX6_secondSlot_0 ?_
  refine g_Mo1 C 1 (Or.inl fl_X6_7) dX6_secondSlot_1 ?_
  refine j_bipush (v := 40) C 4 dX6_secondSlot_4 rfl ?_
  refine j_bind (fun x6 h6 => ?_)
  refine l_Mo1 C 6 h6 dX6_secondSlot_6 ?_
  refine j_iconst (v := 2) C 7 dX6_secondSlot_7 rfl ?_
  refine j_icmp_ne C 8 20 dX6_secondSlot_8 (by decide) (fun c8 => ?_) (fun c8 => ?_)
  · refine j_aload_n C 11 0 rfl dX6_secondSlot_11 ?_
    refine j_iconst (v := 1) C 12 dX6_secondSlot_12 rfl ?_
    refine j_iload_n C 13 1 rfl dX6_secondSlot_13 ?_
    refine j_bind (fun x14 h14 => ?_)
    refine j_vMo_i (As := [.int 1, .int a1]) (st := []) C k_X6_slotIn 14 (c_X6_slotIn C.2.2.2.2.2.2.1 _ _ _ h14) rfl rfl ml_X6_67 ii_X6_slotIn is_X6_slotIn dX6_secondSlot_14 (by decide) rfl (Nat.le_of_ble_eq_true rfl) ?_ rfl
    refine j_goto C 17 21 dX6_secondSlot_17 (by decide) ?_
    exact j_iret C 21 hr rfl rfl dX6_secondSlot_21
  · refine j_iconst (v := (-1)) C 20 dX6_secondSlot_20 rfl ?_
    exact j_iret C 21 hr rfl rfl dX6_secondSlot_21
theorem c_X6_secondSlot {G : GG} {l : Launch} (hG : Gok G) {c : VC} {o : Nat → Int64} (v : VM) (a1 : Int32) {x : Int32} (hf : f_X6_secondSlot v a1 = some x) : Ct l yX6_secondSlot cX6_secondSlot 2 (some .int) 1 [.ref (G.2.2 114), .int a1] G (c, (v, o)) (some (.int x)) (c, (v, o)) := by
  refine ct_of (rv := fun x : Int32 => (some (.int x))) (fin := fun x : Int32 => ((c, (v, o)) : VA)) (own := RX6) hG (plainFor_of_name (by decide)) rfl (Nat.le_of_ble_eq_true rfl) (fun X C hr _ => ?_) hf
  exact w_X6_secondSlot C hr v a1
set_option maxRecDepth 100000 in
set_option maxHeartbeats 4000000 in
theorem w_X6_secondNumber {G : GG} {X : WX} {c : VC} {o : Nat → Int64} (C : Cx G 2 X RX6 cX6_secondNumber 1) (hr : (xM X).sig.returnType = (some .int)) (v : VM) (a1 : Int32) : JS G 2 X (QM G X (fun x : Int32 => some (.int x)) (fun x : Int32 => ((c, (v, o)) : VA))) (f_X6_secondNumber v a1) (c, (v, o)) 0 [(0, .ref (G.2.2 114)), (1, .int a1)] [] := by
  unfold f_X6_secondNumber
  refine j_aload_n C 0 0 rfl dX6_secondNumber_0 ?_
  refine g_Mo1 C 1 (Or.inl fl_X6_7) dX6_secondNumber_1 ?_
  refine j_bipush (v := 40) C 4 dX6_secondNumber_4 rfl ?_
  refine j_bind (fun x6 h6 => ?_)
  refine l_Mo1 C 6 h6 dX6_secondNumber_6 ?_
  refine j_iconst (v := 2) C 7 dX6_secondNumber_7 rfl ?_
  refine j_icmp_ne C 8 20 dX6_secondNumber_8 (by decide) (fun c8 => ?_) (fun c8 => ?_)
  · refine j_aload_n C 11 0 rfl dX6_secondNumber_11 ?_
    refine j_iconst (v := 1) C 12 dX6_secondNumber_12 rfl ?_
    refine j_iload_n C 13 1 rfl dX6_secondNumber_13 ?_
    refine j_bind (fun x14 h14 => ?_)
    refine j_vMo_i (As := [.int 1, .int a1]) (st := []) C k_X6_numberIn 14 (c_X6_numberIn C.2.2.2.2.2.2.1 _ _ _ h14) rfl rfl ml_X6_70 ii_X6_numberIn is_X6_numberIn dX6_secondNumber_14 (by decide) rfl (Nat.le_of_ble_eq_true rfl) ?_ rfl
    refine j_goto C 17 21 dX6_secondNumber_17 (by decide) ?_
    exact j_iret C 21 hr rfl rfl dX6_secondNumber_21
  · refine j_iconst (v := (-1)) C 20 dX6_secondNumber_20 rfl ?_
    exact j_iret C 21 hr rfl rfl dX6_secondNumber_21
theorem c_X6_secondNumber {G : GG} {l : Launch} (hG : Gok G) {c : VC} {o : Nat → Int64} (v : VM) (a1 : Int32) {x : Int32} (hf : f_X6_secondNumber v a1 = some x) : Ct l yX6_secondNumber cX6_secondNumber 2 (some .int) 1 [.ref (G.2.2 114), .int a1] G (c, (v, o)) (some (.int x)) (c, (v, o)) := by
  refine ct_of (rv := fun x : Int32 => (some (.int x))) (fin := fun x : Int32 => ((c, (v, o)) : VA)) (own := RX6) hG (plainFor_of_name (by decide)) rfl (Nat.le_of_ble_eq_true rfl) (fun X C hr _ => ?_) hf
  exact w_X6_secondNumber C hr v a1
set_option maxRecDepth 100000 in
set_option maxHeartbeats 4000000 in
theorem w_X6_isLeftFor {G : GG} {X : WX} {c : VC} {o : Nat → Int64} (C : Cx G 2 X RX6 cX6_isLeftFor 5) (hr : (xM X).sig.returnType = (some .boolean)) (v : VM) (a1 : Int32) : JS G 2 X (QM G X (fun x : Int32 => some (.int x)) (fun x : Int32 => ((c, (v, o)) : VA))) (f_X6_isLeftFor v a1) (c, (v, o)) 0 [(0, .ref (G.2.2 114)), (1, .int a1)] [] := by
  unfold f_X6_isLeftFor
  refine j_aload_n C 0 0 rfl dX6_isLeftFor_0 ?_
  refine j_aload_n C 1 0 rfl dX6_isLeftFor_1 ?_
  refine j_iload_n C 2 1 rfl dX6_isLeftFor_2 ?_
  refine j_bind (fun x3 h3 => ?_)
  refine j_vMo_i (As := [.int a1]) (st := [.ref (G.2.2 114)]) C k_X6_slotOf 3 (c_X6_slotOf C.2.2.2.2.2.2.1 _ _ h3) rfl rfl ml_X6_73 ii_X6_slotOf is_X6_slotOf dX6_isLeftFor_3 (by decide) rfl (Nat.le_of_ble_eq_true rfl) ?_ rfl
  refine j_bind (fun x6 h6 => ?_)
  refine j_vMo_i (As := [.int x3]) (st := []) C k_X6_isLeft 6 (c_X6_isLeft C.2.2.2.2.2.2.1 _ _ h6) rfl rfl ml_X6_76 ii_X6_isLeft is_X6_isLeft dX6_isLeftFor_6 (by decide) rfl (Nat.le_of_ble_eq_true rfl) ?_ rfl
  refine j_if_ne C 9 35 dX6_isLeftFor_9 (by decide) (fun c9 => ?_) (fun c9 => ?_)
  · refine j_aload_n C 12 0 rfl dX6_isLeftFor_12 ?_
    refine g_Mo1 C 13 (Or.inl fl_X6_7) dX6_isLeftFor_13 ?_
    refine j_bipush (v := 40) C 16 dX6_isLeftFor_16 rfl ?_
    refine j_bind (fun x18 h18 => ?_)
    refine l_Mo1 C 18 h18 dX6_isLeftFor_18 ?_
    refine j_iconst (v := 2) C 19 dX6_isLeftFor_19 rfl ?_
    refine j_icmp_ne C 20 39 dX6_isLeftFor_20 (by decide) (fun c20 => ?_) (fun c20 => ?_)
    · refine j_aload_n C 23 0 rfl dX6_isLeftFor_23 ?_
      refine j_aload_n C 24 0 rfl dX6_isLeftFor_24 ?_
      refine j_iload_n C 25 1 rfl dX6_isLeftFor_25 ?_
      refine j_bind (fun x26 h26 => ?_)
      refine j_vMo_i (As := [.int a1]) (st := [.ref (G.2.2 114)]) C k_X6_secondSlot 26 (c_X6_secondSlot C.2.2.2.2.2.2.1 _ _ h26) rfl rfl ml_X6_80 ii_X6_secondSlot is_X6_secondSlot dX6_isLeftFor_26 (by decide) rfl (Nat.le_of_ble_eq_true rfl) ?_ rfl
      refine j_bind (fun x29 h29 => ?_)
      refine j_vMo_i (As := [.int x26]) (st := []) C k_X6_isLeft 29 (c_X6_isLeft C.2.2.2.2.2.2.1 _ _ h29) rfl rfl ml_X6_76 ii_X6_isLeft is_X6_isLeft dX6_isLeftFor_29 (by decide) rfl (Nat.le_of_ble_eq_true rfl) ?_ rfl
      refine j_if_eq C 32 39 dX6_isLeftFor_32 (by decide) (fun c32 => ?_) (fun c32 => ?_)
      · refine j_iconst (v := 0) C 39 dX6_isLeftFor_39 rfl ?_
        exact j_zret C 40 hr rfl rfl rfl dX6_isLeftFor_40
      · refine j_iconst (v := 1) C 35 dX6_isLeftFor_35 rfl ?_
        refine j_goto C 36 40 dX6_isLeftFor_36 (by decide) ?_
        exact j_zret C 40 hr rfl rfl rfl dX6_isLeftFor_40
    · refine j_iconst (v := 0) C 39 dX6_isLeftFor_39 rfl ?_
      exact j_zret C 40 hr rfl rfl rfl dX6_isLeftFor_40
  · refine j_iconst (v := 1) C 35 dX6_isLeftFor_35 rfl ?_
    refine j_goto C 36 40 dX6_isLeftFor_36 (by decide) ?_
    exact j_zret C 40 hr rfl rfl rfl dX6_isLeftFor_40
theorem c_X6_isLeftFor {G : GG} {l : Launch} (hG : Gok G) {c : VC} {o : Nat → Int64} (v : VM) (a1 : Int32) {x : Int32} (hf : f_X6_isLeftFor v a1 = some x) : Ct l yX6_isLeftFor cX6_isLeftFor 2 (some .boolean) 5 [.ref (G.2.2 114), .int a1] G (c, (v, o)) (some (.int x)) (c, (v, o)) := by
  refine ct_of (rv := fun x : Int32 => (some (.int x))) (fin := fun x : Int32 => ((c, (v, o)) : VA)) (own := RX6) hG (plainFor_of_name (by decide)) rfl (Nat.le_of_ble_eq_true rfl) (fun X C hr _ => ?_) hf
  exact w_X6_isLeftFor C hr v a1
set_option maxRecDepth 100000 in
set_option maxHeartbeats 4000000 in
theorem w_X6_readSlot {G : GG} {X : WX} {c : VC} {o : Nat → Int64} (C : Cx G 2 X RX6 cX6_readSlot 5) (hr : (xM X).sig.returnType = (some .int)) (v : VM) (a1 : Int32) : JS G 2 X (QM G X (fun x : Int32 => some (.int x)) (fun x : Int32 => ((c, (v, o)) : VA))) (f_X6_readSlot v a1) (c, (v, o)) 0 [(0, .ref (G.2.2 114)), (1, .int a1)] [] := by
  unfold f_X6_readSlot
  refine j_aload_n C 0 0 rfl dX6_readSlot_0 ?_
  refine j_aload_n C 1 0 rfl dX6_readSlot_1 ?_
  refine j_iload_n C 2 1 rfl dX6_readSlot_2 ?_
  refine j_bind (fun x3 h3 => ?_)
  refine j_vMo_i (As := [.int a1]) (st := [.ref (G.2.2 114)]) C k_X6_slotOf 3 (c_X6_slotOf C.2.2.2.2.2.2.1 _ _ h3) rfl rfl ml_X6_73 ii_X6_slotOf is_X6_slotOf dX6_readSlot_3 (by decide) rfl (Nat.le_of_ble_eq_true rfl) ?_ rfl
  refine j_bind (fun x6 h6 => ?_)
  refine j_vMo_i (As := [.int x3]) (st := []) C k_X6_isLeft 6 (c_X6_isLeft C.2.2.2.2.2.2.1 _ _ h6) rfl rfl ml_X6_76 ii_X6_isLeft is_X6_isLeft dX6_readSlot_6 (by decide) rfl (Nat.le_of_ble_eq_true rfl) ?_ rfl
  refine j_if_eq C 9 20 dX6_readSlot_9 (by decide) (fun c9 => ?_) (fun c9 => ?_)
  · refine j_aload_n C 20 0 rfl dX6_readSlot_20 ?_
    refine j_iload_n C 21 1 rfl dX6_readSlot_21 ?_
    refine j_bind (fun x22 h22 => ?_)
    refine j_vMo_i (As := [.int a1]) (st := []) C k_X6_secondSlot 22 (c_X6_secondSlot C.2.2.2.2.2.2.1 _ _ h22) rfl rfl ml_X6_80 ii_X6_secondSlot is_X6_secondSlot dX6_readSlot_22 (by decide) rfl (Nat.le_of_ble_eq_true rfl) ?_ rfl
    exact j_iret C 25 hr rfl rfl dX6_readSlot_25
  · refine j_aload_n C 12 0 rfl dX6_readSlot_12 ?_
    refine j_iload_n C 13 1 rfl dX6_readSlot_13 ?_
    refine j_bind (fun x14 h14 => ?_)
    refine j_vMo_i (As := [.int a1]) (st := []) C k_X6_slotOf 14 (c_X6_slotOf C.2.2.2.2.2.2.1 _ _ h14) rfl rfl ml_X6_73 ii_X6_slotOf is_X6_slotOf dX6_readSlot_14 (by decide) rfl (Nat.le_of_ble_eq_true rfl) ?_ rfl
    refine j_goto C 17 25 dX6_readSlot_17 (by decide) ?_
    exact j_iret C 25 hr rfl rfl dX6_readSlot_25
theorem c_X6_readSlot {G : GG} {l : Launch} (hG : Gok G) {c : VC} {o : Nat → Int64} (v : VM) (a1 : Int32) {x : Int32} (hf : f_X6_readSlot v a1 = some x) : Ct l yX6_readSlot cX6_readSlot 2 (some .int) 5 [.ref (G.2.2 114), .int a1] G (c, (v, o)) (some (.int x)) (c, (v, o)) := by
  refine ct_of (rv := fun x : Int32 => (some (.int x))) (fin := fun x : Int32 => ((c, (v, o)) : VA)) (own := RX6) hG (plainFor_of_name (by decide)) rfl (Nat.le_of_ble_eq_true rfl) (fun X C hr _ => ?_) hf
  exact w_X6_readSlot C hr v a1
set_option maxRecDepth 100000 in
set_option maxHeartbeats 4000000 in
theorem w_X6_readNumber {G : GG} {X : WX} {c : VC} {o : Nat → Int64} (C : Cx G 2 X RX6 cX6_readNumber 5) (hr : (xM X).sig.returnType = (some .int)) (v : VM) (a1 : Int32) : JS G 2 X (QM G X (fun x : Int32 => some (.int x)) (fun x : Int32 => ((c, (v, o)) : VA))) (f_X6_readNumber v a1) (c, (v, o)) 0 [(0, .ref (G.2.2 114)), (1, .int a1)] [] := by
  unfold f_X6_readNumber
  refine j_aload_n C 0 0 rfl dX6_readNumber_0 ?_
  refine j_aload_n C 1 0 rfl dX6_readNumber_1 ?_
  refine j_iload_n C 2 1 rfl dX6_readNumber_2 ?_
  refine j_bind (fun x3 h3 => ?_)
  refine j_vMo_i (As := [.int a1]) (st := [.ref (G.2.2 114)]) C k_X6_slotOf 3 (c_X6_slotOf C.2.2.2.2.2.2.1 _ _ h3) rfl rfl ml_X6_73 ii_X6_slotOf is_X6_slotOf dX6_readNumber_3 (by decide) rfl (Nat.le_of_ble_eq_true rfl) ?_ rfl
  refine j_bind (fun x6 h6 => ?_)
  refine j_vMo_i (As := [.int x3]) (st := []) C k_X6_isLeft 6 (c_X6_isLeft C.2.2.2.2.2.2.1 _ _ h6) rfl rfl ml_X6_76 ii_X6_isLeft is_X6_isLeft dX6_readNumber_6 (by decide) rfl (Nat.le_of_ble_eq_true rfl) ?_ rfl
  refine j_if_eq C 9 20 dX6_readNumber_9 (by decide) (fun c9 => ?_) (fun c9 => ?_)
  · refine j_aload_n C 20 0 rfl dX6_readNumber_20 ?_
    refine j_iload_n C 21 1 rfl dX6_readNumber_21 ?_
    refine j_bind (fun x22 h22 => ?_)
    refine j_vMo_i (As := [.int a1]) (st := []) C k_X6_secondNumber 22 (c_X6_secondNumber C.2.2.2.2.2.2.1 _ _ h22) rfl rfl ml_X6_86 ii_X6_secondNumber is_X6_secondNumber dX6_readNumber_22 (by decide) rfl (Nat.le_of_ble_eq_true rfl) ?_ rfl
    exact j_iret C 25 hr rfl rfl dX6_readNumber_25
  · refine j_aload_n C 12 0 rfl dX6_readNumber_12 ?_
    refine j_iload_n C 13 1 rfl dX6_readNumber_13 ?_
    refine j_bind (fun x14 h14 => ?_)
    refine j_vMo_i (As := [.int a1]) (st := []) C k_X6_numberOf 14 (c_X6_numberOf C.2.2.2.2.2.2.1 _ _ h14) rfl rfl ml_X6_83 ii_X6_numberOf is_X6_numberOf dX6_readNumber_14 (by decide) rfl (Nat.le_of_ble_eq_true rfl) ?_ rfl
    refine j_goto C 17 25 dX6_readNumber_17 (by decide) ?_
    exact j_iret C 25 hr rfl rfl dX6_readNumber_25
theorem c_X6_readNumber {G : GG} {l : Launch} (hG : Gok G) {c : VC} {o : Nat → Int64} (v : VM) (a1 : Int32) {x : Int32} (hf : f_X6_readNumber v a1 = some x) : Ct l yX6_readNumber cX6_readNumber 2 (some .int) 5 [.ref (G.2.2 114), .int a1] G (c, (v, o)) (some (.int x)) (c, (v, o)) := by
  refine ct_of (rv := fun x : Int32 => (some (.int x))) (fin := fun x : Int32 => ((c, (v, o)) : VA)) (own := RX6) hG (plainFor_of_name (by decide)) rfl (Nat.le_of_ble_eq_true rfl) (fun X C hr _ => ?_) hf
  exact w_X6_readNumber C hr v a1
set_option maxRecDepth 100000 in
set_option maxHeartbeats 4000000 in
theorem w_X6_valueOf {G : GG} {X : WX} {c : VC} {o : Nat → Int64} (C : Cx G 2 X RX6 cX6_valueOf 6) (hr : (xM X).sig.returnType = (some .int)) (v : VM) (a1 : Int32) : JS G 2 X (QM G X (fun x : Int32 => some (.int x)) (fun x : Int32 => ((c, (v, o)) : VA))) (f_X6_valueOf v a1) (c, (v, o)) 0 [(0, .ref (G.2.2 114)), (1, .int a1)] [] := by
  unfold f_X6_valueOf
  refine j_aload_n C 0 0 rfl dX6_valueOf_0 ?_
  refine g_Mo1 C 1 (Or.inl fl_X6_7) dX6_valueOf_1 ?_
  refine j_bipush (v := 48) C 4 dX6_valueOf_4 rfl ?_
  refine j_bipush (v := 12) C 6 dX6_valueOf_6 rfl ?_
  refine j_aload_n C 8 0 rfl dX6_valueOf_8 ?_
  refine j_iload_n C 9 1 rfl dX6_valueOf_9 ?_
  refine j_bind (fun x10 h10 => ?_)
  refine j_vMo_i (As := [.int a1]) (st := [.int 12, .int 48, .ref (G.2.2 115)]) C k_X6_readSlot 10 (c_X6_readSlot C.2.2.2.2.2.2.1 _ _ h10) rfl rfl ml_X6_89 ii_X6_readSlot is_X6_readSlot dX6_valueOf_10 (by decide) rfl (Nat.le_of_ble_eq_true rfl) ?_ rfl
  refine j_imul C 13 dX6_valueOf_13 ?_
  refine j_iadd C 14 dX6_valueOf_14 ?_
  refine j_aload_n C 15 0 rfl dX6_valueOf_15 ?_
  refine j_iload_n C 16 1 rfl dX6_valueOf_16 ?_
  refine j_bind (fun x17 h17 => ?_)
  refine j_vMo_i (As := [.int a1]) (st := [.int (48 + (12 * x10)), .ref (G.2.2 115)]) C k_X6_readNumber 17 (c_X6_readNumber C.2.2.2.2.2.2.1 _ _ h17) rfl rfl ml_X6_92 ii_X6_readNumber is_X6_readNumber dX6_valueOf_17 (by decide) rfl (Nat.le_of_ble_eq_true rfl) ?_ rfl
  refine j_iadd C 20 dX6_valueOf_20 ?_
  refine j_bind (fun x21 h21 => ?_)
  refine l_Mo1 C 21 h21 dX6_valueOf_21 ?_
  exact j_iret C 22 hr rfl rfl dX6_valueOf_22
theorem c_X6_valueOf {G : GG} {l : Launch} (hG : Gok G) {c : VC} {o : Nat → Int64} (v : VM) (a1 : Int32) {x : Int32} (hf : f_X6_valueOf v a1 = some x) : Ct l yX6_valueOf cX6_valueOf 2 (some .int) 6 [.ref (G.2.2 114), .int a1] G (c, (v, o)) (some (.int x)) (c, (v, o)) := by
  refine ct_of (rv := fun x : Int32 => (some (.int x))) (fin := fun x : Int32 => ((c, (v, o)) : VA)) (own := RX6) hG (plainFor_of_name (by decide)) rfl (Nat.le_of_ble_eq_true rfl) (fun X C hr _ => ?_) hf
  exact w_X6_valueOf C hr v a1
set_option maxRecDepth 100000 in
set_option maxHeartbeats 4000000 in
theorem wb_X6_blockAt_53 {G : GG} {X : WX} {c : VC} {o : Nat → Int64} (C : Cx G 5 X RX6 cX6_blockAt 2) (hr : (xM X).sig.returnType = (some .int)) (v : VM) (s3 : Int32) (t0 : Int32) : JS G 5 X (QM G X (fun x : Int32 => some (.int x)) (fun x : Int32 => ((c, (v, o)) : VA))) (b_X6_blockAt_53 v s3 t0) (c, (v, o)) 53 [(0, .ref (G.2.2 114)), (3, .int s3)] [.int t0] := by
  unfold b_X6_blockAt_53
  refine j_istore (L1 := [(4, .int t0), (0, .ref (G.2.2 114)), (3, .int s3)]) C 53 dX6_blockAt_53 (by decide) rfl ?_
  refine j_aload_n C 55 1 rfl dX6_blockAt_55 ?_
  refine g_Mo1 C 56 (Or.inl fl_X6_7) dX6_blockAt_56 ?_
  refine j_bipush (v := 40) C 59 dX6_blockAt_59 rfl ?_
  refine j_bind (fun x61 h61 => ?_)
  refine l_Mo1 C 61 h61 dX6_blockAt_61 ?_
  refine j_iconst (v := 2) C 62 dX6_blockAt_62 rfl ?_
  refine j_icmp_ne C 63 82 dX6_blockAt_63 (by decide) (fun c63 => ?_) (fun c63 => ?_)
  · refine j_iload C 66 0 rfl dX6_blockAt_66 ?_
    refine j_aload_n C 68 1 rfl dX6_blockAt_68 ?_
    refine j_bind (fun x69 h69 => ?_)
    refine j_vMo_i (As := []) (st := [.int t0]) C k_X6_lesserRoom 69 (c_X6_lesserRoom C.2.2.2.2.2.2.1 _ h69) rfl rfl ml_X6_51 ii_X6_lesserRoom is_X6_lesserRoom dX6_blockAt_69 (by decide) rfl (Nat.le_of_ble_eq_true rfl) ?_ rfl
    refine j_icmp_ge C 72 80 dX6_blockAt_72 (by decide) (fun c72 => ?_) (fun c72 => ?_)
    · refine j_iload C 75 0 rfl dX6_blockAt_75 ?_
      refine j_goto C 77 81 dX6_blockAt_77 (by decide) ?_
      exact j_iret C 81 hr rfl rfl dX6_blockAt_81
    · refine j_iconst (v := (-1)) C 80 dX6_blockAt_80 rfl ?_
      exact j_iret C 81 hr rfl rfl dX6_blockAt_81
  · refine j_aload_n C 82 1 rfl dX6_blockAt_82 ?_
    refine g_Mo1 C 83 (Or.inl fl_X6_7) dX6_blockAt_83 ?_
    refine j_bipush (v := 40) C 86 dX6_blockAt_86 rfl ?_
    refine j_bind (fun x88 h88 => ?_)
    refine l_Mo1 C 88 h88 dX6_blockAt_88 ?_
    refine j_iconst (v := 1) C 89 dX6_blockAt_89 rfl ?_
    refine j_icmp_ne C 90 111 dX6_blockAt_90 (by decide) (fun c90 => ?_) (fun c90 => ?_)
    · refine j_iload_n C 93 2 rfl dX6_blockAt_93 ?_
      refine j_if_ne C 94 102 dX6_blockAt_94 (by decide) (fun c94 => ?_) (fun c94 => ?_)
      · refine j_iload C 97 0 rfl dX6_blockAt_97 ?_
        refine j_goto C 99 110 dX6_blockAt_99 (by decide) ?_
        exact j_iret C 110 hr rfl rfl dX6_blockAt_110
      · refine j_aload_n C 102 1 rfl dX6_blockAt_102 ?_
        refine j_iconst (v := 0) C 103 dX6_blockAt_103 rfl ?_
        refine j_bind (fun x104 h104 => ?_)
        refine j_vMo_i (As := [.int 0]) (st := []) C k_X6_room 104 (c_X6_room C.2.2.2.2.2.2.1 _ _ h104) rfl rfl ml_X6_47 ii_X6_room is_X6_room dX6_blockAt_104 (by decide) rfl (Nat.le_of_ble_eq_true rfl) ?_ rfl
        refine j_iload C 107 0 rfl dX6_blockAt_107 ?_
        refine j_iadd C 109 dX6_blockAt_109 ?_
        exact j_iret C 110 hr rfl rfl dX6_blockAt_110
    · refine j_iload C 111 0 rfl dX6_blockAt_111 ?_
      refine j_aload_n C 113 1 rfl dX6_blockAt_113 ?_
      refine j_bind (fun x114 h114 => ?_)
      refine j_vMo_i (As := []) (st := [.int t0]) C k_X6_lesserRoom 114 (c_X6_lesserRoom C.2.2.2.2.2.2.1 _ h114) rfl rfl ml_X6_51 ii_X6_lesserRoom is_X6_lesserRoom dX6_blockAt_114 (by decide) rfl (Nat.le_of_ble_eq_true rfl) ?_ rfl
      refine j_icmp_ge C 117 129 dX6_blockAt_117 (by decide) (fun c117 => ?_) (fun c117 => ?_)
      · refine j_iconst (v := 2) C 120 dX6_blockAt_120 rfl ?_
        refine j_iload C 121 0 rfl dX6_blockAt_121 ?_
        refine j_imul C 123 dX6_blockAt_123 ?_
        refine j_iload_n C 124 2 rfl dX6_blockAt_124 ?_
        refine j_iadd C 125 dX6_blockAt_125 ?_
        refine j_goto C 126 136 dX6_blockAt_126 (by decide) ?_
        exact j_iret C 136 hr rfl rfl dX6_blockAt_136
      · refine j_iload C 129 0 rfl dX6_blockAt_129 ?_
        refine j_aload_n C 131 1 rfl dX6_blockAt_131 ?_
        refine j_bind (fun x132 h132 => ?_)
        refine j_vMo_i (As := []) (st := [.int t0]) C k_X6_lesserRoom 132 (c_X6_lesserRoom C.2.2.2.2.2.2.1 _ h132) rfl rfl ml_X6_51 ii_X6_lesserRoom is_X6_lesserRoom dX6_blockAt_132 (by decide) rfl (Nat.le_of_ble_eq_true rfl) ?_ rfl
        refine j_iadd C 135 dX6_blockAt_135 ?_
        exact j_iret C 136 hr rfl rfl dX6_blockAt_136
set_option maxRecDepth 100000 in
set_option maxHeartbeats 4000000 in
theorem w_X6_blockAt {G : GG} {X : WX} {c : VC} {o : Nat → Int64} (C : Cx G 5 X RX6 cX6_blockAt 2) (hr : (xM X).sig.returnType = (some .int)) (v : VM) (a1 : Int32) (a2 : Int32) : JS G 5 X (QM G X (fun x : Int32 => some (.int x)) (fun x : Int32 => ((c, (v, o)) : VA))) (f_X6_blockAt v a1 a2) (c, (v, o)) 0 [(0, .ref (G.2.2 114)), (1, .int a1), (2, .int a2)] [] := by
  unfold f_X6_blockAt
  refine j_aload_n C 0 0 rfl dX6_blockAt_0 ?_
  refine g_Mo1 C 1 (Or.inl fl_X6_7) dX6_blockAt_1 ?_
  refine j_bipush (v := 40) C 4 dX6_blockAt_4 rfl ?_
  refine j_bind (fun x6 h6 => ?_)
  refine l_Mo1 C 6 h6 dX6_blockAt_6 ?_
  refine j_iconst (v := (-1)) C 7 dX6_blockAt_7 rfl ?_
  refine j_icmp_eq C 8 24 dX6_blockAt_8 (by decide) (fun c8 => ?_) (fun c8 => ?_)
  · refine j_iconst (v := (-1)) C 24 dX6_blockAt_24 rfl ?_
    exact j_iret C 25 hr rfl rfl dX6_blockAt_25
  · refine j_iload_n C 11 2 rfl dX6_blockAt_11 ?_
    refine j_aload_n C 12 0 rfl dX6_blockAt_12 ?_
    refine g_Mo1 C 13 (Or.inl fl_X6_7) dX6_blockAt_13 ?_
    refine j_bipush (v := 36) C 16 dX6_blockAt_16 rfl ?_
    refine j_iload_n C 18 1 rfl dX6_blockAt_18 ?_
    refine j_iadd C 19 dX6_blockAt_19 ?_
    refine j_bind (fun x20 h20 => ?_)
    refine l_Mo1 C 20 h20 dX6_blockAt_20 ?_
    refine j_icmp_lt C 21 26 dX6_blockAt_21 (by decide) (fun c21 => ?_) (fun c21 => ?_)
    · refine j_iload_n C 26 1 rfl dX6_blockAt_26 ?_
      refine j_iconst (v := 2) C 27 dX6_blockAt_27 rfl ?_
      refine j_idiv C 28 dX6_blockAt_28 (by decide) ?_
      refine j_istore_n (L1 := [(3, .int (a1 / 2)), (0, .ref (G.2.2 114)), (1, .int a1), (2, .int a2)]) C 29 rfl dX6_blockAt_29 (by decide) rfl ?_
      refine j_iload_n C 30 2 rfl dX6_blockAt_30 ?_
      refine j_iconst (v := 2) C 31 dX6_blockAt_31 rfl ?_
      refine j_irem C 32 dX6_blockAt_32 (by decide) ?_
      refine j_if_ne C 33 40 dX6_blockAt_33 (by decide) (fun c33 => ?_) (fun c33 => ?_)
      · refine j_iload_n C 36 3 rfl dX6_blockAt_36 ?_
        refine j_goto C 37 53 dX6_blockAt_37 (by decide) ?_
        refine j_L (L' := [(0, .ref (G.2.2 114)), (3, .int (a1 / 2))]) [1, 0] rfl ?_
        exact wb_X6_blockAt_53 C hr v (a1 / 2) a2
      · refine j_aload_n C 40 1 rfl dX6_blockAt_40 ?_
        refine g_Mo1 C 41 (Or.inl fl_X6_7) dX6_blockAt_41 ?_
        refine j_bipush (v := 36) C 44 dX6_blockAt_44 rfl ?_
        refine j_iload_n C 46 2 rfl dX6_blockAt_46 ?_
        refine j_iadd C 47 dX6_blockAt_47 ?_
        refine j_iconst (v := 1) C 48 dX6_blockAt_48 rfl ?_
        refine j_isub C 49 dX6_blockAt_49 ?_
        refine j_bind (fun x50 h50 => ?_)
        refine l_Mo1 C 50 h50 dX6_blockAt_50 ?_
        refine j_iload_n C 51 3 rfl dX6_blockAt_51 ?_
        refine j_iadd C 52 dX6_blockAt_52 ?_
        refine j_L (L' := [(0, .ref (G.2.2 114)), (3, .int (a1 / 2))]) [1, 0] rfl ?_
        exact wb_X6_blockAt_53 C hr v (a1 / 2) (x50 + a2)
    · refine j_iconst (v := (-1)) C 24 dX6_blockAt_24 rfl ?_
      exact j_iret C 25 hr rfl rfl dX6_blockAt_25
theorem c_X6_blockAt {G : GG} {l : Launch} (hG : Gok G) {c : VC} {o : Nat → Int64} (v : VM) (a1 : Int32) (a2 : Int32) {x : Int32} (hf : f_X6_blockAt v a1 a2 = some x) : Ct l yX6_blockAt cX6_blockAt 5 (some .int) 2 [.ref (G.2.2 114), .int a1, .int a2] G (c, (v, o)) (some (.int x)) (c, (v, o)) := by
  refine ct_of (rv := fun x : Int32 => (some (.int x))) (fin := fun x : Int32 => ((c, (v, o)) : VA)) (own := RX6) hG (plainFor_of_name (by decide)) rfl (Nat.le_of_ble_eq_true rfl) (fun X C hr _ => ?_) hf
  exact w_X6_blockAt C hr v a1 a2
set_option maxRecDepth 100000 in
set_option maxHeartbeats 4000000 in
theorem wl_X6_used_4 {G : GG} {X : WX} {c : VC} {o : Nat → Int64} (C : Cx G 4 X RX6 cX6_used 3) (hr : (xM X).sig.returnType = (some .int)) (v : VM) : ∀ (n : Nat) (s1 : Int32) (s2 : Int32) (s3 : Int32), JS G 4 X (QM G X (fun x : Int32 => some (.int x)) (fun x : Int32 => ((c, (v, o)) : VA))) (l_X6_used_4 v n s1 s2 s3) (c, (v, o)) 4 [(0, .ref (G.2.2 114)), (1, .int s1), (2, .int s2), (3, .int s3)] [] := by
  intro n
  induction n with
  | zero => intro _ _ _; exact j_none
  | succ n ih =>
    intro s1 s2 s3
    unfold l_X6_used_4
    refine j_iload_n C 4 3 rfl dX6_used_4 ?_
    refine j_bipush (v := 12) C 5 dX6_used_5 rfl ?_
    refine j_icmp_ge C 7 33 dX6_used_7 (by decide) (fun c7 => ?_) (fun c7 => ?_)
    · refine j_iload_n C 10 2 rfl dX6_used_10 ?_
      refine j_aload_n C 11 0 rfl dX6_used_11 ?_
      refine j_iload_n C 12 1 rfl dX6_used_12 ?_
      refine j_iload_n C 13 3 rfl dX6_used_13 ?_
      refine j_bind (fun x14 h14 => ?_)
      refine j_vMo_i (As := [.int s1, .int s3]) (st := [.int s2]) C k_X6_blockAt 14 (c_X6_blockAt C.2.2.2.2.2.2.1 _ _ _ h14) rfl rfl ml_X6_95 ii_X6_blockAt is_X6_blockAt dX6_used_14 (by decide) rfl (Nat.le_of_ble_eq_true rfl) ?_ rfl
      refine j_if_lt C 17 24 dX6_used_17 (by decide) (fun c17 => ?_) (fun c17 => ?_)
      · refine j_iconst (v := 0) C 24 dX6_used_24 rfl ?_
        refine j_iadd C 25 dX6_used_25 ?_
        refine j_istore_n (L1 := [(2, .int (s2 + 0)), (0, .ref (G.2.2 114)), (1, .int s1), (3, .int s3)]) C 26 rfl dX6_used_26 (by decide) rfl ?_
        refine j_iinc (v := (s3 + 1)) (L1 := [(3, .int (s3 + 1)), (2, .int (s2 + 0)), (0, .ref (G.2.2 114)), (1, .int s1)]) C 27 3 rfl dX6_used_27 rfl (by decide) rfl ?_
        refine j_goto C 30 4 dX6_used_30 (by decide) ?_
        refine j_L (L' := [(0, .ref (G.2.2 114)), (1, .int s1), (2, .int (s2 + 0)), (3, .int (s3 + 1))]) [2, 3, 1, 0] rfl ?_
        exact ih s1 (s2 + 0) (s3 + 1)
      · refine j_iconst (v := 1) C 20 dX6_used_20 rfl ?_
        refine j_goto C 21 25 dX6_used_21 (by decide) ?_
        refine j_iadd C 25 dX6_used_25 ?_
        refine j_istore_n (L1 := [(2, .int (s2 + 1)), (0, .ref (G.2.2 114)), (1, .int s1), (3, .int s3)]) C 26 rfl dX6_used_26 (by decide) rfl ?_
        refine j_iinc (v := (s3 + 1)) (L1 := [(3, .int (s3 + 1)), (2, .int (s2 + 1)), (0, .ref (G.2.2 114)), (1, .int s1)]) C 27 3 rfl dX6_used_27 rfl (by decide) rfl ?_
        refine j_goto C 30 4 dX6_used_30 (by decide) ?_
        refine j_L (L' := [(0, .ref (G.2.2 114)), (1, .int s1), (2, .int (s2 + 1)), (3, .int (s3 + 1))]) [2, 3, 1, 0] rfl ?_
        exact ih s1 (s2 + 1) (s3 + 1)
    · refine j_iload_n C 33 2 rfl dX6_used_33 ?_
      exact j_iret C 34 hr rfl rfl dX6_used_34
set_option maxRecDepth 100000 in
set_option maxHeartbeats 4000000 in
theorem w_X6_used {G : GG} {X : WX} {c : VC} {o : Nat → Int64} (C : Cx G 4 X RX6 cX6_used 3) (hr : (xM X).sig.returnType = (some .int)) (v : VM) (a1 : Int32) : JS G 4 X (QM G X (fun x : Int32 => some (.int x)) (fun x : Int32 => ((c, (v, o)) : VA))) (f_X6_used v a1) (c, (v, o)) 0 [(0, .ref (G.2.2 114)), (1, .int a1)] [] := by
  unfold f_X6_used
  refine j_iconst (v := 0) C 0 dX6_used_0 rfl ?_
  refine j_istore_n (L1 := [(2, .int 0), (0, .ref (G.2.2 114)), (1, .int a1)]) C 1 rfl dX6_used_1 (by decide) rfl ?_
  refine j_iconst (v := 0) C 2 dX6_used_2 rfl ?_
  refine j_istore_n (L1 := [(3, .int 0), (2, .int 0), (0, .ref (G.2.2 114)), (1, .int a1)]) C 3 rfl dX6_used_3 (by decide) rfl ?_
  refine j_L (L' := [(0, .ref (G.2.2 114)), (1, .int a1), (2, .int 0), (3, .int 0)]) [2, 3, 1, 0] rfl ?_
  exact wl_X6_used_4 C hr v FU a1 0 0
theorem c_X6_used {G : GG} {l : Launch} (hG : Gok G) {c : VC} {o : Nat → Int64} (v : VM) (a1 : Int32) {x : Int32} (hf : f_X6_used v a1 = some x) : Ct l yX6_used cX6_used 4 (some .int) 3 [.ref (G.2.2 114), .int a1] G (c, (v, o)) (some (.int x)) (c, (v, o)) := by
  refine ct_of (rv := fun x : Int32 => (some (.int x))) (fin := fun x : Int32 => ((c, (v, o)) : VA)) (own := RX6) hG (plainFor_of_name (by decide)) rfl (Nat.le_of_ble_eq_true rfl) (fun X C hr _ => ?_) hf
  exact w_X6_used C hr v a1
set_option maxRecDepth 100000 in
set_option maxHeartbeats 4000000 in
theorem wl_X6_forgetMap_10 {G : GG} {X : WX} {c : VC} {o : Nat → Int64} (C : Cx G 2 X RX6 cX6_forgetMap 1) (hr : (xM X).sig.returnType = none) : ∀ (n : Nat) (v : VM) (s1 : Int32), JS G 2 X (QM G X (fun x : VM => none) (fun x : VM => ((c, (x, o)) : VA))) (l_X6_forgetMap_10 n v s1) (c, (v, o)) 10 [(0, .ref (G.2.2 114)), (1, .int s1)] [] := by
  intro n
  induction n with
  | zero => intro _ _; exact j_none
  | succ n ih =>
    intro v s1
    unfold l_X6_forgetMap_10
    refine j_iload_n C 10 1 rfl dX6_forgetMap_10 ?_
    refine j_iconst (v := 4) C 11 dX6_forgetMap_11 rfl ?_
    refine j_icmp_ge C 12 38 dX6_forgetMap_12 (by decide) (fun c12 => ?_) (fun c12 => ?_)
    · refine j_aload_n C 15 0 rfl dX6_forgetMap_15 ?_
      refine g_Mo1 C 16 (Or.inl fl_X6_7) dX6_forgetMap_16 ?_
      refine j_bipush (v := 36) C 19 dX6_forgetMap_19 rfl ?_
      refine j_iload_n C 21 1 rfl dX6_forgetMap_21 ?_
      refine j_iadd C 22 dX6_forgetMap_22 ?_
      refine j_iconst (v := 0) C 23 dX6_forgetMap_23 rfl ?_
      refine j_bind (fun x24 h24 => ?_)
      refine t_Mo1 C 24 h24 dX6_forgetMap_24 ?_
      refine j_V (V' := (c, ((v.1, x24, v.2.2), o))) rfl ?_
      refine j_aload_n C 25 0 rfl dX6_forgetMap_25 ?_
      refine j_iload_n C 26 1 rfl dX6_forgetMap_26 ?_
      refine j_iconst (v := 5) C 27 dX6_forgetMap_27 rfl ?_
      refine j_iconst (v := 0) C 28 dX6_forgetMap_28 rfl ?_
      refine j_bind (fun x29 h29 => ?_)
      refine j_vMo_v (As := [.int s1, .int 5, .int 0]) (st := []) C k_X6_put 29 (c_X6_put C.2.2.2.2.2.2.1 _ _ _ _ h29) rfl rfl ml_X6_98 ii_X6_put is_X6_put dX6_forgetMap_29 (by decide) rfl (Nat.le_of_ble_eq_true rfl) ?_ rfl
      refine j_V (V' := (c, (x29, o))) rfl ?_
      refine j_iinc (v := (s1 + 1)) (L1 := [(1, .int (s1 + 1)), (0, .ref (G.2.2 114))]) C 32 1 rfl dX6_forgetMap_32 rfl (by decide) rfl ?_
      refine j_goto C 35 10 dX6_forgetMap_35 (by decide) ?_
      refine j_L (L' := [(0, .ref (G.2.2 114)), (1, .int (s1 + 1))]) [1, 0] rfl ?_
      exact ih x29 (s1 + 1)
    · exact j_vret C 38 hr rfl rfl dX6_forgetMap_38
set_option maxRecDepth 100000 in
set_option maxHeartbeats 4000000 in
theorem w_X6_forgetMap {G : GG} {X : WX} {c : VC} {o : Nat → Int64} (C : Cx G 2 X RX6 cX6_forgetMap 1) (hr : (xM X).sig.returnType = none) (v : VM) : JS G 2 X (QM G X (fun x : VM => none) (fun x : VM => ((c, (x, o)) : VA))) (f_X6_forgetMap v) (c, (v, o)) 0 [(0, .ref (G.2.2 114))] [] := by
  unfold f_X6_forgetMap
  refine j_aload_n C 0 0 rfl dX6_forgetMap_0 ?_
  refine g_Mo1 C 1 (Or.inl fl_X6_7) dX6_forgetMap_1 ?_
  refine j_bipush (v := 40) C 4 dX6_forgetMap_4 rfl ?_
  refine j_iconst (v := (-1)) C 6 dX6_forgetMap_6 rfl ?_
  refine j_bind (fun x7 h7 => ?_)
  refine t_Mo1 C 7 h7 dX6_forgetMap_7 ?_
  refine j_V (V' := (c, ((v.1, x7, v.2.2), o))) rfl ?_
  refine j_iconst (v := 0) C 8 dX6_forgetMap_8 rfl ?_
  refine j_istore_n (L1 := [(1, .int 0), (0, .ref (G.2.2 114))]) C 9 rfl dX6_forgetMap_9 (by decide) rfl ?_
  refine j_L (L' := [(0, .ref (G.2.2 114)), (1, .int 0)]) [1, 0] rfl ?_
  exact wl_X6_forgetMap_10 C hr FU (v.1, x7, v.2.2) 0
theorem c_X6_forgetMap {G : GG} {l : Launch} (hG : Gok G) {c : VC} {o : Nat → Int64} (v : VM) {x : VM} (hf : f_X6_forgetMap v = some x) : Ct l yX6_forgetMap cX6_forgetMap 2 none 1 [.ref (G.2.2 114)] G (c, (v, o)) none (c, (x, o)) := by
  refine ct_of (rv := fun x : VM => none) (fin := fun x : VM => ((c, (x, o)) : VA)) (own := RX6) hG (plainFor_of_name (by decide)) rfl (Nat.le_of_ble_eq_true rfl) (fun X C hr _ => ?_) hf
  exact w_X6_forgetMap C hr v
set_option maxRecDepth 100000 in
set_option maxHeartbeats 4000000 in
theorem wl_X6_goodRoom_6 {G : GG} {X : WX} {c : VC} {o : Nat → Int64} (C : Cx G 4 X RX6 cX6_goodRoom 2) (hr : (xM X).sig.returnType = (some .int)) (v : VM) : ∀ (n : Nat) (s1 : Int32) (s2 : Int32) (s3 : Int32), JS G 4 X (QM G X (fun x : Int32 => some (.int x)) (fun x : Int32 => ((c, (v, o)) : VA))) (l_X6_goodRoom_6 v n s1 s2 s3) (c, (v, o)) 6 [(0, .ref (G.2.2 114)), (1, .int s1), (2, .int s2), (3, .int s3)] [] := by
  intro n
  induction n with
  | zero => intro _ _ _; exact j_none
  | succ n ih =>
    intro s1 s2 s3
    unfold l_X6_goodRoom_6
    refine j_iload_n C 6 3 rfl dX6_goodRoom_6 ?_
    refine j_iconst (v := 2) C 7 dX6_goodRoom_7 rfl ?_
    refine j_iload_n C 8 1 rfl dX6_goodRoom_8 ?_
    refine j_imul C 9 dX6_goodRoom_9 ?_
    refine j_iconst (v := 2) C 10 dX6_goodRoom_10 rfl ?_
    refine j_iadd C 11 dX6_goodRoom_11 ?_
    refine j_icmp_ge C 12 51 dX6_goodRoom_12 (by decide) (fun c12 => ?_) (fun c12 => ?_)
    · refine j_iload_n C 15 2 rfl dX6_goodRoom_15 ?_
      refine j_aload_n C 16 0 rfl dX6_goodRoom_16 ?_
      refine j_iload_n C 17 3 rfl dX6_goodRoom_17 ?_
      refine j_bind (fun x18 h18 => ?_)
      refine j_vMo_i (As := [.int s3]) (st := [.int s2]) C k_X6_isThere 18 (c_X6_isThere C.2.2.2.2.2.2.1 _ _ h18) rfl rfl ml_X6_102 ii_X6_isThere is_X6_isThere dX6_goodRoom_18 (by decide) rfl (Nat.le_of_ble_eq_true rfl) ?_ rfl
      refine j_if_eq C 21 42 dX6_goodRoom_21 (by decide) (fun c21 => ?_) (fun c21 => ?_)
      · refine j_iconst (v := 0) C 42 dX6_goodRoom_42 rfl ?_
        refine j_iadd C 43 dX6_goodRoom_43 ?_
        refine j_istore_n (L1 := [(2, .int (s2 + 0)), (0, .ref (G.2.2 114)), (1, .int s1), (3, .int s3)]) C 44 rfl dX6_goodRoom_44 (by decide) rfl ?_
        refine j_iinc (v := (s3 + 1)) (L1 := [(3, .int (s3 + 1)), (2, .int (s2 + 0)), (0, .ref (G.2.2 114)), (1, .int s1)]) C 45 3 rfl dX6_goodRoom_45 rfl (by decide) rfl ?_
        refine j_goto C 48 6 dX6_goodRoom_48 (by decide) ?_
        refine j_L (L' := [(0, .ref (G.2.2 114)), (1, .int s1), (2, .int (s2 + 0)), (3, .int (s3 + 1))]) [2, 3, 1, 0] rfl ?_
        exact ih s1 (s2 + 0) (s3 + 1)
      · refine j_aload_n C 24 0 rfl dX6_goodRoom_24 ?_
        refine j_iload_n C 25 3 rfl dX6_goodRoom_25 ?_
        refine j_iconst (v := 4) C 26 dX6_goodRoom_26 rfl ?_
        refine j_bind (fun x27 h27 => ?_)
        refine j_vMo_i (As := [.int s3, .int 4]) (st := [.int s2]) C k_X6_of 27 (c_X6_of C.2.2.2.2.2.2.1 _ _ _ h27) rfl rfl ml_X6_33 ii_X6_of is_X6_of dX6_goodRoom_27 (by decide) rfl (Nat.le_of_ble_eq_true rfl) ?_ rfl
        refine j_if_ne C 30 42 dX6_goodRoom_30 (by decide) (fun c30 => ?_) (fun c30 => ?_)
        · refine j_aload_n C 33 0 rfl dX6_goodRoom_33 ?_
          refine j_iload_n C 34 3 rfl dX6_goodRoom_34 ?_
          refine j_iconst (v := 1) C 35 dX6_goodRoom_35 rfl ?_
          refine j_bind (fun x36 h36 => ?_)
          refine j_vMo_i (As := [.int s3, .int 1]) (st := [.int s2]) C k_X6_of 36 (c_X6_of C.2.2.2.2.2.2.1 _ _ _ h36) rfl rfl ml_X6_33 ii_X6_of is_X6_of dX6_goodRoom_36 (by decide) rfl (Nat.le_of_ble_eq_true rfl) ?_ rfl
          refine j_goto C 39 43 dX6_goodRoom_39 (by decide) ?_
          refine j_iadd C 43 dX6_goodRoom_43 ?_
          refine j_istore_n (L1 := [(2, .int (s2 + x36)), (0, .ref (G.2.2 114)), (1, .int s1), (3, .int s3)]) C 44 rfl dX6_goodRoom_44 (by decide) rfl ?_
          refine j_iinc (v := (s3 + 1)) (L1 := [(3, .int (s3 + 1)), (2, .int (s2 + x36)), (0, .ref (G.2.2 114)), (1, .int s1)]) C 45 3 rfl dX6_goodRoom_45 rfl (by decide) rfl ?_
          refine j_goto C 48 6 dX6_goodRoom_48 (by decide) ?_
          refine j_L (L' := [(0, .ref (G.2.2 114)), (1, .int s1), (2, .int (s2 + x36)), (3, .int (s3 + 1))]) [2, 3, 1, 0] rfl ?_
          exact ih s1 (s2 + x36) (s3 + 1)
        · refine j_iconst (v := 0) C 42 dX6_goodRoom_42 rfl ?_
          refine j_iadd C 43 dX6_goodRoom_43 ?_
          refine j_istore_n (L1 := [(2, .int (s2 + 0)), (0, .ref (G.2.2 114)), (1, .int s1), (3, .int s3)]) C 44 rfl dX6_goodRoom_44 (by decide) rfl ?_
          refine j_iinc (v := (s3 + 1)) (L1 := [(3, .int (s3 + 1)), (2, .int (s2 + 0)), (0, .ref (G.2.2 114)), (1, .int s1)]) C 45 3 rfl dX6_goodRoom_45 rfl (by decide) rfl ?_
          refine j_goto C 48 6 dX6_goodRoom_48 (by decide) ?_
          refine j_L (L' := [(0, .ref (G.2.2 114)), (1, .int s1), (2, .int (s2 + 0)), (3, .int (s3 + 1))]) [2, 3, 1, 0] rfl ?_
          exact ih s1 (s2 + 0) (s3 + 1)
    · refine j_iload_n C 51 2 rfl dX6_goodRoom_51 ?_
      exact j_iret C 52 hr rfl rfl dX6_goodRoom_52
set_option maxRecDepth 100000 in
set_option maxHeartbeats 4000000 in
theorem w_X6_goodRoom {G : GG} {X : WX} {c : VC} {o : Nat → Int64} (C : Cx G 4 X RX6 cX6_goodRoom 2) (hr : (xM X).sig.returnType = (some .int)) (v : VM) (a1 : Int32) : JS G 4 X (QM G X (fun x : Int32 => some (.int x)) (fun x : Int32 => ((c, (v, o)) : VA))) (f_X6_goodRoom v a1) (c, (v, o)) 0 [(0, .ref (G.2.2 114)), (1, .int a1)] [] := by
  unfold f_X6_goodRoom
  refine j_iconst (v := 0) C 0 dX6_goodRoom_0 rfl ?_
  refine j_istore_n (L1 := [(2, .int 0), (0, .ref (G.2.2 114)), (1, .int a1)]) C 1 rfl dX6_goodRoom_1 (by decide) rfl ?_
  refine j_iconst (v := 2) C 2 dX6_goodRoom_2 rfl ?_
  refine j_iload_n C 3 2 rfl dX6_goodRoom_3 ?_
  refine j_imul C 4 dX6_goodRoom_4 ?_
  refine j_istore_n (L1 := [(3, .int (2 * a1)), (2, .int 0), (0, .ref (G.2.2 114)), (1, .int a1)]) C 5 rfl dX6_goodRoom_5 (by decide) rfl ?_
  refine j_L (L' := [(0, .ref (G.2.2 114)), (1, .int a1), (2, .int 0), (3, .int (2 * a1))]) [2, 3, 1, 0] rfl ?_
  exact wl_X6_goodRoom_6 C hr v FU a1 0 (2 * a1)
theorem c_X6_goodRoom {G : GG} {l : Launch} (hG : Gok G) {c : VC} {o : Nat → Int64} (v : VM) (a1 : Int32) {x : Int32} (hf : f_X6_goodRoom v a1 = some x) : Ct l yX6_goodRoom cX6_goodRoom 4 (some .int) 2 [.ref (G.2.2 114), .int a1] G (c, (v, o)) (some (.int x)) (c, (v, o)) := by
  refine ct_of (rv := fun x : Int32 => (some (.int x))) (fin := fun x : Int32 => ((c, (v, o)) : VA)) (own := RX6) hG (plainFor_of_name (by decide)) rfl (Nat.le_of_ble_eq_true rfl) (fun X C hr _ => ?_) hf
  exact w_X6_goodRoom C hr v a1
set_option maxRecDepth 100000 in
set_option maxHeartbeats 4000000 in
theorem w_X6_whyNot {G : GG} {X : WX} {c : VC} {o : Nat → Int64} (C : Cx G 2 X RX6 cX6_whyNot 3) (hr : (xM X).sig.returnType = (some .int)) (v : VM) (a1 : Int32) : JS G 2 X (QM G X (fun x : Int32 => some (.int x)) (fun x : Int32 => ((c, (v, o)) : VA))) (f_X6_whyNot v a1) (c, (v, o)) 0 [(0, .ref (G.2.2 114)), (1, .int a1)] [] := by
  unfold f_X6_whyNot
  refine j_aload_n C 0 0 rfl dX6_whyNot_0 ?_
  refine j_iconst (v := 0) C 1 dX6_whyNot_1 rfl ?_
  refine j_bind (fun x2 h2 => ?_)
  refine j_vMo_i (As := [.int 0]) (st := []) C k_X6_goodRoom 2 (c_X6_goodRoom C.2.2.2.2.2.2.1 _ _ h2) rfl rfl ml_X6_105 ii_X6_goodRoom is_X6_goodRoom dX6_whyNot_2 (by decide) rfl (Nat.le_of_ble_eq_true rfl) ?_ rfl
  refine j_aload_n C 5 0 rfl dX6_whyNot_5 ?_
  refine j_iconst (v := 1) C 6 dX6_whyNot_6 rfl ?_
  refine j_bind (fun x7 h7 => ?_)
  refine j_vMo_i (As := [.int 1]) (st := [.int x2]) C k_X6_goodRoom 7 (c_X6_goodRoom C.2.2.2.2.2.2.1 _ _ h7) rfl rfl ml_X6_105 ii_X6_goodRoom is_X6_goodRoom dX6_whyNot_7 (by decide) rfl (Nat.le_of_ble_eq_true rfl) ?_ rfl
  refine j_iadd C 10 dX6_whyNot_10 ?_
  refine j_if_ne C 11 16 dX6_whyNot_11 (by decide) (fun c11 => ?_) (fun c11 => ?_)
  · refine j_iconst (v := 1) C 14 dX6_whyNot_14 rfl ?_
    exact j_iret C 15 hr rfl rfl dX6_whyNot_15
  · refine j_iload_n C 16 1 rfl dX6_whyNot_16 ?_
    refine j_iconst (v := 2) C 17 dX6_whyNot_17 rfl ?_
    refine j_icmp_ne C 18 41 dX6_whyNot_18 (by decide) (fun c18 => ?_) (fun c18 => ?_)
    · refine j_aload_n C 21 0 rfl dX6_whyNot_21 ?_
      refine j_iconst (v := 0) C 22 dX6_whyNot_22 rfl ?_
      refine j_bind (fun x23 h23 => ?_)
      refine j_vMo_i (As := [.int 0]) (st := []) C k_X6_goodRoom 23 (c_X6_goodRoom C.2.2.2.2.2.2.1 _ _ h23) rfl rfl ml_X6_105 ii_X6_goodRoom is_X6_goodRoom dX6_whyNot_23 (by decide) rfl (Nat.le_of_ble_eq_true rfl) ?_ rfl
      refine j_if_eq C 26 37 dX6_whyNot_26 (by decide) (fun c26 => ?_) (fun c26 => ?_)
      · refine j_iconst (v := 2) C 37 dX6_whyNot_37 rfl ?_
        refine j_goto C 38 42 dX6_whyNot_38 (by decide) ?_
        exact j_iret C 42 hr rfl rfl dX6_whyNot_42
      · refine j_aload_n C 29 0 rfl dX6_whyNot_29 ?_
        refine j_iconst (v := 1) C 30 dX6_whyNot_30 rfl ?_
        refine j_bind (fun x31 h31 => ?_)
        refine j_vMo_i (As := [.int 1]) (st := []) C k_X6_goodRoom 31 (c_X6_goodRoom C.2.2.2.2.2.2.1 _ _ h31) rfl rfl ml_X6_105 ii_X6_goodRoom is_X6_goodRoom dX6_whyNot_31 (by decide) rfl (Nat.le_of_ble_eq_true rfl) ?_ rfl
        refine j_if_ne C 34 41 dX6_whyNot_34 (by decide) (fun c34 => ?_) (fun c34 => ?_)
        · refine j_iconst (v := 2) C 37 dX6_whyNot_37 rfl ?_
          refine j_goto C 38 42 dX6_whyNot_38 (by decide) ?_
          exact j_iret C 42 hr rfl rfl dX6_whyNot_42
        · refine j_iconst (v := 0) C 41 dX6_whyNot_41 rfl ?_
          exact j_iret C 42 hr rfl rfl dX6_whyNot_42
    · refine j_iconst (v := 0) C 41 dX6_whyNot_41 rfl ?_
      exact j_iret C 42 hr rfl rfl dX6_whyNot_42
theorem c_X6_whyNot {G : GG} {l : Launch} (hG : Gok G) {c : VC} {o : Nat → Int64} (v : VM) (a1 : Int32) {x : Int32} (hf : f_X6_whyNot v a1 = some x) : Ct l yX6_whyNot cX6_whyNot 2 (some .int) 3 [.ref (G.2.2 114), .int a1] G (c, (v, o)) (some (.int x)) (c, (v, o)) := by
  refine ct_of (rv := fun x : Int32 => (some (.int x))) (fin := fun x : Int32 => ((c, (v, o)) : VA)) (own := RX6) hG (plainFor_of_name (by decide)) rfl (Nat.le_of_ble_eq_true rfl) (fun X C hr _ => ?_) hf
  exact w_X6_whyNot C hr v a1
set_option maxRecDepth 100000 in
set_option maxHeartbeats 4000000 in
theorem wb_X6_makeMap_58 {G : GG} {X : WX} {c : VC} {o : Nat → Int64} (C : Cx G 3 X RX6 cX6_makeMap 2) (hr : (xM X).sig.returnType = none) (K14 : VM → Int32 → Option VM) (hK14 : ∀ (v : VM) (s2 : Int32), JS G 3 X (QM G X (fun x : VM => none) (fun x : VM => ((c, (x, o)) : VA))) (K14 v s2) (c, (v, o)) 14 [(0, .ref (G.2.2 114)), (2, .int s2)] []) (v : VM) (s2 : Int32) : JS G 3 X (QM G X (fun x : VM => none) (fun x : VM => ((c, (x, o)) : VA))) (b_X6_makeMap_58 K14 v s2) (c, (v, o)) 58 [(0, .ref (G.2.2 114)), (2, .int s2)] [] := by
  unfold b_X6_makeMap_58
  refine j_aload_n C 58 0 rfl dX6_makeMap_58 ?_
  refine j_iload_n C 59 1 rfl dX6_makeMap_59 ?_
  refine j_bipush (v := 6) C 60 dX6_makeMap_60 rfl ?_
  refine j_aload_n C 62 0 rfl dX6_makeMap_62 ?_
  refine g_Mo1 C 63 (Or.inl fl_X6_7) dX6_makeMap_63 ?_
  refine j_bipush (v := 41) C 66 dX6_makeMap_66 rfl ?_
  refine j_bind (fun x68 h68 => ?_)
  refine l_Mo1 C 68 h68 dX6_makeMap_68 ?_
  refine j_bind (fun x69 h69 => ?_)
  refine j_vMo_v (As := [.int s2, .int 6, .int x68]) (st := []) C k_X6_put 69 (c_X6_put C.2.2.2.2.2.2.1 _ _ _ _ h69) rfl rfl ml_X6_98 ii_X6_put is_X6_put dX6_makeMap_69 (by decide) rfl (Nat.le_of_ble_eq_true rfl) ?_ rfl
  refine j_V (V' := (c, (x69, o))) rfl ?_
  refine j_aload_n C 72 0 rfl dX6_makeMap_72 ?_
  refine j_iload_n C 73 1 rfl dX6_makeMap_73 ?_
  refine j_bipush (v := 7) C 74 dX6_makeMap_74 rfl ?_
  refine j_aload_n C 76 0 rfl dX6_makeMap_76 ?_
  refine g_Mo1 C 77 (Or.inl fl_X6_7) dX6_makeMap_77 ?_
  refine j_bipush (v := 41) C 80 dX6_makeMap_80 rfl ?_
  refine j_bind (fun x82 h82 => ?_)
  refine l_Mo1 C 82 h82 dX6_makeMap_82 ?_
  refine j_bind (fun x83 h83 => ?_)
  refine j_vMo_v (As := [.int s2, .int 7, .int x82]) (st := []) C k_X6_put 83 (c_X6_put C.2.2.2.2.2.2.1 _ _ _ _ h83) rfl rfl ml_X6_98 ii_X6_put is_X6_put dX6_makeMap_83 (by decide) rfl (Nat.le_of_ble_eq_true rfl) ?_ rfl
  refine j_V (V' := (c, (x83, o))) rfl ?_
  refine j_iinc (v := (s2 + 1)) (L1 := [(2, .int (s2 + 1)), (0, .ref (G.2.2 114))]) C 86 1 rfl dX6_makeMap_86 rfl (by decide) rfl ?_
  refine j_goto C 89 14 dX6_makeMap_89 (by decide) ?_
  refine j_L (L' := [(0, .ref (G.2.2 114)), (2, .int (s2 + 1))]) [1, 0] rfl ?_
  exact hK14 x83 (s2 + 1)
set_option maxRecDepth 100000 in
set_option maxHeartbeats 4000000 in
theorem wl_X6_makeMap_95 {G : GG} {X : WX} {c : VC} {o : Nat → Int64} (C : Cx G 3 X RX6 cX6_makeMap 2) (hr : (xM X).sig.returnType = none) : ∀ (n : Nat) (v : VM) (s2 : Int32), JS G 3 X (QM G X (fun x : VM => none) (fun x : VM => ((c, (x, o)) : VA))) (l_X6_makeMap_95 n v s2) (c, (v, o)) 95 [(0, .ref (G.2.2 114)), (2, .int s2)] [] := by
  intro n
  induction n with
  | zero => intro _ _; exact j_none
  | succ n ih =>
    intro v s2
    unfold l_X6_makeMap_95
    refine j_iload_n C 95 1 rfl dX6_makeMap_95 ?_
    refine j_bipush (v := 96) C 96 dX6_makeMap_96 rfl ?_
    refine j_icmp_ge C 98 114 dX6_makeMap_98 (by decide) (fun c98 => ?_) (fun c98 => ?_)
    · refine j_aload_n C 101 0 rfl dX6_makeMap_101 ?_
      refine g_Mo1 C 102 (Or.inl fl_X6_7) dX6_makeMap_102 ?_
      refine j_iload_n C 105 1 rfl dX6_makeMap_105 ?_
      refine j_iconst (v := 0) C 106 dX6_makeMap_106 rfl ?_
      refine j_bind (fun x107 h107 => ?_)
      refine t_Mo1 C 107 h107 dX6_makeMap_107 ?_
      refine j_V (V' := (c, ((v.1, x107, v.2.2), o))) rfl ?_
      refine j_iinc (v := (s2 + 1)) (L1 := [(2, .int (s2 + 1)), (0, .ref (G.2.2 114))]) C 108 1 rfl dX6_makeMap_108 rfl (by decide) rfl ?_
      refine j_goto C 111 95 dX6_makeMap_111 (by decide) ?_
      refine j_L (L' := [(0, .ref (G.2.2 114)), (2, .int (s2 + 1))]) [1, 0] rfl ?_
      exact ih (v.1, x107, v.2.2) (s2 + 1)
    · exact j_vret C 114 hr rfl rfl dX6_makeMap_114
set_option maxRecDepth 100000 in
set_option maxHeartbeats 4000000 in
theorem wl_X6_makeMap_14 {G : GG} {X : WX} {c : VC} {o : Nat → Int64} (C : Cx G 3 X RX6 cX6_makeMap 2) (hr : (xM X).sig.returnType = none) : ∀ (n : Nat) (v : VM) (s2 : Int32), JS G 3 X (QM G X (fun x : VM => none) (fun x : VM => ((c, (x, o)) : VA))) (l_X6_makeMap_14 n v s2) (c, (v, o)) 14 [(0, .ref (G.2.2 114)), (2, .int s2)] [] := by
  intro n
  induction n with
  | zero => intro _ _; exact j_none
  | succ n ih =>
    intro v s2
    unfold l_X6_makeMap_14
    refine j_iload_n C 14 1 rfl dX6_makeMap_14 ?_
    refine j_iconst (v := 4) C 15 dX6_makeMap_15 rfl ?_
    refine j_icmp_ge C 16 92 dX6_makeMap_16 (by decide) (fun c16 => ?_) (fun c16 => ?_)
    · refine j_aload_n C 19 0 rfl dX6_makeMap_19 ?_
      refine j_iload_n C 20 1 rfl dX6_makeMap_20 ?_
      refine j_bind (fun x21 h21 => ?_)
      refine j_vMo_i (As := [.int s2]) (st := []) C k_X6_isThere 21 (c_X6_isThere C.2.2.2.2.2.2.1 _ _ h21) rfl rfl ml_X6_102 ii_X6_isThere is_X6_isThere dX6_makeMap_21 (by decide) rfl (Nat.le_of_ble_eq_true rfl) ?_ rfl
      refine j_if_eq C 24 58 dX6_makeMap_24 (by decide) (fun c24 => ?_) (fun c24 => ?_)
      · exact wb_X6_makeMap_58 C hr _ ih v s2
      · refine j_aload_n C 27 0 rfl dX6_makeMap_27 ?_
        refine j_iload_n C 28 1 rfl dX6_makeMap_28 ?_
        refine j_iconst (v := 4) C 29 dX6_makeMap_29 rfl ?_
        refine j_bind (fun x30 h30 => ?_)
        refine j_vMo_i (As := [.int s2, .int 4]) (st := []) C k_X6_of 30 (c_X6_of C.2.2.2.2.2.2.1 _ _ _ h30) rfl rfl ml_X6_33 ii_X6_of is_X6_of dX6_makeMap_30 (by decide) rfl (Nat.le_of_ble_eq_true rfl) ?_ rfl
        refine j_if_ne C 33 58 dX6_makeMap_33 (by decide) (fun c33 => ?_) (fun c33 => ?_)
        · refine j_aload_n C 36 0 rfl dX6_makeMap_36 ?_
          refine g_Mo1 C 37 (Or.inl fl_X6_7) dX6_makeMap_37 ?_
          refine j_bipush (v := 36) C 40 dX6_makeMap_40 rfl ?_
          refine j_iload_n C 42 1 rfl dX6_makeMap_42 ?_
          refine j_iadd C 43 dX6_makeMap_43 ?_
          refine j_aload_n C 44 0 rfl dX6_makeMap_44 ?_
          refine j_iload_n C 45 1 rfl dX6_makeMap_45 ?_
          refine j_iconst (v := 1) C 46 dX6_makeMap_46 rfl ?_
          refine j_bind (fun x47 h47 => ?_)
          refine j_vMo_i (As := [.int s2, .int 1]) (st := [.int (36 + s2), .ref (G.2.2 115)]) C k_X6_of 47 (c_X6_of C.2.2.2.2.2.2.1 _ _ _ h47) rfl rfl ml_X6_33 ii_X6_of is_X6_of dX6_makeMap_47 (by decide) rfl (Nat.le_of_ble_eq_true rfl) ?_ rfl
          refine j_bind (fun x50 h50 => ?_)
          refine t_Mo1 C 50 h50 dX6_makeMap_50 ?_
          refine j_V (V' := (c, ((v.1, x50, v.2.2), o))) rfl ?_
          refine j_aload_n C 51 0 rfl dX6_makeMap_51 ?_
          refine j_iload_n C 52 1 rfl dX6_makeMap_52 ?_
          refine j_iconst (v := 5) C 53 dX6_makeMap_53 rfl ?_
          refine j_iconst (v := 1) C 54 dX6_makeMap_54 rfl ?_
          refine j_bind (fun x55 h55 => ?_)
          refine j_vMo_v (As := [.int s2, .int 5, .int 1]) (st := []) C k_X6_put 55 (c_X6_put C.2.2.2.2.2.2.1 _ _ _ _ h55) rfl rfl ml_X6_98 ii_X6_put is_X6_put dX6_makeMap_55 (by decide) rfl (Nat.le_of_ble_eq_true rfl) ?_ rfl
          refine j_V (V' := (c, (x55, o))) rfl ?_
          exact wb_X6_makeMap_58 C hr _ ih x55 s2
        · exact wb_X6_makeMap_58 C hr _ ih v s2
    · refine j_bipush (v := 48) C 92 dX6_makeMap_92 rfl ?_
      refine j_istore_n (L1 := [(2, .int 48), (0, .ref (G.2.2 114))]) C 94 rfl dX6_makeMap_94 (by decide) rfl ?_
      refine j_L (L' := [(0, .ref (G.2.2 114)), (2, .int 48)]) [1, 0] rfl ?_
      exact wl_X6_makeMap_95 C hr FU v 48
set_option maxRecDepth 100000 in
set_option maxHeartbeats 4000000 in
theorem w_X6_makeMap {G : GG} {X : WX} {c : VC} {o : Nat → Int64} (C : Cx G 3 X RX6 cX6_makeMap 2) (hr : (xM X).sig.returnType = none) (v : VM) (a1 : Int32) : JS G 3 X (QM G X (fun x : VM => none) (fun x : VM => ((c, (x, o)) : VA))) (f_X6_makeMap v a1) (c, (v, o)) 0 [(0, .ref (G.2.2 114)), (1, .int a1)] [] := by
  unfold f_X6_makeMap
  refine j_aload_n C 0 0 rfl dX6_makeMap_0 ?_
  refine j_bind (fun x1 h1 => ?_)
  refine j_vMo_v (As := []) (st := []) C k_X6_forgetMap 1 (c_X6_forgetMap C.2.2.2.2.2.2.1 _ h1) rfl rfl ml_X6_108 ii_X6_forgetMap is_X6_forgetMap dX6_makeMap_1 (by decide) rfl (Nat.le_of_ble_eq_true rfl) ?_ rfl
  refine j_V (V' := (c, (x1, o))) rfl ?_
  refine j_aload_n C 4 0 rfl dX6_makeMap_4 ?_
  refine g_Mo1 C 5 (Or.inl fl_X6_7) dX6_makeMap_5 ?_
  refine j_bipush (v := 40) C 8 dX6_makeMap_8 rfl ?_
  refine j_iload_n C 10 1 rfl dX6_makeMap_10 ?_
  refine j_bind (fun x11 h11 => ?_)
  refine t_Mo1 C 11 h11 dX6_makeMap_11 ?_
  refine j_V (V' := (c, ((x1.1, x11, x1.2.2), o))) rfl ?_
  refine j_iconst (v := 0) C 12 dX6_makeMap_12 rfl ?_
  refine j_istore_n (L1 := [(2, .int 0), (0, .ref (G.2.2 114)), (1, .int a1)]) C 13 rfl dX6_makeMap_13 (by decide) rfl ?_
  refine j_L (L' := [(0, .ref (G.2.2 114)), (2, .int 0)]) [1, 0] rfl ?_
  exact wl_X6_makeMap_14 C hr FU (x1.1, x11, x1.2.2) 0
theorem c_X6_makeMap {G : GG} {l : Launch} (hG : Gok G) {c : VC} {o : Nat → Int64} (v : VM) (a1 : Int32) {x : VM} (hf : f_X6_makeMap v a1 = some x) : Ct l yX6_makeMap cX6_makeMap 3 none 2 [.ref (G.2.2 114), .int a1] G (c, (v, o)) none (c, (x, o)) := by
  refine ct_of (rv := fun x : VM => none) (fin := fun x : VM => ((c, (x, o)) : VA)) (own := RX6) hG (plainFor_of_name (by decide)) rfl (Nat.le_of_ble_eq_true rfl) (fun X C hr _ => ?_) hf
  exact w_X6_makeMap C hr v a1
set_option maxRecDepth 100000 in
set_option maxHeartbeats 4000000 in
theorem wl_X6_sticks_4 {G : GG} {X : WX} {c : VC} {o : Nat → Int64} (C : Cx G 4 X RX6 cX6_sticks 2) (hr : (xM X).sig.returnType = (some .int)) (v : VM) : ∀ (n : Nat) (s1 : Int32) (s2 : Int32) (s3 : Int32), JS G 4 X (QM G X (fun x : Int32 => some (.int x)) (fun x : Int32 => ((c, (v, o)) : VA))) (l_X6_sticks_4 v n s1 s2 s3) (c, (v, o)) 4 [(0, .ref (G.2.2 114)), (1, .int s1), (2, .int s2), (3, .int s3)] [] := by
  intro n
  induction n with
  | zero => intro _ _ _; exact j_none
  | succ n ih =>
    intro s1 s2 s3
    unfold l_X6_sticks_4
    refine j_iload_n C 4 3 rfl dX6_sticks_4 ?_
    refine j_iconst (v := 4) C 5 dX6_sticks_5 rfl ?_
    refine j_icmp_ge C 6 45 dX6_sticks_6 (by decide) (fun c6 => ?_) (fun c6 => ?_)
    · refine j_iload_n C 9 2 rfl dX6_sticks_9 ?_
      refine j_aload_n C 10 0 rfl dX6_sticks_10 ?_
      refine j_iload_n C 11 3 rfl dX6_sticks_11 ?_
      refine j_bind (fun x12 h12 => ?_)
      refine j_vMo_i (As := [.int s3]) (st := [.int s2]) C k_X6_isThere 12 (c_X6_isThere C.2.2.2.2.2.2.1 _ _ h12) rfl rfl ml_X6_102 ii_X6_isThere is_X6_isThere dX6_sticks_12 (by decide) rfl (Nat.le_of_ble_eq_true rfl) ?_ rfl
      refine j_if_eq C 15 36 dX6_sticks_15 (by decide) (fun c15 => ?_) (fun c15 => ?_)
      · refine j_iconst (v := 0) C 36 dX6_sticks_36 rfl ?_
        refine j_iadd C 37 dX6_sticks_37 ?_
        refine j_istore_n (L1 := [(2, .int (s2 + 0)), (0, .ref (G.2.2 114)), (1, .int s1), (3, .int s3)]) C 38 rfl dX6_sticks_38 (by decide) rfl ?_
        refine j_iinc (v := (s3 + 1)) (L1 := [(3, .int (s3 + 1)), (2, .int (s2 + 0)), (0, .ref (G.2.2 114)), (1, .int s1)]) C 39 3 rfl dX6_sticks_39 rfl (by decide) rfl ?_
        refine j_goto C 42 4 dX6_sticks_42 (by decide) ?_
        refine j_L (L' := [(0, .ref (G.2.2 114)), (1, .int s1), (2, .int (s2 + 0)), (3, .int (s3 + 1))]) [2, 3, 1, 0] rfl ?_
        exact ih s1 (s2 + 0) (s3 + 1)
      · refine j_iload_n C 18 1 rfl dX6_sticks_18 ?_
        refine j_if_eq C 19 32 dX6_sticks_19 (by decide) (fun c19 => ?_) (fun c19 => ?_)
        · refine j_iconst (v := 1) C 32 dX6_sticks_32 rfl ?_
          refine j_goto C 33 37 dX6_sticks_33 (by decide) ?_
          refine j_iadd C 37 dX6_sticks_37 ?_
          refine j_istore_n (L1 := [(2, .int (s2 + 1)), (0, .ref (G.2.2 114)), (1, .int s1), (3, .int s3)]) C 38 rfl dX6_sticks_38 (by decide) rfl ?_
          refine j_iinc (v := (s3 + 1)) (L1 := [(3, .int (s3 + 1)), (2, .int (s2 + 1)), (0, .ref (G.2.2 114)), (1, .int s1)]) C 39 3 rfl dX6_sticks_39 rfl (by decide) rfl ?_
          refine j_goto C 42 4 dX6_sticks_42 (by decide) ?_
          refine j_L (L' := [(0, .ref (G.2.2 114)), (1, .int s1), (2, .int (s2 + 1)), (3, .int (s3 + 1))]) [2, 3, 1, 0] rfl ?_
          exact ih s1 (s2 + 1) (s3 + 1)
        · refine j_aload_n C 22 0 rfl dX6_sticks_22 ?_
          refine j_iload_n C 23 3 rfl dX6_sticks_23 ?_
          refine j_iconst (v := 4) C 24 dX6_sticks_24 rfl ?_
          refine j_bind (fun x25 h25 => ?_)
          refine j_vMo_i (As := [.int s3, .int 4]) (st := [.int s2]) C k_X6_of 25 (c_X6_of C.2.2.2.2.2.2.1 _ _ _ h25) rfl rfl ml_X6_33 ii_X6_of is_X6_of dX6_sticks_25 (by decide) rfl (Nat.le_of_ble_eq_true rfl) ?_ rfl
          refine j_iconst (v := 1) C 28 dX6_sticks_28 rfl ?_
          refine j_icmp_ne C 29 36 dX6_sticks_29 (by decide) (fun c29 => ?_) (fun c29 => ?_)
          · refine j_iconst (v := 1) C 32 dX6_sticks_32 rfl ?_
            refine j_goto C 33 37 dX6_sticks_33 (by decide) ?_
            refine j_iadd C 37 dX6_sticks_37 ?_
            refine j_istore_n (L1 := [(2, .int (s2 + 1)), (0, .ref (G.2.2 114)), (1, .int s1), (3, .int s3)]) C 38 rfl dX6_sticks_38 (by decide) rfl ?_
            refine j_iinc (v := (s3 + 1)) (L1 := [(3, .int (s3 + 1)), (2, .int (s2 + 1)), (0, .ref (G.2.2 114)), (1, .int s1)]) C 39 3 rfl dX6_sticks_39 rfl (by decide) rfl ?_
            refine j_goto C 42 4 dX6_sticks_42 (by decide) ?_
            refine j_L (L' := [(0, .ref (G.2.2 114)), (1, .int s1), (2, .int (s2 + 1)), (3, .int (s3 + 1))]) [2, 3, 1, 0] rfl ?_
            exact ih s1 (s2 + 1) (s3 + 1)
          · refine j_iconst (v := 0) C 36 dX6_sticks_36 rfl ?_
            refine j_iadd C 37 dX6_sticks_37 ?_
            refine j_istore_n (L1 := [(2, .int (s2 + 0)), (0, .ref (G.2.2 114)), (1, .int s1), (3, .int s3)]) C 38 rfl dX6_sticks_38 (by decide) rfl ?_
            refine j_iinc (v := (s3 + 1)) (L1 := [(3, .int (s3 + 1)), (2, .int (s2 + 0)), (0, .ref (G.2.2 114)), (1, .int s1)]) C 39 3 rfl dX6_sticks_39 rfl (by decide) rfl ?_
            refine j_goto C 42 4 dX6_sticks_42 (by decide) ?_
            refine j_L (L' := [(0, .ref (G.2.2 114)), (1, .int s1), (2, .int (s2 + 0)), (3, .int (s3 + 1))]) [2, 3, 1, 0] rfl ?_
            exact ih s1 (s2 + 0) (s3 + 1)
    · refine j_iload_n C 45 2 rfl dX6_sticks_45 ?_
      exact j_iret C 46 hr rfl rfl dX6_sticks_46
set_option maxRecDepth 100000 in
set_option maxHeartbeats 4000000 in
theorem w_X6_sticks {G : GG} {X : WX} {c : VC} {o : Nat → Int64} (C : Cx G 4 X RX6 cX6_sticks 2) (hr : (xM X).sig.returnType = (some .int)) (v : VM) (a1 : Int32) : JS G 4 X (QM G X (fun x : Int32 => some (.int x)) (fun x : Int32 => ((c, (v, o)) : VA))) (f_X6_sticks v a1) (c, (v, o)) 0 [(0, .ref (G.2.2 114)), (1, .int a1)] [] := by
  unfold f_X6_sticks
  refine j_iconst (v := 0) C 0 dX6_sticks_0 rfl ?_
  refine j_istore_n (L1 := [(2, .int 0), (0, .ref (G.2.2 114)), (1, .int a1)]) C 1 rfl dX6_sticks_1 (by decide) rfl ?_
  refine j_iconst (v := 0) C 2 dX6_sticks_2 rfl ?_
  refine j_istore_n (L1 := [(3, .int 0), (2, .int 0), (0, .ref (G.2.2 114)), (1, .int a1)]) C 3 rfl dX6_sticks_3 (by decide) rfl ?_
  refine j_L (L' := [(0, .ref (G.2.2 114)), (1, .int a1), (2, .int 0), (3, .int 0)]) [2, 3, 1, 0] rfl ?_
  exact wl_X6_sticks_4 C hr v FU a1 0 0
theorem c_X6_sticks {G : GG} {l : Launch} (hG : Gok G) {c : VC} {o : Nat → Int64} (v : VM) (a1 : Int32) {x : Int32} (hf : f_X6_sticks v a1 = some x) : Ct l yX6_sticks cX6_sticks 4 (some .int) 2 [.ref (G.2.2 114), .int a1] G (c, (v, o)) (some (.int x)) (c, (v, o)) := by
  refine ct_of (rv := fun x : Int32 => (some (.int x))) (fin := fun x : Int32 => ((c, (v, o)) : VA)) (own := RX6) hG (plainFor_of_name (by decide)) rfl (Nat.le_of_ble_eq_true rfl) (fun X C hr _ => ?_) hf
  exact w_X6_sticks C hr v a1
set_option maxRecDepth 100000 in
set_option maxHeartbeats 4000000 in
theorem wb_X6_plug_71 {G : GG} {X : WX} {c : VC} {o : Nat → Int64} (C : Cx G 6 X RX6 cX6_plug 3) (hr : (xM X).sig.returnType = (some .int)) (v : VM) (s1 : Int32) (s2 : Int32) (s3 : Int32) (s4 : Int32) (t0 : Int32) : JS G 6 X (QM G X (fun x : (Int32 × VM) => some (.int x.1)) (fun x : (Int32 × VM) => ((c, (x.2, o)) : VA))) (b_X6_plug_71 v s1 s2 s3 s4 t0) (c, (v, o)) 71 [(0, .ref (G.2.2 114)), (1, .int s1), (2, .int s2), (3, .int s3), (4, .int s4)] [.int t0, .ref (G.2.2 114)] := by
  unfold b_X6_plug_71
  refine p_Mo0 C 71 fl_X6_25 dX6_plug_71 ?_
  refine j_V (V' := (c, ((t0, v.2), o))) rfl ?_
  refine j_aload_n C 74 0 rfl dX6_plug_74 ?_
  refine g_Mo0 C 75 (Or.inl fl_X6_25) dX6_plug_75 ?_
  refine j_if_le C 78 83 dX6_plug_78 (by decide) (fun c78 => ?_) (fun c78 => ?_)
  · refine j_iconst (v := 0) C 81 dX6_plug_81 rfl ?_
    exact j_iret C 82 hr rfl rfl dX6_plug_82
  · refine j_aload_n C 83 0 rfl dX6_plug_83 ?_
    refine j_bind (fun x84 h84 => ?_)
    refine j_vMo_v (As := []) (st := []) C k_X6_record 84 (c_X6_record C.2.2.2.2.2.2.1 _ h84) rfl rfl ml_X6_44 ii_X6_record is_X6_record dX6_plug_84 (by decide) rfl (Nat.le_of_ble_eq_true rfl) ?_ rfl
    refine j_V (V' := (c, (x84, o))) rfl ?_
    refine j_aload_n C 87 0 rfl dX6_plug_87 ?_
    refine j_iload_n C 88 1 rfl dX6_plug_88 ?_
    refine j_iconst (v := 0) C 89 dX6_plug_89 rfl ?_
    refine j_iconst (v := 1) C 90 dX6_plug_90 rfl ?_
    refine j_bind (fun x91 h91 => ?_)
    refine j_vMo_v (As := [.int s1, .int 0, .int 1]) (st := []) C k_X6_put 91 (c_X6_put C.2.2.2.2.2.2.1 _ _ _ _ h91) rfl rfl ml_X6_98 ii_X6_put is_X6_put dX6_plug_91 (by decide) rfl (Nat.le_of_ble_eq_true rfl) ?_ rfl
    refine j_V (V' := (c, (x91, o))) rfl ?_
    refine j_aload_n C 94 0 rfl dX6_plug_94 ?_
    refine j_iload_n C 95 1 rfl dX6_plug_95 ?_
    refine j_iconst (v := 1) C 96 dX6_plug_96 rfl ?_
    refine j_iload_n C 97 2 rfl dX6_plug_97 ?_
    refine j_bind (fun x98 h98 => ?_)
    refine j_vMo_v (As := [.int s1, .int 1, .int s2]) (st := []) C k_X6_put 98 (c_X6_put C.2.2.2.2.2.2.1 _ _ _ _ h98) rfl rfl ml_X6_98 ii_X6_put is_X6_put dX6_plug_98 (by decide) rfl (Nat.le_of_ble_eq_true rfl) ?_ rfl
    refine j_V (V' := (c, (x98, o))) rfl ?_
    refine j_aload_n C 101 0 rfl dX6_plug_101 ?_
    refine j_iload_n C 102 1 rfl dX6_plug_102 ?_
    refine j_iconst (v := 2) C 103 dX6_plug_103 rfl ?_
    refine j_iload_n C 104 3 rfl dX6_plug_104 ?_
    refine j_bind (fun x105 h105 => ?_)
    refine j_vMo_v (As := [.int s1, .int 2, .int s3]) (st := []) C k_X6_put 105 (c_X6_put C.2.2.2.2.2.2.1 _ _ _ _ h105) rfl rfl ml_X6_98 ii_X6_put is_X6_put dX6_plug_105 (by decide) rfl (Nat.le_of_ble_eq_true rfl) ?_ rfl
    refine j_V (V' := (c, (x105, o))) rfl ?_
    refine j_aload_n C 108 0 rfl dX6_plug_108 ?_
    refine j_iload_n C 109 1 rfl dX6_plug_109 ?_
    refine j_iconst (v := 3) C 110 dX6_plug_110 rfl ?_
    refine j_iload C 111 4 rfl dX6_plug_111 ?_
    refine j_bind (fun x113 h113 => ?_)
    refine j_vMo_v (As := [.int s1, .int 3, .int s4]) (st := []) C k_X6_put 113 (c_X6_put C.2.2.2.2.2.2.1 _ _ _ _ h113) rfl rfl ml_X6_98 ii_X6_put is_X6_put dX6_plug_113 (by decide) rfl (Nat.le_of_ble_eq_true rfl) ?_ rfl
    refine j_V (V' := (c, (x113, o))) rfl ?_
    refine j_aload_n C 116 0 rfl dX6_plug_116 ?_
    refine j_iload_n C 117 1 rfl dX6_plug_117 ?_
    refine j_iconst (v := 4) C 118 dX6_plug_118 rfl ?_
    refine j_iconst (v := 0) C 119 dX6_plug_119 rfl ?_
    refine j_bind (fun x120 h120 => ?_)
    refine j_vMo_v (As := [.int s1, .int 4, .int 0]) (st := []) C k_X6_put 120 (c_X6_put C.2.2.2.2.2.2.1 _ _ _ _ h120) rfl rfl ml_X6_98 ii_X6_put is_X6_put dX6_plug_120 (by decide) rfl (Nat.le_of_ble_eq_true rfl) ?_ rfl
    refine j_V (V' := (c, (x120, o))) rfl ?_
    refine j_aload_n C 123 0 rfl dX6_plug_123 ?_
    refine j_iload_n C 124 1 rfl dX6_plug_124 ?_
    refine j_iconst (v := 5) C 125 dX6_plug_125 rfl ?_
    refine j_iconst (v := 0) C 126 dX6_plug_126 rfl ?_
    refine j_bind (fun x127 h127 => ?_)
    refine j_vMo_v (As := [.int s1, .int 5, .int 0]) (st := []) C k_X6_put 127 (c_X6_put C.2.2.2.2.2.2.1 _ _ _ _ h127) rfl rfl ml_X6_98 ii_X6_put is_X6_put dX6_plug_127 (by decide) rfl (Nat.le_of_ble_eq_true rfl) ?_ rfl
    refine j_V (V' := (c, (x127, o))) rfl ?_
    refine j_aload_n C 130 0 rfl dX6_plug_130 ?_
    refine j_iload_n C 131 1 rfl dX6_plug_131 ?_
    refine j_bipush (v := 6) C 132 dX6_plug_132 rfl ?_
    refine j_iconst (v := 0) C 134 dX6_plug_134 rfl ?_
    refine j_bind (fun x135 h135 => ?_)
    refine j_vMo_v (As := [.int s1, .int 6, .int 0]) (st := []) C k_X6_put 135 (c_X6_put C.2.2.2.2.2.2.1 _ _ _ _ h135) rfl rfl ml_X6_98 ii_X6_put is_X6_put dX6_plug_135 (by decide) rfl (Nat.le_of_ble_eq_true rfl) ?_ rfl
    refine j_V (V' := (c, (x135, o))) rfl ?_
    refine j_aload_n C 138 0 rfl dX6_plug_138 ?_
    refine j_iload_n C 139 1 rfl dX6_plug_139 ?_
    refine j_bipush (v := 7) C 140 dX6_plug_140 rfl ?_
    refine j_iconst (v := 0) C 142 dX6_plug_142 rfl ?_
    refine j_bind (fun x143 h143 => ?_)
    refine j_vMo_v (As := [.int s1, .int 7, .int 0]) (st := []) C k_X6_put 143 (c_X6_put C.2.2.2.2.2.2.1 _ _ _ _ h143) rfl rfl ml_X6_98 ii_X6_put is_X6_put dX6_plug_143 (by decide) rfl (Nat.le_of_ble_eq_true rfl) ?_ rfl
    refine j_V (V' := (c, (x143, o))) rfl ?_
    refine j_aload_n C 146 0 rfl dX6_plug_146 ?_
    refine j_iload_n C 147 1 rfl dX6_plug_147 ?_
    refine j_bipush (v := 8) C 148 dX6_plug_148 rfl ?_
    refine j_iconst (v := 0) C 150 dX6_plug_150 rfl ?_
    refine j_bind (fun x151 h151 => ?_)
    refine j_vMo_v (As := [.int s1, .int 8, .int 0]) (st := []) C k_X6_put 151 (c_X6_put C.2.2.2.2.2.2.1 _ _ _ _ h151) rfl rfl ml_X6_98 ii_X6_put is_X6_put dX6_plug_151 (by decide) rfl (Nat.le_of_ble_eq_true rfl) ?_ rfl
    refine j_V (V' := (c, (x151, o))) rfl ?_
    refine j_aload_n C 154 0 rfl dX6_plug_154 ?_
    refine j_iconst (v := 0) C 155 dX6_plug_155 rfl ?_
    refine j_bind (fun x156 h156 => ?_)
    refine j_vMo_i (As := [.int 0]) (st := []) C k_X6_sticks 156 (c_X6_sticks C.2.2.2.2.2.2.1 _ _ h156) rfl rfl ml_X6_114 ii_X6_sticks is_X6_sticks dX6_plug_156 (by decide) rfl (Nat.le_of_ble_eq_true rfl) ?_ rfl
    exact j_iret C 159 hr rfl rfl dX6_plug_159
set_option maxRecDepth 100000 in
set_option maxHeartbeats 4000000 in
theorem wb_X6_plug_35 {G : GG} {X : WX} {c : VC} {o : Nat → Int64} (C : Cx G 6 X RX6 cX6_plug 3) (hr : (xM X).sig.returnType = (some .int)) (v : VM) (s1 : Int32) (s2 : Int32) (s3 : Int32) (s4 : Int32) (t0 : Int32) : JS G 6 X (QM G X (fun x : (Int32 × VM) => some (.int x.1)) (fun x : (Int32 × VM) => ((c, (x.2, o)) : VA))) (b_X6_plug_35 v s1 s2 s3 s4 t0) (c, (v, o)) 35 [(0, .ref (G.2.2 114)), (1, .int s1), (2, .int s2), (3, .int s3), (4, .int s4)] [.int t0] := by
  unfold b_X6_plug_35
  refine j_istore (L1 := [(5, .int t0), (0, .ref (G.2.2 114)), (1, .int s1), (2, .int s2), (3, .int s3), (4, .int s4)]) C 35 dX6_plug_35 (by decide) rfl ?_
  refine j_aload_n C 37 1 rfl dX6_plug_37 ?_
  refine j_iload_n C 38 2 rfl dX6_plug_38 ?_
  refine j_bind (fun x39 h39 => ?_)
  refine j_callS_i (As := [.int s1]) (st := [.ref (G.2.2 114)]) C k_X6_isSlot 39 (c_X6_isSlot C.2.2.2.2.2.2.1 (c := c) _ h39) rfl ml_X6_111 st_X6_isSlot dX6_plug_39 (by decide) rfl (Nat.le_of_ble_eq_true rfl) ?_ rfl
  refine j_if_ne C 42 49 dX6_plug_42 (by decide) (fun c42 => ?_) (fun c42 => ?_)
  · refine j_iconst (v := 1) C 45 dX6_plug_45 rfl ?_
    refine j_goto C 46 71 dX6_plug_46 (by decide) ?_
    refine j_L (L' := [(0, .ref (G.2.2 114)), (1, .int s1), (2, .int s2), (3, .int s3), (4, .int s4)]) [1, 2, 3, 4, 5] rfl ?_
    exact wb_X6_plug_71 C hr v s1 s2 s3 s4 1
  · refine j_iload C 49 0 rfl dX6_plug_49 ?_
    refine j_if_ne C 51 58 dX6_plug_51 (by decide) (fun c51 => ?_) (fun c51 => ?_)
    · refine j_iconst (v := 2) C 54 dX6_plug_54 rfl ?_
      refine j_goto C 55 71 dX6_plug_55 (by decide) ?_
      refine j_L (L' := [(0, .ref (G.2.2 114)), (1, .int s1), (2, .int s2), (3, .int s3), (4, .int s4)]) [1, 2, 3, 4, 5] rfl ?_
      exact wb_X6_plug_71 C hr v s1 s2 s3 s4 2
    · refine j_aload_n C 58 1 rfl dX6_plug_58 ?_
      refine j_iload_n C 59 2 rfl dX6_plug_59 ?_
      refine j_bind (fun x60 h60 => ?_)
      refine j_vMo_i (As := [.int s1]) (st := [.ref (G.2.2 114)]) C k_X6_isThere 60 (c_X6_isThere C.2.2.2.2.2.2.1 _ _ h60) rfl rfl ml_X6_102 ii_X6_isThere is_X6_isThere dX6_plug_60 (by decide) rfl (Nat.le_of_ble_eq_true rfl) ?_ rfl
      refine j_if_eq C 63 70 dX6_plug_63 (by decide) (fun c63 => ?_) (fun c63 => ?_)
      · refine j_iconst (v := 0) C 70 dX6_plug_70 rfl ?_
        refine j_L (L' := [(0, .ref (G.2.2 114)), (1, .int s1), (2, .int s2), (3, .int s3), (4, .int s4)]) [1, 2, 3, 4, 5] rfl ?_
        exact wb_X6_plug_71 C hr v s1 s2 s3 s4 0
      · refine j_iconst (v := 3) C 66 dX6_plug_66 rfl ?_
        refine j_goto C 67 71 dX6_plug_67 (by decide) ?_
        refine j_L (L' := [(0, .ref (G.2.2 114)), (1, .int s1), (2, .int s2), (3, .int s3), (4, .int s4)]) [1, 2, 3, 4, 5] rfl ?_
        exact wb_X6_plug_71 C hr v s1 s2 s3 s4 3
set_option maxRecDepth 100000 in
set_option maxHeartbeats 4000000 in
theorem w_X6_plug {G : GG} {X : WX} {c : VC} {o : Nat → Int64} (C : Cx G 6 X RX6 cX6_plug 3) (hr : (xM X).sig.returnType = (some .int)) (v : VM) (a1 : Int32) (a2 : Int32) (a3 : Int32) (a4 : Int32) : JS G 6 X (QM G X (fun x : (Int32 × VM) => some (.int x.1)) (fun x : (Int32 × VM) => ((c, (x.2, o)) : VA))) (f_X6_plug v a1 a2 a3 a4) (c, (v, o)) 0 [(0, .ref (G.2.2 114)), (1, .int a1), (2, .int a2), (3, .int a3), (4, .int a4)] [] := by
  unfold f_X6_plug
  refine j_iload_n C 0 2 rfl dX6_plug_0 ?_
  refine j_iconst (v := 1) C 1 dX6_plug_1 rfl ?_
  refine j_bipush (v := 12) C 2 dX6_plug_2 rfl ?_
  refine j_bind (fun x4 h4 => ?_)
  refine j_callS_i (As := [.int a2, .int 1, .int 12]) (st := []) C k_X6_in 4 (c_X6_in C.2.2.2.2.2.2.1 (c := c) _ _ _ h4) rfl ml_X6_29 st_X6_in dX6_plug_4 (by decide) rfl (Nat.le_of_ble_eq_true rfl) ?_ rfl
  refine j_if_eq C 7 34 dX6_plug_7 (by decide) (fun c7 => ?_) (fun c7 => ?_)
  · refine j_iconst (v := 0) C 34 dX6_plug_34 rfl ?_
    exact wb_X6_plug_35 C hr v a1 a2 a3 a4 0
  · refine j_iload_n C 10 3 rfl dX6_plug_10 ?_
    refine j_iconst (v := 1) C 11 dX6_plug_11 rfl ?_
    refine j_iconst (v := 2) C 12 dX6_plug_12 rfl ?_
    refine j_bind (fun x13 h13 => ?_)
    refine j_callS_i (As := [.int a3, .int 1, .int 2]) (st := []) C k_X6_in 13 (c_X6_in C.2.2.2.2.2.2.1 (c := c) _ _ _ h13) rfl ml_X6_29 st_X6_in dX6_plug_13 (by decide) rfl (Nat.le_of_ble_eq_true rfl) ?_ rfl
    refine j_if_eq C 16 34 dX6_plug_16 (by decide) (fun c16 => ?_) (fun c16 => ?_)
    · refine j_iconst (v := 0) C 34 dX6_plug_34 rfl ?_
      exact wb_X6_plug_35 C hr v a1 a2 a3 a4 0
    · refine j_iload C 19 4 rfl dX6_plug_19 ?_
      refine j_iconst (v := 1) C 21 dX6_plug_21 rfl ?_
      refine j_bipush (v := 9) C 22 dX6_plug_22 rfl ?_
      refine j_bind (fun x24 h24 => ?_)
      refine j_callS_i (As := [.int a4, .int 1, .int 9]) (st := []) C k_X6_in 24 (c_X6_in C.2.2.2.2.2.2.1 (c := c) _ _ _ h24) rfl ml_X6_29 st_X6_in dX6_plug_24 (by decide) rfl (Nat.le_of_ble_eq_true rfl) ?_ rfl
      refine j_if_eq C 27 34 dX6_plug_27 (by decide) (fun c27 => ?_) (fun c27 => ?_)
      · refine j_iconst (v := 0) C 34 dX6_plug_34 rfl ?_
        exact wb_X6_plug_35 C hr v a1 a2 a3 a4 0
      · refine j_iconst (v := 1) C 30 dX6_plug_30 rfl ?_
        refine j_goto C 31 35 dX6_plug_31 (by decide) ?_
        exact wb_X6_plug_35 C hr v a1 a2 a3 a4 1
theorem c_X6_plug {G : GG} {l : Launch} (hG : Gok G) {c : VC} {o : Nat → Int64} (v : VM) (a1 : Int32) (a2 : Int32) (a3 : Int32) (a4 : Int32) {x : (Int32 × VM)} (hf : f_X6_plug v a1 a2 a3 a4 = some x) : Ct l yX6_plug cX6_plug 6 (some .int) 3 [.ref (G.2.2 114), .int a1, .int a2, .int a3, .int a4] G (c, (v, o)) (some (.int x.1)) (c, (x.2, o)) := by
  refine ct_of (rv := fun x : (Int32 × VM) => (some (.int x.1))) (fin := fun x : (Int32 × VM) => ((c, (x.2, o)) : VA)) (own := RX6) hG (plainFor_of_name (by decide)) rfl (Nat.le_of_ble_eq_true rfl) (fun X C hr _ => ?_) hf
  exact w_X6_plug C hr v a1 a2 a3 a4
set_option maxRecDepth 100000 in
set_option maxHeartbeats 4000000 in
theorem wb_X6_pull_58 {G : GG} {X : WX} {c : VC} {o : Nat → Int64} (C : Cx G 3 X RX6 cX6_pull 4) (hr : (xM X).sig.returnType = (some .int)) (v : VM) (s1 : Int32) (t0 : Int32) : JS G 3 X (QM G X (fun x : (Int32 × VM) => some (.int x.1)) (fun x : (Int32 × VM) => ((c, (x.2, o)) : VA))) (b_X6_pull_58 v s1 t0) (c, (v, o)) 58 [(0, .ref (G.2.2 114)), (1, .int s1)] [.int t0] := by
  unfold b_X6_pull_58
  refine j_istore_n (L1 := [(2, .int t0), (0, .ref (G.2.2 114)), (1, .int s1)]) C 58 rfl dX6_pull_58 (by decide) rfl ?_
  refine j_aload_n C 59 1 rfl dX6_pull_59 ?_
  refine j_iload_n C 60 2 rfl dX6_pull_60 ?_
  refine j_iconst (v := 0) C 61 dX6_pull_61 rfl ?_
  refine j_iconst (v := 0) C 62 dX6_pull_62 rfl ?_
  refine j_bind (fun x63 h63 => ?_)
  refine j_vMo_v (As := [.int s1, .int 0, .int 0]) (st := []) C k_X6_put 63 (c_X6_put C.2.2.2.2.2.2.1 _ _ _ _ h63) rfl rfl ml_X6_98 ii_X6_put is_X6_put dX6_pull_63 (by decide) rfl (Nat.le_of_ble_eq_true rfl) ?_ rfl
  refine j_V (V' := (c, (x63, o))) rfl ?_
  refine j_aload_n C 66 1 rfl dX6_pull_66 ?_
  refine j_iload_n C 67 2 rfl dX6_pull_67 ?_
  refine j_iconst (v := 5) C 68 dX6_pull_68 rfl ?_
  refine j_iconst (v := 0) C 69 dX6_pull_69 rfl ?_
  refine j_bind (fun x70 h70 => ?_)
  refine j_vMo_v (As := [.int s1, .int 5, .int 0]) (st := []) C k_X6_put 70 (c_X6_put C.2.2.2.2.2.2.1 _ _ _ _ h70) rfl rfl ml_X6_98 ii_X6_put is_X6_put dX6_pull_70 (by decide) rfl (Nat.le_of_ble_eq_true rfl) ?_ rfl
  refine j_V (V' := (c, (x70, o))) rfl ?_
  refine j_iload_n C 73 0 rfl dX6_pull_73 ?_
  exact j_iret C 74 hr rfl rfl dX6_pull_74
set_option maxRecDepth 100000 in
set_option maxHeartbeats 4000000 in
theorem wb_X6_pull_25 {G : GG} {X : WX} {c : VC} {o : Nat → Int64} (C : Cx G 3 X RX6 cX6_pull 4) (hr : (xM X).sig.returnType = (some .int)) (v : VM) (s1 : Int32) (t0 : Int32) : JS G 3 X (QM G X (fun x : (Int32 × VM) => some (.int x.1)) (fun x : (Int32 × VM) => ((c, (x.2, o)) : VA))) (b_X6_pull_25 v s1 t0) (c, (v, o)) 25 [(0, .ref (G.2.2 114)), (1, .int s1)] [.int t0, .ref (G.2.2 114)] := by
  unfold b_X6_pull_25
  refine p_Mo0 C 25 fl_X6_25 dX6_pull_25 ?_
  refine j_V (V' := (c, ((t0, v.2), o))) rfl ?_
  refine j_aload_n C 28 0 rfl dX6_pull_28 ?_
  refine g_Mo0 C 29 (Or.inl fl_X6_25) dX6_pull_29 ?_
  refine j_if_le C 32 37 dX6_pull_32 (by decide) (fun c32 => ?_) (fun c32 => ?_)
  · refine j_iconst (v := 0) C 35 dX6_pull_35 rfl ?_
    exact j_iret C 36 hr rfl rfl dX6_pull_36
  · refine j_aload_n C 37 0 rfl dX6_pull_37 ?_
    refine j_bind (fun x38 h38 => ?_)
    refine j_vMo_v (As := []) (st := []) C k_X6_record 38 (c_X6_record C.2.2.2.2.2.2.1 _ h38) rfl rfl ml_X6_44 ii_X6_record is_X6_record dX6_pull_38 (by decide) rfl (Nat.le_of_ble_eq_true rfl) ?_ rfl
    refine j_V (V' := (c, (x38, o))) rfl ?_
    refine j_aload_n C 41 0 rfl dX6_pull_41 ?_
    refine j_iload_n C 42 1 rfl dX6_pull_42 ?_
    refine j_bind (fun x43 h43 => ?_)
    refine j_vMo_i (As := [.int s1]) (st := []) C k_X6_isLeft 43 (c_X6_isLeft C.2.2.2.2.2.2.1 _ _ h43) rfl rfl ml_X6_76 ii_X6_isLeft is_X6_isLeft dX6_pull_43 (by decide) rfl (Nat.le_of_ble_eq_true rfl) ?_ rfl
    refine j_if_eq C 46 57 dX6_pull_46 (by decide) (fun c46 => ?_) (fun c46 => ?_)
    · refine j_iconst (v := 0) C 57 dX6_pull_57 rfl ?_
      exact wb_X6_pull_58 C hr x38 s1 0
    · refine j_aload_n C 49 0 rfl dX6_pull_49 ?_
      refine j_iload_n C 50 1 rfl dX6_pull_50 ?_
      refine j_bind (fun x51 h51 => ?_)
      refine j_vMo_i (As := [.int s1]) (st := []) C k_X6_used 51 (c_X6_used C.2.2.2.2.2.2.1 _ _ h51) rfl rfl ml_X6_118 ii_X6_used is_X6_used dX6_pull_51 (by decide) rfl (Nat.le_of_ble_eq_true rfl) ?_ rfl
      refine j_goto C 54 58 dX6_pull_54 (by decide) ?_
      exact wb_X6_pull_58 C hr x38 s1 x51
set_option maxRecDepth 100000 in
set_option maxHeartbeats 4000000 in
theorem w_X6_pull {G : GG} {X : WX} {c : VC} {o : Nat → Int64} (C : Cx G 3 X RX6 cX6_pull 4) (hr : (xM X).sig.returnType = (some .int)) (v : VM) (a1 : Int32) : JS G 3 X (QM G X (fun x : (Int32 × VM) => some (.int x.1)) (fun x : (Int32 × VM) => ((c, (x.2, o)) : VA))) (f_X6_pull v a1) (c, (v, o)) 0 [(0, .ref (G.2.2 114)), (1, .int a1)] [] := by
  unfold f_X6_pull
  refine j_aload_n C 0 0 rfl dX6_pull_0 ?_
  refine j_iload_n C 1 1 rfl dX6_pull_1 ?_
  refine j_bind (fun x2 h2 => ?_)
  refine j_callS_i (As := [.int a1]) (st := [.ref (G.2.2 114)]) C k_X6_isSlot 2 (c_X6_isSlot C.2.2.2.2.2.2.1 (c := c) _ h2) rfl ml_X6_111 st_X6_isSlot dX6_pull_2 (by decide) rfl (Nat.le_of_ble_eq_true rfl) ?_ rfl
  refine j_if_ne C 5 12 dX6_pull_5 (by decide) (fun c5 => ?_) (fun c5 => ?_)
  · refine j_iconst (v := 1) C 8 dX6_pull_8 rfl ?_
    refine j_goto C 9 25 dX6_pull_9 (by decide) ?_
    exact wb_X6_pull_25 C hr v a1 1
  · refine j_aload_n C 12 0 rfl dX6_pull_12 ?_
    refine j_iload_n C 13 1 rfl dX6_pull_13 ?_
    refine j_bind (fun x14 h14 => ?_)
    refine j_vMo_i (As := [.int a1]) (st := [.ref (G.2.2 114)]) C k_X6_isThere 14 (c_X6_isThere C.2.2.2.2.2.2.1 _ _ h14) rfl rfl ml_X6_102 ii_X6_isThere is_X6_isThere dX6_pull_14 (by decide) rfl (Nat.le_of_ble_eq_true rfl) ?_ rfl
    refine j_if_eq C 17 24 dX6_pull_17 (by decide) (fun c17 => ?_) (fun c17 => ?_)
    · refine j_iconst (v := 2) C 24 dX6_pull_24 rfl ?_
      exact wb_X6_pull_25 C hr v a1 2
    · refine j_iconst (v := 0) C 20 dX6_pull_20 rfl ?_
      refine j_goto C 21 25 dX6_pull_21 (by decide) ?_
      exact wb_X6_pull_25 C hr v a1 0
theorem c_X6_pull {G : GG} {l : Launch} (hG : Gok G) {c : VC} {o : Nat → Int64} (v : VM) (a1 : Int32) {x : (Int32 × VM)} (hf : f_X6_pull v a1 = some x) : Ct l yX6_pull cX6_pull 3 (some .int) 4 [.ref (G.2.2 114), .int a1] G (c, (v, o)) (some (.int x.1)) (c, (x.2, o)) := by
  refine ct_of (rv := fun x : (Int32 × VM) => (some (.int x.1))) (fin := fun x : (Int32 × VM) => ((c, (x.2, o)) : VA)) (own := RX6) hG (plainFor_of_name (by decide)) rfl (Nat.le_of_ble_eq_true rfl) (fun X C hr _ => ?_) hf
  exact w_X6_pull C hr v a1
set_option maxRecDepth 100000 in
set_option maxHeartbeats 4000000 in
theorem wb_X6_fail_67 {G : GG} {X : WX} {c : VC} {o : Nat → Int64} (C : Cx G 3 X RX6 cX6_fail 4) (hr : (xM X).sig.returnType = (some .int)) (v : VM) (s1 : Int32) (t0 : Int32) : JS G 3 X (QM G X (fun x : (Int32 × VM) => some (.int x.1)) (fun x : (Int32 × VM) => ((c, (x.2, o)) : VA))) (b_X6_fail_67 v s1 t0) (c, (v, o)) 67 [(0, .ref (G.2.2 114)), (1, .int s1)] [.int t0] := by
  unfold b_X6_fail_67
  refine j_istore_n (L1 := [(2, .int t0), (0, .ref (G.2.2 114)), (1, .int s1)]) C 67 rfl dX6_fail_67 (by decide) rfl ?_
  refine j_aload_n C 68 1 rfl dX6_fail_68 ?_
  refine j_iload_n C 69 2 rfl dX6_fail_69 ?_
  refine j_iconst (v := 4) C 70 dX6_fail_70 rfl ?_
  refine j_iconst (v := 1) C 71 dX6_fail_71 rfl ?_
  refine j_bind (fun x72 h72 => ?_)
  refine j_vMo_v (As := [.int s1, .int 4, .int 1]) (st := []) C k_X6_put 72 (c_X6_put C.2.2.2.2.2.2.1 _ _ _ _ h72) rfl rfl ml_X6_98 ii_X6_put is_X6_put dX6_fail_72 (by decide) rfl (Nat.le_of_ble_eq_true rfl) ?_ rfl
  refine j_V (V' := (c, (x72, o))) rfl ?_
  refine j_iload_n C 75 0 rfl dX6_fail_75 ?_
  exact j_iret C 76 hr rfl rfl dX6_fail_76
set_option maxRecDepth 100000 in
set_option maxHeartbeats 4000000 in
theorem wb_X6_fail_34 {G : GG} {X : WX} {c : VC} {o : Nat → Int64} (C : Cx G 3 X RX6 cX6_fail 4) (hr : (xM X).sig.returnType = (some .int)) (v : VM) (s1 : Int32) (t0 : Int32) : JS G 3 X (QM G X (fun x : (Int32 × VM) => some (.int x.1)) (fun x : (Int32 × VM) => ((c, (x.2, o)) : VA))) (b_X6_fail_34 v s1 t0) (c, (v, o)) 34 [(0, .ref (G.2.2 114)), (1, .int s1)] [.int t0, .ref (G.2.2 114)] := by
  unfold b_X6_fail_34
  refine p_Mo0 C 34 fl_X6_25 dX6_fail_34 ?_
  refine j_V (V' := (c, ((t0, v.2), o))) rfl ?_
  refine j_aload_n C 37 0 rfl dX6_fail_37 ?_
  refine g_Mo0 C 38 (Or.inl fl_X6_25) dX6_fail_38 ?_
  refine j_if_le C 41 46 dX6_fail_41 (by decide) (fun c41 => ?_) (fun c41 => ?_)
  · refine j_iconst (v := 0) C 44 dX6_fail_44 rfl ?_
    exact j_iret C 45 hr rfl rfl dX6_fail_45
  · refine j_aload_n C 46 0 rfl dX6_fail_46 ?_
    refine j_bind (fun x47 h47 => ?_)
    refine j_vMo_v (As := []) (st := []) C k_X6_record 47 (c_X6_record C.2.2.2.2.2.2.1 _ h47) rfl rfl ml_X6_44 ii_X6_record is_X6_record dX6_fail_47 (by decide) rfl (Nat.le_of_ble_eq_true rfl) ?_ rfl
    refine j_V (V' := (c, (x47, o))) rfl ?_
    refine j_aload_n C 50 0 rfl dX6_fail_50 ?_
    refine j_iload_n C 51 1 rfl dX6_fail_51 ?_
    refine j_bind (fun x52 h52 => ?_)
    refine j_vMo_i (As := [.int s1]) (st := []) C k_X6_isLeft 52 (c_X6_isLeft C.2.2.2.2.2.2.1 _ _ h52) rfl rfl ml_X6_76 ii_X6_isLeft is_X6_isLeft dX6_fail_52 (by decide) rfl (Nat.le_of_ble_eq_true rfl) ?_ rfl
    refine j_if_eq C 55 66 dX6_fail_55 (by decide) (fun c55 => ?_) (fun c55 => ?_)
    · refine j_iconst (v := 0) C 66 dX6_fail_66 rfl ?_
      exact wb_X6_fail_67 C hr x47 s1 0
    · refine j_aload_n C 58 0 rfl dX6_fail_58 ?_
      refine j_iload_n C 59 1 rfl dX6_fail_59 ?_
      refine j_bind (fun x60 h60 => ?_)
      refine j_vMo_i (As := [.int s1]) (st := []) C k_X6_used 60 (c_X6_used C.2.2.2.2.2.2.1 _ _ h60) rfl rfl ml_X6_118 ii_X6_used is_X6_used dX6_fail_60 (by decide) rfl (Nat.le_of_ble_eq_true rfl) ?_ rfl
      refine j_goto C 63 67 dX6_fail_63 (by decide) ?_
      exact wb_X6_fail_67 C hr x47 s1 x60
set_option maxRecDepth 100000 in
set_option maxHeartbeats 4000000 in
theorem w_X6_fail {G : GG} {X : WX} {c : VC} {o : Nat → Int64} (C : Cx G 3 X RX6 cX6_fail 4) (hr : (xM X).sig.returnType = (some .int)) (v : VM) (a1 : Int32) : JS G 3 X (QM G X (fun x : (Int32 × VM) => some (.int x.1)) (fun x : (Int32 × VM) => ((c, (x.2, o)) : VA))) (f_X6_fail v a1) (c, (v, o)) 0 [(0, .ref (G.2.2 114)), (1, .int a1)] [] := by
  unfold f_X6_fail
  refine j_aload_n C 0 0 rfl dX6_fail_0 ?_
  refine j_iload_n C 1 1 rfl dX6_fail_1 ?_
  refine j_bind (fun x2 h2 => ?_)
  refine j_callS_i (As := [.int a1]) (st := [.ref (G.2.2 114)]) C k_X6_isSlot 2 (c_X6_isSlot C.2.2.2.2.2.2.1 (c := c) _ h2) rfl ml_X6_111 st_X6_isSlot dX6_fail_2 (by decide) rfl (Nat.le_of_ble_eq_true rfl) ?_ rfl
  refine j_if_ne C 5 12 dX6_fail_5 (by decide) (fun c5 => ?_) (fun c5 => ?_)
  · refine j_iconst (v := 1) C 8 dX6_fail_8 rfl ?_
    refine j_goto C 9 34 dX6_fail_9 (by decide) ?_
    exact wb_X6_fail_34 C hr v a1 1
  · refine j_aload_n C 12 0 rfl dX6_fail_12 ?_
    refine j_iload_n C 13 1 rfl dX6_fail_13 ?_
    refine j_bind (fun x14 h14 => ?_)
    refine j_vMo_i (As := [.int a1]) (st := [.ref (G.2.2 114)]) C k_X6_isThere 14 (c_X6_isThere C.2.2.2.2.2.2.1 _ _ h14) rfl rfl ml_X6_102 ii_X6_isThere is_X6_isThere dX6_fail_14 (by decide) rfl (Nat.le_of_ble_eq_true rfl) ?_ rfl
    refine j_if_eq C 17 33 dX6_fail_17 (by decide) (fun c17 => ?_) (fun c17 => ?_)
    · refine j_iconst (v := 2) C 33 dX6_fail_33 rfl ?_
      exact wb_X6_fail_34 C hr v a1 2
    · refine j_aload_n C 20 0 rfl dX6_fail_20 ?_
      refine j_iload_n C 21 1 rfl dX6_fail_21 ?_
      refine j_iconst (v := 4) C 22 dX6_fail_22 rfl ?_
      refine j_bind (fun x23 h23 => ?_)
      refine j_vMo_i (As := [.int a1, .int 4]) (st := [.ref (G.2.2 114)]) C k_X6_of 23 (c_X6_of C.2.2.2.2.2.2.1 _ _ _ h23) rfl rfl ml_X6_33 ii_X6_of is_X6_of dX6_fail_23 (by decide) rfl (Nat.le_of_ble_eq_true rfl) ?_ rfl
      refine j_if_ne C 26 33 dX6_fail_26 (by decide) (fun c26 => ?_) (fun c26 => ?_)
      · refine j_iconst (v := 0) C 29 dX6_fail_29 rfl ?_
        refine j_goto C 30 34 dX6_fail_30 (by decide) ?_
        exact wb_X6_fail_34 C hr v a1 0
      · refine j_iconst (v := 2) C 33 dX6_fail_33 rfl ?_
        exact wb_X6_fail_34 C hr v a1 2
theorem c_X6_fail {G : GG} {l : Launch} (hG : Gok G) {c : VC} {o : Nat → Int64} (v : VM) (a1 : Int32) {x : (Int32 × VM)} (hf : f_X6_fail v a1 = some x) : Ct l yX6_fail cX6_fail 3 (some .int) 4 [.ref (G.2.2 114), .int a1] G (c, (v, o)) (some (.int x.1)) (c, (x.2, o)) := by
  refine ct_of (rv := fun x : (Int32 × VM) => (some (.int x.1))) (fin := fun x : (Int32 × VM) => ((c, (x.2, o)) : VA)) (own := RX6) hG (plainFor_of_name (by decide)) rfl (Nat.le_of_ble_eq_true rfl) (fun X C hr _ => ?_) hf
  exact w_X6_fail C hr v a1
set_option maxRecDepth 100000 in
set_option maxHeartbeats 4000000 in
theorem wb_X6_start_20 {G : GG} {X : WX} {c : VC} {o : Nat → Int64} (C : Cx G 1 X RX6 cX6_start 4) (hr : (xM X).sig.returnType = (some .int)) (v : VM) (t0 : Int32) : JS G 1 X (QM G X (fun x : (Int32 × VM) => some (.int x.1)) (fun x : (Int32 × VM) => ((c, (x.2, o)) : VA))) (b_X6_start_20 v t0) (c, (v, o)) 20 [(0, .ref (G.2.2 114))] [.int t0, .ref (G.2.2 114)] := by
  unfold b_X6_start_20
  refine p_Mo0 C 20 fl_X6_25 dX6_start_20 ?_
  refine j_V (V' := (c, ((t0, v.2), o))) rfl ?_
  refine j_aload_n C 23 0 rfl dX6_start_23 ?_
  refine g_Mo0 C 24 (Or.inl fl_X6_25) dX6_start_24 ?_
  refine j_if_le C 27 32 dX6_start_27 (by decide) (fun c27 => ?_) (fun c27 => ?_)
  · refine j_iconst (v := 0) C 30 dX6_start_30 rfl ?_
    exact j_iret C 31 hr rfl rfl dX6_start_31
  · refine j_aload_n C 32 0 rfl dX6_start_32 ?_
    refine j_bind (fun x33 h33 => ?_)
    refine j_vMo_v (As := []) (st := []) C k_X6_record 33 (c_X6_record C.2.2.2.2.2.2.1 _ h33) rfl rfl ml_X6_44 ii_X6_record is_X6_record dX6_start_33 (by decide) rfl (Nat.le_of_ble_eq_true rfl) ?_ rfl
    refine j_V (V' := (c, (x33, o))) rfl ?_
    refine j_aload_n C 36 0 rfl dX6_start_36 ?_
    refine j_aload_n C 37 0 rfl dX6_start_37 ?_
    refine g_Mo1 C 38 (Or.inl fl_X6_7) dX6_start_38 ?_
    refine j_bipush (v := 46) C 41 dX6_start_41 rfl ?_
    refine j_bind (fun x43 h43 => ?_)
    refine l_Mo1 C 43 h43 dX6_start_43 ?_
    refine j_bind (fun x44 h44 => ?_)
    refine j_vMo_v (As := [.int x43]) (st := []) C k_X6_makeMap 44 (c_X6_makeMap C.2.2.2.2.2.2.1 _ _ h44) rfl rfl ml_X6_124 ii_X6_makeMap is_X6_makeMap dX6_start_44 (by decide) rfl (Nat.le_of_ble_eq_true rfl) ?_ rfl
    refine j_V (V' := (c, (x44, o))) rfl ?_
    refine j_aload_n C 47 0 rfl dX6_start_47 ?_
    refine g_Mo1 C 48 (Or.inl fl_X6_7) dX6_start_48 ?_
    refine j_bipush (v := 45) C 51 dX6_start_51 rfl ?_
    refine j_dup2 C 53 dX6_start_53 rfl rfl ?_
    refine j_bind (fun x54 h54 => ?_)
    refine l_Mo1 C 54 h54 dX6_start_54 ?_
    refine j_iconst (v := 1) C 55 dX6_start_55 rfl ?_
    refine j_iadd C 56 dX6_start_56 ?_
    refine j_bind (fun x57 h57 => ?_)
    refine t_Mo1 C 57 h57 dX6_start_57 ?_
    refine j_V (V' := (c, ((x44.1, x57, x44.2.2), o))) rfl ?_
    refine j_aload_n C 58 0 rfl dX6_start_58 ?_
    refine j_bind (fun x59 h59 => ?_)
    refine j_vMo_i (As := []) (st := []) C k_X6_blocks 59 (c_X6_blocks C.2.2.2.2.2.2.1 _ h59) rfl rfl ml_X6_55 ii_X6_blocks is_X6_blocks dX6_start_59 (by decide) rfl (Nat.le_of_ble_eq_true rfl) ?_ rfl
    exact j_iret C 62 hr rfl rfl dX6_start_62
set_option maxRecDepth 100000 in
set_option maxHeartbeats 4000000 in
theorem w_X6_start {G : GG} {X : WX} {c : VC} {o : Nat → Int64} (C : Cx G 1 X RX6 cX6_start 4) (hr : (xM X).sig.returnType = (some .int)) (v : VM) : JS G 1 X (QM G X (fun x : (Int32 × VM) => some (.int x.1)) (fun x : (Int32 × VM) => ((c, (x.2, o)) : VA))) (f_X6_start v) (c, (v, o)) 0 [(0, .ref (G.2.2 114))] [] := by
  unfold f_X6_start
  refine j_aload_n C 0 0 rfl dX6_start_0 ?_
  refine j_aload_n C 1 0 rfl dX6_start_1 ?_
  refine j_aload_n C 2 0 rfl dX6_start_2 ?_
  refine g_Mo1 C 3 (Or.inl fl_X6_7) dX6_start_3 ?_
  refine j_bipush (v := 46) C 6 dX6_start_6 rfl ?_
  refine j_bind (fun x8 h8 => ?_)
  refine l_Mo1 C 8 h8 dX6_start_8 ?_
  refine j_bind (fun x9 h9 => ?_)
  refine j_vMo_i (As := [.int x8]) (st := [.ref (G.2.2 114)]) C k_X6_whyNot 9 (c_X6_whyNot C.2.2.2.2.2.2.1 _ _ h9) rfl rfl ml_X6_121 ii_X6_whyNot is_X6_whyNot dX6_start_9 (by decide) rfl (Nat.le_of_ble_eq_true rfl) ?_ rfl
  refine j_if_ne C 12 19 dX6_start_12 (by decide) (fun c12 => ?_) (fun c12 => ?_)
  · refine j_iconst (v := 0) C 15 dX6_start_15 rfl ?_
    refine j_goto C 16 20 dX6_start_16 (by decide) ?_
    exact wb_X6_start_20 C hr v 0
  · refine j_iconst (v := 1) C 19 dX6_start_19 rfl ?_
    exact wb_X6_start_20 C hr v 1
theorem c_X6_start {G : GG} {l : Launch} (hG : Gok G) {c : VC} {o : Nat → Int64} (v : VM) {x : (Int32 × VM)} (hf : f_X6_start v = some x) : Ct l yX6_start cX6_start 1 (some .int) 4 [.ref (G.2.2 114)] G (c, (v, o)) (some (.int x.1)) (c, (x.2, o)) := by
  refine ct_of (rv := fun x : (Int32 × VM) => (some (.int x.1))) (fin := fun x : (Int32 × VM) => ((c, (x.2, o)) : VA)) (own := RX6) hG (plainFor_of_name (by decide)) rfl (Nat.le_of_ble_eq_true rfl) (fun X C hr _ => ?_) hf
  exact w_X6_start C hr v
set_option maxRecDepth 100000 in
set_option maxHeartbeats 4000000 in
theorem wb_X6_stop_17 {G : GG} {X : WX} {c : VC} {o : Nat → Int64} (C : Cx G 2 X RX6 cX6_stop 3) (hr : (xM X).sig.returnType = (some .int)) (v : VM) (t0 : Int32) : JS G 2 X (QM G X (fun x : (Int32 × VM) => some (.int x.1)) (fun x : (Int32 × VM) => ((c, (x.2, o)) : VA))) (b_X6_stop_17 v t0) (c, (v, o)) 17 [(0, .ref (G.2.2 114))] [.int t0, .ref (G.2.2 114)] := by
  unfold b_X6_stop_17
  refine p_Mo0 C 17 fl_X6_25 dX6_stop_17 ?_
  refine j_V (V' := (c, ((t0, v.2), o))) rfl ?_
  refine j_aload_n C 20 0 rfl dX6_stop_20 ?_
  refine g_Mo0 C 21 (Or.inl fl_X6_25) dX6_stop_21 ?_
  refine j_if_le C 24 29 dX6_stop_24 (by decide) (fun c24 => ?_) (fun c24 => ?_)
  · refine j_iconst (v := 0) C 27 dX6_stop_27 rfl ?_
    exact j_iret C 28 hr rfl rfl dX6_stop_28
  · refine j_aload_n C 29 0 rfl dX6_stop_29 ?_
    refine j_bind (fun x30 h30 => ?_)
    refine j_vMo_v (As := []) (st := []) C k_X6_record 30 (c_X6_record C.2.2.2.2.2.2.1 _ h30) rfl rfl ml_X6_44 ii_X6_record is_X6_record dX6_stop_30 (by decide) rfl (Nat.le_of_ble_eq_true rfl) ?_ rfl
    refine j_V (V' := (c, (x30, o))) rfl ?_
    refine j_aload_n C 33 0 rfl dX6_stop_33 ?_
    refine j_bind (fun x34 h34 => ?_)
    refine j_vMo_i (As := []) (st := []) C k_X6_blocks 34 (c_X6_blocks C.2.2.2.2.2.2.1 _ h34) rfl rfl ml_X6_55 ii_X6_blocks is_X6_blocks dX6_stop_34 (by decide) rfl (Nat.le_of_ble_eq_true rfl) ?_ rfl
    refine j_istore_n (L1 := [(1, .int x34), (0, .ref (G.2.2 114))]) C 37 rfl dX6_stop_37 (by decide) rfl ?_
    refine j_aload_n C 38 1 rfl dX6_stop_38 ?_
    refine j_bind (fun x39 h39 => ?_)
    refine j_vMo_v (As := []) (st := []) C k_X6_forgetMap 39 (c_X6_forgetMap C.2.2.2.2.2.2.1 _ h39) rfl rfl ml_X6_108 ii_X6_forgetMap is_X6_forgetMap dX6_stop_39 (by decide) rfl (Nat.le_of_ble_eq_true rfl) ?_ rfl
    refine j_V (V' := (c, (x39, o))) rfl ?_
    refine j_iload_n C 42 0 rfl dX6_stop_42 ?_
    exact j_iret C 43 hr rfl rfl dX6_stop_43
set_option maxRecDepth 100000 in
set_option maxHeartbeats 4000000 in
theorem w_X6_stop {G : GG} {X : WX} {c : VC} {o : Nat → Int64} (C : Cx G 2 X RX6 cX6_stop 3) (hr : (xM X).sig.returnType = (some .int)) (v : VM) : JS G 2 X (QM G X (fun x : (Int32 × VM) => some (.int x.1)) (fun x : (Int32 × VM) => ((c, (x.2, o)) : VA))) (f_X6_stop v) (c, (v, o)) 0 [(0, .ref (G.2.2 114))] [] := by
  unfold f_X6_stop
  refine j_aload_n C 0 0 rfl dX6_stop_0 ?_
  refine j_aload_n C 1 0 rfl dX6_stop_1 ?_
  refine g_Mo1 C 2 (Or.inl fl_X6_7) dX6_stop_2 ?_
  refine j_bipush (v := 40) C 5 dX6_stop_5 rfl ?_
  refine j_bind (fun x7 h7 => ?_)
  refine l_Mo1 C 7 h7 dX6_stop_7 ?_
  refine j_iconst (v := (-1)) C 8 dX6_stop_8 rfl ?_
  refine j_icmp_ne C 9 16 dX6_stop_9 (by decide) (fun c9 => ?_) (fun c9 => ?_)
  · refine j_iconst (v := 1) C 12 dX6_stop_12 rfl ?_
    refine j_goto C 13 17 dX6_stop_13 (by decide) ?_
    exact wb_X6_stop_17 C hr v 1
  · refine j_iconst (v := 0) C 16 dX6_stop_16 rfl ?_
    exact wb_X6_stop_17 C hr v 0
theorem c_X6_stop {G : GG} {l : Launch} (hG : Gok G) {c : VC} {o : Nat → Int64} (v : VM) {x : (Int32 × VM)} (hf : f_X6_stop v = some x) : Ct l yX6_stop cX6_stop 2 (some .int) 3 [.ref (G.2.2 114)] G (c, (v, o)) (some (.int x.1)) (c, (x.2, o)) := by
  refine ct_of (rv := fun x : (Int32 × VM) => (some (.int x.1))) (fin := fun x : (Int32 × VM) => ((c, (x.2, o)) : VA)) (own := RX6) hG (plainFor_of_name (by decide)) rfl (Nat.le_of_ble_eq_true rfl) (fun X C hr _ => ?_) hf
  exact w_X6_stop C hr v
set_option maxRecDepth 100000 in
set_option maxHeartbeats 4000000 in
theorem wb_X6_write_40 {G : GG} {X : WX} {c : VC} {o : Nat → Int64} (C : Cx G 4 X RX6 cX6_write 7) (hr : (xM X).sig.returnType = (some .int)) (v : VM) (s1 : Int32) (s2 : Int32) (t0 : Int32) : JS G 4 X (QM G X (fun x : (Int32 × VM) => some (.int x.1)) (fun x : (Int32 × VM) => ((c, (x.2, o)) : VA))) (b_X6_write_40 v s1 s2 t0) (c, (v, o)) 40 [(0, .ref (G.2.2 114)), (1, .int s1), (2, .int s2)] [.int t0, .ref (G.2.2 114)] := by
  unfold b_X6_write_40
  refine p_Mo0 C 40 fl_X6_25 dX6_write_40 ?_
  refine j_V (V' := (c, ((t0, v.2), o))) rfl ?_
  refine j_aload_n C 43 0 rfl dX6_write_43 ?_
  refine g_Mo0 C 44 (Or.inl fl_X6_25) dX6_write_44 ?_
  refine j_if_le C 47 52 dX6_write_47 (by decide) (fun c47 => ?_) (fun c47 => ?_)
  · refine j_iconst (v := 0) C 50 dX6_write_50 rfl ?_
    exact j_iret C 51 hr rfl rfl dX6_write_51
  · refine j_aload_n C 52 0 rfl dX6_write_52 ?_
    refine j_bind (fun x53 h53 => ?_)
    refine j_vMo_v (As := []) (st := []) C k_X6_record 53 (c_X6_record C.2.2.2.2.2.2.1 _ h53) rfl rfl ml_X6_44 ii_X6_record is_X6_record dX6_write_53 (by decide) rfl (Nat.le_of_ble_eq_true rfl) ?_ rfl
    refine j_V (V' := (c, (x53, o))) rfl ?_
    refine j_aload_n C 56 0 rfl dX6_write_56 ?_
    refine j_iload_n C 57 1 rfl dX6_write_57 ?_
    refine j_bind (fun x58 h58 => ?_)
    refine j_vMo_i (As := [.int s1]) (st := []) C k_X6_valueOf 58 (c_X6_valueOf C.2.2.2.2.2.2.1 _ _ h58) rfl rfl ml_X6_134 ii_X6_valueOf is_X6_valueOf dX6_write_58 (by decide) rfl (Nat.le_of_ble_eq_true rfl) ?_ rfl
    refine j_istore_n (L1 := [(3, .int x58), (0, .ref (G.2.2 114)), (1, .int s1), (2, .int s2)]) C 61 rfl dX6_write_61 (by decide) rfl ?_
    refine j_aload_n C 62 1 rfl dX6_write_62 ?_
    refine g_Mo1 C 63 (Or.inl fl_X6_7) dX6_write_63 ?_
    refine j_bipush (v := 48) C 66 dX6_write_66 rfl ?_
    refine j_bipush (v := 12) C 68 dX6_write_68 rfl ?_
    refine j_aload_n C 70 1 rfl dX6_write_70 ?_
    refine j_iload_n C 71 2 rfl dX6_write_71 ?_
    refine j_bind (fun x72 h72 => ?_)
    refine j_vMo_i (As := [.int s1]) (st := [.int 12, .int 48, .ref (G.2.2 115)]) C k_X6_slotOf 72 (c_X6_slotOf C.2.2.2.2.2.2.1 _ _ h72) rfl rfl ml_X6_73 ii_X6_slotOf is_X6_slotOf dX6_write_72 (by decide) rfl (Nat.le_of_ble_eq_true rfl) ?_ rfl
    refine j_imul C 75 dX6_write_75 ?_
    refine j_iadd C 76 dX6_write_76 ?_
    refine j_aload_n C 77 1 rfl dX6_write_77 ?_
    refine j_iload_n C 78 2 rfl dX6_write_78 ?_
    refine j_bind (fun x79 h79 => ?_)
    refine j_vMo_i (As := [.int s1]) (st := [.int (48 + (12 * x72)), .ref (G.2.2 115)]) C k_X6_numberOf 79 (c_X6_numberOf C.2.2.2.2.2.2.1 _ _ h79) rfl rfl ml_X6_83 ii_X6_numberOf is_X6_numberOf dX6_write_79 (by decide) rfl (Nat.le_of_ble_eq_true rfl) ?_ rfl
    refine j_iadd C 82 dX6_write_82 ?_
    refine j_iload_n C 83 3 rfl dX6_write_83 ?_
    refine j_bind (fun x84 h84 => ?_)
    refine t_Mo1 C 84 h84 dX6_write_84 ?_
    refine j_V (V' := (c, ((x53.1, x84, x53.2.2), o))) rfl ?_
    refine j_aload_n C 85 1 rfl dX6_write_85 ?_
    refine g_Mo1 C 86 (Or.inl fl_X6_7) dX6_write_86 ?_
    refine j_bipush (v := 40) C 89 dX6_write_89 rfl ?_
    refine j_bind (fun x91 h91 => ?_)
    refine l_Mo1 C 91 h91 dX6_write_91 ?_
    refine j_iconst (v := 2) C 92 dX6_write_92 rfl ?_
    refine j_icmp_ne C 93 119 dX6_write_93 (by decide) (fun c93 => ?_) (fun c93 => ?_)
    · refine j_aload_n C 96 1 rfl dX6_write_96 ?_
      refine g_Mo1 C 97 (Or.inl fl_X6_7) dX6_write_97 ?_
      refine j_bipush (v := 48) C 100 dX6_write_100 rfl ?_
      refine j_bipush (v := 12) C 102 dX6_write_102 rfl ?_
      refine j_aload_n C 104 1 rfl dX6_write_104 ?_
      refine j_iload_n C 105 2 rfl dX6_write_105 ?_
      refine j_bind (fun x106 h106 => ?_)
      refine j_vMo_i (As := [.int s1]) (st := [.int 12, .int 48, .ref (G.2.2 115)]) C k_X6_secondSlot 106 (c_X6_secondSlot C.2.2.2.2.2.2.1 _ _ h106) rfl rfl ml_X6_80 ii_X6_secondSlot is_X6_secondSlot dX6_write_106 (by decide) rfl (Nat.le_of_ble_eq_true rfl) ?_ rfl
      refine j_imul C 109 dX6_write_109 ?_
      refine j_iadd C 110 dX6_write_110 ?_
      refine j_aload_n C 111 1 rfl dX6_write_111 ?_
      refine j_iload_n C 112 2 rfl dX6_write_112 ?_
      refine j_bind (fun x113 h113 => ?_)
      refine j_vMo_i (As := [.int s1]) (st := [.int (48 + (12 * x106)), .ref (G.2.2 115)]) C k_X6_secondNumber 113 (c_X6_secondNumber C.2.2.2.2.2.2.1 _ _ h113) rfl rfl ml_X6_86 ii_X6_secondNumber is_X6_secondNumber dX6_write_113 (by decide) rfl (Nat.le_of_ble_eq_true rfl) ?_ rfl
      refine j_iadd C 116 dX6_write_116 ?_
      refine j_iload_n C 117 3 rfl dX6_write_117 ?_
      refine j_bind (fun x118 h118 => ?_)
      refine t_Mo1 C 118 h118 dX6_write_118 ?_
      refine j_V (V' := (c, ((x53.1, x118, x53.2.2), o))) rfl ?_
      refine j_iload_n C 119 0 rfl dX6_write_119 ?_
      exact j_iret C 120 hr rfl rfl dX6_write_120
    · refine j_iload_n C 119 0 rfl dX6_write_119 ?_
      exact j_iret C 120 hr rfl rfl dX6_write_120
set_option maxRecDepth 100000 in
set_option maxHeartbeats 4000000 in
theorem w_X6_write {G : GG} {X : WX} {c : VC} {o : Nat → Int64} (C : Cx G 4 X RX6 cX6_write 7) (hr : (xM X).sig.returnType = (some .int)) (v : VM) (a1 : Int32) (a2 : Int32) : JS G 4 X (QM G X (fun x : (Int32 × VM) => some (.int x.1)) (fun x : (Int32 × VM) => ((c, (x.2, o)) : VA))) (f_X6_write v a1 a2) (c, (v, o)) 0 [(0, .ref (G.2.2 114)), (1, .int a1), (2, .int a2)] [] := by
  unfold f_X6_write
  refine j_aload_n C 0 0 rfl dX6_write_0 ?_
  refine j_aload_n C 1 0 rfl dX6_write_1 ?_
  refine j_iload_n C 2 1 rfl dX6_write_2 ?_
  refine j_bind (fun x3 h3 => ?_)
  refine j_vMo_i (As := [.int a1]) (st := [.ref (G.2.2 114)]) C k_X6_isBlock 3 (c_X6_isBlock C.2.2.2.2.2.2.1 _ _ h3) rfl rfl ml_X6_128 ii_X6_isBlock is_X6_isBlock dX6_write_3 (by decide) rfl (Nat.le_of_ble_eq_true rfl) ?_ rfl
  refine j_if_ne C 6 13 dX6_write_6 (by decide) (fun c6 => ?_) (fun c6 => ?_)
  · refine j_iconst (v := 1) C 9 dX6_write_9 rfl ?_
    refine j_goto C 10 40 dX6_write_10 (by decide) ?_
    exact wb_X6_write_40 C hr v a1 a2 1
  · refine j_iload_n C 13 2 rfl dX6_write_13 ?_
    refine j_iconst (v := 0) C 14 dX6_write_14 rfl ?_
    refine j_bipush (v := 99) C 15 dX6_write_15 rfl ?_
    refine j_bind (fun x17 h17 => ?_)
    refine j_callS_i (As := [.int a2, .int 0, .int 99]) (st := [.ref (G.2.2 114)]) C k_X6_in 17 (c_X6_in C.2.2.2.2.2.2.1 (c := c) _ _ _ h17) rfl ml_X6_29 st_X6_in dX6_write_17 (by decide) rfl (Nat.le_of_ble_eq_true rfl) ?_ rfl
    refine j_if_ne C 20 27 dX6_write_20 (by decide) (fun c20 => ?_) (fun c20 => ?_)
    · refine j_iconst (v := 2) C 23 dX6_write_23 rfl ?_
      refine j_goto C 24 40 dX6_write_24 (by decide) ?_
      exact wb_X6_write_40 C hr v a1 a2 2
    · refine j_aload_n C 27 0 rfl dX6_write_27 ?_
      refine j_iload_n C 28 1 rfl dX6_write_28 ?_
      refine j_bind (fun x29 h29 => ?_)
      refine j_vMo_i (As := [.int a1]) (st := [.ref (G.2.2 114)]) C k_X6_isLeftFor 29 (c_X6_isLeftFor C.2.2.2.2.2.2.1 _ _ h29) rfl rfl ml_X6_131 ii_X6_isLeftFor is_X6_isLeftFor dX6_write_29 (by decide) rfl (Nat.le_of_ble_eq_true rfl) ?_ rfl
      refine j_if_eq C 32 39 dX6_write_32 (by decide) (fun c32 => ?_) (fun c32 => ?_)
      · refine j_iconst (v := 3) C 39 dX6_write_39 rfl ?_
        exact wb_X6_write_40 C hr v a1 a2 3
      · refine j_iconst (v := 0) C 35 dX6_write_35 rfl ?_
        refine j_goto C 36 40 dX6_write_36 (by decide) ?_
        exact wb_X6_write_40 C hr v a1 a2 0
theorem c_X6_write {G : GG} {l : Launch} (hG : Gok G) {c : VC} {o : Nat → Int64} (v : VM) (a1 : Int32) (a2 : Int32) {x : (Int32 × VM)} (hf : f_X6_write v a1 a2 = some x) : Ct l yX6_write cX6_write 4 (some .int) 7 [.ref (G.2.2 114), .int a1, .int a2] G (c, (v, o)) (some (.int x.1)) (c, (x.2, o)) := by
  refine ct_of (rv := fun x : (Int32 × VM) => (some (.int x.1))) (fin := fun x : (Int32 × VM) => ((c, (x.2, o)) : VA)) (own := RX6) hG (plainFor_of_name (by decide)) rfl (Nat.le_of_ble_eq_true rfl) (fun X C hr _ => ?_) hf
  exact w_X6_write C hr v a1 a2
set_option maxRecDepth 100000 in
set_option maxHeartbeats 4000000 in
theorem w_X6_rankOf {G : GG} {X : WX} {c : VC} {o : Nat → Int64} (C : Cx G 3 X RX6 cX6_rankOf 1) (hr : (xM X).sig.returnType = (some .int)) (v : VM) (a1 : Int32) (a2 : Int32) : JS G 3 X (QM G X (fun x : Int32 => some (.int x)) (fun x : Int32 => ((c, (v, o)) : VA))) (f_X6_rankOf v a1 a2) (c, (v, o)) 0 [(0, .ref (G.2.2 114)), (1, .int a1), (2, .int a2)] [] := by
  unfold f_X6_rankOf
  refine j_aload_n C 0 0 rfl dX6_rankOf_0 ?_
  refine j_iload_n C 1 1 rfl dX6_rankOf_1 ?_
  refine j_iconst (v := 2) C 2 dX6_rankOf_2 rfl ?_
  refine j_bind (fun x3 h3 => ?_)
  refine j_vMo_i (As := [.int a1, .int 2]) (st := []) C k_X6_of 3 (c_X6_of C.2.2.2.2.2.2.1 _ _ _ h3) rfl rfl ml_X6_33 ii_X6_of is_X6_of dX6_rankOf_3 (by decide) rfl (Nat.le_of_ble_eq_true rfl) ?_ rfl
  refine j_iconst (v := 2) C 6 dX6_rankOf_6 rfl ?_
  refine j_icmp_ne C 7 16 dX6_rankOf_7 (by decide) (fun c7 => ?_) (fun c7 => ?_)
  · refine j_iload_n C 10 2 rfl dX6_rankOf_10 ?_
    refine j_iconst (v := 2) C 11 dX6_rankOf_11 rfl ?_
    refine j_irem C 12 dX6_rankOf_12 (by decide) ?_
    refine j_goto C 13 17 dX6_rankOf_13 (by decide) ?_
    exact j_iret C 17 hr rfl rfl dX6_rankOf_17
  · refine j_iconst (v := 0) C 16 dX6_rankOf_16 rfl ?_
    exact j_iret C 17 hr rfl rfl dX6_rankOf_17
theorem c_X6_rankOf {G : GG} {l : Launch} (hG : Gok G) {c : VC} {o : Nat → Int64} (v : VM) (a1 : Int32) (a2 : Int32) {x : Int32} (hf : f_X6_rankOf v a1 a2 = some x) : Ct l yX6_rankOf cX6_rankOf 3 (some .int) 1 [.ref (G.2.2 114), .int a1, .int a2] G (c, (v, o)) (some (.int x)) (c, (v, o)) := by
  refine ct_of (rv := fun x : Int32 => (some (.int x))) (fin := fun x : Int32 => ((c, (v, o)) : VA)) (own := RX6) hG (plainFor_of_name (by decide)) rfl (Nat.le_of_ble_eq_true rfl) (fun X C hr _ => ?_) hf
  exact w_X6_rankOf C hr v a1 a2
set_option maxRecDepth 100000 in
set_option maxHeartbeats 4000000 in
theorem w_X6_freeFrom {G : GG} {X : WX} {c : VC} {o : Nat → Int64} (C : Cx G 3 X RX6 cX6_freeFrom 6) (hr : (xM X).sig.returnType = (some .int)) (v : VM) (a1 : Int32) : JS G 3 X (QM G X (fun x : Int32 => some (.int x)) (fun x : Int32 => ((c, (v, o)) : VA))) (f_X6_freeFrom v a1) (c, (v, o)) 0 [(0, .ref (G.2.2 114)), (1, .int a1)] [] := by
  unfold f_X6_freeFrom
  refine j_aload_n C 0 0 rfl dX6_freeFrom_0 ?_
  refine j_iload_n C 1 1 rfl dX6_freeFrom_1 ?_
  refine j_bind (fun x2 h2 => ?_)
  refine j_vMo_i (As := [.int a1]) (st := []) C k_X6_readSlot 2 (c_X6_readSlot C.2.2.2.2.2.2.1 _ _ h2) rfl rfl ml_X6_89 ii_X6_readSlot is_X6_readSlot dX6_freeFrom_2 (by decide) rfl (Nat.le_of_ble_eq_true rfl) ?_ rfl
  refine j_istore_n (L1 := [(2, .int x2), (0, .ref (G.2.2 114)), (1, .int a1)]) C 5 rfl dX6_freeFrom_5 (by decide) rfl ?_
  refine j_aload_n C 6 1 rfl dX6_freeFrom_6 ?_
  refine j_iload_n C 7 0 rfl dX6_freeFrom_7 ?_
  refine j_bipush (v := 6) C 8 dX6_freeFrom_8 rfl ?_
  refine j_aload_n C 10 1 rfl dX6_freeFrom_10 ?_
  refine j_iload_n C 11 0 rfl dX6_freeFrom_11 ?_
  refine j_aload_n C 12 1 rfl dX6_freeFrom_12 ?_
  refine j_iload_n C 13 2 rfl dX6_freeFrom_13 ?_
  refine j_bind (fun x14 h14 => ?_)
  refine j_vMo_i (As := [.int a1]) (st := [.int x2, .ref (G.2.2 114), .int 6, .int x2, .ref (G.2.2 114)]) C k_X6_readNumber 14 (c_X6_readNumber C.2.2.2.2.2.2.1 _ _ h14) rfl rfl ml_X6_92 ii_X6_readNumber is_X6_readNumber dX6_freeFrom_14 (by decide) rfl (Nat.le_of_ble_eq_true rfl) ?_ rfl
  refine j_bind (fun x17 h17 => ?_)
  refine j_vMo_i (As := [.int x2, .int x14]) (st := [.int 6, .int x2, .ref (G.2.2 114)]) C k_X6_rankOf 17 (c_X6_rankOf C.2.2.2.2.2.2.1 _ _ _ h17) rfl rfl ml_X6_137 ii_X6_rankOf is_X6_rankOf dX6_freeFrom_17 (by decide) rfl (Nat.le_of_ble_eq_true rfl) ?_ rfl
  refine j_iadd C 20 dX6_freeFrom_20 ?_
  refine j_bind (fun x21 h21 => ?_)
  refine j_vMo_i (As := [.int x2, .int (6 + x17)]) (st := []) C k_X6_of 21 (c_X6_of C.2.2.2.2.2.2.1 _ _ _ h21) rfl rfl ml_X6_33 ii_X6_of is_X6_of dX6_freeFrom_21 (by decide) rfl (Nat.le_of_ble_eq_true rfl) ?_ rfl
  exact j_iret C 24 hr rfl rfl dX6_freeFrom_24
theorem c_X6_freeFrom {G : GG} {l : Launch} (hG : Gok G) {c : VC} {o : Nat → Int64} (v : VM) (a1 : Int32) {x : Int32} (hf : f_X6_freeFrom v a1 = some x) : Ct l yX6_freeFrom cX6_freeFrom 3 (some .int) 6 [.ref (G.2.2 114), .int a1] G (c, (v, o)) (some (.int x)) (c, (v, o)) := by
  refine ct_of (rv := fun x : Int32 => (some (.int x))) (fin := fun x : Int32 => ((c, (v, o)) : VA)) (own := RX6) hG (plainFor_of_name (by decide)) rfl (Nat.le_of_ble_eq_true rfl) (fun X C hr _ => ?_) hf
  exact w_X6_freeFrom C hr v a1
set_option maxRecDepth 100000 in
set_option maxHeartbeats 4000000 in
theorem w_X6_waitFor {G : GG} {X : WX} {c : VC} {o : Nat → Int64} (C : Cx G 2 X RX6 cX6_waitFor 0) (hr : (xM X).sig.returnType = none) (v : VM) (a1 : Int32) : JS G 2 X (QM G X (fun x : VM => none) (fun x : VM => ((c, (x, o)) : VA))) (f_X6_waitFor v a1) (c, (v, o)) 0 [(0, .ref (G.2.2 114)), (1, .int a1)] [] := by
  unfold f_X6_waitFor
  refine j_iload_n C 0 1 rfl dX6_waitFor_0 ?_
  refine j_aload_n C 1 0 rfl dX6_waitFor_1 ?_
  refine g_Mo1 C 2 (Or.inl fl_X6_7) dX6_waitFor_2 ?_
  refine j_bipush (v := 41) C 5 dX6_waitFor_5 rfl ?_
  refine j_bind (fun x7 h7 => ?_)
  refine l_Mo1 C 7 h7 dX6_waitFor_7 ?_
  refine j_icmp_le C 8 38 dX6_waitFor_8 (by decide) (fun c8 => ?_) (fun c8 => ?_)
  · refine j_aload_n C 11 0 rfl dX6_waitFor_11 ?_
    refine g_Mo1 C 12 (Or.inl fl_X6_7) dX6_waitFor_12 ?_
    refine j_bipush (v := 44) C 15 dX6_waitFor_15 rfl ?_
    refine j_dup2 C 17 dX6_waitFor_17 rfl rfl ?_
    refine j_bind (fun x18 h18 => ?_)
    refine l_Mo1 C 18 h18 dX6_waitFor_18 ?_
    refine j_iload_n C 19 1 rfl dX6_waitFor_19 ?_
    refine j_aload_n C 20 0 rfl dX6_waitFor_20 ?_
    refine g_Mo1 C 21 (Or.inl fl_X6_7) dX6_waitFor_21 ?_
    refine j_bipush (v := 41) C 24 dX6_waitFor_24 rfl ?_
    refine j_bind (fun x26 h26 => ?_)
    refine l_Mo1 C 26 h26 dX6_waitFor_26 ?_
    refine j_isub C 27 dX6_waitFor_27 ?_
    refine j_iadd C 28 dX6_waitFor_28 ?_
    refine j_bind (fun x29 h29 => ?_)
    refine t_Mo1 C 29 h29 dX6_waitFor_29 ?_
    refine j_V (V' := (c, ((v.1, x29, v.2.2), o))) rfl ?_
    refine j_aload_n C 30 0 rfl dX6_waitFor_30 ?_
    refine g_Mo1 C 31 (Or.inl fl_X6_7) dX6_waitFor_31 ?_
    refine j_bipush (v := 41) C 34 dX6_waitFor_34 rfl ?_
    refine j_iload_n C 36 1 rfl dX6_waitFor_36 ?_
    refine j_bind (fun x37 h37 => ?_)
    refine t_Mo1 C 37 h37 dX6_waitFor_37 ?_
    refine j_V (V' := (c, ((v.1, x37, v.2.2), o))) rfl ?_
    exact j_vret C 38 hr rfl rfl dX6_waitFor_38
  · exact j_vret C 38 hr rfl rfl dX6_waitFor_38
theorem c_X6_waitFor {G : GG} {l : Launch} (hG : Gok G) {c : VC} {o : Nat → Int64} (v : VM) (a1 : Int32) {x : VM} (hf : f_X6_waitFor v a1 = some x) : Ct l yX6_waitFor cX6_waitFor 2 none 0 [.ref (G.2.2 114), .int a1] G (c, (v, o)) none (c, (x, o)) := by
  refine ct_of (rv := fun x : VM => none) (fin := fun x : VM => ((c, (x, o)) : VA)) (own := RX6) hG (plainFor_of_name (by decide)) rfl (Nat.le_of_ble_eq_true rfl) (fun X C hr _ => ?_) hf
  exact w_X6_waitFor C hr v a1
set_option maxRecDepth 100000 in
set_option maxHeartbeats 4000000 in
theorem w_X6_readNow {G : GG} {X : WX} {c : VC} {o : Nat → Int64} (C : Cx G 3 X RX6 cX6_readNow 7) (hr : (xM X).sig.returnType = (some .int)) (v : VM) (a1 : Int32) : JS G 3 X (QM G X (fun x : (Int32 × VM) => some (.int x.1)) (fun x : (Int32 × VM) => ((c, (x.2, o)) : VA))) (f_X6_readNow v a1) (c, (v, o)) 0 [(0, .ref (G.2.2 114)), (1, .int a1)] [] := by
  unfold f_X6_readNow
  refine j_aload_n C 0 0 rfl dX6_readNow_0 ?_
  refine j_iload_n C 1 1 rfl dX6_readNow_1 ?_
  refine j_bind (fun x2 h2 => ?_)
  refine j_vMo_i (As := [.int a1]) (st := []) C k_X6_readSlot 2 (c_X6_readSlot C.2.2.2.2.2.2.1 _ _ h2) rfl rfl ml_X6_89 ii_X6_readSlot is_X6_readSlot dX6_readNow_2 (by decide) rfl (Nat.le_of_ble_eq_true rfl) ?_ rfl
  refine j_istore_n (L1 := [(2, .int x2), (0, .ref (G.2.2 114)), (1, .int a1)]) C 5 rfl dX6_readNow_5 (by decide) rfl ?_
  refine j_aload_n C 6 1 rfl dX6_readNow_6 ?_
  refine j_iload_n C 7 0 rfl dX6_readNow_7 ?_
  refine j_bipush (v := 6) C 8 dX6_readNow_8 rfl ?_
  refine j_aload_n C 10 1 rfl dX6_readNow_10 ?_
  refine j_iload_n C 11 0 rfl dX6_readNow_11 ?_
  refine j_aload_n C 12 1 rfl dX6_readNow_12 ?_
  refine j_iload_n C 13 2 rfl dX6_readNow_13 ?_
  refine j_bind (fun x14 h14 => ?_)
  refine j_vMo_i (As := [.int a1]) (st := [.int x2, .ref (G.2.2 114), .int 6, .int x2, .ref (G.2.2 114)]) C k_X6_readNumber 14 (c_X6_readNumber C.2.2.2.2.2.2.1 _ _ h14) rfl rfl ml_X6_92 ii_X6_readNumber is_X6_readNumber dX6_readNow_14 (by decide) rfl (Nat.le_of_ble_eq_true rfl) ?_ rfl
  refine j_bind (fun x17 h17 => ?_)
  refine j_vMo_i (As := [.int x2, .int x14]) (st := [.int 6, .int x2, .ref (G.2.2 114)]) C k_X6_rankOf 17 (c_X6_rankOf C.2.2.2.2.2.2.1 _ _ _ h17) rfl rfl ml_X6_137 ii_X6_rankOf is_X6_rankOf dX6_readNow_17 (by decide) rfl (Nat.le_of_ble_eq_true rfl) ?_ rfl
  refine j_iadd C 20 dX6_readNow_20 ?_
  refine j_aload_n C 21 1 rfl dX6_readNow_21 ?_
  refine g_Mo1 C 22 (Or.inl fl_X6_7) dX6_readNow_22 ?_
  refine j_bipush (v := 41) C 25 dX6_readNow_25 rfl ?_
  refine j_bind (fun x27 h27 => ?_)
  refine l_Mo1 C 27 h27 dX6_readNow_27 ?_
  refine j_aload_n C 28 1 rfl dX6_readNow_28 ?_
  refine j_iload_n C 29 0 rfl dX6_readNow_29 ?_
  refine j_iconst (v := 3) C 30 dX6_readNow_30 rfl ?_
  refine j_bind (fun x31 h31 => ?_)
  refine j_vMo_i (As := [.int x2, .int 3]) (st := [.int x27, .int (6 + x17), .int x2, .ref (G.2.2 114)]) C k_X6_of 31 (c_X6_of C.2.2.2.2.2.2.1 _ _ _ h31) rfl rfl ml_X6_33 ii_X6_of is_X6_of dX6_readNow_31 (by decide) rfl (Nat.le_of_ble_eq_true rfl) ?_ rfl
  refine j_iadd C 34 dX6_readNow_34 ?_
  refine j_bind (fun x35 h35 => ?_)
  refine j_vMo_v (As := [.int x2, .int (6 + x17), .int (x27 + x31)]) (st := []) C k_X6_put 35 (c_X6_put C.2.2.2.2.2.2.1 _ _ _ _ h35) rfl rfl ml_X6_98 ii_X6_put is_X6_put dX6_readNow_35 (by decide) rfl (Nat.le_of_ble_eq_true rfl) ?_ rfl
  refine j_V (V' := (c, (x35, o))) rfl ?_
  refine j_aload_n C 38 1 rfl dX6_readNow_38 ?_
  refine j_iload_n C 39 0 rfl dX6_readNow_39 ?_
  refine j_bipush (v := 8) C 40 dX6_readNow_40 rfl ?_
  refine j_aload_n C 42 1 rfl dX6_readNow_42 ?_
  refine j_iload_n C 43 0 rfl dX6_readNow_43 ?_
  refine j_bipush (v := 8) C 44 dX6_readNow_44 rfl ?_
  refine j_bind (fun x46 h46 => ?_)
  refine j_vMo_i (As := [.int x2, .int 8]) (st := [.int 8, .int x2, .ref (G.2.2 114)]) C k_X6_of 46 (c_X6_of C.2.2.2.2.2.2.1 _ _ _ h46) rfl rfl ml_X6_33 ii_X6_of is_X6_of dX6_readNow_46 (by decide) rfl (Nat.le_of_ble_eq_true rfl) ?_ rfl
  refine j_iconst (v := 1) C 49 dX6_readNow_49 rfl ?_
  refine j_iadd C 50 dX6_readNow_50 ?_
  refine j_bind (fun x51 h51 => ?_)
  refine j_vMo_v (As := [.int x2, .int 8, .int (x46 + 1)]) (st := []) C k_X6_put 51 (c_X6_put C.2.2.2.2.2.2.1 _ _ _ _ h51) rfl rfl ml_X6_98 ii_X6_put is_X6_put dX6_readNow_51 (by decide) rfl (Nat.le_of_ble_eq_true rfl) ?_ rfl
  refine j_V (V' := (c, (x51, o))) rfl ?_
  refine j_aload_n C 54 1 rfl dX6_readNow_54 ?_
  refine g_Mo1 C 55 (Or.inl fl_X6_7) dX6_readNow_55 ?_
  refine j_bipush (v := 42) C 58 dX6_readNow_58 rfl ?_
  refine j_dup2 C 60 dX6_readNow_60 rfl rfl ?_
  refine j_bind (fun x61 h61 => ?_)
  refine l_Mo1 C 61 h61 dX6_readNow_61 ?_
  refine j_iconst (v := 1) C 62 dX6_readNow_62 rfl ?_
  refine j_iadd C 63 dX6_readNow_63 ?_
  refine j_bind (fun x64 h64 => ?_)
  refine t_Mo1 C 64 h64 dX6_readNow_64 ?_
  refine j_V (V' := (c, ((x51.1, x64, x51.2.2), o))) rfl ?_
  refine j_aload_n C 65 1 rfl dX6_readNow_65 ?_
  refine j_iload_n C 66 2 rfl dX6_readNow_66 ?_
  refine j_bind (fun x67 h67 => ?_)
  refine j_vMo_i (As := [.int a1]) (st := []) C k_X6_valueOf 67 (c_X6_valueOf C.2.2.2.2.2.2.1 _ _ h67) rfl rfl ml_X6_134 ii_X6_valueOf is_X6_valueOf dX6_readNow_67 (by decide) rfl (Nat.le_of_ble_eq_true rfl) ?_ rfl
  exact j_iret C 70 hr rfl rfl dX6_readNow_70
theorem c_X6_readNow {G : GG} {l : Launch} (hG : Gok G) {c : VC} {o : Nat → Int64} (v : VM) (a1 : Int32) {x : (Int32 × VM)} (hf : f_X6_readNow v a1 = some x) : Ct l yX6_readNow cX6_readNow 3 (some .int) 7 [.ref (G.2.2 114), .int a1] G (c, (v, o)) (some (.int x.1)) (c, (x.2, o)) := by
  refine ct_of (rv := fun x : (Int32 × VM) => (some (.int x.1))) (fin := fun x : (Int32 × VM) => ((c, (x.2, o)) : VA)) (own := RX6) hG (plainFor_of_name (by decide)) rfl (Nat.le_of_ble_eq_true rfl) (fun X C hr _ => ?_) hf
  exact w_X6_readNow C hr v a1
set_option maxRecDepth 100000 in
set_option maxHeartbeats 4000000 in
theorem w_X6_doRead {G : GG} {X : WX} {c : VC} {o : Nat → Int64} (C : Cx G 3 X RX6 cX6_doRead 8) (hr : (xM X).sig.returnType = (some .int)) (v : VM) (a1 : Int32) : JS G 3 X (QM G X (fun x : (Int32 × VM) => some (.int x.1)) (fun x : (Int32 × VM) => ((c, (x.2, o)) : VA))) (f_X6_doRead v a1) (c, (v, o)) 0 [(0, .ref (G.2.2 114)), (1, .int a1)] [] := by
  unfold f_X6_doRead
  refine j_aload_n C 0 0 rfl dX6_doRead_0 ?_
  refine j_aload_n C 1 0 rfl dX6_doRead_1 ?_
  refine j_iload_n C 2 1 rfl dX6_doRead_2 ?_
  refine j_bind (fun x3 h3 => ?_)
  refine j_vMo_i (As := [.int a1]) (st := [.ref (G.2.2 114)]) C k_X6_freeFrom 3 (c_X6_freeFrom C.2.2.2.2.2.2.1 _ _ h3) rfl rfl ml_X6_140 ii_X6_freeFrom is_X6_freeFrom dX6_doRead_3 (by decide) rfl (Nat.le_of_ble_eq_true rfl) ?_ rfl
  refine j_bind (fun x6 h6 => ?_)
  refine j_vMo_v (As := [.int x3]) (st := []) C k_X6_waitFor 6 (c_X6_waitFor C.2.2.2.2.2.2.1 _ _ h6) rfl rfl ml_X6_143 ii_X6_waitFor is_X6_waitFor dX6_doRead_6 (by decide) rfl (Nat.le_of_ble_eq_true rfl) ?_ rfl
  refine j_V (V' := (c, (x6, o))) rfl ?_
  refine j_aload_n C 9 0 rfl dX6_doRead_9 ?_
  refine j_iload_n C 10 1 rfl dX6_doRead_10 ?_
  refine j_bind (fun x11 h11 => ?_)
  refine j_vMo_i (As := [.int a1]) (st := []) C k_X6_readNow 11 (c_X6_readNow C.2.2.2.2.2.2.1 _ _ h11) rfl rfl ml_X6_146 ii_X6_readNow is_X6_readNow dX6_doRead_11 (by decide) rfl (Nat.le_of_ble_eq_true rfl) ?_ rfl
  refine j_V (V' := (c, (x11.2, o))) rfl ?_
  refine j_istore_n (L1 := [(2, .int x11.1), (0, .ref (G.2.2 114)), (1, .int a1)]) C 14 rfl dX6_doRead_14 (by decide) rfl ?_
  refine j_aload_n C 15 1 rfl dX6_doRead_15 ?_
  refine g_Mo1 C 16 (Or.inl fl_X6_7) dX6_doRead_16 ?_
  refine j_bipush (v := 41) C 19 dX6_doRead_19 rfl ?_
  refine j_dup2 C 21 dX6_doRead_21 rfl rfl ?_
  refine j_bind (fun x22 h22 => ?_)
  refine l_Mo1 C 22 h22 dX6_doRead_22 ?_
  refine j_iconst (v := 1) C 23 dX6_doRead_23 rfl ?_
  refine j_iadd C 24 dX6_doRead_24 ?_
  refine j_bind (fun x25 h25 => ?_)
  refine t_Mo1 C 25 h25 dX6_doRead_25 ?_
  refine j_V (V' := (c, ((x11.2.1, x25, x11.2.2.2), o))) rfl ?_
  refine j_iload_n C 26 0 rfl dX6_doRead_26 ?_
  exact j_iret C 27 hr rfl rfl dX6_doRead_27
theorem c_X6_doRead {G : GG} {l : Launch} (hG : Gok G) {c : VC} {o : Nat → Int64} (v : VM) (a1 : Int32) {x : (Int32 × VM)} (hf : f_X6_doRead v a1 = some x) : Ct l yX6_doRead cX6_doRead 3 (some .int) 8 [.ref (G.2.2 114), .int a1] G (c, (v, o)) (some (.int x.1)) (c, (x.2, o)) := by
  refine ct_of (rv := fun x : (Int32 × VM) => (some (.int x.1))) (fin := fun x : (Int32 × VM) => ((c, (x.2, o)) : VA)) (own := RX6) hG (plainFor_of_name (by decide)) rfl (Nat.le_of_ble_eq_true rfl) (fun X C hr _ => ?_) hf
  exact w_X6_doRead C hr v a1
set_option maxRecDepth 100000 in
set_option maxHeartbeats 4000000 in
theorem w_X6_readPair {G : GG} {X : WX} {c : VC} {o : Nat → Int64} (C : Cx G 3 X RX6 cX6_readPair 8) (hr : (xM X).sig.returnType = (some .int)) (v : VM) (a1 : Int32) : JS G 3 X (QM G X (fun x : (Int32 × VM) => some (.int x.1)) (fun x : (Int32 × VM) => ((c, (x.2, o)) : VA))) (f_X6_readPair v a1) (c, (v, o)) 0 [(0, .ref (G.2.2 114)), (1, .int a1)] [] := by
  unfold f_X6_readPair
  refine j_aload_n C 0 0 rfl dX6_readPair_0 ?_
  refine j_aload_n C 1 0 rfl dX6_readPair_1 ?_
  refine j_iload_n C 2 1 rfl dX6_readPair_2 ?_
  refine j_bind (fun x3 h3 => ?_)
  refine j_vMo_i (As := [.int a1]) (st := [.ref (G.2.2 114)]) C k_X6_freeFrom 3 (c_X6_freeFrom C.2.2.2.2.2.2.1 _ _ h3) rfl rfl ml_X6_140 ii_X6_freeFrom is_X6_freeFrom dX6_readPair_3 (by decide) rfl (Nat.le_of_ble_eq_true rfl) ?_ rfl
  refine j_bind (fun x6 h6 => ?_)
  refine j_vMo_v (As := [.int x3]) (st := []) C k_X6_waitFor 6 (c_X6_waitFor C.2.2.2.2.2.2.1 _ _ h6) rfl rfl ml_X6_143 ii_X6_waitFor is_X6_waitFor dX6_readPair_6 (by decide) rfl (Nat.le_of_ble_eq_true rfl) ?_ rfl
  refine j_V (V' := (c, (x6, o))) rfl ?_
  refine j_aload_n C 9 0 rfl dX6_readPair_9 ?_
  refine j_aload_n C 10 0 rfl dX6_readPair_10 ?_
  refine j_iload_n C 11 1 rfl dX6_readPair_11 ?_
  refine j_iconst (v := 1) C 12 dX6_readPair_12 rfl ?_
  refine j_iadd C 13 dX6_readPair_13 ?_
  refine j_bind (fun x14 h14 => ?_)
  refine j_vMo_i (As := [.int (a1 + 1)]) (st := [.ref (G.2.2 114)]) C k_X6_freeFrom 14 (c_X6_freeFrom C.2.2.2.2.2.2.1 _ _ h14) rfl rfl ml_X6_140 ii_X6_freeFrom is_X6_freeFrom dX6_readPair_14 (by decide) rfl (Nat.le_of_ble_eq_true rfl) ?_ rfl
  refine j_bind (fun x17 h17 => ?_)
  refine j_vMo_v (As := [.int x14]) (st := []) C k_X6_waitFor 17 (c_X6_waitFor C.2.2.2.2.2.2.1 _ _ h17) rfl rfl ml_X6_143 ii_X6_waitFor is_X6_waitFor dX6_readPair_17 (by decide) rfl (Nat.le_of_ble_eq_true rfl) ?_ rfl
  refine j_V (V' := (c, (x17, o))) rfl ?_
  refine j_aload_n C 20 0 rfl dX6_readPair_20 ?_
  refine j_iload_n C 21 1 rfl dX6_readPair_21 ?_
  refine j_bind (fun x22 h22 => ?_)
  refine j_vMo_i (As := [.int a1]) (st := []) C k_X6_readNow 22 (c_X6_readNow C.2.2.2.2.2.2.1 _ _ h22) rfl rfl ml_X6_146 ii_X6_readNow is_X6_readNow dX6_readPair_22 (by decide) rfl (Nat.le_of_ble_eq_true rfl) ?_ rfl
  refine j_V (V' := (c, (x22.2, o))) rfl ?_
  refine j_istore_n (L1 := [(2, .int x22.1), (0, .ref (G.2.2 114)), (1, .int a1)]) C 25 rfl dX6_readPair_25 (by decide) rfl ?_
  refine j_iload_n C 26 0 rfl dX6_readPair_26 ?_
  refine j_aload_n C 27 1 rfl dX6_readPair_27 ?_
  refine j_iload_n C 28 2 rfl dX6_readPair_28 ?_
  refine j_iconst (v := 1) C 29 dX6_readPair_29 rfl ?_
  refine j_iadd C 30 dX6_readPair_30 ?_
  refine j_bind (fun x31 h31 => ?_)
  refine j_vMo_i (As := [.int (a1 + 1)]) (st := [.int x22.1]) C k_X6_readNow 31 (c_X6_readNow C.2.2.2.2.2.2.1 _ _ h31) rfl rfl ml_X6_146 ii_X6_readNow is_X6_readNow dX6_readPair_31 (by decide) rfl (Nat.le_of_ble_eq_true rfl) ?_ rfl
  refine j_V (V' := (c, (x31.2, o))) rfl ?_
  refine j_iadd C 34 dX6_readPair_34 ?_
  refine j_istore_n (L1 := [(2, .int (x22.1 + x31.1)), (0, .ref (G.2.2 114)), (1, .int a1)]) C 35 rfl dX6_readPair_35 (by decide) rfl ?_
  refine j_aload_n C 36 1 rfl dX6_readPair_36 ?_
  refine g_Mo1 C 37 (Or.inl fl_X6_7) dX6_readPair_37 ?_
  refine j_bipush (v := 43) C 40 dX6_readPair_40 rfl ?_
  refine j_dup2 C 42 dX6_readPair_42 rfl rfl ?_
  refine j_bind (fun x43 h43 => ?_)
  refine l_Mo1 C 43 h43 dX6_readPair_43 ?_
  refine j_iconst (v := 1) C 44 dX6_readPair_44 rfl ?_
  refine j_iadd C 45 dX6_readPair_45 ?_
  refine j_bind (fun x46 h46 => ?_)
  refine t_Mo1 C 46 h46 dX6_readPair_46 ?_
  refine j_V (V' := (c, ((x31.2.1, x46, x31.2.2.2), o))) rfl ?_
  refine j_aload_n C 47 1 rfl dX6_readPair_47 ?_
  refine g_Mo1 C 48 (Or.inl fl_X6_7) dX6_readPair_48 ?_
  refine j_bipush (v := 41) C 51 dX6_readPair_51 rfl ?_
  refine j_dup2 C 53 dX6_readPair_53 rfl rfl ?_
  refine j_bind (fun x54 h54 => ?_)
  refine l_Mo1 C 54 h54 dX6_readPair_54 ?_
  refine j_iconst (v := 1) C 55 dX6_readPair_55 rfl ?_
  refine j_iadd C 56 dX6_readPair_56 ?_
  refine j_bind (fun x57 h57 => ?_)
  refine t_Mo1 C 57 h57 dX6_readPair_57 ?_
  refine j_V (V' := (c, ((x31.2.1, x57, x31.2.2.2), o))) rfl ?_
  refine j_iload_n C 58 0 rfl dX6_readPair_58 ?_
  exact j_iret C 59 hr rfl rfl dX6_readPair_59
theorem c_X6_readPair {G : GG} {l : Launch} (hG : Gok G) {c : VC} {o : Nat → Int64} (v : VM) (a1 : Int32) {x : (Int32 × VM)} (hf : f_X6_readPair v a1 = some x) : Ct l yX6_readPair cX6_readPair 3 (some .int) 8 [.ref (G.2.2 114), .int a1] G (c, (v, o)) (some (.int x.1)) (c, (x.2, o)) := by
  refine ct_of (rv := fun x : (Int32 × VM) => (some (.int x.1))) (fin := fun x : (Int32 × VM) => ((c, (x.2, o)) : VA)) (own := RX6) hG (plainFor_of_name (by decide)) rfl (Nat.le_of_ble_eq_true rfl) (fun X C hr _ => ?_) hf
  exact w_X6_readPair C hr v a1
set_option maxRecDepth 100000 in
set_option maxHeartbeats 4000000 in
theorem wb_X6_read_26 {G : GG} {X : WX} {c : VC} {o : Nat → Int64} (C : Cx G 2 X RX6 cX6_read 9) (hr : (xM X).sig.returnType = (some .int)) (v : VM) (s1 : Int32) (t0 : Int32) : JS G 2 X (QM G X (fun x : (Int32 × VM) => some (.int x.1)) (fun x : (Int32 × VM) => ((c, (x.2, o)) : VA))) (b_X6_read_26 v s1 t0) (c, (v, o)) 26 [(0, .ref (G.2.2 114)), (1, .int s1)] [.int t0, .ref (G.2.2 114)] := by
  unfold b_X6_read_26
  refine p_Mo0 C 26 fl_X6_25 dX6_read_26 ?_
  refine j_V (V' := (c, ((t0, v.2), o))) rfl ?_
  refine j_aload_n C 29 0 rfl dX6_read_29 ?_
  refine g_Mo0 C 30 (Or.inl fl_X6_25) dX6_read_30 ?_
  refine j_if_le C 33 38 dX6_read_33 (by decide) (fun c33 => ?_) (fun c33 => ?_)
  · refine j_iconst (v := 0) C 36 dX6_read_36 rfl ?_
    exact j_iret C 37 hr rfl rfl dX6_read_37
  · refine j_aload_n C 38 0 rfl dX6_read_38 ?_
    refine j_bind (fun x39 h39 => ?_)
    refine j_vMo_v (As := []) (st := []) C k_X6_record 39 (c_X6_record C.2.2.2.2.2.2.1 _ h39) rfl rfl ml_X6_44 ii_X6_record is_X6_record dX6_read_39 (by decide) rfl (Nat.le_of_ble_eq_true rfl) ?_ rfl
    refine j_V (V' := (c, (x39, o))) rfl ?_
    refine j_aload_n C 42 0 rfl dX6_read_42 ?_
    refine j_iload_n C 43 1 rfl dX6_read_43 ?_
    refine j_bind (fun x44 h44 => ?_)
    refine j_vMo_i (As := [.int s1]) (st := []) C k_X6_doRead 44 (c_X6_doRead C.2.2.2.2.2.2.1 _ _ h44) rfl rfl ml_X6_149 ii_X6_doRead is_X6_doRead dX6_read_44 (by decide) rfl (Nat.le_of_ble_eq_true rfl) ?_ rfl
    refine j_V (V' := (c, (x44.2, o))) rfl ?_
    exact j_iret C 47 hr rfl rfl dX6_read_47
set_option maxRecDepth 100000 in
set_option maxHeartbeats 4000000 in
theorem w_X6_read {G : GG} {X : WX} {c : VC} {o : Nat → Int64} (C : Cx G 2 X RX6 cX6_read 9) (hr : (xM X).sig.returnType = (some .int)) (v : VM) (a1 : Int32) : JS G 2 X (QM G X (fun x : (Int32 × VM) => some (.int x.1)) (fun x : (Int32 × VM) => ((c, (x.2, o)) : VA))) (f_X6_read v a1) (c, (v, o)) 0 [(0, .ref (G.2.2 114)), (1, .int a1)] [] := by
  unfold f_X6_read
  refine j_aload_n C 0 0 rfl dX6_read_0 ?_
  refine j_aload_n C 1 0 rfl dX6_read_1 ?_
  refine j_iload_n C 2 1 rfl dX6_read_2 ?_
  refine j_bind (fun x3 h3 => ?_)
  refine j_vMo_i (As := [.int a1]) (st := [.ref (G.2.2 114)]) C k_X6_isBlock 3 (c_X6_isBlock C.2.2.2.2.2.2.1 _ _ h3) rfl rfl ml_X6_128 ii_X6_isBlock is_X6_isBlock dX6_read_3 (by decide) rfl (Nat.le_of_ble_eq_true rfl) ?_ rfl
  refine j_if_ne C 6 13 dX6_read_6 (by decide) (fun c6 => ?_) (fun c6 => ?_)
  · refine j_iconst (v := 1) C 9 dX6_read_9 rfl ?_
    refine j_goto C 10 26 dX6_read_10 (by decide) ?_
    exact wb_X6_read_26 C hr v a1 1
  · refine j_aload_n C 13 0 rfl dX6_read_13 ?_
    refine j_iload_n C 14 1 rfl dX6_read_14 ?_
    refine j_bind (fun x15 h15 => ?_)
    refine j_vMo_i (As := [.int a1]) (st := [.ref (G.2.2 114)]) C k_X6_isLeftFor 15 (c_X6_isLeftFor C.2.2.2.2.2.2.1 _ _ h15) rfl rfl ml_X6_131 ii_X6_isLeftFor is_X6_isLeftFor dX6_read_15 (by decide) rfl (Nat.le_of_ble_eq_true rfl) ?_ rfl
    refine j_if_eq C 18 25 dX6_read_18 (by decide) (fun c18 => ?_) (fun c18 => ?_)
    · refine j_iconst (v := 2) C 25 dX6_read_25 rfl ?_
      exact wb_X6_read_26 C hr v a1 2
    · refine j_iconst (v := 0) C 21 dX6_read_21 rfl ?_
      refine j_goto C 22 26 dX6_read_22 (by decide) ?_
      exact wb_X6_read_26 C hr v a1 0
theorem c_X6_read {G : GG} {l : Launch} (hG : Gok G) {c : VC} {o : Nat → Int64} (v : VM) (a1 : Int32) {x : (Int32 × VM)} (hf : f_X6_read v a1 = some x) : Ct l yX6_read cX6_read 2 (some .int) 9 [.ref (G.2.2 114), .int a1] G (c, (v, o)) (some (.int x.1)) (c, (x.2, o)) := by
  refine ct_of (rv := fun x : (Int32 × VM) => (some (.int x.1))) (fin := fun x : (Int32 × VM) => ((c, (x.2, o)) : VA)) (own := RX6) hG (plainFor_of_name (by decide)) rfl (Nat.le_of_ble_eq_true rfl) (fun X C hr _ => ?_) hf
  exact w_X6_read C hr v a1
set_option maxRecDepth 100000 in
set_option maxHeartbeats 4000000 in
theorem wb_X6_rest_16 {G : GG} {X : WX} {c : VC} {o : Nat → Int64} (C : Cx G 2 X RX6 cX6_rest 1) (hr : (xM X).sig.returnType = (some .int)) (v : VM) (s1 : Int32) (t0 : Int32) : JS G 2 X (QM G X (fun x : (Int32 × VM) => some (.int x.1)) (fun x : (Int32 × VM) => ((c, (x.2, o)) : VA))) (b_X6_rest_16 v s1 t0) (c, (v, o)) 16 [(0, .ref (G.2.2 114)), (1, .int s1)] [.int t0, .ref (G.2.2 114)] := by
  unfold b_X6_rest_16
  refine p_Mo0 C 16 fl_X6_25 dX6_rest_16 ?_
  refine j_V (V' := (c, ((t0, v.2), o))) rfl ?_
  refine j_aload_n C 19 0 rfl dX6_rest_19 ?_
  refine g_Mo0 C 20 (Or.inl fl_X6_25) dX6_rest_20 ?_
  refine j_if_le C 23 28 dX6_rest_23 (by decide) (fun c23 => ?_) (fun c23 => ?_)
  · refine j_iconst (v := 0) C 26 dX6_rest_26 rfl ?_
    exact j_iret C 27 hr rfl rfl dX6_rest_27
  · refine j_aload_n C 28 0 rfl dX6_rest_28 ?_
    refine j_bind (fun x29 h29 => ?_)
    refine j_vMo_v (As := []) (st := []) C k_X6_record 29 (c_X6_record C.2.2.2.2.2.2.1 _ h29) rfl rfl ml_X6_44 ii_X6_record is_X6_record dX6_rest_29 (by decide) rfl (Nat.le_of_ble_eq_true rfl) ?_ rfl
    refine j_V (V' := (c, (x29, o))) rfl ?_
    refine j_aload_n C 32 0 rfl dX6_rest_32 ?_
    refine g_Mo1 C 33 (Or.inl fl_X6_7) dX6_rest_33 ?_
    refine j_bipush (v := 41) C 36 dX6_rest_36 rfl ?_
    refine j_dup2 C 38 dX6_rest_38 rfl rfl ?_
    refine j_bind (fun x39 h39 => ?_)
    refine l_Mo1 C 39 h39 dX6_rest_39 ?_
    refine j_iload_n C 40 1 rfl dX6_rest_40 ?_
    refine j_iadd C 41 dX6_rest_41 ?_
    refine j_bind (fun x42 h42 => ?_)
    refine t_Mo1 C 42 h42 dX6_rest_42 ?_
    refine j_V (V' := (c, ((x29.1, x42, x29.2.2), o))) rfl ?_
    refine j_aload_n C 43 0 rfl dX6_rest_43 ?_
    refine g_Mo1 C 44 (Or.inl fl_X6_7) dX6_rest_44 ?_
    refine j_bipush (v := 41) C 47 dX6_rest_47 rfl ?_
    refine j_bind (fun x49 h49 => ?_)
    refine l_Mo1 C 49 h49 dX6_rest_49 ?_
    exact j_iret C 50 hr rfl rfl dX6_rest_50
set_option maxRecDepth 100000 in
set_option maxHeartbeats 4000000 in
theorem w_X6_rest {G : GG} {X : WX} {c : VC} {o : Nat → Int64} (C : Cx G 2 X RX6 cX6_rest 1) (hr : (xM X).sig.returnType = (some .int)) (v : VM) (a1 : Int32) : JS G 2 X (QM G X (fun x : (Int32 × VM) => some (.int x.1)) (fun x : (Int32 × VM) => ((c, (x.2, o)) : VA))) (f_X6_rest v a1) (c, (v, o)) 0 [(0, .ref (G.2.2 114)), (1, .int a1)] [] := by
  unfold f_X6_rest
  refine j_aload_n C 0 0 rfl dX6_rest_0 ?_
  refine j_iload_n C 1 1 rfl dX6_rest_1 ?_
  refine j_iconst (v := 1) C 2 dX6_rest_2 rfl ?_
  refine j_bipush (v := 99) C 3 dX6_rest_3 rfl ?_
  refine j_bind (fun x5 h5 => ?_)
  refine j_callS_i (As := [.int a1, .int 1, .int 99]) (st := [.ref (G.2.2 114)]) C k_X6_in 5 (c_X6_in C.2.2.2.2.2.2.1 (c := c) _ _ _ h5) rfl ml_X6_29 st_X6_in dX6_rest_5 (by decide) rfl (Nat.le_of_ble_eq_true rfl) ?_ rfl
  refine j_if_eq C 8 15 dX6_rest_8 (by decide) (fun c8 => ?_) (fun c8 => ?_)
  · refine j_iconst (v := 1) C 15 dX6_rest_15 rfl ?_
    exact wb_X6_rest_16 C hr v a1 1
  · refine j_iconst (v := 0) C 11 dX6_rest_11 rfl ?_
    refine j_goto C 12 16 dX6_rest_12 (by decide) ?_
    exact wb_X6_rest_16 C hr v a1 0
theorem c_X6_rest {G : GG} {l : Launch} (hG : Gok G) {c : VC} {o : Nat → Int64} (v : VM) (a1 : Int32) {x : (Int32 × VM)} (hf : f_X6_rest v a1 = some x) : Ct l yX6_rest cX6_rest 2 (some .int) 1 [.ref (G.2.2 114), .int a1] G (c, (v, o)) (some (.int x.1)) (c, (x.2, o)) := by
  refine ct_of (rv := fun x : (Int32 × VM) => (some (.int x.1))) (fin := fun x : (Int32 × VM) => ((c, (x.2, o)) : VA)) (own := RX6) hG (plainFor_of_name (by decide)) rfl (Nat.le_of_ble_eq_true rfl) (fun X C hr _ => ?_) hf
  exact w_X6_rest C hr v a1
set_option maxRecDepth 100000 in
set_option maxHeartbeats 4000000 in
theorem wb_X6_set_30 {G : GG} {X : WX} {c : VC} {o : Nat → Int64} (C : Cx G 4 X RX6 cX6_set 1) (hr : (xM X).sig.returnType = (some .int)) (v : VM) (s1 : Int32) (s2 : Int32) (t0 : Int32) : JS G 4 X (QM G X (fun x : (Int32 × VM) => some (.int x.1)) (fun x : (Int32 × VM) => ((c, (x.2, o)) : VA))) (b_X6_set_30 v s1 s2 t0) (c, (v, o)) 30 [(0, .ref (G.2.2 114)), (1, .int s1), (2, .int s2)] [.int t0, .ref (G.2.2 114)] := by
  unfold b_X6_set_30
  refine p_Mo0 C 30 fl_X6_25 dX6_set_30 ?_
  refine j_V (V' := (c, ((t0, v.2), o))) rfl ?_
  refine j_aload_n C 33 0 rfl dX6_set_33 ?_
  refine g_Mo0 C 34 (Or.inl fl_X6_25) dX6_set_34 ?_
  refine j_if_le C 37 42 dX6_set_37 (by decide) (fun c37 => ?_) (fun c37 => ?_)
  · refine j_iconst (v := 0) C 40 dX6_set_40 rfl ?_
    exact j_iret C 41 hr rfl rfl dX6_set_41
  · refine j_aload_n C 42 0 rfl dX6_set_42 ?_
    refine j_bind (fun x43 h43 => ?_)
    refine j_vMo_v (As := []) (st := []) C k_X6_record 43 (c_X6_record C.2.2.2.2.2.2.1 _ h43) rfl rfl ml_X6_44 ii_X6_record is_X6_record dX6_set_43 (by decide) rfl (Nat.le_of_ble_eq_true rfl) ?_ rfl
    refine j_V (V' := (c, (x43, o))) rfl ?_
    refine j_aload_n C 46 0 rfl dX6_set_46 ?_
    refine g_Mo1 C 47 (Or.inl fl_X6_7) dX6_set_47 ?_
    refine j_bipush (v := 46) C 50 dX6_set_50 rfl ?_
    refine j_iload_n C 52 1 rfl dX6_set_52 ?_
    refine j_iadd C 53 dX6_set_53 ?_
    refine j_bind (fun x54 h54 => ?_)
    refine l_Mo1 C 54 h54 dX6_set_54 ?_
    refine j_istore_n (L1 := [(3, .int x54), (0, .ref (G.2.2 114)), (1, .int s1), (2, .int s2)]) C 55 rfl dX6_set_55 (by decide) rfl ?_
    refine j_aload_n C 56 1 rfl dX6_set_56 ?_
    refine g_Mo1 C 57 (Or.inl fl_X6_7) dX6_set_57 ?_
    refine j_bipush (v := 46) C 60 dX6_set_60 rfl ?_
    refine j_iload_n C 62 2 rfl dX6_set_62 ?_
    refine j_iadd C 63 dX6_set_63 ?_
    refine j_iload_n C 64 3 rfl dX6_set_64 ?_
    refine j_bind (fun x65 h65 => ?_)
    refine t_Mo1 C 65 h65 dX6_set_65 ?_
    refine j_V (V' := (c, ((x43.1, x65, x43.2.2), o))) rfl ?_
    refine j_iload_n C 66 0 rfl dX6_set_66 ?_
    exact j_iret C 67 hr rfl rfl dX6_set_67
set_option maxRecDepth 100000 in
set_option maxHeartbeats 4000000 in
theorem w_X6_set {G : GG} {X : WX} {c : VC} {o : Nat → Int64} (C : Cx G 4 X RX6 cX6_set 1) (hr : (xM X).sig.returnType = (some .int)) (v : VM) (a1 : Int32) (a2 : Int32) : JS G 4 X (QM G X (fun x : (Int32 × VM) => some (.int x.1)) (fun x : (Int32 × VM) => ((c, (x.2, o)) : VA))) (f_X6_set v a1 a2) (c, (v, o)) 0 [(0, .ref (G.2.2 114)), (1, .int a1), (2, .int a2)] [] := by
  unfold f_X6_set
  refine j_aload_n C 0 0 rfl dX6_set_0 ?_
  refine j_iload_n C 1 1 rfl dX6_set_1 ?_
  refine j_iconst (v := 0) C 2 dX6_set_2 rfl ?_
  refine j_iconst (v := 1) C 3 dX6_set_3 rfl ?_
  refine j_bind (fun x4 h4 => ?_)
  refine j_callS_i (As := [.int a1, .int 0, .int 1]) (st := [.ref (G.2.2 114)]) C k_X6_in 4 (c_X6_in C.2.2.2.2.2.2.1 (c := c) _ _ _ h4) rfl ml_X6_29 st_X6_in dX6_set_4 (by decide) rfl (Nat.le_of_ble_eq_true rfl) ?_ rfl
  refine j_if_ne C 7 14 dX6_set_7 (by decide) (fun c7 => ?_) (fun c7 => ?_)
  · refine j_iconst (v := 1) C 10 dX6_set_10 rfl ?_
    refine j_goto C 11 30 dX6_set_11 (by decide) ?_
    exact wb_X6_set_30 C hr v a1 a2 1
  · refine j_iload_n C 14 2 rfl dX6_set_14 ?_
    refine j_iconst (v := 0) C 15 dX6_set_15 rfl ?_
    refine j_iconst (v := 2) C 16 dX6_set_16 rfl ?_
    refine j_iload_n C 17 1 rfl dX6_set_17 ?_
    refine j_isub C 18 dX6_set_18 ?_
    refine j_bind (fun x19 h19 => ?_)
    refine j_callS_i (As := [.int a2, .int 0, .int (2 - a1)]) (st := [.ref (G.2.2 114)]) C k_X6_in 19 (c_X6_in C.2.2.2.2.2.2.1 (c := c) _ _ _ h19) rfl ml_X6_29 st_X6_in dX6_set_19 (by decide) rfl (Nat.le_of_ble_eq_true rfl) ?_ rfl
    refine j_if_eq C 22 29 dX6_set_22 (by decide) (fun c22 => ?_) (fun c22 => ?_)
    · refine j_iconst (v := 2) C 29 dX6_set_29 rfl ?_
      exact wb_X6_set_30 C hr v a1 a2 2
    · refine j_iconst (v := 0) C 25 dX6_set_25 rfl ?_
      refine j_goto C 26 30 dX6_set_26 (by decide) ?_
      exact wb_X6_set_30 C hr v a1 a2 0
theorem c_X6_set {G : GG} {l : Launch} (hG : Gok G) {c : VC} {o : Nat → Int64} (v : VM) (a1 : Int32) (a2 : Int32) {x : (Int32 × VM)} (hf : f_X6_set v a1 a2 = some x) : Ct l yX6_set cX6_set 4 (some .int) 1 [.ref (G.2.2 114), .int a1, .int a2] G (c, (v, o)) (some (.int x.1)) (c, (x.2, o)) := by
  refine ct_of (rv := fun x : (Int32 × VM) => (some (.int x.1))) (fin := fun x : (Int32 × VM) => ((c, (x.2, o)) : VA)) (own := RX6) hG (plainFor_of_name (by decide)) rfl (Nat.le_of_ble_eq_true rfl) (fun X C hr _ => ?_) hf
  exact w_X6_set C hr v a1 a2
set_option maxRecDepth 100000 in
set_option maxHeartbeats 4000000 in
theorem wb_X6_append_30 {G : GG} {X : WX} {c : VC} {o : Nat → Int64} (C : Cx G 2 X RX6 cX6_append 1) (hr : (xM X).sig.returnType = (some .int)) (v : VM) (s1 : Int32) (t0 : Int32) : JS G 2 X (QM G X (fun x : (Int32 × VM) => some (.int x.1)) (fun x : (Int32 × VM) => ((c, (x.2, o)) : VA))) (b_X6_append_30 v s1 t0) (c, (v, o)) 30 [(0, .ref (G.2.2 114)), (1, .int s1)] [.int t0, .ref (G.2.2 114)] := by
  unfold b_X6_append_30
  refine p_Mo0 C 30 fl_X6_25 dX6_append_30 ?_
  refine j_V (V' := (c, ((t0, v.2), o))) rfl ?_
  refine j_aload_n C 33 0 rfl dX6_append_33 ?_
  refine g_Mo0 C 34 (Or.inl fl_X6_25) dX6_append_34 ?_
  refine j_if_le C 37 42 dX6_append_37 (by decide) (fun c37 => ?_) (fun c37 => ?_)
  · refine j_iconst (v := 0) C 40 dX6_append_40 rfl ?_
    exact j_iret C 41 hr rfl rfl dX6_append_41
  · refine j_aload_n C 42 0 rfl dX6_append_42 ?_
    refine g_Mo7 C 43 (Or.inl fl_X6_22) dX6_append_43 ?_
    refine j_aload_n C 46 0 rfl dX6_append_46 ?_
    refine g_Mo8 C 47 (Or.inl fl_X6_152) dX6_append_47 ?_
    refine j_iload_n C 50 1 rfl dX6_append_50 ?_
    refine j_bind (fun x51 h51 => ?_)
    refine t_Mo7 C 51 h51 dX6_append_51 ?_
    refine j_V (V' := (c, ((t0, v.2.1, v.2.2.1, v.2.2.2.1, v.2.2.2.2.1, v.2.2.2.2.2.1, v.2.2.2.2.2.2.1, x51, v.2.2.2.2.2.2.2.2), o))) rfl ?_
    refine j_aload_n C 52 0 rfl dX6_append_52 ?_
    refine j_dup C 53 dX6_append_53 rfl ?_
    refine g_Mo8 C 54 (Or.inl fl_X6_152) dX6_append_54 ?_
    refine j_iconst (v := 1) C 57 dX6_append_57 rfl ?_
    refine j_iadd C 58 dX6_append_58 ?_
    refine p_Mo8 C 59 fl_X6_152 dX6_append_59 ?_
    refine j_V (V' := (c, ((t0, v.2.1, v.2.2.1, v.2.2.2.1, v.2.2.2.2.1, v.2.2.2.2.2.1, v.2.2.2.2.2.2.1, x51, (v.2.2.2.2.2.2.2.2.1 + 1), v.2.2.2.2.2.2.2.2.2), o))) rfl ?_
    refine j_aload_n C 62 0 rfl dX6_append_62 ?_
    refine g_Mo8 C 63 (Or.inl fl_X6_152) dX6_append_63 ?_
    exact j_iret C 66 hr rfl rfl dX6_append_66
set_option maxRecDepth 100000 in
set_option maxHeartbeats 4000000 in
theorem w_X6_append {G : GG} {X : WX} {c : VC} {o : Nat → Int64} (C : Cx G 2 X RX6 cX6_append 1) (hr : (xM X).sig.returnType = (some .int)) (v : VM) (a1 : Int32) : JS G 2 X (QM G X (fun x : (Int32 × VM) => some (.int x.1)) (fun x : (Int32 × VM) => ((c, (x.2, o)) : VA))) (f_X6_append v a1) (c, (v, o)) 0 [(0, .ref (G.2.2 114)), (1, .int a1)] [] := by
  unfold f_X6_append
  refine j_aload_n C 0 0 rfl dX6_append_0 ?_
  refine j_iload_n C 1 1 rfl dX6_append_1 ?_
  refine j_bipush (v := 33) C 2 dX6_append_2 rfl ?_
  refine j_bipush (v := 126) C 4 dX6_append_4 rfl ?_
  refine j_bind (fun x6 h6 => ?_)
  refine j_callS_i (As := [.int a1, .int 33, .int 126]) (st := [.ref (G.2.2 114)]) C k_X6_in 6 (c_X6_in C.2.2.2.2.2.2.1 (c := c) _ _ _ h6) rfl ml_X6_29 st_X6_in dX6_append_6 (by decide) rfl (Nat.le_of_ble_eq_true rfl) ?_ rfl
  refine j_if_ne C 9 16 dX6_append_9 (by decide) (fun c9 => ?_) (fun c9 => ?_)
  · refine j_iconst (v := 1) C 12 dX6_append_12 rfl ?_
    refine j_goto C 13 30 dX6_append_13 (by decide) ?_
    exact wb_X6_append_30 C hr v a1 1
  · refine j_aload_n C 16 0 rfl dX6_append_16 ?_
    refine g_Mo8 C 17 (Or.inl fl_X6_152) dX6_append_17 ?_
    refine j_bipush (v := 60) C 20 dX6_append_20 rfl ?_
    refine j_icmp_ne C 22 29 dX6_append_22 (by decide) (fun c22 => ?_) (fun c22 => ?_)
    · refine j_iconst (v := 2) C 25 dX6_append_25 rfl ?_
      refine j_goto C 26 30 dX6_append_26 (by decide) ?_
      exact wb_X6_append_30 C hr v a1 2
    · refine j_iconst (v := 0) C 29 dX6_append_29 rfl ?_
      exact wb_X6_append_30 C hr v a1 0
theorem c_X6_append {G : GG} {l : Launch} (hG : Gok G) {c : VC} {o : Nat → Int64} (v : VM) (a1 : Int32) {x : (Int32 × VM)} (hf : f_X6_append v a1 = some x) : Ct l yX6_append cX6_append 2 (some .int) 1 [.ref (G.2.2 114), .int a1] G (c, (v, o)) (some (.int x.1)) (c, (x.2, o)) := by
  refine ct_of (rv := fun x : (Int32 × VM) => (some (.int x.1))) (fin := fun x : (Int32 × VM) => ((c, (x.2, o)) : VA)) (own := RX6) hG (plainFor_of_name (by decide)) rfl (Nat.le_of_ble_eq_true rfl) (fun X C hr _ => ?_) hf
  exact w_X6_append C hr v a1
set_option maxRecDepth 100000 in
set_option maxHeartbeats 4000000 in
theorem w_X6_clearBuffer {G : GG} {X : WX} {c : VC} {o : Nat → Int64} (C : Cx G 2 X RX6 cX6_clearBuffer 0) (hr : (xM X).sig.returnType = (some .int)) (v : VM) : JS G 2 X (QM G X (fun x : (Int32 × VM) => some (.int x.1)) (fun x : (Int32 × VM) => ((c, (x.2, o)) : VA))) (f_X6_clearBuffer v) (c, (v, o)) 0 [(0, .ref (G.2.2 114))] [] := by
  unfold f_X6_clearBuffer
  refine j_aload_n C 0 0 rfl dX6_clearBuffer_0 ?_
  refine j_iconst (v := 0) C 1 dX6_clearBuffer_1 rfl ?_
  refine p_Mo0 C 2 fl_X6_25 dX6_clearBuffer_2 ?_
  refine j_V (V' := (c, ((0, v.2), o))) rfl ?_
  refine j_aload_n C 5 0 rfl dX6_clearBuffer_5 ?_
  refine g_Mo8 C 6 (Or.inl fl_X6_152) dX6_clearBuffer_6 ?_
  refine j_istore_n (L1 := [(1, .int v.2.2.2.2.2.2.2.2.1), (0, .ref (G.2.2 114))]) C 9 rfl dX6_clearBuffer_9 (by decide) rfl ?_
  refine j_aload_n C 10 1 rfl dX6_clearBuffer_10 ?_
  refine j_iconst (v := 0) C 11 dX6_clearBuffer_11 rfl ?_
  refine p_Mo8 C 12 fl_X6_152 dX6_clearBuffer_12 ?_
  refine j_V (V' := (c, ((0, v.2.1, v.2.2.1, v.2.2.2.1, v.2.2.2.2.1, v.2.2.2.2.2.1, v.2.2.2.2.2.2.1, v.2.2.2.2.2.2.2.1, 0, v.2.2.2.2.2.2.2.2.2), o))) rfl ?_
  refine j_iload_n C 15 0 rfl dX6_clearBuffer_15 ?_
  exact j_iret C 16 hr rfl rfl dX6_clearBuffer_16
theorem c_X6_clearBuffer {G : GG} {l : Launch} (hG : Gok G) {c : VC} {o : Nat → Int64} (v : VM) {x : (Int32 × VM)} (hf : f_X6_clearBuffer v = some x) : Ct l yX6_clearBuffer cX6_clearBuffer 2 (some .int) 0 [.ref (G.2.2 114)] G (c, (v, o)) (some (.int x.1)) (c, (x.2, o)) := by
  refine ct_of (rv := fun x : (Int32 × VM) => (some (.int x.1))) (fin := fun x : (Int32 × VM) => ((c, (x.2, o)) : VA)) (own := RX6) hG (plainFor_of_name (by decide)) rfl (Nat.le_of_ble_eq_true rfl) (fun X C hr _ => ?_) hf
  exact w_X6_clearBuffer C hr v
set_option maxRecDepth 100000 in
set_option maxHeartbeats 4000000 in
theorem w_X6_at {G : GG} {X : WX} {c : VC} {o : Nat → Int64} (C : Cx G 2 X RX6 cX6_at 0) (hr : (xM X).sig.returnType = (some .int)) (v : VM) (a1 : Int32) : JS G 2 X (QM G X (fun x : Int32 => some (.int x)) (fun x : Int32 => ((c, (v, o)) : VA))) (f_X6_at v a1) (c, (v, o)) 0 [(0, .ref (G.2.2 114)), (1, .int a1)] [] := by
  unfold f_X6_at
  refine j_iload_n C 0 1 rfl dX6_at_0 ?_
  refine j_aload_n C 1 0 rfl dX6_at_1 ?_
  refine g_Mo8 C 2 (Or.inl fl_X6_152) dX6_at_2 ?_
  refine j_icmp_ge C 5 17 dX6_at_5 (by decide) (fun c5 => ?_) (fun c5 => ?_)
  · refine j_aload_n C 8 0 rfl dX6_at_8 ?_
    refine g_Mo7 C 9 (Or.inl fl_X6_22) dX6_at_9 ?_
    refine j_iload_n C 12 1 rfl dX6_at_12 ?_
    refine j_bind (fun x13 h13 => ?_)
    refine l_Mo7 C 13 h13 dX6_at_13 ?_
    refine j_goto C 14 18 dX6_at_14 (by decide) ?_
    exact j_iret C 18 hr rfl rfl dX6_at_18
  · refine j_iconst (v := 0) C 17 dX6_at_17 rfl ?_
    exact j_iret C 18 hr rfl rfl dX6_at_18
theorem c_X6_at {G : GG} {l : Launch} (hG : Gok G) {c : VC} {o : Nat → Int64} (v : VM) (a1 : Int32) {x : Int32} (hf : f_X6_at v a1 = some x) : Ct l yX6_at cX6_at 2 (some .int) 0 [.ref (G.2.2 114), .int a1] G (c, (v, o)) (some (.int x)) (c, (v, o)) := by
  refine ct_of (rv := fun x : Int32 => (some (.int x))) (fin := fun x : Int32 => ((c, (v, o)) : VA)) (own := RX6) hG (plainFor_of_name (by decide)) rfl (Nat.le_of_ble_eq_true rfl) (fun X C hr _ => ?_) hf
  exact w_X6_at C hr v a1
set_option maxRecDepth 100000 in
set_option maxHeartbeats 4000000 in
theorem wb_X6_takeBlock_82 {G : GG} {X : WX} {c : VC} {o : Nat → Int64} (C : Cx G 5 X RX6 cX6_takeBlock 1) (hr : (xM X).sig.returnType = (some .int)) (v : VM) (s1 : Int32) (s4 : Int32) (t0 : Int32) : JS G 5 X (QM G X (fun x : (Int32 × VM) => some (.int x.1)) (fun x : (Int32 × VM) => ((c, (x.2, o)) : VA))) (b_X6_takeBlock_82 v s1 s4 t0) (c, (v, o)) 82 [(1, .int s1), (4, .int s4)] [.int t0, .ref (G.2.2 114)] := by
  unfold b_X6_takeBlock_82
  refine p_Mo10 C 82 fl_X6_158 dX6_takeBlock_82 ?_
  refine j_V (V' := (c, ((v.1, v.2.1, v.2.2.1, v.2.2.2.1, v.2.2.2.2.1, v.2.2.2.2.2.1, v.2.2.2.2.2.2.1, v.2.2.2.2.2.2.2.1, v.2.2.2.2.2.2.2.2.1, v.2.2.2.2.2.2.2.2.2.1, t0), o))) rfl ?_
  refine j_iload C 85 1 rfl dX6_takeBlock_85 ?_
  refine j_if_eq C 87 96 dX6_takeBlock_87 (by decide) (fun c87 => ?_) (fun c87 => ?_)
  · refine j_iload_n C 96 0 rfl dX6_takeBlock_96 ?_
    refine j_iconst (v := 1) C 97 dX6_takeBlock_97 rfl ?_
    refine j_iadd C 98 dX6_takeBlock_98 ?_
    exact j_iret C 99 hr rfl rfl dX6_takeBlock_99
  · refine j_iload_n C 90 0 rfl dX6_takeBlock_90 ?_
    refine j_iconst (v := 2) C 91 dX6_takeBlock_91 rfl ?_
    refine j_iadd C 92 dX6_takeBlock_92 ?_
    refine j_goto C 93 99 dX6_takeBlock_93 (by decide) ?_
    exact j_iret C 99 hr rfl rfl dX6_takeBlock_99
set_option maxRecDepth 100000 in
set_option maxHeartbeats 4000000 in
theorem wb_X6_takeBlock_64 {G : GG} {X : WX} {c : VC} {o : Nat → Int64} (C : Cx G 5 X RX6 cX6_takeBlock 1) (hr : (xM X).sig.returnType = (some .int)) (v : VM) (s1 : Int32) (s2 : Int32) (s3 : Int32) (t0 : Int32) : JS G 5 X (QM G X (fun x : (Int32 × VM) => some (.int x.1)) (fun x : (Int32 × VM) => ((c, (x.2, o)) : VA))) (b_X6_takeBlock_64 v s1 s2 s3 t0) (c, (v, o)) 64 [(0, .ref (G.2.2 114)), (1, .int s1), (2, .int s2), (3, .int s3)] [.int t0] := by
  unfold b_X6_takeBlock_64
  refine j_istore (L1 := [(4, .int t0), (0, .ref (G.2.2 114)), (1, .int s1), (2, .int s2), (3, .int s3)]) C 64 dX6_takeBlock_64 (by decide) rfl ?_
  refine j_aload_n C 66 1 rfl dX6_takeBlock_66 ?_
  refine j_iload C 67 0 rfl dX6_takeBlock_67 ?_
  refine j_if_eq C 69 81 dX6_takeBlock_69 (by decide) (fun c69 => ?_) (fun c69 => ?_)
  · refine j_iload_n C 81 3 rfl dX6_takeBlock_81 ?_
    refine j_L (L' := [(1, .int s1), (4, .int t0)]) [2, 0] rfl ?_
    exact wb_X6_takeBlock_82 C hr v s1 t0 s2
  · refine j_bipush (v := 10) C 72 dX6_takeBlock_72 rfl ?_
    refine j_iload_n C 74 3 rfl dX6_takeBlock_74 ?_
    refine j_imul C 75 dX6_takeBlock_75 ?_
    refine j_iload_n C 76 4 rfl dX6_takeBlock_76 ?_
    refine j_iadd C 77 dX6_takeBlock_77 ?_
    refine j_goto C 78 82 dX6_takeBlock_78 (by decide) ?_
    refine j_L (L' := [(1, .int s1), (4, .int t0)]) [2, 0] rfl ?_
    exact wb_X6_takeBlock_82 C hr v s1 t0 ((10 * s2) + s3)
set_option maxRecDepth 100000 in
set_option maxHeartbeats 4000000 in
theorem w_X6_takeBlock {G : GG} {X : WX} {c : VC} {o : Nat → Int64} (C : Cx G 5 X RX6 cX6_takeBlock 1) (hr : (xM X).sig.returnType = (some .int)) (v : VM) (a1 : Int32) : JS G 5 X (QM G X (fun x : (Int32 × VM) => some (.int x.1)) (fun x : (Int32 × VM) => ((c, (x.2, o)) : VA))) (f_X6_takeBlock v a1) (c, (v, o)) 0 [(0, .ref (G.2.2 114)), (1, .int a1)] [] := by
  unfold f_X6_takeBlock
  refine j_aload_n C 0 0 rfl dX6_takeBlock_0 ?_
  refine j_iload_n C 1 1 rfl dX6_takeBlock_1 ?_
  refine j_bind (fun x2 h2 => ?_)
  refine j_vMo_i (As := [.int a1]) (st := []) C k_X6_at 2 (c_X6_at C.2.2.2.2.2.2.1 _ _ h2) rfl rfl ml_X6_155 ii_X6_at is_X6_at dX6_takeBlock_2 (by decide) rfl (Nat.le_of_ble_eq_true rfl) ?_ rfl
  refine j_bipush (v := 48) C 5 dX6_takeBlock_5 rfl ?_
  refine j_isub C 7 dX6_takeBlock_7 ?_
  refine j_istore_n (L1 := [(2, .int (x2 - 48)), (0, .ref (G.2.2 114)), (1, .int a1)]) C 8 rfl dX6_takeBlock_8 (by decide) rfl ?_
  refine j_iload_n C 9 0 rfl dX6_takeBlock_9 ?_
  refine j_iconst (v := 0) C 10 dX6_takeBlock_10 rfl ?_
  refine j_bipush (v := 9) C 11 dX6_takeBlock_11 rfl ?_
  refine j_bind (fun x13 h13 => ?_)
  refine j_callS_i (As := [.int (x2 - 48), .int 0, .int 9]) (st := []) C k_X6_in 13 (c_X6_in C.2.2.2.2.2.2.1 (c := c) _ _ _ h13) rfl ml_X6_29 st_X6_in dX6_takeBlock_13 (by decide) rfl (Nat.le_of_ble_eq_true rfl) ?_ rfl
  refine j_if_ne C 16 23 dX6_takeBlock_16 (by decide) (fun c16 => ?_) (fun c16 => ?_)
  · refine j_iconst (v := (-1)) C 19 dX6_takeBlock_19 rfl ?_
    refine j_iload_n C 20 2 rfl dX6_takeBlock_20 ?_
    refine j_isub C 21 dX6_takeBlock_21 ?_
    exact j_iret C 22 hr rfl rfl dX6_takeBlock_22
  · refine j_aload_n C 23 1 rfl dX6_takeBlock_23 ?_
    refine j_iload_n C 24 2 rfl dX6_takeBlock_24 ?_
    refine j_iconst (v := 1) C 25 dX6_takeBlock_25 rfl ?_
    refine j_iadd C 26 dX6_takeBlock_26 ?_
    refine j_bind (fun x27 h27 => ?_)
    refine j_vMo_i (As := [.int (a1 + 1)]) (st := []) C k_X6_at 27 (c_X6_at C.2.2.2.2.2.2.1 _ _ h27) rfl rfl ml_X6_155 ii_X6_at is_X6_at dX6_takeBlock_27 (by decide) rfl (Nat.le_of_ble_eq_true rfl) ?_ rfl
    refine j_bipush (v := 48) C 30 dX6_takeBlock_30 rfl ?_
    refine j_isub C 32 dX6_takeBlock_32 ?_
    refine j_istore_n (L1 := [(3, .int (x27 - 48)), (2, .int (x2 - 48)), (0, .ref (G.2.2 114)), (1, .int a1)]) C 33 rfl dX6_takeBlock_33 (by decide) rfl ?_
    refine j_iload_n C 34 1 rfl dX6_takeBlock_34 ?_
    refine j_if_le C 35 63 dX6_takeBlock_35 (by decide) (fun c35 => ?_) (fun c35 => ?_)
    · refine j_iload_n C 38 0 rfl dX6_takeBlock_38 ?_
      refine j_iconst (v := 0) C 39 dX6_takeBlock_39 rfl ?_
      refine j_bipush (v := 9) C 40 dX6_takeBlock_40 rfl ?_
      refine j_bind (fun x42 h42 => ?_)
      refine j_callS_i (As := [.int (x27 - 48), .int 0, .int 9]) (st := []) C k_X6_in 42 (c_X6_in C.2.2.2.2.2.2.1 (c := c) _ _ _ h42) rfl ml_X6_29 st_X6_in dX6_takeBlock_42 (by decide) rfl (Nat.le_of_ble_eq_true rfl) ?_ rfl
      refine j_if_eq C 45 63 dX6_takeBlock_45 (by decide) (fun c45 => ?_) (fun c45 => ?_)
      · refine j_iconst (v := 0) C 63 dX6_takeBlock_63 rfl ?_
        refine j_L (L' := [(0, .ref (G.2.2 114)), (1, .int a1), (2, .int (x2 - 48)), (3, .int (x27 - 48))]) [2, 3, 1, 0] rfl ?_
        exact wb_X6_takeBlock_64 C hr v a1 (x2 - 48) (x27 - 48) 0
      · refine j_bipush (v := 10) C 48 dX6_takeBlock_48 rfl ?_
        refine j_iload_n C 50 1 rfl dX6_takeBlock_50 ?_
        refine j_imul C 51 dX6_takeBlock_51 ?_
        refine j_iload_n C 52 0 rfl dX6_takeBlock_52 ?_
        refine j_iadd C 53 dX6_takeBlock_53 ?_
        refine j_bipush (v := 47) C 54 dX6_takeBlock_54 rfl ?_
        refine j_icmp_gt C 56 63 dX6_takeBlock_56 (by decide) (fun c56 => ?_) (fun c56 => ?_)
        · refine j_iconst (v := 0) C 63 dX6_takeBlock_63 rfl ?_
          refine j_L (L' := [(0, .ref (G.2.2 114)), (1, .int a1), (2, .int (x2 - 48)), (3, .int (x27 - 48))]) [2, 3, 1, 0] rfl ?_
          exact wb_X6_takeBlock_64 C hr v a1 (x2 - 48) (x27 - 48) 0
        · refine j_iconst (v := 1) C 59 dX6_takeBlock_59 rfl ?_
          refine j_goto C 60 64 dX6_takeBlock_60 (by decide) ?_
          refine j_L (L' := [(0, .ref (G.2.2 114)), (1, .int a1), (2, .int (x2 - 48)), (3, .int (x27 - 48))]) [2, 3, 1, 0] rfl ?_
          exact wb_X6_takeBlock_64 C hr v a1 (x2 - 48) (x27 - 48) 1
    · refine j_iconst (v := 0) C 63 dX6_takeBlock_63 rfl ?_
      refine j_L (L' := [(0, .ref (G.2.2 114)), (1, .int a1), (2, .int (x2 - 48)), (3, .int (x27 - 48))]) [2, 3, 1, 0] rfl ?_
      exact wb_X6_takeBlock_64 C hr v a1 (x2 - 48) (x27 - 48) 0
theorem c_X6_takeBlock {G : GG} {l : Launch} (hG : Gok G) {c : VC} {o : Nat → Int64} (v : VM) (a1 : Int32) {x : (Int32 × VM)} (hf : f_X6_takeBlock v a1 = some x) : Ct l yX6_takeBlock cX6_takeBlock 5 (some .int) 1 [.ref (G.2.2 114), .int a1] G (c, (v, o)) (some (.int x.1)) (c, (x.2, o)) := by
  refine ct_of (rv := fun x : (Int32 × VM) => (some (.int x.1))) (fin := fun x : (Int32 × VM) => ((c, (x.2, o)) : VA)) (own := RX6) hG (plainFor_of_name (by decide)) rfl (Nat.le_of_ble_eq_true rfl) (fun X C hr _ => ?_) hf
  exact w_X6_takeBlock C hr v a1
set_option maxRecDepth 100000 in
set_option maxHeartbeats 4000000 in
theorem w_X6_takePart {G : GG} {X : WX} {c : VC} {o : Nat → Int64} (C : Cx G 3 X RX6 cX6_takePart 2) (hr : (xM X).sig.returnType = (some .int)) (v : VM) (a1 : Int32) : JS G 3 X (QM G X (fun x : (Int32 × VM) => some (.int x.1)) (fun x : (Int32 × VM) => ((c, (x.2, o)) : VA))) (f_X6_takePart v a1) (c, (v, o)) 0 [(0, .ref (G.2.2 114)), (1, .int a1)] [] := by
  unfold f_X6_takePart
  refine j_aload_n C 0 0 rfl dX6_takePart_0 ?_
  refine j_iload_n C 1 1 rfl dX6_takePart_1 ?_
  refine j_bind (fun x2 h2 => ?_)
  refine j_vMo_i (As := [.int a1]) (st := []) C k_X6_takeBlock 2 (c_X6_takeBlock C.2.2.2.2.2.2.1 _ _ h2) rfl rfl ml_X6_161 ii_X6_takeBlock is_X6_takeBlock dX6_takePart_2 (by decide) rfl (Nat.le_of_ble_eq_true rfl) ?_ rfl
  refine j_V (V' := (c, (x2.2, o))) rfl ?_
  refine j_istore_n (L1 := [(2, .int x2.1), (0, .ref (G.2.2 114)), (1, .int a1)]) C 5 rfl dX6_takePart_5 (by decide) rfl ?_
  refine j_aload_n C 6 1 rfl dX6_takePart_6 ?_
  refine j_aload_n C 7 1 rfl dX6_takePart_7 ?_
  refine g_Mo10 C 8 (Or.inl fl_X6_158) dX6_takePart_8 ?_
  refine p_Mo9 C 11 fl_X6_164 dX6_takePart_11 ?_
  refine j_V (V' := (c, ((x2.2.1, x2.2.2.1, x2.2.2.2.1, x2.2.2.2.2.1, x2.2.2.2.2.2.1, x2.2.2.2.2.2.2.1, x2.2.2.2.2.2.2.2.1, x2.2.2.2.2.2.2.2.2.1, x2.2.2.2.2.2.2.2.2.2.1, x2.2.2.2.2.2.2.2.2.2.2.2, x2.2.2.2.2.2.2.2.2.2.2.2), o))) rfl ?_
  refine j_iload_n C 14 0 rfl dX6_takePart_14 ?_
  refine j_if_lt C 15 38 dX6_takePart_15 (by decide) (fun c15 => ?_) (fun c15 => ?_)
  · refine j_iload_n C 38 0 rfl dX6_takePart_38 ?_
    exact j_iret C 39 hr rfl rfl dX6_takePart_39
  · refine j_aload_n C 18 1 rfl dX6_takePart_18 ?_
    refine j_iload_n C 19 0 rfl dX6_takePart_19 ?_
    refine j_bind (fun x20 h20 => ?_)
    refine j_vMo_i (As := [.int x2.1]) (st := []) C k_X6_at 20 (c_X6_at C.2.2.2.2.2.2.1 _ _ h20) rfl rfl ml_X6_155 ii_X6_at is_X6_at dX6_takePart_20 (by decide) rfl (Nat.le_of_ble_eq_true rfl) ?_ rfl
    refine j_bipush (v := 45) C 23 dX6_takePart_23 rfl ?_
    refine j_icmp_ne C 25 38 dX6_takePart_25 (by decide) (fun c25 => ?_) (fun c25 => ?_)
    · refine j_aload_n C 28 1 rfl dX6_takePart_28 ?_
      refine j_iload_n C 29 0 rfl dX6_takePart_29 ?_
      refine j_iconst (v := 1) C 30 dX6_takePart_30 rfl ?_
      refine j_iadd C 31 dX6_takePart_31 ?_
      refine j_bind (fun x32 h32 => ?_)
      refine j_vMo_i (As := [.int (x2.1 + 1)]) (st := []) C k_X6_takeBlock 32 (c_X6_takeBlock C.2.2.2.2.2.2.1 _ _ h32) rfl rfl ml_X6_161 ii_X6_takeBlock is_X6_takeBlock dX6_takePart_32 (by decide) rfl (Nat.le_of_ble_eq_true rfl) ?_ rfl
      refine j_V (V' := (c, (x32.2, o))) rfl ?_
      refine j_goto C 35 39 dX6_takePart_35 (by decide) ?_
      exact j_iret C 39 hr rfl rfl dX6_takePart_39
    · refine j_iload_n C 38 0 rfl dX6_takePart_38 ?_
      exact j_iret C 39 hr rfl rfl dX6_takePart_39
theorem c_X6_takePart {G : GG} {l : Launch} (hG : Gok G) {c : VC} {o : Nat → Int64} (v : VM) (a1 : Int32) {x : (Int32 × VM)} (hf : f_X6_takePart v a1 = some x) : Ct l yX6_takePart cX6_takePart 3 (some .int) 2 [.ref (G.2.2 114), .int a1] G (c, (v, o)) (some (.int x.1)) (c, (x.2, o)) := by
  refine ct_of (rv := fun x : (Int32 × VM) => (some (.int x.1))) (fin := fun x : (Int32 × VM) => ((c, (x.2, o)) : VA)) (own := RX6) hG (plainFor_of_name (by decide)) rfl (Nat.le_of_ble_eq_true rfl) (fun X C hr _ => ?_) hf
  exact w_X6_takePart C hr v a1
set_option maxRecDepth 100000 in
set_option maxHeartbeats 4000000 in
theorem wl_X6_findError_2 {G : GG} {X : WX} {c : VC} {o : Nat → Int64} (C : Cx G 2 X RX6 cX6_findError 3) (hr : (xM X).sig.returnType = (some .int)) : ∀ (n : Nat) (v : VM) (s1 : Int32), JS G 2 X (QM G X (fun x : (Int32 × VM) => some (.int x.1)) (fun x : (Int32 × VM) => ((c, (x.2, o)) : VA))) (l_X6_findError_2 n v s1) (c, (v, o)) 2 [(0, .ref (G.2.2 114)), (1, .int s1)] [] := by
  intro n
  induction n with
  | zero => intro _ _; exact j_none
  | succ n ih =>
    intro v s1
    unfold l_X6_findError_2
    refine j_aload_n C 2 0 rfl dX6_findError_2 ?_
    refine j_iload_n C 3 1 rfl dX6_findError_3 ?_
    refine j_bind (fun x4 h4 => ?_)
    refine j_vMo_i (As := [.int s1]) (st := []) C k_X6_takePart 4 (c_X6_takePart C.2.2.2.2.2.2.1 _ _ h4) rfl rfl ml_X6_167 ii_X6_takePart is_X6_takePart dX6_findError_4 (by decide) rfl (Nat.le_of_ble_eq_true rfl) ?_ rfl
    refine j_V (V' := (c, (x4.2, o))) rfl ?_
    refine j_istore_n (L1 := [(1, .int x4.1), (0, .ref (G.2.2 114))]) C 7 rfl dX6_findError_7 (by decide) rfl ?_
    refine j_iload_n C 8 0 rfl dX6_findError_8 ?_
    refine j_if_ge C 9 16 dX6_findError_9 (by decide) (fun c9 => ?_) (fun c9 => ?_)
    · refine j_iconst (v := (-1)) C 12 dX6_findError_12 rfl ?_
      refine j_iload_n C 13 0 rfl dX6_findError_13 ?_
      refine j_isub C 14 dX6_findError_14 ?_
      exact j_iret C 15 hr rfl rfl dX6_findError_15
    · refine j_iload_n C 16 0 rfl dX6_findError_16 ?_
      refine j_aload_n C 17 1 rfl dX6_findError_17 ?_
      refine g_Mo8 C 18 (Or.inl fl_X6_152) dX6_findError_18 ?_
      refine j_icmp_ne C 21 26 dX6_findError_21 (by decide) (fun c21 => ?_) (fun c21 => ?_)
      · refine j_iconst (v := (-1)) C 24 dX6_findError_24 rfl ?_
        exact j_iret C 25 hr rfl rfl dX6_findError_25
      · refine j_aload_n C 26 1 rfl dX6_findError_26 ?_
        refine g_Mo7 C 27 (Or.inl fl_X6_22) dX6_findError_27 ?_
        refine j_iload_n C 30 0 rfl dX6_findError_30 ?_
        refine j_bind (fun x31 h31 => ?_)
        refine l_Mo7 C 31 h31 dX6_findError_31 ?_
        refine j_bipush (v := 44) C 32 dX6_findError_32 rfl ?_
        refine j_icmp_eq C 34 39 dX6_findError_34 (by decide) (fun c34 => ?_) (fun c34 => ?_)
        · refine j_iinc (v := (x4.1 + 1)) (L1 := [(1, .int (x4.1 + 1)), (0, .ref (G.2.2 114))]) C 39 0 rfl dX6_findError_39 rfl (by decide) rfl ?_
          refine j_goto C 42 2 dX6_findError_42 (by decide) ?_
          refine j_L (L' := [(0, .ref (G.2.2 114)), (1, .int (x4.1 + 1))]) [1, 0] rfl ?_
          exact ih x4.2 (x4.1 + 1)
        · refine j_iload_n C 37 0 rfl dX6_findError_37 ?_
          exact j_iret C 38 hr rfl rfl dX6_findError_38
set_option maxRecDepth 100000 in
set_option maxHeartbeats 4000000 in
theorem w_X6_findError {G : GG} {X : WX} {c : VC} {o : Nat → Int64} (C : Cx G 2 X RX6 cX6_findError 3) (hr : (xM X).sig.returnType = (some .int)) (v : VM) : JS G 2 X (QM G X (fun x : (Int32 × VM) => some (.int x.1)) (fun x : (Int32 × VM) => ((c, (x.2, o)) : VA))) (f_X6_findError v) (c, (v, o)) 0 [(0, .ref (G.2.2 114))] [] := by
  unfold f_X6_findError
  refine j_iconst (v := 0) C 0 dX6_findError_0 rfl ?_
  refine j_istore_n (L1 := [(1, .int 0), (0, .ref (G.2.2 114))]) C 1 rfl dX6_findError_1 (by decide) rfl ?_
  refine j_L (L' := [(0, .ref (G.2.2 114)), (1, .int 0)]) [1, 0] rfl ?_
  exact wl_X6_findError_2 C hr FU v 0
theorem c_X6_findError {G : GG} {l : Launch} (hG : Gok G) {c : VC} {o : Nat → Int64} (v : VM) {x : (Int32 × VM)} (hf : f_X6_findError v = some x) : Ct l yX6_findError cX6_findError 2 (some .int) 3 [.ref (G.2.2 114)] G (c, (v, o)) (some (.int x.1)) (c, (x.2, o)) := by
  refine ct_of (rv := fun x : (Int32 × VM) => (some (.int x.1))) (fin := fun x : (Int32 × VM) => ((c, (x.2, o)) : VA)) (own := RX6) hG (plainFor_of_name (by decide)) rfl (Nat.le_of_ble_eq_true rfl) (fun X C hr _ => ?_) hf
  exact w_X6_findError C hr v
set_option maxRecDepth 100000 in
set_option maxHeartbeats 4000000 in
theorem w_X6_firstError {G : GG} {X : WX} {c : VC} {o : Nat → Int64} (C : Cx G 2 X RX6 cX6_firstError 4) (hr : (xM X).sig.returnType = (some .int)) (v : VM) : JS G 2 X (QM G X (fun x : (Int32 × VM) => some (.int x.1)) (fun x : (Int32 × VM) => ((c, (x.2, o)) : VA))) (f_X6_firstError v) (c, (v, o)) 0 [(0, .ref (G.2.2 114))] [] := by
  unfold f_X6_firstError
  refine j_aload_n C 0 0 rfl dX6_firstError_0 ?_
  refine j_iconst (v := 0) C 1 dX6_firstError_1 rfl ?_
  refine p_Mo0 C 2 fl_X6_25 dX6_firstError_2 ?_
  refine j_V (V' := (c, ((0, v.2), o))) rfl ?_
  refine j_aload_n C 5 0 rfl dX6_firstError_5 ?_
  refine j_bind (fun x6 h6 => ?_)
  refine j_vMo_i (As := []) (st := []) C k_X6_findError 6 (c_X6_findError C.2.2.2.2.2.2.1 _ h6) rfl rfl ml_X6_170 ii_X6_findError is_X6_findError dX6_firstError_6 (by decide) rfl (Nat.le_of_ble_eq_true rfl) ?_ rfl
  refine j_V (V' := (c, (x6.2, o))) rfl ?_
  refine j_istore_n (L1 := [(1, .int x6.1), (0, .ref (G.2.2 114))]) C 9 rfl dX6_firstError_9 (by decide) rfl ?_
  refine j_iload_n C 10 0 rfl dX6_firstError_10 ?_
  refine j_if_ge C 11 21 dX6_firstError_11 (by decide) (fun c11 => ?_) (fun c11 => ?_)
  · refine j_aload_n C 14 1 rfl dX6_firstError_14 ?_
    refine g_Mo8 C 15 (Or.inl fl_X6_152) dX6_firstError_15 ?_
    refine j_goto C 18 22 dX6_firstError_18 (by decide) ?_
    exact j_iret C 22 hr rfl rfl dX6_firstError_22
  · refine j_iload_n C 21 0 rfl dX6_firstError_21 ?_
    exact j_iret C 22 hr rfl rfl dX6_firstError_22
theorem c_X6_firstError {G : GG} {l : Launch} (hG : Gok G) {c : VC} {o : Nat → Int64} (v : VM) {x : (Int32 × VM)} (hf : f_X6_firstError v = some x) : Ct l yX6_firstError cX6_firstError 2 (some .int) 4 [.ref (G.2.2 114)] G (c, (v, o)) (some (.int x.1)) (c, (x.2, o)) := by
  refine ct_of (rv := fun x : (Int32 × VM) => (some (.int x.1))) (fin := fun x : (Int32 × VM) => ((c, (x.2, o)) : VA)) (own := RX6) hG (plainFor_of_name (by decide)) rfl (Nat.le_of_ble_eq_true rfl) (fun X C hr _ => ?_) hf
  exact w_X6_firstError C hr v
set_option maxRecDepth 100000 in
set_option maxHeartbeats 4000000 in
theorem wl_X6_areRising_4 {G : GG} {X : WX} {c : VC} {o : Nat → Int64} (C : Cx G 3 X RX6 cX6_areRising 3) (hr : (xM X).sig.returnType = (some .boolean)) : ∀ (n : Nat) (v : VM) (s1 : Int32) (s2 : Int32), JS G 3 X (QM G X (fun x : (Int32 × VM) => some (.int x.1)) (fun x : (Int32 × VM) => ((c, (x.2, o)) : VA))) (l_X6_areRising_4 n v s1 s2) (c, (v, o)) 4 [(0, .ref (G.2.2 114)), (1, .int s1), (2, .int s2)] [] := by
  intro n
  induction n with
  | zero => intro _ _ _; exact j_none
  | succ n ih =>
    intro v s1 s2
    unfold l_X6_areRising_4
    refine j_iload_n C 4 2 rfl dX6_areRising_4 ?_
    refine j_aload_n C 5 0 rfl dX6_areRising_5 ?_
    refine g_Mo8 C 6 (Or.inl fl_X6_152) dX6_areRising_6 ?_
    refine j_icmp_ge C 9 45 dX6_areRising_9 (by decide) (fun c9 => ?_) (fun c9 => ?_)
    · refine j_aload_n C 12 0 rfl dX6_areRising_12 ?_
      refine j_iload_n C 13 2 rfl dX6_areRising_13 ?_
      refine j_bind (fun x14 h14 => ?_)
      refine j_vMo_i (As := [.int s2]) (st := []) C k_X6_takePart 14 (c_X6_takePart C.2.2.2.2.2.2.1 _ _ h14) rfl rfl ml_X6_167 ii_X6_takePart is_X6_takePart dX6_areRising_14 (by decide) rfl (Nat.le_of_ble_eq_true rfl) ?_ rfl
      refine j_V (V' := (c, (x14.2, o))) rfl ?_
      refine j_istore_n (L1 := [(2, .int x14.1), (0, .ref (G.2.2 114)), (1, .int s1)]) C 17 rfl dX6_areRising_17 (by decide) rfl ?_
      refine j_iload_n C 18 2 rfl dX6_areRising_18 ?_
      refine j_if_eq C 19 37 dX6_areRising_19 (by decide) (fun c19 => ?_) (fun c19 => ?_)
      · refine j_iconst (v := 0) C 37 dX6_areRising_37 rfl ?_
        refine j_istore_n (L1 := [(1, .int 0), (2, .int x14.1), (0, .ref (G.2.2 114))]) C 38 rfl dX6_areRising_38 (by decide) rfl ?_
        refine j_iinc (v := (x14.1 + 1)) (L1 := [(2, .int (x14.1 + 1)), (1, .int 0), (0, .ref (G.2.2 114))]) C 39 1 rfl dX6_areRising_39 rfl (by decide) rfl ?_
        refine j_goto C 42 4 dX6_areRising_42 (by decide) ?_
        refine j_L (L' := [(0, .ref (G.2.2 114)), (1, .int 0), (2, .int (x14.1 + 1))]) [2, 1, 0] rfl ?_
        exact ih x14.2 0 (x14.1 + 1)
      · refine j_aload_n C 22 1 rfl dX6_areRising_22 ?_
        refine g_Mo9 C 23 (Or.inl fl_X6_164) dX6_areRising_23 ?_
        refine j_aload_n C 26 1 rfl dX6_areRising_26 ?_
        refine g_Mo10 C 27 (Or.inl fl_X6_158) dX6_areRising_27 ?_
        refine j_icmp_gt C 30 37 dX6_areRising_30 (by decide) (fun c30 => ?_) (fun c30 => ?_)
        · refine j_iconst (v := 0) C 37 dX6_areRising_37 rfl ?_
          refine j_istore_n (L1 := [(1, .int 0), (2, .int x14.1), (0, .ref (G.2.2 114))]) C 38 rfl dX6_areRising_38 (by decide) rfl ?_
          refine j_iinc (v := (x14.1 + 1)) (L1 := [(2, .int (x14.1 + 1)), (1, .int 0), (0, .ref (G.2.2 114))]) C 39 1 rfl dX6_areRising_39 rfl (by decide) rfl ?_
          refine j_goto C 42 4 dX6_areRising_42 (by decide) ?_
          refine j_L (L' := [(0, .ref (G.2.2 114)), (1, .int 0), (2, .int (x14.1 + 1))]) [2, 1, 0] rfl ?_
          exact ih x14.2 0 (x14.1 + 1)
        · refine j_iconst (v := 1) C 33 dX6_areRising_33 rfl ?_
          refine j_goto C 34 38 dX6_areRising_34 (by decide) ?_
          refine j_istore_n (L1 := [(1, .int 1), (2, .int x14.1), (0, .ref (G.2.2 114))]) C 38 rfl dX6_areRising_38 (by decide) rfl ?_
          refine j_iinc (v := (x14.1 + 1)) (L1 := [(2, .int (x14.1 + 1)), (1, .int 1), (0, .ref (G.2.2 114))]) C 39 1 rfl dX6_areRising_39 rfl (by decide) rfl ?_
          refine j_goto C 42 4 dX6_areRising_42 (by decide) ?_
          refine j_L (L' := [(0, .ref (G.2.2 114)), (1, .int 1), (2, .int (x14.1 + 1))]) [2, 1, 0] rfl ?_
          exact ih x14.2 1 (x14.1 + 1)
    · refine j_iload_n C 45 1 rfl dX6_areRising_45 ?_
      refine j_bind (fun r46 h46 => ?_)
      obtain ⟨hb46, rfl⟩ := bck_in h46
      exact j_zret C 46 hr hb46 rfl rfl dX6_areRising_46
set_option maxRecDepth 100000 in
set_option maxHeartbeats 4000000 in
theorem w_X6_areRising {G : GG} {X : WX} {c : VC} {o : Nat → Int64} (C : Cx G 3 X RX6 cX6_areRising 3) (hr : (xM X).sig.returnType = (some .boolean)) (v : VM) : JS G 3 X (QM G X (fun x : (Int32 × VM) => some (.int x.1)) (fun x : (Int32 × VM) => ((c, (x.2, o)) : VA))) (f_X6_areRising v) (c, (v, o)) 0 [(0, .ref (G.2.2 114))] [] := by
  unfold f_X6_areRising
  refine j_iconst (v := 1) C 0 dX6_areRising_0 rfl ?_
  refine j_istore_n (L1 := [(1, .int 1), (0, .ref (G.2.2 114))]) C 1 rfl dX6_areRising_1 (by decide) rfl ?_
  refine j_iconst (v := 0) C 2 dX6_areRising_2 rfl ?_
  refine j_istore_n (L1 := [(2, .int 0), (1, .int 1), (0, .ref (G.2.2 114))]) C 3 rfl dX6_areRising_3 (by decide) rfl ?_
  refine j_L (L' := [(0, .ref (G.2.2 114)), (1, .int 1), (2, .int 0)]) [2, 1, 0] rfl ?_
  exact wl_X6_areRising_4 C hr FU v 1 0
theorem c_X6_areRising {G : GG} {l : Launch} (hG : Gok G) {c : VC} {o : Nat → Int64} (v : VM) {x : (Int32 × VM)} (hf : f_X6_areRising v = some x) : Ct l yX6_areRising cX6_areRising 3 (some .boolean) 3 [.ref (G.2.2 114)] G (c, (v, o)) (some (.int x.1)) (c, (x.2, o)) := by
  refine ct_of (rv := fun x : (Int32 × VM) => (some (.int x.1))) (fin := fun x : (Int32 × VM) => ((c, (x.2, o)) : VA)) (own := RX6) hG (plainFor_of_name (by decide)) rfl (Nat.le_of_ble_eq_true rfl) (fun X C hr _ => ?_) hf
  exact w_X6_areRising C hr v
set_option maxRecDepth 100000 in
set_option maxHeartbeats 4000000 in
theorem w_X6_canRead {G : GG} {X : WX} {c : VC} {o : Nat → Int64} (C : Cx G 2 X RX6 cX6_canRead 6) (hr : (xM X).sig.returnType = (some .boolean)) (v : VM) (a1 : Int32) : JS G 2 X (QM G X (fun x : Int32 => some (.int x)) (fun x : Int32 => ((c, (v, o)) : VA))) (f_X6_canRead v a1) (c, (v, o)) 0 [(0, .ref (G.2.2 114)), (1, .int a1)] [] := by
  unfold f_X6_canRead
  refine j_aload_n C 0 0 rfl dX6_canRead_0 ?_
  refine j_iload_n C 1 1 rfl dX6_canRead_1 ?_
  refine j_bind (fun x2 h2 => ?_)
  refine j_vMo_i (As := [.int a1]) (st := []) C k_X6_isBlock 2 (c_X6_isBlock C.2.2.2.2.2.2.1 _ _ h2) rfl rfl ml_X6_128 ii_X6_isBlock is_X6_isBlock dX6_canRead_2 (by decide) rfl (Nat.le_of_ble_eq_true rfl) ?_ rfl
  refine j_if_eq C 5 20 dX6_canRead_5 (by decide) (fun c5 => ?_) (fun c5 => ?_)
  · refine j_iconst (v := 0) C 20 dX6_canRead_20 rfl ?_
    exact j_zret C 21 hr rfl rfl rfl dX6_canRead_21
  · refine j_aload_n C 8 0 rfl dX6_canRead_8 ?_
    refine j_iload_n C 9 1 rfl dX6_canRead_9 ?_
    refine j_bind (fun x10 h10 => ?_)
    refine j_vMo_i (As := [.int a1]) (st := []) C k_X6_isLeftFor 10 (c_X6_isLeftFor C.2.2.2.2.2.2.1 _ _ h10) rfl rfl ml_X6_131 ii_X6_isLeftFor is_X6_isLeftFor dX6_canRead_10 (by decide) rfl (Nat.le_of_ble_eq_true rfl) ?_ rfl
    refine j_if_eq C 13 20 dX6_canRead_13 (by decide) (fun c13 => ?_) (fun c13 => ?_)
    · refine j_iconst (v := 0) C 20 dX6_canRead_20 rfl ?_
      exact j_zret C 21 hr rfl rfl rfl dX6_canRead_21
    · refine j_iconst (v := 1) C 16 dX6_canRead_16 rfl ?_
      refine j_goto C 17 21 dX6_canRead_17 (by decide) ?_
      exact j_zret C 21 hr rfl rfl rfl dX6_canRead_21
theorem c_X6_canRead {G : GG} {l : Launch} (hG : Gok G) {c : VC} {o : Nat → Int64} (v : VM) (a1 : Int32) {x : Int32} (hf : f_X6_canRead v a1 = some x) : Ct l yX6_canRead cX6_canRead 2 (some .boolean) 6 [.ref (G.2.2 114), .int a1] G (c, (v, o)) (some (.int x)) (c, (v, o)) := by
  refine ct_of (rv := fun x : Int32 => (some (.int x))) (fin := fun x : Int32 => ((c, (v, o)) : VA)) (own := RX6) hG (plainFor_of_name (by decide)) rfl (Nat.le_of_ble_eq_true rfl) (fun X C hr _ => ?_) hf
  exact w_X6_canRead C hr v a1
set_option maxRecDepth 100000 in
set_option maxHeartbeats 4000000 in
theorem wb_X6_run_142 {G : GG} {X : WX} {c : VC} {o : Nat → Int64} (C : Cx G 7 X RX6 cX6_run 9) (hr : (xM X).sig.returnType = (some .int)) (K42 : VM → Int32 → Int32 → Int32 → Option (Int32 × VM)) (hK42 : ∀ (v : VM) (s1 : Int32) (s2 : Int32) (s3 : Int32), JS G 7 X (QM G X (fun x : (Int32 × VM) => some (.int x.1)) (fun x : (Int32 × VM) => ((c, (x.2, o)) : VA))) (K42 v s1 s2 s3) (c, (v, o)) 42 [(0, .ref (G.2.2 114)), (1, .int s1), (2, .int s2), (3, .int s3)] []) (K72 : VM → Int32 → Int32 → Int32 → Int32 → Int32 → Option (Int32 × VM)) (hK72 : ∀ (v : VM) (s1 : Int32) (s2 : Int32) (s3 : Int32) (s4 : Int32) (s5 : Int32), JS G 7 X (QM G X (fun x : (Int32 × VM) => some (.int x.1)) (fun x : (Int32 × VM) => ((c, (x.2, o)) : VA))) (K72 v s1 s2 s3 s4 s5) (c, (v, o)) 72 [(0, .ref (G.2.2 114)), (1, .int s1), (2, .int s2), (3, .int s3), (4, .int s4), (5, .int s5)] []) (v : VM) (s1 : Int32) (s3 : Int32) (s4 : Int32) (s5 : Int32) (t0 : Int32) : JS G 7 X (QM G X (fun x : (Int32 × VM) => some (.int x.1)) (fun x : (Int32 × VM) => ((c, (x.2, o)) : VA))) (b_X6_run_142 K42 K72 v s1 s3 s4 s5 t0) (c, (v, o)) 142 [(0, .ref (G.2.2 114)), (1, .int s1), (3, .int s3), (4, .int s4), (5, .int s5)] [.int t0] := by
  unfold b_X6_run_142
  refine j_istore (L1 := [(6, .int t0), (0, .ref (G.2.2 114)), (1, .int s1), (3, .int s3), (4, .int s4), (5, .int s5)]) C 142 dX6_run_142 (by decide) rfl ?_
  refine j_aload_n C 144 1 rfl dX6_run_144 ?_
  refine j_iload C 145 4 rfl dX6_run_145 ?_
  refine j_bind (fun x147 h147 => ?_)
  refine j_vMo_i (As := [.int s4]) (st := []) C k_X6_canRead 147 (c_X6_canRead C.2.2.2.2.2.2.1 _ _ h147) rfl rfl ml_X6_177 ii_X6_canRead is_X6_canRead dX6_run_147 (by decide) rfl (Nat.le_of_ble_eq_true rfl) ?_ rfl
  refine j_istore_n (L1 := [(2, .int x147), (6, .int t0), (0, .ref (G.2.2 114)), (1, .int s1), (3, .int s3), (4, .int s4), (5, .int s5)]) C 150 rfl dX6_run_150 (by decide) rfl ?_
  refine j_iload C 151 1 rfl dX6_run_151 ?_
  refine j_if_eq C 153 171 dX6_run_153 (by decide) (fun c153 => ?_) (fun c153 => ?_)
  · refine j_iload_n C 171 0 rfl dX6_run_171 ?_
    refine j_if_eq C 172 187 dX6_run_172 (by decide) (fun c172 => ?_) (fun c172 => ?_)
    · refine j_goto C 187 72 dX6_run_187 (by decide) ?_
      refine j_L (L' := [(0, .ref (G.2.2 114)), (1, .int s1), (2, .int x147), (3, .int s3), (4, .int s4), (5, .int s5)]) [2, 3, 0, 4, 5, 6] rfl ?_
      exact hK72 v s1 x147 s3 s4 s5
    · refine j_iload_n C 175 3 rfl dX6_run_175 ?_
      refine j_aload_n C 176 2 rfl dX6_run_176 ?_
      refine j_iload C 177 5 rfl dX6_run_177 ?_
      refine j_bind (fun x179 h179 => ?_)
      refine j_vMo_i (As := [.int s4]) (st := [.int s1]) C k_X6_doRead 179 (c_X6_doRead C.2.2.2.2.2.2.1 _ _ h179) rfl rfl ml_X6_149 ii_X6_doRead is_X6_doRead dX6_run_179 (by decide) rfl (Nat.le_of_ble_eq_true rfl) ?_ rfl
      refine j_V (V' := (c, (x179.2, o))) rfl ?_
      refine j_iadd C 182 dX6_run_182 ?_
      refine j_istore_n (L1 := [(1, .int (s1 + x179.1)), (2, .int x147), (6, .int t0), (0, .ref (G.2.2 114)), (3, .int s3), (4, .int s4), (5, .int s5)]) C 183 rfl dX6_run_183 (by decide) rfl ?_
      refine j_iinc (v := (s4 + 1)) (L1 := [(4, .int (s4 + 1)), (1, .int (s1 + x179.1)), (2, .int x147), (6, .int t0), (0, .ref (G.2.2 114)), (3, .int s3), (5, .int s5)]) C 184 5 rfl dX6_run_184 rfl (by decide) rfl ?_
      refine j_goto C 187 72 dX6_run_187 (by decide) ?_
      refine j_L (L' := [(0, .ref (G.2.2 114)), (1, .int (s1 + x179.1)), (2, .int x147), (3, .int s3), (4, .int (s4 + 1)), (5, .int s5)]) [4, 1, 2, 5, 0, 6] rfl ?_
      exact hK72 x179.2 (s1 + x179.1) x147 s3 (s4 + 1) s5
  · refine j_iload_n C 156 3 rfl dX6_run_156 ?_
    refine j_aload_n C 157 2 rfl dX6_run_157 ?_
    refine j_iload C 158 5 rfl dX6_run_158 ?_
    refine j_bind (fun x160 h160 => ?_)
    refine j_vMo_i (As := [.int s4]) (st := [.int s1]) C k_X6_readPair 160 (c_X6_readPair C.2.2.2.2.2.2.1 _ _ h160) rfl rfl ml_X6_180 ii_X6_readPair is_X6_readPair dX6_run_160 (by decide) rfl (Nat.le_of_ble_eq_true rfl) ?_ rfl
    refine j_V (V' := (c, (x160.2, o))) rfl ?_
    refine j_iadd C 163 dX6_run_163 ?_
    refine j_istore_n (L1 := [(1, .int (s1 + x160.1)), (2, .int x147), (6, .int t0), (0, .ref (G.2.2 114)), (3, .int s3), (4, .int s4), (5, .int s5)]) C 164 rfl dX6_run_164 (by decide) rfl ?_
    refine j_iinc (v := (s4 + 2)) (L1 := [(4, .int (s4 + 2)), (1, .int (s1 + x160.1)), (2, .int x147), (6, .int t0), (0, .ref (G.2.2 114)), (3, .int s3), (5, .int s5)]) C 165 5 rfl dX6_run_165 rfl (by decide) rfl ?_
    refine j_goto C 168 187 dX6_run_168 (by decide) ?_
    refine j_goto C 187 72 dX6_run_187 (by decide) ?_
    refine j_L (L' := [(0, .ref (G.2.2 114)), (1, .int (s1 + x160.1)), (2, .int x147), (3, .int s3), (4, .int (s4 + 2)), (5, .int s5)]) [4, 1, 2, 5, 0, 6] rfl ?_
    exact hK72 x160.2 (s1 + x160.1) x147 s3 (s4 + 2) s5
set_option maxRecDepth 100000 in
set_option maxHeartbeats 4000000 in
theorem wl_X6_run_72 {G : GG} {X : WX} {c : VC} {o : Nat → Int64} (C : Cx G 7 X RX6 cX6_run 9) (hr : (xM X).sig.returnType = (some .int)) (K42 : VM → Int32 → Int32 → Int32 → Option (Int32 × VM)) (hK42 : ∀ (v : VM) (s1 : Int32) (s2 : Int32) (s3 : Int32), JS G 7 X (QM G X (fun x : (Int32 × VM) => some (.int x.1)) (fun x : (Int32 × VM) => ((c, (x.2, o)) : VA))) (K42 v s1 s2 s3) (c, (v, o)) 42 [(0, .ref (G.2.2 114)), (1, .int s1), (2, .int s2), (3, .int s3)] []) : ∀ (n : Nat) (v : VM) (s1 : Int32) (s2 : Int32) (s3 : Int32) (s4 : Int32) (s5 : Int32), JS G 7 X (QM G X (fun x : (Int32 × VM) => some (.int x.1)) (fun x : (Int32 × VM) => ((c, (x.2, o)) : VA))) (l_X6_run_72 K42 n v s1 s2 s3 s4 s5) (c, (v, o)) 72 [(0, .ref (G.2.2 114)), (1, .int s1), (2, .int s2), (3, .int s3), (4, .int s4), (5, .int s5)] [] := by
  intro n
  induction n with
  | zero => intro _ _ _ _ _ _; exact j_none
  | succ n ih =>
    intro v s1 s2 s3 s4 s5
    unfold l_X6_run_72
    refine j_iload_n C 72 2 rfl dX6_run_72 ?_
    refine j_if_eq C 73 190 dX6_run_73 (by decide) (fun c73 => ?_) (fun c73 => ?_)
    · refine j_iinc (v := (s3 + 1)) (L1 := [(3, .int (s3 + 1)), (0, .ref (G.2.2 114)), (1, .int s1), (2, .int s2), (4, .int s4), (5, .int s5)]) C 190 3 rfl dX6_run_190 rfl (by decide) rfl ?_
      refine j_goto C 193 42 dX6_run_193 (by decide) ?_
      refine j_L (L' := [(0, .ref (G.2.2 114)), (1, .int s1), (2, .int s2), (3, .int (s3 + 1))]) [1, 2, 3, 0] rfl ?_
      exact hK42 v s1 s2 (s3 + 1)
    · refine j_iload C 76 4 rfl dX6_run_76 ?_
      refine j_iload C 78 5 rfl dX6_run_78 ?_
      refine j_icmp_gt C 80 190 dX6_run_80 (by decide) (fun c80 => ?_) (fun c80 => ?_)
      · refine j_iinc (v := (s3 + 1)) (L1 := [(3, .int (s3 + 1)), (0, .ref (G.2.2 114)), (1, .int s1), (2, .int s2), (4, .int s4), (5, .int s5)]) C 190 3 rfl dX6_run_190 rfl (by decide) rfl ?_
        refine j_goto C 193 42 dX6_run_193 (by decide) ?_
        refine j_L (L' := [(0, .ref (G.2.2 114)), (1, .int s1), (2, .int s2), (3, .int (s3 + 1))]) [1, 2, 3, 0] rfl ?_
        exact hK42 v s1 s2 (s3 + 1)
      · refine j_aload_n C 83 0 rfl dX6_run_83 ?_
        refine g_Mo1 C 84 (Or.inl fl_X6_7) dX6_run_84 ?_
        refine j_bipush (v := 47) C 87 dX6_run_87 rfl ?_
        refine j_bind (fun x89 h89 => ?_)
        refine l_Mo1 C 89 h89 dX6_run_89 ?_
        refine j_iconst (v := 1) C 90 dX6_run_90 rfl ?_
        refine j_icmp_ne C 91 141 dX6_run_91 (by decide) (fun c91 => ?_) (fun c91 => ?_)
        · refine j_iload C 94 4 rfl dX6_run_94 ?_
          refine j_iconst (v := 2) C 96 dX6_run_96 rfl ?_
          refine j_irem C 97 dX6_run_97 (by decide) ?_
          refine j_if_ne C 98 141 dX6_run_98 (by decide) (fun c98 => ?_) (fun c98 => ?_)
          · refine j_iload C 101 4 rfl dX6_run_101 ?_
            refine j_aload_n C 103 0 rfl dX6_run_103 ?_
            refine j_bind (fun x104 h104 => ?_)
            refine j_vMo_i (As := []) (st := [.int s4]) C k_X6_wideBlocks 104 (c_X6_wideBlocks C.2.2.2.2.2.2.1 _ h104) rfl rfl ml_X6_58 ii_X6_wideBlocks is_X6_wideBlocks dX6_run_104 (by decide) rfl (Nat.le_of_ble_eq_true rfl) ?_ rfl
            refine j_icmp_ge C 107 141 dX6_run_107 (by decide) (fun c107 => ?_) (fun c107 => ?_)
            · refine j_iload C 110 4 rfl dX6_run_110 ?_
              refine j_iload C 112 5 rfl dX6_run_112 ?_
              refine j_icmp_ge C 114 141 dX6_run_114 (by decide) (fun c114 => ?_) (fun c114 => ?_)
              · refine j_aload_n C 117 0 rfl dX6_run_117 ?_
                refine j_iload C 118 4 rfl dX6_run_118 ?_
                refine j_bind (fun x120 h120 => ?_)
                refine j_vMo_i (As := [.int s4]) (st := []) C k_X6_canRead 120 (c_X6_canRead C.2.2.2.2.2.2.1 _ _ h120) rfl rfl ml_X6_177 ii_X6_canRead is_X6_canRead dX6_run_120 (by decide) rfl (Nat.le_of_ble_eq_true rfl) ?_ rfl
                refine j_if_eq C 123 141 dX6_run_123 (by decide) (fun c123 => ?_) (fun c123 => ?_)
                · refine j_iconst (v := 0) C 141 dX6_run_141 rfl ?_
                  refine j_L (L' := [(0, .ref (G.2.2 114)), (1, .int s1), (3, .int s3), (4, .int s4), (5, .int s5)]) [0, 1, 3, 4, 5] rfl ?_
                  exact wb_X6_run_142 C hr _ hK42 _ ih v s1 s3 s4 s5 0
                · refine j_aload_n C 126 0 rfl dX6_run_126 ?_
                  refine j_iload C 127 4 rfl dX6_run_127 ?_
                  refine j_iconst (v := 1) C 129 dX6_run_129 rfl ?_
                  refine j_iadd C 130 dX6_run_130 ?_
                  refine j_bind (fun x131 h131 => ?_)
                  refine j_vMo_i (As := [.int (s4 + 1)]) (st := []) C k_X6_canRead 131 (c_X6_canRead C.2.2.2.2.2.2.1 _ _ h131) rfl rfl ml_X6_177 ii_X6_canRead is_X6_canRead dX6_run_131 (by decide) rfl (Nat.le_of_ble_eq_true rfl) ?_ rfl
                  refine j_if_eq C 134 141 dX6_run_134 (by decide) (fun c134 => ?_) (fun c134 => ?_)
                  · refine j_iconst (v := 0) C 141 dX6_run_141 rfl ?_
                    refine j_L (L' := [(0, .ref (G.2.2 114)), (1, .int s1), (3, .int s3), (4, .int s4), (5, .int s5)]) [0, 1, 3, 4, 5] rfl ?_
                    exact wb_X6_run_142 C hr _ hK42 _ ih v s1 s3 s4 s5 0
                  · refine j_iconst (v := 1) C 137 dX6_run_137 rfl ?_
                    refine j_goto C 138 142 dX6_run_138 (by decide) ?_
                    refine j_L (L' := [(0, .ref (G.2.2 114)), (1, .int s1), (3, .int s3), (4, .int s4), (5, .int s5)]) [0, 1, 3, 4, 5] rfl ?_
                    exact wb_X6_run_142 C hr _ hK42 _ ih v s1 s3 s4 s5 1
              · refine j_iconst (v := 0) C 141 dX6_run_141 rfl ?_
                refine j_L (L' := [(0, .ref (G.2.2 114)), (1, .int s1), (3, .int s3), (4, .int s4), (5, .int s5)]) [0, 1, 3, 4, 5] rfl ?_
                exact wb_X6_run_142 C hr _ hK42 _ ih v s1 s3 s4 s5 0
            · refine j_iconst (v := 0) C 141 dX6_run_141 rfl ?_
              refine j_L (L' := [(0, .ref (G.2.2 114)), (1, .int s1), (3, .int s3), (4, .int s4), (5, .int s5)]) [0, 1, 3, 4, 5] rfl ?_
              exact wb_X6_run_142 C hr _ hK42 _ ih v s1 s3 s4 s5 0
          · refine j_iconst (v := 0) C 141 dX6_run_141 rfl ?_
            refine j_L (L' := [(0, .ref (G.2.2 114)), (1, .int s1), (3, .int s3), (4, .int s4), (5, .int s5)]) [0, 1, 3, 4, 5] rfl ?_
            exact wb_X6_run_142 C hr _ hK42 _ ih v s1 s3 s4 s5 0
        · refine j_iconst (v := 0) C 141 dX6_run_141 rfl ?_
          refine j_L (L' := [(0, .ref (G.2.2 114)), (1, .int s1), (3, .int s3), (4, .int s4), (5, .int s5)]) [0, 1, 3, 4, 5] rfl ?_
          exact wb_X6_run_142 C hr _ hK42 _ ih v s1 s3 s4 s5 0
set_option maxRecDepth 100000 in
set_option maxHeartbeats 4000000 in
theorem wl_X6_run_42 {G : GG} {X : WX} {c : VC} {o : Nat → Int64} (C : Cx G 7 X RX6 cX6_run 9) (hr : (xM X).sig.returnType = (some .int)) : ∀ (n : Nat) (v : VM) (s1 : Int32) (s2 : Int32) (s3 : Int32), JS G 7 X (QM G X (fun x : (Int32 × VM) => some (.int x.1)) (fun x : (Int32 × VM) => ((c, (x.2, o)) : VA))) (l_X6_run_42 n v s1 s2 s3) (c, (v, o)) 42 [(0, .ref (G.2.2 114)), (1, .int s1), (2, .int s2), (3, .int s3)] [] := by
  intro n
  induction n with
  | zero => intro _ _ _ _; exact j_none
  | succ n ih =>
    intro v s1 s2 s3
    unfold l_X6_run_42
    refine j_iload_n C 42 3 rfl dX6_run_42 ?_
    refine j_aload_n C 43 0 rfl dX6_run_43 ?_
    refine g_Mo8 C 44 (Or.inl fl_X6_152) dX6_run_44 ?_
    refine j_icmp_ge C 47 196 dX6_run_47 (by decide) (fun c47 => ?_) (fun c47 => ?_)
    · refine j_iload_n C 50 2 rfl dX6_run_50 ?_
      refine j_if_eq C 51 196 dX6_run_51 (by decide) (fun c51 => ?_) (fun c51 => ?_)
      · refine j_aload_n C 196 0 rfl dX6_run_196 ?_
        refine j_iconst (v := 0) C 197 dX6_run_197 rfl ?_
        refine p_Mo8 C 198 fl_X6_152 dX6_run_198 ?_
        refine j_V (V' := (c, ((v.1, v.2.1, v.2.2.1, v.2.2.2.1, v.2.2.2.2.1, v.2.2.2.2.2.1, v.2.2.2.2.2.2.1, v.2.2.2.2.2.2.2.1, 0, v.2.2.2.2.2.2.2.2.2), o))) rfl ?_
        refine j_iload_n C 201 1 rfl dX6_run_201 ?_
        exact j_iret C 202 hr rfl rfl dX6_run_202
      · refine j_aload_n C 54 0 rfl dX6_run_54 ?_
        refine j_iload_n C 55 3 rfl dX6_run_55 ?_
        refine j_bind (fun x56 h56 => ?_)
        refine j_vMo_i (As := [.int s3]) (st := []) C k_X6_takePart 56 (c_X6_takePart C.2.2.2.2.2.2.1 _ _ h56) rfl rfl ml_X6_167 ii_X6_takePart is_X6_takePart dX6_run_56 (by decide) rfl (Nat.le_of_ble_eq_true rfl) ?_ rfl
        refine j_V (V' := (c, (x56.2, o))) rfl ?_
        refine j_istore_n (L1 := [(3, .int x56.1), (0, .ref (G.2.2 114)), (1, .int s1), (2, .int s2)]) C 59 rfl dX6_run_59 (by decide) rfl ?_
        refine j_aload_n C 60 1 rfl dX6_run_60 ?_
        refine g_Mo9 C 61 (Or.inl fl_X6_164) dX6_run_61 ?_
        refine j_istore (L1 := [(4, .int x56.2.2.2.2.2.2.2.2.2.2.1), (3, .int x56.1), (0, .ref (G.2.2 114)), (1, .int s1), (2, .int s2)]) C 64 dX6_run_64 (by decide) rfl ?_
        refine j_aload_n C 66 2 rfl dX6_run_66 ?_
        refine g_Mo10 C 67 (Or.inl fl_X6_158) dX6_run_67 ?_
        refine j_istore (L1 := [(5, .int x56.2.2.2.2.2.2.2.2.2.2.2), (4, .int x56.2.2.2.2.2.2.2.2.2.2.1), (3, .int x56.1), (0, .ref (G.2.2 114)), (1, .int s1), (2, .int s2)]) C 70 dX6_run_70 (by decide) rfl ?_
        refine j_L (L' := [(0, .ref (G.2.2 114)), (1, .int s1), (2, .int s2), (3, .int x56.1), (4, .int x56.2.2.2.2.2.2.2.2.2.2.1), (5, .int x56.2.2.2.2.2.2.2.2.2.2.2)]) [3, 4, 5, 2, 1, 0] rfl ?_
        exact wl_X6_run_72 C hr _ ih FU x56.2 s1 s2 x56.1 x56.2.2.2.2.2.2.2.2.2.2.1 x56.2.2.2.2.2.2.2.2.2.2.2
    · refine j_aload_n C 196 0 rfl dX6_run_196 ?_
      refine j_iconst (v := 0) C 197 dX6_run_197 rfl ?_
      refine p_Mo8 C 198 fl_X6_152 dX6_run_198 ?_
      refine j_V (V' := (c, ((v.1, v.2.1, v.2.2.1, v.2.2.2.1, v.2.2.2.2.1, v.2.2.2.2.2.1, v.2.2.2.2.2.2.1, v.2.2.2.2.2.2.2.1, 0, v.2.2.2.2.2.2.2.2.2), o))) rfl ?_
      refine j_iload_n C 201 1 rfl dX6_run_201 ?_
      exact j_iret C 202 hr rfl rfl dX6_run_202
set_option maxRecDepth 100000 in
set_option maxHeartbeats 4000000 in
theorem wb_X6_run_20 {G : GG} {X : WX} {c : VC} {o : Nat → Int64} (C : Cx G 7 X RX6 cX6_run 9) (hr : (xM X).sig.returnType = (some .int)) (v : VM) (t0 : Int32) : JS G 7 X (QM G X (fun x : (Int32 × VM) => some (.int x.1)) (fun x : (Int32 × VM) => ((c, (x.2, o)) : VA))) (b_X6_run_20 v t0) (c, (v, o)) 20 [(0, .ref (G.2.2 114))] [.int t0, .ref (G.2.2 114)] := by
  unfold b_X6_run_20
  refine p_Mo0 C 20 fl_X6_25 dX6_run_20 ?_
  refine j_V (V' := (c, ((t0, v.2), o))) rfl ?_
  refine j_aload_n C 23 0 rfl dX6_run_23 ?_
  refine g_Mo0 C 24 (Or.inl fl_X6_25) dX6_run_24 ?_
  refine j_if_le C 27 32 dX6_run_27 (by decide) (fun c27 => ?_) (fun c27 => ?_)
  · refine j_iconst (v := 0) C 30 dX6_run_30 rfl ?_
    exact j_iret C 31 hr rfl rfl dX6_run_31
  · refine j_aload_n C 32 0 rfl dX6_run_32 ?_
    refine j_bind (fun x33 h33 => ?_)
    refine j_vMo_v (As := []) (st := []) C k_X6_record 33 (c_X6_record C.2.2.2.2.2.2.1 _ h33) rfl rfl ml_X6_44 ii_X6_record is_X6_record dX6_run_33 (by decide) rfl (Nat.le_of_ble_eq_true rfl) ?_ rfl
    refine j_V (V' := (c, (x33, o))) rfl ?_
    refine j_iconst (v := 0) C 36 dX6_run_36 rfl ?_
    refine j_istore_n (L1 := [(1, .int 0), (0, .ref (G.2.2 114))]) C 37 rfl dX6_run_37 (by decide) rfl ?_
    refine j_iconst (v := 1) C 38 dX6_run_38 rfl ?_
    refine j_istore_n (L1 := [(2, .int 1), (1, .int 0), (0, .ref (G.2.2 114))]) C 39 rfl dX6_run_39 (by decide) rfl ?_
    refine j_iconst (v := 0) C 40 dX6_run_40 rfl ?_
    refine j_istore_n (L1 := [(3, .int 0), (2, .int 1), (1, .int 0), (0, .ref (G.2.2 114))]) C 41 rfl dX6_run_41 (by decide) rfl ?_
    refine j_L (L' := [(0, .ref (G.2.2 114)), (1, .int 0), (2, .int 1), (3, .int 0)]) [3, 2, 1, 0] rfl ?_
    exact wl_X6_run_42 C hr FU x33 0 1 0
set_option maxRecDepth 100000 in
set_option maxHeartbeats 4000000 in
theorem w_X6_run {G : GG} {X : WX} {c : VC} {o : Nat → Int64} (C : Cx G 7 X RX6 cX6_run 9) (hr : (xM X).sig.returnType = (some .int)) (v : VM) : JS G 7 X (QM G X (fun x : (Int32 × VM) => some (.int x.1)) (fun x : (Int32 × VM) => ((c, (x.2, o)) : VA))) (f_X6_run v) (c, (v, o)) 0 [(0, .ref (G.2.2 114))] [] := by
  unfold f_X6_run
  refine j_aload_n C 0 0 rfl dX6_run_0 ?_
  refine j_aload_n C 1 0 rfl dX6_run_1 ?_
  refine j_bind (fun x2 h2 => ?_)
  refine j_vMo_i (As := []) (st := [.ref (G.2.2 114)]) C k_X6_findError 2 (c_X6_findError C.2.2.2.2.2.2.1 _ h2) rfl rfl ml_X6_170 ii_X6_findError is_X6_findError dX6_run_2 (by decide) rfl (Nat.le_of_ble_eq_true rfl) ?_ rfl
  refine j_V (V' := (c, (x2.2, o))) rfl ?_
  refine j_if_ge C 5 19 dX6_run_5 (by decide) (fun c5 => ?_) (fun c5 => ?_)
  · refine j_aload_n C 8 0 rfl dX6_run_8 ?_
    refine j_bind (fun x9 h9 => ?_)
    refine j_vMo_i (As := []) (st := [.ref (G.2.2 114)]) C k_X6_areRising 9 (c_X6_areRising C.2.2.2.2.2.2.1 _ h9) rfl rfl ml_X6_173 ii_X6_areRising is_X6_areRising dX6_run_9 (by decide) rfl (Nat.le_of_ble_eq_true rfl) ?_ rfl
    refine j_V (V' := (c, (x9.2, o))) rfl ?_
    refine j_if_eq C 12 19 dX6_run_12 (by decide) (fun c12 => ?_) (fun c12 => ?_)
    · refine j_iconst (v := 1) C 19 dX6_run_19 rfl ?_
      exact wb_X6_run_20 C hr x9.2 1
    · refine j_iconst (v := 0) C 15 dX6_run_15 rfl ?_
      refine j_goto C 16 20 dX6_run_16 (by decide) ?_
      exact wb_X6_run_20 C hr x9.2 0
  · refine j_iconst (v := 1) C 19 dX6_run_19 rfl ?_
    exact wb_X6_run_20 C hr x2.2 1
theorem c_X6_run {G : GG} {l : Launch} (hG : Gok G) {c : VC} {o : Nat → Int64} (v : VM) {x : (Int32 × VM)} (hf : f_X6_run v = some x) : Ct l yX6_run cX6_run 7 (some .int) 9 [.ref (G.2.2 114)] G (c, (v, o)) (some (.int x.1)) (c, (x.2, o)) := by
  refine ct_of (rv := fun x : (Int32 × VM) => (some (.int x.1))) (fin := fun x : (Int32 × VM) => ((c, (x.2, o)) : VA)) (own := RX6) hG (plainFor_of_name (by decide)) rfl (Nat.le_of_ble_eq_true rfl) (fun X C hr _ => ?_) hf
  exact w_X6_run C hr v
set_option maxRecDepth 100000 in
set_option maxHeartbeats 4000000 in
theorem w_X6_slotNow {G : GG} {X : WX} {c : VC} {o : Nat → Int64} (C : Cx G 3 X RX6 cX6_slotNow 2) (hr : (xM X).sig.returnType = (some .int)) (v : VM) (a1 : Int32) (a2 : Int32) : JS G 3 X (QM G X (fun x : Int32 => some (.int x)) (fun x : Int32 => ((c, (v, o)) : VA))) (f_X6_slotNow v a1 a2) (c, (v, o)) 0 [(0, .ref (G.2.2 114)), (1, .int a1), (2, .int a2)] [] := by
  unfold f_X6_slotNow
  refine j_aload_n C 0 0 rfl dX6_slotNow_0 ?_
  refine j_iload_n C 1 1 rfl dX6_slotNow_1 ?_
  refine j_bind (fun x2 h2 => ?_)
  refine j_vMo_i (As := [.int a1]) (st := []) C k_X6_isThere 2 (c_X6_isThere C.2.2.2.2.2.2.1 _ _ h2) rfl rfl ml_X6_102 ii_X6_isThere is_X6_isThere dX6_slotNow_2 (by decide) rfl (Nat.le_of_ble_eq_true rfl) ?_ rfl
  refine j_if_ne C 5 10 dX6_slotNow_5 (by decide) (fun c5 => ?_) (fun c5 => ?_)
  · refine j_iconst (v := (-1)) C 8 dX6_slotNow_8 rfl ?_
    exact j_iret C 9 hr rfl rfl dX6_slotNow_9
  · refine j_iload_n C 10 2 rfl dX6_slotNow_10 ?_
    refine j_case (off := 25) C 11 36 dX6_slotNow_11 (by decide) (by decide) (by decide) (fun c11_5 => ?_) (fun c11_5 => ?_)
    · refine j_aload_n C 36 0 rfl dX6_slotNow_36 ?_
      refine j_iload_n C 37 1 rfl dX6_slotNow_37 ?_
      refine j_bipush (v := 6) C 38 dX6_slotNow_38 rfl ?_
      refine j_bind (fun x40 h40 => ?_)
      refine j_vMo_i (As := [.int a1, .int 6]) (st := []) C k_X6_of 40 (c_X6_of C.2.2.2.2.2.2.1 _ _ _ h40) rfl rfl ml_X6_33 ii_X6_of is_X6_of dX6_slotNow_40 (by decide) rfl (Nat.le_of_ble_eq_true rfl) ?_ rfl
      exact j_iret C 43 hr rfl rfl dX6_slotNow_43
    · refine j_case (off := 33) C 11 44 dX6_slotNow_11 (by decide) (by decide) (by decide) (fun c11_6 => ?_) (fun c11_6 => ?_)
      · refine j_aload_n C 44 0 rfl dX6_slotNow_44 ?_
        refine j_iload_n C 45 1 rfl dX6_slotNow_45 ?_
        refine j_iconst (v := 2) C 46 dX6_slotNow_46 rfl ?_
        refine j_bind (fun x47 h47 => ?_)
        refine j_vMo_i (As := [.int a1, .int 2]) (st := []) C k_X6_of 47 (c_X6_of C.2.2.2.2.2.2.1 _ _ _ h47) rfl rfl ml_X6_33 ii_X6_of is_X6_of dX6_slotNow_47 (by decide) rfl (Nat.le_of_ble_eq_true rfl) ?_ rfl
        refine j_iconst (v := 2) C 50 dX6_slotNow_50 rfl ?_
        refine j_icmp_ne C 51 64 dX6_slotNow_51 (by decide) (fun c51 => ?_) (fun c51 => ?_)
        · refine j_aload_n C 54 0 rfl dX6_slotNow_54 ?_
          refine j_iload_n C 55 1 rfl dX6_slotNow_55 ?_
          refine j_bipush (v := 7) C 56 dX6_slotNow_56 rfl ?_
          refine j_bind (fun x58 h58 => ?_)
          refine j_vMo_i (As := [.int a1, .int 7]) (st := []) C k_X6_of 58 (c_X6_of C.2.2.2.2.2.2.1 _ _ _ h58) rfl rfl ml_X6_33 ii_X6_of is_X6_of dX6_slotNow_58 (by decide) rfl (Nat.le_of_ble_eq_true rfl) ?_ rfl
          refine j_goto C 61 65 dX6_slotNow_61 (by decide) ?_
          exact j_iret C 65 hr rfl rfl dX6_slotNow_65
        · refine j_iconst (v := (-1)) C 64 dX6_slotNow_64 rfl ?_
          exact j_iret C 65 hr rfl rfl dX6_slotNow_65
      · refine j_case (off := 55) C 11 66 dX6_slotNow_11 (by decide) (by decide) (by decide) (fun c11_7 => ?_) (fun c11_7 => ?_)
        · refine j_aload_n C 66 0 rfl dX6_slotNow_66 ?_
          refine j_iload_n C 67 1 rfl dX6_slotNow_67 ?_
          refine j_bipush (v := 8) C 68 dX6_slotNow_68 rfl ?_
          refine j_bind (fun x70 h70 => ?_)
          refine j_vMo_i (As := [.int a1, .int 8]) (st := []) C k_X6_of 70 (c_X6_of C.2.2.2.2.2.2.1 _ _ _ h70) rfl rfl ml_X6_33 ii_X6_of is_X6_of dX6_slotNow_70 (by decide) rfl (Nat.le_of_ble_eq_true rfl) ?_ rfl
          exact j_iret C 73 hr rfl rfl dX6_slotNow_73
        · refine j_dflt C 11 74 dX6_slotNow_11 (by decide) (fun z h1 h2 e => ?_) ?_
          · rcases (show z = 5 ∨ z = 6 ∨ z = 7 by omega) with rfl | rfl | rfl
            · exact c11_5 (Int32.toInt_inj.mp e)
            · exact c11_6 (Int32.toInt_inj.mp e)
            · exact c11_7 (Int32.toInt_inj.mp e)
          · refine j_aload_n C 74 0 rfl dX6_slotNow_74 ?_
            refine j_iload_n C 75 1 rfl dX6_slotNow_75 ?_
            refine j_iconst (v := 1) C 76 dX6_slotNow_76 rfl ?_
            refine j_iload_n C 77 2 rfl dX6_slotNow_77 ?_
            refine j_iadd C 78 dX6_slotNow_78 ?_
            refine j_bind (fun x79 h79 => ?_)
            refine j_vMo_i (As := [.int a1, .int (1 + a2)]) (st := []) C k_X6_of 79 (c_X6_of C.2.2.2.2.2.2.1 _ _ _ h79) rfl rfl ml_X6_33 ii_X6_of is_X6_of dX6_slotNow_79 (by decide) rfl (Nat.le_of_ble_eq_true rfl) ?_ rfl
            exact j_iret C 82 hr rfl rfl dX6_slotNow_82
theorem c_X6_slotNow {G : GG} {l : Launch} (hG : Gok G) {c : VC} {o : Nat → Int64} (v : VM) (a1 : Int32) (a2 : Int32) {x : Int32} (hf : f_X6_slotNow v a1 a2 = some x) : Ct l yX6_slotNow cX6_slotNow 3 (some .int) 2 [.ref (G.2.2 114), .int a1, .int a2] G (c, (v, o)) (some (.int x)) (c, (v, o)) := by
  refine ct_of (rv := fun x : Int32 => (some (.int x))) (fin := fun x : Int32 => ((c, (v, o)) : VA)) (own := RX6) hG (plainFor_of_name (by decide)) rfl (Nat.le_of_ble_eq_true rfl) (fun X C hr _ => ?_) hf
  exact w_X6_slotNow C hr v a1 a2
set_option maxRecDepth 100000 in
set_option maxHeartbeats 4000000 in
theorem wb_X6_slot_27 {G : GG} {X : WX} {c : VC} {o : Nat → Int64} (C : Cx G 3 X RX6 cX6_slot 3) (hr : (xM X).sig.returnType = (some .int)) (v : VM) (s1 : Int32) (s2 : Int32) (t0 : Int32) : JS G 3 X (QM G X (fun x : (Int32 × VM) => some (.int x.1)) (fun x : (Int32 × VM) => ((c, (x.2, o)) : VA))) (b_X6_slot_27 v s1 s2 t0) (c, (v, o)) 27 [(0, .ref (G.2.2 114)), (1, .int s1), (2, .int s2)] [.int t0, .ref (G.2.2 114)] := by
  unfold b_X6_slot_27
  refine p_Mo0 C 27 fl_X6_25 dX6_slot_27 ?_
  refine j_V (V' := (c, ((t0, v.2), o))) rfl ?_
  refine j_aload_n C 30 0 rfl dX6_slot_30 ?_
  refine g_Mo0 C 31 (Or.inl fl_X6_25) dX6_slot_31 ?_
  refine j_if_le C 34 41 dX6_slot_34 (by decide) (fun c34 => ?_) (fun c34 => ?_)
  · refine j_iconst (v := 0) C 37 dX6_slot_37 rfl ?_
    refine j_goto C 38 47 dX6_slot_38 (by decide) ?_
    exact j_iret C 47 hr rfl rfl dX6_slot_47
  · refine j_aload_n C 41 0 rfl dX6_slot_41 ?_
    refine j_iload_n C 42 1 rfl dX6_slot_42 ?_
    refine j_iload_n C 43 2 rfl dX6_slot_43 ?_
    refine j_bind (fun x44 h44 => ?_)
    refine j_vMo_i (As := [.int s1, .int s2]) (st := []) C k_X6_slotNow 44 (c_X6_slotNow C.2.2.2.2.2.2.1 _ _ _ h44) rfl rfl ml_X6_183 ii_X6_slotNow is_X6_slotNow dX6_slot_44 (by decide) rfl (Nat.le_of_ble_eq_true rfl) ?_ rfl
    exact j_iret C 47 hr rfl rfl dX6_slot_47
set_option maxRecDepth 100000 in
set_option maxHeartbeats 4000000 in
theorem w_X6_slot {G : GG} {X : WX} {c : VC} {o : Nat → Int64} (C : Cx G 3 X RX6 cX6_slot 3) (hr : (xM X).sig.returnType = (some .int)) (v : VM) (a1 : Int32) (a2 : Int32) : JS G 3 X (QM G X (fun x : (Int32 × VM) => some (.int x.1)) (fun x : (Int32 × VM) => ((c, (x.2, o)) : VA))) (f_X6_slot v a1 a2) (c, (v, o)) 0 [(0, .ref (G.2.2 114)), (1, .int a1), (2, .int a2)] [] := by
  unfold f_X6_slot
  refine j_aload_n C 0 0 rfl dX6_slot_0 ?_
  refine j_iload_n C 1 1 rfl dX6_slot_1 ?_
  refine j_bind (fun x2 h2 => ?_)
  refine j_callS_i (As := [.int a1]) (st := [.ref (G.2.2 114)]) C k_X6_isSlot 2 (c_X6_isSlot C.2.2.2.2.2.2.1 (c := c) _ h2) rfl ml_X6_111 st_X6_isSlot dX6_slot_2 (by decide) rfl (Nat.le_of_ble_eq_true rfl) ?_ rfl
  refine j_if_ne C 5 12 dX6_slot_5 (by decide) (fun c5 => ?_) (fun c5 => ?_)
  · refine j_iconst (v := 1) C 8 dX6_slot_8 rfl ?_
    refine j_goto C 9 27 dX6_slot_9 (by decide) ?_
    exact wb_X6_slot_27 C hr v a1 a2 1
  · refine j_iload_n C 12 2 rfl dX6_slot_12 ?_
    refine j_iconst (v := 0) C 13 dX6_slot_13 rfl ?_
    refine j_bipush (v := 7) C 14 dX6_slot_14 rfl ?_
    refine j_bind (fun x16 h16 => ?_)
    refine j_callS_i (As := [.int a2, .int 0, .int 7]) (st := [.ref (G.2.2 114)]) C k_X6_in 16 (c_X6_in C.2.2.2.2.2.2.1 (c := c) _ _ _ h16) rfl ml_X6_29 st_X6_in dX6_slot_16 (by decide) rfl (Nat.le_of_ble_eq_true rfl) ?_ rfl
    refine j_if_eq C 19 26 dX6_slot_19 (by decide) (fun c19 => ?_) (fun c19 => ?_)
    · refine j_iconst (v := 2) C 26 dX6_slot_26 rfl ?_
      exact wb_X6_slot_27 C hr v a1 a2 2
    · refine j_iconst (v := 0) C 22 dX6_slot_22 rfl ?_
      refine j_goto C 23 27 dX6_slot_23 (by decide) ?_
      exact wb_X6_slot_27 C hr v a1 a2 0
theorem c_X6_slot {G : GG} {l : Launch} (hG : Gok G) {c : VC} {o : Nat → Int64} (v : VM) (a1 : Int32) (a2 : Int32) {x : (Int32 × VM)} (hf : f_X6_slot v a1 a2 = some x) : Ct l yX6_slot cX6_slot 3 (some .int) 3 [.ref (G.2.2 114), .int a1, .int a2] G (c, (v, o)) (some (.int x.1)) (c, (x.2, o)) := by
  refine ct_of (rv := fun x : (Int32 × VM) => (some (.int x.1))) (fin := fun x : (Int32 × VM) => ((c, (x.2, o)) : VA)) (own := RX6) hG (plainFor_of_name (by decide)) rfl (Nat.le_of_ble_eq_true rfl) (fun X C hr _ => ?_) hf
  exact w_X6_slot C hr v a1 a2
set_option maxRecDepth 100000 in
set_option maxHeartbeats 4000000 in
theorem w_X6_whereNow {G : GG} {X : WX} {c : VC} {o : Nat → Int64} (C : Cx G 4 X RX6 cX6_whereNow 6) (hr : (xM X).sig.returnType = (some .int)) (v : VM) (a1 : Int32) (a2 : Int32) : JS G 4 X (QM G X (fun x : Int32 => some (.int x)) (fun x : Int32 => ((c, (v, o)) : VA))) (f_X6_whereNow v a1 a2) (c, (v, o)) 0 [(0, .ref (G.2.2 114)), (1, .int a1), (2, .int a2)] [] := by
  unfold f_X6_whereNow
  refine j_aload_n C 0 0 rfl dX6_whereNow_0 ?_
  refine j_iload_n C 1 1 rfl dX6_whereNow_1 ?_
  refine j_bind (fun x2 h2 => ?_)
  refine j_vMo_i (As := [.int a1]) (st := []) C k_X6_slotOf 2 (c_X6_slotOf C.2.2.2.2.2.2.1 _ _ h2) rfl rfl ml_X6_73 ii_X6_slotOf is_X6_slotOf dX6_whereNow_2 (by decide) rfl (Nat.le_of_ble_eq_true rfl) ?_ rfl
  refine j_istore_n (L1 := [(3, .int x2), (0, .ref (G.2.2 114)), (1, .int a1), (2, .int a2)]) C 5 rfl dX6_whereNow_5 (by decide) rfl ?_
  refine j_iload_n C 6 3 rfl dX6_whereNow_6 ?_
  refine j_case (off := 37) C 7 44 dX6_whereNow_7 (by decide) (by decide) (by decide) (fun c7_0 => ?_) (fun c7_0 => ?_)
  · refine j_iload_n C 44 0 rfl dX6_whereNow_44 ?_
    exact j_iret C 45 hr rfl rfl dX6_whereNow_45
  · refine j_case (off := 39) C 7 46 dX6_whereNow_7 (by decide) (by decide) (by decide) (fun c7_1 => ?_) (fun c7_1 => ?_)
    · refine j_aload_n C 46 1 rfl dX6_whereNow_46 ?_
      refine j_iload_n C 47 2 rfl dX6_whereNow_47 ?_
      refine j_bind (fun x48 h48 => ?_)
      refine j_vMo_i (As := [.int a1]) (st := []) C k_X6_numberOf 48 (c_X6_numberOf C.2.2.2.2.2.2.1 _ _ h48) rfl rfl ml_X6_83 ii_X6_numberOf is_X6_numberOf dX6_whereNow_48 (by decide) rfl (Nat.le_of_ble_eq_true rfl) ?_ rfl
      exact j_iret C 51 hr rfl rfl dX6_whereNow_51
    · refine j_case (off := 45) C 7 52 dX6_whereNow_7 (by decide) (by decide) (by decide) (fun c7_2 => ?_) (fun c7_2 => ?_)
      · refine j_aload_n C 52 1 rfl dX6_whereNow_52 ?_
        refine j_iload_n C 53 0 rfl dX6_whereNow_53 ?_
        refine j_iconst (v := 5) C 54 dX6_whereNow_54 rfl ?_
        refine j_bind (fun x55 h55 => ?_)
        refine j_vMo_i (As := [.int x2, .int 5]) (st := []) C k_X6_of 55 (c_X6_of C.2.2.2.2.2.2.1 _ _ _ h55) rfl rfl ml_X6_33 ii_X6_of is_X6_of dX6_whereNow_55 (by decide) rfl (Nat.le_of_ble_eq_true rfl) ?_ rfl
        refine j_iconst (v := 1) C 58 dX6_whereNow_58 rfl ?_
        refine j_icmp_ne C 59 75 dX6_whereNow_59 (by decide) (fun c59 => ?_) (fun c59 => ?_)
        · refine j_aload_n C 62 1 rfl dX6_whereNow_62 ?_
          refine j_iload_n C 63 0 rfl dX6_whereNow_63 ?_
          refine j_aload_n C 64 1 rfl dX6_whereNow_64 ?_
          refine j_iload_n C 65 2 rfl dX6_whereNow_65 ?_
          refine j_bind (fun x66 h66 => ?_)
          refine j_vMo_i (As := [.int a1]) (st := [.int x2, .ref (G.2.2 114)]) C k_X6_numberOf 66 (c_X6_numberOf C.2.2.2.2.2.2.1 _ _ h66) rfl rfl ml_X6_83 ii_X6_numberOf is_X6_numberOf dX6_whereNow_66 (by decide) rfl (Nat.le_of_ble_eq_true rfl) ?_ rfl
          refine j_bind (fun x69 h69 => ?_)
          refine j_vMo_i (As := [.int x2, .int x66]) (st := []) C k_X6_rankOf 69 (c_X6_rankOf C.2.2.2.2.2.2.1 _ _ _ h69) rfl rfl ml_X6_137 ii_X6_rankOf is_X6_rankOf dX6_whereNow_69 (by decide) rfl (Nat.le_of_ble_eq_true rfl) ?_ rfl
          refine j_goto C 72 76 dX6_whereNow_72 (by decide) ?_
          exact j_iret C 76 hr rfl rfl dX6_whereNow_76
        · refine j_iconst (v := (-1)) C 75 dX6_whereNow_75 rfl ?_
          exact j_iret C 76 hr rfl rfl dX6_whereNow_76
      · refine j_case (off := 70) C 7 77 dX6_whereNow_7 (by decide) (by decide) (by decide) (fun c7_3 => ?_) (fun c7_3 => ?_)
        · refine j_aload_n C 77 1 rfl dX6_whereNow_77 ?_
          refine g_Mo1 C 78 (Or.inl fl_X6_7) dX6_whereNow_78 ?_
          refine j_bipush (v := 40) C 81 dX6_whereNow_81 rfl ?_
          refine j_bind (fun x83 h83 => ?_)
          refine l_Mo1 C 83 h83 dX6_whereNow_83 ?_
          refine j_iconst (v := 2) C 84 dX6_whereNow_84 rfl ?_
          refine j_icmp_ne C 85 92 dX6_whereNow_85 (by decide) (fun c85 => ?_) (fun c85 => ?_)
          · refine j_iconst (v := 2) C 88 dX6_whereNow_88 rfl ?_
            refine j_goto C 89 105 dX6_whereNow_89 (by decide) ?_
            exact j_iret C 105 hr rfl rfl dX6_whereNow_105
          · refine j_iload_n C 92 2 rfl dX6_whereNow_92 ?_
            refine j_aload_n C 93 1 rfl dX6_whereNow_93 ?_
            refine j_bind (fun x94 h94 => ?_)
            refine j_vMo_i (As := []) (st := [.int a1]) C k_X6_wideBlocks 94 (c_X6_wideBlocks C.2.2.2.2.2.2.1 _ h94) rfl rfl ml_X6_58 ii_X6_wideBlocks is_X6_wideBlocks dX6_whereNow_94 (by decide) rfl (Nat.le_of_ble_eq_true rfl) ?_ rfl
            refine j_icmp_ge C 97 104 dX6_whereNow_97 (by decide) (fun c97 => ?_) (fun c97 => ?_)
            · refine j_iconst (v := 1) C 100 dX6_whereNow_100 rfl ?_
              refine j_goto C 101 105 dX6_whereNow_101 (by decide) ?_
              exact j_iret C 105 hr rfl rfl dX6_whereNow_105
            · refine j_iconst (v := 0) C 104 dX6_whereNow_104 rfl ?_
              exact j_iret C 105 hr rfl rfl dX6_whereNow_105
        · refine j_case (off := 99) C 7 106 dX6_whereNow_7 (by decide) (by decide) (by decide) (fun c7_4 => ?_) (fun c7_4 => ?_)
          · refine j_aload_n C 106 1 rfl dX6_whereNow_106 ?_
            refine j_iload_n C 107 2 rfl dX6_whereNow_107 ?_
            refine j_bind (fun x108 h108 => ?_)
            refine j_vMo_i (As := [.int a1]) (st := []) C k_X6_secondSlot 108 (c_X6_secondSlot C.2.2.2.2.2.2.1 _ _ h108) rfl rfl ml_X6_80 ii_X6_secondSlot is_X6_secondSlot dX6_whereNow_108 (by decide) rfl (Nat.le_of_ble_eq_true rfl) ?_ rfl
            exact j_iret C 111 hr rfl rfl dX6_whereNow_111
          · refine j_case (off := 105) C 7 112 dX6_whereNow_7 (by decide) (by decide) (by decide) (fun c7_5 => ?_) (fun c7_5 => ?_)
            · refine j_aload_n C 112 1 rfl dX6_whereNow_112 ?_
              refine j_iload_n C 113 2 rfl dX6_whereNow_113 ?_
              refine j_bind (fun x114 h114 => ?_)
              refine j_vMo_i (As := [.int a1]) (st := []) C k_X6_secondNumber 114 (c_X6_secondNumber C.2.2.2.2.2.2.1 _ _ h114) rfl rfl ml_X6_86 ii_X6_secondNumber is_X6_secondNumber dX6_whereNow_114 (by decide) rfl (Nat.le_of_ble_eq_true rfl) ?_ rfl
              exact j_iret C 117 hr rfl rfl dX6_whereNow_117
            · refine j_dflt C 7 118 dX6_whereNow_7 (by decide) (fun z h1 h2 e => ?_) ?_
              · rcases (show z = 0 ∨ z = 1 ∨ z = 2 ∨ z = 3 ∨ z = 4 ∨ z = 5 by omega) with rfl | rfl | rfl | rfl | rfl | rfl
                · exact c7_0 (Int32.toInt_inj.mp e)
                · exact c7_1 (Int32.toInt_inj.mp e)
                · exact c7_2 (Int32.toInt_inj.mp e)
                · exact c7_3 (Int32.toInt_inj.mp e)
                · exact c7_4 (Int32.toInt_inj.mp e)
                · exact c7_5 (Int32.toInt_inj.mp e)
              · refine j_aload_n C 118 1 rfl dX6_whereNow_118 ?_
                refine j_iload_n C 119 2 rfl dX6_whereNow_119 ?_
                refine j_bind (fun x120 h120 => ?_)
                refine j_vMo_i (As := [.int a1]) (st := []) C k_X6_isLeftFor 120 (c_X6_isLeftFor C.2.2.2.2.2.2.1 _ _ h120) rfl rfl ml_X6_131 ii_X6_isLeftFor is_X6_isLeftFor dX6_whereNow_120 (by decide) rfl (Nat.le_of_ble_eq_true rfl) ?_ rfl
                refine j_if_eq C 123 130 dX6_whereNow_123 (by decide) (fun c123 => ?_) (fun c123 => ?_)
                · refine j_iconst (v := 0) C 130 dX6_whereNow_130 rfl ?_
                  exact j_iret C 131 hr rfl rfl dX6_whereNow_131
                · refine j_iconst (v := 1) C 126 dX6_whereNow_126 rfl ?_
                  refine j_goto C 127 131 dX6_whereNow_127 (by decide) ?_
                  exact j_iret C 131 hr rfl rfl dX6_whereNow_131
theorem c_X6_whereNow {G : GG} {l : Launch} (hG : Gok G) {c : VC} {o : Nat → Int64} (v : VM) (a1 : Int32) (a2 : Int32) {x : Int32} (hf : f_X6_whereNow v a1 a2 = some x) : Ct l yX6_whereNow cX6_whereNow 4 (some .int) 6 [.ref (G.2.2 114), .int a1, .int a2] G (c, (v, o)) (some (.int x)) (c, (v, o)) := by
  refine ct_of (rv := fun x : Int32 => (some (.int x))) (fin := fun x : Int32 => ((c, (v, o)) : VA)) (own := RX6) hG (plainFor_of_name (by decide)) rfl (Nat.le_of_ble_eq_true rfl) (fun X C hr _ => ?_) hf
  exact w_X6_whereNow C hr v a1 a2
set_option maxRecDepth 100000 in
set_option maxHeartbeats 4000000 in
theorem wb_X6_where_28 {G : GG} {X : WX} {c : VC} {o : Nat → Int64} (C : Cx G 3 X RX6 cX6_where 7) (hr : (xM X).sig.returnType = (some .int)) (v : VM) (s1 : Int32) (s2 : Int32) (t0 : Int32) : JS G 3 X (QM G X (fun x : (Int32 × VM) => some (.int x.1)) (fun x : (Int32 × VM) => ((c, (x.2, o)) : VA))) (b_X6_where_28 v s1 s2 t0) (c, (v, o)) 28 [(0, .ref (G.2.2 114)), (1, .int s1), (2, .int s2)] [.int t0, .ref (G.2.2 114)] := by
  unfold b_X6_where_28
  refine p_Mo0 C 28 fl_X6_25 dX6_where_28 ?_
  refine j_V (V' := (c, ((t0, v.2), o))) rfl ?_
  refine j_aload_n C 31 0 rfl dX6_where_31 ?_
  refine g_Mo0 C 32 (Or.inl fl_X6_25) dX6_where_32 ?_
  refine j_if_le C 35 42 dX6_where_35 (by decide) (fun c35 => ?_) (fun c35 => ?_)
  · refine j_iconst (v := 0) C 38 dX6_where_38 rfl ?_
    refine j_goto C 39 48 dX6_where_39 (by decide) ?_
    exact j_iret C 48 hr rfl rfl dX6_where_48
  · refine j_aload_n C 42 0 rfl dX6_where_42 ?_
    refine j_iload_n C 43 1 rfl dX6_where_43 ?_
    refine j_iload_n C 44 2 rfl dX6_where_44 ?_
    refine j_bind (fun x45 h45 => ?_)
    refine j_vMo_i (As := [.int s1, .int s2]) (st := []) C k_X6_whereNow 45 (c_X6_whereNow C.2.2.2.2.2.2.1 _ _ _ h45) rfl rfl ml_X6_186 ii_X6_whereNow is_X6_whereNow dX6_where_45 (by decide) rfl (Nat.le_of_ble_eq_true rfl) ?_ rfl
    exact j_iret C 48 hr rfl rfl dX6_where_48
set_option maxRecDepth 100000 in
set_option maxHeartbeats 4000000 in
theorem w_X6_where {G : GG} {X : WX} {c : VC} {o : Nat → Int64} (C : Cx G 3 X RX6 cX6_where 7) (hr : (xM X).sig.returnType = (some .int)) (v : VM) (a1 : Int32) (a2 : Int32) : JS G 3 X (QM G X (fun x : (Int32 × VM) => some (.int x.1)) (fun x : (Int32 × VM) => ((c, (x.2, o)) : VA))) (f_X6_where v a1 a2) (c, (v, o)) 0 [(0, .ref (G.2.2 114)), (1, .int a1), (2, .int a2)] [] := by
  unfold f_X6_where
  refine j_aload_n C 0 0 rfl dX6_where_0 ?_
  refine j_aload_n C 1 0 rfl dX6_where_1 ?_
  refine j_iload_n C 2 1 rfl dX6_where_2 ?_
  refine j_bind (fun x3 h3 => ?_)
  refine j_vMo_i (As := [.int a1]) (st := [.ref (G.2.2 114)]) C k_X6_isBlock 3 (c_X6_isBlock C.2.2.2.2.2.2.1 _ _ h3) rfl rfl ml_X6_128 ii_X6_isBlock is_X6_isBlock dX6_where_3 (by decide) rfl (Nat.le_of_ble_eq_true rfl) ?_ rfl
  refine j_if_ne C 6 13 dX6_where_6 (by decide) (fun c6 => ?_) (fun c6 => ?_)
  · refine j_iconst (v := 1) C 9 dX6_where_9 rfl ?_
    refine j_goto C 10 28 dX6_where_10 (by decide) ?_
    exact wb_X6_where_28 C hr v a1 a2 1
  · refine j_iload_n C 13 2 rfl dX6_where_13 ?_
    refine j_iconst (v := 0) C 14 dX6_where_14 rfl ?_
    refine j_bipush (v := 6) C 15 dX6_where_15 rfl ?_
    refine j_bind (fun x17 h17 => ?_)
    refine j_callS_i (As := [.int a2, .int 0, .int 6]) (st := [.ref (G.2.2 114)]) C k_X6_in 17 (c_X6_in C.2.2.2.2.2.2.1 (c := c) _ _ _ h17) rfl ml_X6_29 st_X6_in dX6_where_17 (by decide) rfl (Nat.le_of_ble_eq_true rfl) ?_ rfl
    refine j_if_eq C 20 27 dX6_where_20 (by decide) (fun c20 => ?_) (fun c20 => ?_)
    · refine j_iconst (v := 2) C 27 dX6_where_27 rfl ?_
      exact wb_X6_where_28 C hr v a1 a2 2
    · refine j_iconst (v := 0) C 23 dX6_where_23 rfl ?_
      refine j_goto C 24 28 dX6_where_24 (by decide) ?_
      exact wb_X6_where_28 C hr v a1 a2 0
theorem c_X6_where {G : GG} {l : Launch} (hG : Gok G) {c : VC} {o : Nat → Int64} (v : VM) (a1 : Int32) (a2 : Int32) {x : (Int32 × VM)} (hf : f_X6_where v a1 a2 = some x) : Ct l yX6_where cX6_where 3 (some .int) 7 [.ref (G.2.2 114), .int a1, .int a2] G (c, (v, o)) (some (.int x.1)) (c, (x.2, o)) := by
  refine ct_of (rv := fun x : (Int32 × VM) => (some (.int x.1))) (fin := fun x : (Int32 × VM) => ((c, (x.2, o)) : VA)) (own := RX6) hG (plainFor_of_name (by decide)) rfl (Nat.le_of_ble_eq_true rfl) (fun X C hr _ => ?_) hf
  exact w_X6_where C hr v a1 a2
set_option maxRecDepth 100000 in
set_option maxHeartbeats 4000000 in
theorem wb_X6_lies_23 {G : GG} {X : WX} {c : VC} {o : Nat → Int64} (C : Cx G 3 X RX6 cX6_lies 3) (hr : (xM X).sig.returnType = (some .int)) (v : VM) (s1 : Int32) (s2 : Int32) (t0 : Int32) : JS G 3 X (QM G X (fun x : (Int32 × VM) => some (.int x.1)) (fun x : (Int32 × VM) => ((c, (x.2, o)) : VA))) (b_X6_lies_23 v s1 s2 t0) (c, (v, o)) 23 [(0, .ref (G.2.2 114)), (1, .int s1), (2, .int s2)] [.int t0, .ref (G.2.2 114)] := by
  unfold b_X6_lies_23
  refine p_Mo0 C 23 fl_X6_25 dX6_lies_23 ?_
  refine j_V (V' := (c, ((t0, v.2), o))) rfl ?_
  refine j_aload_n C 26 0 rfl dX6_lies_26 ?_
  refine g_Mo0 C 27 (Or.inl fl_X6_25) dX6_lies_27 ?_
  refine j_if_le C 30 37 dX6_lies_30 (by decide) (fun c30 => ?_) (fun c30 => ?_)
  · refine j_iconst (v := 0) C 33 dX6_lies_33 rfl ?_
    refine j_goto C 34 43 dX6_lies_34 (by decide) ?_
    exact j_iret C 43 hr rfl rfl dX6_lies_43
  · refine j_aload_n C 37 0 rfl dX6_lies_37 ?_
    refine j_iload_n C 38 1 rfl dX6_lies_38 ?_
    refine j_iload_n C 39 2 rfl dX6_lies_39 ?_
    refine j_bind (fun x40 h40 => ?_)
    refine j_vMo_i (As := [.int s1, .int s2]) (st := []) C k_X6_blockAt 40 (c_X6_blockAt C.2.2.2.2.2.2.1 _ _ _ h40) rfl rfl ml_X6_95 ii_X6_blockAt is_X6_blockAt dX6_lies_40 (by decide) rfl (Nat.le_of_ble_eq_true rfl) ?_ rfl
    exact j_iret C 43 hr rfl rfl dX6_lies_43
set_option maxRecDepth 100000 in
set_option maxHeartbeats 4000000 in
theorem w_X6_lies {G : GG} {X : WX} {c : VC} {o : Nat → Int64} (C : Cx G 3 X RX6 cX6_lies 3) (hr : (xM X).sig.returnType = (some .int)) (v : VM) (a1 : Int32) (a2 : Int32) : JS G 3 X (QM G X (fun x : (Int32 × VM) => some (.int x.1)) (fun x : (Int32 × VM) => ((c, (x.2, o)) : VA))) (f_X6_lies v a1 a2) (c, (v, o)) 0 [(0, .ref (G.2.2 114)), (1, .int a1), (2, .int a2)] [] := by
  unfold f_X6_lies
  refine j_aload_n C 0 0 rfl dX6_lies_0 ?_
  refine j_iload_n C 1 1 rfl dX6_lies_1 ?_
  refine j_bind (fun x2 h2 => ?_)
  refine j_callS_i (As := [.int a1]) (st := [.ref (G.2.2 114)]) C k_X6_isSlot 2 (c_X6_isSlot C.2.2.2.2.2.2.1 (c := c) _ h2) rfl ml_X6_111 st_X6_isSlot dX6_lies_2 (by decide) rfl (Nat.le_of_ble_eq_true rfl) ?_ rfl
  refine j_if_eq C 5 22 dX6_lies_5 (by decide) (fun c5 => ?_) (fun c5 => ?_)
  · refine j_iconst (v := 1) C 22 dX6_lies_22 rfl ?_
    exact wb_X6_lies_23 C hr v a1 a2 1
  · refine j_iload_n C 8 2 rfl dX6_lies_8 ?_
    refine j_iconst (v := 0) C 9 dX6_lies_9 rfl ?_
    refine j_bipush (v := 11) C 10 dX6_lies_10 rfl ?_
    refine j_bind (fun x12 h12 => ?_)
    refine j_callS_i (As := [.int a2, .int 0, .int 11]) (st := [.ref (G.2.2 114)]) C k_X6_in 12 (c_X6_in C.2.2.2.2.2.2.1 (c := c) _ _ _ h12) rfl ml_X6_29 st_X6_in dX6_lies_12 (by decide) rfl (Nat.le_of_ble_eq_true rfl) ?_ rfl
    refine j_if_eq C 15 22 dX6_lies_15 (by decide) (fun c15 => ?_) (fun c15 => ?_)
    · refine j_iconst (v := 1) C 22 dX6_lies_22 rfl ?_
      exact wb_X6_lies_23 C hr v a1 a2 1
    · refine j_iconst (v := 0) C 18 dX6_lies_18 rfl ?_
      refine j_goto C 19 23 dX6_lies_19 (by decide) ?_
      exact wb_X6_lies_23 C hr v a1 a2 0
theorem c_X6_lies {G : GG} {l : Launch} (hG : Gok G) {c : VC} {o : Nat → Int64} (v : VM) (a1 : Int32) (a2 : Int32) {x : (Int32 × VM)} (hf : f_X6_lies v a1 a2 = some x) : Ct l yX6_lies cX6_lies 3 (some .int) 3 [.ref (G.2.2 114), .int a1, .int a2] G (c, (v, o)) (some (.int x.1)) (c, (x.2, o)) := by
  refine ct_of (rv := fun x : (Int32 × VM) => (some (.int x.1))) (fin := fun x : (Int32 × VM) => ((c, (x.2, o)) : VA)) (own := RX6) hG (plainFor_of_name (by decide)) rfl (Nat.le_of_ble_eq_true rfl) (fun X C hr _ => ?_) hf
  exact w_X6_lies C hr v a1 a2
set_option maxRecDepth 100000 in
set_option maxHeartbeats 4000000 in
theorem wl_X6_lost_4 {G : GG} {X : WX} {c : VC} {o : Nat → Int64} (C : Cx G 3 X RX6 cX6_lost 6) (hr : (xM X).sig.returnType = (some .int)) (v : VM) : ∀ (n : Nat) (s1 : Int32) (s2 : Int32), JS G 3 X (QM G X (fun x : Int32 => some (.int x)) (fun x : Int32 => ((c, (v, o)) : VA))) (l_X6_lost_4 v n s1 s2) (c, (v, o)) 4 [(0, .ref (G.2.2 114)), (1, .int s1), (2, .int s2)] [] := by
  intro n
  induction n with
  | zero => intro _ _; exact j_none
  | succ n ih =>
    intro s1 s2
    unfold l_X6_lost_4
    refine j_iload_n C 4 2 rfl dX6_lost_4 ?_
    refine j_aload_n C 5 0 rfl dX6_lost_5 ?_
    refine j_bind (fun x6 h6 => ?_)
    refine j_vMo_i (As := []) (st := [.int s2]) C k_X6_blocks 6 (c_X6_blocks C.2.2.2.2.2.2.1 _ h6) rfl rfl ml_X6_55 ii_X6_blocks is_X6_blocks dX6_lost_6 (by decide) rfl (Nat.le_of_ble_eq_true rfl) ?_ rfl
    refine j_icmp_ge C 9 34 dX6_lost_9 (by decide) (fun c9 => ?_) (fun c9 => ?_)
    · refine j_iload_n C 12 1 rfl dX6_lost_12 ?_
      refine j_aload_n C 13 0 rfl dX6_lost_13 ?_
      refine j_iload_n C 14 2 rfl dX6_lost_14 ?_
      refine j_bind (fun x15 h15 => ?_)
      refine j_vMo_i (As := [.int s2]) (st := [.int s1]) C k_X6_isLeftFor 15 (c_X6_isLeftFor C.2.2.2.2.2.2.1 _ _ h15) rfl rfl ml_X6_131 ii_X6_isLeftFor is_X6_isLeftFor dX6_lost_15 (by decide) rfl (Nat.le_of_ble_eq_true rfl) ?_ rfl
      refine j_if_eq C 18 25 dX6_lost_18 (by decide) (fun c18 => ?_) (fun c18 => ?_)
      · refine j_iconst (v := 1) C 25 dX6_lost_25 rfl ?_
        refine j_iadd C 26 dX6_lost_26 ?_
        refine j_istore_n (L1 := [(1, .int (s1 + 1)), (0, .ref (G.2.2 114)), (2, .int s2)]) C 27 rfl dX6_lost_27 (by decide) rfl ?_
        refine j_iinc (v := (s2 + 1)) (L1 := [(2, .int (s2 + 1)), (1, .int (s1 + 1)), (0, .ref (G.2.2 114))]) C 28 2 rfl dX6_lost_28 rfl (by decide) rfl ?_
        refine j_goto C 31 4 dX6_lost_31 (by decide) ?_
        refine j_L (L' := [(0, .ref (G.2.2 114)), (1, .int (s1 + 1)), (2, .int (s2 + 1))]) [2, 1, 0] rfl ?_
        exact ih (s1 + 1) (s2 + 1)
      · refine j_iconst (v := 0) C 21 dX6_lost_21 rfl ?_
        refine j_goto C 22 26 dX6_lost_22 (by decide) ?_
        refine j_iadd C 26 dX6_lost_26 ?_
        refine j_istore_n (L1 := [(1, .int (s1 + 0)), (0, .ref (G.2.2 114)), (2, .int s2)]) C 27 rfl dX6_lost_27 (by decide) rfl ?_
        refine j_iinc (v := (s2 + 1)) (L1 := [(2, .int (s2 + 1)), (1, .int (s1 + 0)), (0, .ref (G.2.2 114))]) C 28 2 rfl dX6_lost_28 rfl (by decide) rfl ?_
        refine j_goto C 31 4 dX6_lost_31 (by decide) ?_
        refine j_L (L' := [(0, .ref (G.2.2 114)), (1, .int (s1 + 0)), (2, .int (s2 + 1))]) [2, 1, 0] rfl ?_
        exact ih (s1 + 0) (s2 + 1)
    · refine j_iload_n C 34 1 rfl dX6_lost_34 ?_
      exact j_iret C 35 hr rfl rfl dX6_lost_35
set_option maxRecDepth 100000 in
set_option maxHeartbeats 4000000 in
theorem w_X6_lost {G : GG} {X : WX} {c : VC} {o : Nat → Int64} (C : Cx G 3 X RX6 cX6_lost 6) (hr : (xM X).sig.returnType = (some .int)) (v : VM) : JS G 3 X (QM G X (fun x : Int32 => some (.int x)) (fun x : Int32 => ((c, (v, o)) : VA))) (f_X6_lost v) (c, (v, o)) 0 [(0, .ref (G.2.2 114))] [] := by
  unfold f_X6_lost
  refine j_iconst (v := 0) C 0 dX6_lost_0 rfl ?_
  refine j_istore_n (L1 := [(1, .int 0), (0, .ref (G.2.2 114))]) C 1 rfl dX6_lost_1 (by decide) rfl ?_
  refine j_iconst (v := 0) C 2 dX6_lost_2 rfl ?_
  refine j_istore_n (L1 := [(2, .int 0), (1, .int 0), (0, .ref (G.2.2 114))]) C 3 rfl dX6_lost_3 (by decide) rfl ?_
  refine j_L (L' := [(0, .ref (G.2.2 114)), (1, .int 0), (2, .int 0)]) [2, 1, 0] rfl ?_
  exact wl_X6_lost_4 C hr v FU 0 0
theorem c_X6_lost {G : GG} {l : Launch} (hG : Gok G) {c : VC} {o : Nat → Int64} (v : VM) {x : Int32} (hf : f_X6_lost v = some x) : Ct l yX6_lost cX6_lost 3 (some .int) 6 [.ref (G.2.2 114)] G (c, (v, o)) (some (.int x)) (c, (v, o)) := by
  refine ct_of (rv := fun x : Int32 => (some (.int x))) (fin := fun x : Int32 => ((c, (v, o)) : VA)) (own := RX6) hG (plainFor_of_name (by decide)) rfl (Nat.le_of_ble_eq_true rfl) (fun X C hr _ => ?_) hf
  exact w_X6_lost C hr v
set_option maxRecDepth 100000 in
set_option maxHeartbeats 4000000 in
theorem wl_X6_values_4 {G : GG} {X : WX} {c : VC} {o : Nat → Int64} (C : Cx G 3 X RX6 cX6_values 7) (hr : (xM X).sig.returnType = (some .int)) (v : VM) : ∀ (n : Nat) (s1 : Int32) (s2 : Int32), JS G 3 X (QM G X (fun x : Int32 => some (.int x)) (fun x : Int32 => ((c, (v, o)) : VA))) (l_X6_values_4 v n s1 s2) (c, (v, o)) 4 [(0, .ref (G.2.2 114)), (1, .int s1), (2, .int s2)] [] := by
  intro n
  induction n with
  | zero => intro _ _; exact j_none
  | succ n ih =>
    intro s1 s2
    unfold l_X6_values_4
    refine j_iload_n C 4 2 rfl dX6_values_4 ?_
    refine j_aload_n C 5 0 rfl dX6_values_5 ?_
    refine j_bind (fun x6 h6 => ?_)
    refine j_vMo_i (As := []) (st := [.int s2]) C k_X6_blocks 6 (c_X6_blocks C.2.2.2.2.2.2.1 _ h6) rfl rfl ml_X6_55 ii_X6_blocks is_X6_blocks dX6_values_6 (by decide) rfl (Nat.le_of_ble_eq_true rfl) ?_ rfl
    refine j_icmp_ge C 9 38 dX6_values_9 (by decide) (fun c9 => ?_) (fun c9 => ?_)
    · refine j_iload_n C 12 1 rfl dX6_values_12 ?_
      refine j_aload_n C 13 0 rfl dX6_values_13 ?_
      refine j_iload_n C 14 2 rfl dX6_values_14 ?_
      refine j_bind (fun x15 h15 => ?_)
      refine j_vMo_i (As := [.int s2]) (st := [.int s1]) C k_X6_isLeftFor 15 (c_X6_isLeftFor C.2.2.2.2.2.2.1 _ _ h15) rfl rfl ml_X6_131 ii_X6_isLeftFor is_X6_isLeftFor dX6_values_15 (by decide) rfl (Nat.le_of_ble_eq_true rfl) ?_ rfl
      refine j_if_eq C 18 29 dX6_values_18 (by decide) (fun c18 => ?_) (fun c18 => ?_)
      · refine j_iconst (v := 0) C 29 dX6_values_29 rfl ?_
        refine j_iadd C 30 dX6_values_30 ?_
        refine j_istore_n (L1 := [(1, .int (s1 + 0)), (0, .ref (G.2.2 114)), (2, .int s2)]) C 31 rfl dX6_values_31 (by decide) rfl ?_
        refine j_iinc (v := (s2 + 1)) (L1 := [(2, .int (s2 + 1)), (1, .int (s1 + 0)), (0, .ref (G.2.2 114))]) C 32 2 rfl dX6_values_32 rfl (by decide) rfl ?_
        refine j_goto C 35 4 dX6_values_35 (by decide) ?_
        refine j_L (L' := [(0, .ref (G.2.2 114)), (1, .int (s1 + 0)), (2, .int (s2 + 1))]) [2, 1, 0] rfl ?_
        exact ih (s1 + 0) (s2 + 1)
      · refine j_aload_n C 21 0 rfl dX6_values_21 ?_
        refine j_iload_n C 22 2 rfl dX6_values_22 ?_
        refine j_bind (fun x23 h23 => ?_)
        refine j_vMo_i (As := [.int s2]) (st := [.int s1]) C k_X6_valueOf 23 (c_X6_valueOf C.2.2.2.2.2.2.1 _ _ h23) rfl rfl ml_X6_134 ii_X6_valueOf is_X6_valueOf dX6_values_23 (by decide) rfl (Nat.le_of_ble_eq_true rfl) ?_ rfl
        refine j_goto C 26 30 dX6_values_26 (by decide) ?_
        refine j_iadd C 30 dX6_values_30 ?_
        refine j_istore_n (L1 := [(1, .int (s1 + x23)), (0, .ref (G.2.2 114)), (2, .int s2)]) C 31 rfl dX6_values_31 (by decide) rfl ?_
        refine j_iinc (v := (s2 + 1)) (L1 := [(2, .int (s2 + 1)), (1, .int (s1 + x23)), (0, .ref (G.2.2 114))]) C 32 2 rfl dX6_values_32 rfl (by decide) rfl ?_
        refine j_goto C 35 4 dX6_values_35 (by decide) ?_
        refine j_L (L' := [(0, .ref (G.2.2 114)), (1, .int (s1 + x23)), (2, .int (s2 + 1))]) [2, 1, 0] rfl ?_
        exact ih (s1 + x23) (s2 + 1)
    · refine j_iload_n C 38 1 rfl dX6_values_38 ?_
      exact j_iret C 39 hr rfl rfl dX6_values_39
set_option maxRecDepth 100000 in
set_option maxHeartbeats 4000000 in
theorem w_X6_values {G : GG} {X : WX} {c : VC} {o : Nat → Int64} (C : Cx G 3 X RX6 cX6_values 7) (hr : (xM X).sig.returnType = (some .int)) (v : VM) : JS G 3 X (QM G X (fun x : Int32 => some (.int x)) (fun x : Int32 => ((c, (v, o)) : VA))) (f_X6_values v) (c, (v, o)) 0 [(0, .ref (G.2.2 114))] [] := by
  unfold f_X6_values
  refine j_iconst (v := 0) C 0 dX6_values_0 rfl ?_
  refine j_istore_n (L1 := [(1, .int 0), (0, .ref (G.2.2 114))]) C 1 rfl dX6_values_1 (by decide) rfl ?_
  refine j_iconst (v := 0) C 2 dX6_values_2 rfl ?_
  refine j_istore_n (L1 := [(2, .int 0), (1, .int 0), (0, .ref (G.2.2 114))]) C 3 rfl dX6_values_3 (by decide) rfl ?_
  refine j_L (L' := [(0, .ref (G.2.2 114)), (1, .int 0), (2, .int 0)]) [2, 1, 0] rfl ?_
  exact wl_X6_values_4 C hr v FU 0 0
theorem c_X6_values {G : GG} {l : Launch} (hG : Gok G) {c : VC} {o : Nat → Int64} (v : VM) {x : Int32} (hf : f_X6_values v = some x) : Ct l yX6_values cX6_values 3 (some .int) 7 [.ref (G.2.2 114)] G (c, (v, o)) (some (.int x)) (c, (v, o)) := by
  refine ct_of (rv := fun x : Int32 => (some (.int x))) (fin := fun x : Int32 => ((c, (v, o)) : VA)) (own := RX6) hG (plainFor_of_name (by decide)) rfl (Nat.le_of_ble_eq_true rfl) (fun X C hr _ => ?_) hf
  exact w_X6_values C hr v
set_option maxRecDepth 100000 in
set_option maxHeartbeats 4000000 in
theorem w_X6_countNow {G : GG} {X : WX} {c : VC} {o : Nat → Int64} (C : Cx G 2 X RX6 cX6_countNow 8) (hr : (xM X).sig.returnType = (some .int)) (v : VM) (a1 : Int32) : JS G 2 X (QM G X (fun x : Int32 => some (.int x)) (fun x : Int32 => ((c, (v, o)) : VA))) (f_X6_countNow v a1) (c, (v, o)) 0 [(0, .ref (G.2.2 114)), (1, .int a1)] [] := by
  unfold f_X6_countNow
  refine j_iload_n C 0 1 rfl dX6_countNow_0 ?_
  refine j_case (off := 59) C 1 60 dX6_countNow_1 (by decide) (by decide) (by decide) (fun c1_0 => ?_) (fun c1_0 => ?_)
  · refine j_aload_n C 60 0 rfl dX6_countNow_60 ?_
    refine j_iconst (v := 0) C 61 dX6_countNow_61 rfl ?_
    refine j_bind (fun x62 h62 => ?_)
    refine j_vMo_i (As := [.int 0]) (st := []) C k_X6_sticks 62 (c_X6_sticks C.2.2.2.2.2.2.1 _ _ h62) rfl rfl ml_X6_114 ii_X6_sticks is_X6_sticks dX6_countNow_62 (by decide) rfl (Nat.le_of_ble_eq_true rfl) ?_ rfl
    exact j_iret C 65 hr rfl rfl dX6_countNow_65
  · refine j_case (off := 65) C 1 66 dX6_countNow_1 (by decide) (by decide) (by decide) (fun c1_1 => ?_) (fun c1_1 => ?_)
    · refine j_aload_n C 66 0 rfl dX6_countNow_66 ?_
      refine j_iconst (v := 1) C 67 dX6_countNow_67 rfl ?_
      refine j_bind (fun x68 h68 => ?_)
      refine j_vMo_i (As := [.int 1]) (st := []) C k_X6_sticks 68 (c_X6_sticks C.2.2.2.2.2.2.1 _ _ h68) rfl rfl ml_X6_114 ii_X6_sticks is_X6_sticks dX6_countNow_68 (by decide) rfl (Nat.le_of_ble_eq_true rfl) ?_ rfl
      exact j_iret C 71 hr rfl rfl dX6_countNow_71
    · refine j_case (off := 71) C 1 72 dX6_countNow_1 (by decide) (by decide) (by decide) (fun c1_2 => ?_) (fun c1_2 => ?_)
      · refine j_aload_n C 72 0 rfl dX6_countNow_72 ?_
        refine j_bind (fun x73 h73 => ?_)
        refine j_vMo_i (As := []) (st := []) C k_X6_blocks 73 (c_X6_blocks C.2.2.2.2.2.2.1 _ h73) rfl rfl ml_X6_55 ii_X6_blocks is_X6_blocks dX6_countNow_73 (by decide) rfl (Nat.le_of_ble_eq_true rfl) ?_ rfl
        exact j_iret C 76 hr rfl rfl dX6_countNow_76
      · refine j_case (off := 76) C 1 77 dX6_countNow_1 (by decide) (by decide) (by decide) (fun c1_3 => ?_) (fun c1_3 => ?_)
        · refine j_aload_n C 77 0 rfl dX6_countNow_77 ?_
          refine j_bind (fun x78 h78 => ?_)
          refine j_vMo_i (As := []) (st := []) C k_X6_wideBlocks 78 (c_X6_wideBlocks C.2.2.2.2.2.2.1 _ h78) rfl rfl ml_X6_58 ii_X6_wideBlocks is_X6_wideBlocks dX6_countNow_78 (by decide) rfl (Nat.le_of_ble_eq_true rfl) ?_ rfl
          exact j_iret C 81 hr rfl rfl dX6_countNow_81
        · refine j_case (off := 81) C 1 82 dX6_countNow_1 (by decide) (by decide) (by decide) (fun c1_4 => ?_) (fun c1_4 => ?_)
          · refine j_aload_n C 82 0 rfl dX6_countNow_82 ?_
            refine g_Mo1 C 83 (Or.inl fl_X6_7) dX6_countNow_83 ?_
            refine j_bipush (v := 41) C 86 dX6_countNow_86 rfl ?_
            refine j_bind (fun x88 h88 => ?_)
            refine l_Mo1 C 88 h88 dX6_countNow_88 ?_
            exact j_iret C 89 hr rfl rfl dX6_countNow_89
          · refine j_case (off := 89) C 1 90 dX6_countNow_1 (by decide) (by decide) (by decide) (fun c1_5 => ?_) (fun c1_5 => ?_)
            · refine j_aload_n C 90 0 rfl dX6_countNow_90 ?_
              refine g_Mo1 C 91 (Or.inl fl_X6_7) dX6_countNow_91 ?_
              refine j_bipush (v := 42) C 94 dX6_countNow_94 rfl ?_
              refine j_bind (fun x96 h96 => ?_)
              refine l_Mo1 C 96 h96 dX6_countNow_96 ?_
              exact j_iret C 97 hr rfl rfl dX6_countNow_97
            · refine j_case (off := 97) C 1 98 dX6_countNow_1 (by decide) (by decide) (by decide) (fun c1_6 => ?_) (fun c1_6 => ?_)
              · refine j_aload_n C 98 0 rfl dX6_countNow_98 ?_
                refine g_Mo1 C 99 (Or.inl fl_X6_7) dX6_countNow_99 ?_
                refine j_bipush (v := 43) C 102 dX6_countNow_102 rfl ?_
                refine j_bind (fun x104 h104 => ?_)
                refine l_Mo1 C 104 h104 dX6_countNow_104 ?_
                exact j_iret C 105 hr rfl rfl dX6_countNow_105
              · refine j_case (off := 105) C 1 106 dX6_countNow_1 (by decide) (by decide) (by decide) (fun c1_7 => ?_) (fun c1_7 => ?_)
                · refine j_aload_n C 106 0 rfl dX6_countNow_106 ?_
                  refine g_Mo1 C 107 (Or.inl fl_X6_7) dX6_countNow_107 ?_
                  refine j_bipush (v := 44) C 110 dX6_countNow_110 rfl ?_
                  refine j_bind (fun x112 h112 => ?_)
                  refine l_Mo1 C 112 h112 dX6_countNow_112 ?_
                  exact j_iret C 113 hr rfl rfl dX6_countNow_113
                · refine j_case (off := 113) C 1 114 dX6_countNow_1 (by decide) (by decide) (by decide) (fun c1_8 => ?_) (fun c1_8 => ?_)
                  · refine j_aload_n C 114 0 rfl dX6_countNow_114 ?_
                    refine j_bind (fun x115 h115 => ?_)
                    refine j_vMo_i (As := []) (st := []) C k_X6_lost 115 (c_X6_lost C.2.2.2.2.2.2.1 _ h115) rfl rfl ml_X6_189 ii_X6_lost is_X6_lost dX6_countNow_115 (by decide) rfl (Nat.le_of_ble_eq_true rfl) ?_ rfl
                    exact j_iret C 118 hr rfl rfl dX6_countNow_118
                  · refine j_case (off := 118) C 1 119 dX6_countNow_1 (by decide) (by decide) (by decide) (fun c1_9 => ?_) (fun c1_9 => ?_)
                    · refine j_aload_n C 119 0 rfl dX6_countNow_119 ?_
                      refine g_Mo1 C 120 (Or.inl fl_X6_7) dX6_countNow_120 ?_
                      refine j_bipush (v := 45) C 123 dX6_countNow_123 rfl ?_
                      refine j_bind (fun x125 h125 => ?_)
                      refine l_Mo1 C 125 h125 dX6_countNow_125 ?_
                      exact j_iret C 126 hr rfl rfl dX6_countNow_126
                    · refine j_case (off := 126) C 1 127 dX6_countNow_1 (by decide) (by decide) (by decide) (fun c1_10 => ?_) (fun c1_10 => ?_)
                      · refine j_aload_n C 127 0 rfl dX6_countNow_127 ?_
                        refine j_bind (fun x128 h128 => ?_)
                        refine j_vMo_i (As := []) (st := []) C k_X6_values 128 (c_X6_values C.2.2.2.2.2.2.1 _ h128) rfl rfl ml_X6_192 ii_X6_values is_X6_values dX6_countNow_128 (by decide) rfl (Nat.le_of_ble_eq_true rfl) ?_ rfl
                        exact j_iret C 131 hr rfl rfl dX6_countNow_131
                      · refine j_dflt C 1 132 dX6_countNow_1 (by decide) (fun z h1 h2 e => ?_) ?_
                        · rcases (show z = 0 ∨ z = 1 ∨ z = 2 ∨ z = 3 ∨ z = 4 ∨ z = 5 ∨ z = 6 ∨ z = 7 ∨ z = 8 ∨ z = 9 ∨ z = 10 by omega) with rfl | rfl | rfl | rfl | rfl | rfl | rfl | rfl | rfl | rfl | rfl
                          · exact c1_0 (Int32.toInt_inj.mp e)
                          · exact c1_1 (Int32.toInt_inj.mp e)
                          · exact c1_2 (Int32.toInt_inj.mp e)
                          · exact c1_3 (Int32.toInt_inj.mp e)
                          · exact c1_4 (Int32.toInt_inj.mp e)
                          · exact c1_5 (Int32.toInt_inj.mp e)
                          · exact c1_6 (Int32.toInt_inj.mp e)
                          · exact c1_7 (Int32.toInt_inj.mp e)
                          · exact c1_8 (Int32.toInt_inj.mp e)
                          · exact c1_9 (Int32.toInt_inj.mp e)
                          · exact c1_10 (Int32.toInt_inj.mp e)
                        · refine j_aload_n C 132 0 rfl dX6_countNow_132 ?_
                          refine g_Mo4 C 133 (Or.inl fl_X6_37) dX6_countNow_133 ?_
                          exact j_iret C 136 hr rfl rfl dX6_countNow_136
theorem c_X6_countNow {G : GG} {l : Launch} (hG : Gok G) {c : VC} {o : Nat → Int64} (v : VM) (a1 : Int32) {x : Int32} (hf : f_X6_countNow v a1 = some x) : Ct l yX6_countNow cX6_countNow 2 (some .int) 8 [.ref (G.2.2 114), .int a1] G (c, (v, o)) (some (.int x)) (c, (v, o)) := by
  refine ct_of (rv := fun x : Int32 => (some (.int x))) (fin := fun x : Int32 => ((c, (v, o)) : VA)) (own := RX6) hG (plainFor_of_name (by decide)) rfl (Nat.le_of_ble_eq_true rfl) (fun X C hr _ => ?_) hf
  exact w_X6_countNow C hr v a1
set_option maxRecDepth 100000 in
set_option maxHeartbeats 4000000 in
theorem wb_X6_count_16 {G : GG} {X : WX} {c : VC} {o : Nat → Int64} (C : Cx G 2 X RX6 cX6_count 9) (hr : (xM X).sig.returnType = (some .int)) (v : VM) (s1 : Int32) (t0 : Int32) : JS G 2 X (QM G X (fun x : (Int32 × VM) => some (.int x.1)) (fun x : (Int32 × VM) => ((c, (x.2, o)) : VA))) (b_X6_count_16 v s1 t0) (c, (v, o)) 16 [(0, .ref (G.2.2 114)), (1, .int s1)] [.int t0, .ref (G.2.2 114)] := by
  unfold b_X6_count_16
  refine p_Mo0 C 16 fl_X6_25 dX6_count_16 ?_
  refine j_V (V' := (c, ((t0, v.2), o))) rfl ?_
  refine j_aload_n C 19 0 rfl dX6_count_19 ?_
  refine g_Mo0 C 20 (Or.inl fl_X6_25) dX6_count_20 ?_
  refine j_if_le C 23 30 dX6_count_23 (by decide) (fun c23 => ?_) (fun c23 => ?_)
  · refine j_iconst (v := 0) C 26 dX6_count_26 rfl ?_
    refine j_goto C 27 35 dX6_count_27 (by decide) ?_
    exact j_iret C 35 hr rfl rfl dX6_count_35
  · refine j_aload_n C 30 0 rfl dX6_count_30 ?_
    refine j_iload_n C 31 1 rfl dX6_count_31 ?_
    refine j_bind (fun x32 h32 => ?_)
    refine j_vMo_i (As := [.int s1]) (st := []) C k_X6_countNow 32 (c_X6_countNow C.2.2.2.2.2.2.1 _ _ h32) rfl rfl ml_X6_195 ii_X6_countNow is_X6_countNow dX6_count_32 (by decide) rfl (Nat.le_of_ble_eq_true rfl) ?_ rfl
    exact j_iret C 35 hr rfl rfl dX6_count_35
set_option maxRecDepth 100000 in
set_option maxHeartbeats 4000000 in
theorem w_X6_count {G : GG} {X : WX} {c : VC} {o : Nat → Int64} (C : Cx G 2 X RX6 cX6_count 9) (hr : (xM X).sig.returnType = (some .int)) (v : VM) (a1 : Int32) : JS G 2 X (QM G X (fun x : (Int32 × VM) => some (.int x.1)) (fun x : (Int32 × VM) => ((c, (x.2, o)) : VA))) (f_X6_count v a1) (c, (v, o)) 0 [(0, .ref (G.2.2 114)), (1, .int a1)] [] := by
  unfold f_X6_count
  refine j_aload_n C 0 0 rfl dX6_count_0 ?_
  refine j_iload_n C 1 1 rfl dX6_count_1 ?_
  refine j_iconst (v := 0) C 2 dX6_count_2 rfl ?_
  refine j_bipush (v := 11) C 3 dX6_count_3 rfl ?_
  refine j_bind (fun x5 h5 => ?_)
  refine j_callS_i (As := [.int a1, .int 0, .int 11]) (st := [.ref (G.2.2 114)]) C k_X6_in 5 (c_X6_in C.2.2.2.2.2.2.1 (c := c) _ _ _ h5) rfl ml_X6_29 st_X6_in dX6_count_5 (by decide) rfl (Nat.le_of_ble_eq_true rfl) ?_ rfl
  refine j_if_eq C 8 15 dX6_count_8 (by decide) (fun c8 => ?_) (fun c8 => ?_)
  · refine j_iconst (v := 1) C 15 dX6_count_15 rfl ?_
    exact wb_X6_count_16 C hr v a1 1
  · refine j_iconst (v := 0) C 11 dX6_count_11 rfl ?_
    refine j_goto C 12 16 dX6_count_12 (by decide) ?_
    exact wb_X6_count_16 C hr v a1 0
theorem c_X6_count {G : GG} {l : Launch} (hG : Gok G) {c : VC} {o : Nat → Int64} (v : VM) (a1 : Int32) {x : (Int32 × VM)} (hf : f_X6_count v a1 = some x) : Ct l yX6_count cX6_count 2 (some .int) 9 [.ref (G.2.2 114), .int a1] G (c, (v, o)) (some (.int x.1)) (c, (x.2, o)) := by
  refine ct_of (rv := fun x : (Int32 × VM) => (some (.int x.1))) (fin := fun x : (Int32 × VM) => ((c, (x.2, o)) : VA)) (own := RX6) hG (plainFor_of_name (by decide)) rfl (Nat.le_of_ble_eq_true rfl) (fun X C hr _ => ?_) hf
  exact w_X6_count C hr v a1
set_option maxRecDepth 100000 in
set_option maxHeartbeats 4000000 in
theorem wb_X6_setting_15 {G : GG} {X : WX} {c : VC} {o : Nat → Int64} (C : Cx G 2 X RX6 cX6_setting 1) (hr : (xM X).sig.returnType = (some .int)) (v : VM) (s1 : Int32) (t0 : Int32) : JS G 2 X (QM G X (fun x : (Int32 × VM) => some (.int x.1)) (fun x : (Int32 × VM) => ((c, (x.2, o)) : VA))) (b_X6_setting_15 v s1 t0) (c, (v, o)) 15 [(0, .ref (G.2.2 114)), (1, .int s1)] [.int t0, .ref (G.2.2 114)] := by
  unfold b_X6_setting_15
  refine p_Mo0 C 15 fl_X6_25 dX6_setting_15 ?_
  refine j_V (V' := (c, ((t0, v.2), o))) rfl ?_
  refine j_aload_n C 18 0 rfl dX6_setting_18 ?_
  refine g_Mo0 C 19 (Or.inl fl_X6_25) dX6_setting_19 ?_
  refine j_if_le C 22 29 dX6_setting_22 (by decide) (fun c22 => ?_) (fun c22 => ?_)
  · refine j_iconst (v := 0) C 25 dX6_setting_25 rfl ?_
    refine j_goto C 26 38 dX6_setting_26 (by decide) ?_
    exact j_iret C 38 hr rfl rfl dX6_setting_38
  · refine j_aload_n C 29 0 rfl dX6_setting_29 ?_
    refine g_Mo1 C 30 (Or.inl fl_X6_7) dX6_setting_30 ?_
    refine j_bipush (v := 46) C 33 dX6_setting_33 rfl ?_
    refine j_iload_n C 35 1 rfl dX6_setting_35 ?_
    refine j_iadd C 36 dX6_setting_36 ?_
    refine j_bind (fun x37 h37 => ?_)
    refine l_Mo1 C 37 h37 dX6_setting_37 ?_
    exact j_iret C 38 hr rfl rfl dX6_setting_38
set_option maxRecDepth 100000 in
set_option maxHeartbeats 4000000 in
theorem w_X6_setting {G : GG} {X : WX} {c : VC} {o : Nat → Int64} (C : Cx G 2 X RX6 cX6_setting 1) (hr : (xM X).sig.returnType = (some .int)) (v : VM) (a1 : Int32) : JS G 2 X (QM G X (fun x : (Int32 × VM) => some (.int x.1)) (fun x : (Int32 × VM) => ((c, (x.2, o)) : VA))) (f_X6_setting v a1) (c, (v, o)) 0 [(0, .ref (G.2.2 114)), (1, .int a1)] [] := by
  unfold f_X6_setting
  refine j_aload_n C 0 0 rfl dX6_setting_0 ?_
  refine j_iload_n C 1 1 rfl dX6_setting_1 ?_
  refine j_iconst (v := 0) C 2 dX6_setting_2 rfl ?_
  refine j_iconst (v := 1) C 3 dX6_setting_3 rfl ?_
  refine j_bind (fun x4 h4 => ?_)
  refine j_callS_i (As := [.int a1, .int 0, .int 1]) (st := [.ref (G.2.2 114)]) C k_X6_in 4 (c_X6_in C.2.2.2.2.2.2.1 (c := c) _ _ _ h4) rfl ml_X6_29 st_X6_in dX6_setting_4 (by decide) rfl (Nat.le_of_ble_eq_true rfl) ?_ rfl
  refine j_if_eq C 7 14 dX6_setting_7 (by decide) (fun c7 => ?_) (fun c7 => ?_)
  · refine j_iconst (v := 1) C 14 dX6_setting_14 rfl ?_
    exact wb_X6_setting_15 C hr v a1 1
  · refine j_iconst (v := 0) C 10 dX6_setting_10 rfl ?_
    refine j_goto C 11 15 dX6_setting_11 (by decide) ?_
    exact wb_X6_setting_15 C hr v a1 0
theorem c_X6_setting {G : GG} {l : Launch} (hG : Gok G) {c : VC} {o : Nat → Int64} (v : VM) (a1 : Int32) {x : (Int32 × VM)} (hf : f_X6_setting v a1 = some x) : Ct l yX6_setting cX6_setting 2 (some .int) 1 [.ref (G.2.2 114), .int a1] G (c, (v, o)) (some (.int x.1)) (c, (x.2, o)) := by
  refine ct_of (rv := fun x : (Int32 × VM) => (some (.int x.1))) (fin := fun x : (Int32 × VM) => ((c, (x.2, o)) : VA)) (own := RX6) hG (plainFor_of_name (by decide)) rfl (Nat.le_of_ble_eq_true rfl) (fun X C hr _ => ?_) hf
  exact w_X6_setting C hr v a1
set_option maxRecDepth 100000 in
set_option maxHeartbeats 4000000 in
theorem w_X6_why {G : GG} {X : WX} {c : VC} {o : Nat → Int64} (C : Cx G 1 X RX6 cX6_why 4) (hr : (xM X).sig.returnType = (some .int)) (v : VM) : JS G 1 X (QM G X (fun x : (Int32 × VM) => some (.int x.1)) (fun x : (Int32 × VM) => ((c, (x.2, o)) : VA))) (f_X6_why v) (c, (v, o)) 0 [(0, .ref (G.2.2 114))] [] := by
  unfold f_X6_why
  refine j_aload_n C 0 0 rfl dX6_why_0 ?_
  refine j_iconst (v := 0) C 1 dX6_why_1 rfl ?_
  refine p_Mo0 C 2 fl_X6_25 dX6_why_2 ?_
  refine j_V (V' := (c, ((0, v.2), o))) rfl ?_
  refine j_aload_n C 5 0 rfl dX6_why_5 ?_
  refine j_aload_n C 6 0 rfl dX6_why_6 ?_
  refine g_Mo1 C 7 (Or.inl fl_X6_7) dX6_why_7 ?_
  refine j_bipush (v := 46) C 10 dX6_why_10 rfl ?_
  refine j_bind (fun x12 h12 => ?_)
  refine l_Mo1 C 12 h12 dX6_why_12 ?_
  refine j_bind (fun x13 h13 => ?_)
  refine j_vMo_i (As := [.int x12]) (st := []) C k_X6_whyNot 13 (c_X6_whyNot C.2.2.2.2.2.2.1 _ _ h13) rfl rfl ml_X6_121 ii_X6_whyNot is_X6_whyNot dX6_why_13 (by decide) rfl (Nat.le_of_ble_eq_true rfl) ?_ rfl
  exact j_iret C 16 hr rfl rfl dX6_why_16
theorem c_X6_why {G : GG} {l : Launch} (hG : Gok G) {c : VC} {o : Nat → Int64} (v : VM) {x : (Int32 × VM)} (hf : f_X6_why v = some x) : Ct l yX6_why cX6_why 1 (some .int) 4 [.ref (G.2.2 114)] G (c, (v, o)) (some (.int x.1)) (c, (x.2, o)) := by
  refine ct_of (rv := fun x : (Int32 × VM) => (some (.int x.1))) (fin := fun x : (Int32 × VM) => ((c, (x.2, o)) : VA)) (own := RX6) hG (plainFor_of_name (by decide)) rfl (Nat.le_of_ble_eq_true rfl) (fun X C hr _ => ?_) hf
  exact w_X6_why C hr v
set_option maxRecDepth 100000 in
set_option maxHeartbeats 4000000 in
theorem wl_X6_swept_29 {G : GG} {X : WX} {c : VC} {o : Nat → Int64} (C : Cx G 5 X RX6 cX6_swept 9) (hr : (xM X).sig.returnType = (some .int)) : ∀ (n : Nat) (v : VM) (s2 : Int32) (s3 : Int32), JS G 5 X (QM G X (fun x : (Int32 × VM) => some (.int x.1)) (fun x : (Int32 × VM) => ((c, (x.2, o)) : VA))) (l_X6_swept_29 n v s2 s3) (c, (v, o)) 29 [(0, .ref (G.2.2 114)), (2, .int s2), (3, .int s3)] [] := by
  intro n
  induction n with
  | zero => intro _ _ _; exact j_none
  | succ n ih =>
    intro v s2 s3
    unfold l_X6_swept_29
    refine j_iload_n C 29 2 rfl dX6_swept_29 ?_
    refine j_aload_n C 30 0 rfl dX6_swept_30 ?_
    refine j_bind (fun x31 h31 => ?_)
    refine j_vMo_i (As := []) (st := [.int s3]) C k_X6_blocks 31 (c_X6_blocks C.2.2.2.2.2.2.1 _ h31) rfl rfl ml_X6_55 ii_X6_blocks is_X6_blocks dX6_swept_31 (by decide) rfl (Nat.le_of_ble_eq_true rfl) ?_ rfl
    refine j_icmp_ge C 34 69 dX6_swept_34 (by decide) (fun c34 => ?_) (fun c34 => ?_)
    · refine j_iload_n C 37 2 rfl dX6_swept_37 ?_
      refine j_aload_n C 38 0 rfl dX6_swept_38 ?_
      refine j_bind (fun x39 h39 => ?_)
      refine j_vMo_i (As := []) (st := [.int s3]) C k_X6_wideBlocks 39 (c_X6_wideBlocks C.2.2.2.2.2.2.1 _ h39) rfl rfl ml_X6_58 ii_X6_wideBlocks is_X6_wideBlocks dX6_swept_39 (by decide) rfl (Nat.le_of_ble_eq_true rfl) ?_ rfl
      refine j_icmp_ge C 42 57 dX6_swept_42 (by decide) (fun c42 => ?_) (fun c42 => ?_)
      · refine j_aload_n C 45 0 rfl dX6_swept_45 ?_
        refine j_iload_n C 46 2 rfl dX6_swept_46 ?_
        refine j_bind (fun x47 h47 => ?_)
        refine j_vMo_i (As := [.int s3]) (st := []) C k_X6_readPair 47 (c_X6_readPair C.2.2.2.2.2.2.1 _ _ h47) rfl rfl ml_X6_180 ii_X6_readPair is_X6_readPair dX6_swept_47 (by decide) rfl (Nat.le_of_ble_eq_true rfl) ?_ rfl
        refine j_V (V' := (c, (x47.2, o))) rfl ?_
        refine j_pop C 50 dX6_swept_50 rfl ?_
        refine j_iinc (v := (s3 + 2)) (L1 := [(3, .int (s3 + 2)), (0, .ref (G.2.2 114)), (2, .int s2)]) C 51 2 rfl dX6_swept_51 rfl (by decide) rfl ?_
        refine j_goto C 54 29 dX6_swept_54 (by decide) ?_
        refine j_L (L' := [(0, .ref (G.2.2 114)), (2, .int s2), (3, .int (s3 + 2))]) [1, 2, 0] rfl ?_
        exact ih x47.2 s2 (s3 + 2)
      · refine j_aload_n C 57 0 rfl dX6_swept_57 ?_
        refine j_iload_n C 58 2 rfl dX6_swept_58 ?_
        refine j_bind (fun x59 h59 => ?_)
        refine j_vMo_i (As := [.int s3]) (st := []) C k_X6_doRead 59 (c_X6_doRead C.2.2.2.2.2.2.1 _ _ h59) rfl rfl ml_X6_149 ii_X6_doRead is_X6_doRead dX6_swept_59 (by decide) rfl (Nat.le_of_ble_eq_true rfl) ?_ rfl
        refine j_V (V' := (c, (x59.2, o))) rfl ?_
        refine j_pop C 62 dX6_swept_62 rfl ?_
        refine j_iinc (v := (s3 + 1)) (L1 := [(3, .int (s3 + 1)), (0, .ref (G.2.2 114)), (2, .int s2)]) C 63 2 rfl dX6_swept_63 rfl (by decide) rfl ?_
        refine j_goto C 66 29 dX6_swept_66 (by decide) ?_
        refine j_L (L' := [(0, .ref (G.2.2 114)), (2, .int s2), (3, .int (s3 + 1))]) [1, 2, 0] rfl ?_
        exact ih x59.2 s2 (s3 + 1)
    · refine j_aload_n C 69 0 rfl dX6_swept_69 ?_
      refine g_Mo1 C 70 (Or.inl fl_X6_7) dX6_swept_70 ?_
      refine j_bipush (v := 41) C 73 dX6_swept_73 rfl ?_
      refine j_bind (fun x75 h75 => ?_)
      refine l_Mo1 C 75 h75 dX6_swept_75 ?_
      refine j_iload_n C 76 1 rfl dX6_swept_76 ?_
      refine j_isub C 77 dX6_swept_77 ?_
      refine j_istore (L1 := [(4, .int (x75 - s2)), (0, .ref (G.2.2 114)), (2, .int s2), (3, .int s3)]) C 78 dX6_swept_78 (by decide) rfl ?_
      refine j_aload_n C 80 1 rfl dX6_swept_80 ?_
      refine j_bind (fun x81 h81 => ?_)
      refine j_vMo_v (As := []) (st := []) C k_X6_putBack 81 (c_X6_putBack C.2.2.2.2.2.2.1 _ h81) rfl rfl ml_X6_201 ii_X6_putBack is_X6_putBack dX6_swept_81 (by decide) rfl (Nat.le_of_ble_eq_true rfl) ?_ rfl
      refine j_V (V' := (c, (x81, o))) rfl ?_
      refine j_iload C 84 0 rfl dX6_swept_84 ?_
      exact j_iret C 86 hr rfl rfl dX6_swept_86
set_option maxRecDepth 100000 in
set_option maxHeartbeats 4000000 in
theorem w_X6_swept {G : GG} {X : WX} {c : VC} {o : Nat → Int64} (C : Cx G 5 X RX6 cX6_swept 9) (hr : (xM X).sig.returnType = (some .int)) (v : VM) (a1 : Int32) : JS G 5 X (QM G X (fun x : (Int32 × VM) => some (.int x.1)) (fun x : (Int32 × VM) => ((c, (x.2, o)) : VA))) (f_X6_swept v a1) (c, (v, o)) 0 [(0, .ref (G.2.2 114)), (1, .int a1)] [] := by
  unfold f_X6_swept
  refine j_aload_n C 0 0 rfl dX6_swept_0 ?_
  refine j_iload_n C 1 1 rfl dX6_swept_1 ?_
  refine j_bind (fun x2 h2 => ?_)
  refine j_vMo_i (As := [.int a1]) (st := []) C k_X6_whyNot 2 (c_X6_whyNot C.2.2.2.2.2.2.1 _ _ h2) rfl rfl ml_X6_121 ii_X6_whyNot is_X6_whyNot dX6_swept_2 (by decide) rfl (Nat.le_of_ble_eq_true rfl) ?_ rfl
  refine j_if_le C 5 10 dX6_swept_5 (by decide) (fun c5 => ?_) (fun c5 => ?_)
  · refine j_iconst (v := (-1)) C 8 dX6_swept_8 rfl ?_
    exact j_iret C 9 hr rfl rfl dX6_swept_9
  · refine j_aload_n C 10 0 rfl dX6_swept_10 ?_
    refine j_bind (fun x11 h11 => ?_)
    refine j_vMo_v (As := []) (st := []) C k_X6_putAside 11 (c_X6_putAside C.2.2.2.2.2.2.1 _ h11) rfl rfl ml_X6_198 ii_X6_putAside is_X6_putAside dX6_swept_11 (by decide) rfl (Nat.le_of_ble_eq_true rfl) ?_ rfl
    refine j_V (V' := (c, (x11, o))) rfl ?_
    refine j_aload_n C 14 0 rfl dX6_swept_14 ?_
    refine j_iload_n C 15 1 rfl dX6_swept_15 ?_
    refine j_bind (fun x16 h16 => ?_)
    refine j_vMo_v (As := [.int a1]) (st := []) C k_X6_makeMap 16 (c_X6_makeMap C.2.2.2.2.2.2.1 _ _ h16) rfl rfl ml_X6_124 ii_X6_makeMap is_X6_makeMap dX6_swept_16 (by decide) rfl (Nat.le_of_ble_eq_true rfl) ?_ rfl
    refine j_V (V' := (c, (x16, o))) rfl ?_
    refine j_aload_n C 19 0 rfl dX6_swept_19 ?_
    refine g_Mo1 C 20 (Or.inl fl_X6_7) dX6_swept_20 ?_
    refine j_bipush (v := 41) C 23 dX6_swept_23 rfl ?_
    refine j_bind (fun x25 h25 => ?_)
    refine l_Mo1 C 25 h25 dX6_swept_25 ?_
    refine j_istore_n (L1 := [(2, .int x25), (0, .ref (G.2.2 114)), (1, .int a1)]) C 26 rfl dX6_swept_26 (by decide) rfl ?_
    refine j_iconst (v := 0) C 27 dX6_swept_27 rfl ?_
    refine j_istore_n (L1 := [(3, .int 0), (2, .int x25), (0, .ref (G.2.2 114)), (1, .int a1)]) C 28 rfl dX6_swept_28 (by decide) rfl ?_
    refine j_L (L' := [(0, .ref (G.2.2 114)), (2, .int x25), (3, .int 0)]) [2, 1, 0] rfl ?_
    exact wl_X6_swept_29 C hr FU x16 x25 0
theorem c_X6_swept {G : GG} {l : Launch} (hG : Gok G) {c : VC} {o : Nat → Int64} (v : VM) (a1 : Int32) {x : (Int32 × VM)} (hf : f_X6_swept v a1 = some x) : Ct l yX6_swept cX6_swept 5 (some .int) 9 [.ref (G.2.2 114), .int a1] G (c, (v, o)) (some (.int x.1)) (c, (x.2, o)) := by
  refine ct_of (rv := fun x : (Int32 × VM) => (some (.int x.1))) (fin := fun x : (Int32 × VM) => ((c, (x.2, o)) : VA)) (own := RX6) hG (plainFor_of_name (by decide)) rfl (Nat.le_of_ble_eq_true rfl) (fun X C hr _ => ?_) hf
  exact w_X6_swept C hr v a1
set_option maxRecDepth 100000 in
set_option maxHeartbeats 4000000 in
theorem wb_X6_sweep_15 {G : GG} {X : WX} {c : VC} {o : Nat → Int64} (C : Cx G 2 X RX6 cX6_sweep 10) (hr : (xM X).sig.returnType = (some .int)) (v : VM) (s1 : Int32) (t0 : Int32) : JS G 2 X (QM G X (fun x : (Int32 × VM) => some (.int x.1)) (fun x : (Int32 × VM) => ((c, (x.2, o)) : VA))) (b_X6_sweep_15 v s1 t0) (c, (v, o)) 15 [(0, .ref (G.2.2 114)), (1, .int s1)] [.int t0, .ref (G.2.2 114)] := by
  unfold b_X6_sweep_15
  refine p_Mo0 C 15 fl_X6_25 dX6_sweep_15 ?_
  refine j_V (V' := (c, ((t0, v.2), o))) rfl ?_
  refine j_aload_n C 18 0 rfl dX6_sweep_18 ?_
  refine g_Mo0 C 19 (Or.inl fl_X6_25) dX6_sweep_19 ?_
  refine j_if_le C 22 29 dX6_sweep_22 (by decide) (fun c22 => ?_) (fun c22 => ?_)
  · refine j_iconst (v := 0) C 25 dX6_sweep_25 rfl ?_
    refine j_goto C 26 34 dX6_sweep_26 (by decide) ?_
    exact j_iret C 34 hr rfl rfl dX6_sweep_34
  · refine j_aload_n C 29 0 rfl dX6_sweep_29 ?_
    refine j_iload_n C 30 1 rfl dX6_sweep_30 ?_
    refine j_bind (fun x31 h31 => ?_)
    refine j_vMo_i (As := [.int s1]) (st := []) C k_X6_swept 31 (c_X6_swept C.2.2.2.2.2.2.1 _ _ h31) rfl rfl ml_X6_204 ii_X6_swept is_X6_swept dX6_sweep_31 (by decide) rfl (Nat.le_of_ble_eq_true rfl) ?_ rfl
    refine j_V (V' := (c, (x31.2, o))) rfl ?_
    exact j_iret C 34 hr rfl rfl dX6_sweep_34
set_option maxRecDepth 100000 in
set_option maxHeartbeats 4000000 in
theorem w_X6_sweep {G : GG} {X : WX} {c : VC} {o : Nat → Int64} (C : Cx G 2 X RX6 cX6_sweep 10) (hr : (xM X).sig.returnType = (some .int)) (v : VM) (a1 : Int32) : JS G 2 X (QM G X (fun x : (Int32 × VM) => some (.int x.1)) (fun x : (Int32 × VM) => ((c, (x.2, o)) : VA))) (f_X6_sweep v a1) (c, (v, o)) 0 [(0, .ref (G.2.2 114)), (1, .int a1)] [] := by
  unfold f_X6_sweep
  refine j_aload_n C 0 0 rfl dX6_sweep_0 ?_
  refine j_iload_n C 1 1 rfl dX6_sweep_1 ?_
  refine j_iconst (v := 0) C 2 dX6_sweep_2 rfl ?_
  refine j_iconst (v := 2) C 3 dX6_sweep_3 rfl ?_
  refine j_bind (fun x4 h4 => ?_)
  refine j_callS_i (As := [.int a1, .int 0, .int 2]) (st := [.ref (G.2.2 114)]) C k_X6_in 4 (c_X6_in C.2.2.2.2.2.2.1 (c := c) _ _ _ h4) rfl ml_X6_29 st_X6_in dX6_sweep_4 (by decide) rfl (Nat.le_of_ble_eq_true rfl) ?_ rfl
  refine j_if_eq C 7 14 dX6_sweep_7 (by decide) (fun c7 => ?_) (fun c7 => ?_)
  · refine j_iconst (v := 1) C 14 dX6_sweep_14 rfl ?_
    exact wb_X6_sweep_15 C hr v a1 1
  · refine j_iconst (v := 0) C 10 dX6_sweep_10 rfl ?_
    refine j_goto C 11 15 dX6_sweep_11 (by decide) ?_
    exact wb_X6_sweep_15 C hr v a1 0
theorem c_X6_sweep {G : GG} {l : Launch} (hG : Gok G) {c : VC} {o : Nat → Int64} (v : VM) (a1 : Int32) {x : (Int32 × VM)} (hf : f_X6_sweep v a1 = some x) : Ct l yX6_sweep cX6_sweep 2 (some .int) 10 [.ref (G.2.2 114), .int a1] G (c, (v, o)) (some (.int x.1)) (c, (x.2, o)) := by
  refine ct_of (rv := fun x : (Int32 × VM) => (some (.int x.1))) (fin := fun x : (Int32 × VM) => ((c, (x.2, o)) : VA)) (own := RX6) hG (plainFor_of_name (by decide)) rfl (Nat.le_of_ble_eq_true rfl) (fun X C hr _ => ?_) hf
  exact w_X6_sweep C hr v a1
set_option maxRecDepth 100000 in
set_option maxHeartbeats 4000000 in
theorem wb_X6_started_34 {G : GG} {X : WX} {c : VC} {o : Nat → Int64} (C : Cx G 4 X RX6 cX6_started 4) (hr : (xM X).sig.returnType = (some .int)) (v : VM) (t0 : Int32) : JS G 4 X (QM G X (fun x : (Int32 × VM) => some (.int x.1)) (fun x : (Int32 × VM) => ((c, (x.2, o)) : VA))) (b_X6_started_34 v t0) (c, (v, o)) 34 [(0, .ref (G.2.2 114))] [.int t0] := by
  unfold b_X6_started_34
  refine j_istore_n (L1 := [(3, .int t0), (0, .ref (G.2.2 114))]) C 34 rfl dX6_started_34 (by decide) rfl ?_
  refine j_aload_n C 35 1 rfl dX6_started_35 ?_
  refine j_bind (fun x36 h36 => ?_)
  refine j_vMo_v (As := []) (st := []) C k_X6_putBack 36 (c_X6_putBack C.2.2.2.2.2.2.1 _ h36) rfl rfl ml_X6_201 ii_X6_putBack is_X6_putBack dX6_started_36 (by decide) rfl (Nat.le_of_ble_eq_true rfl) ?_ rfl
  refine j_V (V' := (c, (x36, o))) rfl ?_
  refine j_iload_n C 39 0 rfl dX6_started_39 ?_
  exact j_iret C 40 hr rfl rfl dX6_started_40
set_option maxRecDepth 100000 in
set_option maxHeartbeats 4000000 in
theorem w_X6_started {G : GG} {X : WX} {c : VC} {o : Nat → Int64} (C : Cx G 4 X RX6 cX6_started 4) (hr : (xM X).sig.returnType = (some .int)) (v : VM) (a1 : Int32) (a2 : Int32) : JS G 4 X (QM G X (fun x : (Int32 × VM) => some (.int x.1)) (fun x : (Int32 × VM) => ((c, (x.2, o)) : VA))) (f_X6_started v a1 a2) (c, (v, o)) 0 [(0, .ref (G.2.2 114)), (1, .int a1), (2, .int a2)] [] := by
  unfold f_X6_started
  refine j_aload_n C 0 0 rfl dX6_started_0 ?_
  refine j_iload_n C 1 1 rfl dX6_started_1 ?_
  refine j_bind (fun x2 h2 => ?_)
  refine j_vMo_i (As := [.int a1]) (st := []) C k_X6_whyNot 2 (c_X6_whyNot C.2.2.2.2.2.2.1 _ _ h2) rfl rfl ml_X6_121 ii_X6_whyNot is_X6_whyNot dX6_started_2 (by decide) rfl (Nat.le_of_ble_eq_true rfl) ?_ rfl
  refine j_if_le C 5 10 dX6_started_5 (by decide) (fun c5 => ?_) (fun c5 => ?_)
  · refine j_iconst (v := 0) C 8 dX6_started_8 rfl ?_
    exact j_iret C 9 hr rfl rfl dX6_started_9
  · refine j_aload_n C 10 0 rfl dX6_started_10 ?_
    refine j_bind (fun x11 h11 => ?_)
    refine j_vMo_v (As := []) (st := []) C k_X6_putAside 11 (c_X6_putAside C.2.2.2.2.2.2.1 _ h11) rfl rfl ml_X6_198 ii_X6_putAside is_X6_putAside dX6_started_11 (by decide) rfl (Nat.le_of_ble_eq_true rfl) ?_ rfl
    refine j_V (V' := (c, (x11, o))) rfl ?_
    refine j_aload_n C 14 0 rfl dX6_started_14 ?_
    refine j_iload_n C 15 1 rfl dX6_started_15 ?_
    refine j_bind (fun x16 h16 => ?_)
    refine j_vMo_v (As := [.int a1]) (st := []) C k_X6_makeMap 16 (c_X6_makeMap C.2.2.2.2.2.2.1 _ _ h16) rfl rfl ml_X6_124 ii_X6_makeMap is_X6_makeMap dX6_started_16 (by decide) rfl (Nat.le_of_ble_eq_true rfl) ?_ rfl
    refine j_V (V' := (c, (x16, o))) rfl ?_
    refine j_iload_n C 19 2 rfl dX6_started_19 ?_
    refine j_if_ne C 20 30 dX6_started_20 (by decide) (fun c20 => ?_) (fun c20 => ?_)
    · refine j_aload_n C 23 0 rfl dX6_started_23 ?_
      refine j_bind (fun x24 h24 => ?_)
      refine j_vMo_i (As := []) (st := []) C k_X6_blocks 24 (c_X6_blocks C.2.2.2.2.2.2.1 _ h24) rfl rfl ml_X6_55 ii_X6_blocks is_X6_blocks dX6_started_24 (by decide) rfl (Nat.le_of_ble_eq_true rfl) ?_ rfl
      refine j_goto C 27 34 dX6_started_27 (by decide) ?_
      refine j_L (L' := [(0, .ref (G.2.2 114))]) [0] rfl ?_
      exact wb_X6_started_34 C hr x16 x24
    · refine j_aload_n C 30 0 rfl dX6_started_30 ?_
      refine j_bind (fun x31 h31 => ?_)
      refine j_vMo_i (As := []) (st := []) C k_X6_wideBlocks 31 (c_X6_wideBlocks C.2.2.2.2.2.2.1 _ h31) rfl rfl ml_X6_58 ii_X6_wideBlocks is_X6_wideBlocks dX6_started_31 (by decide) rfl (Nat.le_of_ble_eq_true rfl) ?_ rfl
      refine j_L (L' := [(0, .ref (G.2.2 114))]) [0] rfl ?_
      exact wb_X6_started_34 C hr x16 x31
theorem c_X6_started {G : GG} {l : Launch} (hG : Gok G) {c : VC} {o : Nat → Int64} (v : VM) (a1 : Int32) (a2 : Int32) {x : (Int32 × VM)} (hf : f_X6_started v a1 a2 = some x) : Ct l yX6_started cX6_started 4 (some .int) 4 [.ref (G.2.2 114), .int a1, .int a2] G (c, (v, o)) (some (.int x.1)) (c, (x.2, o)) := by
  refine ct_of (rv := fun x : (Int32 × VM) => (some (.int x.1))) (fin := fun x : (Int32 × VM) => ((c, (x.2, o)) : VA)) (own := RX6) hG (plainFor_of_name (by decide)) rfl (Nat.le_of_ble_eq_true rfl) (fun X C hr _ => ?_) hf
  exact w_X6_started C hr v a1 a2
set_option maxRecDepth 100000 in
set_option maxHeartbeats 4000000 in
theorem wb_X6_ifStarted_24 {G : GG} {X : WX} {c : VC} {o : Nat → Int64} (C : Cx G 3 X RX6 cX6_ifStarted 5) (hr : (xM X).sig.returnType = (some .int)) (v : VM) (s1 : Int32) (s2 : Int32) (t0 : Int32) : JS G 3 X (QM G X (fun x : (Int32 × VM) => some (.int x.1)) (fun x : (Int32 × VM) => ((c, (x.2, o)) : VA))) (b_X6_ifStarted_24 v s1 s2 t0) (c, (v, o)) 24 [(0, .ref (G.2.2 114)), (1, .int s1), (2, .int s2)] [.int t0, .ref (G.2.2 114)] := by
  unfold b_X6_ifStarted_24
  refine p_Mo0 C 24 fl_X6_25 dX6_ifStarted_24 ?_
  refine j_V (V' := (c, ((t0, v.2), o))) rfl ?_
  refine j_aload_n C 27 0 rfl dX6_ifStarted_27 ?_
  refine g_Mo0 C 28 (Or.inl fl_X6_25) dX6_ifStarted_28 ?_
  refine j_if_le C 31 38 dX6_ifStarted_31 (by decide) (fun c31 => ?_) (fun c31 => ?_)
  · refine j_iconst (v := 0) C 34 dX6_ifStarted_34 rfl ?_
    refine j_goto C 35 44 dX6_ifStarted_35 (by decide) ?_
    exact j_iret C 44 hr rfl rfl dX6_ifStarted_44
  · refine j_aload_n C 38 0 rfl dX6_ifStarted_38 ?_
    refine j_iload_n C 39 1 rfl dX6_ifStarted_39 ?_
    refine j_iload_n C 40 2 rfl dX6_ifStarted_40 ?_
    refine j_bind (fun x41 h41 => ?_)
    refine j_vMo_i (As := [.int s1, .int s2]) (st := []) C k_X6_started 41 (c_X6_started C.2.2.2.2.2.2.1 _ _ _ h41) rfl rfl ml_X6_207 ii_X6_started is_X6_started dX6_ifStarted_41 (by decide) rfl (Nat.le_of_ble_eq_true rfl) ?_ rfl
    refine j_V (V' := (c, (x41.2, o))) rfl ?_
    exact j_iret C 44 hr rfl rfl dX6_ifStarted_44
set_option maxRecDepth 100000 in
set_option maxHeartbeats 4000000 in
theorem w_X6_ifStarted {G : GG} {X : WX} {c : VC} {o : Nat → Int64} (C : Cx G 3 X RX6 cX6_ifStarted 5) (hr : (xM X).sig.returnType = (some .int)) (v : VM) (a1 : Int32) (a2 : Int32) : JS G 3 X (QM G X (fun x : (Int32 × VM) => some (.int x.1)) (fun x : (Int32 × VM) => ((c, (x.2, o)) : VA))) (f_X6_ifStarted v a1 a2) (c, (v, o)) 0 [(0, .ref (G.2.2 114)), (1, .int a1), (2, .int a2)] [] := by
  unfold f_X6_ifStarted
  refine j_aload_n C 0 0 rfl dX6_ifStarted_0 ?_
  refine j_iload_n C 1 1 rfl dX6_ifStarted_1 ?_
  refine j_iconst (v := 0) C 2 dX6_ifStarted_2 rfl ?_
  refine j_iconst (v := 2) C 3 dX6_ifStarted_3 rfl ?_
  refine j_bind (fun x4 h4 => ?_)
  refine j_callS_i (As := [.int a1, .int 0, .int 2]) (st := [.ref (G.2.2 114)]) C k_X6_in 4 (c_X6_in C.2.2.2.2.2.2.1 (c := c) _ _ _ h4) rfl ml_X6_29 st_X6_in dX6_ifStarted_4 (by decide) rfl (Nat.le_of_ble_eq_true rfl) ?_ rfl
  refine j_if_eq C 7 23 dX6_ifStarted_7 (by decide) (fun c7 => ?_) (fun c7 => ?_)
  · refine j_iconst (v := 1) C 23 dX6_ifStarted_23 rfl ?_
    exact wb_X6_ifStarted_24 C hr v a1 a2 1
  · refine j_iload_n C 10 2 rfl dX6_ifStarted_10 ?_
    refine j_iconst (v := 0) C 11 dX6_ifStarted_11 rfl ?_
    refine j_iconst (v := 1) C 12 dX6_ifStarted_12 rfl ?_
    refine j_bind (fun x13 h13 => ?_)
    refine j_callS_i (As := [.int a2, .int 0, .int 1]) (st := [.ref (G.2.2 114)]) C k_X6_in 13 (c_X6_in C.2.2.2.2.2.2.1 (c := c) _ _ _ h13) rfl ml_X6_29 st_X6_in dX6_ifStarted_13 (by decide) rfl (Nat.le_of_ble_eq_true rfl) ?_ rfl
    refine j_if_eq C 16 23 dX6_ifStarted_16 (by decide) (fun c16 => ?_) (fun c16 => ?_)
    · refine j_iconst (v := 1) C 23 dX6_ifStarted_23 rfl ?_
      exact wb_X6_ifStarted_24 C hr v a1 a2 1
    · refine j_iconst (v := 0) C 19 dX6_ifStarted_19 rfl ?_
      refine j_goto C 20 24 dX6_ifStarted_20 (by decide) ?_
      exact wb_X6_ifStarted_24 C hr v a1 a2 0
theorem c_X6_ifStarted {G : GG} {l : Launch} (hG : Gok G) {c : VC} {o : Nat → Int64} (v : VM) (a1 : Int32) (a2 : Int32) {x : (Int32 × VM)} (hf : f_X6_ifStarted v a1 a2 = some x) : Ct l yX6_ifStarted cX6_ifStarted 3 (some .int) 5 [.ref (G.2.2 114), .int a1, .int a2] G (c, (v, o)) (some (.int x.1)) (c, (x.2, o)) := by
  refine ct_of (rv := fun x : (Int32 × VM) => (some (.int x.1))) (fin := fun x : (Int32 × VM) => ((c, (x.2, o)) : VA)) (own := RX6) hG (plainFor_of_name (by decide)) rfl (Nat.le_of_ble_eq_true rfl) (fun X C hr _ => ?_) hf
  exact w_X6_ifStarted C hr v a1 a2
set_option maxRecDepth 100000 in
set_option maxHeartbeats 4000000 in
theorem wl_X6_exchange_2 {G : GG} {X : WX} {c : VC} {o : Nat → Int64} (C : Cx G 5 X RX6 cX6_exchange 1) (hr : (xM X).sig.returnType = none) : ∀ (n : Nat) (v : VM) (s1 : Int32) (s2 : Int32) (s3 : Int32), JS G 5 X (QM G X (fun x : VM => none) (fun x : VM => ((c, (x, o)) : VA))) (l_X6_exchange_2 n v s1 s2 s3) (c, (v, o)) 2 [(0, .ref (G.2.2 114)), (1, .int s1), (2, .int s2), (3, .int s3)] [] := by
  intro n
  induction n with
  | zero => intro _ _ _ _; exact j_none
  | succ n ih =>
    intro v s1 s2 s3
    unfold l_X6_exchange_2
    refine j_iload_n C 2 3 rfl dX6_exchange_2 ?_
    refine j_bipush (v := 9) C 3 dX6_exchange_3 rfl ?_
    refine j_icmp_ge C 5 42 dX6_exchange_5 (by decide) (fun c5 => ?_) (fun c5 => ?_)
    · refine j_aload_n C 8 0 rfl dX6_exchange_8 ?_
      refine j_iload_n C 9 1 rfl dX6_exchange_9 ?_
      refine j_iload_n C 10 3 rfl dX6_exchange_10 ?_
      refine j_bind (fun x11 h11 => ?_)
      refine j_vMo_i (As := [.int s1, .int s3]) (st := []) C k_X6_of 11 (c_X6_of C.2.2.2.2.2.2.1 _ _ _ h11) rfl rfl ml_X6_33 ii_X6_of is_X6_of dX6_exchange_11 (by decide) rfl (Nat.le_of_ble_eq_true rfl) ?_ rfl
      refine j_istore (L1 := [(4, .int x11), (0, .ref (G.2.2 114)), (1, .int s1), (2, .int s2), (3, .int s3)]) C 14 dX6_exchange_14 (by decide) rfl ?_
      refine j_aload_n C 16 1 rfl dX6_exchange_16 ?_
      refine j_iload_n C 17 2 rfl dX6_exchange_17 ?_
      refine j_iload_n C 18 4 rfl dX6_exchange_18 ?_
      refine j_aload_n C 19 1 rfl dX6_exchange_19 ?_
      refine j_iload_n C 20 3 rfl dX6_exchange_20 ?_
      refine j_iload_n C 21 4 rfl dX6_exchange_21 ?_
      refine j_bind (fun x22 h22 => ?_)
      refine j_vMo_i (As := [.int s2, .int s3]) (st := [.int s3, .int s1, .ref (G.2.2 114)]) C k_X6_of 22 (c_X6_of C.2.2.2.2.2.2.1 _ _ _ h22) rfl rfl ml_X6_33 ii_X6_of is_X6_of dX6_exchange_22 (by decide) rfl (Nat.le_of_ble_eq_true rfl) ?_ rfl
      refine j_bind (fun x25 h25 => ?_)
      refine j_vMo_v (As := [.int s1, .int s3, .int x22]) (st := []) C k_X6_put 25 (c_X6_put C.2.2.2.2.2.2.1 _ _ _ _ h25) rfl rfl ml_X6_98 ii_X6_put is_X6_put dX6_exchange_25 (by decide) rfl (Nat.le_of_ble_eq_true rfl) ?_ rfl
      refine j_V (V' := (c, (x25, o))) rfl ?_
      refine j_aload_n C 28 1 rfl dX6_exchange_28 ?_
      refine j_iload_n C 29 3 rfl dX6_exchange_29 ?_
      refine j_iload_n C 30 4 rfl dX6_exchange_30 ?_
      refine j_iload C 31 0 rfl dX6_exchange_31 ?_
      refine j_bind (fun x33 h33 => ?_)
      refine j_vMo_v (As := [.int s2, .int s3, .int x11]) (st := []) C k_X6_put 33 (c_X6_put C.2.2.2.2.2.2.1 _ _ _ _ h33) rfl rfl ml_X6_98 ii_X6_put is_X6_put dX6_exchange_33 (by decide) rfl (Nat.le_of_ble_eq_true rfl) ?_ rfl
      refine j_V (V' := (c, (x33, o))) rfl ?_
      refine j_iinc (v := (s3 + 1)) (L1 := [(3, .int (s3 + 1)), (4, .int x11), (0, .ref (G.2.2 114)), (1, .int s1), (2, .int s2)]) C 36 4 rfl dX6_exchange_36 rfl (by decide) rfl ?_
      refine j_goto C 39 2 dX6_exchange_39 (by decide) ?_
      refine j_L (L' := [(0, .ref (G.2.2 114)), (1, .int s1), (2, .int s2), (3, .int (s3 + 1))]) [2, 3, 4, 0] rfl ?_
      exact ih x33 s1 s2 (s3 + 1)
    · exact j_vret C 42 hr rfl rfl dX6_exchange_42
set_option maxRecDepth 100000 in
set_option maxHeartbeats 4000000 in
theorem w_X6_exchange {G : GG} {X : WX} {c : VC} {o : Nat → Int64} (C : Cx G 5 X RX6 cX6_exchange 1) (hr : (xM X).sig.returnType = none) (v : VM) (a1 : Int32) (a2 : Int32) : JS G 5 X (QM G X (fun x : VM => none) (fun x : VM => ((c, (x, o)) : VA))) (f_X6_exchange v a1 a2) (c, (v, o)) 0 [(0, .ref (G.2.2 114)), (1, .int a1), (2, .int a2)] [] := by
  unfold f_X6_exchange
  refine j_iconst (v := 0) C 0 dX6_exchange_0 rfl ?_
  refine j_istore_n (L1 := [(3, .int 0), (0, .ref (G.2.2 114)), (1, .int a1), (2, .int a2)]) C 1 rfl dX6_exchange_1 (by decide) rfl ?_
  refine j_L (L' := [(0, .ref (G.2.2 114)), (1, .int a1), (2, .int a2), (3, .int 0)]) [1, 2, 3, 0] rfl ?_
  exact wl_X6_exchange_2 C hr FU v a1 a2 0
theorem c_X6_exchange {G : GG} {l : Launch} (hG : Gok G) {c : VC} {o : Nat → Int64} (v : VM) (a1 : Int32) (a2 : Int32) {x : VM} (hf : f_X6_exchange v a1 a2 = some x) : Ct l yX6_exchange cX6_exchange 5 none 1 [.ref (G.2.2 114), .int a1, .int a2] G (c, (v, o)) none (c, (x, o)) := by
  refine ct_of (rv := fun x : VM => none) (fin := fun x : VM => ((c, (x, o)) : VA)) (own := RX6) hG (plainFor_of_name (by decide)) rfl (Nat.le_of_ble_eq_true rfl) (fun X C hr _ => ?_) hf
  exact w_X6_exchange C hr v a1 a2
set_option maxRecDepth 100000 in
set_option maxHeartbeats 4000000 in
theorem w_X6_goodWide {G : GG} {X : WX} {c : VC} {o : Nat → Int64} (C : Cx G 1 X RX6 cX6_goodWide 3) (hr : (xM X).sig.returnType = (some .int)) (v : VM) : JS G 1 X (QM G X (fun x : Int32 => some (.int x)) (fun x : Int32 => ((c, (v, o)) : VA))) (f_X6_goodWide v) (c, (v, o)) 0 [(0, .ref (G.2.2 114))] [] := by
  unfold f_X6_goodWide
  refine j_iconst (v := 2) C 0 dX6_goodWide_0 rfl ?_
  refine j_aload_n C 1 0 rfl dX6_goodWide_1 ?_
  refine j_iconst (v := 0) C 2 dX6_goodWide_2 rfl ?_
  refine j_bind (fun x3 h3 => ?_)
  refine j_vMo_i (As := [.int 0]) (st := [.int 2]) C k_X6_goodRoom 3 (c_X6_goodRoom C.2.2.2.2.2.2.1 _ _ h3) rfl rfl ml_X6_105 ii_X6_goodRoom is_X6_goodRoom dX6_goodWide_3 (by decide) rfl (Nat.le_of_ble_eq_true rfl) ?_ rfl
  refine j_aload_n C 6 0 rfl dX6_goodWide_6 ?_
  refine j_iconst (v := 1) C 7 dX6_goodWide_7 rfl ?_
  refine j_bind (fun x8 h8 => ?_)
  refine j_vMo_i (As := [.int 1]) (st := [.int x3, .int 2]) C k_X6_goodRoom 8 (c_X6_goodRoom C.2.2.2.2.2.2.1 _ _ h8) rfl rfl ml_X6_105 ii_X6_goodRoom is_X6_goodRoom dX6_goodWide_8 (by decide) rfl (Nat.le_of_ble_eq_true rfl) ?_ rfl
  refine j_icmp_ge C 11 22 dX6_goodWide_11 (by decide) (fun c11 => ?_) (fun c11 => ?_)
  · refine j_aload_n C 14 0 rfl dX6_goodWide_14 ?_
    refine j_iconst (v := 0) C 15 dX6_goodWide_15 rfl ?_
    refine j_bind (fun x16 h16 => ?_)
    refine j_vMo_i (As := [.int 0]) (st := [.int 2]) C k_X6_goodRoom 16 (c_X6_goodRoom C.2.2.2.2.2.2.1 _ _ h16) rfl rfl ml_X6_105 ii_X6_goodRoom is_X6_goodRoom dX6_goodWide_16 (by decide) rfl (Nat.le_of_ble_eq_true rfl) ?_ rfl
    refine j_goto C 19 27 dX6_goodWide_19 (by decide) ?_
    refine j_imul C 27 dX6_goodWide_27 ?_
    exact j_iret C 28 hr rfl rfl dX6_goodWide_28
  · refine j_aload_n C 22 0 rfl dX6_goodWide_22 ?_
    refine j_iconst (v := 1) C 23 dX6_goodWide_23 rfl ?_
    refine j_bind (fun x24 h24 => ?_)
    refine j_vMo_i (As := [.int 1]) (st := [.int 2]) C k_X6_goodRoom 24 (c_X6_goodRoom C.2.2.2.2.2.2.1 _ _ h24) rfl rfl ml_X6_105 ii_X6_goodRoom is_X6_goodRoom dX6_goodWide_24 (by decide) rfl (Nat.le_of_ble_eq_true rfl) ?_ rfl
    refine j_imul C 27 dX6_goodWide_27 ?_
    exact j_iret C 28 hr rfl rfl dX6_goodWide_28
theorem c_X6_goodWide {G : GG} {l : Launch} (hG : Gok G) {c : VC} {o : Nat → Int64} (v : VM) {x : Int32} (hf : f_X6_goodWide v = some x) : Ct l yX6_goodWide cX6_goodWide 1 (some .int) 3 [.ref (G.2.2 114)] G (c, (v, o)) (some (.int x)) (c, (v, o)) := by
  refine ct_of (rv := fun x : Int32 => (some (.int x))) (fin := fun x : Int32 => ((c, (v, o)) : VA)) (own := RX6) hG (plainFor_of_name (by decide)) rfl (Nat.le_of_ble_eq_true rfl) (fun X C hr _ => ?_) hf
  exact w_X6_goodWide C hr v
set_option maxRecDepth 100000 in
set_option maxHeartbeats 4000000 in
theorem wl_X6_findChange_19 {G : GG} {X : WX} {c : VC} {o : Nat → Int64} (C : Cx G 6 X RX6 cX6_findChange 4) (hr : (xM X).sig.returnType = (some .int)) (K9 : VM → Int32 → Int32 → Int32 → Option (Int32 × VM)) (hK9 : ∀ (v : VM) (s1 : Int32) (s2 : Int32) (s3 : Int32), JS G 6 X (QM G X (fun x : (Int32 × VM) => some (.int x.1)) (fun x : (Int32 × VM) => ((c, (x.2, o)) : VA))) (K9 v s1 s2 s3) (c, (v, o)) 9 [(0, .ref (G.2.2 114)), (1, .int s1), (2, .int s2), (3, .int s3)] []) : ∀ (n : Nat) (v : VM) (s1 : Int32) (s2 : Int32) (s3 : Int32) (s4 : Int32), JS G 6 X (QM G X (fun x : (Int32 × VM) => some (.int x.1)) (fun x : (Int32 × VM) => ((c, (x.2, o)) : VA))) (l_X6_findChange_19 K9 n v s1 s2 s3 s4) (c, (v, o)) 19 [(0, .ref (G.2.2 114)), (1, .int s1), (2, .int s2), (3, .int s3), (4, .int s4)] [] := by
  intro n
  induction n with
  | zero => intro _ _ _ _ _; exact j_none
  | succ n ih =>
    intro v s1 s2 s3 s4
    unfold l_X6_findChange_19
    refine j_iload C 19 4 rfl dX6_findChange_19 ?_
    refine j_iconst (v := 4) C 21 dX6_findChange_21 rfl ?_
    refine j_icmp_ge C 22 67 dX6_findChange_22 (by decide) (fun c22 => ?_) (fun c22 => ?_)
    · refine j_aload_n C 25 0 rfl dX6_findChange_25 ?_
      refine j_iload_n C 26 3 rfl dX6_findChange_26 ?_
      refine j_iload C 27 4 rfl dX6_findChange_27 ?_
      refine j_bind (fun x29 h29 => ?_)
      refine j_vMo_v (As := [.int s3, .int s4]) (st := []) C k_X6_exchange 29 (c_X6_exchange C.2.2.2.2.2.2.1 _ _ _ h29) rfl rfl ml_X6_213 ii_X6_exchange is_X6_exchange dX6_findChange_29 (by decide) rfl (Nat.le_of_ble_eq_true rfl) ?_ rfl
      refine j_V (V' := (c, (x29, o))) rfl ?_
      refine j_aload_n C 32 0 rfl dX6_findChange_32 ?_
      refine j_bind (fun x33 h33 => ?_)
      refine j_vMo_i (As := []) (st := []) C k_X6_goodWide 33 (c_X6_goodWide C.2.2.2.2.2.2.1 _ h33) rfl rfl ml_X6_210 ii_X6_goodWide is_X6_goodWide dX6_findChange_33 (by decide) rfl (Nat.le_of_ble_eq_true rfl) ?_ rfl
      refine j_istore (L1 := [(5, .int x33), (0, .ref (G.2.2 114)), (1, .int s1), (2, .int s2), (3, .int s3), (4, .int s4)]) C 36 dX6_findChange_36 (by decide) rfl ?_
      refine j_aload_n C 38 1 rfl dX6_findChange_38 ?_
      refine j_iload_n C 39 4 rfl dX6_findChange_39 ?_
      refine j_iload C 40 5 rfl dX6_findChange_40 ?_
      refine j_bind (fun x42 h42 => ?_)
      refine j_vMo_v (As := [.int s3, .int s4]) (st := []) C k_X6_exchange 42 (c_X6_exchange C.2.2.2.2.2.2.1 _ _ _ h42) rfl rfl ml_X6_213 ii_X6_exchange is_X6_exchange dX6_findChange_42 (by decide) rfl (Nat.le_of_ble_eq_true rfl) ?_ rfl
      refine j_V (V' := (c, (x42, o))) rfl ?_
      refine j_iload C 45 0 rfl dX6_findChange_45 ?_
      refine j_iload_n C 47 3 rfl dX6_findChange_47 ?_
      refine j_icmp_le C 48 61 dX6_findChange_48 (by decide) (fun c48 => ?_) (fun c48 => ?_)
      · refine j_iconst (v := 4) C 51 dX6_findChange_51 rfl ?_
        refine j_iload_n C 52 4 rfl dX6_findChange_52 ?_
        refine j_imul C 53 dX6_findChange_53 ?_
        refine j_iload C 54 5 rfl dX6_findChange_54 ?_
        refine j_iadd C 56 dX6_findChange_56 ?_
        refine j_istore_n (L1 := [(1, .int ((4 * s3) + s4)), (5, .int x33), (0, .ref (G.2.2 114)), (2, .int s2), (3, .int s3), (4, .int s4)]) C 57 rfl dX6_findChange_57 (by decide) rfl ?_
        refine j_iload C 58 1 rfl dX6_findChange_58 ?_
        refine j_istore_n (L1 := [(2, .int x33), (1, .int ((4 * s3) + s4)), (5, .int x33), (0, .ref (G.2.2 114)), (3, .int s3), (4, .int s4)]) C 60 rfl dX6_findChange_60 (by decide) rfl ?_
        refine j_iinc (v := (s4 + 1)) (L1 := [(4, .int (s4 + 1)), (2, .int x33), (1, .int ((4 * s3) + s4)), (5, .int x33), (0, .ref (G.2.2 114)), (3, .int s3)]) C 61 5 rfl dX6_findChange_61 rfl (by decide) rfl ?_
        refine j_goto C 64 19 dX6_findChange_64 (by decide) ?_
        refine j_L (L' := [(0, .ref (G.2.2 114)), (1, .int ((4 * s3) + s4)), (2, .int x33), (3, .int s3), (4, .int (s4 + 1))]) [4, 2, 1, 5, 0] rfl ?_
        exact ih x42 ((4 * s3) + s4) x33 s3 (s4 + 1)
      · refine j_iinc (v := (s4 + 1)) (L1 := [(4, .int (s4 + 1)), (5, .int x33), (0, .ref (G.2.2 114)), (1, .int s1), (2, .int s2), (3, .int s3)]) C 61 5 rfl dX6_findChange_61 rfl (by decide) rfl ?_
        refine j_goto C 64 19 dX6_findChange_64 (by decide) ?_
        refine j_L (L' := [(0, .ref (G.2.2 114)), (1, .int s1), (2, .int s2), (3, .int s3), (4, .int (s4 + 1))]) [2, 3, 4, 5, 0] rfl ?_
        exact ih x42 s1 s2 s3 (s4 + 1)
    · refine j_iinc (v := (s3 + 1)) (L1 := [(3, .int (s3 + 1)), (0, .ref (G.2.2 114)), (1, .int s1), (2, .int s2), (4, .int s4)]) C 67 3 rfl dX6_findChange_67 rfl (by decide) rfl ?_
      refine j_goto C 70 9 dX6_findChange_70 (by decide) ?_
      refine j_L (L' := [(0, .ref (G.2.2 114)), (1, .int s1), (2, .int s2), (3, .int (s3 + 1))]) [1, 2, 3, 0] rfl ?_
      exact hK9 v s1 s2 (s3 + 1)
set_option maxRecDepth 100000 in
set_option maxHeartbeats 4000000 in
theorem wl_X6_findChange_9 {G : GG} {X : WX} {c : VC} {o : Nat → Int64} (C : Cx G 6 X RX6 cX6_findChange 4) (hr : (xM X).sig.returnType = (some .int)) : ∀ (n : Nat) (v : VM) (s1 : Int32) (s2 : Int32) (s3 : Int32), JS G 6 X (QM G X (fun x : (Int32 × VM) => some (.int x.1)) (fun x : (Int32 × VM) => ((c, (x.2, o)) : VA))) (l_X6_findChange_9 n v s1 s2 s3) (c, (v, o)) 9 [(0, .ref (G.2.2 114)), (1, .int s1), (2, .int s2), (3, .int s3)] [] := by
  intro n
  induction n with
  | zero => intro _ _ _ _; exact j_none
  | succ n ih =>
    intro v s1 s2 s3
    unfold l_X6_findChange_9
    refine j_iload_n C 9 3 rfl dX6_findChange_9 ?_
    refine j_iconst (v := 4) C 10 dX6_findChange_10 rfl ?_
    refine j_icmp_ge C 11 73 dX6_findChange_11 (by decide) (fun c11 => ?_) (fun c11 => ?_)
    · refine j_iload_n C 14 3 rfl dX6_findChange_14 ?_
      refine j_iconst (v := 1) C 15 dX6_findChange_15 rfl ?_
      refine j_iadd C 16 dX6_findChange_16 ?_
      refine j_istore (L1 := [(4, .int (s3 + 1)), (0, .ref (G.2.2 114)), (1, .int s1), (2, .int s2), (3, .int s3)]) C 17 dX6_findChange_17 (by decide) rfl ?_
      refine j_L (L' := [(0, .ref (G.2.2 114)), (1, .int s1), (2, .int s2), (3, .int s3), (4, .int (s3 + 1))]) [1, 2, 3, 4, 0] rfl ?_
      exact wl_X6_findChange_19 C hr _ ih FU v s1 s2 s3 (s3 + 1)
    · refine j_iload_n C 73 1 rfl dX6_findChange_73 ?_
      exact j_iret C 74 hr rfl rfl dX6_findChange_74
set_option maxRecDepth 100000 in
set_option maxHeartbeats 4000000 in
theorem w_X6_findChange {G : GG} {X : WX} {c : VC} {o : Nat → Int64} (C : Cx G 6 X RX6 cX6_findChange 4) (hr : (xM X).sig.returnType = (some .int)) (v : VM) : JS G 6 X (QM G X (fun x : (Int32 × VM) => some (.int x.1)) (fun x : (Int32 × VM) => ((c, (x.2, o)) : VA))) (f_X6_findChange v) (c, (v, o)) 0 [(0, .ref (G.2.2 114))] [] := by
  unfold f_X6_findChange
  refine j_iconst (v := (-1)) C 0 dX6_findChange_0 rfl ?_
  refine j_istore_n (L1 := [(1, .int (-1)), (0, .ref (G.2.2 114))]) C 1 rfl dX6_findChange_1 (by decide) rfl ?_
  refine j_aload_n C 2 1 rfl dX6_findChange_2 ?_
  refine j_bind (fun x3 h3 => ?_)
  refine j_vMo_i (As := []) (st := []) C k_X6_goodWide 3 (c_X6_goodWide C.2.2.2.2.2.2.1 _ h3) rfl rfl ml_X6_210 ii_X6_goodWide is_X6_goodWide dX6_findChange_3 (by decide) rfl (Nat.le_of_ble_eq_true rfl) ?_ rfl
  refine j_istore_n (L1 := [(2, .int x3), (1, .int (-1)), (0, .ref (G.2.2 114))]) C 6 rfl dX6_findChange_6 (by decide) rfl ?_
  refine j_iconst (v := 0) C 7 dX6_findChange_7 rfl ?_
  refine j_istore_n (L1 := [(3, .int 0), (2, .int x3), (1, .int (-1)), (0, .ref (G.2.2 114))]) C 8 rfl dX6_findChange_8 (by decide) rfl ?_
  refine j_L (L' := [(0, .ref (G.2.2 114)), (1, .int (-1)), (2, .int x3), (3, .int 0)]) [3, 2, 1, 0] rfl ?_
  exact wl_X6_findChange_9 C hr FU v (-1) x3 0
theorem c_X6_findChange {G : GG} {l : Launch} (hG : Gok G) {c : VC} {o : Nat → Int64} (v : VM) {x : (Int32 × VM)} (hf : f_X6_findChange v = some x) : Ct l yX6_findChange cX6_findChange 6 (some .int) 4 [.ref (G.2.2 114)] G (c, (v, o)) (some (.int x.1)) (c, (x.2, o)) := by
  refine ct_of (rv := fun x : (Int32 × VM) => (some (.int x.1))) (fin := fun x : (Int32 × VM) => ((c, (x.2, o)) : VA)) (own := RX6) hG (plainFor_of_name (by decide)) rfl (Nat.le_of_ble_eq_true rfl) (fun X C hr _ => ?_) hf
  exact w_X6_findChange C hr v
set_option maxRecDepth 100000 in
set_option maxHeartbeats 4000000 in
theorem w_X6_bestChange {G : GG} {X : WX} {c : VC} {o : Nat → Int64} (C : Cx G 1 X RX6 cX6_bestChange 5) (hr : (xM X).sig.returnType = (some .int)) (v : VM) : JS G 1 X (QM G X (fun x : (Int32 × VM) => some (.int x.1)) (fun x : (Int32 × VM) => ((c, (x.2, o)) : VA))) (f_X6_bestChange v) (c, (v, o)) 0 [(0, .ref (G.2.2 114))] [] := by
  unfold f_X6_bestChange
  refine j_aload_n C 0 0 rfl dX6_bestChange_0 ?_
  refine j_iconst (v := 0) C 1 dX6_bestChange_1 rfl ?_
  refine p_Mo0 C 2 fl_X6_25 dX6_bestChange_2 ?_
  refine j_V (V' := (c, ((0, v.2), o))) rfl ?_
  refine j_aload_n C 5 0 rfl dX6_bestChange_5 ?_
  refine j_bind (fun x6 h6 => ?_)
  refine j_vMo_i (As := []) (st := []) C k_X6_findChange 6 (c_X6_findChange C.2.2.2.2.2.2.1 _ h6) rfl rfl ml_X6_217 ii_X6_findChange is_X6_findChange dX6_bestChange_6 (by decide) rfl (Nat.le_of_ble_eq_true rfl) ?_ rfl
  refine j_V (V' := (c, (x6.2, o))) rfl ?_
  exact j_iret C 9 hr rfl rfl dX6_bestChange_9
theorem c_X6_bestChange {G : GG} {l : Launch} (hG : Gok G) {c : VC} {o : Nat → Int64} (v : VM) {x : (Int32 × VM)} (hf : f_X6_bestChange v = some x) : Ct l yX6_bestChange cX6_bestChange 1 (some .int) 5 [.ref (G.2.2 114)] G (c, (v, o)) (some (.int x.1)) (c, (x.2, o)) := by
  refine ct_of (rv := fun x : (Int32 × VM) => (some (.int x.1))) (fin := fun x : (Int32 × VM) => ((c, (x.2, o)) : VA)) (own := RX6) hG (plainFor_of_name (by decide)) rfl (Nat.le_of_ble_eq_true rfl) (fun X C hr _ => ?_) hf
  exact w_X6_bestChange C hr v
set_option maxRecDepth 100000 in
set_option maxHeartbeats 4000000 in
theorem w_X6_share {G : GG} {X : WX} {c : VC} {o : Nat → Int64} (C : Cx G 1 X RX6 cX6_share 3) (hr : (xM X).sig.returnType = (some .double)) (v : VM) : JS G 1 X (QM G X (fun x : UInt64 => some (.double x)) (fun x : UInt64 => ((c, (v, o)) : VA))) (f_X6_share v) (c, (v, o)) 0 [(0, .ref (G.2.2 114))] [] := by
  unfold f_X6_share
  refine j_aload_n C 0 0 rfl dX6_share_0 ?_
  refine j_bind (fun x1 h1 => ?_)
  refine j_vMo_i (As := []) (st := []) C k_X6_blocks 1 (c_X6_blocks C.2.2.2.2.2.2.1 _ h1) rfl rfl ml_X6_55 ii_X6_blocks is_X6_blocks dX6_share_1 (by decide) rfl (Nat.le_of_ble_eq_true rfl) ?_ rfl
  refine j_if_ne C 4 11 dX6_share_4 (by decide) (fun c4 => ?_) (fun c4 => ?_)
  · refine j_dconst0 C 7 dX6_share_7 ?_
    refine j_goto C 8 22 dX6_share_8 (by decide) ?_
    exact j_dret C 22 hr rfl rfl dX6_share_22
  · refine j_aload_n C 11 0 rfl dX6_share_11 ?_
    refine j_bind (fun x12 h12 => ?_)
    refine j_vMo_i (As := []) (st := []) C k_X6_wideBlocks 12 (c_X6_wideBlocks C.2.2.2.2.2.2.1 _ h12) rfl rfl ml_X6_58 ii_X6_wideBlocks is_X6_wideBlocks dX6_share_12 (by decide) rfl (Nat.le_of_ble_eq_true rfl) ?_ rfl
    refine j_i2d C 15 dX6_share_15 ?_
    refine j_aload_n C 16 0 rfl dX6_share_16 ?_
    refine j_bind (fun x17 h17 => ?_)
    refine j_vMo_i (As := []) (st := [.double (FP.i2d x12)]) C k_X6_blocks 17 (c_X6_blocks C.2.2.2.2.2.2.1 _ h17) rfl rfl ml_X6_55 ii_X6_blocks is_X6_blocks dX6_share_17 (by decide) rfl (Nat.le_of_ble_eq_true rfl) ?_ rfl
    refine j_i2d C 20 dX6_share_20 ?_
    refine j_bind (fun x21 h21 => ?_)
    refine j_ddiv C 21 h21 dX6_share_21 ?_
    exact j_dret C 22 hr rfl rfl dX6_share_22
theorem c_X6_share {G : GG} {l : Launch} (hG : Gok G) {c : VC} {o : Nat → Int64} (v : VM) {x : UInt64} (hf : f_X6_share v = some x) : Ct l yX6_share cX6_share 1 (some .double) 3 [.ref (G.2.2 114)] G (c, (v, o)) (some (.double x)) (c, (v, o)) := by
  refine ct_of (rv := fun x : UInt64 => (some (.double x))) (fin := fun x : UInt64 => ((c, (v, o)) : VA)) (own := RX6) hG (plainFor_of_name (by decide)) rfl (Nat.le_of_ble_eq_true rfl) (fun X C hr _ => ?_) hf
  exact w_X6_share C hr v
set_option maxRecDepth 100000 in
set_option maxHeartbeats 4000000 in
theorem w_X6_wideShare {G : GG} {X : WX} {c : VC} {o : Nat → Int64} (C : Cx G 1 X RX6 cX6_wideShare 4) (hr : (xM X).sig.returnType = (some .double)) (v : VM) : JS G 1 X (QM G X (fun x : (UInt64 × VM) => some (.double x.1)) (fun x : (UInt64 × VM) => ((c, (x.2, o)) : VA))) (f_X6_wideShare v) (c, (v, o)) 0 [(0, .ref (G.2.2 114))] [] := by
  unfold f_X6_wideShare
  refine j_aload_n C 0 0 rfl dX6_wideShare_0 ?_
  refine j_iconst (v := 0) C 1 dX6_wideShare_1 rfl ?_
  refine p_Mo0 C 2 fl_X6_25 dX6_wideShare_2 ?_
  refine j_V (V' := (c, ((0, v.2), o))) rfl ?_
  refine j_aload_n C 5 0 rfl dX6_wideShare_5 ?_
  refine j_bind (fun x6 h6 => ?_)
  refine j_vMo_d (As := []) (st := []) C k_X6_share 6 (c_X6_share C.2.2.2.2.2.2.1 _ h6) rfl rfl ml_X6_220 ii_X6_share is_X6_share dX6_wideShare_6 (by decide) rfl (Nat.le_of_ble_eq_true rfl) ?_ rfl
  exact j_dret C 9 hr rfl rfl dX6_wideShare_9
theorem c_X6_wideShare {G : GG} {l : Launch} (hG : Gok G) {c : VC} {o : Nat → Int64} (v : VM) {x : (UInt64 × VM)} (hf : f_X6_wideShare v = some x) : Ct l yX6_wideShare cX6_wideShare 1 (some .double) 4 [.ref (G.2.2 114)] G (c, (v, o)) (some (.double x.1)) (c, (x.2, o)) := by
  refine ct_of (rv := fun x : (UInt64 × VM) => (some (.double x.1))) (fin := fun x : (UInt64 × VM) => ((c, (x.2, o)) : VA)) (own := RX6) hG (plainFor_of_name (by decide)) rfl (Nat.le_of_ble_eq_true rfl) (fun X C hr _ => ?_) hf
  exact w_X6_wideShare C hr v
set_option maxRecDepth 100000 in
set_option maxHeartbeats 4000000 in
theorem w_X6_mean {G : GG} {X : WX} {c : VC} {o : Nat → Int64} (C : Cx G 1 X RX6 cX6_mean 0) (hr : (xM X).sig.returnType = (some .float)) (v : VM) : JS G 1 X (QM G X (fun x : UInt32 => some (.float x)) (fun x : UInt32 => ((c, (v, o)) : VA))) (f_X6_mean v) (c, (v, o)) 0 [(0, .ref (G.2.2 114))] [] := by
  unfold f_X6_mean
  refine j_aload_n C 0 0 rfl dX6_mean_0 ?_
  refine g_Mo1 C 1 (Or.inl fl_X6_7) dX6_mean_1 ?_
  refine j_bipush (v := 42) C 4 dX6_mean_4 rfl ?_
  refine j_bind (fun x6 h6 => ?_)
  refine l_Mo1 C 6 h6 dX6_mean_6 ?_
  refine j_if_ne C 7 14 dX6_mean_7 (by decide) (fun c7 => ?_) (fun c7 => ?_)
  · refine j_fconst0 C 10 dX6_mean_10 ?_
    refine j_goto C 11 31 dX6_mean_11 (by decide) ?_
    exact j_fret C 31 hr rfl rfl dX6_mean_31
  · refine j_aload_n C 14 0 rfl dX6_mean_14 ?_
    refine g_Mo1 C 15 (Or.inl fl_X6_7) dX6_mean_15 ?_
    refine j_bipush (v := 41) C 18 dX6_mean_18 rfl ?_
    refine j_bind (fun x20 h20 => ?_)
    refine l_Mo1 C 20 h20 dX6_mean_20 ?_
    refine j_i2f C 21 dX6_mean_21 ?_
    refine j_aload_n C 22 0 rfl dX6_mean_22 ?_
    refine g_Mo1 C 23 (Or.inl fl_X6_7) dX6_mean_23 ?_
    refine j_bipush (v := 42) C 26 dX6_mean_26 rfl ?_
    refine j_bind (fun x28 h28 => ?_)
    refine l_Mo1 C 28 h28 dX6_mean_28 ?_
    refine j_i2f C 29 dX6_mean_29 ?_
    refine j_bind (fun x30 h30 => ?_)
    refine j_fdiv C 30 h30 dX6_mean_30 ?_
    exact j_fret C 31 hr rfl rfl dX6_mean_31
theorem c_X6_mean {G : GG} {l : Launch} (hG : Gok G) {c : VC} {o : Nat → Int64} (v : VM) {x : UInt32} (hf : f_X6_mean v = some x) : Ct l yX6_mean cX6_mean 1 (some .float) 0 [.ref (G.2.2 114)] G (c, (v, o)) (some (.float x)) (c, (v, o)) := by
  refine ct_of (rv := fun x : UInt32 => (some (.float x))) (fin := fun x : UInt32 => ((c, (v, o)) : VA)) (own := RX6) hG (plainFor_of_name (by decide)) rfl (Nat.le_of_ble_eq_true rfl) (fun X C hr _ => ?_) hf
  exact w_X6_mean C hr v
set_option maxRecDepth 100000 in
set_option maxHeartbeats 4000000 in
theorem w_X6_meanTicks {G : GG} {X : WX} {c : VC} {o : Nat → Int64} (C : Cx G 1 X RX6 cX6_meanTicks 1) (hr : (xM X).sig.returnType = (some .float)) (v : VM) : JS G 1 X (QM G X (fun x : (UInt32 × VM) => some (.float x.1)) (fun x : (UInt32 × VM) => ((c, (x.2, o)) : VA))) (f_X6_meanTicks v) (c, (v, o)) 0 [(0, .ref (G.2.2 114))] [] := by
  unfold f_X6_meanTicks
  refine j_aload_n C 0 0 rfl dX6_meanTicks_0 ?_
  refine j_iconst (v := 0) C 1 dX6_meanTicks_1 rfl ?_
  refine p_Mo0 C 2 fl_X6_25 dX6_meanTicks_2 ?_
  refine j_V (V' := (c, ((0, v.2), o))) rfl ?_
  refine j_aload_n C 5 0 rfl dX6_meanTicks_5 ?_
  refine j_bind (fun x6 h6 => ?_)
  refine j_vMo_f (As := []) (st := []) C k_X6_mean 6 (c_X6_mean C.2.2.2.2.2.2.1 _ h6) rfl rfl ml_X6_224 ii_X6_mean is_X6_mean dX6_meanTicks_6 (by decide) rfl (Nat.le_of_ble_eq_true rfl) ?_ rfl
  exact j_fret C 9 hr rfl rfl dX6_meanTicks_9
theorem c_X6_meanTicks {G : GG} {l : Launch} (hG : Gok G) {c : VC} {o : Nat → Int64} (v : VM) {x : (UInt32 × VM)} (hf : f_X6_meanTicks v = some x) : Ct l yX6_meanTicks cX6_meanTicks 1 (some .float) 1 [.ref (G.2.2 114)] G (c, (v, o)) (some (.float x.1)) (c, (x.2, o)) := by
  refine ct_of (rv := fun x : (UInt32 × VM) => (some (.float x.1))) (fin := fun x : (UInt32 × VM) => ((c, (x.2, o)) : VA)) (own := RX6) hG (plainFor_of_name (by decide)) rfl (Nat.le_of_ble_eq_true rfl) (fun X C hr _ => ?_) hf
  exact w_X6_meanTicks C hr v
set_option maxRecDepth 100000 in
set_option maxHeartbeats 4000000 in
theorem wl_X6_digest_105 {G : GG} {X : WX} {c : VC} {o : Nat → Int64} (C : Cx G 5 X RX6 cX6_digest 10) (hr : (xM X).sig.returnType = (some .long)) (K66 : VM → Int64 → Int32 → Option (Int64 × VM)) (hK66 : ∀ (v : VM) (s1 : Int64) (s3 : Int32), JS G 5 X (QM G X (fun x : (Int64 × VM) => some (.long x.1)) (fun x : (Int64 × VM) => ((c, (x.2, o)) : VA))) (K66 v s1 s3) (c, (v, o)) 66 [(0, .ref (G.2.2 114)), (1, .long s1), (3, .int s3)] []) : ∀ (n : Nat) (v : VM) (s1 : Int64) (s3 : Int32) (s4 : Int32), JS G 5 X (QM G X (fun x : (Int64 × VM) => some (.long x.1)) (fun x : (Int64 × VM) => ((c, (x.2, o)) : VA))) (l_X6_digest_105 K66 n v s1 s3 s4) (c, (v, o)) 105 [(0, .ref (G.2.2 114)), (1, .long s1), (3, .int s3), (4, .int s4)] [] := by
  intro n
  induction n with
  | zero => intro _ _ _ _; exact j_none
  | succ n ih =>
    intro v s1 s3 s4
    unfold l_X6_digest_105
    refine j_iload C 105 3 rfl dX6_digest_105 ?_
    refine j_bipush (v := 12) C 107 dX6_digest_107 rfl ?_
    refine j_icmp_ge C 109 133 dX6_digest_109 (by decide) (fun c109 => ?_) (fun c109 => ?_)
    · refine j_ldc2 C 112 dX6_digest_112 lc_X6_230 ?_
      refine j_lload_n C 115 1 rfl dX6_digest_115 ?_
      refine j_lmul C 116 dX6_digest_116 ?_
      refine j_aload_n C 117 0 rfl dX6_digest_117 ?_
      refine j_iload_n C 118 2 rfl dX6_digest_118 ?_
      refine j_iload C 119 3 rfl dX6_digest_119 ?_
      refine j_bind (fun x121 h121 => ?_)
      refine j_vMo_i (As := [.int s3, .int s4]) (st := [.long ((31 : Int64) * s1)]) C k_X6_blockAt 121 (c_X6_blockAt C.2.2.2.2.2.2.1 _ _ _ h121) rfl rfl ml_X6_95 ii_X6_blockAt is_X6_blockAt dX6_digest_121 (by decide) rfl (Nat.le_of_ble_eq_true rfl) ?_ rfl
      refine j_i2l C 124 dX6_digest_124 ?_
      refine j_ladd C 125 dX6_digest_125 ?_
      refine j_lstore_n (L1 := [(1, .long (((31 : Int64) * s1) + ((x121 : Int32).toInt64))), (0, .ref (G.2.2 114)), (3, .int s3), (4, .int s4)]) C 126 rfl dX6_digest_126 (by decide) rfl ?_
      refine j_iinc (v := (s4 + 1)) (L1 := [(4, .int (s4 + 1)), (1, .long (((31 : Int64) * s1) + ((x121 : Int32).toInt64))), (0, .ref (G.2.2 114)), (3, .int s3)]) C 127 3 rfl dX6_digest_127 rfl (by decide) rfl ?_
      refine j_goto C 130 105 dX6_digest_130 (by decide) ?_
      refine j_L (L' := [(0, .ref (G.2.2 114)), (1, .long (((31 : Int64) * s1) + ((x121 : Int32).toInt64))), (3, .int s3), (4, .int (s4 + 1))]) [2, 1, 3, 0] rfl ?_
      exact ih v (((31 : Int64) * s1) + ((x121 : Int32).toInt64)) s3 (s4 + 1)
    · refine j_iinc (v := (s3 + 1)) (L1 := [(3, .int (s3 + 1)), (0, .ref (G.2.2 114)), (1, .long s1), (4, .int s4)]) C 133 2 rfl dX6_digest_133 rfl (by decide) rfl ?_
      refine j_goto C 136 66 dX6_digest_136 (by decide) ?_
      refine j_L (L' := [(0, .ref (G.2.2 114)), (1, .long s1), (3, .int (s3 + 1))]) [1, 2, 0] rfl ?_
      exact hK66 v s1 (s3 + 1)
set_option maxRecDepth 100000 in
set_option maxHeartbeats 4000000 in
theorem wl_X6_digest_74 {G : GG} {X : WX} {c : VC} {o : Nat → Int64} (C : Cx G 5 X RX6 cX6_digest 10) (hr : (xM X).sig.returnType = (some .long)) (K66 : VM → Int64 → Int32 → Option (Int64 × VM)) (hK66 : ∀ (v : VM) (s1 : Int64) (s3 : Int32), JS G 5 X (QM G X (fun x : (Int64 × VM) => some (.long x.1)) (fun x : (Int64 × VM) => ((c, (x.2, o)) : VA))) (K66 v s1 s3) (c, (v, o)) 66 [(0, .ref (G.2.2 114)), (1, .long s1), (3, .int s3)] []) : ∀ (n : Nat) (v : VM) (s1 : Int64) (s3 : Int32) (s4 : Int32), JS G 5 X (QM G X (fun x : (Int64 × VM) => some (.long x.1)) (fun x : (Int64 × VM) => ((c, (x.2, o)) : VA))) (l_X6_digest_74 K66 n v s1 s3 s4) (c, (v, o)) 74 [(0, .ref (G.2.2 114)), (1, .long s1), (3, .int s3), (4, .int s4)] [] := by
  intro n
  induction n with
  | zero => intro _ _ _ _; exact j_none
  | succ n ih =>
    intro v s1 s3 s4
    unfold l_X6_digest_74
    refine j_iload C 74 3 rfl dX6_digest_74 ?_
    refine j_bipush (v := 8) C 76 dX6_digest_76 rfl ?_
    refine j_icmp_ge C 78 102 dX6_digest_78 (by decide) (fun c78 => ?_) (fun c78 => ?_)
    · refine j_ldc2 C 81 dX6_digest_81 lc_X6_230 ?_
      refine j_lload_n C 84 1 rfl dX6_digest_84 ?_
      refine j_lmul C 85 dX6_digest_85 ?_
      refine j_aload_n C 86 0 rfl dX6_digest_86 ?_
      refine j_iload_n C 87 2 rfl dX6_digest_87 ?_
      refine j_iload C 88 3 rfl dX6_digest_88 ?_
      refine j_bind (fun x90 h90 => ?_)
      refine j_vMo_i (As := [.int s3, .int s4]) (st := [.long ((31 : Int64) * s1)]) C k_X6_slotNow 90 (c_X6_slotNow C.2.2.2.2.2.2.1 _ _ _ h90) rfl rfl ml_X6_183 ii_X6_slotNow is_X6_slotNow dX6_digest_90 (by decide) rfl (Nat.le_of_ble_eq_true rfl) ?_ rfl
      refine j_i2l C 93 dX6_digest_93 ?_
      refine j_ladd C 94 dX6_digest_94 ?_
      refine j_lstore_n (L1 := [(1, .long (((31 : Int64) * s1) + ((x90 : Int32).toInt64))), (0, .ref (G.2.2 114)), (3, .int s3), (4, .int s4)]) C 95 rfl dX6_digest_95 (by decide) rfl ?_
      refine j_iinc (v := (s4 + 1)) (L1 := [(4, .int (s4 + 1)), (1, .long (((31 : Int64) * s1) + ((x90 : Int32).toInt64))), (0, .ref (G.2.2 114)), (3, .int s3)]) C 96 3 rfl dX6_digest_96 rfl (by decide) rfl ?_
      refine j_goto C 99 74 dX6_digest_99 (by decide) ?_
      refine j_L (L' := [(0, .ref (G.2.2 114)), (1, .long (((31 : Int64) * s1) + ((x90 : Int32).toInt64))), (3, .int s3), (4, .int (s4 + 1))]) [2, 1, 3, 0] rfl ?_
      exact ih v (((31 : Int64) * s1) + ((x90 : Int32).toInt64)) s3 (s4 + 1)
    · refine j_iconst (v := 0) C 102 dX6_digest_102 rfl ?_
      refine j_istore (L1 := [(4, .int 0), (0, .ref (G.2.2 114)), (1, .long s1), (3, .int s3)]) C 103 dX6_digest_103 (by decide) rfl ?_
      refine j_L (L' := [(0, .ref (G.2.2 114)), (1, .long s1), (3, .int s3), (4, .int 0)]) [1, 2, 3, 0] rfl ?_
      exact wl_X6_digest_105 C hr _ hK66 FU v s1 s3 0
set_option maxRecDepth 100000 in
set_option maxHeartbeats 4000000 in
theorem wl_X6_digest_152 {G : GG} {X : WX} {c : VC} {o : Nat → Int64} (C : Cx G 5 X RX6 cX6_digest 10) (hr : (xM X).sig.returnType = (some .long)) (K141 : VM → Int64 → Int32 → Option (Int64 × VM)) (hK141 : ∀ (v : VM) (s1 : Int64) (s3 : Int32), JS G 5 X (QM G X (fun x : (Int64 × VM) => some (.long x.1)) (fun x : (Int64 × VM) => ((c, (x.2, o)) : VA))) (K141 v s1 s3) (c, (v, o)) 141 [(0, .ref (G.2.2 114)), (1, .long s1), (3, .int s3)] []) : ∀ (n : Nat) (v : VM) (s1 : Int64) (s3 : Int32) (s4 : Int32), JS G 5 X (QM G X (fun x : (Int64 × VM) => some (.long x.1)) (fun x : (Int64 × VM) => ((c, (x.2, o)) : VA))) (l_X6_digest_152 K141 n v s1 s3 s4) (c, (v, o)) 152 [(0, .ref (G.2.2 114)), (1, .long s1), (3, .int s3), (4, .int s4)] [] := by
  intro n
  induction n with
  | zero => intro _ _ _ _; exact j_none
  | succ n ih =>
    intro v s1 s3 s4
    unfold l_X6_digest_152
    refine j_iload C 152 3 rfl dX6_digest_152 ?_
    refine j_bipush (v := 7) C 154 dX6_digest_154 rfl ?_
    refine j_icmp_ge C 156 180 dX6_digest_156 (by decide) (fun c156 => ?_) (fun c156 => ?_)
    · refine j_ldc2 C 159 dX6_digest_159 lc_X6_230 ?_
      refine j_lload_n C 162 1 rfl dX6_digest_162 ?_
      refine j_lmul C 163 dX6_digest_163 ?_
      refine j_aload_n C 164 0 rfl dX6_digest_164 ?_
      refine j_iload_n C 165 2 rfl dX6_digest_165 ?_
      refine j_iload C 166 3 rfl dX6_digest_166 ?_
      refine j_bind (fun x168 h168 => ?_)
      refine j_vMo_i (As := [.int s3, .int s4]) (st := [.long ((31 : Int64) * s1)]) C k_X6_whereNow 168 (c_X6_whereNow C.2.2.2.2.2.2.1 _ _ _ h168) rfl rfl ml_X6_186 ii_X6_whereNow is_X6_whereNow dX6_digest_168 (by decide) rfl (Nat.le_of_ble_eq_true rfl) ?_ rfl
      refine j_i2l C 171 dX6_digest_171 ?_
      refine j_ladd C 172 dX6_digest_172 ?_
      refine j_lstore_n (L1 := [(1, .long (((31 : Int64) * s1) + ((x168 : Int32).toInt64))), (0, .ref (G.2.2 114)), (3, .int s3), (4, .int s4)]) C 173 rfl dX6_digest_173 (by decide) rfl ?_
      refine j_iinc (v := (s4 + 1)) (L1 := [(4, .int (s4 + 1)), (1, .long (((31 : Int64) * s1) + ((x168 : Int32).toInt64))), (0, .ref (G.2.2 114)), (3, .int s3)]) C 174 3 rfl dX6_digest_174 rfl (by decide) rfl ?_
      refine j_goto C 177 152 dX6_digest_177 (by decide) ?_
      refine j_L (L' := [(0, .ref (G.2.2 114)), (1, .long (((31 : Int64) * s1) + ((x168 : Int32).toInt64))), (3, .int s3), (4, .int (s4 + 1))]) [2, 1, 3, 0] rfl ?_
      exact ih v (((31 : Int64) * s1) + ((x168 : Int32).toInt64)) s3 (s4 + 1)
    · refine j_ldc2 C 180 dX6_digest_180 lc_X6_230 ?_
      refine j_lload_n C 183 1 rfl dX6_digest_183 ?_
      refine j_lmul C 184 dX6_digest_184 ?_
      refine j_aload_n C 185 0 rfl dX6_digest_185 ?_
      refine j_iload_n C 186 2 rfl dX6_digest_186 ?_
      refine j_bind (fun x187 h187 => ?_)
      refine j_vMo_i (As := [.int s3]) (st := [.long ((31 : Int64) * s1)]) C k_X6_isLeftFor 187 (c_X6_isLeftFor C.2.2.2.2.2.2.1 _ _ h187) rfl rfl ml_X6_131 ii_X6_isLeftFor is_X6_isLeftFor dX6_digest_187 (by decide) rfl (Nat.le_of_ble_eq_true rfl) ?_ rfl
      refine j_if_eq C 190 201 dX6_digest_190 (by decide) (fun c190 => ?_) (fun c190 => ?_)
      · refine j_iconst (v := (-1)) C 201 dX6_digest_201 rfl ?_
        refine j_i2l C 202 dX6_digest_202 ?_
        refine j_ladd C 203 dX6_digest_203 ?_
        refine j_lstore_n (L1 := [(1, .long (((31 : Int64) * s1) + (((-1) : Int32).toInt64))), (0, .ref (G.2.2 114)), (3, .int s3), (4, .int s4)]) C 204 rfl dX6_digest_204 (by decide) rfl ?_
        refine j_iinc (v := (s3 + 1)) (L1 := [(3, .int (s3 + 1)), (1, .long (((31 : Int64) * s1) + (((-1) : Int32).toInt64))), (0, .ref (G.2.2 114)), (4, .int s4)]) C 205 2 rfl dX6_digest_205 rfl (by decide) rfl ?_
        refine j_goto C 208 141 dX6_digest_208 (by decide) ?_
        refine j_L (L' := [(0, .ref (G.2.2 114)), (1, .long (((31 : Int64) * s1) + (((-1) : Int32).toInt64))), (3, .int (s3 + 1))]) [2, 1, 0] rfl ?_
        exact hK141 v (((31 : Int64) * s1) + (((-1) : Int32).toInt64)) (s3 + 1)
      · refine j_aload_n C 193 0 rfl dX6_digest_193 ?_
        refine j_iload_n C 194 2 rfl dX6_digest_194 ?_
        refine j_bind (fun x195 h195 => ?_)
        refine j_vMo_i (As := [.int s3]) (st := [.long ((31 : Int64) * s1)]) C k_X6_valueOf 195 (c_X6_valueOf C.2.2.2.2.2.2.1 _ _ h195) rfl rfl ml_X6_134 ii_X6_valueOf is_X6_valueOf dX6_digest_195 (by decide) rfl (Nat.le_of_ble_eq_true rfl) ?_ rfl
        refine j_goto C 198 202 dX6_digest_198 (by decide) ?_
        refine j_i2l C 202 dX6_digest_202 ?_
        refine j_ladd C 203 dX6_digest_203 ?_
        refine j_lstore_n (L1 := [(1, .long (((31 : Int64) * s1) + ((x195 : Int32).toInt64))), (0, .ref (G.2.2 114)), (3, .int s3), (4, .int s4)]) C 204 rfl dX6_digest_204 (by decide) rfl ?_
        refine j_iinc (v := (s3 + 1)) (L1 := [(3, .int (s3 + 1)), (1, .long (((31 : Int64) * s1) + ((x195 : Int32).toInt64))), (0, .ref (G.2.2 114)), (4, .int s4)]) C 205 2 rfl dX6_digest_205 rfl (by decide) rfl ?_
        refine j_goto C 208 141 dX6_digest_208 (by decide) ?_
        refine j_L (L' := [(0, .ref (G.2.2 114)), (1, .long (((31 : Int64) * s1) + ((x195 : Int32).toInt64))), (3, .int (s3 + 1))]) [2, 1, 0] rfl ?_
        exact hK141 v (((31 : Int64) * s1) + ((x195 : Int32).toInt64)) (s3 + 1)
set_option maxRecDepth 100000 in
set_option maxHeartbeats 4000000 in
theorem wl_X6_digest_370 {G : GG} {X : WX} {c : VC} {o : Nat → Int64} (C : Cx G 5 X RX6 cX6_digest 10) (hr : (xM X).sig.returnType = (some .long)) : ∀ (n : Nat) (v : VM) (s1 : Int64) (s3 : Int32), JS G 5 X (QM G X (fun x : (Int64 × VM) => some (.long x.1)) (fun x : (Int64 × VM) => ((c, (x.2, o)) : VA))) (l_X6_digest_370 n v s1 s3) (c, (v, o)) 370 [(0, .ref (G.2.2 114)), (1, .long s1), (3, .int s3)] [] := by
  intro n
  induction n with
  | zero => intro _ _ _; exact j_none
  | succ n ih =>
    intro v s1 s3
    unfold l_X6_digest_370
    refine j_iload_n C 370 2 rfl dX6_digest_370 ?_
    refine j_aload_n C 371 0 rfl dX6_digest_371 ?_
    refine g_Mo8 C 372 (Or.inl fl_X6_152) dX6_digest_372 ?_
    refine j_icmp_ge C 375 398 dX6_digest_375 (by decide) (fun c375 => ?_) (fun c375 => ?_)
    · refine j_ldc2 C 378 dX6_digest_378 lc_X6_230 ?_
      refine j_lload_n C 381 1 rfl dX6_digest_381 ?_
      refine j_lmul C 382 dX6_digest_382 ?_
      refine j_aload_n C 383 0 rfl dX6_digest_383 ?_
      refine g_Mo7 C 384 (Or.inl fl_X6_22) dX6_digest_384 ?_
      refine j_iload_n C 387 2 rfl dX6_digest_387 ?_
      refine j_bind (fun x388 h388 => ?_)
      refine l_Mo7 C 388 h388 dX6_digest_388 ?_
      refine j_i2l C 389 dX6_digest_389 ?_
      refine j_ladd C 390 dX6_digest_390 ?_
      refine j_lstore_n (L1 := [(1, .long (((31 : Int64) * s1) + ((x388 : Int32).toInt64))), (0, .ref (G.2.2 114)), (3, .int s3)]) C 391 rfl dX6_digest_391 (by decide) rfl ?_
      refine j_iinc (v := (s3 + 1)) (L1 := [(3, .int (s3 + 1)), (1, .long (((31 : Int64) * s1) + ((x388 : Int32).toInt64))), (0, .ref (G.2.2 114))]) C 392 2 rfl dX6_digest_392 rfl (by decide) rfl ?_
      refine j_goto C 395 370 dX6_digest_395 (by decide) ?_
      refine j_L (L' := [(0, .ref (G.2.2 114)), (1, .long (((31 : Int64) * s1) + ((x388 : Int32).toInt64))), (3, .int (s3 + 1))]) [2, 1, 0] rfl ?_
      exact ih v (((31 : Int64) * s1) + ((x388 : Int32).toInt64)) (s3 + 1)
    · refine j_lload_n C 398 1 rfl dX6_digest_398 ?_
      exact j_lret C 399 hr rfl rfl dX6_digest_399
set_option maxRecDepth 100000 in
set_option maxHeartbeats 4000000 in
theorem wb_X6_digest_353 {G : GG} {X : WX} {c : VC} {o : Nat → Int64} (C : Cx G 5 X RX6 cX6_digest 10) (hr : (xM X).sig.returnType = (some .long)) (v : VM) (t0 : Int32) (t1 : Int64) : JS G 5 X (QM G X (fun x : (Int64 × VM) => some (.long x.1)) (fun x : (Int64 × VM) => ((c, (x.2, o)) : VA))) (b_X6_digest_353 v t0 t1) (c, (v, o)) 353 [(0, .ref (G.2.2 114))] [.int t0, .long t1] := by
  unfold b_X6_digest_353
  refine j_i2l C 353 dX6_digest_353 ?_
  refine j_ladd C 354 dX6_digest_354 ?_
  refine j_lstore_n (L1 := [(1, .long (t1 + ((t0 : Int32).toInt64))), (0, .ref (G.2.2 114))]) C 355 rfl dX6_digest_355 (by decide) rfl ?_
  refine j_ldc2 C 356 dX6_digest_356 lc_X6_230 ?_
  refine j_lload_n C 359 0 rfl dX6_digest_359 ?_
  refine j_lmul C 360 dX6_digest_360 ?_
  refine j_aload_n C 361 1 rfl dX6_digest_361 ?_
  refine g_Mo8 C 362 (Or.inl fl_X6_152) dX6_digest_362 ?_
  refine j_i2l C 365 dX6_digest_365 ?_
  refine j_ladd C 366 dX6_digest_366 ?_
  refine j_lstore_n (L1 := [(1, .long (((31 : Int64) * (t1 + ((t0 : Int32).toInt64))) + ((v.2.2.2.2.2.2.2.2.1 : Int32).toInt64))), (0, .ref (G.2.2 114))]) C 367 rfl dX6_digest_367 (by decide) rfl ?_
  refine j_iconst (v := 0) C 368 dX6_digest_368 rfl ?_
  refine j_istore_n (L1 := [(3, .int 0), (1, .long (((31 : Int64) * (t1 + ((t0 : Int32).toInt64))) + ((v.2.2.2.2.2.2.2.2.1 : Int32).toInt64))), (0, .ref (G.2.2 114))]) C 369 rfl dX6_digest_369 (by decide) rfl ?_
  refine j_L (L' := [(0, .ref (G.2.2 114)), (1, .long (((31 : Int64) * (t1 + ((t0 : Int32).toInt64))) + ((v.2.2.2.2.2.2.2.2.1 : Int32).toInt64))), (3, .int 0)]) [2, 1, 0] rfl ?_
  exact wl_X6_digest_370 C hr FU v (((31 : Int64) * (t1 + ((t0 : Int32).toInt64))) + ((v.2.2.2.2.2.2.2.2.1 : Int32).toInt64)) 0
set_option maxRecDepth 100000 in
set_option maxHeartbeats 4000000 in
theorem wl_X6_digest_258 {G : GG} {X : WX} {c : VC} {o : Nat → Int64} (C : Cx G 5 X RX6 cX6_digest 10) (hr : (xM X).sig.returnType = (some .long)) : ∀ (n : Nat) (v : VM) (s1 : Int64) (s3 : Int32), JS G 5 X (QM G X (fun x : (Int64 × VM) => some (.long x.1)) (fun x : (Int64 × VM) => ((c, (x.2, o)) : VA))) (l_X6_digest_258 n v s1 s3) (c, (v, o)) 258 [(0, .ref (G.2.2 114)), (1, .long s1), (3, .int s3)] [] := by
  intro n
  induction n with
  | zero => intro _ _ _; exact j_none
  | succ n ih =>
    intro v s1 s3
    unfold l_X6_digest_258
    refine j_iload_n C 258 2 rfl dX6_digest_258 ?_
    refine j_iconst (v := 3) C 259 dX6_digest_259 rfl ?_
    refine j_icmp_ge C 260 295 dX6_digest_260 (by decide) (fun c260 => ?_) (fun c260 => ?_)
    · refine j_ldc2 C 263 dX6_digest_263 lc_X6_230 ?_
      refine j_ldc2 C 266 dX6_digest_266 lc_X6_230 ?_
      refine j_lload_n C 269 1 rfl dX6_digest_269 ?_
      refine j_lmul C 270 dX6_digest_270 ?_
      refine j_aload_n C 271 0 rfl dX6_digest_271 ?_
      refine j_iload_n C 272 2 rfl dX6_digest_272 ?_
      refine j_iconst (v := 0) C 273 dX6_digest_273 rfl ?_
      refine j_bind (fun x274 h274 => ?_)
      refine j_vMo_i (As := [.int s3, .int 0]) (st := [.long ((31 : Int64) * s1), .long (31 : Int64)]) C k_X6_started 274 (c_X6_started C.2.2.2.2.2.2.1 _ _ _ h274) rfl rfl ml_X6_207 ii_X6_started is_X6_started dX6_digest_274 (by decide) rfl (Nat.le_of_ble_eq_true rfl) ?_ rfl
      refine j_V (V' := (c, (x274.2, o))) rfl ?_
      refine j_i2l C 277 dX6_digest_277 ?_
      refine j_ladd C 278 dX6_digest_278 ?_
      refine j_lmul C 279 dX6_digest_279 ?_
      refine j_aload_n C 280 0 rfl dX6_digest_280 ?_
      refine j_iload_n C 281 2 rfl dX6_digest_281 ?_
      refine j_iconst (v := 1) C 282 dX6_digest_282 rfl ?_
      refine j_bind (fun x283 h283 => ?_)
      refine j_vMo_i (As := [.int s3, .int 1]) (st := [.long ((31 : Int64) * (((31 : Int64) * s1) + ((x274.1 : Int32).toInt64)))]) C k_X6_started 283 (c_X6_started C.2.2.2.2.2.2.1 _ _ _ h283) rfl rfl ml_X6_207 ii_X6_started is_X6_started dX6_digest_283 (by decide) rfl (Nat.le_of_ble_eq_true rfl) ?_ rfl
      refine j_V (V' := (c, (x283.2, o))) rfl ?_
      refine j_i2l C 286 dX6_digest_286 ?_
      refine j_ladd C 287 dX6_digest_287 ?_
      refine j_lstore_n (L1 := [(1, .long (((31 : Int64) * (((31 : Int64) * s1) + ((x274.1 : Int32).toInt64))) + ((x283.1 : Int32).toInt64))), (0, .ref (G.2.2 114)), (3, .int s3)]) C 288 rfl dX6_digest_288 (by decide) rfl ?_
      refine j_iinc (v := (s3 + 1)) (L1 := [(3, .int (s3 + 1)), (1, .long (((31 : Int64) * (((31 : Int64) * s1) + ((x274.1 : Int32).toInt64))) + ((x283.1 : Int32).toInt64))), (0, .ref (G.2.2 114))]) C 289 2 rfl dX6_digest_289 rfl (by decide) rfl ?_
      refine j_goto C 292 258 dX6_digest_292 (by decide) ?_
      refine j_L (L' := [(0, .ref (G.2.2 114)), (1, .long (((31 : Int64) * (((31 : Int64) * s1) + ((x274.1 : Int32).toInt64))) + ((x283.1 : Int32).toInt64))), (3, .int (s3 + 1))]) [2, 1, 0] rfl ?_
      exact ih x283.2 (((31 : Int64) * (((31 : Int64) * s1) + ((x274.1 : Int32).toInt64))) + ((x283.1 : Int32).toInt64)) (s3 + 1)
    · refine j_ldc2 C 295 dX6_digest_295 lc_X6_230 ?_
      refine j_lload_n C 298 1 rfl dX6_digest_298 ?_
      refine j_lmul C 299 dX6_digest_299 ?_
      refine j_aload_n C 300 0 rfl dX6_digest_300 ?_
      refine j_bind (fun x301 h301 => ?_)
      refine j_vMo_i (As := []) (st := [.long ((31 : Int64) * s1)]) C k_X6_findChange 301 (c_X6_findChange C.2.2.2.2.2.2.1 _ h301) rfl rfl ml_X6_217 ii_X6_findChange is_X6_findChange dX6_digest_301 (by decide) rfl (Nat.le_of_ble_eq_true rfl) ?_ rfl
      refine j_V (V' := (c, (x301.2, o))) rfl ?_
      refine j_i2l C 304 dX6_digest_304 ?_
      refine j_ladd C 305 dX6_digest_305 ?_
      refine j_lstore_n (L1 := [(1, .long (((31 : Int64) * s1) + ((x301.1 : Int32).toInt64))), (0, .ref (G.2.2 114)), (3, .int s3)]) C 306 rfl dX6_digest_306 (by decide) rfl ?_
      refine j_ldc2 C 307 dX6_digest_307 lc_X6_230 ?_
      refine j_lload_n C 310 0 rfl dX6_digest_310 ?_
      refine j_lmul C 311 dX6_digest_311 ?_
      refine j_aload_n C 312 1 rfl dX6_digest_312 ?_
      refine j_bind (fun x313 h313 => ?_)
      refine j_vMo_d (As := []) (st := [.long ((31 : Int64) * (((31 : Int64) * s1) + ((x301.1 : Int32).toInt64)))]) C k_X6_share 313 (c_X6_share C.2.2.2.2.2.2.1 _ h313) rfl rfl ml_X6_220 ii_X6_share is_X6_share dX6_digest_313 (by decide) rfl (Nat.le_of_ble_eq_true rfl) ?_ rfl
      refine j_bind (fun x316 h316 => ?_)
      refine j_callS_l (As := [.double x313]) (st := [.long ((31 : Int64) * (((31 : Int64) * s1) + ((x301.1 : Int32).toInt64)))]) C k_Jxe99ae_doubleToLongBits_ccdee 316 (c_Jxe99ae_doubleToLongBits_ccdee C.2.2.2.2.2.2.1 (c := c) _ h316) rfl ml_X6_232 st_Jxe99ae_doubleToLongBits_ccdee dX6_digest_316 (by decide) rfl (Nat.le_of_ble_eq_true rfl) ?_ rfl
      refine j_ladd C 319 dX6_digest_319 ?_
      refine j_lstore_n (L1 := [(1, .long (((31 : Int64) * (((31 : Int64) * s1) + ((x301.1 : Int32).toInt64))) + x316)), (0, .ref (G.2.2 114)), (3, .int s3)]) C 320 rfl dX6_digest_320 (by decide) rfl ?_
      refine j_ldc2 C 321 dX6_digest_321 lc_X6_230 ?_
      refine j_lload_n C 324 0 rfl dX6_digest_324 ?_
      refine j_lmul C 325 dX6_digest_325 ?_
      refine j_aload_n C 326 1 rfl dX6_digest_326 ?_
      refine j_bind (fun x327 h327 => ?_)
      refine j_vMo_f (As := []) (st := [.long ((31 : Int64) * (((31 : Int64) * (((31 : Int64) * s1) + ((x301.1 : Int32).toInt64))) + x316))]) C k_X6_mean 327 (c_X6_mean C.2.2.2.2.2.2.1 _ h327) rfl rfl ml_X6_224 ii_X6_mean is_X6_mean dX6_digest_327 (by decide) rfl (Nat.le_of_ble_eq_true rfl) ?_ rfl
      refine j_bind (fun x330 h330 => ?_)
      refine j_callS_i (As := [.float x327]) (st := [.long ((31 : Int64) * (((31 : Int64) * (((31 : Int64) * s1) + ((x301.1 : Int32).toInt64))) + x316))]) C k_Jxf58ca_floatToIntBits_5c35a 330 (c_Jxf58ca_floatToIntBits_5c35a C.2.2.2.2.2.2.1 (c := c) _ h330) rfl ml_X6_238 st_Jxf58ca_floatToIntBits_5c35a dX6_digest_330 (by decide) rfl (Nat.le_of_ble_eq_true rfl) ?_ rfl
      refine j_i2l C 333 dX6_digest_333 ?_
      refine j_ladd C 334 dX6_digest_334 ?_
      refine j_lstore_n (L1 := [(1, .long (((31 : Int64) * (((31 : Int64) * (((31 : Int64) * s1) + ((x301.1 : Int32).toInt64))) + x316)) + ((x330 : Int32).toInt64))), (0, .ref (G.2.2 114)), (3, .int s3)]) C 335 rfl dX6_digest_335 (by decide) rfl ?_
      refine j_ldc2 C 336 dX6_digest_336 lc_X6_230 ?_
      refine j_lload_n C 339 0 rfl dX6_digest_339 ?_
      refine j_lmul C 340 dX6_digest_340 ?_
      refine j_aload_n C 341 1 rfl dX6_digest_341 ?_
      refine g_Mo6 C 342 (Or.inl fl_X6_40) dX6_digest_342 ?_
      refine j_if_eq C 345 352 dX6_digest_345 (by decide) (fun c345 => ?_) (fun c345 => ?_)
      · refine j_iconst (v := 0) C 352 dX6_digest_352 rfl ?_
        refine j_L (L' := [(0, .ref (G.2.2 114))]) [1] rfl ?_
        exact wb_X6_digest_353 C hr x301.2 0 ((31 : Int64) * (((31 : Int64) * (((31 : Int64) * (((31 : Int64) * s1) + ((x301.1 : Int32).toInt64))) + x316)) + ((x330 : Int32).toInt64)))
      · refine j_iconst (v := 1) C 348 dX6_digest_348 rfl ?_
        refine j_goto C 349 353 dX6_digest_349 (by decide) ?_
        refine j_L (L' := [(0, .ref (G.2.2 114))]) [1] rfl ?_
        exact wb_X6_digest_353 C hr x301.2 1 ((31 : Int64) * (((31 : Int64) * (((31 : Int64) * (((31 : Int64) * s1) + ((x301.1 : Int32).toInt64))) + x316)) + ((x330 : Int32).toInt64)))
set_option maxRecDepth 100000 in
set_option maxHeartbeats 4000000 in
theorem wl_X6_digest_232 {G : GG} {X : WX} {c : VC} {o : Nat → Int64} (C : Cx G 5 X RX6 cX6_digest 10) (hr : (xM X).sig.returnType = (some .long)) : ∀ (n : Nat) (v : VM) (s1 : Int64) (s3 : Int32), JS G 5 X (QM G X (fun x : (Int64 × VM) => some (.long x.1)) (fun x : (Int64 × VM) => ((c, (x.2, o)) : VA))) (l_X6_digest_232 n v s1 s3) (c, (v, o)) 232 [(0, .ref (G.2.2 114)), (1, .long s1), (3, .int s3)] [] := by
  intro n
  induction n with
  | zero => intro _ _ _; exact j_none
  | succ n ih =>
    intro v s1 s3
    unfold l_X6_digest_232
    refine j_iload_n C 232 2 rfl dX6_digest_232 ?_
    refine j_iconst (v := 3) C 233 dX6_digest_233 rfl ?_
    refine j_icmp_ge C 234 256 dX6_digest_234 (by decide) (fun c234 => ?_) (fun c234 => ?_)
    · refine j_ldc2 C 237 dX6_digest_237 lc_X6_230 ?_
      refine j_lload_n C 240 1 rfl dX6_digest_240 ?_
      refine j_lmul C 241 dX6_digest_241 ?_
      refine j_aload_n C 242 0 rfl dX6_digest_242 ?_
      refine j_iload_n C 243 2 rfl dX6_digest_243 ?_
      refine j_bind (fun x244 h244 => ?_)
      refine j_vMo_i (As := [.int s3]) (st := [.long ((31 : Int64) * s1)]) C k_X6_swept 244 (c_X6_swept C.2.2.2.2.2.2.1 _ _ h244) rfl rfl ml_X6_204 ii_X6_swept is_X6_swept dX6_digest_244 (by decide) rfl (Nat.le_of_ble_eq_true rfl) ?_ rfl
      refine j_V (V' := (c, (x244.2, o))) rfl ?_
      refine j_i2l C 247 dX6_digest_247 ?_
      refine j_ladd C 248 dX6_digest_248 ?_
      refine j_lstore_n (L1 := [(1, .long (((31 : Int64) * s1) + ((x244.1 : Int32).toInt64))), (0, .ref (G.2.2 114)), (3, .int s3)]) C 249 rfl dX6_digest_249 (by decide) rfl ?_
      refine j_iinc (v := (s3 + 1)) (L1 := [(3, .int (s3 + 1)), (1, .long (((31 : Int64) * s1) + ((x244.1 : Int32).toInt64))), (0, .ref (G.2.2 114))]) C 250 2 rfl dX6_digest_250 rfl (by decide) rfl ?_
      refine j_goto C 253 232 dX6_digest_253 (by decide) ?_
      refine j_L (L' := [(0, .ref (G.2.2 114)), (1, .long (((31 : Int64) * s1) + ((x244.1 : Int32).toInt64))), (3, .int (s3 + 1))]) [2, 1, 0] rfl ?_
      exact ih x244.2 (((31 : Int64) * s1) + ((x244.1 : Int32).toInt64)) (s3 + 1)
    · refine j_iconst (v := 0) C 256 dX6_digest_256 rfl ?_
      refine j_istore_n (L1 := [(3, .int 0), (0, .ref (G.2.2 114)), (1, .long s1)]) C 257 rfl dX6_digest_257 (by decide) rfl ?_
      refine j_L (L' := [(0, .ref (G.2.2 114)), (1, .long s1), (3, .int 0)]) [1, 2, 0] rfl ?_
      exact wl_X6_digest_258 C hr FU v s1 0
set_option maxRecDepth 100000 in
set_option maxHeartbeats 4000000 in
theorem wl_X6_digest_141 {G : GG} {X : WX} {c : VC} {o : Nat → Int64} (C : Cx G 5 X RX6 cX6_digest 10) (hr : (xM X).sig.returnType = (some .long)) : ∀ (n : Nat) (v : VM) (s1 : Int64) (s3 : Int32), JS G 5 X (QM G X (fun x : (Int64 × VM) => some (.long x.1)) (fun x : (Int64 × VM) => ((c, (x.2, o)) : VA))) (l_X6_digest_141 n v s1 s3) (c, (v, o)) 141 [(0, .ref (G.2.2 114)), (1, .long s1), (3, .int s3)] [] := by
  intro n
  induction n with
  | zero => intro _ _ _; exact j_none
  | succ n ih =>
    intro v s1 s3
    unfold l_X6_digest_141
    refine j_iload_n C 141 2 rfl dX6_digest_141 ?_
    refine j_aload_n C 142 0 rfl dX6_digest_142 ?_
    refine j_bind (fun x143 h143 => ?_)
    refine j_vMo_i (As := []) (st := [.int s3]) C k_X6_blocks 143 (c_X6_blocks C.2.2.2.2.2.2.1 _ h143) rfl rfl ml_X6_55 ii_X6_blocks is_X6_blocks dX6_digest_143 (by decide) rfl (Nat.le_of_ble_eq_true rfl) ?_ rfl
    refine j_icmp_ge C 146 211 dX6_digest_146 (by decide) (fun c146 => ?_) (fun c146 => ?_)
    · refine j_iconst (v := 0) C 149 dX6_digest_149 rfl ?_
      refine j_istore (L1 := [(4, .int 0), (0, .ref (G.2.2 114)), (1, .long s1), (3, .int s3)]) C 150 dX6_digest_150 (by decide) rfl ?_
      refine j_L (L' := [(0, .ref (G.2.2 114)), (1, .long s1), (3, .int s3), (4, .int 0)]) [1, 2, 3, 0] rfl ?_
      exact wl_X6_digest_152 C hr _ ih FU v s1 s3 0
    · refine j_ldc2 C 211 dX6_digest_211 lc_X6_230 ?_
      refine j_lload_n C 214 1 rfl dX6_digest_214 ?_
      refine j_lmul C 215 dX6_digest_215 ?_
      refine j_aload_n C 216 0 rfl dX6_digest_216 ?_
      refine j_aload_n C 217 0 rfl dX6_digest_217 ?_
      refine g_Mo1 C 218 (Or.inl fl_X6_7) dX6_digest_218 ?_
      refine j_bipush (v := 46) C 221 dX6_digest_221 rfl ?_
      refine j_bind (fun x223 h223 => ?_)
      refine l_Mo1 C 223 h223 dX6_digest_223 ?_
      refine j_bind (fun x224 h224 => ?_)
      refine j_vMo_i (As := [.int x223]) (st := [.long ((31 : Int64) * s1)]) C k_X6_whyNot 224 (c_X6_whyNot C.2.2.2.2.2.2.1 _ _ h224) rfl rfl ml_X6_121 ii_X6_whyNot is_X6_whyNot dX6_digest_224 (by decide) rfl (Nat.le_of_ble_eq_true rfl) ?_ rfl
      refine j_i2l C 227 dX6_digest_227 ?_
      refine j_ladd C 228 dX6_digest_228 ?_
      refine j_lstore_n (L1 := [(1, .long (((31 : Int64) * s1) + ((x224 : Int32).toInt64))), (0, .ref (G.2.2 114)), (3, .int s3)]) C 229 rfl dX6_digest_229 (by decide) rfl ?_
      refine j_iconst (v := 0) C 230 dX6_digest_230 rfl ?_
      refine j_istore_n (L1 := [(3, .int 0), (1, .long (((31 : Int64) * s1) + ((x224 : Int32).toInt64))), (0, .ref (G.2.2 114))]) C 231 rfl dX6_digest_231 (by decide) rfl ?_
      refine j_L (L' := [(0, .ref (G.2.2 114)), (1, .long (((31 : Int64) * s1) + ((x224 : Int32).toInt64))), (3, .int 0)]) [2, 1, 0] rfl ?_
      exact wl_X6_digest_232 C hr FU v (((31 : Int64) * s1) + ((x224 : Int32).toInt64)) 0
set_option maxRecDepth 100000 in
set_option maxHeartbeats 4000000 in
theorem wl_X6_digest_66 {G : GG} {X : WX} {c : VC} {o : Nat → Int64} (C : Cx G 5 X RX6 cX6_digest 10) (hr : (xM X).sig.returnType = (some .long)) : ∀ (n : Nat) (v : VM) (s1 : Int64) (s3 : Int32), JS G 5 X (QM G X (fun x : (Int64 × VM) => some (.long x.1)) (fun x : (Int64 × VM) => ((c, (x.2, o)) : VA))) (l_X6_digest_66 n v s1 s3) (c, (v, o)) 66 [(0, .ref (G.2.2 114)), (1, .long s1), (3, .int s3)] [] := by
  intro n
  induction n with
  | zero => intro _ _ _; exact j_none
  | succ n ih =>
    intro v s1 s3
    unfold l_X6_digest_66
    refine j_iload_n C 66 2 rfl dX6_digest_66 ?_
    refine j_iconst (v := 4) C 67 dX6_digest_67 rfl ?_
    refine j_icmp_ge C 68 139 dX6_digest_68 (by decide) (fun c68 => ?_) (fun c68 => ?_)
    · refine j_iconst (v := 0) C 71 dX6_digest_71 rfl ?_
      refine j_istore (L1 := [(4, .int 0), (0, .ref (G.2.2 114)), (1, .long s1), (3, .int s3)]) C 72 dX6_digest_72 (by decide) rfl ?_
      refine j_L (L' := [(0, .ref (G.2.2 114)), (1, .long s1), (3, .int s3), (4, .int 0)]) [1, 2, 3, 0] rfl ?_
      exact wl_X6_digest_74 C hr _ ih FU v s1 s3 0
    · refine j_iconst (v := 0) C 139 dX6_digest_139 rfl ?_
      refine j_istore_n (L1 := [(3, .int 0), (0, .ref (G.2.2 114)), (1, .long s1)]) C 140 rfl dX6_digest_140 (by decide) rfl ?_
      refine j_L (L' := [(0, .ref (G.2.2 114)), (1, .long s1), (3, .int 0)]) [1, 2, 0] rfl ?_
      exact wl_X6_digest_141 C hr FU v s1 0
set_option maxRecDepth 100000 in
set_option maxHeartbeats 4000000 in
theorem wl_X6_digest_11 {G : GG} {X : WX} {c : VC} {o : Nat → Int64} (C : Cx G 5 X RX6 cX6_digest 10) (hr : (xM X).sig.returnType = (some .long)) : ∀ (n : Nat) (v : VM) (s1 : Int64) (s3 : Int32), JS G 5 X (QM G X (fun x : (Int64 × VM) => some (.long x.1)) (fun x : (Int64 × VM) => ((c, (x.2, o)) : VA))) (l_X6_digest_11 n v s1 s3) (c, (v, o)) 11 [(0, .ref (G.2.2 114)), (1, .long s1), (3, .int s3)] [] := by
  intro n
  induction n with
  | zero => intro _ _ _; exact j_none
  | succ n ih =>
    intro v s1 s3
    unfold l_X6_digest_11
    refine j_iload_n C 11 2 rfl dX6_digest_11 ?_
    refine j_bipush (v := 12) C 12 dX6_digest_12 rfl ?_
    refine j_icmp_ge C 14 36 dX6_digest_14 (by decide) (fun c14 => ?_) (fun c14 => ?_)
    · refine j_ldc2 C 17 dX6_digest_17 lc_X6_230 ?_
      refine j_lload_n C 20 1 rfl dX6_digest_20 ?_
      refine j_lmul C 21 dX6_digest_21 ?_
      refine j_aload_n C 22 0 rfl dX6_digest_22 ?_
      refine j_iload_n C 23 2 rfl dX6_digest_23 ?_
      refine j_bind (fun x24 h24 => ?_)
      refine j_vMo_i (As := [.int s3]) (st := [.long ((31 : Int64) * s1)]) C k_X6_countNow 24 (c_X6_countNow C.2.2.2.2.2.2.1 _ _ h24) rfl rfl ml_X6_195 ii_X6_countNow is_X6_countNow dX6_digest_24 (by decide) rfl (Nat.le_of_ble_eq_true rfl) ?_ rfl
      refine j_i2l C 27 dX6_digest_27 ?_
      refine j_ladd C 28 dX6_digest_28 ?_
      refine j_lstore_n (L1 := [(1, .long (((31 : Int64) * s1) + ((x24 : Int32).toInt64))), (0, .ref (G.2.2 114)), (3, .int s3)]) C 29 rfl dX6_digest_29 (by decide) rfl ?_
      refine j_iinc (v := (s3 + 1)) (L1 := [(3, .int (s3 + 1)), (1, .long (((31 : Int64) * s1) + ((x24 : Int32).toInt64))), (0, .ref (G.2.2 114))]) C 30 2 rfl dX6_digest_30 rfl (by decide) rfl ?_
      refine j_goto C 33 11 dX6_digest_33 (by decide) ?_
      refine j_L (L' := [(0, .ref (G.2.2 114)), (1, .long (((31 : Int64) * s1) + ((x24 : Int32).toInt64))), (3, .int (s3 + 1))]) [2, 1, 0] rfl ?_
      exact ih v (((31 : Int64) * s1) + ((x24 : Int32).toInt64)) (s3 + 1)
    · refine j_ldc2 C 36 dX6_digest_36 lc_X6_230 ?_
      refine j_ldc2 C 39 dX6_digest_39 lc_X6_230 ?_
      refine j_lload_n C 42 1 rfl dX6_digest_42 ?_
      refine j_lmul C 43 dX6_digest_43 ?_
      refine j_aload_n C 44 0 rfl dX6_digest_44 ?_
      refine g_Mo1 C 45 (Or.inl fl_X6_7) dX6_digest_45 ?_
      refine j_bipush (v := 46) C 48 dX6_digest_48 rfl ?_
      refine j_bind (fun x50 h50 => ?_)
      refine l_Mo1 C 50 h50 dX6_digest_50 ?_
      refine j_i2l C 51 dX6_digest_51 ?_
      refine j_ladd C 52 dX6_digest_52 ?_
      refine j_lmul C 53 dX6_digest_53 ?_
      refine j_aload_n C 54 0 rfl dX6_digest_54 ?_
      refine g_Mo1 C 55 (Or.inl fl_X6_7) dX6_digest_55 ?_
      refine j_bipush (v := 47) C 58 dX6_digest_58 rfl ?_
      refine j_bind (fun x60 h60 => ?_)
      refine l_Mo1 C 60 h60 dX6_digest_60 ?_
      refine j_i2l C 61 dX6_digest_61 ?_
      refine j_ladd C 62 dX6_digest_62 ?_
      refine j_lstore_n (L1 := [(1, .long (((31 : Int64) * (((31 : Int64) * s1) + ((x50 : Int32).toInt64))) + ((x60 : Int32).toInt64))), (0, .ref (G.2.2 114)), (3, .int s3)]) C 63 rfl dX6_digest_63 (by decide) rfl ?_
      refine j_iconst (v := 0) C 64 dX6_digest_64 rfl ?_
      refine j_istore_n (L1 := [(3, .int 0), (1, .long (((31 : Int64) * (((31 : Int64) * s1) + ((x50 : Int32).toInt64))) + ((x60 : Int32).toInt64))), (0, .ref (G.2.2 114))]) C 65 rfl dX6_digest_65 (by decide) rfl ?_
      refine j_L (L' := [(0, .ref (G.2.2 114)), (1, .long (((31 : Int64) * (((31 : Int64) * s1) + ((x50 : Int32).toInt64))) + ((x60 : Int32).toInt64))), (3, .int 0)]) [2, 1, 0] rfl ?_
      exact wl_X6_digest_66 C hr FU v (((31 : Int64) * (((31 : Int64) * s1) + ((x50 : Int32).toInt64))) + ((x60 : Int32).toInt64)) 0
set_option maxRecDepth 100000 in
set_option maxHeartbeats 4000000 in
theorem w_X6_digest {G : GG} {X : WX} {c : VC} {o : Nat → Int64} (C : Cx G 5 X RX6 cX6_digest 10) (hr : (xM X).sig.returnType = (some .long)) (v : VM) : JS G 5 X (QM G X (fun x : (Int64 × VM) => some (.long x.1)) (fun x : (Int64 × VM) => ((c, (x.2, o)) : VA))) (f_X6_digest v) (c, (v, o)) 0 [(0, .ref (G.2.2 114))] [] := by
  unfold f_X6_digest
  refine j_aload_n C 0 0 rfl dX6_digest_0 ?_
  refine j_iconst (v := 0) C 1 dX6_digest_1 rfl ?_
  refine p_Mo0 C 2 fl_X6_25 dX6_digest_2 ?_
  refine j_V (V' := (c, ((0, v.2), o))) rfl ?_
  refine j_ldc2 C 5 dX6_digest_5 lc_X6_228 ?_
  refine j_lstore_n (L1 := [(1, .long (3691 : Int64)), (0, .ref (G.2.2 114))]) C 8 rfl dX6_digest_8 (by decide) rfl ?_
  refine j_iconst (v := 0) C 9 dX6_digest_9 rfl ?_
  refine j_istore_n (L1 := [(3, .int 0), (1, .long (3691 : Int64)), (0, .ref (G.2.2 114))]) C 10 rfl dX6_digest_10 (by decide) rfl ?_
  refine j_L (L' := [(0, .ref (G.2.2 114)), (1, .long (3691 : Int64)), (3, .int 0)]) [2, 1, 0] rfl ?_
  exact wl_X6_digest_11 C hr FU (0, v.2) (3691 : Int64) 0
theorem c_X6_digest {G : GG} {l : Launch} (hG : Gok G) {c : VC} {o : Nat → Int64} (v : VM) {x : (Int64 × VM)} (hf : f_X6_digest v = some x) : Ct l yX6_digest cX6_digest 5 (some .long) 10 [.ref (G.2.2 114)] G (c, (v, o)) (some (.long x.1)) (c, (x.2, o)) := by
  refine ct_of (rv := fun x : (Int64 × VM) => (some (.long x.1))) (fin := fun x : (Int64 × VM) => ((c, (x.2, o)) : VA)) (own := RX6) hG (plainFor_of_name (by decide)) rfl (Nat.le_of_ble_eq_true rfl) (fun X C hr _ => ?_) hf
  exact w_X6_digest C hr v
