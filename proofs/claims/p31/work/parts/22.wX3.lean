set_option maxRecDepth 100000 in
set_option maxHeartbeats 4000000 in
theorem w_X3_isPlugged {G : GG} {X : WX} {c : VC} {w : VW} {k : Nat} (hk : k < 8) (C : Cx G 2 X RX3 cX3_isPlugged 1) (hr : (xM X).sig.returnType = (some .boolean)) (v : VSk) (hv : c.1 k = v) (a1 : Int32) : JS G 2 X (QM G X (fun x : Int32 => some (.int x)) (fun x : Int32 => ((c, w) : VA))) (f_X3_isPlugged v a1) (c, w) 0 [(0, .ref (G.2.2 (22 + 7 * k))), (1, .int a1)] [] := by
  unfold f_X3_isPlugged
  refine j_aload_n C 0 0 rfl dX3_isPlugged_0 ?_
  refine g_Sk0 (k := k) C hk 1 (Or.inl fl_X3_9) dX3_isPlugged_1 ?_
  refine j_iload_n C 4 1 rfl dX3_isPlugged_4 ?_
  refine j_bind (fun x5 h5 => ?_)
  refine j_callSN_i (As := [.ref (G.2.2 (23 + 7 * k)), .int a1]) (st := []) C k_X5_entry 5 (c_X5_entry C.2.2.2.2.2.2.1 (c := c) _ _ (23 + 7 * k) (nG_lt C.2.2.2.2.2.2.1 (by omega)) (a_Sk1 (k := k) hk hv) _ h5) rfl ml_X3_42 st_X5_entry dX3_isPlugged_5 (by decide) rfl (Nat.le_of_ble_eq_true rfl) ?_ rfl
  refine j_if_le C 8 15 dX3_isPlugged_8 (by decide) (fun c8 => ?_) (fun c8 => ?_)
  · refine j_iconst (v := 1) C 11 dX3_isPlugged_11 rfl ?_
    refine j_goto C 12 16 dX3_isPlugged_12 (by decide) ?_
    exact j_zret C 16 hr rfl rfl rfl dX3_isPlugged_16
  · refine j_iconst (v := 0) C 15 dX3_isPlugged_15 rfl ?_
    exact j_zret C 16 hr rfl rfl rfl dX3_isPlugged_16
theorem c_X3_isPlugged {G : GG} {l : Launch} (hG : Gok G) {c : VC} {w : VW} {k : Nat} (hk : k < 8) (v : VSk) (hv : c.1 k = v) (a1 : Int32) {x : Int32} (hf : f_X3_isPlugged v a1 = some x) : Ct l yX3_isPlugged cX3_isPlugged 2 (some .boolean) 1 [.ref (G.2.2 (22 + 7 * k)), .int a1] G (c, w) (some (.int x)) (c, w) := by
  refine ct_of (rv := fun x : Int32 => (some (.int x))) (fin := fun x : Int32 => ((c, w) : VA)) (own := RX3) hG (plainFor_of_name (by decide)) rfl (Nat.le_of_ble_eq_true rfl) (fun X C hr _ => ?_) hf
  exact w_X3_isPlugged hk C hr v hv a1
set_option maxRecDepth 100000 in
set_option maxHeartbeats 4000000 in
theorem wl_X3_copyFrom_2 {G : GG} {X : WX} {c : VC} {w : VW} {k : Nat} (hk : k < 8) (C : Cx G 3 X RX3 cX3_copyFrom 0) (hr : (xM X).sig.returnType = none) (j1 : Nat) (hj1 : j1 < 8) (u1 : VSk) (hu1 : c.1 j1 = u1) (hne1 : j1 ≠ k) : ∀ (n : Nat) (v : VSk) (s2 : Int32), JS G 3 X (QM G X (fun x : VSk => none) (fun x : VSk => ((sSk c k x, w) : VA))) (l_X3_copyFrom_2 u1 n v s2) (sSk c k v, w) 2 [(0, .ref (G.2.2 (22 + 7 * k))), (1, .ref (G.2.2 (22 + 7 * j1))), (2, .int s2)] [] := by
  intro n
  induction n with
  | zero => intro _ _; exact j_none
  | succ n ih =>
    intro v s2
    unfold l_X3_copyFrom_2
    refine j_iload_n C 2 2 rfl dX3_copyFrom_2 ?_
    refine j_iconst (v := 4) C 3 dX3_copyFrom_3 rfl ?_
    refine j_icmp_ge C 4 85 dX3_copyFrom_4 (by decide) (fun c4 => ?_) (fun c4 => ?_)
    · refine j_aload_n C 7 0 rfl dX3_copyFrom_7 ?_
      refine g_Sk0 (k := k) C hk 8 (Or.inl fl_X3_9) dX3_copyFrom_8 ?_
      refine j_iload_n C 11 2 rfl dX3_copyFrom_11 ?_
      refine j_aload_n C 12 1 rfl dX3_copyFrom_12 ?_
      refine g_Sk0 (k := j1) C hj1 13 (Or.inl fl_X3_9) dX3_copyFrom_13 ?_
      refine j_iload_n C 16 2 rfl dX3_copyFrom_16 ?_
      refine j_bind (fun x17 h17 => ?_)
      refine l_Sk1 (k := j1) (c0 := (sSk c k v)) C hj1 ((sSk_ne c _ hne1).trans hu1) 17 h17 dX3_copyFrom_17 ?_
      refine j_bind (fun x18 h18 => ?_)
      refine t_Sk1 (k := k) C hk 18 h18 dX3_copyFrom_18 ?_
      refine j_V (V' := (sSk c k (x18, v.2), w)) rfl ?_
      refine j_aload_n C 19 0 rfl dX3_copyFrom_19 ?_
      refine g_Sk1 (k := k) C hk 20 (Or.inl fl_X3_15) dX3_copyFrom_20 ?_
      refine j_iload_n C 23 2 rfl dX3_copyFrom_23 ?_
      refine j_aload_n C 24 1 rfl dX3_copyFrom_24 ?_
      refine g_Sk1 (k := j1) C hj1 25 (Or.inl fl_X3_15) dX3_copyFrom_25 ?_
      refine j_iload_n C 28 2 rfl dX3_copyFrom_28 ?_
      refine j_bind (fun x29 h29 => ?_)
      refine l_Sk2 (k := j1) (c0 := (sSk c k (x18, v.2))) C hj1 ((sSk_ne c _ hne1).trans hu1) 29 h29 dX3_copyFrom_29 ?_
      refine j_bind (fun x30 h30 => ?_)
      refine t_Sk2 (k := k) C hk 30 h30 dX3_copyFrom_30 ?_
      refine j_V (V' := (sSk c k (x18, x30, v.2.2), w)) rfl ?_
      refine j_aload_n C 31 0 rfl dX3_copyFrom_31 ?_
      refine g_Sk2 (k := k) C hk 32 (Or.inl fl_X3_18) dX3_copyFrom_32 ?_
      refine j_iload_n C 35 2 rfl dX3_copyFrom_35 ?_
      refine j_aload_n C 36 1 rfl dX3_copyFrom_36 ?_
      refine g_Sk2 (k := j1) C hj1 37 (Or.inl fl_X3_18) dX3_copyFrom_37 ?_
      refine j_iload_n C 40 2 rfl dX3_copyFrom_40 ?_
      refine j_bind (fun x41 h41 => ?_)
      refine l_Sk3 (k := j1) (c0 := (sSk c k (x18, x30, v.2.2))) C hj1 ((sSk_ne c _ hne1).trans hu1) 41 h41 dX3_copyFrom_41 ?_
      refine j_bind (fun x42 h42 => ?_)
      refine t_Sk3 (k := k) C hk 42 h42 dX3_copyFrom_42 ?_
      refine j_V (V' := (sSk c k (x18, x30, x42, v.2.2.2), w)) rfl ?_
      refine j_aload_n C 43 0 rfl dX3_copyFrom_43 ?_
      refine g_Sk3 (k := k) C hk 44 (Or.inl fl_X3_21) dX3_copyFrom_44 ?_
      refine j_iload_n C 47 2 rfl dX3_copyFrom_47 ?_
      refine j_aload_n C 48 1 rfl dX3_copyFrom_48 ?_
      refine g_Sk3 (k := j1) C hj1 49 (Or.inl fl_X3_21) dX3_copyFrom_49 ?_
      refine j_iload_n C 52 2 rfl dX3_copyFrom_52 ?_
      refine j_bind (fun x53 h53 => ?_)
      refine l_Sk4 (k := j1) (c0 := (sSk c k (x18, x30, x42, v.2.2.2))) C hj1 ((sSk_ne c _ hne1).trans hu1) 53 h53 dX3_copyFrom_53 ?_
      refine j_bind (fun x54 h54 => ?_)
      refine t_Sk4 (k := k) C hk 54 h54 dX3_copyFrom_54 ?_
      refine j_V (V' := (sSk c k (x18, x30, x42, x54, v.2.2.2.2), w)) rfl ?_
      refine j_aload_n C 55 0 rfl dX3_copyFrom_55 ?_
      refine g_Sk4 (k := k) C hk 56 (Or.inl fl_X3_24) dX3_copyFrom_56 ?_
      refine j_iload_n C 59 2 rfl dX3_copyFrom_59 ?_
      refine j_aload_n C 60 1 rfl dX3_copyFrom_60 ?_
      refine g_Sk4 (k := j1) C hj1 61 (Or.inl fl_X3_24) dX3_copyFrom_61 ?_
      refine j_iload_n C 64 2 rfl dX3_copyFrom_64 ?_
      refine j_bind (fun x65 h65 => ?_)
      refine l_Sk5 (k := j1) (c0 := (sSk c k (x18, x30, x42, x54, v.2.2.2.2))) C hj1 ((sSk_ne c _ hne1).trans hu1) 65 h65 dX3_copyFrom_65 ?_
      refine j_bind (fun x66 h66 => ?_)
      refine t_Sk5 (k := k) C hk 66 h66 dX3_copyFrom_66 ?_
      refine j_V (V' := (sSk c k (x18, x30, x42, x54, x66, v.2.2.2.2.2), w)) rfl ?_
      refine j_aload_n C 67 0 rfl dX3_copyFrom_67 ?_
      refine g_Sk5 (k := k) C hk 68 (Or.inl fl_X3_28) dX3_copyFrom_68 ?_
      refine j_iload_n C 71 2 rfl dX3_copyFrom_71 ?_
      refine j_aload_n C 72 1 rfl dX3_copyFrom_72 ?_
      refine g_Sk5 (k := j1) C hj1 73 (Or.inl fl_X3_28) dX3_copyFrom_73 ?_
      refine j_iload_n C 76 2 rfl dX3_copyFrom_76 ?_
      refine j_bind (fun x77 h77 => ?_)
      refine l_Sk6 (k := j1) (c0 := (sSk c k (x18, x30, x42, x54, x66, v.2.2.2.2.2))) C hj1 ((sSk_ne c _ hne1).trans hu1) 77 h77 dX3_copyFrom_77 ?_
      refine j_bind (fun x78 h78 => ?_)
      refine t_Sk6 (k := k) C hk 78 h78 dX3_copyFrom_78 ?_
      refine j_V (V' := (sSk c k (x18, x30, x42, x54, x66, x78), w)) rfl ?_
      refine j_iinc (v := (s2 + 1)) (L1 := [(2, .int (s2 + 1)), (0, .ref (G.2.2 (22 + 7 * k))), (1, .ref (G.2.2 (22 + 7 * j1)))]) C 79 2 rfl dX3_copyFrom_79 rfl (by decide) rfl ?_
      refine j_goto C 82 2 dX3_copyFrom_82 (by decide) ?_
      refine j_L (L' := [(0, .ref (G.2.2 (22 + 7 * k))), (1, .ref (G.2.2 (22 + 7 * j1))), (2, .int (s2 + 1))]) [1, 2, 0] rfl ?_
      exact ih (x18, x30, x42, x54, x66, x78) (s2 + 1)
    · exact j_vret C 85 hr rfl rfl dX3_copyFrom_85
set_option maxRecDepth 100000 in
set_option maxHeartbeats 4000000 in
theorem w_X3_copyFrom {G : GG} {X : WX} {c : VC} {w : VW} {k : Nat} (hk : k < 8) (C : Cx G 3 X RX3 cX3_copyFrom 0) (hr : (xM X).sig.returnType = none) (v : VSk) (j1 : Nat) (hj1 : j1 < 8) (u1 : VSk) (hu1 : c.1 j1 = u1) (hne1 : j1 ≠ k) : JS G 3 X (QM G X (fun x : VSk => none) (fun x : VSk => ((sSk c k x, w) : VA))) (f_X3_copyFrom v u1) (sSk c k v, w) 0 [(0, .ref (G.2.2 (22 + 7 * k))), (1, .ref (G.2.2 (22 + 7 * j1)))] [] := by
  unfold f_X3_copyFrom
  refine j_iconst (v := 0) C 0 dX3_copyFrom_0 rfl ?_
  refine j_istore_n (L1 := [(2, .int 0), (0, .ref (G.2.2 (22 + 7 * k))), (1, .ref (G.2.2 (22 + 7 * j1)))]) C 1 rfl dX3_copyFrom_1 (by decide) rfl ?_
  refine j_L (L' := [(0, .ref (G.2.2 (22 + 7 * k))), (1, .ref (G.2.2 (22 + 7 * j1))), (2, .int 0)]) [1, 2, 0] rfl ?_
  exact wl_X3_copyFrom_2 hk C hr j1 hj1 u1 hu1 hne1 FU v 0
theorem c_X3_copyFrom {G : GG} {l : Launch} (hG : Gok G) {c : VC} {w : VW} {k : Nat} (hk : k < 8) (v : VSk) (hv : c.1 k = v) (j1 : Nat) (hj1 : j1 < 8) (u1 : VSk) (hu1 : c.1 j1 = u1) (hne1 : j1 ≠ k) {x : VSk} (hf : f_X3_copyFrom v u1 = some x) : Ct l yX3_copyFrom cX3_copyFrom 3 none 0 [.ref (G.2.2 (22 + 7 * k)), .ref (G.2.2 (22 + 7 * j1))] G (c, w) none (sSk c k x, w) := by
  refine ct_of (rv := fun x : VSk => none) (fin := fun x : VSk => ((sSk c k x, w) : VA)) (own := RX3) hG (plainFor_of_name (by decide)) rfl (Nat.le_of_ble_eq_true rfl) (fun X C hr _ => ?_) hf
  refine j_V (congrArg (fun z => (z, w)) (sSk_id hv).symm) ?_; exact w_X3_copyFrom hk C hr v j1 hj1 u1 hu1 hne1
set_option maxRecDepth 100000 in
set_option maxHeartbeats 4000000 in
theorem w_X3_put {G : GG} {X : WX} {c : VC} {w : VW} {k : Nat} (hk : k < 8) (C : Cx G 5 X RX3 cX3_put 1) (hr : (xM X).sig.returnType = none) (v : VSk) (a1 : Int32) (a2 : Int32) (a3 : Int32) (a4 : Int32) : JS G 5 X (QM G X (fun x : VSk => none) (fun x : VSk => ((sSk c k x, w) : VA))) (f_X3_put v a1 a2 a3 a4) (sSk c k v, w) 0 [(0, .ref (G.2.2 (22 + 7 * k))), (1, .int a1), (2, .int a2), (3, .int a3), (4, .int a4)] [] := by
  unfold f_X3_put
  refine j_iload_n C 0 1 rfl dX3_put_0 ?_
  refine j_bind (fun x1 h1 => ?_)
  refine j_callSN_i (As := [.int a1]) (st := []) C k_X5_isSlot 1 (c_X5_isSlot C.2.2.2.2.2.2.1 (c := (sSk c k v)) _ h1) rfl ml_X3_31 st_X5_isSlot dX3_put_1 (by decide) rfl (Nat.le_of_ble_eq_true rfl) ?_ rfl
  refine j_if_eq C 4 50 dX3_put_4 (by decide) (fun c4 => ?_) (fun c4 => ?_)
  · exact j_vret C 50 hr rfl rfl dX3_put_50
  · refine j_aload_n C 7 0 rfl dX3_put_7 ?_
    refine g_Sk0 (k := k) C hk 8 (Or.inl fl_X3_9) dX3_put_8 ?_
    refine j_iload_n C 11 1 rfl dX3_put_11 ?_
    refine j_iload_n C 12 2 rfl dX3_put_12 ?_
    refine j_bind (fun x13 h13 => ?_)
    refine t_Sk1 (k := k) C hk 13 h13 dX3_put_13 ?_
    refine j_V (V' := (sSk c k (x13, v.2), w)) rfl ?_
    refine j_aload_n C 14 0 rfl dX3_put_14 ?_
    refine g_Sk1 (k := k) C hk 15 (Or.inl fl_X3_15) dX3_put_15 ?_
    refine j_iload_n C 18 1 rfl dX3_put_18 ?_
    refine j_iload_n C 19 3 rfl dX3_put_19 ?_
    refine j_bind (fun x20 h20 => ?_)
    refine t_Sk2 (k := k) C hk 20 h20 dX3_put_20 ?_
    refine j_V (V' := (sSk c k (x13, x20, v.2.2), w)) rfl ?_
    refine j_aload_n C 21 0 rfl dX3_put_21 ?_
    refine g_Sk2 (k := k) C hk 22 (Or.inl fl_X3_18) dX3_put_22 ?_
    refine j_iload_n C 25 1 rfl dX3_put_25 ?_
    refine j_iload C 26 4 rfl dX3_put_26 ?_
    refine j_bind (fun x28 h28 => ?_)
    refine t_Sk3 (k := k) C hk 28 h28 dX3_put_28 ?_
    refine j_V (V' := (sSk c k (x13, x20, x28, v.2.2.2), w)) rfl ?_
    refine j_aload_n C 29 0 rfl dX3_put_29 ?_
    refine g_Sk3 (k := k) C hk 30 (Or.inl fl_X3_21) dX3_put_30 ?_
    refine j_iload_n C 33 1 rfl dX3_put_33 ?_
    refine j_iconst (v := 0) C 34 dX3_put_34 rfl ?_
    refine j_bind (fun x35 h35 => ?_)
    refine t_Sk4 (k := k) C hk 35 h35 dX3_put_35 ?_
    refine j_V (V' := (sSk c k (x13, x20, x28, x35, v.2.2.2.2), w)) rfl ?_
    refine j_aload_n C 36 0 rfl dX3_put_36 ?_
    refine g_Sk4 (k := k) C hk 37 (Or.inl fl_X3_24) dX3_put_37 ?_
    refine j_iload_n C 40 1 rfl dX3_put_40 ?_
    refine j_iconst (v := 0) C 41 dX3_put_41 rfl ?_
    refine j_bind (fun x42 h42 => ?_)
    refine t_Sk5 (k := k) C hk 42 h42 dX3_put_42 ?_
    refine j_V (V' := (sSk c k (x13, x20, x28, x35, x42, v.2.2.2.2.2), w)) rfl ?_
    refine j_aload_n C 43 0 rfl dX3_put_43 ?_
    refine g_Sk5 (k := k) C hk 44 (Or.inl fl_X3_28) dX3_put_44 ?_
    refine j_iload_n C 47 1 rfl dX3_put_47 ?_
    refine j_iconst (v := 0) C 48 dX3_put_48 rfl ?_
    refine j_bind (fun x49 h49 => ?_)
    refine t_Sk6 (k := k) C hk 49 h49 dX3_put_49 ?_
    refine j_V (V' := (sSk c k (x13, x20, x28, x35, x42, x49), w)) rfl ?_
    exact j_vret C 50 hr rfl rfl dX3_put_50
theorem c_X3_put {G : GG} {l : Launch} (hG : Gok G) {c : VC} {w : VW} {k : Nat} (hk : k < 8) (v : VSk) (hv : c.1 k = v) (a1 : Int32) (a2 : Int32) (a3 : Int32) (a4 : Int32) {x : VSk} (hf : f_X3_put v a1 a2 a3 a4 = some x) : Ct l yX3_put cX3_put 5 none 1 [.ref (G.2.2 (22 + 7 * k)), .int a1, .int a2, .int a3, .int a4] G (c, w) none (sSk c k x, w) := by
  refine ct_of (rv := fun x : VSk => none) (fin := fun x : VSk => ((sSk c k x, w) : VA)) (own := RX3) hG (plainFor_of_name (by decide)) rfl (Nat.le_of_ble_eq_true rfl) (fun X C hr _ => ?_) hf
  refine j_V (congrArg (fun z => (z, w)) (sSk_id hv).symm) ?_; exact w_X3_put hk C hr v a1 a2 a3 a4
set_option maxRecDepth 100000 in
set_option maxHeartbeats 4000000 in
theorem wl_X3_pluggedOnes_4 {G : GG} {X : WX} {c : VC} {w : VW} {k : Nat} (hk : k < 8) (C : Cx G 3 X RX3 cX3_pluggedOnes 2) (hr : (xM X).sig.returnType = (some .int)) (v : VSk) (hv : c.1 k = v) : ∀ (n : Nat) (s1 : Int32) (s2 : Int32), JS G 3 X (QM G X (fun x : Int32 => some (.int x)) (fun x : Int32 => ((c, w) : VA))) (l_X3_pluggedOnes_4 v n s1 s2) (c, w) 4 [(0, .ref (G.2.2 (22 + 7 * k))), (1, .int s1), (2, .int s2)] [] := by
  intro n
  induction n with
  | zero => intro _ _; exact j_none
  | succ n ih =>
    intro s1 s2
    unfold l_X3_pluggedOnes_4
    refine j_iload_n C 4 2 rfl dX3_pluggedOnes_4 ?_
    refine j_iconst (v := 4) C 5 dX3_pluggedOnes_5 rfl ?_
    refine j_icmp_ge C 6 31 dX3_pluggedOnes_6 (by decide) (fun c6 => ?_) (fun c6 => ?_)
    · refine j_iload_n C 9 1 rfl dX3_pluggedOnes_9 ?_
      refine j_aload_n C 10 0 rfl dX3_pluggedOnes_10 ?_
      refine j_iload_n C 11 2 rfl dX3_pluggedOnes_11 ?_
      refine j_bind (fun x12 h12 => ?_)
      refine j_vSk_i (k := k) (As := [.int s2]) (st := [.int s1]) C hk k_X3_isPlugged 12 (c_X3_isPlugged C.2.2.2.2.2.2.1 (c := c) (k := k) hk _ hv _ h12) rfl rfl ml_X3_46 ii_X3_isPlugged is_X3_isPlugged dX3_pluggedOnes_12 (by decide) rfl (Nat.le_of_ble_eq_true rfl) ?_ rfl
      refine j_if_eq C 15 22 dX3_pluggedOnes_15 (by decide) (fun c15 => ?_) (fun c15 => ?_)
      · refine j_iconst (v := 0) C 22 dX3_pluggedOnes_22 rfl ?_
        refine j_iadd C 23 dX3_pluggedOnes_23 ?_
        refine j_istore_n (L1 := [(1, .int (s1 + 0)), (0, .ref (G.2.2 (22 + 7 * k))), (2, .int s2)]) C 24 rfl dX3_pluggedOnes_24 (by decide) rfl ?_
        refine j_iinc (v := (s2 + 1)) (L1 := [(2, .int (s2 + 1)), (1, .int (s1 + 0)), (0, .ref (G.2.2 (22 + 7 * k)))]) C 25 2 rfl dX3_pluggedOnes_25 rfl (by decide) rfl ?_
        refine j_goto C 28 4 dX3_pluggedOnes_28 (by decide) ?_
        refine j_L (L' := [(0, .ref (G.2.2 (22 + 7 * k))), (1, .int (s1 + 0)), (2, .int (s2 + 1))]) [2, 1, 0] rfl ?_
        exact ih (s1 + 0) (s2 + 1)
      · refine j_iconst (v := 1) C 18 dX3_pluggedOnes_18 rfl ?_
        refine j_goto C 19 23 dX3_pluggedOnes_19 (by decide) ?_
        refine j_iadd C 23 dX3_pluggedOnes_23 ?_
        refine j_istore_n (L1 := [(1, .int (s1 + 1)), (0, .ref (G.2.2 (22 + 7 * k))), (2, .int s2)]) C 24 rfl dX3_pluggedOnes_24 (by decide) rfl ?_
        refine j_iinc (v := (s2 + 1)) (L1 := [(2, .int (s2 + 1)), (1, .int (s1 + 1)), (0, .ref (G.2.2 (22 + 7 * k)))]) C 25 2 rfl dX3_pluggedOnes_25 rfl (by decide) rfl ?_
        refine j_goto C 28 4 dX3_pluggedOnes_28 (by decide) ?_
        refine j_L (L' := [(0, .ref (G.2.2 (22 + 7 * k))), (1, .int (s1 + 1)), (2, .int (s2 + 1))]) [2, 1, 0] rfl ?_
        exact ih (s1 + 1) (s2 + 1)
    · refine j_iload_n C 31 1 rfl dX3_pluggedOnes_31 ?_
      exact j_iret C 32 hr rfl rfl dX3_pluggedOnes_32
set_option maxRecDepth 100000 in
set_option maxHeartbeats 4000000 in
theorem w_X3_pluggedOnes {G : GG} {X : WX} {c : VC} {w : VW} {k : Nat} (hk : k < 8) (C : Cx G 3 X RX3 cX3_pluggedOnes 2) (hr : (xM X).sig.returnType = (some .int)) (v : VSk) (hv : c.1 k = v) : JS G 3 X (QM G X (fun x : Int32 => some (.int x)) (fun x : Int32 => ((c, w) : VA))) (f_X3_pluggedOnes v) (c, w) 0 [(0, .ref (G.2.2 (22 + 7 * k)))] [] := by
  unfold f_X3_pluggedOnes
  refine j_iconst (v := 0) C 0 dX3_pluggedOnes_0 rfl ?_
  refine j_istore_n (L1 := [(1, .int 0), (0, .ref (G.2.2 (22 + 7 * k)))]) C 1 rfl dX3_pluggedOnes_1 (by decide) rfl ?_
  refine j_iconst (v := 0) C 2 dX3_pluggedOnes_2 rfl ?_
  refine j_istore_n (L1 := [(2, .int 0), (1, .int 0), (0, .ref (G.2.2 (22 + 7 * k)))]) C 3 rfl dX3_pluggedOnes_3 (by decide) rfl ?_
  refine j_L (L' := [(0, .ref (G.2.2 (22 + 7 * k))), (1, .int 0), (2, .int 0)]) [2, 1, 0] rfl ?_
  exact wl_X3_pluggedOnes_4 hk C hr v hv FU 0 0
theorem c_X3_pluggedOnes {G : GG} {l : Launch} (hG : Gok G) {c : VC} {w : VW} {k : Nat} (hk : k < 8) (v : VSk) (hv : c.1 k = v) {x : Int32} (hf : f_X3_pluggedOnes v = some x) : Ct l yX3_pluggedOnes cX3_pluggedOnes 3 (some .int) 2 [.ref (G.2.2 (22 + 7 * k))] G (c, w) (some (.int x)) (c, w) := by
  refine ct_of (rv := fun x : Int32 => (some (.int x))) (fin := fun x : Int32 => ((c, w) : VA)) (own := RX3) hG (plainFor_of_name (by decide)) rfl (Nat.le_of_ble_eq_true rfl) (fun X C hr _ => ?_) hf
  exact w_X3_pluggedOnes hk C hr v hv
set_option maxRecDepth 100000 in
set_option maxHeartbeats 4000000 in
theorem w_X3_isLeft {G : GG} {X : WX} {c : VC} {w : VW} {k : Nat} (hk : k < 8) (C : Cx G 2 X RX3 cX3_isLeft 1) (hr : (xM X).sig.returnType = (some .boolean)) (v : VSk) (hv : c.1 k = v) (a1 : Int32) : JS G 2 X (QM G X (fun x : Int32 => some (.int x)) (fun x : Int32 => ((c, w) : VA))) (f_X3_isLeft v a1) (c, w) 0 [(0, .ref (G.2.2 (22 + 7 * k))), (1, .int a1)] [] := by
  unfold f_X3_isLeft
  refine j_iload_n C 0 1 rfl dX3_isLeft_0 ?_
  refine j_bind (fun x1 h1 => ?_)
  refine j_callSN_i (As := [.int a1]) (st := []) C k_X5_isSlot 1 (c_X5_isSlot C.2.2.2.2.2.2.1 (c := c) _ h1) rfl ml_X3_31 st_X5_isSlot dX3_isLeft_1 (by decide) rfl (Nat.le_of_ble_eq_true rfl) ?_ rfl
  refine j_if_eq C 4 29 dX3_isLeft_4 (by decide) (fun c4 => ?_) (fun c4 => ?_)
  · refine j_iconst (v := 0) C 29 dX3_isLeft_29 rfl ?_
    exact j_zret C 30 hr rfl rfl rfl dX3_isLeft_30
  · refine j_aload_n C 7 0 rfl dX3_isLeft_7 ?_
    refine g_Sk5 (k := k) C hk 8 (Or.inl fl_X3_28) dX3_isLeft_8 ?_
    refine j_iload_n C 11 1 rfl dX3_isLeft_11 ?_
    refine j_bind (fun x12 h12 => ?_)
    refine l_Sk6 (k := k) (c0 := c) C hk hv 12 h12 dX3_isLeft_12 ?_
    refine j_if_eq C 13 29 dX3_isLeft_13 (by decide) (fun c13 => ?_) (fun c13 => ?_)
    · refine j_iconst (v := 0) C 29 dX3_isLeft_29 rfl ?_
      exact j_zret C 30 hr rfl rfl rfl dX3_isLeft_30
    · refine j_aload_n C 16 0 rfl dX3_isLeft_16 ?_
      refine g_Sk4 (k := k) C hk 17 (Or.inl fl_X3_24) dX3_isLeft_17 ?_
      refine j_iload_n C 20 1 rfl dX3_isLeft_20 ?_
      refine j_bind (fun x21 h21 => ?_)
      refine l_Sk5 (k := k) (c0 := c) C hk hv 21 h21 dX3_isLeft_21 ?_
      refine j_if_ne C 22 29 dX3_isLeft_22 (by decide) (fun c22 => ?_) (fun c22 => ?_)
      · refine j_iconst (v := 1) C 25 dX3_isLeft_25 rfl ?_
        refine j_goto C 26 30 dX3_isLeft_26 (by decide) ?_
        exact j_zret C 30 hr rfl rfl rfl dX3_isLeft_30
      · refine j_iconst (v := 0) C 29 dX3_isLeft_29 rfl ?_
        exact j_zret C 30 hr rfl rfl rfl dX3_isLeft_30
theorem c_X3_isLeft {G : GG} {l : Launch} (hG : Gok G) {c : VC} {w : VW} {k : Nat} (hk : k < 8) (v : VSk) (hv : c.1 k = v) (a1 : Int32) {x : Int32} (hf : f_X3_isLeft v a1 = some x) : Ct l yX3_isLeft cX3_isLeft 2 (some .boolean) 1 [.ref (G.2.2 (22 + 7 * k)), .int a1] G (c, w) (some (.int x)) (c, w) := by
  refine ct_of (rv := fun x : Int32 => (some (.int x))) (fin := fun x : Int32 => ((c, w) : VA)) (own := RX3) hG (plainFor_of_name (by decide)) rfl (Nat.le_of_ble_eq_true rfl) (fun X C hr _ => ?_) hf
  exact w_X3_isLeft hk C hr v hv a1
set_option maxRecDepth 100000 in
set_option maxHeartbeats 4000000 in
theorem w_X3_take {G : GG} {X : WX} {c : VC} {w : VW} {k : Nat} (hk : k < 8) (C : Cx G 2 X RX3 cX3_take 2) (hr : (xM X).sig.returnType = none) (v : VSk) (a1 : Int32) : JS G 2 X (QM G X (fun x : VSk => none) (fun x : VSk => ((sSk c k x, w) : VA))) (f_X3_take v a1) (sSk c k v, w) 0 [(0, .ref (G.2.2 (22 + 7 * k))), (1, .int a1)] [] := by
  unfold f_X3_take
  refine j_aload_n C 0 0 rfl dX3_take_0 ?_
  refine j_iload_n C 1 1 rfl dX3_take_1 ?_
  refine j_iconst (v := 0) C 2 dX3_take_2 rfl ?_
  refine j_iconst (v := 0) C 3 dX3_take_3 rfl ?_
  refine j_iconst (v := 0) C 4 dX3_take_4 rfl ?_
  refine j_bind (fun x5 h5 => ?_)
  refine j_vSk_v (k := k) (As := [.int a1, .int 0, .int 0, .int 0]) (st := []) C hk k_X3_put 5 (c_X3_put C.2.2.2.2.2.2.1 (c := (sSk c k v)) (k := k) hk _ (sSk_get _ _ _) _ _ _ _ h5) (congrArg (fun z => (z, w)) (sSk_up _ _ _ _)) rfl ml_X3_35 ii_X3_put is_X3_put dX3_take_5 (by decide) rfl (Nat.le_of_ble_eq_true rfl) ?_ rfl
  refine j_V (V' := (sSk c k x5, w)) rfl ?_
  exact j_vret C 8 hr rfl rfl dX3_take_8
theorem c_X3_take {G : GG} {l : Launch} (hG : Gok G) {c : VC} {w : VW} {k : Nat} (hk : k < 8) (v : VSk) (hv : c.1 k = v) (a1 : Int32) {x : VSk} (hf : f_X3_take v a1 = some x) : Ct l yX3_take cX3_take 2 none 2 [.ref (G.2.2 (22 + 7 * k)), .int a1] G (c, w) none (sSk c k x, w) := by
  refine ct_of (rv := fun x : VSk => none) (fin := fun x : VSk => ((sSk c k x, w) : VA)) (own := RX3) hG (plainFor_of_name (by decide)) rfl (Nat.le_of_ble_eq_true rfl) (fun X C hr _ => ?_) hf
  refine j_V (congrArg (fun z => (z, w)) (sSk_id hv).symm) ?_; exact w_X3_take hk C hr v a1
set_option maxRecDepth 100000 in
set_option maxHeartbeats 4000000 in
theorem w_X3_isGood {G : GG} {X : WX} {c : VC} {w : VW} {k : Nat} (hk : k < 8) (C : Cx G 2 X RX3 cX3_isGood 1) (hr : (xM X).sig.returnType = (some .boolean)) (v : VSk) (hv : c.1 k = v) (a1 : Int32) : JS G 2 X (QM G X (fun x : Int32 => some (.int x)) (fun x : Int32 => ((c, w) : VA))) (f_X3_isGood v a1) (c, w) 0 [(0, .ref (G.2.2 (22 + 7 * k))), (1, .int a1)] [] := by
  unfold f_X3_isGood
  refine j_iload_n C 0 1 rfl dX3_isGood_0 ?_
  refine j_bind (fun x1 h1 => ?_)
  refine j_callSN_i (As := [.int a1]) (st := []) C k_X5_isSlot 1 (c_X5_isSlot C.2.2.2.2.2.2.1 (c := c) _ h1) rfl ml_X3_31 st_X5_isSlot dX3_isGood_1 (by decide) rfl (Nat.le_of_ble_eq_true rfl) ?_ rfl
  refine j_if_eq C 4 29 dX3_isGood_4 (by decide) (fun c4 => ?_) (fun c4 => ?_)
  · refine j_iconst (v := 0) C 29 dX3_isGood_29 rfl ?_
    exact j_zret C 30 hr rfl rfl rfl dX3_isGood_30
  · refine j_aload_n C 7 0 rfl dX3_isGood_7 ?_
    refine g_Sk0 (k := k) C hk 8 (Or.inl fl_X3_9) dX3_isGood_8 ?_
    refine j_iload_n C 11 1 rfl dX3_isGood_11 ?_
    refine j_bind (fun x12 h12 => ?_)
    refine l_Sk1 (k := k) (c0 := c) C hk hv 12 h12 dX3_isGood_12 ?_
    refine j_if_le C 13 29 dX3_isGood_13 (by decide) (fun c13 => ?_) (fun c13 => ?_)
    · refine j_aload_n C 16 0 rfl dX3_isGood_16 ?_
      refine g_Sk4 (k := k) C hk 17 (Or.inl fl_X3_24) dX3_isGood_17 ?_
      refine j_iload_n C 20 1 rfl dX3_isGood_20 ?_
      refine j_bind (fun x21 h21 => ?_)
      refine l_Sk5 (k := k) (c0 := c) C hk hv 21 h21 dX3_isGood_21 ?_
      refine j_if_ne C 22 29 dX3_isGood_22 (by decide) (fun c22 => ?_) (fun c22 => ?_)
      · refine j_iconst (v := 1) C 25 dX3_isGood_25 rfl ?_
        refine j_goto C 26 30 dX3_isGood_26 (by decide) ?_
        exact j_zret C 30 hr rfl rfl rfl dX3_isGood_30
      · refine j_iconst (v := 0) C 29 dX3_isGood_29 rfl ?_
        exact j_zret C 30 hr rfl rfl rfl dX3_isGood_30
    · refine j_iconst (v := 0) C 29 dX3_isGood_29 rfl ?_
      exact j_zret C 30 hr rfl rfl rfl dX3_isGood_30
theorem c_X3_isGood {G : GG} {l : Launch} (hG : Gok G) {c : VC} {w : VW} {k : Nat} (hk : k < 8) (v : VSk) (hv : c.1 k = v) (a1 : Int32) {x : Int32} (hf : f_X3_isGood v a1 = some x) : Ct l yX3_isGood cX3_isGood 2 (some .boolean) 1 [.ref (G.2.2 (22 + 7 * k)), .int a1] G (c, w) (some (.int x)) (c, w) := by
  refine ct_of (rv := fun x : Int32 => (some (.int x))) (fin := fun x : Int32 => ((c, w) : VA)) (own := RX3) hG (plainFor_of_name (by decide)) rfl (Nat.le_of_ble_eq_true rfl) (fun X C hr _ => ?_) hf
  exact w_X3_isGood hk C hr v hv a1
set_option maxRecDepth 100000 in
set_option maxHeartbeats 4000000 in
theorem w_X3_spoil {G : GG} {X : WX} {c : VC} {w : VW} {k : Nat} (hk : k < 8) (C : Cx G 2 X RX3 cX3_spoil 1) (hr : (xM X).sig.returnType = none) (v : VSk) (a1 : Int32) : JS G 2 X (QM G X (fun x : VSk => none) (fun x : VSk => ((sSk c k x, w) : VA))) (f_X3_spoil v a1) (sSk c k v, w) 0 [(0, .ref (G.2.2 (22 + 7 * k))), (1, .int a1)] [] := by
  unfold f_X3_spoil
  refine j_iload_n C 0 1 rfl dX3_spoil_0 ?_
  refine j_bind (fun x1 h1 => ?_)
  refine j_callSN_i (As := [.int a1]) (st := []) C k_X5_isSlot 1 (c_X5_isSlot C.2.2.2.2.2.2.1 (c := (sSk c k v)) _ h1) rfl ml_X3_31 st_X5_isSlot dX3_spoil_1 (by decide) rfl (Nat.le_of_ble_eq_true rfl) ?_ rfl
  refine j_if_eq C 4 14 dX3_spoil_4 (by decide) (fun c4 => ?_) (fun c4 => ?_)
  · exact j_vret C 14 hr rfl rfl dX3_spoil_14
  · refine j_aload_n C 7 0 rfl dX3_spoil_7 ?_
    refine g_Sk4 (k := k) C hk 8 (Or.inl fl_X3_24) dX3_spoil_8 ?_
    refine j_iload_n C 11 1 rfl dX3_spoil_11 ?_
    refine j_iconst (v := 1) C 12 dX3_spoil_12 rfl ?_
    refine j_bind (fun x13 h13 => ?_)
    refine t_Sk5 (k := k) C hk 13 h13 dX3_spoil_13 ?_
    refine j_V (V' := (sSk c k (v.1, v.2.1, v.2.2.1, v.2.2.2.1, x13, v.2.2.2.2.2), w)) rfl ?_
    exact j_vret C 14 hr rfl rfl dX3_spoil_14
theorem c_X3_spoil {G : GG} {l : Launch} (hG : Gok G) {c : VC} {w : VW} {k : Nat} (hk : k < 8) (v : VSk) (hv : c.1 k = v) (a1 : Int32) {x : VSk} (hf : f_X3_spoil v a1 = some x) : Ct l yX3_spoil cX3_spoil 2 none 1 [.ref (G.2.2 (22 + 7 * k)), .int a1] G (c, w) none (sSk c k x, w) := by
  refine ct_of (rv := fun x : VSk => none) (fin := fun x : VSk => ((sSk c k x, w) : VA)) (own := RX3) hG (plainFor_of_name (by decide)) rfl (Nat.le_of_ble_eq_true rfl) (fun X C hr _ => ?_) hf
  refine j_V (congrArg (fun z => (z, w)) (sSk_id hv).symm) ?_; exact w_X3_spoil hk C hr v a1
set_option maxRecDepth 100000 in
set_option maxHeartbeats 4000000 in
theorem w_X3_goodSizeIn {G : GG} {X : WX} {c : VC} {w : VW} {k : Nat} (hk : k < 8) (C : Cx G 2 X RX3 cX3_goodSizeIn 2) (hr : (xM X).sig.returnType = (some .int)) (v : VSk) (hv : c.1 k = v) (a1 : Int32) : JS G 2 X (QM G X (fun x : Int32 => some (.int x)) (fun x : Int32 => ((c, w) : VA))) (f_X3_goodSizeIn v a1) (c, w) 0 [(0, .ref (G.2.2 (22 + 7 * k))), (1, .int a1)] [] := by
  unfold f_X3_goodSizeIn
  refine j_aload_n C 0 0 rfl dX3_goodSizeIn_0 ?_
  refine j_iload_n C 1 1 rfl dX3_goodSizeIn_1 ?_
  refine j_bind (fun x2 h2 => ?_)
  refine j_vSk_i (k := k) (As := [.int a1]) (st := []) C hk k_X3_isGood 2 (c_X3_isGood C.2.2.2.2.2.2.1 (c := c) (k := k) hk _ hv _ h2) rfl rfl ml_X3_39 ii_X3_isGood is_X3_isGood dX3_goodSizeIn_2 (by decide) rfl (Nat.le_of_ble_eq_true rfl) ?_ rfl
  refine j_if_eq C 5 19 dX3_goodSizeIn_5 (by decide) (fun c5 => ?_) (fun c5 => ?_)
  · refine j_iconst (v := 0) C 19 dX3_goodSizeIn_19 rfl ?_
    exact j_iret C 20 hr rfl rfl dX3_goodSizeIn_20
  · refine j_aload_n C 8 0 rfl dX3_goodSizeIn_8 ?_
    refine g_Sk0 (k := k) C hk 9 (Or.inl fl_X3_9) dX3_goodSizeIn_9 ?_
    refine j_iload_n C 12 1 rfl dX3_goodSizeIn_12 ?_
    refine j_bind (fun x13 h13 => ?_)
    refine j_callSN_i (As := [.ref (G.2.2 (23 + 7 * k)), .int a1]) (st := []) C k_X5_entry 13 (c_X5_entry C.2.2.2.2.2.2.1 (c := c) _ _ (23 + 7 * k) (nG_lt C.2.2.2.2.2.2.1 (by omega)) (a_Sk1 (k := k) hk hv) _ h13) rfl ml_X3_42 st_X5_entry dX3_goodSizeIn_13 (by decide) rfl (Nat.le_of_ble_eq_true rfl) ?_ rfl
    refine j_goto C 16 20 dX3_goodSizeIn_16 (by decide) ?_
    exact j_iret C 20 hr rfl rfl dX3_goodSizeIn_20
theorem c_X3_goodSizeIn {G : GG} {l : Launch} (hG : Gok G) {c : VC} {w : VW} {k : Nat} (hk : k < 8) (v : VSk) (hv : c.1 k = v) (a1 : Int32) {x : Int32} (hf : f_X3_goodSizeIn v a1 = some x) : Ct l yX3_goodSizeIn cX3_goodSizeIn 2 (some .int) 2 [.ref (G.2.2 (22 + 7 * k)), .int a1] G (c, w) (some (.int x)) (c, w) := by
  refine ct_of (rv := fun x : Int32 => (some (.int x))) (fin := fun x : Int32 => ((c, w) : VA)) (own := RX3) hG (plainFor_of_name (by decide)) rfl (Nat.le_of_ble_eq_true rfl) (fun X C hr _ => ?_) hf
  exact w_X3_goodSizeIn hk C hr v hv a1
set_option maxRecDepth 100000 in
set_option maxHeartbeats 4000000 in
theorem w_X3_hindrance {G : GG} {X : WX} {c : VC} {w : VW} {k : Nat} (hk : k < 8) (C : Cx G 4 X RX3 cX3_hindrance 3) (hr : (xM X).sig.returnType = (some .int)) (v : VSk) (hv : c.1 k = v) (a1 : Int32) : JS G 4 X (QM G X (fun x : Int32 => some (.int x)) (fun x : Int32 => ((c, w) : VA))) (f_X3_hindrance v a1) (c, w) 0 [(0, .ref (G.2.2 (22 + 7 * k))), (1, .int a1)] [] := by
  unfold f_X3_hindrance
  refine j_aload_n C 0 0 rfl dX3_hindrance_0 ?_
  refine j_iconst (v := 0) C 1 dX3_hindrance_1 rfl ?_
  refine j_bind (fun x2 h2 => ?_)
  refine j_vSk_i (k := k) (As := [.int 0]) (st := []) C hk k_X3_goodSizeIn 2 (c_X3_goodSizeIn C.2.2.2.2.2.2.1 (c := c) (k := k) hk _ hv _ h2) rfl rfl ml_X3_56 ii_X3_goodSizeIn is_X3_goodSizeIn dX3_hindrance_2 (by decide) rfl (Nat.le_of_ble_eq_true rfl) ?_ rfl
  refine j_aload_n C 5 0 rfl dX3_hindrance_5 ?_
  refine j_iconst (v := 1) C 6 dX3_hindrance_6 rfl ?_
  refine j_bind (fun x7 h7 => ?_)
  refine j_vSk_i (k := k) (As := [.int 1]) (st := [.int x2]) C hk k_X3_goodSizeIn 7 (c_X3_goodSizeIn C.2.2.2.2.2.2.1 (c := c) (k := k) hk _ hv _ h7) rfl rfl ml_X3_56 ii_X3_goodSizeIn is_X3_goodSizeIn dX3_hindrance_7 (by decide) rfl (Nat.le_of_ble_eq_true rfl) ?_ rfl
  refine j_iadd C 10 dX3_hindrance_10 ?_
  refine j_istore_n (L1 := [(2, .int (x2 + x7)), (0, .ref (G.2.2 (22 + 7 * k))), (1, .int a1)]) C 11 rfl dX3_hindrance_11 (by decide) rfl ?_
  refine j_aload_n C 12 1 rfl dX3_hindrance_12 ?_
  refine j_iconst (v := 2) C 13 dX3_hindrance_13 rfl ?_
  refine j_bind (fun x14 h14 => ?_)
  refine j_vSk_i (k := k) (As := [.int 2]) (st := []) C hk k_X3_goodSizeIn 14 (c_X3_goodSizeIn C.2.2.2.2.2.2.1 (c := c) (k := k) hk _ hv _ h14) rfl rfl ml_X3_56 ii_X3_goodSizeIn is_X3_goodSizeIn dX3_hindrance_14 (by decide) rfl (Nat.le_of_ble_eq_true rfl) ?_ rfl
  refine j_aload_n C 17 1 rfl dX3_hindrance_17 ?_
  refine j_iconst (v := 3) C 18 dX3_hindrance_18 rfl ?_
  refine j_bind (fun x19 h19 => ?_)
  refine j_vSk_i (k := k) (As := [.int 3]) (st := [.int x14]) C hk k_X3_goodSizeIn 19 (c_X3_goodSizeIn C.2.2.2.2.2.2.1 (c := c) (k := k) hk _ hv _ h19) rfl rfl ml_X3_56 ii_X3_goodSizeIn is_X3_goodSizeIn dX3_hindrance_19 (by decide) rfl (Nat.le_of_ble_eq_true rfl) ?_ rfl
  refine j_iadd C 22 dX3_hindrance_22 ?_
  refine j_istore_n (L1 := [(3, .int (x14 + x19)), (2, .int (x2 + x7)), (0, .ref (G.2.2 (22 + 7 * k))), (1, .int a1)]) C 23 rfl dX3_hindrance_23 (by decide) rfl ?_
  refine j_iload_n C 24 1 rfl dX3_hindrance_24 ?_
  refine j_iload_n C 25 0 rfl dX3_hindrance_25 ?_
  refine j_iadd C 26 dX3_hindrance_26 ?_
  refine j_if_ne C 27 32 dX3_hindrance_27 (by decide) (fun c27 => ?_) (fun c27 => ?_)
  · refine j_iconst (v := 1) C 30 dX3_hindrance_30 rfl ?_
    exact j_iret C 31 hr rfl rfl dX3_hindrance_31
  · refine j_iload_n C 32 3 rfl dX3_hindrance_32 ?_
    refine j_iconst (v := 2) C 33 dX3_hindrance_33 rfl ?_
    refine j_icmp_ne C 34 49 dX3_hindrance_34 (by decide) (fun c34 => ?_) (fun c34 => ?_)
    · refine j_iload_n C 37 1 rfl dX3_hindrance_37 ?_
      refine j_if_eq C 38 45 dX3_hindrance_38 (by decide) (fun c38 => ?_) (fun c38 => ?_)
      · refine j_iconst (v := 2) C 45 dX3_hindrance_45 rfl ?_
        refine j_goto C 46 50 dX3_hindrance_46 (by decide) ?_
        exact j_iret C 50 hr rfl rfl dX3_hindrance_50
      · refine j_iload_n C 41 0 rfl dX3_hindrance_41 ?_
        refine j_if_ne C 42 49 dX3_hindrance_42 (by decide) (fun c42 => ?_) (fun c42 => ?_)
        · refine j_iconst (v := 2) C 45 dX3_hindrance_45 rfl ?_
          refine j_goto C 46 50 dX3_hindrance_46 (by decide) ?_
          exact j_iret C 50 hr rfl rfl dX3_hindrance_50
        · refine j_iconst (v := 0) C 49 dX3_hindrance_49 rfl ?_
          exact j_iret C 50 hr rfl rfl dX3_hindrance_50
    · refine j_iconst (v := 0) C 49 dX3_hindrance_49 rfl ?_
      exact j_iret C 50 hr rfl rfl dX3_hindrance_50
theorem c_X3_hindrance {G : GG} {l : Launch} (hG : Gok G) {c : VC} {w : VW} {k : Nat} (hk : k < 8) (v : VSk) (hv : c.1 k = v) (a1 : Int32) {x : Int32} (hf : f_X3_hindrance v a1 = some x) : Ct l yX3_hindrance cX3_hindrance 4 (some .int) 3 [.ref (G.2.2 (22 + 7 * k)), .int a1] G (c, w) (some (.int x)) (c, w) := by
  refine ct_of (rv := fun x : Int32 => (some (.int x))) (fin := fun x : Int32 => ((c, w) : VA)) (own := RX3) hG (plainFor_of_name (by decide)) rfl (Nat.le_of_ble_eq_true rfl) (fun X C hr _ => ?_) hf
  exact w_X3_hindrance hk C hr v hv a1
set_option maxRecDepth 100000 in
set_option maxHeartbeats 4000000 in
theorem wl_X3_mapGoodOnes_2 {G : GG} {X : WX} {c : VC} {w : VW} {k : Nat} (hk : k < 8) (C : Cx G 2 X RX3 cX3_mapGoodOnes 2) (hr : (xM X).sig.returnType = none) : ∀ (n : Nat) (v : VSk) (s1 : Int32), JS G 2 X (QM G X (fun x : VSk => none) (fun x : VSk => ((sSk c k x, w) : VA))) (l_X3_mapGoodOnes_2 n v s1) (sSk c k v, w) 2 [(0, .ref (G.2.2 (22 + 7 * k))), (1, .int s1)] [] := by
  intro n
  induction n with
  | zero => intro _ _; exact j_none
  | succ n ih =>
    intro v s1
    unfold l_X3_mapGoodOnes_2
    refine j_iload_n C 2 1 rfl dX3_mapGoodOnes_2 ?_
    refine j_iconst (v := 4) C 3 dX3_mapGoodOnes_3 rfl ?_
    refine j_icmp_ge C 4 24 dX3_mapGoodOnes_4 (by decide) (fun c4 => ?_) (fun c4 => ?_)
    · refine j_aload_n C 7 0 rfl dX3_mapGoodOnes_7 ?_
      refine g_Sk5 (k := k) C hk 8 (Or.inl fl_X3_28) dX3_mapGoodOnes_8 ?_
      refine j_iload_n C 11 1 rfl dX3_mapGoodOnes_11 ?_
      refine j_aload_n C 12 0 rfl dX3_mapGoodOnes_12 ?_
      refine j_iload_n C 13 1 rfl dX3_mapGoodOnes_13 ?_
      refine j_bind (fun x14 h14 => ?_)
      refine j_vSk_i (k := k) (As := [.int s1]) (st := [.int s1, .ref (G.2.2 (28 + 7 * k))]) C hk k_X3_isGood 14 (c_X3_isGood C.2.2.2.2.2.2.1 (c := (sSk c k v)) (k := k) hk _ (sSk_get _ _ _) _ h14) rfl rfl ml_X3_39 ii_X3_isGood is_X3_isGood dX3_mapGoodOnes_14 (by decide) rfl (Nat.le_of_ble_eq_true rfl) ?_ rfl
      refine j_bind (fun x17 h17 => ?_)
      refine t_Sk6 (k := k) C hk 17 h17 dX3_mapGoodOnes_17 ?_
      refine j_V (V' := (sSk c k (v.1, v.2.1, v.2.2.1, v.2.2.2.1, v.2.2.2.2.1, x17), w)) rfl ?_
      refine j_iinc (v := (s1 + 1)) (L1 := [(1, .int (s1 + 1)), (0, .ref (G.2.2 (22 + 7 * k)))]) C 18 1 rfl dX3_mapGoodOnes_18 rfl (by decide) rfl ?_
      refine j_goto C 21 2 dX3_mapGoodOnes_21 (by decide) ?_
      refine j_L (L' := [(0, .ref (G.2.2 (22 + 7 * k))), (1, .int (s1 + 1))]) [1, 0] rfl ?_
      exact ih (v.1, v.2.1, v.2.2.1, v.2.2.2.1, v.2.2.2.2.1, x17) (s1 + 1)
    · exact j_vret C 24 hr rfl rfl dX3_mapGoodOnes_24
set_option maxRecDepth 100000 in
set_option maxHeartbeats 4000000 in
theorem w_X3_mapGoodOnes {G : GG} {X : WX} {c : VC} {w : VW} {k : Nat} (hk : k < 8) (C : Cx G 2 X RX3 cX3_mapGoodOnes 2) (hr : (xM X).sig.returnType = none) (v : VSk) : JS G 2 X (QM G X (fun x : VSk => none) (fun x : VSk => ((sSk c k x, w) : VA))) (f_X3_mapGoodOnes v) (sSk c k v, w) 0 [(0, .ref (G.2.2 (22 + 7 * k)))] [] := by
  unfold f_X3_mapGoodOnes
  refine j_iconst (v := 0) C 0 dX3_mapGoodOnes_0 rfl ?_
  refine j_istore_n (L1 := [(1, .int 0), (0, .ref (G.2.2 (22 + 7 * k)))]) C 1 rfl dX3_mapGoodOnes_1 (by decide) rfl ?_
  refine j_L (L' := [(0, .ref (G.2.2 (22 + 7 * k))), (1, .int 0)]) [1, 0] rfl ?_
  exact wl_X3_mapGoodOnes_2 hk C hr FU v 0
theorem c_X3_mapGoodOnes {G : GG} {l : Launch} (hG : Gok G) {c : VC} {w : VW} {k : Nat} (hk : k < 8) (v : VSk) (hv : c.1 k = v) {x : VSk} (hf : f_X3_mapGoodOnes v = some x) : Ct l yX3_mapGoodOnes cX3_mapGoodOnes 2 none 2 [.ref (G.2.2 (22 + 7 * k))] G (c, w) none (sSk c k x, w) := by
  refine ct_of (rv := fun x : VSk => none) (fin := fun x : VSk => ((sSk c k x, w) : VA)) (own := RX3) hG (plainFor_of_name (by decide)) rfl (Nat.le_of_ble_eq_true rfl) (fun X C hr _ => ?_) hf
  refine j_V (congrArg (fun z => (z, w)) (sSk_id hv).symm) ?_; exact w_X3_mapGoodOnes hk C hr v
set_option maxRecDepth 100000 in
set_option maxHeartbeats 4000000 in
theorem wl_X3_unmapAll_2 {G : GG} {X : WX} {c : VC} {w : VW} {k : Nat} (hk : k < 8) (C : Cx G 2 X RX3 cX3_unmapAll 0) (hr : (xM X).sig.returnType = none) : ∀ (n : Nat) (v : VSk) (s1 : Int32), JS G 2 X (QM G X (fun x : VSk => none) (fun x : VSk => ((sSk c k x, w) : VA))) (l_X3_unmapAll_2 n v s1) (sSk c k v, w) 2 [(0, .ref (G.2.2 (22 + 7 * k))), (1, .int s1)] [] := by
  intro n
  induction n with
  | zero => intro _ _; exact j_none
  | succ n ih =>
    intro v s1
    unfold l_X3_unmapAll_2
    refine j_iload_n C 2 1 rfl dX3_unmapAll_2 ?_
    refine j_iconst (v := 4) C 3 dX3_unmapAll_3 rfl ?_
    refine j_icmp_ge C 4 20 dX3_unmapAll_4 (by decide) (fun c4 => ?_) (fun c4 => ?_)
    · refine j_aload_n C 7 0 rfl dX3_unmapAll_7 ?_
      refine g_Sk5 (k := k) C hk 8 (Or.inl fl_X3_28) dX3_unmapAll_8 ?_
      refine j_iload_n C 11 1 rfl dX3_unmapAll_11 ?_
      refine j_iconst (v := 0) C 12 dX3_unmapAll_12 rfl ?_
      refine j_bind (fun x13 h13 => ?_)
      refine t_Sk6 (k := k) C hk 13 h13 dX3_unmapAll_13 ?_
      refine j_V (V' := (sSk c k (v.1, v.2.1, v.2.2.1, v.2.2.2.1, v.2.2.2.2.1, x13), w)) rfl ?_
      refine j_iinc (v := (s1 + 1)) (L1 := [(1, .int (s1 + 1)), (0, .ref (G.2.2 (22 + 7 * k)))]) C 14 1 rfl dX3_unmapAll_14 rfl (by decide) rfl ?_
      refine j_goto C 17 2 dX3_unmapAll_17 (by decide) ?_
      refine j_L (L' := [(0, .ref (G.2.2 (22 + 7 * k))), (1, .int (s1 + 1))]) [1, 0] rfl ?_
      exact ih (v.1, v.2.1, v.2.2.1, v.2.2.2.1, v.2.2.2.2.1, x13) (s1 + 1)
    · exact j_vret C 20 hr rfl rfl dX3_unmapAll_20
set_option maxRecDepth 100000 in
set_option maxHeartbeats 4000000 in
theorem w_X3_unmapAll {G : GG} {X : WX} {c : VC} {w : VW} {k : Nat} (hk : k < 8) (C : Cx G 2 X RX3 cX3_unmapAll 0) (hr : (xM X).sig.returnType = none) (v : VSk) : JS G 2 X (QM G X (fun x : VSk => none) (fun x : VSk => ((sSk c k x, w) : VA))) (f_X3_unmapAll v) (sSk c k v, w) 0 [(0, .ref (G.2.2 (22 + 7 * k)))] [] := by
  unfold f_X3_unmapAll
  refine j_iconst (v := 0) C 0 dX3_unmapAll_0 rfl ?_
  refine j_istore_n (L1 := [(1, .int 0), (0, .ref (G.2.2 (22 + 7 * k)))]) C 1 rfl dX3_unmapAll_1 (by decide) rfl ?_
  refine j_L (L' := [(0, .ref (G.2.2 (22 + 7 * k))), (1, .int 0)]) [1, 0] rfl ?_
  exact wl_X3_unmapAll_2 hk C hr FU v 0
theorem c_X3_unmapAll {G : GG} {l : Launch} (hG : Gok G) {c : VC} {w : VW} {k : Nat} (hk : k < 8) (v : VSk) (hv : c.1 k = v) {x : VSk} (hf : f_X3_unmapAll v = some x) : Ct l yX3_unmapAll cX3_unmapAll 2 none 0 [.ref (G.2.2 (22 + 7 * k))] G (c, w) none (sSk c k x, w) := by
  refine ct_of (rv := fun x : VSk => none) (fin := fun x : VSk => ((sSk c k x, w) : VA)) (own := RX3) hG (plainFor_of_name (by decide)) rfl (Nat.le_of_ble_eq_true rfl) (fun X C hr _ => ?_) hf
  refine j_V (congrArg (fun z => (z, w)) (sSk_id hv).symm) ?_; exact w_X3_unmapAll hk C hr v
set_option maxRecDepth 100000 in
set_option maxHeartbeats 4000000 in
theorem w_X3_rankOf {G : GG} {X : WX} {c : VC} {w : VW} {k : Nat} (hk : k < 8) (C : Cx G 3 X RX3 cX3_rankOf 1) (hr : (xM X).sig.returnType = (some .int)) (v : VSk) (hv : c.1 k = v) (a1 : Int32) (a2 : Int32) : JS G 3 X (QM G X (fun x : Int32 => some (.int x)) (fun x : Int32 => ((c, w) : VA))) (f_X3_rankOf v a1 a2) (c, w) 0 [(0, .ref (G.2.2 (22 + 7 * k))), (1, .int a1), (2, .int a2)] [] := by
  unfold f_X3_rankOf
  refine j_aload_n C 0 0 rfl dX3_rankOf_0 ?_
  refine g_Sk1 (k := k) C hk 1 (Or.inl fl_X3_15) dX3_rankOf_1 ?_
  refine j_iload_n C 4 1 rfl dX3_rankOf_4 ?_
  refine j_bind (fun x5 h5 => ?_)
  refine j_callSN_i (As := [.ref (G.2.2 (24 + 7 * k)), .int a1]) (st := []) C k_X5_entry 5 (c_X5_entry C.2.2.2.2.2.2.1 (c := c) _ _ (24 + 7 * k) (nG_lt C.2.2.2.2.2.2.1 (by omega)) (a_Sk2 (k := k) hk hv) _ h5) rfl ml_X3_42 st_X5_entry dX3_rankOf_5 (by decide) rfl (Nat.le_of_ble_eq_true rfl) ?_ rfl
  refine j_iconst (v := 2) C 8 dX3_rankOf_8 rfl ?_
  refine j_icmp_ne C 9 18 dX3_rankOf_9 (by decide) (fun c9 => ?_) (fun c9 => ?_)
  · refine j_iload_n C 12 2 rfl dX3_rankOf_12 ?_
    refine j_iconst (v := 1) C 13 dX3_rankOf_13 rfl ?_
    refine j_iand C 14 dX3_rankOf_14 ?_
    refine j_goto C 15 19 dX3_rankOf_15 (by decide) ?_
    exact j_iret C 19 hr rfl rfl dX3_rankOf_19
  · refine j_iconst (v := 0) C 18 dX3_rankOf_18 rfl ?_
    exact j_iret C 19 hr rfl rfl dX3_rankOf_19
theorem c_X3_rankOf {G : GG} {l : Launch} (hG : Gok G) {c : VC} {w : VW} {k : Nat} (hk : k < 8) (v : VSk) (hv : c.1 k = v) (a1 : Int32) (a2 : Int32) {x : Int32} (hf : f_X3_rankOf v a1 a2 = some x) : Ct l yX3_rankOf cX3_rankOf 3 (some .int) 1 [.ref (G.2.2 (22 + 7 * k)), .int a1, .int a2] G (c, w) (some (.int x)) (c, w) := by
  refine ct_of (rv := fun x : Int32 => (some (.int x))) (fin := fun x : Int32 => ((c, w) : VA)) (own := RX3) hG (plainFor_of_name (by decide)) rfl (Nat.le_of_ble_eq_true rfl) (fun X C hr _ => ?_) hf
  exact w_X3_rankOf hk C hr v hv a1 a2
set_option maxRecDepth 100000 in
set_option maxHeartbeats 4000000 in
theorem w_X3_rankRow {G : GG} {X : WX} {c : VC} {w : VW} {k : Nat} (hk : k < 8) (C : Cx G 3 X RX3 cX3_rankRow 2) (hr : (xM X).sig.returnType = (some .int)) (v : VSk) (hv : c.1 k = v) (a1 : Int32) (a2 : Int32) : JS G 3 X (QM G X (fun x : Int32 => some (.int x)) (fun x : Int32 => ((c, w) : VA))) (f_X3_rankRow v a1 a2) (c, w) 0 [(0, .ref (G.2.2 (22 + 7 * k))), (1, .int a1), (2, .int a2)] [] := by
  unfold f_X3_rankRow
  refine j_iconst (v := 2) C 0 dX3_rankRow_0 rfl ?_
  refine j_iload_n C 1 1 rfl dX3_rankRow_1 ?_
  refine j_imul C 2 dX3_rankRow_2 ?_
  refine j_aload_n C 3 0 rfl dX3_rankRow_3 ?_
  refine j_iload_n C 4 1 rfl dX3_rankRow_4 ?_
  refine j_iload_n C 5 2 rfl dX3_rankRow_5 ?_
  refine j_bind (fun x6 h6 => ?_)
  refine j_vSk_i (k := k) (As := [.int a1, .int a2]) (st := [.int (2 * a1)]) C hk k_X3_rankOf 6 (c_X3_rankOf C.2.2.2.2.2.2.1 (c := c) (k := k) hk _ hv _ _ h6) rfl rfl ml_X3_52 ii_X3_rankOf is_X3_rankOf dX3_rankRow_6 (by decide) rfl (Nat.le_of_ble_eq_true rfl) ?_ rfl
  refine j_iadd C 9 dX3_rankRow_9 ?_
  exact j_iret C 10 hr rfl rfl dX3_rankRow_10
theorem c_X3_rankRow {G : GG} {l : Launch} (hG : Gok G) {c : VC} {w : VW} {k : Nat} (hk : k < 8) (v : VSk) (hv : c.1 k = v) (a1 : Int32) (a2 : Int32) {x : Int32} (hf : f_X3_rankRow v a1 a2 = some x) : Ct l yX3_rankRow cX3_rankRow 3 (some .int) 2 [.ref (G.2.2 (22 + 7 * k)), .int a1, .int a2] G (c, w) (some (.int x)) (c, w) := by
  refine ct_of (rv := fun x : Int32 => (some (.int x))) (fin := fun x : Int32 => ((c, w) : VA)) (own := RX3) hG (plainFor_of_name (by decide)) rfl (Nat.le_of_ble_eq_true rfl) (fun X C hr _ => ?_) hf
  exact w_X3_rankRow hk C hr v hv a1 a2
set_option maxRecDepth 100000 in
set_option maxHeartbeats 4000000 in
theorem w_X3_delayIn {G : GG} {X : WX} {c : VC} {w : VW} {k : Nat} (hk : k < 8) (C : Cx G 2 X RX3 cX3_delayIn 1) (hr : (xM X).sig.returnType = (some .int)) (v : VSk) (hv : c.1 k = v) (a1 : Int32) : JS G 2 X (QM G X (fun x : Int32 => some (.int x)) (fun x : Int32 => ((c, w) : VA))) (f_X3_delayIn v a1) (c, w) 0 [(0, .ref (G.2.2 (22 + 7 * k))), (1, .int a1)] [] := by
  unfold f_X3_delayIn
  refine j_aload_n C 0 0 rfl dX3_delayIn_0 ?_
  refine g_Sk2 (k := k) C hk 1 (Or.inl fl_X3_18) dX3_delayIn_1 ?_
  refine j_iload_n C 4 1 rfl dX3_delayIn_4 ?_
  refine j_bind (fun x5 h5 => ?_)
  refine j_callSN_i (As := [.ref (G.2.2 (25 + 7 * k)), .int a1]) (st := []) C k_X5_entry 5 (c_X5_entry C.2.2.2.2.2.2.1 (c := c) _ _ (25 + 7 * k) (nG_lt C.2.2.2.2.2.2.1 (by omega)) (a_Sk3 (k := k) hk hv) _ h5) rfl ml_X3_42 st_X5_entry dX3_delayIn_5 (by decide) rfl (Nat.le_of_ble_eq_true rfl) ?_ rfl
  exact j_iret C 8 hr rfl rfl dX3_delayIn_8
theorem c_X3_delayIn {G : GG} {l : Launch} (hG : Gok G) {c : VC} {w : VW} {k : Nat} (hk : k < 8) (v : VSk) (hv : c.1 k = v) (a1 : Int32) {x : Int32} (hf : f_X3_delayIn v a1 = some x) : Ct l yX3_delayIn cX3_delayIn 2 (some .int) 1 [.ref (G.2.2 (22 + 7 * k)), .int a1] G (c, w) (some (.int x)) (c, w) := by
  refine ct_of (rv := fun x : Int32 => (some (.int x))) (fin := fun x : Int32 => ((c, w) : VA)) (own := RX3) hG (plainFor_of_name (by decide)) rfl (Nat.le_of_ble_eq_true rfl) (fun X C hr _ => ?_) hf
  exact w_X3_delayIn hk C hr v hv a1
set_option maxRecDepth 100000 in
set_option maxHeartbeats 4000000 in
theorem w_X3_tellRead {G : GG} {X : WX} {c : VC} {w : VW} {k : Nat} (hk : k < 8) (C : Cx G 2 X RX3 cX3_tellRead 1) (hr : (xM X).sig.returnType = none) (v : VSk) (a1 : Int32) : JS G 2 X (QM G X (fun x : VSk => none) (fun x : VSk => ((sSk c k x, w) : VA))) (f_X3_tellRead v a1) (sSk c k v, w) 0 [(0, .ref (G.2.2 (22 + 7 * k))), (1, .int a1)] [] := by
  unfold f_X3_tellRead
  refine j_iload_n C 0 1 rfl dX3_tellRead_0 ?_
  refine j_bind (fun x1 h1 => ?_)
  refine j_callSN_i (As := [.int a1]) (st := []) C k_X5_isSlot 1 (c_X5_isSlot C.2.2.2.2.2.2.1 (c := (sSk c k v)) _ h1) rfl ml_X3_31 st_X5_isSlot dX3_tellRead_1 (by decide) rfl (Nat.le_of_ble_eq_true rfl) ?_ rfl
  refine j_if_eq C 4 17 dX3_tellRead_4 (by decide) (fun c4 => ?_) (fun c4 => ?_)
  · exact j_vret C 17 hr rfl rfl dX3_tellRead_17
  · refine j_aload_n C 7 0 rfl dX3_tellRead_7 ?_
    refine g_Sk3 (k := k) C hk 8 (Or.inl fl_X3_21) dX3_tellRead_8 ?_
    refine j_iload_n C 11 1 rfl dX3_tellRead_11 ?_
    refine j_dup2 C 12 dX3_tellRead_12 rfl rfl ?_
    refine j_bind (fun x13 h13 => ?_)
    refine l_Sk4 (k := k) (c0 := (sSk c k v)) C hk (sSk_get _ _ _) 13 h13 dX3_tellRead_13 ?_
    refine j_iconst (v := 1) C 14 dX3_tellRead_14 rfl ?_
    refine j_iadd C 15 dX3_tellRead_15 ?_
    refine j_bind (fun x16 h16 => ?_)
    refine t_Sk4 (k := k) C hk 16 h16 dX3_tellRead_16 ?_
    refine j_V (V' := (sSk c k (v.1, v.2.1, v.2.2.1, x16, v.2.2.2.2), w)) rfl ?_
    exact j_vret C 17 hr rfl rfl dX3_tellRead_17
theorem c_X3_tellRead {G : GG} {l : Launch} (hG : Gok G) {c : VC} {w : VW} {k : Nat} (hk : k < 8) (v : VSk) (hv : c.1 k = v) (a1 : Int32) {x : VSk} (hf : f_X3_tellRead v a1 = some x) : Ct l yX3_tellRead cX3_tellRead 2 none 1 [.ref (G.2.2 (22 + 7 * k)), .int a1] G (c, w) none (sSk c k x, w) := by
  refine ct_of (rv := fun x : VSk => none) (fin := fun x : VSk => ((sSk c k x, w) : VA)) (own := RX3) hG (plainFor_of_name (by decide)) rfl (Nat.le_of_ble_eq_true rfl) (fun X C hr _ => ?_) hf
  refine j_V (congrArg (fun z => (z, w)) (sSk_id hv).symm) ?_; exact w_X3_tellRead hk C hr v a1
set_option maxRecDepth 100000 in
set_option maxHeartbeats 4000000 in
theorem w_X3_sizeIn {G : GG} {X : WX} {c : VC} {w : VW} {k : Nat} (hk : k < 8) (C : Cx G 2 X RX3 cX3_sizeIn 1) (hr : (xM X).sig.returnType = (some .int)) (v : VSk) (hv : c.1 k = v) (a1 : Int32) : JS G 2 X (QM G X (fun x : Int32 => some (.int x)) (fun x : Int32 => ((c, w) : VA))) (f_X3_sizeIn v a1) (c, w) 0 [(0, .ref (G.2.2 (22 + 7 * k))), (1, .int a1)] [] := by
  unfold f_X3_sizeIn
  refine j_aload_n C 0 0 rfl dX3_sizeIn_0 ?_
  refine g_Sk0 (k := k) C hk 1 (Or.inl fl_X3_9) dX3_sizeIn_1 ?_
  refine j_iload_n C 4 1 rfl dX3_sizeIn_4 ?_
  refine j_bind (fun x5 h5 => ?_)
  refine j_callSN_i (As := [.ref (G.2.2 (23 + 7 * k)), .int a1]) (st := []) C k_X5_entry 5 (c_X5_entry C.2.2.2.2.2.2.1 (c := c) _ _ (23 + 7 * k) (nG_lt C.2.2.2.2.2.2.1 (by omega)) (a_Sk1 (k := k) hk hv) _ h5) rfl ml_X3_42 st_X5_entry dX3_sizeIn_5 (by decide) rfl (Nat.le_of_ble_eq_true rfl) ?_ rfl
  exact j_iret C 8 hr rfl rfl dX3_sizeIn_8
theorem c_X3_sizeIn {G : GG} {l : Launch} (hG : Gok G) {c : VC} {w : VW} {k : Nat} (hk : k < 8) (v : VSk) (hv : c.1 k = v) (a1 : Int32) {x : Int32} (hf : f_X3_sizeIn v a1 = some x) : Ct l yX3_sizeIn cX3_sizeIn 2 (some .int) 1 [.ref (G.2.2 (22 + 7 * k)), .int a1] G (c, w) (some (.int x)) (c, w) := by
  refine ct_of (rv := fun x : Int32 => (some (.int x))) (fin := fun x : Int32 => ((c, w) : VA)) (own := RX3) hG (plainFor_of_name (by decide)) rfl (Nat.le_of_ble_eq_true rfl) (fun X C hr _ => ?_) hf
  exact w_X3_sizeIn hk C hr v hv a1
set_option maxRecDepth 100000 in
set_option maxHeartbeats 4000000 in
theorem w_X3_ranksIn {G : GG} {X : WX} {c : VC} {w : VW} {k : Nat} (hk : k < 8) (C : Cx G 2 X RX3 cX3_ranksIn 1) (hr : (xM X).sig.returnType = (some .int)) (v : VSk) (hv : c.1 k = v) (a1 : Int32) : JS G 2 X (QM G X (fun x : Int32 => some (.int x)) (fun x : Int32 => ((c, w) : VA))) (f_X3_ranksIn v a1) (c, w) 0 [(0, .ref (G.2.2 (22 + 7 * k))), (1, .int a1)] [] := by
  unfold f_X3_ranksIn
  refine j_aload_n C 0 0 rfl dX3_ranksIn_0 ?_
  refine g_Sk1 (k := k) C hk 1 (Or.inl fl_X3_15) dX3_ranksIn_1 ?_
  refine j_iload_n C 4 1 rfl dX3_ranksIn_4 ?_
  refine j_bind (fun x5 h5 => ?_)
  refine j_callSN_i (As := [.ref (G.2.2 (24 + 7 * k)), .int a1]) (st := []) C k_X5_entry 5 (c_X5_entry C.2.2.2.2.2.2.1 (c := c) _ _ (24 + 7 * k) (nG_lt C.2.2.2.2.2.2.1 (by omega)) (a_Sk2 (k := k) hk hv) _ h5) rfl ml_X3_42 st_X5_entry dX3_ranksIn_5 (by decide) rfl (Nat.le_of_ble_eq_true rfl) ?_ rfl
  exact j_iret C 8 hr rfl rfl dX3_ranksIn_8
theorem c_X3_ranksIn {G : GG} {l : Launch} (hG : Gok G) {c : VC} {w : VW} {k : Nat} (hk : k < 8) (v : VSk) (hv : c.1 k = v) (a1 : Int32) {x : Int32} (hf : f_X3_ranksIn v a1 = some x) : Ct l yX3_ranksIn cX3_ranksIn 2 (some .int) 1 [.ref (G.2.2 (22 + 7 * k)), .int a1] G (c, w) (some (.int x)) (c, w) := by
  refine ct_of (rv := fun x : Int32 => (some (.int x))) (fin := fun x : Int32 => ((c, w) : VA)) (own := RX3) hG (plainFor_of_name (by decide)) rfl (Nat.le_of_ble_eq_true rfl) (fun X C hr _ => ?_) hf
  exact w_X3_ranksIn hk C hr v hv a1
set_option maxRecDepth 100000 in
set_option maxHeartbeats 4000000 in
theorem w_X3_hasFailed {G : GG} {X : WX} {c : VC} {w : VW} {k : Nat} (hk : k < 8) (C : Cx G 2 X RX3 cX3_hasFailed 1) (hr : (xM X).sig.returnType = (some .boolean)) (v : VSk) (hv : c.1 k = v) (a1 : Int32) : JS G 2 X (QM G X (fun x : Int32 => some (.int x)) (fun x : Int32 => ((c, w) : VA))) (f_X3_hasFailed v a1) (c, w) 0 [(0, .ref (G.2.2 (22 + 7 * k))), (1, .int a1)] [] := by
  unfold f_X3_hasFailed
  refine j_iload_n C 0 1 rfl dX3_hasFailed_0 ?_
  refine j_bind (fun x1 h1 => ?_)
  refine j_callSN_i (As := [.int a1]) (st := []) C k_X5_isSlot 1 (c_X5_isSlot C.2.2.2.2.2.2.1 (c := c) _ h1) rfl ml_X3_31 st_X5_isSlot dX3_hasFailed_1 (by decide) rfl (Nat.le_of_ble_eq_true rfl) ?_ rfl
  refine j_if_eq C 4 20 dX3_hasFailed_4 (by decide) (fun c4 => ?_) (fun c4 => ?_)
  · refine j_iconst (v := 0) C 20 dX3_hasFailed_20 rfl ?_
    exact j_zret C 21 hr rfl rfl rfl dX3_hasFailed_21
  · refine j_aload_n C 7 0 rfl dX3_hasFailed_7 ?_
    refine g_Sk4 (k := k) C hk 8 (Or.inl fl_X3_24) dX3_hasFailed_8 ?_
    refine j_iload_n C 11 1 rfl dX3_hasFailed_11 ?_
    refine j_bind (fun x12 h12 => ?_)
    refine l_Sk5 (k := k) (c0 := c) C hk hv 12 h12 dX3_hasFailed_12 ?_
    refine j_if_eq C 13 20 dX3_hasFailed_13 (by decide) (fun c13 => ?_) (fun c13 => ?_)
    · refine j_iconst (v := 0) C 20 dX3_hasFailed_20 rfl ?_
      exact j_zret C 21 hr rfl rfl rfl dX3_hasFailed_21
    · refine j_iconst (v := 1) C 16 dX3_hasFailed_16 rfl ?_
      refine j_goto C 17 21 dX3_hasFailed_17 (by decide) ?_
      exact j_zret C 21 hr rfl rfl rfl dX3_hasFailed_21
theorem c_X3_hasFailed {G : GG} {l : Launch} (hG : Gok G) {c : VC} {w : VW} {k : Nat} (hk : k < 8) (v : VSk) (hv : c.1 k = v) (a1 : Int32) {x : Int32} (hf : f_X3_hasFailed v a1 = some x) : Ct l yX3_hasFailed cX3_hasFailed 2 (some .boolean) 1 [.ref (G.2.2 (22 + 7 * k)), .int a1] G (c, w) (some (.int x)) (c, w) := by
  refine ct_of (rv := fun x : Int32 => (some (.int x))) (fin := fun x : Int32 => ((c, w) : VA)) (own := RX3) hG (plainFor_of_name (by decide)) rfl (Nat.le_of_ble_eq_true rfl) (fun X C hr _ => ?_) hf
  exact w_X3_hasFailed hk C hr v hv a1
set_option maxRecDepth 100000 in
set_option maxHeartbeats 4000000 in
theorem w_X3_isMapped {G : GG} {X : WX} {c : VC} {w : VW} {k : Nat} (hk : k < 8) (C : Cx G 2 X RX3 cX3_isMapped 1) (hr : (xM X).sig.returnType = (some .boolean)) (v : VSk) (hv : c.1 k = v) (a1 : Int32) : JS G 2 X (QM G X (fun x : Int32 => some (.int x)) (fun x : Int32 => ((c, w) : VA))) (f_X3_isMapped v a1) (c, w) 0 [(0, .ref (G.2.2 (22 + 7 * k))), (1, .int a1)] [] := by
  unfold f_X3_isMapped
  refine j_iload_n C 0 1 rfl dX3_isMapped_0 ?_
  refine j_bind (fun x1 h1 => ?_)
  refine j_callSN_i (As := [.int a1]) (st := []) C k_X5_isSlot 1 (c_X5_isSlot C.2.2.2.2.2.2.1 (c := c) _ h1) rfl ml_X3_31 st_X5_isSlot dX3_isMapped_1 (by decide) rfl (Nat.le_of_ble_eq_true rfl) ?_ rfl
  refine j_if_eq C 4 20 dX3_isMapped_4 (by decide) (fun c4 => ?_) (fun c4 => ?_)
  · refine j_iconst (v := 0) C 20 dX3_isMapped_20 rfl ?_
    exact j_zret C 21 hr rfl rfl rfl dX3_isMapped_21
  · refine j_aload_n C 7 0 rfl dX3_isMapped_7 ?_
    refine g_Sk5 (k := k) C hk 8 (Or.inl fl_X3_28) dX3_isMapped_8 ?_
    refine j_iload_n C 11 1 rfl dX3_isMapped_11 ?_
    refine j_bind (fun x12 h12 => ?_)
    refine l_Sk6 (k := k) (c0 := c) C hk hv 12 h12 dX3_isMapped_12 ?_
    refine j_if_eq C 13 20 dX3_isMapped_13 (by decide) (fun c13 => ?_) (fun c13 => ?_)
    · refine j_iconst (v := 0) C 20 dX3_isMapped_20 rfl ?_
      exact j_zret C 21 hr rfl rfl rfl dX3_isMapped_21
    · refine j_iconst (v := 1) C 16 dX3_isMapped_16 rfl ?_
      refine j_goto C 17 21 dX3_isMapped_17 (by decide) ?_
      exact j_zret C 21 hr rfl rfl rfl dX3_isMapped_21
theorem c_X3_isMapped {G : GG} {l : Launch} (hG : Gok G) {c : VC} {w : VW} {k : Nat} (hk : k < 8) (v : VSk) (hv : c.1 k = v) (a1 : Int32) {x : Int32} (hf : f_X3_isMapped v a1 = some x) : Ct l yX3_isMapped cX3_isMapped 2 (some .boolean) 1 [.ref (G.2.2 (22 + 7 * k)), .int a1] G (c, w) (some (.int x)) (c, w) := by
  refine ct_of (rv := fun x : Int32 => (some (.int x))) (fin := fun x : Int32 => ((c, w) : VA)) (own := RX3) hG (plainFor_of_name (by decide)) rfl (Nat.le_of_ble_eq_true rfl) (fun X C hr _ => ?_) hf
  exact w_X3_isMapped hk C hr v hv a1
set_option maxRecDepth 100000 in
set_option maxHeartbeats 4000000 in
theorem w_X3_readsIn {G : GG} {X : WX} {c : VC} {w : VW} {k : Nat} (hk : k < 8) (C : Cx G 2 X RX3 cX3_readsIn 1) (hr : (xM X).sig.returnType = (some .int)) (v : VSk) (hv : c.1 k = v) (a1 : Int32) : JS G 2 X (QM G X (fun x : Int32 => some (.int x)) (fun x : Int32 => ((c, w) : VA))) (f_X3_readsIn v a1) (c, w) 0 [(0, .ref (G.2.2 (22 + 7 * k))), (1, .int a1)] [] := by
  unfold f_X3_readsIn
  refine j_aload_n C 0 0 rfl dX3_readsIn_0 ?_
  refine g_Sk3 (k := k) C hk 1 (Or.inl fl_X3_21) dX3_readsIn_1 ?_
  refine j_iload_n C 4 1 rfl dX3_readsIn_4 ?_
  refine j_bind (fun x5 h5 => ?_)
  refine j_callSN_i (As := [.ref (G.2.2 (26 + 7 * k)), .int a1]) (st := []) C k_X5_entry 5 (c_X5_entry C.2.2.2.2.2.2.1 (c := c) _ _ (26 + 7 * k) (nG_lt C.2.2.2.2.2.2.1 (by omega)) (a_Sk4 (k := k) hk hv) _ h5) rfl ml_X3_42 st_X5_entry dX3_readsIn_5 (by decide) rfl (Nat.le_of_ble_eq_true rfl) ?_ rfl
  exact j_iret C 8 hr rfl rfl dX3_readsIn_8
theorem c_X3_readsIn {G : GG} {l : Launch} (hG : Gok G) {c : VC} {w : VW} {k : Nat} (hk : k < 8) (v : VSk) (hv : c.1 k = v) (a1 : Int32) {x : Int32} (hf : f_X3_readsIn v a1 = some x) : Ct l yX3_readsIn cX3_readsIn 2 (some .int) 1 [.ref (G.2.2 (22 + 7 * k)), .int a1] G (c, w) (some (.int x)) (c, w) := by
  refine ct_of (rv := fun x : Int32 => (some (.int x))) (fin := fun x : Int32 => ((c, w) : VA)) (own := RX3) hG (plainFor_of_name (by decide)) rfl (Nat.le_of_ble_eq_true rfl) (fun X C hr _ => ?_) hf
  exact w_X3_readsIn hk C hr v hv a1
set_option maxRecDepth 100000 in
set_option maxHeartbeats 4000000 in
theorem wl_X3_failedOnes_4 {G : GG} {X : WX} {c : VC} {w : VW} {k : Nat} (hk : k < 8) (C : Cx G 3 X RX3 cX3_failedOnes 2) (hr : (xM X).sig.returnType = (some .int)) (v : VSk) (hv : c.1 k = v) : ∀ (n : Nat) (s1 : Int32) (s2 : Int32), JS G 3 X (QM G X (fun x : Int32 => some (.int x)) (fun x : Int32 => ((c, w) : VA))) (l_X3_failedOnes_4 v n s1 s2) (c, w) 4 [(0, .ref (G.2.2 (22 + 7 * k))), (1, .int s1), (2, .int s2)] [] := by
  intro n
  induction n with
  | zero => intro _ _; exact j_none
  | succ n ih =>
    intro s1 s2
    unfold l_X3_failedOnes_4
    refine j_iload_n C 4 2 rfl dX3_failedOnes_4 ?_
    refine j_iconst (v := 4) C 5 dX3_failedOnes_5 rfl ?_
    refine j_icmp_ge C 6 31 dX3_failedOnes_6 (by decide) (fun c6 => ?_) (fun c6 => ?_)
    · refine j_iload_n C 9 1 rfl dX3_failedOnes_9 ?_
      refine j_aload_n C 10 0 rfl dX3_failedOnes_10 ?_
      refine j_iload_n C 11 2 rfl dX3_failedOnes_11 ?_
      refine j_bind (fun x12 h12 => ?_)
      refine j_vSk_i (k := k) (As := [.int s2]) (st := [.int s1]) C hk k_X3_hasFailed 12 (c_X3_hasFailed C.2.2.2.2.2.2.1 (c := c) (k := k) hk _ hv _ h12) rfl rfl ml_X3_49 ii_X3_hasFailed is_X3_hasFailed dX3_failedOnes_12 (by decide) rfl (Nat.le_of_ble_eq_true rfl) ?_ rfl
      refine j_if_eq C 15 22 dX3_failedOnes_15 (by decide) (fun c15 => ?_) (fun c15 => ?_)
      · refine j_iconst (v := 0) C 22 dX3_failedOnes_22 rfl ?_
        refine j_iadd C 23 dX3_failedOnes_23 ?_
        refine j_istore_n (L1 := [(1, .int (s1 + 0)), (0, .ref (G.2.2 (22 + 7 * k))), (2, .int s2)]) C 24 rfl dX3_failedOnes_24 (by decide) rfl ?_
        refine j_iinc (v := (s2 + 1)) (L1 := [(2, .int (s2 + 1)), (1, .int (s1 + 0)), (0, .ref (G.2.2 (22 + 7 * k)))]) C 25 2 rfl dX3_failedOnes_25 rfl (by decide) rfl ?_
        refine j_goto C 28 4 dX3_failedOnes_28 (by decide) ?_
        refine j_L (L' := [(0, .ref (G.2.2 (22 + 7 * k))), (1, .int (s1 + 0)), (2, .int (s2 + 1))]) [2, 1, 0] rfl ?_
        exact ih (s1 + 0) (s2 + 1)
      · refine j_iconst (v := 1) C 18 dX3_failedOnes_18 rfl ?_
        refine j_goto C 19 23 dX3_failedOnes_19 (by decide) ?_
        refine j_iadd C 23 dX3_failedOnes_23 ?_
        refine j_istore_n (L1 := [(1, .int (s1 + 1)), (0, .ref (G.2.2 (22 + 7 * k))), (2, .int s2)]) C 24 rfl dX3_failedOnes_24 (by decide) rfl ?_
        refine j_iinc (v := (s2 + 1)) (L1 := [(2, .int (s2 + 1)), (1, .int (s1 + 1)), (0, .ref (G.2.2 (22 + 7 * k)))]) C 25 2 rfl dX3_failedOnes_25 rfl (by decide) rfl ?_
        refine j_goto C 28 4 dX3_failedOnes_28 (by decide) ?_
        refine j_L (L' := [(0, .ref (G.2.2 (22 + 7 * k))), (1, .int (s1 + 1)), (2, .int (s2 + 1))]) [2, 1, 0] rfl ?_
        exact ih (s1 + 1) (s2 + 1)
    · refine j_iload_n C 31 1 rfl dX3_failedOnes_31 ?_
      exact j_iret C 32 hr rfl rfl dX3_failedOnes_32
set_option maxRecDepth 100000 in
set_option maxHeartbeats 4000000 in
theorem w_X3_failedOnes {G : GG} {X : WX} {c : VC} {w : VW} {k : Nat} (hk : k < 8) (C : Cx G 3 X RX3 cX3_failedOnes 2) (hr : (xM X).sig.returnType = (some .int)) (v : VSk) (hv : c.1 k = v) : JS G 3 X (QM G X (fun x : Int32 => some (.int x)) (fun x : Int32 => ((c, w) : VA))) (f_X3_failedOnes v) (c, w) 0 [(0, .ref (G.2.2 (22 + 7 * k)))] [] := by
  unfold f_X3_failedOnes
  refine j_iconst (v := 0) C 0 dX3_failedOnes_0 rfl ?_
  refine j_istore_n (L1 := [(1, .int 0), (0, .ref (G.2.2 (22 + 7 * k)))]) C 1 rfl dX3_failedOnes_1 (by decide) rfl ?_
  refine j_iconst (v := 0) C 2 dX3_failedOnes_2 rfl ?_
  refine j_istore_n (L1 := [(2, .int 0), (1, .int 0), (0, .ref (G.2.2 (22 + 7 * k)))]) C 3 rfl dX3_failedOnes_3 (by decide) rfl ?_
  refine j_L (L' := [(0, .ref (G.2.2 (22 + 7 * k))), (1, .int 0), (2, .int 0)]) [2, 1, 0] rfl ?_
  exact wl_X3_failedOnes_4 hk C hr v hv FU 0 0
theorem c_X3_failedOnes {G : GG} {l : Launch} (hG : Gok G) {c : VC} {w : VW} {k : Nat} (hk : k < 8) (v : VSk) (hv : c.1 k = v) {x : Int32} (hf : f_X3_failedOnes v = some x) : Ct l yX3_failedOnes cX3_failedOnes 3 (some .int) 2 [.ref (G.2.2 (22 + 7 * k))] G (c, w) (some (.int x)) (c, w) := by
  refine ct_of (rv := fun x : Int32 => (some (.int x))) (fin := fun x : Int32 => ((c, w) : VA)) (own := RX3) hG (plainFor_of_name (by decide)) rfl (Nat.le_of_ble_eq_true rfl) (fun X C hr _ => ?_) hf
  exact w_X3_failedOnes hk C hr v hv
set_option maxRecDepth 100000 in
set_option maxHeartbeats 4000000 in
theorem wb_X3_wideIfChanged_36 {G : GG} {X : WX} {c : VC} {w : VW} {k : Nat} (hk : k < 8) (C : Cx G 7 X RX3 cX3_wideIfChanged 3) (hr : (xM X).sig.returnType = (some .int)) (v : VSk) (hv : c.1 k = v) (K8 : Int32 → Int32 → Int32 → Int32 → Int32 → Option Int32) (hK8 : ∀ (s1 : Int32) (s2 : Int32) (s3 : Int32) (s4 : Int32) (s5 : Int32), JS G 7 X (QM G X (fun x : Int32 => some (.int x)) (fun x : Int32 => ((c, w) : VA))) (K8 s1 s2 s3 s4 s5) (c, w) 8 [(0, .ref (G.2.2 (22 + 7 * k))), (1, .int s1), (2, .int s2), (3, .int s3), (4, .int s4), (5, .int s5)] []) (s1 : Int32) (s2 : Int32) (s3 : Int32) (s4 : Int32) (s5 : Int32) (t0 : Int32) : JS G 7 X (QM G X (fun x : Int32 => some (.int x)) (fun x : Int32 => ((c, w) : VA))) (b_X3_wideIfChanged_36 v K8 s1 s2 s3 s4 s5 t0) (c, w) 36 [(0, .ref (G.2.2 (22 + 7 * k))), (1, .int s1), (2, .int s2), (3, .int s3), (4, .int s4), (5, .int s5)] [.int t0] := by
  unfold b_X3_wideIfChanged_36
  refine j_istore (L1 := [(6, .int t0), (0, .ref (G.2.2 (22 + 7 * k))), (1, .int s1), (2, .int s2), (3, .int s3), (4, .int s4), (5, .int s5)]) C 36 dX3_wideIfChanged_36 (by decide) rfl ?_
  refine j_iload C 38 6 rfl dX3_wideIfChanged_38 ?_
  refine j_iconst (v := 2) C 40 dX3_wideIfChanged_40 rfl ?_
  refine j_icmp_ge C 41 56 dX3_wideIfChanged_41 (by decide) (fun c41 => ?_) (fun c41 => ?_)
  · refine j_iload_n C 44 4 rfl dX3_wideIfChanged_44 ?_
    refine j_aload_n C 45 1 rfl dX3_wideIfChanged_45 ?_
    refine j_iload C 46 0 rfl dX3_wideIfChanged_46 ?_
    refine j_bind (fun x48 h48 => ?_)
    refine j_vSk_i (k := k) (As := [.int t0]) (st := [.int s3]) C hk k_X3_goodSizeIn 48 (c_X3_goodSizeIn C.2.2.2.2.2.2.1 (c := c) (k := k) hk _ hv _ h48) rfl rfl ml_X3_56 ii_X3_goodSizeIn is_X3_goodSizeIn dX3_wideIfChanged_48 (by decide) rfl (Nat.le_of_ble_eq_true rfl) ?_ rfl
    refine j_iadd C 51 dX3_wideIfChanged_51 ?_
    refine j_istore_n (L1 := [(3, .int (s3 + x48)), (6, .int t0), (0, .ref (G.2.2 (22 + 7 * k))), (1, .int s1), (2, .int s2), (4, .int s4), (5, .int s5)]) C 52 rfl dX3_wideIfChanged_52 (by decide) rfl ?_
    refine j_goto C 53 67 dX3_wideIfChanged_53 (by decide) ?_
    refine j_iinc (v := (s5 + 1)) (L1 := [(5, .int (s5 + 1)), (3, .int (s3 + x48)), (6, .int t0), (0, .ref (G.2.2 (22 + 7 * k))), (1, .int s1), (2, .int s2), (4, .int s4)]) C 67 6 rfl dX3_wideIfChanged_67 rfl (by decide) rfl ?_
    refine j_goto C 70 8 dX3_wideIfChanged_70 (by decide) ?_
    refine j_L (L' := [(0, .ref (G.2.2 (22 + 7 * k))), (1, .int s1), (2, .int s2), (3, .int (s3 + x48)), (4, .int s4), (5, .int (s5 + 1))]) [3, 4, 5, 1, 6, 0] rfl ?_
    exact hK8 s1 s2 (s3 + x48) s4 (s5 + 1)
  · refine j_iload C 56 5 rfl dX3_wideIfChanged_56 ?_
    refine j_aload_n C 58 1 rfl dX3_wideIfChanged_58 ?_
    refine j_iload C 59 0 rfl dX3_wideIfChanged_59 ?_
    refine j_bind (fun x61 h61 => ?_)
    refine j_vSk_i (k := k) (As := [.int t0]) (st := [.int s4]) C hk k_X3_goodSizeIn 61 (c_X3_goodSizeIn C.2.2.2.2.2.2.1 (c := c) (k := k) hk _ hv _ h61) rfl rfl ml_X3_56 ii_X3_goodSizeIn is_X3_goodSizeIn dX3_wideIfChanged_61 (by decide) rfl (Nat.le_of_ble_eq_true rfl) ?_ rfl
    refine j_iadd C 64 dX3_wideIfChanged_64 ?_
    refine j_istore (L1 := [(4, .int (s4 + x61)), (6, .int t0), (0, .ref (G.2.2 (22 + 7 * k))), (1, .int s1), (2, .int s2), (3, .int s3), (5, .int s5)]) C 65 dX3_wideIfChanged_65 (by decide) rfl ?_
    refine j_iinc (v := (s5 + 1)) (L1 := [(5, .int (s5 + 1)), (4, .int (s4 + x61)), (6, .int t0), (0, .ref (G.2.2 (22 + 7 * k))), (1, .int s1), (2, .int s2), (3, .int s3)]) C 67 6 rfl dX3_wideIfChanged_67 rfl (by decide) rfl ?_
    refine j_goto C 70 8 dX3_wideIfChanged_70 (by decide) ?_
    refine j_L (L' := [(0, .ref (G.2.2 (22 + 7 * k))), (1, .int s1), (2, .int s2), (3, .int s3), (4, .int (s4 + x61)), (5, .int (s5 + 1))]) [3, 4, 5, 6, 1, 0] rfl ?_
    exact hK8 s1 s2 s3 (s4 + x61) (s5 + 1)
set_option maxRecDepth 100000 in
set_option maxHeartbeats 4000000 in
theorem wl_X3_wideIfChanged_8 {G : GG} {X : WX} {c : VC} {w : VW} {k : Nat} (hk : k < 8) (C : Cx G 7 X RX3 cX3_wideIfChanged 3) (hr : (xM X).sig.returnType = (some .int)) (v : VSk) (hv : c.1 k = v) : ∀ (n : Nat) (s1 : Int32) (s2 : Int32) (s3 : Int32) (s4 : Int32) (s5 : Int32), JS G 7 X (QM G X (fun x : Int32 => some (.int x)) (fun x : Int32 => ((c, w) : VA))) (l_X3_wideIfChanged_8 v n s1 s2 s3 s4 s5) (c, w) 8 [(0, .ref (G.2.2 (22 + 7 * k))), (1, .int s1), (2, .int s2), (3, .int s3), (4, .int s4), (5, .int s5)] [] := by
  intro n
  induction n with
  | zero => intro _ _ _ _ _; exact j_none
  | succ n ih =>
    intro s1 s2 s3 s4 s5
    unfold l_X3_wideIfChanged_8
    refine j_iload C 8 5 rfl dX3_wideIfChanged_8 ?_
    refine j_iconst (v := 4) C 10 dX3_wideIfChanged_10 rfl ?_
    refine j_icmp_ge C 11 73 dX3_wideIfChanged_11 (by decide) (fun c11 => ?_) (fun c11 => ?_)
    · refine j_iload C 14 5 rfl dX3_wideIfChanged_14 ?_
      refine j_iload_n C 16 1 rfl dX3_wideIfChanged_16 ?_
      refine j_icmp_ne C 17 24 dX3_wideIfChanged_17 (by decide) (fun c17 => ?_) (fun c17 => ?_)
      · refine j_iload_n C 20 2 rfl dX3_wideIfChanged_20 ?_
        refine j_goto C 21 36 dX3_wideIfChanged_21 (by decide) ?_
        exact wb_X3_wideIfChanged_36 hk C hr v hv _ ih s1 s2 s3 s4 s5 s2
      · refine j_iload C 24 5 rfl dX3_wideIfChanged_24 ?_
        refine j_iload_n C 26 2 rfl dX3_wideIfChanged_26 ?_
        refine j_icmp_ne C 27 34 dX3_wideIfChanged_27 (by decide) (fun c27 => ?_) (fun c27 => ?_)
        · refine j_iload_n C 30 1 rfl dX3_wideIfChanged_30 ?_
          refine j_goto C 31 36 dX3_wideIfChanged_31 (by decide) ?_
          exact wb_X3_wideIfChanged_36 hk C hr v hv _ ih s1 s2 s3 s4 s5 s1
        · refine j_iload C 34 5 rfl dX3_wideIfChanged_34 ?_
          exact wb_X3_wideIfChanged_36 hk C hr v hv _ ih s1 s2 s3 s4 s5 s5
    · refine j_iconst (v := 2) C 73 dX3_wideIfChanged_73 rfl ?_
      refine j_iload_n C 74 3 rfl dX3_wideIfChanged_74 ?_
      refine j_iload C 75 4 rfl dX3_wideIfChanged_75 ?_
      refine j_bind (fun x77 h77 => ?_)
      refine j_callS_i (As := [.int s3, .int s4]) (st := [.int 2]) C k_J9_min_7cf53 77 (c_J9_min_7cf53 C.2.2.2.2.2.2.1 (c := c) _ _ h77) rfl ml_X3_60 st_J9_min_7cf53 dX3_wideIfChanged_77 (by decide) rfl (Nat.le_of_ble_eq_true rfl) ?_ rfl
      refine j_imul C 80 dX3_wideIfChanged_80 ?_
      exact j_iret C 81 hr rfl rfl dX3_wideIfChanged_81
set_option maxRecDepth 100000 in
set_option maxHeartbeats 4000000 in
theorem w_X3_wideIfChanged {G : GG} {X : WX} {c : VC} {w : VW} {k : Nat} (hk : k < 8) (C : Cx G 7 X RX3 cX3_wideIfChanged 3) (hr : (xM X).sig.returnType = (some .int)) (v : VSk) (hv : c.1 k = v) (a1 : Int32) (a2 : Int32) : JS G 7 X (QM G X (fun x : Int32 => some (.int x)) (fun x : Int32 => ((c, w) : VA))) (f_X3_wideIfChanged v a1 a2) (c, w) 0 [(0, .ref (G.2.2 (22 + 7 * k))), (1, .int a1), (2, .int a2)] [] := by
  unfold f_X3_wideIfChanged
  refine j_iconst (v := 0) C 0 dX3_wideIfChanged_0 rfl ?_
  refine j_istore_n (L1 := [(3, .int 0), (0, .ref (G.2.2 (22 + 7 * k))), (1, .int a1), (2, .int a2)]) C 1 rfl dX3_wideIfChanged_1 (by decide) rfl ?_
  refine j_iconst (v := 0) C 2 dX3_wideIfChanged_2 rfl ?_
  refine j_istore (L1 := [(4, .int 0), (3, .int 0), (0, .ref (G.2.2 (22 + 7 * k))), (1, .int a1), (2, .int a2)]) C 3 dX3_wideIfChanged_3 (by decide) rfl ?_
  refine j_iconst (v := 0) C 5 dX3_wideIfChanged_5 rfl ?_
  refine j_istore (L1 := [(5, .int 0), (4, .int 0), (3, .int 0), (0, .ref (G.2.2 (22 + 7 * k))), (1, .int a1), (2, .int a2)]) C 6 dX3_wideIfChanged_6 (by decide) rfl ?_
  refine j_L (L' := [(0, .ref (G.2.2 (22 + 7 * k))), (1, .int a1), (2, .int a2), (3, .int 0), (4, .int 0), (5, .int 0)]) [3, 4, 5, 2, 1, 0] rfl ?_
  exact wl_X3_wideIfChanged_8 hk C hr v hv FU a1 a2 0 0 0
theorem c_X3_wideIfChanged {G : GG} {l : Launch} (hG : Gok G) {c : VC} {w : VW} {k : Nat} (hk : k < 8) (v : VSk) (hv : c.1 k = v) (a1 : Int32) (a2 : Int32) {x : Int32} (hf : f_X3_wideIfChanged v a1 a2 = some x) : Ct l yX3_wideIfChanged cX3_wideIfChanged 7 (some .int) 3 [.ref (G.2.2 (22 + 7 * k)), .int a1, .int a2] G (c, w) (some (.int x)) (c, w) := by
  refine ct_of (rv := fun x : Int32 => (some (.int x))) (fin := fun x : Int32 => ((c, w) : VA)) (own := RX3) hG (plainFor_of_name (by decide)) rfl (Nat.le_of_ble_eq_true rfl) (fun X C hr _ => ?_) hf
  exact w_X3_wideIfChanged hk C hr v hv a1 a2
