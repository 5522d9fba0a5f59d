set_option maxRecDepth 100000 in
set_option maxHeartbeats 4000000 in
theorem w_X4_isFull {G : GG} {X : WX} {c : VC} {w : VR} (C : Cx G 1 X RX4 cX4_isFull 0) (hr : (xM X).sig.returnType = (some .boolean)) (v : VTx) (hv : c.2.2.2.2.2.1 = v) : JS G 1 X (QM G X (fun x : Int32 => some (.int x)) (fun x : Int32 => ((c, w) : VA))) (f_X4_isFull v) (c, w) 0 [(0, .ref (G.2.2 2))] [] := by
  unfold f_X4_isFull
  refine j_aload_n C 0 0 rfl dX4_isFull_0 ?_
  refine g_Tx1 (c0 := c) C hv 1 (Or.inl fl_X4_21) dX4_isFull_1 ?_
  refine j_bipush (v := 60) C 4 dX4_isFull_4 rfl ?_
  refine j_icmp_lt C 6 13 dX4_isFull_6 (by decide) (fun c6 => ?_) (fun c6 => ?_)
  · refine j_iconst (v := 0) C 13 dX4_isFull_13 rfl ?_
    exact j_zret C 14 hr rfl rfl rfl dX4_isFull_14
  · refine j_iconst (v := 1) C 9 dX4_isFull_9 rfl ?_
    refine j_goto C 10 14 dX4_isFull_10 (by decide) ?_
    exact j_zret C 14 hr rfl rfl rfl dX4_isFull_14
theorem c_X4_isFull {G : GG} {l : Launch} (hG : Gok G) {c : VC} {w : VR} (v : VTx) (hv : c.2.2.2.2.2.1 = v) {x : Int32} (hf : f_X4_isFull v = some x) : Ct l yX4_isFull cX4_isFull 1 (some .boolean) 0 [.ref (G.2.2 2)] G (c, w) (some (.int x)) (c, w) := by
  refine ct_of (rv := fun x : Int32 => (some (.int x))) (fin := fun x : Int32 => ((c, w) : VA)) (own := RX4) hG (plainFor_of_name (by decide)) rfl (Nat.le_of_ble_eq_true rfl) (fun X C hr _ => ?_) hf
  exact w_X4_isFull C hr v hv
set_option maxRecDepth 100000 in
set_option maxHeartbeats 4000000 in
theorem w_X4_add {G : GG} {X : WX} {c : VC} {w : VR} (C : Cx G 2 X RX4 cX4_add 0) (hr : (xM X).sig.returnType = none) (v : VTx) (a1 : Int32) : JS G 2 X (QM G X (fun x : VTx => none) (fun x : VTx => ((sTx c x, w) : VA))) (f_X4_add v a1) (sTx c v, w) 0 [(0, .ref (G.2.2 2)), (1, .int a1)] [] := by
  unfold f_X4_add
  refine j_aload_n C 0 0 rfl dX4_add_0 ?_
  refine g_Tx1 (c0 := (sTx c v)) C rfl 1 (Or.inl fl_X4_21) dX4_add_1 ?_
  refine j_if_lt C 4 36 dX4_add_4 (by decide) (fun c4 => ?_) (fun c4 => ?_)
  · exact j_vret C 36 hr rfl rfl dX4_add_36
  · refine j_aload_n C 7 0 rfl dX4_add_7 ?_
    refine g_Tx1 (c0 := (sTx c v)) C rfl 8 (Or.inl fl_X4_21) dX4_add_8 ?_
    refine j_bipush (v := 60) C 11 dX4_add_11 rfl ?_
    refine j_icmp_ge C 13 36 dX4_add_13 (by decide) (fun c13 => ?_) (fun c13 => ?_)
    · refine j_aload_n C 16 0 rfl dX4_add_16 ?_
      refine g_Tx0 C 17 (Or.inl fl_X4_9) dX4_add_17 ?_
      refine j_aload_n C 20 0 rfl dX4_add_20 ?_
      refine g_Tx1 (c0 := (sTx c v)) C rfl 21 (Or.inl fl_X4_21) dX4_add_21 ?_
      refine j_iload_n C 24 1 rfl dX4_add_24 ?_
      refine j_bind (fun x25 h25 => ?_)
      refine t_Tx0 C 25 h25 dX4_add_25 ?_
      refine j_V (V' := (sTx c (x25, v.2), w)) rfl ?_
      refine j_aload_n C 26 0 rfl dX4_add_26 ?_
      refine j_dup C 27 dX4_add_27 rfl ?_
      refine g_Tx1 (c0 := (sTx c (x25, v.2))) C rfl 28 (Or.inl fl_X4_21) dX4_add_28 ?_
      refine j_iconst (v := 1) C 31 dX4_add_31 rfl ?_
      refine j_iadd C 32 dX4_add_32 ?_
      refine p_Tx1 C 33 fl_X4_21 dX4_add_33 ?_
      refine j_V (V' := (sTx c (x25, (v.2.1 + 1), v.2.2), w)) rfl ?_
      exact j_vret C 36 hr rfl rfl dX4_add_36
    · exact j_vret C 36 hr rfl rfl dX4_add_36
theorem c_X4_add {G : GG} {l : Launch} (hG : Gok G) {c : VC} {w : VR} (v : VTx) (hv : c.2.2.2.2.2.1 = v) (a1 : Int32) {x : VTx} (hf : f_X4_add v a1 = some x) : Ct l yX4_add cX4_add 2 none 0 [.ref (G.2.2 2), .int a1] G (c, w) none (sTx c x, w) := by
  refine ct_of (rv := fun x : VTx => none) (fin := fun x : VTx => ((sTx c x, w) : VA)) (own := RX4) hG (plainFor_of_name (by decide)) rfl (Nat.le_of_ble_eq_true rfl) (fun X C hr _ => ?_) hf
  refine j_V (congrArg (fun z => (z, w)) (sTx_id hv).symm) ?_; exact w_X4_add C hr v a1
set_option maxRecDepth 100000 in
set_option maxHeartbeats 4000000 in
theorem w_X4_empty {G : GG} {X : WX} {c : VC} {w : VR} (C : Cx G 1 X RX4 cX4_empty 0) (hr : (xM X).sig.returnType = none) (v : VTx) : JS G 1 X (QM G X (fun x : VTx => none) (fun x : VTx => ((sTx c x, w) : VA))) (f_X4_empty v) (sTx c v, w) 0 [(0, .ref (G.2.2 2))] [] := by
  unfold f_X4_empty
  refine j_aload_n C 0 0 rfl dX4_empty_0 ?_
  refine j_iconst (v := 0) C 1 dX4_empty_1 rfl ?_
  refine p_Tx1 C 2 fl_X4_21 dX4_empty_2 ?_
  refine j_V (V' := (sTx c (v.1, 0, v.2.2), w)) rfl ?_
  exact j_vret C 5 hr rfl rfl dX4_empty_5
theorem c_X4_empty {G : GG} {l : Launch} (hG : Gok G) {c : VC} {w : VR} (v : VTx) (hv : c.2.2.2.2.2.1 = v) {x : VTx} (hf : f_X4_empty v = some x) : Ct l yX4_empty cX4_empty 1 none 0 [.ref (G.2.2 2)] G (c, w) none (sTx c x, w) := by
  refine ct_of (rv := fun x : VTx => none) (fin := fun x : VTx => ((sTx c x, w) : VA)) (own := RX4) hG (plainFor_of_name (by decide)) rfl (Nat.le_of_ble_eq_true rfl) (fun X C hr _ => ?_) hf
  refine j_V (congrArg (fun z => (z, w)) (sTx_id hv).symm) ?_; exact w_X4_empty C hr v
set_option maxRecDepth 100000 in
set_option maxHeartbeats 4000000 in
theorem wb_X4_acceptsDigit_21 {G : GG} {X : WX} {c : VC} {w : VR} (C : Cx G 3 X RX4 cX4_acceptsDigit 0) (hr : (xM X).sig.returnType = (some .boolean)) (v : VTx) (t0 : Int32) : JS G 3 X (QM G X (fun x : (Int32 × VTx) => some (.int x.1)) (fun x : (Int32 × VTx) => ((sTx c x.2, w) : VA))) (b_X4_acceptsDigit_21 v t0) (sTx c v, w) 21 [(0, .ref (G.2.2 2))] [.int t0] := by
  unfold b_X4_acceptsDigit_21
  refine j_istore_n (L1 := [(2, .int t0), (0, .ref (G.2.2 2))]) C 21 rfl dX4_acceptsDigit_21 (by decide) rfl ?_
  refine j_aload_n C 22 1 rfl dX4_acceptsDigit_22 ?_
  refine g_Tx6 (c0 := (sTx c v)) C rfl 23 (Or.inl fl_X4_32) dX4_acceptsDigit_23 ?_
  refine j_if_eq C 26 51 dX4_acceptsDigit_26 (by decide) (fun c26 => ?_) (fun c26 => ?_)
  · refine j_iconst (v := 0) C 51 dX4_acceptsDigit_51 rfl ?_
    exact j_zret C 52 hr rfl rfl rfl dX4_acceptsDigit_52
  · refine j_iload_n C 29 0 rfl dX4_acceptsDigit_29 ?_
    refine j_bipush (v := 48) C 30 dX4_acceptsDigit_30 rfl ?_
    refine j_icmp_ge C 32 51 dX4_acceptsDigit_32 (by decide) (fun c32 => ?_) (fun c32 => ?_)
    · refine j_aload_n C 35 1 rfl dX4_acceptsDigit_35 ?_
      refine g_Tx4 (c0 := (sTx c v)) C rfl 36 (Or.inl fl_X4_25) dX4_acceptsDigit_36 ?_
      refine j_if_lt C 39 51 dX4_acceptsDigit_39 (by decide) (fun c39 => ?_) (fun c39 => ?_)
      · refine j_iconst (v := 0) C 51 dX4_acceptsDigit_51 rfl ?_
        exact j_zret C 52 hr rfl rfl rfl dX4_acceptsDigit_52
      · refine j_aload_n C 42 1 rfl dX4_acceptsDigit_42 ?_
        refine g_Tx4 (c0 := (sTx c v)) C rfl 43 (Or.inl fl_X4_25) dX4_acceptsDigit_43 ?_
        refine j_bipush (v := 30) C 46 dX4_acceptsDigit_46 rfl ?_
        refine j_icmp_lt C 48 53 dX4_acceptsDigit_48 (by decide) (fun c48 => ?_) (fun c48 => ?_)
        · refine j_aload_n C 53 1 rfl dX4_acceptsDigit_53 ?_
          refine j_iload_n C 54 0 rfl dX4_acceptsDigit_54 ?_
          refine p_Tx6 C 55 fl_X4_32 dX4_acceptsDigit_55 ?_
          refine j_V (V' := (sTx c (v.1, v.2.1, v.2.2.1, v.2.2.2.1, v.2.2.2.2.1, v.2.2.2.2.2.1, t0), w)) rfl ?_
          refine j_aload_n C 58 1 rfl dX4_acceptsDigit_58 ?_
          refine g_Tx5 (c0 := (sTx c (v.1, v.2.1, v.2.2.1, v.2.2.2.1, v.2.2.2.2.1, v.2.2.2.2.2.1, t0))) C rfl 59 (Or.inl fl_X4_28) dX4_acceptsDigit_59 ?_
          refine j_if_ne C 62 78 dX4_acceptsDigit_62 (by decide) (fun c62 => ?_) (fun c62 => ?_)
          · refine j_aload_n C 65 1 rfl dX4_acceptsDigit_65 ?_
            refine g_Tx2 C 66 (Or.inl fl_X4_15) dX4_acceptsDigit_66 ?_
            refine j_aload_n C 69 1 rfl dX4_acceptsDigit_69 ?_
            refine g_Tx4 (c0 := (sTx c (v.1, v.2.1, v.2.2.1, v.2.2.2.1, v.2.2.2.2.1, v.2.2.2.2.2.1, t0))) C rfl 70 (Or.inl fl_X4_25) dX4_acceptsDigit_70 ?_
            refine j_aload_n C 73 1 rfl dX4_acceptsDigit_73 ?_
            refine g_Tx6 (c0 := (sTx c (v.1, v.2.1, v.2.2.1, v.2.2.2.1, v.2.2.2.2.1, v.2.2.2.2.2.1, t0))) C rfl 74 (Or.inl fl_X4_32) dX4_acceptsDigit_74 ?_
            refine j_bind (fun x77 h77 => ?_)
            refine t_Tx2 C 77 h77 dX4_acceptsDigit_77 ?_
            refine j_V (V' := (sTx c (v.1, v.2.1, x77, v.2.2.2.1, v.2.2.2.2.1, v.2.2.2.2.2.1, t0), w)) rfl ?_
            refine j_aload_n C 78 1 rfl dX4_acceptsDigit_78 ?_
            refine g_Tx3 C 79 (Or.inl fl_X4_18) dX4_acceptsDigit_79 ?_
            refine j_aload_n C 82 1 rfl dX4_acceptsDigit_82 ?_
            refine g_Tx4 (c0 := (sTx c (v.1, v.2.1, x77, v.2.2.2.1, v.2.2.2.2.1, v.2.2.2.2.2.1, t0))) C rfl 83 (Or.inl fl_X4_25) dX4_acceptsDigit_83 ?_
            refine j_aload_n C 86 1 rfl dX4_acceptsDigit_86 ?_
            refine g_Tx6 (c0 := (sTx c (v.1, v.2.1, x77, v.2.2.2.1, v.2.2.2.2.1, v.2.2.2.2.2.1, t0))) C rfl 87 (Or.inl fl_X4_32) dX4_acceptsDigit_87 ?_
            refine j_bind (fun x90 h90 => ?_)
            refine t_Tx3 C 90 h90 dX4_acceptsDigit_90 ?_
            refine j_V (V' := (sTx c (v.1, v.2.1, x77, x90, v.2.2.2.2.1, v.2.2.2.2.2.1, t0), w)) rfl ?_
            refine j_iconst (v := 1) C 91 dX4_acceptsDigit_91 rfl ?_
            exact j_zret C 92 hr rfl rfl rfl dX4_acceptsDigit_92
          · refine j_aload_n C 78 1 rfl dX4_acceptsDigit_78 ?_
            refine g_Tx3 C 79 (Or.inl fl_X4_18) dX4_acceptsDigit_79 ?_
            refine j_aload_n C 82 1 rfl dX4_acceptsDigit_82 ?_
            refine g_Tx4 (c0 := (sTx c (v.1, v.2.1, v.2.2.1, v.2.2.2.1, v.2.2.2.2.1, v.2.2.2.2.2.1, t0))) C rfl 83 (Or.inl fl_X4_25) dX4_acceptsDigit_83 ?_
            refine j_aload_n C 86 1 rfl dX4_acceptsDigit_86 ?_
            refine g_Tx6 (c0 := (sTx c (v.1, v.2.1, v.2.2.1, v.2.2.2.1, v.2.2.2.2.1, v.2.2.2.2.2.1, t0))) C rfl 87 (Or.inl fl_X4_32) dX4_acceptsDigit_87 ?_
            refine j_bind (fun x90 h90 => ?_)
            refine t_Tx3 C 90 h90 dX4_acceptsDigit_90 ?_
            refine j_V (V' := (sTx c (v.1, v.2.1, v.2.2.1, x90, v.2.2.2.2.1, v.2.2.2.2.2.1, t0), w)) rfl ?_
            refine j_iconst (v := 1) C 91 dX4_acceptsDigit_91 rfl ?_
            exact j_zret C 92 hr rfl rfl rfl dX4_acceptsDigit_92
        · refine j_iconst (v := 0) C 51 dX4_acceptsDigit_51 rfl ?_
          exact j_zret C 52 hr rfl rfl rfl dX4_acceptsDigit_52
    · refine j_iconst (v := 0) C 51 dX4_acceptsDigit_51 rfl ?_
      exact j_zret C 52 hr rfl rfl rfl dX4_acceptsDigit_52
set_option maxRecDepth 100000 in
set_option maxHeartbeats 4000000 in
theorem w_X4_acceptsDigit {G : GG} {X : WX} {c : VC} {w : VR} (C : Cx G 3 X RX4 cX4_acceptsDigit 0) (hr : (xM X).sig.returnType = (some .boolean)) (v : VTx) (a1 : Int32) : JS G 3 X (QM G X (fun x : (Int32 × VTx) => some (.int x.1)) (fun x : (Int32 × VTx) => ((sTx c x.2, w) : VA))) (f_X4_acceptsDigit v a1) (sTx c v, w) 0 [(0, .ref (G.2.2 2)), (1, .int a1)] [] := by
  unfold f_X4_acceptsDigit
  refine j_aload_n C 0 0 rfl dX4_acceptsDigit_0 ?_
  refine g_Tx6 (c0 := (sTx c v)) C rfl 1 (Or.inl fl_X4_32) dX4_acceptsDigit_1 ?_
  refine j_iconst (v := (-1)) C 4 dX4_acceptsDigit_4 rfl ?_
  refine j_icmp_ne C 5 12 dX4_acceptsDigit_5 (by decide) (fun c5 => ?_) (fun c5 => ?_)
  · refine j_iload_n C 8 1 rfl dX4_acceptsDigit_8 ?_
    refine j_goto C 9 21 dX4_acceptsDigit_9 (by decide) ?_
    refine j_L (L' := [(0, .ref (G.2.2 2))]) [0] rfl ?_
    exact wb_X4_acceptsDigit_21 C hr v a1
  · refine j_bipush (v := 10) C 12 dX4_acceptsDigit_12 rfl ?_
    refine j_aload_n C 14 0 rfl dX4_acceptsDigit_14 ?_
    refine g_Tx6 (c0 := (sTx c v)) C rfl 15 (Or.inl fl_X4_32) dX4_acceptsDigit_15 ?_
    refine j_imul C 18 dX4_acceptsDigit_18 ?_
    refine j_iload_n C 19 1 rfl dX4_acceptsDigit_19 ?_
    refine j_iadd C 20 dX4_acceptsDigit_20 ?_
    refine j_L (L' := [(0, .ref (G.2.2 2))]) [0] rfl ?_
    exact wb_X4_acceptsDigit_21 C hr v ((10 * v.2.2.2.2.2.2) + a1)
theorem c_X4_acceptsDigit {G : GG} {l : Launch} (hG : Gok G) {c : VC} {w : VR} (v : VTx) (hv : c.2.2.2.2.2.1 = v) (a1 : Int32) {x : (Int32 × VTx)} (hf : f_X4_acceptsDigit v a1 = some x) : Ct l yX4_acceptsDigit cX4_acceptsDigit 3 (some .boolean) 0 [.ref (G.2.2 2), .int a1] G (c, w) (some (.int x.1)) (sTx c x.2, w) := by
  refine ct_of (rv := fun x : (Int32 × VTx) => (some (.int x.1))) (fin := fun x : (Int32 × VTx) => ((sTx c x.2, w) : VA)) (own := RX4) hG (plainFor_of_name (by decide)) rfl (Nat.le_of_ble_eq_true rfl) (fun X C hr _ => ?_) hf
  refine j_V (congrArg (fun z => (z, w)) (sTx_id hv).symm) ?_; exact w_X4_acceptsDigit C hr v a1
set_option maxRecDepth 100000 in
set_option maxHeartbeats 4000000 in
theorem wb_X4_accepts_21 {G : GG} {X : WX} {c : VC} {w : VR} (C : Cx G 2 X RX4 cX4_accepts 1) (hr : (xM X).sig.returnType = (some .boolean)) (v : VTx) (s1 : Int32) : JS G 2 X (QM G X (fun x : (Int32 × VTx) => some (.int x.1)) (fun x : (Int32 × VTx) => ((sTx c x.2, w) : VA))) (b_X4_accepts_21 v s1) (sTx c v, w) 21 [(0, .ref (G.2.2 2)), (1, .int s1)] [] := by
  unfold b_X4_accepts_21
  refine j_aload_n C 21 0 rfl dX4_accepts_21 ?_
  refine g_Tx6 (c0 := (sTx c v)) C rfl 22 (Or.inl fl_X4_32) dX4_accepts_22 ?_
  refine j_iconst (v := (-1)) C 25 dX4_accepts_25 rfl ?_
  refine j_icmp_ne C 26 31 dX4_accepts_26 (by decide) (fun c26 => ?_) (fun c26 => ?_)
  · refine j_iconst (v := 0) C 29 dX4_accepts_29 rfl ?_
    exact j_zret C 30 hr rfl rfl rfl dX4_accepts_30
  · refine j_iload_n C 31 1 rfl dX4_accepts_31 ?_
    refine j_bipush (v := 44) C 32 dX4_accepts_32 rfl ?_
    refine j_icmp_ne C 34 55 dX4_accepts_34 (by decide) (fun c34 => ?_) (fun c34 => ?_)
    · refine j_aload_n C 37 0 rfl dX4_accepts_37 ?_
      refine j_dup C 38 dX4_accepts_38 rfl ?_
      refine g_Tx4 (c0 := (sTx c v)) C rfl 39 (Or.inl fl_X4_25) dX4_accepts_39 ?_
      refine j_iconst (v := 1) C 42 dX4_accepts_42 rfl ?_
      refine j_iadd C 43 dX4_accepts_43 ?_
      refine p_Tx4 C 44 fl_X4_25 dX4_accepts_44 ?_
      refine j_V (V' := (sTx c (v.1, v.2.1, v.2.2.1, v.2.2.2.1, (v.2.2.2.2.1 + 1), v.2.2.2.2.2), w)) rfl ?_
      refine j_aload_n C 47 0 rfl dX4_accepts_47 ?_
      refine j_iconst (v := 0) C 48 dX4_accepts_48 rfl ?_
      refine p_Tx5 C 49 rfl rfl fl_X4_28 dX4_accepts_49 ?_
      refine j_V (V' := (sTx c (v.1, v.2.1, v.2.2.1, v.2.2.2.1, (v.2.2.2.2.1 + 1), 0, v.2.2.2.2.2.2), w)) rfl ?_
      refine j_goto C 52 78 dX4_accepts_52 (by decide) ?_
      refine j_aload_n C 78 0 rfl dX4_accepts_78 ?_
      refine j_iconst (v := (-1)) C 79 dX4_accepts_79 rfl ?_
      refine p_Tx6 C 80 fl_X4_32 dX4_accepts_80 ?_
      refine j_V (V' := (sTx c (v.1, v.2.1, v.2.2.1, v.2.2.2.1, (v.2.2.2.2.1 + 1), 0, (-1)), w)) rfl ?_
      refine j_iconst (v := 1) C 83 dX4_accepts_83 rfl ?_
      exact j_zret C 84 hr rfl rfl rfl dX4_accepts_84
    · refine j_iload_n C 55 1 rfl dX4_accepts_55 ?_
      refine j_bipush (v := 45) C 56 dX4_accepts_56 rfl ?_
      refine j_icmp_ne C 58 76 dX4_accepts_58 (by decide) (fun c58 => ?_) (fun c58 => ?_)
      · refine j_aload_n C 61 0 rfl dX4_accepts_61 ?_
        refine g_Tx5 (c0 := (sTx c v)) C rfl 62 (Or.inl fl_X4_28) dX4_accepts_62 ?_
        refine j_if_ne C 65 76 dX4_accepts_65 (by decide) (fun c65 => ?_) (fun c65 => ?_)
        · refine j_aload_n C 68 0 rfl dX4_accepts_68 ?_
          refine j_iconst (v := 1) C 69 dX4_accepts_69 rfl ?_
          refine p_Tx5 C 70 rfl rfl fl_X4_28 dX4_accepts_70 ?_
          refine j_V (V' := (sTx c (v.1, v.2.1, v.2.2.1, v.2.2.2.1, v.2.2.2.2.1, 1, v.2.2.2.2.2.2), w)) rfl ?_
          refine j_goto C 73 78 dX4_accepts_73 (by decide) ?_
          refine j_aload_n C 78 0 rfl dX4_accepts_78 ?_
          refine j_iconst (v := (-1)) C 79 dX4_accepts_79 rfl ?_
          refine p_Tx6 C 80 fl_X4_32 dX4_accepts_80 ?_
          refine j_V (V' := (sTx c (v.1, v.2.1, v.2.2.1, v.2.2.2.1, v.2.2.2.2.1, 1, (-1)), w)) rfl ?_
          refine j_iconst (v := 1) C 83 dX4_accepts_83 rfl ?_
          exact j_zret C 84 hr rfl rfl rfl dX4_accepts_84
        · refine j_iconst (v := 0) C 76 dX4_accepts_76 rfl ?_
          exact j_zret C 77 hr rfl rfl rfl dX4_accepts_77
      · refine j_iconst (v := 0) C 76 dX4_accepts_76 rfl ?_
        exact j_zret C 77 hr rfl rfl rfl dX4_accepts_77
set_option maxRecDepth 100000 in
set_option maxHeartbeats 4000000 in
theorem w_X4_accepts {G : GG} {X : WX} {c : VC} {w : VR} (C : Cx G 2 X RX4 cX4_accepts 1) (hr : (xM X).sig.returnType = (some .boolean)) (v : VTx) (a1 : Int32) : JS G 2 X (QM G X (fun x : (Int32 × VTx) => some (.int x.1)) (fun x : (Int32 × VTx) => ((sTx c x.2, w) : VA))) (f_X4_accepts v a1) (sTx c v, w) 0 [(0, .ref (G.2.2 2)), (1, .int a1)] [] := by
  unfold f_X4_accepts
  refine j_iload_n C 0 1 rfl dX4_accepts_0 ?_
  refine j_bipush (v := 48) C 1 dX4_accepts_1 rfl ?_
  refine j_icmp_lt C 3 21 dX4_accepts_3 (by decide) (fun c3 => ?_) (fun c3 => ?_)
  · exact wb_X4_accepts_21 C hr v a1
  · refine j_iload_n C 6 1 rfl dX4_accepts_6 ?_
    refine j_bipush (v := 57) C 7 dX4_accepts_7 rfl ?_
    refine j_icmp_gt C 9 21 dX4_accepts_9 (by decide) (fun c9 => ?_) (fun c9 => ?_)
    · exact wb_X4_accepts_21 C hr v a1
    · refine j_aload_n C 12 0 rfl dX4_accepts_12 ?_
      refine j_iload_n C 13 1 rfl dX4_accepts_13 ?_
      refine j_bipush (v := 48) C 14 dX4_accepts_14 rfl ?_
      refine j_isub C 16 dX4_accepts_16 ?_
      refine j_bind (fun x17 h17 => ?_)
      refine j_vTx_i (As := [.int (a1 - 48)]) (st := []) C k_X4_acceptsDigit 17 (c_X4_acceptsDigit C.2.2.2.2.2.2.1 (c := (sTx c v)) _ rfl _ h17) rfl rfl ml_X4_43 ii_X4_acceptsDigit is_X4_acceptsDigit dX4_accepts_17 (by decide) rfl (Nat.le_of_ble_eq_true rfl) ?_ rfl
      refine j_V (V' := (sTx c x17.2, w)) rfl ?_
      refine j_bind (fun r20 h20 => ?_)
      obtain ⟨hb20, rfl⟩ := bck_in h20
      exact j_zret C 20 hr hb20 rfl rfl dX4_accepts_20
theorem c_X4_accepts {G : GG} {l : Launch} (hG : Gok G) {c : VC} {w : VR} (v : VTx) (hv : c.2.2.2.2.2.1 = v) (a1 : Int32) {x : (Int32 × VTx)} (hf : f_X4_accepts v a1 = some x) : Ct l yX4_accepts cX4_accepts 2 (some .boolean) 1 [.ref (G.2.2 2), .int a1] G (c, w) (some (.int x.1)) (sTx c x.2, w) := by
  refine ct_of (rv := fun x : (Int32 × VTx) => (some (.int x.1))) (fin := fun x : (Int32 × VTx) => ((sTx c x.2, w) : VA)) (own := RX4) hG (plainFor_of_name (by decide)) rfl (Nat.le_of_ble_eq_true rfl) (fun X C hr _ => ?_) hf
  refine j_V (congrArg (fun z => (z, w)) (sTx_id hv).symm) ?_; exact w_X4_accepts C hr v a1
set_option maxRecDepth 100000 in
set_option maxHeartbeats 4000000 in
theorem wl_X4_scan_17 {G : GG} {X : WX} {c : VC} {w : VR} (C : Cx G 2 X RX4 cX4_scan 2) (hr : (xM X).sig.returnType = (some .int)) : ∀ (n : Nat) (v : VTx) (s1 : Int32), JS G 2 X (QM G X (fun x : (Int32 × VTx) => some (.int x.1)) (fun x : (Int32 × VTx) => ((sTx c x.2, w) : VA))) (l_X4_scan_17 n v s1) (sTx c v, w) 17 [(0, .ref (G.2.2 2)), (1, .int s1)] [] := by
  intro n
  induction n with
  | zero => intro _ _; exact j_none
  | succ n ih =>
    intro v s1
    unfold l_X4_scan_17
    refine j_iload_n C 17 1 rfl dX4_scan_17 ?_
    refine j_aload_n C 18 0 rfl dX4_scan_18 ?_
    refine g_Tx1 (c0 := (sTx c v)) C rfl 19 (Or.inl fl_X4_21) dX4_scan_19 ?_
    refine j_icmp_ge C 22 48 dX4_scan_22 (by decide) (fun c22 => ?_) (fun c22 => ?_)
    · refine j_aload_n C 25 0 rfl dX4_scan_25 ?_
      refine j_aload_n C 26 0 rfl dX4_scan_26 ?_
      refine g_Tx0 C 27 (Or.inl fl_X4_9) dX4_scan_27 ?_
      refine j_iload_n C 30 1 rfl dX4_scan_30 ?_
      refine j_bind (fun x31 h31 => ?_)
      refine j_callSN_i (As := [.ref (G.2.2 3), .int s1]) (st := [.ref (G.2.2 2)]) C k_X5_entry 31 (c_X5_entry C.2.2.2.2.2.2.1 (c := (sTx c v)) _ _ 3 (by omega) (a_Tx0 rfl) _ h31) rfl ml_X4_35 st_X5_entry dX4_scan_31 (by decide) rfl (Nat.le_of_ble_eq_true rfl) ?_ rfl
      refine j_bind (fun x34 h34 => ?_)
      refine j_vTx_i (As := [.int x31]) (st := []) C k_X4_accepts 34 (c_X4_accepts C.2.2.2.2.2.2.1 (c := (sTx c v)) _ rfl _ h34) rfl rfl ml_X4_39 ii_X4_accepts is_X4_accepts dX4_scan_34 (by decide) rfl (Nat.le_of_ble_eq_true rfl) ?_ rfl
      refine j_V (V' := (sTx c x34.2, w)) rfl ?_
      refine j_if_ne C 37 42 dX4_scan_37 (by decide) (fun c37 => ?_) (fun c37 => ?_)
      · refine j_iload_n C 40 1 rfl dX4_scan_40 ?_
        exact j_iret C 41 hr rfl rfl dX4_scan_41
      · refine j_iinc (v := (s1 + 1)) (L1 := [(1, .int (s1 + 1)), (0, .ref (G.2.2 2))]) C 42 1 rfl dX4_scan_42 rfl (by decide) rfl ?_
        refine j_goto C 45 17 dX4_scan_45 (by decide) ?_
        refine j_L (L' := [(0, .ref (G.2.2 2)), (1, .int (s1 + 1))]) [1, 0] rfl ?_
        exact ih x34.2 (s1 + 1)
    · refine j_aload_n C 48 0 rfl dX4_scan_48 ?_
      refine g_Tx1 (c0 := (sTx c v)) C rfl 49 (Or.inl fl_X4_21) dX4_scan_49 ?_
      exact j_iret C 52 hr rfl rfl dX4_scan_52
set_option maxRecDepth 100000 in
set_option maxHeartbeats 4000000 in
theorem w_X4_scan {G : GG} {X : WX} {c : VC} {w : VR} (C : Cx G 2 X RX4 cX4_scan 2) (hr : (xM X).sig.returnType = (some .int)) (v : VTx) : JS G 2 X (QM G X (fun x : (Int32 × VTx) => some (.int x.1)) (fun x : (Int32 × VTx) => ((sTx c x.2, w) : VA))) (f_X4_scan v) (sTx c v, w) 0 [(0, .ref (G.2.2 2))] [] := by
  unfold f_X4_scan
  refine j_aload_n C 0 0 rfl dX4_scan_0 ?_
  refine j_iconst (v := 0) C 1 dX4_scan_1 rfl ?_
  refine p_Tx4 C 2 fl_X4_25 dX4_scan_2 ?_
  refine j_V (V' := (sTx c (v.1, v.2.1, v.2.2.1, v.2.2.2.1, 0, v.2.2.2.2.2), w)) rfl ?_
  refine j_aload_n C 5 0 rfl dX4_scan_5 ?_
  refine j_iconst (v := 0) C 6 dX4_scan_6 rfl ?_
  refine p_Tx5 C 7 rfl rfl fl_X4_28 dX4_scan_7 ?_
  refine j_V (V' := (sTx c (v.1, v.2.1, v.2.2.1, v.2.2.2.1, 0, 0, v.2.2.2.2.2.2), w)) rfl ?_
  refine j_aload_n C 10 0 rfl dX4_scan_10 ?_
  refine j_iconst (v := (-1)) C 11 dX4_scan_11 rfl ?_
  refine p_Tx6 C 12 fl_X4_32 dX4_scan_12 ?_
  refine j_V (V' := (sTx c (v.1, v.2.1, v.2.2.1, v.2.2.2.1, 0, 0, (-1)), w)) rfl ?_
  refine j_iconst (v := 0) C 15 dX4_scan_15 rfl ?_
  refine j_istore_n (L1 := [(1, .int 0), (0, .ref (G.2.2 2))]) C 16 rfl dX4_scan_16 (by decide) rfl ?_
  refine j_L (L' := [(0, .ref (G.2.2 2)), (1, .int 0)]) [1, 0] rfl ?_
  exact wl_X4_scan_17 C hr FU (v.1, v.2.1, v.2.2.1, v.2.2.2.1, 0, 0, (-1)) 0
theorem c_X4_scan {G : GG} {l : Launch} (hG : Gok G) {c : VC} {w : VR} (v : VTx) (hv : c.2.2.2.2.2.1 = v) {x : (Int32 × VTx)} (hf : f_X4_scan v = some x) : Ct l yX4_scan cX4_scan 2 (some .int) 2 [.ref (G.2.2 2)] G (c, w) (some (.int x.1)) (sTx c x.2, w) := by
  refine ct_of (rv := fun x : (Int32 × VTx) => (some (.int x.1))) (fin := fun x : (Int32 × VTx) => ((sTx c x.2, w) : VA)) (own := RX4) hG (plainFor_of_name (by decide)) rfl (Nat.le_of_ble_eq_true rfl) (fun X C hr _ => ?_) hf
  refine j_V (congrArg (fun z => (z, w)) (sTx_id hv).symm) ?_; exact w_X4_scan C hr v
set_option maxRecDepth 100000 in
set_option maxHeartbeats 4000000 in
theorem w_X4_lastOf {G : GG} {X : WX} {c : VC} {w : VR} (C : Cx G 2 X RX4 cX4_lastOf 1) (hr : (xM X).sig.returnType = (some .int)) (v : VTx) (hv : c.2.2.2.2.2.1 = v) (a1 : Int32) : JS G 2 X (QM G X (fun x : Int32 => some (.int x)) (fun x : Int32 => ((c, w) : VA))) (f_X4_lastOf v a1) (c, w) 0 [(0, .ref (G.2.2 2)), (1, .int a1)] [] := by
  unfold f_X4_lastOf
  refine j_aload_n C 0 0 rfl dX4_lastOf_0 ?_
  refine g_Tx3 C 1 (Or.inl fl_X4_18) dX4_lastOf_1 ?_
  refine j_iload_n C 4 1 rfl dX4_lastOf_4 ?_
  refine j_bind (fun x5 h5 => ?_)
  refine j_callSN_i (As := [.ref (G.2.2 5), .int a1]) (st := []) C k_X5_entry 5 (c_X5_entry C.2.2.2.2.2.2.1 (c := c) _ _ 5 (by omega) (a_Tx3 hv) _ h5) rfl ml_X4_35 st_X5_entry dX4_lastOf_5 (by decide) rfl (Nat.le_of_ble_eq_true rfl) ?_ rfl
  exact j_iret C 8 hr rfl rfl dX4_lastOf_8
theorem c_X4_lastOf {G : GG} {l : Launch} (hG : Gok G) {c : VC} {w : VR} (v : VTx) (hv : c.2.2.2.2.2.1 = v) (a1 : Int32) {x : Int32} (hf : f_X4_lastOf v a1 = some x) : Ct l yX4_lastOf cX4_lastOf 2 (some .int) 1 [.ref (G.2.2 2), .int a1] G (c, w) (some (.int x)) (c, w) := by
  refine ct_of (rv := fun x : Int32 => (some (.int x))) (fin := fun x : Int32 => ((c, w) : VA)) (own := RX4) hG (plainFor_of_name (by decide)) rfl (Nat.le_of_ble_eq_true rfl) (fun X C hr _ => ?_) hf
  exact w_X4_lastOf C hr v hv a1
set_option maxRecDepth 100000 in
set_option maxHeartbeats 4000000 in
theorem w_X4_firstOf {G : GG} {X : WX} {c : VC} {w : VR} (C : Cx G 2 X RX4 cX4_firstOf 1) (hr : (xM X).sig.returnType = (some .int)) (v : VTx) (hv : c.2.2.2.2.2.1 = v) (a1 : Int32) : JS G 2 X (QM G X (fun x : Int32 => some (.int x)) (fun x : Int32 => ((c, w) : VA))) (f_X4_firstOf v a1) (c, w) 0 [(0, .ref (G.2.2 2)), (1, .int a1)] [] := by
  unfold f_X4_firstOf
  refine j_aload_n C 0 0 rfl dX4_firstOf_0 ?_
  refine g_Tx2 C 1 (Or.inl fl_X4_15) dX4_firstOf_1 ?_
  refine j_iload_n C 4 1 rfl dX4_firstOf_4 ?_
  refine j_bind (fun x5 h5 => ?_)
  refine j_callSN_i (As := [.ref (G.2.2 4), .int a1]) (st := []) C k_X5_entry 5 (c_X5_entry C.2.2.2.2.2.2.1 (c := c) _ _ 4 (by omega) (a_Tx2 hv) _ h5) rfl ml_X4_35 st_X5_entry dX4_firstOf_5 (by decide) rfl (Nat.le_of_ble_eq_true rfl) ?_ rfl
  exact j_iret C 8 hr rfl rfl dX4_firstOf_8
theorem c_X4_firstOf {G : GG} {l : Launch} (hG : Gok G) {c : VC} {w : VR} (v : VTx) (hv : c.2.2.2.2.2.1 = v) (a1 : Int32) {x : Int32} (hf : f_X4_firstOf v a1 = some x) : Ct l yX4_firstOf cX4_firstOf 2 (some .int) 1 [.ref (G.2.2 2), .int a1] G (c, w) (some (.int x)) (c, w) := by
  refine ct_of (rv := fun x : Int32 => (some (.int x))) (fin := fun x : Int32 => ((c, w) : VA)) (own := RX4) hG (plainFor_of_name (by decide)) rfl (Nat.le_of_ble_eq_true rfl) (fun X C hr _ => ?_) hf
  exact w_X4_firstOf C hr v hv a1
set_option maxRecDepth 100000 in
set_option maxHeartbeats 4000000 in
theorem wl_X4_tellsReadings_23 {G : GG} {X : WX} {c : VC} {w : VR} (C : Cx G 2 X RX4 cX4_tellsReadings 3) (hr : (xM X).sig.returnType = (some .boolean)) : ∀ (n : Nat) (v : VTx) (s1 : Int32), JS G 2 X (QM G X (fun x : (Int32 × VTx) => some (.int x.1)) (fun x : (Int32 × VTx) => ((sTx c x.2, w) : VA))) (l_X4_tellsReadings_23 n v s1) (sTx c v, w) 23 [(0, .ref (G.2.2 2)), (1, .int s1)] [] := by
  intro n
  induction n with
  | zero => intro _ _; exact j_none
  | succ n ih =>
    intro v s1
    unfold l_X4_tellsReadings_23
    refine j_iload_n C 23 1 rfl dX4_tellsReadings_23 ?_
    refine j_aload_n C 24 0 rfl dX4_tellsReadings_24 ?_
    refine g_Tx4 (c0 := (sTx c v)) C rfl 25 (Or.inl fl_X4_25) dX4_tellsReadings_25 ?_
    refine j_icmp_gt C 28 52 dX4_tellsReadings_28 (by decide) (fun c28 => ?_) (fun c28 => ?_)
    · refine j_iconst (v := 1) C 52 dX4_tellsReadings_52 rfl ?_
      exact j_zret C 53 hr rfl rfl rfl dX4_tellsReadings_53
    · refine j_aload_n C 31 0 rfl dX4_tellsReadings_31 ?_
      refine j_iload_n C 32 1 rfl dX4_tellsReadings_32 ?_
      refine j_bind (fun x33 h33 => ?_)
      refine j_vTx_i (As := [.int s1]) (st := []) C k_X4_lastOf 33 (c_X4_lastOf C.2.2.2.2.2.2.1 (c := (sTx c v)) _ rfl _ h33) rfl rfl ml_X4_50 ii_X4_lastOf is_X4_lastOf dX4_tellsReadings_33 (by decide) rfl (Nat.le_of_ble_eq_true rfl) ?_ rfl
      refine j_aload_n C 36 0 rfl dX4_tellsReadings_36 ?_
      refine j_iload_n C 37 1 rfl dX4_tellsReadings_37 ?_
      refine j_bind (fun x38 h38 => ?_)
      refine j_vTx_i (As := [.int s1]) (st := [.int x33]) C k_X4_firstOf 38 (c_X4_firstOf C.2.2.2.2.2.2.1 (c := (sTx c v)) _ rfl _ h38) rfl rfl ml_X4_54 ii_X4_firstOf is_X4_firstOf dX4_tellsReadings_38 (by decide) rfl (Nat.le_of_ble_eq_true rfl) ?_ rfl
      refine j_icmp_ge C 41 46 dX4_tellsReadings_41 (by decide) (fun c41 => ?_) (fun c41 => ?_)
      · refine j_iconst (v := 0) C 44 dX4_tellsReadings_44 rfl ?_
        exact j_zret C 45 hr rfl rfl rfl dX4_tellsReadings_45
      · refine j_iinc (v := (s1 + 1)) (L1 := [(1, .int (s1 + 1)), (0, .ref (G.2.2 2))]) C 46 1 rfl dX4_tellsReadings_46 rfl (by decide) rfl ?_
        refine j_goto C 49 23 dX4_tellsReadings_49 (by decide) ?_
        refine j_L (L' := [(0, .ref (G.2.2 2)), (1, .int (s1 + 1))]) [1, 0] rfl ?_
        exact ih v (s1 + 1)
set_option maxRecDepth 100000 in
set_option maxHeartbeats 4000000 in
theorem w_X4_tellsReadings {G : GG} {X : WX} {c : VC} {w : VR} (C : Cx G 2 X RX4 cX4_tellsReadings 3) (hr : (xM X).sig.returnType = (some .boolean)) (v : VTx) : JS G 2 X (QM G X (fun x : (Int32 × VTx) => some (.int x.1)) (fun x : (Int32 × VTx) => ((sTx c x.2, w) : VA))) (f_X4_tellsReadings v) (sTx c v, w) 0 [(0, .ref (G.2.2 2))] [] := by
  unfold f_X4_tellsReadings
  refine j_aload_n C 0 0 rfl dX4_tellsReadings_0 ?_
  refine j_bind (fun x1 h1 => ?_)
  refine j_vTx_i (As := []) (st := []) C k_X4_scan 1 (c_X4_scan C.2.2.2.2.2.2.1 (c := (sTx c v)) _ rfl h1) rfl rfl ml_X4_46 ii_X4_scan is_X4_scan dX4_tellsReadings_1 (by decide) rfl (Nat.le_of_ble_eq_true rfl) ?_ rfl
  refine j_V (V' := (sTx c x1.2, w)) rfl ?_
  refine j_aload_n C 4 0 rfl dX4_tellsReadings_4 ?_
  refine g_Tx1 (c0 := (sTx c x1.2)) C rfl 5 (Or.inl fl_X4_21) dX4_tellsReadings_5 ?_
  refine j_icmp_lt C 8 19 dX4_tellsReadings_8 (by decide) (fun c8 => ?_) (fun c8 => ?_)
  · refine j_iconst (v := 0) C 19 dX4_tellsReadings_19 rfl ?_
    exact j_zret C 20 hr rfl rfl rfl dX4_tellsReadings_20
  · refine j_aload_n C 11 0 rfl dX4_tellsReadings_11 ?_
    refine g_Tx6 (c0 := (sTx c x1.2)) C rfl 12 (Or.inl fl_X4_32) dX4_tellsReadings_12 ?_
    refine j_iconst (v := (-1)) C 15 dX4_tellsReadings_15 rfl ?_
    refine j_icmp_ne C 16 21 dX4_tellsReadings_16 (by decide) (fun c16 => ?_) (fun c16 => ?_)
    · refine j_iconst (v := 0) C 19 dX4_tellsReadings_19 rfl ?_
      exact j_zret C 20 hr rfl rfl rfl dX4_tellsReadings_20
    · refine j_iconst (v := 0) C 21 dX4_tellsReadings_21 rfl ?_
      refine j_istore_n (L1 := [(1, .int 0), (0, .ref (G.2.2 2))]) C 22 rfl dX4_tellsReadings_22 (by decide) rfl ?_
      refine j_L (L' := [(0, .ref (G.2.2 2)), (1, .int 0)]) [1, 0] rfl ?_
      exact wl_X4_tellsReadings_23 C hr FU x1.2 0
theorem c_X4_tellsReadings {G : GG} {l : Launch} (hG : Gok G) {c : VC} {w : VR} (v : VTx) (hv : c.2.2.2.2.2.1 = v) {x : (Int32 × VTx)} (hf : f_X4_tellsReadings v = some x) : Ct l yX4_tellsReadings cX4_tellsReadings 2 (some .boolean) 3 [.ref (G.2.2 2)] G (c, w) (some (.int x.1)) (sTx c x.2, w) := by
  refine ct_of (rv := fun x : (Int32 × VTx) => (some (.int x.1))) (fin := fun x : (Int32 × VTx) => ((sTx c x.2, w) : VA)) (own := RX4) hG (plainFor_of_name (by decide)) rfl (Nat.le_of_ble_eq_true rfl) (fun X C hr _ => ?_) hf
  refine j_V (congrArg (fun z => (z, w)) (sTx_id hv).symm) ?_; exact w_X4_tellsReadings C hr v
set_option maxRecDepth 100000 in
set_option maxHeartbeats 4000000 in
theorem wl_X4_fold_15 {G : GG} {X : WX} {c : VC} {w : VR} (C : Cx G 6 X RX4 cX4_fold 1) (hr : (xM X).sig.returnType = (some .long)) (v : VTx) (hv : c.2.2.2.2.2.1 = v) : ∀ (n : Nat) (s3 : Int64) (s5 : Int32), JS G 6 X (QM G X (fun x : Int64 => some (.long x)) (fun x : Int64 => ((c, w) : VA))) (l_X4_fold_15 v n s3 s5) (c, w) 15 [(0, .ref (G.2.2 2)), (3, .long s3), (5, .int s5)] [] := by
  intro n
  induction n with
  | zero => intro _ _; exact j_none
  | succ n ih =>
    intro s3 s5
    unfold l_X4_fold_15
    refine j_iload C 15 2 rfl dX4_fold_15 ?_
    refine j_aload_n C 17 0 rfl dX4_fold_17 ?_
    refine g_Tx1 (c0 := c) C hv 18 (Or.inl fl_X4_21) dX4_fold_18 ?_
    refine j_icmp_ge C 21 47 dX4_fold_21 (by decide) (fun c21 => ?_) (fun c21 => ?_)
    · refine j_ldc2 C 24 dX4_fold_24 lc_X4_57 ?_
      refine j_lload_n C 27 1 rfl dX4_fold_27 ?_
      refine j_lmul C 28 dX4_fold_28 ?_
      refine j_aload_n C 29 0 rfl dX4_fold_29 ?_
      refine g_Tx0 C 30 (Or.inl fl_X4_9) dX4_fold_30 ?_
      refine j_iload C 33 2 rfl dX4_fold_33 ?_
      refine j_bind (fun x35 h35 => ?_)
      refine j_callSN_i (As := [.ref (G.2.2 3), .int s5]) (st := [.long ((31 : Int64) * s3)]) C k_X5_entry 35 (c_X5_entry C.2.2.2.2.2.2.1 (c := c) _ _ 3 (by omega) (a_Tx0 hv) _ h35) rfl ml_X4_35 st_X5_entry dX4_fold_35 (by decide) rfl (Nat.le_of_ble_eq_true rfl) ?_ rfl
      refine j_i2l C 38 dX4_fold_38 ?_
      refine j_ladd C 39 dX4_fold_39 ?_
      refine j_lstore_n (L1 := [(3, .long (((31 : Int64) * s3) + ((x35 : Int32).toInt64))), (0, .ref (G.2.2 2)), (5, .int s5)]) C 40 rfl dX4_fold_40 (by decide) rfl ?_
      refine j_iinc (v := (s5 + 1)) (L1 := [(5, .int (s5 + 1)), (3, .long (((31 : Int64) * s3) + ((x35 : Int32).toInt64))), (0, .ref (G.2.2 2))]) C 41 2 rfl dX4_fold_41 rfl (by decide) rfl ?_
      refine j_goto C 44 15 dX4_fold_44 (by decide) ?_
      refine j_L (L' := [(0, .ref (G.2.2 2)), (3, .long (((31 : Int64) * s3) + ((x35 : Int32).toInt64))), (5, .int (s5 + 1))]) [2, 1, 0] rfl ?_
      exact ih (((31 : Int64) * s3) + ((x35 : Int32).toInt64)) (s5 + 1)
    · refine j_lload_n C 47 1 rfl dX4_fold_47 ?_
      exact j_lret C 48 hr rfl rfl dX4_fold_48
set_option maxRecDepth 100000 in
set_option maxHeartbeats 4000000 in
theorem w_X4_fold {G : GG} {X : WX} {c : VC} {w : VR} (C : Cx G 6 X RX4 cX4_fold 1) (hr : (xM X).sig.returnType = (some .long)) (v : VTx) (hv : c.2.2.2.2.2.1 = v) (a1 : Int64) : JS G 6 X (QM G X (fun x : Int64 => some (.long x)) (fun x : Int64 => ((c, w) : VA))) (f_X4_fold v a1) (c, w) 0 [(0, .ref (G.2.2 2)), (1, .long a1)] [] := by
  unfold f_X4_fold
  refine j_ldc2 C 0 dX4_fold_0 lc_X4_57 ?_
  refine j_lload_n C 3 1 rfl dX4_fold_3 ?_
  refine j_lmul C 4 dX4_fold_4 ?_
  refine j_aload_n C 5 0 rfl dX4_fold_5 ?_
  refine g_Tx1 (c0 := c) C hv 6 (Or.inl fl_X4_21) dX4_fold_6 ?_
  refine j_i2l C 9 dX4_fold_9 ?_
  refine j_ladd C 10 dX4_fold_10 ?_
  refine j_lstore_n (L1 := [(3, .long (((31 : Int64) * a1) + ((v.2.1 : Int32).toInt64))), (0, .ref (G.2.2 2)), (1, .long a1)]) C 11 rfl dX4_fold_11 (by decide) rfl ?_
  refine j_iconst (v := 0) C 12 dX4_fold_12 rfl ?_
  refine j_istore (L1 := [(5, .int 0), (3, .long (((31 : Int64) * a1) + ((v.2.1 : Int32).toInt64))), (0, .ref (G.2.2 2)), (1, .long a1)]) C 13 dX4_fold_13 (by decide) rfl ?_
  refine j_L (L' := [(0, .ref (G.2.2 2)), (3, .long (((31 : Int64) * a1) + ((v.2.1 : Int32).toInt64))), (5, .int 0)]) [2, 1, 0] rfl ?_
  exact wl_X4_fold_15 C hr v hv FU (((31 : Int64) * a1) + ((v.2.1 : Int32).toInt64)) 0
theorem c_X4_fold {G : GG} {l : Launch} (hG : Gok G) {c : VC} {w : VR} (v : VTx) (hv : c.2.2.2.2.2.1 = v) (a1 : Int64) {x : Int64} (hf : f_X4_fold v a1 = some x) : Ct l yX4_fold cX4_fold 6 (some .long) 1 [.ref (G.2.2 2), .long a1] G (c, w) (some (.long x)) (c, w) := by
  refine ct_of (rv := fun x : Int64 => (some (.long x))) (fin := fun x : Int64 => ((c, w) : VA)) (own := RX4) hG (plainFor_of_name (by decide)) rfl (Nat.le_of_ble_eq_true rfl) (fun X C hr _ => ?_) hf
  exact w_X4_fold C hr v hv a1
