set_option maxRecDepth 100000 in
set_option maxHeartbeats 4000000 in
theorem wl_X5_moveOldestToEnd_9 {G : GG} {X : WX} {w : VW} (C : Cx G 3 X RX5 cX5_moveOldestToEnd 0) (hr : (xM X).sig.returnType = none) : ∀ (n : Nat) (v : VC) (p1 : Nat) (s2 : Int32), JS G 3 X (QM G X (fun x : VC => none) (fun x : VC => ((x, w) : VA))) (l_X5_moveOldestToEnd_9 n v p1 s2) (v, w) 9 [(0, .ref (G.2.2 0)), (1, .ref (G.2.2 (6 + 2 * p1))), (2, .int s2)] [] := by
  intro n
  induction n with
  | zero => intro _ _ _; exact j_none
  | succ n ih =>
    intro v p1 s2
    unfold l_X5_moveOldestToEnd_9
    refine j_iload_n C 9 2 rfl dX5_moveOldestToEnd_9 ?_
    refine j_bipush (v := 6) C 10 dX5_moveOldestToEnd_10 rfl ?_
    refine j_icmp_ge C 12 35 dX5_moveOldestToEnd_12 (by decide) (fun c12 => ?_) (fun c12 => ?_)
    · refine j_aload_n C 15 0 rfl dX5_moveOldestToEnd_15 ?_
      refine g_Sp3 C 16 (Or.inl fl_X5_19) dX5_moveOldestToEnd_16 ?_
      refine j_iload_n C 19 2 rfl dX5_moveOldestToEnd_19 ?_
      refine j_iconst (v := 1) C 20 dX5_moveOldestToEnd_20 rfl ?_
      refine j_isub C 21 dX5_moveOldestToEnd_21 ?_
      refine j_aload_n C 22 0 rfl dX5_moveOldestToEnd_22 ?_
      refine g_Sp3 C 23 (Or.inl fl_X5_19) dX5_moveOldestToEnd_23 ?_
      refine j_iload_n C 26 2 rfl dX5_moveOldestToEnd_26 ?_
      refine j_bind (fun x27 h27 => ?_)
      refine j_aald C 27 rfl (at_sp (j := 1) (by decide)) h27 dX5_moveOldestToEnd_27 ?_
      refine j_bind (fun x28 h28 => ?_)
      refine t_Sv C 28 h28 dX5_moveOldestToEnd_28 ?_
      refine j_iinc (v := (s2 + 1)) (L1 := [(2, .int (s2 + 1)), (0, .ref (G.2.2 0)), (1, .ref (G.2.2 (6 + 2 * p1)))]) C 29 2 rfl dX5_moveOldestToEnd_29 rfl (by decide) rfl ?_
      refine j_goto C 32 9 dX5_moveOldestToEnd_32 (by decide) ?_
      refine j_L (L' := [(0, .ref (G.2.2 0)), (1, .ref (G.2.2 (6 + 2 * p1))), (2, .int (s2 + 1))]) [1, 2, 0] rfl ?_
      exact ih (sSp v (v.2.2.2.2.2.2.1, v.2.2.2.2.2.2.2.1, x28)) p1 (s2 + 1)
    · refine j_aload_n C 35 0 rfl dX5_moveOldestToEnd_35 ?_
      refine g_Sp3 C 36 (Or.inl fl_X5_19) dX5_moveOldestToEnd_36 ?_
      refine j_iconst (v := 5) C 39 dX5_moveOldestToEnd_39 rfl ?_
      refine j_aload_n C 40 1 rfl dX5_moveOldestToEnd_40 ?_
      refine j_bind (fun x41 h41 => ?_)
      refine t_Sv C 41 h41 dX5_moveOldestToEnd_41 ?_
      exact j_vret C 42 hr rfl rfl dX5_moveOldestToEnd_42
set_option maxRecDepth 100000 in
set_option maxHeartbeats 4000000 in
theorem w_X5_moveOldestToEnd {G : GG} {X : WX} {w : VW} (C : Cx G 3 X RX5 cX5_moveOldestToEnd 0) (hr : (xM X).sig.returnType = none) (v : VC) : JS G 3 X (QM G X (fun x : VC => none) (fun x : VC => ((x, w) : VA))) (f_X5_moveOldestToEnd v) (v, w) 0 [(0, .ref (G.2.2 0))] [] := by
  unfold f_X5_moveOldestToEnd
  refine j_aload_n C 0 0 rfl dX5_moveOldestToEnd_0 ?_
  refine g_Sp3 C 1 (Or.inl fl_X5_19) dX5_moveOldestToEnd_1 ?_
  refine j_iconst (v := 0) C 4 dX5_moveOldestToEnd_4 rfl ?_
  refine j_bind (fun x5 h5 => ?_)
  refine j_aald C 5 rfl (at_sp (j := 1) (by decide)) h5 dX5_moveOldestToEnd_5 ?_
  refine j_astore_n (L1 := [(1, .ref (G.2.2 (6 + 2 * x5))), (0, .ref (G.2.2 0))]) C 6 rfl dX5_moveOldestToEnd_6 (by decide) rfl ?_
  refine j_iconst (v := 1) C 7 dX5_moveOldestToEnd_7 rfl ?_
  refine j_istore_n (L1 := [(2, .int 1), (1, .ref (G.2.2 (6 + 2 * x5))), (0, .ref (G.2.2 0))]) C 8 rfl dX5_moveOldestToEnd_8 (by decide) rfl ?_
  refine j_L (L' := [(0, .ref (G.2.2 0)), (1, .ref (G.2.2 (6 + 2 * x5))), (2, .int 1)]) [2, 1, 0] rfl ?_
  exact wl_X5_moveOldestToEnd_9 C hr FU v x5 1
theorem c_X5_moveOldestToEnd {G : GG} {l : Launch} (hG : Gok G) {w : VW} (v : VC) {x : VC} (hf : f_X5_moveOldestToEnd v = some x) : Ct l yX5_moveOldestToEnd cX5_moveOldestToEnd 3 none 0 [.ref (G.2.2 0)] G (v, w) none (x, w) := by
  refine ct_of (rv := fun x : VC => none) (fin := fun x : VC => ((x, w) : VA)) (own := RX5) hG (plainFor_of_name (by decide)) rfl (Nat.le_of_ble_eq_true rfl) (fun X C hr _ => ?_) hf
  exact w_X5_moveOldestToEnd C hr v
set_option maxRecDepth 100000 in
set_option maxHeartbeats 4000000 in
theorem wb_X5_saveState_25 {G : GG} {X : WX} {w : VW} (C : Cx G 2 X RX5 cX5_saveState 4) (hr : (xM X).sig.returnType = none) (v : VC) : JS G 2 X (QM G X (fun x : VC => none) (fun x : VC => ((x, w) : VA))) (b_X5_saveState_25 v) (v, w) 25 [(0, .ref (G.2.2 0))] [] := by
  unfold b_X5_saveState_25
  refine j_aload_n C 25 0 rfl dX5_saveState_25 ?_
  refine g_Sp3 C 26 (Or.inl fl_X5_19) dX5_saveState_26 ?_
  refine j_aload_n C 29 0 rfl dX5_saveState_29 ?_
  refine g_Sp4 C 30 (Or.inl fl_X5_212) dX5_saveState_30 ?_
  refine j_bind (fun x33 h33 => ?_)
  refine j_aald C 33 rfl (at_sp (j := 1) (by decide)) h33 dX5_saveState_33 ?_
  refine j_astore_n (L1 := [(1, .ref (G.2.2 (6 + 2 * x33))), (0, .ref (G.2.2 0))]) C 34 rfl dX5_saveState_34 (by decide) rfl ?_
  refine j_aload_n C 35 0 rfl dX5_saveState_35 ?_
  refine j_ifnull C 36 dX5_saveState_36 ?_
  refine j_aload_n C 39 0 rfl dX5_saveState_39 ?_
  refine j_aload_n C 40 1 rfl dX5_saveState_40 ?_
  refine g_Sp0 C 41 (Or.inl fl_X5_12) dX5_saveState_41 ?_
  refine j_bind (fun x44 h44 => ?_)
  refine j_vSt_v (k := x33) (As := [.ref (G.2.2 (6 + 2 * 0))]) (st := []) C (rdp_in h33).2.2.2 k_X2_copyFrom 44 (c_X2_copyFrom C.2.2.2.2.2.2.1 (c := v) (k := x33) (rdp_in h33).2.2.2 _ rfl 0 (by decide) _ rfl (by have := (rdp_in h33).2.2; omega) h44) rfl rfl ml_X5_202 ii_X2_copyFrom is_X2_copyFrom dX5_saveState_44 (by decide) rfl (Nat.le_of_ble_eq_true rfl) ?_ rfl
  refine j_V (V' := ((sSt v x33 x44), w)) rfl ?_
  refine j_aload_n C 47 1 rfl dX5_saveState_47 ?_
  refine j_dup C 48 dX5_saveState_48 rfl ?_
  refine g_Sp4 C 49 (Or.inl fl_X5_212) dX5_saveState_49 ?_
  refine j_iconst (v := 1) C 52 dX5_saveState_52 rfl ?_
  refine j_iadd C 53 dX5_saveState_53 ?_
  refine p_Sp4 C 54 fl_X5_212 dX5_saveState_54 ?_
  exact j_vret C 57 hr rfl rfl dX5_saveState_57
set_option maxRecDepth 100000 in
set_option maxHeartbeats 4000000 in
theorem wb_X5_saveState_16 {G : GG} {X : WX} {w : VW} (C : Cx G 2 X RX5 cX5_saveState 4) (hr : (xM X).sig.returnType = none) (v : VC) : JS G 2 X (QM G X (fun x : VC => none) (fun x : VC => ((x, w) : VA))) (b_X5_saveState_16 v) (v, w) 16 [(0, .ref (G.2.2 0))] [] := by
  unfold b_X5_saveState_16
  refine j_aload_n C 16 0 rfl dX5_saveState_16 ?_
  refine j_bind (fun x17 h17 => ?_)
  refine j_vSp_v (As := []) (st := []) C k_X5_moveOldestToEnd 17 (c_X5_moveOldestToEnd C.2.2.2.2.2.2.1 _ h17) rfl rfl ml_X5_292 ii_X5_moveOldestToEnd is_X5_moveOldestToEnd dX5_saveState_17 (by decide) rfl (Nat.le_of_ble_eq_true rfl) ?_ rfl
  refine j_V (V' := (x17, w)) rfl ?_
  refine j_aload_n C 20 0 rfl dX5_saveState_20 ?_
  refine j_iconst (v := 5) C 21 dX5_saveState_21 rfl ?_
  refine p_Sp4 C 22 fl_X5_212 dX5_saveState_22 ?_
  exact wb_X5_saveState_25 C hr (sSp x17 (x17.2.2.2.2.2.2.1, 5, x17.2.2.2.2.2.2.2.2))
set_option maxRecDepth 100000 in
set_option maxHeartbeats 4000000 in
theorem w_X5_saveState {G : GG} {X : WX} {w : VW} (C : Cx G 2 X RX5 cX5_saveState 4) (hr : (xM X).sig.returnType = none) (v : VC) : JS G 2 X (QM G X (fun x : VC => none) (fun x : VC => ((x, w) : VA))) (f_X5_saveState v) (v, w) 0 [(0, .ref (G.2.2 0))] [] := by
  unfold f_X5_saveState
  refine j_aload_n C 0 0 rfl dX5_saveState_0 ?_
  refine g_Sp4 C 1 (Or.inl fl_X5_212) dX5_saveState_1 ?_
  refine j_if_lt C 4 16 dX5_saveState_4 (by decide) (fun c4 => ?_) (fun c4 => ?_)
  · exact wb_X5_saveState_16 C hr v
  · refine j_aload_n C 7 0 rfl dX5_saveState_7 ?_
    refine g_Sp4 C 8 (Or.inl fl_X5_212) dX5_saveState_8 ?_
    refine j_bipush (v := 6) C 11 dX5_saveState_11 rfl ?_
    refine j_icmp_lt C 13 25 dX5_saveState_13 (by decide) (fun c13 => ?_) (fun c13 => ?_)
    · exact wb_X5_saveState_25 C hr v
    · exact wb_X5_saveState_16 C hr v
theorem c_X5_saveState {G : GG} {l : Launch} (hG : Gok G) {w : VW} (v : VC) {x : VC} (hf : f_X5_saveState v = some x) : Ct l yX5_saveState cX5_saveState 2 none 4 [.ref (G.2.2 0)] G (v, w) none (x, w) := by
  refine ct_of (rv := fun x : VC => none) (fin := fun x : VC => ((x, w) : VA)) (own := RX5) hG (plainFor_of_name (by decide)) rfl (Nat.le_of_ble_eq_true rfl) (fun X C hr _ => ?_) hf
  exact w_X5_saveState C hr v
set_option maxRecDepth 100000 in
set_option maxHeartbeats 4000000 in
theorem w_X5_plug {G : GG} {X : WX} {sa : Nat → Nat} {w : VW} (C : Cx G 5 X RX5 cX5_plug 8) (hr : (xM X).sig.returnType = (some .int)) (T : Thr G sa X) (v : VC) (a1 : Int32) (a2 : Int32) (a3 : Int32) (a4 : Int32) : JS G 5 X (QX G X (fun x : ((Nat × VC) ⊕ (Int32 × VC)) => Sum.elim (fun n => .inl (n.1, ((n.2, w) : VA))) (fun r => .inr (some (.int r.1), ((r.2, w) : VA))) x)) (f_X5_plug v a1 a2 a3 a4) (v, w) 0 [(0, .ref (G.2.2 0)), (1, .int a1), (2, .int a2), (3, .int a3), (4, .int a4)] [] := by
  unfold f_X5_plug
  refine j_iload_n C 0 1 rfl dX5_plug_0 ?_
  refine j_bind (fun x1 h1 => ?_)
  refine j_callS_i (As := [.int a1]) (st := []) C k_X5_isSlot 1 (c_X5_isSlot C.2.2.2.2.2.2.1 (c := v) _ h1) rfl ml_X5_44 st_X5_isSlot dX5_plug_1 (by decide) rfl (Nat.le_of_ble_eq_true rfl) ?_ rfl
  refine j_if_ne C 4 17 dX5_plug_4 (by decide) (fun c4 => ?_) (fun c4 => ?_)
  · exact jx_throw (text := "no such slot") C T 1 7 (by decide) xk_1 xi_1 (by decide) xa_1 xo_1 dX5_plug_7 dX5_plug_10 dX5_plug_11 dX5_plug_13 dX5_plug_16 (Nat.le_of_ble_eq_true rfl) (by decide) rfl
  · refine j_iload_n C 17 2 rfl dX5_plug_17 ?_
    refine j_iconst (v := 1) C 18 dX5_plug_18 rfl ?_
    refine j_bipush (v := 12) C 19 dX5_plug_19 rfl ?_
    refine j_bind (fun x21 h21 => ?_)
    refine j_callS_i (As := [.int a2, .int 1, .int 12]) (st := []) C k_X5_isWithin 21 (c_X5_isWithin C.2.2.2.2.2.2.1 (c := v) _ _ _ h21) rfl ml_X5_55 st_X5_isWithin dX5_plug_21 (by decide) rfl (Nat.le_of_ble_eq_true rfl) ?_ rfl
    refine j_if_eq C 24 47 dX5_plug_24 (by decide) (fun c24 => ?_) (fun c24 => ?_)
    · exact jx_throw (text := "no such stick") C T 2 47 (by decide) xk_2 xi_2 (by decide) xa_2 xo_2 dX5_plug_47 dX5_plug_50 dX5_plug_51 dX5_plug_53 dX5_plug_56 (Nat.le_of_ble_eq_true rfl) (by decide) rfl
    · refine j_iload_n C 27 3 rfl dX5_plug_27 ?_
      refine j_iconst (v := 1) C 28 dX5_plug_28 rfl ?_
      refine j_iconst (v := 2) C 29 dX5_plug_29 rfl ?_
      refine j_bind (fun x30 h30 => ?_)
      refine j_callS_i (As := [.int a3, .int 1, .int 2]) (st := []) C k_X5_isWithin 30 (c_X5_isWithin C.2.2.2.2.2.2.1 (c := v) _ _ _ h30) rfl ml_X5_55 st_X5_isWithin dX5_plug_30 (by decide) rfl (Nat.le_of_ble_eq_true rfl) ?_ rfl
      refine j_if_eq C 33 47 dX5_plug_33 (by decide) (fun c33 => ?_) (fun c33 => ?_)
      · exact jx_throw (text := "no such stick") C T 2 47 (by decide) xk_2 xi_2 (by decide) xa_2 xo_2 dX5_plug_47 dX5_plug_50 dX5_plug_51 dX5_plug_53 dX5_plug_56 (Nat.le_of_ble_eq_true rfl) (by decide) rfl
      · refine j_iload C 36 4 rfl dX5_plug_36 ?_
        refine j_iconst (v := 1) C 38 dX5_plug_38 rfl ?_
        refine j_bipush (v := 9) C 39 dX5_plug_39 rfl ?_
        refine j_bind (fun x41 h41 => ?_)
        refine j_callS_i (As := [.int a4, .int 1, .int 9]) (st := []) C k_X5_isWithin 41 (c_X5_isWithin C.2.2.2.2.2.2.1 (c := v) _ _ _ h41) rfl ml_X5_55 st_X5_isWithin dX5_plug_41 (by decide) rfl (Nat.le_of_ble_eq_true rfl) ?_ rfl
        refine j_if_ne C 44 57 dX5_plug_44 (by decide) (fun c44 => ?_) (fun c44 => ?_)
        · exact jx_throw (text := "no such stick") C T 2 47 (by decide) xk_2 xi_2 (by decide) xa_2 xo_2 dX5_plug_47 dX5_plug_50 dX5_plug_51 dX5_plug_53 dX5_plug_56 (Nat.le_of_ble_eq_true rfl) (by decide) rfl
        · refine j_aload_n C 57 0 rfl dX5_plug_57 ?_
          refine g_Sp0 C 58 (Or.inl fl_X5_12) dX5_plug_58 ?_
          refine g_St0 (k := 0) C (by decide) 61 (Or.inr ⟨_, fl_X5_64⟩) dX5_plug_61 ?_
          refine j_iload_n C 64 1 rfl dX5_plug_64 ?_
          refine j_bind (fun x65 h65 => ?_)
          refine j_vSk_i (k := 0) (As := [.int a1]) (st := []) C (by decide) k_X3_isPlugged 65 (c_X3_isPlugged C.2.2.2.2.2.2.1 (c := v) (k := 0) (by decide) _ rfl _ h65) rfl rfl ml_X5_68 ii_X3_isPlugged is_X3_isPlugged dX5_plug_65 (by decide) rfl (Nat.le_of_ble_eq_true rfl) ?_ rfl
          refine j_if_eq C 68 81 dX5_plug_68 (by decide) (fun c68 => ?_) (fun c68 => ?_)
          · refine j_aload_n C 81 0 rfl dX5_plug_81 ?_
            refine j_bind (fun x82 h82 => ?_)
            refine j_vSp_v (As := []) (st := []) C k_X5_saveState 82 (c_X5_saveState C.2.2.2.2.2.2.1 _ h82) rfl rfl ml_X5_78 ii_X5_saveState is_X5_saveState dX5_plug_82 (by decide) rfl (Nat.le_of_ble_eq_true rfl) ?_ rfl
            refine j_V (V' := (x82, w)) rfl ?_
            refine j_aload_n C 85 0 rfl dX5_plug_85 ?_
            refine g_Sp0 C 86 (Or.inl fl_X5_12) dX5_plug_86 ?_
            refine g_St0 (k := 0) C (by decide) 89 (Or.inr ⟨_, fl_X5_64⟩) dX5_plug_89 ?_
            refine j_iload_n C 92 1 rfl dX5_plug_92 ?_
            refine j_iload_n C 93 2 rfl dX5_plug_93 ?_
            refine j_iload_n C 94 3 rfl dX5_plug_94 ?_
            refine j_iload C 95 4 rfl dX5_plug_95 ?_
            refine j_bind (fun x97 h97 => ?_)
            refine j_vSk_v (k := 0) (As := [.int a1, .int a2, .int a3, .int a4]) (st := []) C (by decide) k_X3_put 97 (c_X3_put C.2.2.2.2.2.2.1 (c := x82) (k := 0) (by decide) _ rfl _ _ _ _ h97) rfl rfl ml_X5_81 ii_X3_put is_X3_put dX5_plug_97 (by decide) rfl (Nat.le_of_ble_eq_true rfl) ?_ rfl
            refine j_V (V' := ((sSk x82 0 x97), w)) rfl ?_
            refine j_aload_n C 100 0 rfl dX5_plug_100 ?_
            refine g_Sp0 C 101 (Or.inl fl_X5_12) dX5_plug_101 ?_
            refine g_St2 (k := 0) C (by decide) 104 (Or.inr ⟨_, fl_X5_85⟩) dX5_plug_104 ?_
            refine j_iload_n C 107 1 rfl dX5_plug_107 ?_
            refine j_bind (fun x108 h108 => ?_)
            refine j_vCk_v (k := 0) (As := [.int a1]) (st := []) C (by decide) k_X0_freeSlot 108 (c_X0_freeSlot C.2.2.2.2.2.2.1 (c := (sSk x82 0 x97)) (k := 0) (by decide) _ rfl _ h108) rfl rfl ml_X5_88 ii_X0_freeSlot is_X0_freeSlot dX5_plug_108 (by decide) rfl (Nat.le_of_ble_eq_true rfl) ?_ rfl
            refine j_V (V' := ((sCk (sSk x82 0 x97) 0 x108), w)) rfl ?_
            refine j_aload_n C 111 0 rfl dX5_plug_111 ?_
            refine g_Sp0 C 112 (Or.inl fl_X5_12) dX5_plug_112 ?_
            refine g_St0 (k := 0) C (by decide) 115 (Or.inr ⟨_, fl_X5_64⟩) dX5_plug_115 ?_
            refine j_bind (fun x118 h118 => ?_)
            refine j_vSk_i (k := 0) (As := []) (st := []) C (by decide) k_X3_pluggedOnes 118 (c_X3_pluggedOnes C.2.2.2.2.2.2.1 (c := (sCk (sSk x82 0 x97) 0 x108)) (k := 0) (by decide) _ rfl h118) rfl rfl ml_X5_92 ii_X3_pluggedOnes is_X3_pluggedOnes dX5_plug_118 (by decide) rfl (Nat.le_of_ble_eq_true rfl) ?_ rfl
            exact jx_iret C T 121 hr rfl dX5_plug_121
          · exact jx_throw (text := "there is a stick in the slot") C T 3 71 (by decide) xk_3 xi_3 (by decide) xa_3 xo_3 dX5_plug_71 dX5_plug_74 dX5_plug_75 dX5_plug_77 dX5_plug_80 (Nat.le_of_ble_eq_true rfl) (by decide) rfl
theorem c_X5_plug {G : GG} {l : Launch} {sa : Nat → Nat} (hG : Gok G) (hl : l.stackTraces = false) {w : VW} (v : VC) (a1 : Int32) (a2 : Int32) (a3 : Int32) (a4 : Int32) {x : ((Nat × VC) ⊕ (Int32 × VC))} (hf : f_X5_plug v a1 a2 a3 a4 = some x) : CtX l yX5_plug cX5_plug 5 (some .int) 8 [.ref (G.2.2 0), .int a1, .int a2, .int a3, .int a4] G sa (v, w) ((fun x : ((Nat × VC) ⊕ (Int32 × VC)) => Sum.elim (fun n => .inl (n.1, ((n.2, w) : VA))) (fun r => .inr (some (.int r.1), ((r.2, w) : VA))) x) x) := by
  refine ctx_of (y := yX5_plug) (as := [.ref (G.2.2 0), .int a1, .int a2, .int a3, .int a4]) (nL := 5) (V := (v, w)) (x := x) (fX := (fun x : ((Nat × VC) ⊕ (Int32 × VC)) => Sum.elim (fun n => .inl (n.1, ((n.2, w) : VA))) (fun r => .inr (some (.int r.1), ((r.2, w) : VA))) x)) (own := RX5) hG hl (by decide) rfl (Nat.le_of_ble_eq_true rfl) (fun X C hr T => ?_) hf
  exact w_X5_plug C hr T v a1 a2 a3 a4
set_option maxRecDepth 100000 in
set_option maxHeartbeats 4000000 in
theorem w_X5_pull {G : GG} {X : WX} {sa : Nat → Nat} {w : VW} (C : Cx G 3 X RX5 cX5_pull 8) (hr : (xM X).sig.returnType = (some .int)) (T : Thr G sa X) (v : VC) (a1 : Int32) : JS G 3 X (QX G X (fun x : ((Nat × VC) ⊕ (Int32 × VC)) => Sum.elim (fun n => .inl (n.1, ((n.2, w) : VA))) (fun r => .inr (some (.int r.1), ((r.2, w) : VA))) x)) (f_X5_pull v a1) (v, w) 0 [(0, .ref (G.2.2 0)), (1, .int a1)] [] := by
  unfold f_X5_pull
  refine j_iload_n C 0 1 rfl dX5_pull_0 ?_
  refine j_bind (fun x1 h1 => ?_)
  refine j_callS_i (As := [.int a1]) (st := []) C k_X5_isSlot 1 (c_X5_isSlot C.2.2.2.2.2.2.1 (c := v) _ h1) rfl ml_X5_44 st_X5_isSlot dX5_pull_1 (by decide) rfl (Nat.le_of_ble_eq_true rfl) ?_ rfl
  refine j_if_ne C 4 17 dX5_pull_4 (by decide) (fun c4 => ?_) (fun c4 => ?_)
  · exact jx_throw (text := "no such slot") C T 1 7 (by decide) xk_1 xi_1 (by decide) xa_1 xo_1 dX5_pull_7 dX5_pull_10 dX5_pull_11 dX5_pull_13 dX5_pull_16 (Nat.le_of_ble_eq_true rfl) (by decide) rfl
  · refine j_aload_n C 17 0 rfl dX5_pull_17 ?_
    refine g_Sp0 C 18 (Or.inl fl_X5_12) dX5_pull_18 ?_
    refine g_St0 (k := 0) C (by decide) 21 (Or.inr ⟨_, fl_X5_64⟩) dX5_pull_21 ?_
    refine j_iload_n C 24 1 rfl dX5_pull_24 ?_
    refine j_bind (fun x25 h25 => ?_)
    refine j_vSk_i (k := 0) (As := [.int a1]) (st := []) C (by decide) k_X3_isPlugged 25 (c_X3_isPlugged C.2.2.2.2.2.2.1 (c := v) (k := 0) (by decide) _ rfl _ h25) rfl rfl ml_X5_68 ii_X3_isPlugged is_X3_isPlugged dX5_pull_25 (by decide) rfl (Nat.le_of_ble_eq_true rfl) ?_ rfl
    refine j_if_ne C 28 41 dX5_pull_28 (by decide) (fun c28 => ?_) (fun c28 => ?_)
    · exact jx_throw (text := "there is no stick in the slot") C T 3 31 (by decide) xk_3 xi_3 (by decide) xa_3 xo_3 dX5_pull_31 dX5_pull_34 dX5_pull_35 dX5_pull_37 dX5_pull_40 (Nat.le_of_ble_eq_true rfl) (by decide) rfl
    · refine j_aload_n C 41 0 rfl dX5_pull_41 ?_
      refine j_bind (fun x42 h42 => ?_)
      refine j_vSp_v (As := []) (st := []) C k_X5_saveState 42 (c_X5_saveState C.2.2.2.2.2.2.1 _ h42) rfl rfl ml_X5_78 ii_X5_saveState is_X5_saveState dX5_pull_42 (by decide) rfl (Nat.le_of_ble_eq_true rfl) ?_ rfl
      refine j_V (V' := (x42, w)) rfl ?_
      refine j_aload_n C 45 0 rfl dX5_pull_45 ?_
      refine g_Sp0 C 46 (Or.inl fl_X5_12) dX5_pull_46 ?_
      refine j_iload_n C 49 1 rfl dX5_pull_49 ?_
      refine j_bind (fun x50 h50 => ?_)
      refine j_vSt_i (k := 0) (As := [.int a1]) (st := []) C (by decide) k_X2_usedPlaces 50 (c_X2_usedPlaces C.2.2.2.2.2.2.1 (c := x42) (k := 0) (by decide) _ rfl _ h50) rfl rfl ml_X5_98 ii_X2_usedPlaces is_X2_usedPlaces dX5_pull_50 (by decide) rfl (Nat.le_of_ble_eq_true rfl) ?_ rfl
      refine j_istore_n (L1 := [(2, .int x50), (0, .ref (G.2.2 0)), (1, .int a1)]) C 53 rfl dX5_pull_53 (by decide) rfl ?_
      refine j_aload_n C 54 1 rfl dX5_pull_54 ?_
      refine g_Sp0 C 55 (Or.inl fl_X5_12) dX5_pull_55 ?_
      refine g_St0 (k := 0) C (by decide) 58 (Or.inr ⟨_, fl_X5_64⟩) dX5_pull_58 ?_
      refine j_iload_n C 61 2 rfl dX5_pull_61 ?_
      refine j_bind (fun x62 h62 => ?_)
      refine j_vSk_v (k := 0) (As := [.int a1]) (st := []) C (by decide) k_X3_take 62 (c_X3_take C.2.2.2.2.2.2.1 (c := x42) (k := 0) (by decide) _ rfl _ h62) rfl rfl ml_X5_102 ii_X3_take is_X3_take dX5_pull_62 (by decide) rfl (Nat.le_of_ble_eq_true rfl) ?_ rfl
      refine j_V (V' := ((sSk x42 0 x62), w)) rfl ?_
      refine j_iload_n C 65 0 rfl dX5_pull_65 ?_
      exact jx_iret C T 66 hr rfl dX5_pull_66
theorem c_X5_pull {G : GG} {l : Launch} {sa : Nat → Nat} (hG : Gok G) (hl : l.stackTraces = false) {w : VW} (v : VC) (a1 : Int32) {x : ((Nat × VC) ⊕ (Int32 × VC))} (hf : f_X5_pull v a1 = some x) : CtX l yX5_pull cX5_pull 3 (some .int) 8 [.ref (G.2.2 0), .int a1] G sa (v, w) ((fun x : ((Nat × VC) ⊕ (Int32 × VC)) => Sum.elim (fun n => .inl (n.1, ((n.2, w) : VA))) (fun r => .inr (some (.int r.1), ((r.2, w) : VA))) x) x) := by
  refine ctx_of (y := yX5_pull) (as := [.ref (G.2.2 0), .int a1]) (nL := 3) (V := (v, w)) (x := x) (fX := (fun x : ((Nat × VC) ⊕ (Int32 × VC)) => Sum.elim (fun n => .inl (n.1, ((n.2, w) : VA))) (fun r => .inr (some (.int r.1), ((r.2, w) : VA))) x)) (own := RX5) hG hl (by decide) rfl (Nat.le_of_ble_eq_true rfl) (fun X C hr T => ?_) hf
  exact w_X5_pull C hr T v a1
set_option maxRecDepth 100000 in
set_option maxHeartbeats 4000000 in
theorem w_X5_fail {G : GG} {X : WX} {sa : Nat → Nat} {w : VW} (C : Cx G 3 X RX5 cX5_fail 8) (hr : (xM X).sig.returnType = (some .int)) (T : Thr G sa X) (v : VC) (a1 : Int32) : JS G 3 X (QX G X (fun x : ((Nat × VC) ⊕ (Int32 × VC)) => Sum.elim (fun n => .inl (n.1, ((n.2, w) : VA))) (fun r => .inr (some (.int r.1), ((r.2, w) : VA))) x)) (f_X5_fail v a1) (v, w) 0 [(0, .ref (G.2.2 0)), (1, .int a1)] [] := by
  unfold f_X5_fail
  refine j_iload_n C 0 1 rfl dX5_fail_0 ?_
  refine j_bind (fun x1 h1 => ?_)
  refine j_callS_i (As := [.int a1]) (st := []) C k_X5_isSlot 1 (c_X5_isSlot C.2.2.2.2.2.2.1 (c := v) _ h1) rfl ml_X5_44 st_X5_isSlot dX5_fail_1 (by decide) rfl (Nat.le_of_ble_eq_true rfl) ?_ rfl
  refine j_if_ne C 4 17 dX5_fail_4 (by decide) (fun c4 => ?_) (fun c4 => ?_)
  · exact jx_throw (text := "no such slot") C T 1 7 (by decide) xk_1 xi_1 (by decide) xa_1 xo_1 dX5_fail_7 dX5_fail_10 dX5_fail_11 dX5_fail_13 dX5_fail_16 (Nat.le_of_ble_eq_true rfl) (by decide) rfl
  · refine j_aload_n C 17 0 rfl dX5_fail_17 ?_
    refine g_Sp0 C 18 (Or.inl fl_X5_12) dX5_fail_18 ?_
    refine g_St0 (k := 0) C (by decide) 21 (Or.inr ⟨_, fl_X5_64⟩) dX5_fail_21 ?_
    refine j_iload_n C 24 1 rfl dX5_fail_24 ?_
    refine j_bind (fun x25 h25 => ?_)
    refine j_vSk_i (k := 0) (As := [.int a1]) (st := []) C (by decide) k_X3_isGood 25 (c_X3_isGood C.2.2.2.2.2.2.1 (c := v) (k := 0) (by decide) _ rfl _ h25) rfl rfl ml_X5_105 ii_X3_isGood is_X3_isGood dX5_fail_25 (by decide) rfl (Nat.le_of_ble_eq_true rfl) ?_ rfl
    refine j_if_ne C 28 41 dX5_fail_28 (by decide) (fun c28 => ?_) (fun c28 => ?_)
    · exact jx_throw (text := "there is no stick that could fail") C T 3 31 (by decide) xk_3 xi_3 (by decide) xa_3 xo_3 dX5_fail_31 dX5_fail_34 dX5_fail_35 dX5_fail_37 dX5_fail_40 (Nat.le_of_ble_eq_true rfl) (by decide) rfl
    · refine j_aload_n C 41 0 rfl dX5_fail_41 ?_
      refine j_bind (fun x42 h42 => ?_)
      refine j_vSp_v (As := []) (st := []) C k_X5_saveState 42 (c_X5_saveState C.2.2.2.2.2.2.1 _ h42) rfl rfl ml_X5_78 ii_X5_saveState is_X5_saveState dX5_fail_42 (by decide) rfl (Nat.le_of_ble_eq_true rfl) ?_ rfl
      refine j_V (V' := (x42, w)) rfl ?_
      refine j_aload_n C 45 0 rfl dX5_fail_45 ?_
      refine g_Sp0 C 46 (Or.inl fl_X5_12) dX5_fail_46 ?_
      refine j_iload_n C 49 1 rfl dX5_fail_49 ?_
      refine j_bind (fun x50 h50 => ?_)
      refine j_vSt_i (k := 0) (As := [.int a1]) (st := []) C (by decide) k_X2_usedPlaces 50 (c_X2_usedPlaces C.2.2.2.2.2.2.1 (c := x42) (k := 0) (by decide) _ rfl _ h50) rfl rfl ml_X5_98 ii_X2_usedPlaces is_X2_usedPlaces dX5_fail_50 (by decide) rfl (Nat.le_of_ble_eq_true rfl) ?_ rfl
      refine j_istore_n (L1 := [(2, .int x50), (0, .ref (G.2.2 0)), (1, .int a1)]) C 53 rfl dX5_fail_53 (by decide) rfl ?_
      refine j_aload_n C 54 1 rfl dX5_fail_54 ?_
      refine g_Sp0 C 55 (Or.inl fl_X5_12) dX5_fail_55 ?_
      refine g_St0 (k := 0) C (by decide) 58 (Or.inr ⟨_, fl_X5_64⟩) dX5_fail_58 ?_
      refine j_iload_n C 61 2 rfl dX5_fail_61 ?_
      refine j_bind (fun x62 h62 => ?_)
      refine j_vSk_v (k := 0) (As := [.int a1]) (st := []) C (by decide) k_X3_spoil 62 (c_X3_spoil C.2.2.2.2.2.2.1 (c := x42) (k := 0) (by decide) _ rfl _ h62) rfl rfl ml_X5_110 ii_X3_spoil is_X3_spoil dX5_fail_62 (by decide) rfl (Nat.le_of_ble_eq_true rfl) ?_ rfl
      refine j_V (V' := ((sSk x42 0 x62), w)) rfl ?_
      refine j_iload_n C 65 0 rfl dX5_fail_65 ?_
      exact jx_iret C T 66 hr rfl dX5_fail_66
theorem c_X5_fail {G : GG} {l : Launch} {sa : Nat → Nat} (hG : Gok G) (hl : l.stackTraces = false) {w : VW} (v : VC) (a1 : Int32) {x : ((Nat × VC) ⊕ (Int32 × VC))} (hf : f_X5_fail v a1 = some x) : CtX l yX5_fail cX5_fail 3 (some .int) 8 [.ref (G.2.2 0), .int a1] G sa (v, w) ((fun x : ((Nat × VC) ⊕ (Int32 × VC)) => Sum.elim (fun n => .inl (n.1, ((n.2, w) : VA))) (fun r => .inr (some (.int r.1), ((r.2, w) : VA))) x) x) := by
  refine ctx_of (y := yX5_fail) (as := [.ref (G.2.2 0), .int a1]) (nL := 3) (V := (v, w)) (x := x) (fX := (fun x : ((Nat × VC) ⊕ (Int32 × VC)) => Sum.elim (fun n => .inl (n.1, ((n.2, w) : VA))) (fun r => .inr (some (.int r.1), ((r.2, w) : VA))) x)) (own := RX5) hG hl (by decide) rfl (Nat.le_of_ble_eq_true rfl) (fun X C hr T => ?_) hf
  exact w_X5_fail C hr T v a1
set_option maxRecDepth 100000 in
set_option maxHeartbeats 4000000 in
theorem w_X5_start {G : GG} {X : WX} {sa : Nat → Nat} {w : VW} (C : Cx G 1 X RX5 cX5_start 8) (hr : (xM X).sig.returnType = (some .int)) (T : Thr G sa X) (v : VC) : JS G 1 X (QX G X (fun x : ((Nat × VC) ⊕ (Int32 × VC)) => Sum.elim (fun n => .inl (n.1, ((n.2, w) : VA))) (fun r => .inr (some (.int r.1), ((r.2, w) : VA))) x)) (f_X5_start v) (v, w) 0 [(0, .ref (G.2.2 0))] [] := by
  unfold f_X5_start
  refine j_aload_n C 0 0 rfl dX5_start_0 ?_
  refine g_Sp0 C 1 (Or.inl fl_X5_12) dX5_start_1 ?_
  refine g_St0 (k := 0) C (by decide) 4 (Or.inr ⟨_, fl_X5_64⟩) dX5_start_4 ?_
  refine j_aload_n C 7 0 rfl dX5_start_7 ?_
  refine g_Sp0 C 8 (Or.inl fl_X5_12) dX5_start_8 ?_
  refine g_St4 (k := 0) (c0 := v) C (by decide) rfl 11 (Or.inr ⟨_, fl_X5_113⟩) dX5_start_11 ?_
  refine j_bind (fun x14 h14 => ?_)
  refine j_vSk_i (k := 0) (As := [.int (v.2.2.2.2.1 0).1]) (st := []) C (by decide) k_X3_hindrance 14 (c_X3_hindrance C.2.2.2.2.2.2.1 (c := v) (k := 0) (by decide) _ rfl _ h14) rfl rfl ml_X5_117 ii_X3_hindrance is_X3_hindrance dX5_start_14 (by decide) rfl (Nat.le_of_ble_eq_true rfl) ?_ rfl
  refine j_if_eq C 17 30 dX5_start_17 (by decide) (fun c17 => ?_) (fun c17 => ?_)
  · refine j_aload_n C 30 0 rfl dX5_start_30 ?_
    refine j_bind (fun x31 h31 => ?_)
    refine j_vSp_v (As := []) (st := []) C k_X5_saveState 31 (c_X5_saveState C.2.2.2.2.2.2.1 _ h31) rfl rfl ml_X5_78 ii_X5_saveState is_X5_saveState dX5_start_31 (by decide) rfl (Nat.le_of_ble_eq_true rfl) ?_ rfl
    refine j_V (V' := (x31, w)) rfl ?_
    refine j_aload_n C 34 0 rfl dX5_start_34 ?_
    refine g_Sp0 C 35 (Or.inl fl_X5_12) dX5_start_35 ?_
    refine j_bind (fun x38 h38 => ?_)
    refine j_vSt_v (k := 0) (As := []) (st := []) C (by decide) k_X2_begin 38 (c_X2_begin C.2.2.2.2.2.2.1 (c := x31) (k := 0) (by decide) _ rfl h38) rfl rfl ml_X5_122 ii_X2_begin is_X2_begin dX5_start_38 (by decide) rfl (Nat.le_of_ble_eq_true rfl) ?_ rfl
    refine j_V (V' := ((sSt x31 0 x38), w)) rfl ?_
    refine j_aload_n C 41 0 rfl dX5_start_41 ?_
    refine g_Sp0 C 42 (Or.inl fl_X5_12) dX5_start_42 ?_
    refine g_St1 (k := 0) C (by decide) 45 (Or.inr ⟨_, fl_X5_125⟩) dX5_start_45 ?_
    refine g_Ly5 (k := 0) (c0 := (sSt x31 0 x38)) C (by decide) rfl 48 (Or.inr ⟨_, fl_X5_128⟩) dX5_start_48 ?_
    exact jx_iret C T 51 hr rfl dX5_start_51
  · exact jx_throw (text := "the machine does not start") C T 3 20 (by decide) xk_3 xi_3 (by decide) xa_3 xo_3 dX5_start_20 dX5_start_23 dX5_start_24 dX5_start_26 dX5_start_29 (Nat.le_of_ble_eq_true rfl) (by decide) rfl
theorem c_X5_start {G : GG} {l : Launch} {sa : Nat → Nat} (hG : Gok G) (hl : l.stackTraces = false) {w : VW} (v : VC) {x : ((Nat × VC) ⊕ (Int32 × VC))} (hf : f_X5_start v = some x) : CtX l yX5_start cX5_start 1 (some .int) 8 [.ref (G.2.2 0)] G sa (v, w) ((fun x : ((Nat × VC) ⊕ (Int32 × VC)) => Sum.elim (fun n => .inl (n.1, ((n.2, w) : VA))) (fun r => .inr (some (.int r.1), ((r.2, w) : VA))) x) x) := by
  refine ctx_of (y := yX5_start) (as := [.ref (G.2.2 0)]) (nL := 1) (V := (v, w)) (x := x) (fX := (fun x : ((Nat × VC) ⊕ (Int32 × VC)) => Sum.elim (fun n => .inl (n.1, ((n.2, w) : VA))) (fun r => .inr (some (.int r.1), ((r.2, w) : VA))) x)) (own := RX5) hG hl (by decide) rfl (Nat.le_of_ble_eq_true rfl) (fun X C hr T => ?_) hf
  exact w_X5_start C hr T v
set_option maxRecDepth 100000 in
set_option maxHeartbeats 4000000 in
theorem w_X5_stop {G : GG} {X : WX} {sa : Nat → Nat} {w : VW} (C : Cx G 2 X RX5 cX5_stop 8) (hr : (xM X).sig.returnType = (some .int)) (T : Thr G sa X) (v : VC) : JS G 2 X (QX G X (fun x : ((Nat × VC) ⊕ (Int32 × VC)) => Sum.elim (fun n => .inl (n.1, ((n.2, w) : VA))) (fun r => .inr (some (.int r.1), ((r.2, w) : VA))) x)) (f_X5_stop v) (v, w) 0 [(0, .ref (G.2.2 0))] [] := by
  unfold f_X5_stop
  refine j_aload_n C 0 0 rfl dX5_stop_0 ?_
  refine g_Sp0 C 1 (Or.inl fl_X5_12) dX5_stop_1 ?_
  refine g_St1 (k := 0) C (by decide) 4 (Or.inr ⟨_, fl_X5_125⟩) dX5_stop_4 ?_
  refine j_bind (fun x7 h7 => ?_)
  refine j_vLy_i (k := 0) (As := []) (st := []) C (by decide) k_X1_isLaid 7 (c_X1_isLaid C.2.2.2.2.2.2.1 (c := v) (k := 0) (by decide) _ rfl h7) rfl rfl ml_X5_131 ii_X1_isLaid is_X1_isLaid dX5_stop_7 (by decide) rfl (Nat.le_of_ble_eq_true rfl) ?_ rfl
  refine j_if_ne C 10 23 dX5_stop_10 (by decide) (fun c10 => ?_) (fun c10 => ?_)
  · exact jx_throw (text := "the machine has not started") C T 3 13 (by decide) xk_3 xi_3 (by decide) xa_3 xo_3 dX5_stop_13 dX5_stop_16 dX5_stop_17 dX5_stop_19 dX5_stop_22 (Nat.le_of_ble_eq_true rfl) (by decide) rfl
  · refine j_aload_n C 23 0 rfl dX5_stop_23 ?_
    refine j_bind (fun x24 h24 => ?_)
    refine j_vSp_v (As := []) (st := []) C k_X5_saveState 24 (c_X5_saveState C.2.2.2.2.2.2.1 _ h24) rfl rfl ml_X5_78 ii_X5_saveState is_X5_saveState dX5_stop_24 (by decide) rfl (Nat.le_of_ble_eq_true rfl) ?_ rfl
    refine j_V (V' := (x24, w)) rfl ?_
    refine j_aload_n C 27 0 rfl dX5_stop_27 ?_
    refine g_Sp0 C 28 (Or.inl fl_X5_12) dX5_stop_28 ?_
    refine g_St1 (k := 0) C (by decide) 31 (Or.inr ⟨_, fl_X5_125⟩) dX5_stop_31 ?_
    refine g_Ly5 (k := 0) (c0 := x24) C (by decide) rfl 34 (Or.inr ⟨_, fl_X5_128⟩) dX5_stop_34 ?_
    refine j_istore_n (L1 := [(1, .int (x24.2.1 0).2.2.2.2.2.1), (0, .ref (G.2.2 0))]) C 37 rfl dX5_stop_37 (by decide) rfl ?_
    refine j_aload_n C 38 1 rfl dX5_stop_38 ?_
    refine g_Sp0 C 39 (Or.inl fl_X5_12) dX5_stop_39 ?_
    refine j_bind (fun x42 h42 => ?_)
    refine j_vSt_v (k := 0) (As := []) (st := []) C (by decide) k_X2_end 42 (c_X2_end C.2.2.2.2.2.2.1 (c := x24) (k := 0) (by decide) _ rfl h42) rfl rfl ml_X5_137 ii_X2_end is_X2_end dX5_stop_42 (by decide) rfl (Nat.le_of_ble_eq_true rfl) ?_ rfl
    refine j_V (V' := ((sSt x24 0 x42), w)) rfl ?_
    refine j_iload_n C 45 0 rfl dX5_stop_45 ?_
    exact jx_iret C T 46 hr rfl dX5_stop_46
theorem c_X5_stop {G : GG} {l : Launch} {sa : Nat → Nat} (hG : Gok G) (hl : l.stackTraces = false) {w : VW} (v : VC) {x : ((Nat × VC) ⊕ (Int32 × VC))} (hf : f_X5_stop v = some x) : CtX l yX5_stop cX5_stop 2 (some .int) 8 [.ref (G.2.2 0)] G sa (v, w) ((fun x : ((Nat × VC) ⊕ (Int32 × VC)) => Sum.elim (fun n => .inl (n.1, ((n.2, w) : VA))) (fun r => .inr (some (.int r.1), ((r.2, w) : VA))) x) x) := by
  refine ctx_of (y := yX5_stop) (as := [.ref (G.2.2 0)]) (nL := 2) (V := (v, w)) (x := x) (fX := (fun x : ((Nat × VC) ⊕ (Int32 × VC)) => Sum.elim (fun n => .inl (n.1, ((n.2, w) : VA))) (fun r => .inr (some (.int r.1), ((r.2, w) : VA))) x)) (own := RX5) hG hl (by decide) rfl (Nat.le_of_ble_eq_true rfl) (fun X C hr T => ?_) hf
  exact w_X5_stop C hr T v
set_option maxRecDepth 100000 in
set_option maxHeartbeats 4000000 in
theorem w_X5_write {G : GG} {X : WX} {sa : Nat → Nat} {w : VW} (C : Cx G 3 X RX5 cX5_write 8) (hr : (xM X).sig.returnType = (some .int)) (T : Thr G sa X) (v : VC) (a1 : Int32) (a2 : Int32) : JS G 3 X (QX G X (fun x : ((Nat × VC) ⊕ (Int32 × VC)) => Sum.elim (fun n => .inl (n.1, ((n.2, w) : VA))) (fun r => .inr (some (.int r.1), ((r.2, w) : VA))) x)) (f_X5_write v a1 a2) (v, w) 0 [(0, .ref (G.2.2 0)), (1, .int a1), (2, .int a2)] [] := by
  unfold f_X5_write
  refine j_aload_n C 0 0 rfl dX5_write_0 ?_
  refine g_Sp0 C 1 (Or.inl fl_X5_12) dX5_write_1 ?_
  refine j_iload_n C 4 1 rfl dX5_write_4 ?_
  refine j_bind (fun x5 h5 => ?_)
  refine j_vSt_i (k := 0) (As := [.int a1]) (st := []) C (by decide) k_X2_hasBlock 5 (c_X2_hasBlock C.2.2.2.2.2.2.1 (c := v) (k := 0) (by decide) _ rfl _ h5) rfl rfl ml_X5_140 ii_X2_hasBlock is_X2_hasBlock dX5_write_5 (by decide) rfl (Nat.le_of_ble_eq_true rfl) ?_ rfl
  refine j_if_ne C 8 21 dX5_write_8 (by decide) (fun c8 => ?_) (fun c8 => ?_)
  · exact jx_throw (text := "no such block in the map") C T 1 11 (by decide) xk_1 xi_1 (by decide) xa_1 xo_1 dX5_write_11 dX5_write_14 dX5_write_15 dX5_write_17 dX5_write_20 (Nat.le_of_ble_eq_true rfl) (by decide) rfl
  · refine j_iload_n C 21 2 rfl dX5_write_21 ?_
    refine j_iconst (v := 0) C 22 dX5_write_22 rfl ?_
    refine j_bipush (v := 99) C 23 dX5_write_23 rfl ?_
    refine j_bind (fun x25 h25 => ?_)
    refine j_callS_i (As := [.int a2, .int 0, .int 99]) (st := []) C k_X5_isWithin 25 (c_X5_isWithin C.2.2.2.2.2.2.1 (c := v) _ _ _ h25) rfl ml_X5_55 st_X5_isWithin dX5_write_25 (by decide) rfl (Nat.le_of_ble_eq_true rfl) ?_ rfl
    refine j_if_ne C 28 41 dX5_write_28 (by decide) (fun c28 => ?_) (fun c28 => ?_)
    · exact jx_throw (text := "no such value") C T 2 31 (by decide) xk_2 xi_2 (by decide) xa_2 xo_2 dX5_write_31 dX5_write_34 dX5_write_35 dX5_write_37 dX5_write_40 (Nat.le_of_ble_eq_true rfl) (by decide) rfl
    · refine j_aload_n C 41 0 rfl dX5_write_41 ?_
      refine g_Sp0 C 42 (Or.inl fl_X5_12) dX5_write_42 ?_
      refine j_iload_n C 45 1 rfl dX5_write_45 ?_
      refine j_bind (fun x46 h46 => ?_)
      refine j_vSt_i (k := 0) (As := [.int a1]) (st := []) C (by decide) k_X2_canRead 46 (c_X2_canRead C.2.2.2.2.2.2.1 (c := v) (k := 0) (by decide) _ rfl _ h46) rfl rfl ml_X5_147 ii_X2_canRead is_X2_canRead dX5_write_46 (by decide) rfl (Nat.le_of_ble_eq_true rfl) ?_ rfl
      refine j_if_ne C 49 62 dX5_write_49 (by decide) (fun c49 => ?_) (fun c49 => ?_)
      · exact jx_throw (text := "no stick is left for the block") C T 3 52 (by decide) xk_3 xi_3 (by decide) xa_3 xo_3 dX5_write_52 dX5_write_55 dX5_write_56 dX5_write_58 dX5_write_61 (Nat.le_of_ble_eq_true rfl) (by decide) rfl
      · refine j_aload_n C 62 0 rfl dX5_write_62 ?_
        refine j_bind (fun x63 h63 => ?_)
        refine j_vSp_v (As := []) (st := []) C k_X5_saveState 63 (c_X5_saveState C.2.2.2.2.2.2.1 _ h63) rfl rfl ml_X5_78 ii_X5_saveState is_X5_saveState dX5_write_63 (by decide) rfl (Nat.le_of_ble_eq_true rfl) ?_ rfl
        refine j_V (V' := (x63, w)) rfl ?_
        refine j_aload_n C 66 0 rfl dX5_write_66 ?_
        refine g_Sp0 C 67 (Or.inl fl_X5_12) dX5_write_67 ?_
        refine j_iload_n C 70 1 rfl dX5_write_70 ?_
        refine j_iload_n C 71 2 rfl dX5_write_71 ?_
        refine j_bind (fun x72 h72 => ?_)
        refine j_vSt_i (k := 0) (As := [.int a1, .int a2]) (st := []) C (by decide) k_X2_exchange 72 (c_X2_exchange C.2.2.2.2.2.2.1 (c := x63) (k := 0) (by decide) _ rfl _ _ h72) rfl rfl ml_X5_152 ii_X2_exchange is_X2_exchange dX5_write_72 (by decide) rfl (Nat.le_of_ble_eq_true rfl) ?_ rfl
        refine j_V (V' := ((sSt x63 0 x72.2), w)) rfl ?_
        exact jx_iret C T 75 hr rfl dX5_write_75
theorem c_X5_write {G : GG} {l : Launch} {sa : Nat → Nat} (hG : Gok G) (hl : l.stackTraces = false) {w : VW} (v : VC) (a1 : Int32) (a2 : Int32) {x : ((Nat × VC) ⊕ (Int32 × VC))} (hf : f_X5_write v a1 a2 = some x) : CtX l yX5_write cX5_write 3 (some .int) 8 [.ref (G.2.2 0), .int a1, .int a2] G sa (v, w) ((fun x : ((Nat × VC) ⊕ (Int32 × VC)) => Sum.elim (fun n => .inl (n.1, ((n.2, w) : VA))) (fun r => .inr (some (.int r.1), ((r.2, w) : VA))) x) x) := by
  refine ctx_of (y := yX5_write) (as := [.ref (G.2.2 0), .int a1, .int a2]) (nL := 3) (V := (v, w)) (x := x) (fX := (fun x : ((Nat × VC) ⊕ (Int32 × VC)) => Sum.elim (fun n => .inl (n.1, ((n.2, w) : VA))) (fun r => .inr (some (.int r.1), ((r.2, w) : VA))) x)) (own := RX5) hG hl (by decide) rfl (Nat.le_of_ble_eq_true rfl) (fun X C hr T => ?_) hf
  exact w_X5_write C hr T v a1 a2
set_option maxRecDepth 100000 in
set_option maxHeartbeats 4000000 in
theorem w_X5_read {G : GG} {X : WX} {sa : Nat → Nat} {w : VW} (C : Cx G 2 X RX5 cX5_read 8) (hr : (xM X).sig.returnType = (some .int)) (T : Thr G sa X) (v : VC) (a1 : Int32) : JS G 2 X (QX G X (fun x : ((Nat × VC) ⊕ (Int32 × VC)) => Sum.elim (fun n => .inl (n.1, ((n.2, w) : VA))) (fun r => .inr (some (.int r.1), ((r.2, w) : VA))) x)) (f_X5_read v a1) (v, w) 0 [(0, .ref (G.2.2 0)), (1, .int a1)] [] := by
  unfold f_X5_read
  refine j_aload_n C 0 0 rfl dX5_read_0 ?_
  refine g_Sp0 C 1 (Or.inl fl_X5_12) dX5_read_1 ?_
  refine j_iload_n C 4 1 rfl dX5_read_4 ?_
  refine j_bind (fun x5 h5 => ?_)
  refine j_vSt_i (k := 0) (As := [.int a1]) (st := []) C (by decide) k_X2_hasBlock 5 (c_X2_hasBlock C.2.2.2.2.2.2.1 (c := v) (k := 0) (by decide) _ rfl _ h5) rfl rfl ml_X5_140 ii_X2_hasBlock is_X2_hasBlock dX5_read_5 (by decide) rfl (Nat.le_of_ble_eq_true rfl) ?_ rfl
  refine j_if_ne C 8 21 dX5_read_8 (by decide) (fun c8 => ?_) (fun c8 => ?_)
  · exact jx_throw (text := "no such block in the map") C T 1 11 (by decide) xk_1 xi_1 (by decide) xa_1 xo_1 dX5_read_11 dX5_read_14 dX5_read_15 dX5_read_17 dX5_read_20 (Nat.le_of_ble_eq_true rfl) (by decide) rfl
  · refine j_aload_n C 21 0 rfl dX5_read_21 ?_
    refine g_Sp0 C 22 (Or.inl fl_X5_12) dX5_read_22 ?_
    refine j_iload_n C 25 1 rfl dX5_read_25 ?_
    refine j_bind (fun x26 h26 => ?_)
    refine j_vSt_i (k := 0) (As := [.int a1]) (st := []) C (by decide) k_X2_canRead 26 (c_X2_canRead C.2.2.2.2.2.2.1 (c := v) (k := 0) (by decide) _ rfl _ h26) rfl rfl ml_X5_147 ii_X2_canRead is_X2_canRead dX5_read_26 (by decide) rfl (Nat.le_of_ble_eq_true rfl) ?_ rfl
    refine j_if_ne C 29 42 dX5_read_29 (by decide) (fun c29 => ?_) (fun c29 => ?_)
    · exact jx_throw (text := "no stick is left for the block") C T 3 32 (by decide) xk_3 xi_3 (by decide) xa_3 xo_3 dX5_read_32 dX5_read_35 dX5_read_36 dX5_read_38 dX5_read_41 (Nat.le_of_ble_eq_true rfl) (by decide) rfl
    · refine j_aload_n C 42 0 rfl dX5_read_42 ?_
      refine j_bind (fun x43 h43 => ?_)
      refine j_vSp_v (As := []) (st := []) C k_X5_saveState 43 (c_X5_saveState C.2.2.2.2.2.2.1 _ h43) rfl rfl ml_X5_78 ii_X5_saveState is_X5_saveState dX5_read_43 (by decide) rfl (Nat.le_of_ble_eq_true rfl) ?_ rfl
      refine j_V (V' := (x43, w)) rfl ?_
      refine j_aload_n C 46 0 rfl dX5_read_46 ?_
      refine g_Sp0 C 47 (Or.inl fl_X5_12) dX5_read_47 ?_
      refine j_iload_n C 50 1 rfl dX5_read_50 ?_
      refine j_bind (fun x51 h51 => ?_)
      refine j_vSt_i (k := 0) (As := [.int a1]) (st := []) C (by decide) k_X2_readOne 51 (c_X2_readOne C.2.2.2.2.2.2.1 (c := x43) (k := 0) (by decide) _ rfl _ h51) rfl rfl ml_X5_156 ii_X2_readOne is_X2_readOne dX5_read_51 (by decide) rfl (Nat.le_of_ble_eq_true rfl) ?_ rfl
      refine j_V (V' := ((sSt x43 0 x51.2), w)) rfl ?_
      exact jx_iret C T 54 hr rfl dX5_read_54
theorem c_X5_read {G : GG} {l : Launch} {sa : Nat → Nat} (hG : Gok G) (hl : l.stackTraces = false) {w : VW} (v : VC) (a1 : Int32) {x : ((Nat × VC) ⊕ (Int32 × VC))} (hf : f_X5_read v a1 = some x) : CtX l yX5_read cX5_read 2 (some .int) 8 [.ref (G.2.2 0), .int a1] G sa (v, w) ((fun x : ((Nat × VC) ⊕ (Int32 × VC)) => Sum.elim (fun n => .inl (n.1, ((n.2, w) : VA))) (fun r => .inr (some (.int r.1), ((r.2, w) : VA))) x) x) := by
  refine ctx_of (y := yX5_read) (as := [.ref (G.2.2 0), .int a1]) (nL := 2) (V := (v, w)) (x := x) (fX := (fun x : ((Nat × VC) ⊕ (Int32 × VC)) => Sum.elim (fun n => .inl (n.1, ((n.2, w) : VA))) (fun r => .inr (some (.int r.1), ((r.2, w) : VA))) x)) (own := RX5) hG hl (by decide) rfl (Nat.le_of_ble_eq_true rfl) (fun X C hr T => ?_) hf
  exact w_X5_read C hr T v a1
set_option maxRecDepth 100000 in
set_option maxHeartbeats 4000000 in
theorem w_X5_rest {G : GG} {X : WX} {sa : Nat → Nat} {w : VW} (C : Cx G 2 X RX5 cX5_rest 8) (hr : (xM X).sig.returnType = (some .int)) (T : Thr G sa X) (v : VC) (a1 : Int32) : JS G 2 X (QX G X (fun x : ((Nat × VC) ⊕ (Int32 × VC)) => Sum.elim (fun n => .inl (n.1, ((n.2, w) : VA))) (fun r => .inr (some (.int r.1), ((r.2, w) : VA))) x)) (f_X5_rest v a1) (v, w) 0 [(0, .ref (G.2.2 0)), (1, .int a1)] [] := by
  unfold f_X5_rest
  refine j_iload_n C 0 1 rfl dX5_rest_0 ?_
  refine j_iconst (v := 1) C 1 dX5_rest_1 rfl ?_
  refine j_bipush (v := 99) C 2 dX5_rest_2 rfl ?_
  refine j_bind (fun x4 h4 => ?_)
  refine j_callS_i (As := [.int a1, .int 1, .int 99]) (st := []) C k_X5_isWithin 4 (c_X5_isWithin C.2.2.2.2.2.2.1 (c := v) _ _ _ h4) rfl ml_X5_55 st_X5_isWithin dX5_rest_4 (by decide) rfl (Nat.le_of_ble_eq_true rfl) ?_ rfl
  refine j_if_ne C 7 20 dX5_rest_7 (by decide) (fun c7 => ?_) (fun c7 => ?_)
  · exact jx_throw (text := "ticks out of range") C T 2 10 (by decide) xk_2 xi_2 (by decide) xa_2 xo_2 dX5_rest_10 dX5_rest_13 dX5_rest_14 dX5_rest_16 dX5_rest_19 (Nat.le_of_ble_eq_true rfl) (by decide) rfl
  · refine j_aload_n C 20 0 rfl dX5_rest_20 ?_
    refine j_bind (fun x21 h21 => ?_)
    refine j_vSp_v (As := []) (st := []) C k_X5_saveState 21 (c_X5_saveState C.2.2.2.2.2.2.1 _ h21) rfl rfl ml_X5_78 ii_X5_saveState is_X5_saveState dX5_rest_21 (by decide) rfl (Nat.le_of_ble_eq_true rfl) ?_ rfl
    refine j_V (V' := (x21, w)) rfl ?_
    refine j_aload_n C 24 0 rfl dX5_rest_24 ?_
    refine g_Sp0 C 25 (Or.inl fl_X5_12) dX5_rest_25 ?_
    refine g_St2 (k := 0) C (by decide) 28 (Or.inr ⟨_, fl_X5_85⟩) dX5_rest_28 ?_
    refine j_iload_n C 31 1 rfl dX5_rest_31 ?_
    refine j_bind (fun x32 h32 => ?_)
    refine j_vCk_v (k := 0) (As := [.int a1]) (st := []) C (by decide) k_X0_pass 32 (c_X0_pass C.2.2.2.2.2.2.1 (c := x21) (k := 0) (by decide) _ rfl _ h32) rfl rfl ml_X5_161 ii_X0_pass is_X0_pass dX5_rest_32 (by decide) rfl (Nat.le_of_ble_eq_true rfl) ?_ rfl
    refine j_V (V' := ((sCk x21 0 x32), w)) rfl ?_
    refine j_aload_n C 35 0 rfl dX5_rest_35 ?_
    refine g_Sp0 C 36 (Or.inl fl_X5_12) dX5_rest_36 ?_
    refine g_St2 (k := 0) C (by decide) 39 (Or.inr ⟨_, fl_X5_85⟩) dX5_rest_39 ?_
    refine g_Ck1 (k := 0) (c0 := (sCk x21 0 x32)) C (by decide) rfl 42 (Or.inr ⟨_, fl_X5_164⟩) dX5_rest_42 ?_
    exact jx_iret C T 45 hr rfl dX5_rest_45
theorem c_X5_rest {G : GG} {l : Launch} {sa : Nat → Nat} (hG : Gok G) (hl : l.stackTraces = false) {w : VW} (v : VC) (a1 : Int32) {x : ((Nat × VC) ⊕ (Int32 × VC))} (hf : f_X5_rest v a1 = some x) : CtX l yX5_rest cX5_rest 2 (some .int) 8 [.ref (G.2.2 0), .int a1] G sa (v, w) ((fun x : ((Nat × VC) ⊕ (Int32 × VC)) => Sum.elim (fun n => .inl (n.1, ((n.2, w) : VA))) (fun r => .inr (some (.int r.1), ((r.2, w) : VA))) x) x) := by
  refine ctx_of (y := yX5_rest) (as := [.ref (G.2.2 0), .int a1]) (nL := 2) (V := (v, w)) (x := x) (fX := (fun x : ((Nat × VC) ⊕ (Int32 × VC)) => Sum.elim (fun n => .inl (n.1, ((n.2, w) : VA))) (fun r => .inr (some (.int r.1), ((r.2, w) : VA))) x)) (own := RX5) hG hl (by decide) rfl (Nat.le_of_ble_eq_true rfl) (fun X C hr T => ?_) hf
  exact w_X5_rest C hr T v a1
set_option maxRecDepth 100000 in
set_option maxHeartbeats 4000000 in
theorem wb_X5_set_30 {G : GG} {X : WX} {sa : Nat → Nat} {w : VW} (C : Cx G 3 X RX5 cX5_set 8) (hr : (xM X).sig.returnType = (some .int)) (T : Thr G sa X) (v : VC) (s1 : Int32) (s2 : Int32) (t0 : Int32) (t1 : Int32) (t2 : Int32) : JS G 3 X (QX G X (fun x : ((Nat × VC) ⊕ (Int32 × VC)) => Sum.elim (fun n => .inl (n.1, ((n.2, w) : VA))) (fun r => .inr (some (.int r.1), ((r.2, w) : VA))) x)) (b_X5_set_30 v s1 s2 t0 t1 t2) (v, w) 30 [(0, .ref (G.2.2 0)), (1, .int s1), (2, .int s2)] [.int t0, .int t1, .int t2] := by
  unfold b_X5_set_30
  refine j_bind (fun x30 h30 => ?_)
  refine j_callS_i (As := [.int t2, .int t1, .int t0]) (st := []) C k_X5_isWithin 30 (c_X5_isWithin C.2.2.2.2.2.2.1 (c := v) _ _ _ h30) rfl ml_X5_55 st_X5_isWithin dX5_set_30 (by decide) rfl (Nat.le_of_ble_eq_true rfl) ?_ rfl
  refine j_if_ne C 33 46 dX5_set_33 (by decide) (fun c33 => ?_) (fun c33 => ?_)
  · exact jx_throw (text := "no such value of the setting") C T 2 36 (by decide) xk_2 xi_2 (by decide) xa_2 xo_2 dX5_set_36 dX5_set_39 dX5_set_40 dX5_set_42 dX5_set_45 (Nat.le_of_ble_eq_true rfl) (by decide) rfl
  · refine j_aload_n C 46 0 rfl dX5_set_46 ?_
    refine j_bind (fun x47 h47 => ?_)
    refine j_vSp_v (As := []) (st := []) C k_X5_saveState 47 (c_X5_saveState C.2.2.2.2.2.2.1 _ h47) rfl rfl ml_X5_78 ii_X5_saveState is_X5_saveState dX5_set_47 (by decide) rfl (Nat.le_of_ble_eq_true rfl) ?_ rfl
    refine j_V (V' := (x47, w)) rfl ?_
    refine j_aload_n C 50 0 rfl dX5_set_50 ?_
    refine g_Sp0 C 51 (Or.inl fl_X5_12) dX5_set_51 ?_
    refine j_iload_n C 54 1 rfl dX5_set_54 ?_
    refine j_iload_n C 55 2 rfl dX5_set_55 ?_
    refine j_bind (fun x56 h56 => ?_)
    refine j_vSt_i (k := 0) (As := [.int s1, .int s2]) (st := []) C (by decide) k_X2_exchangeSetting 56 (c_X2_exchangeSetting C.2.2.2.2.2.2.1 (c := x47) (k := 0) (by decide) _ rfl _ _ h56) rfl rfl ml_X5_171 ii_X2_exchangeSetting is_X2_exchangeSetting dX5_set_56 (by decide) rfl (Nat.le_of_ble_eq_true rfl) ?_ rfl
    refine j_V (V' := ((sSt x47 0 x56.2), w)) rfl ?_
    exact jx_iret C T 59 hr rfl dX5_set_59
set_option maxRecDepth 100000 in
set_option maxHeartbeats 4000000 in
theorem w_X5_set {G : GG} {X : WX} {sa : Nat → Nat} {w : VW} (C : Cx G 3 X RX5 cX5_set 8) (hr : (xM X).sig.returnType = (some .int)) (T : Thr G sa X) (v : VC) (a1 : Int32) (a2 : Int32) : JS G 3 X (QX G X (fun x : ((Nat × VC) ⊕ (Int32 × VC)) => Sum.elim (fun n => .inl (n.1, ((n.2, w) : VA))) (fun r => .inr (some (.int r.1), ((r.2, w) : VA))) x)) (f_X5_set v a1 a2) (v, w) 0 [(0, .ref (G.2.2 0)), (1, .int a1), (2, .int a2)] [] := by
  unfold f_X5_set
  refine j_iload_n C 0 1 rfl dX5_set_0 ?_
  refine j_iconst (v := 0) C 1 dX5_set_1 rfl ?_
  refine j_iconst (v := 1) C 2 dX5_set_2 rfl ?_
  refine j_bind (fun x3 h3 => ?_)
  refine j_callS_i (As := [.int a1, .int 0, .int 1]) (st := []) C k_X5_isWithin 3 (c_X5_isWithin C.2.2.2.2.2.2.1 (c := v) _ _ _ h3) rfl ml_X5_55 st_X5_isWithin dX5_set_3 (by decide) rfl (Nat.le_of_ble_eq_true rfl) ?_ rfl
  refine j_if_ne C 6 19 dX5_set_6 (by decide) (fun c6 => ?_) (fun c6 => ?_)
  · exact jx_throw (text := "no such setting") C T 1 9 (by decide) xk_1 xi_1 (by decide) xa_1 xo_1 dX5_set_9 dX5_set_12 dX5_set_13 dX5_set_15 dX5_set_18 (Nat.le_of_ble_eq_true rfl) (by decide) rfl
  · refine j_iload_n C 19 2 rfl dX5_set_19 ?_
    refine j_iconst (v := 0) C 20 dX5_set_20 rfl ?_
    refine j_iload_n C 21 1 rfl dX5_set_21 ?_
    refine j_if_ne C 22 29 dX5_set_22 (by decide) (fun c22 => ?_) (fun c22 => ?_)
    · refine j_iconst (v := 2) C 25 dX5_set_25 rfl ?_
      refine j_goto C 26 30 dX5_set_26 (by decide) ?_
      exact wb_X5_set_30 C hr T v a1 a2 2 0 a2
    · refine j_iconst (v := 1) C 29 dX5_set_29 rfl ?_
      exact wb_X5_set_30 C hr T v a1 a2 1 0 a2
theorem c_X5_set {G : GG} {l : Launch} {sa : Nat → Nat} (hG : Gok G) (hl : l.stackTraces = false) {w : VW} (v : VC) (a1 : Int32) (a2 : Int32) {x : ((Nat × VC) ⊕ (Int32 × VC))} (hf : f_X5_set v a1 a2 = some x) : CtX l yX5_set cX5_set 3 (some .int) 8 [.ref (G.2.2 0), .int a1, .int a2] G sa (v, w) ((fun x : ((Nat × VC) ⊕ (Int32 × VC)) => Sum.elim (fun n => .inl (n.1, ((n.2, w) : VA))) (fun r => .inr (some (.int r.1), ((r.2, w) : VA))) x) x) := by
  refine ctx_of (y := yX5_set) (as := [.ref (G.2.2 0), .int a1, .int a2]) (nL := 3) (V := (v, w)) (x := x) (fX := (fun x : ((Nat × VC) ⊕ (Int32 × VC)) => Sum.elim (fun n => .inl (n.1, ((n.2, w) : VA))) (fun r => .inr (some (.int r.1), ((r.2, w) : VA))) x)) (own := RX5) hG hl (by decide) rfl (Nat.le_of_ble_eq_true rfl) (fun X C hr T => ?_) hf
  exact w_X5_set C hr T v a1 a2
set_option maxRecDepth 100000 in
set_option maxHeartbeats 4000000 in
theorem w_X5_undo {G : GG} {X : WX} {sa : Nat → Nat} {w : VW} (C : Cx G 2 X RX5 cX5_undo 8) (hr : (xM X).sig.returnType = (some .int)) (T : Thr G sa X) (v : VC) : JS G 2 X (QX G X (fun x : ((Nat × VC) ⊕ (Int32 × VC)) => Sum.elim (fun n => .inl (n.1, ((n.2, w) : VA))) (fun r => .inr (some (.int r.1), ((r.2, w) : VA))) x)) (f_X5_undo v) (v, w) 0 [(0, .ref (G.2.2 0))] [] := by
  unfold f_X5_undo
  refine j_aload_n C 0 0 rfl dX5_undo_0 ?_
  refine g_Sp4 C 1 (Or.inl fl_X5_212) dX5_undo_1 ?_
  refine j_iconst (v := 1) C 4 dX5_undo_4 rfl ?_
  refine j_icmp_lt C 5 17 dX5_undo_5 (by decide) (fun c5 => ?_) (fun c5 => ?_)
  · exact jx_throw (text := "there is no saved state") C T 3 17 (by decide) xk_3 xi_3 (by decide) xa_3 xo_3 dX5_undo_17 dX5_undo_20 dX5_undo_21 dX5_undo_23 dX5_undo_26 (Nat.le_of_ble_eq_true rfl) (by decide) rfl
  · refine j_aload_n C 8 0 rfl dX5_undo_8 ?_
    refine g_Sp4 C 9 (Or.inl fl_X5_212) dX5_undo_9 ?_
    refine j_bipush (v := 6) C 12 dX5_undo_12 rfl ?_
    refine j_icmp_le C 14 27 dX5_undo_14 (by decide) (fun c14 => ?_) (fun c14 => ?_)
    · exact jx_throw (text := "there is no saved state") C T 3 17 (by decide) xk_3 xi_3 (by decide) xa_3 xo_3 dX5_undo_17 dX5_undo_20 dX5_undo_21 dX5_undo_23 dX5_undo_26 (Nat.le_of_ble_eq_true rfl) (by decide) rfl
    · refine j_aload_n C 27 0 rfl dX5_undo_27 ?_
      refine j_dup C 28 dX5_undo_28 rfl ?_
      refine g_Sp4 C 29 (Or.inl fl_X5_212) dX5_undo_29 ?_
      refine j_iconst (v := 1) C 32 dX5_undo_32 rfl ?_
      refine j_isub C 33 dX5_undo_33 ?_
      refine p_Sp4 C 34 fl_X5_212 dX5_undo_34 ?_
      refine j_aload_n C 37 0 rfl dX5_undo_37 ?_
      refine g_Sp3 C 38 (Or.inl fl_X5_19) dX5_undo_38 ?_
      refine j_aload_n C 41 0 rfl dX5_undo_41 ?_
      refine g_Sp4 C 42 (Or.inl fl_X5_212) dX5_undo_42 ?_
      refine j_bind (fun x45 h45 => ?_)
      refine j_aald C 45 rfl (at_sp (j := 1) (by decide)) h45 dX5_undo_45 ?_
      refine j_astore_n (L1 := [(1, .ref (G.2.2 (6 + 2 * x45))), (0, .ref (G.2.2 0))]) C 46 rfl dX5_undo_46 (by decide) rfl ?_
      refine j_aload_n C 47 0 rfl dX5_undo_47 ?_
      refine j_ifnull C 48 dX5_undo_48 ?_
      refine j_aload_n C 51 1 rfl dX5_undo_51 ?_
      refine g_Sp0 C 52 (Or.inl fl_X5_12) dX5_undo_52 ?_
      refine j_aload_n C 55 0 rfl dX5_undo_55 ?_
      refine j_bind (fun x56 h56 => ?_)
      refine j_vSt_v (k := 0) (As := [.ref (G.2.2 (6 + 2 * x45))]) (st := []) C (by decide) k_X2_copyFrom 56 (c_X2_copyFrom C.2.2.2.2.2.2.1 (c := (sSp v (v.2.2.2.2.2.2.1, (v.2.2.2.2.2.2.2.1 - 1), v.2.2.2.2.2.2.2.2))) (k := 0) (by decide) _ rfl x45 (rdp_in h45).2.2.2 _ rfl (by have := (rdp_in h45).2.2; omega) h56) rfl rfl ml_X5_202 ii_X2_copyFrom is_X2_copyFrom dX5_undo_56 (by decide) rfl (Nat.le_of_ble_eq_true rfl) ?_ rfl
      refine j_V (V' := ((sSt (sSp v (v.2.2.2.2.2.2.1, (v.2.2.2.2.2.2.2.1 - 1), v.2.2.2.2.2.2.2.2)) 0 x56), w)) rfl ?_
      refine j_aload_n C 59 1 rfl dX5_undo_59 ?_
      refine g_Sp4 C 60 (Or.inl fl_X5_212) dX5_undo_60 ?_
      exact jx_iret C T 63 hr rfl dX5_undo_63
theorem c_X5_undo {G : GG} {l : Launch} {sa : Nat → Nat} (hG : Gok G) (hl : l.stackTraces = false) {w : VW} (v : VC) {x : ((Nat × VC) ⊕ (Int32 × VC))} (hf : f_X5_undo v = some x) : CtX l yX5_undo cX5_undo 2 (some .int) 8 [.ref (G.2.2 0)] G sa (v, w) ((fun x : ((Nat × VC) ⊕ (Int32 × VC)) => Sum.elim (fun n => .inl (n.1, ((n.2, w) : VA))) (fun r => .inr (some (.int r.1), ((r.2, w) : VA))) x) x) := by
  refine ctx_of (y := yX5_undo) (as := [.ref (G.2.2 0)]) (nL := 2) (V := (v, w)) (x := x) (fX := (fun x : ((Nat × VC) ⊕ (Int32 × VC)) => Sum.elim (fun n => .inl (n.1, ((n.2, w) : VA))) (fun r => .inr (some (.int r.1), ((r.2, w) : VA))) x)) (own := RX5) hG hl (by decide) rfl (Nat.le_of_ble_eq_true rfl) (fun X C hr T => ?_) hf
  exact w_X5_undo C hr T v
set_option maxRecDepth 100000 in
set_option maxHeartbeats 4000000 in
theorem w_X5_slot {G : GG} {X : WX} {sa : Nat → Nat} {w : VW} (C : Cx G 3 X RX5 cX5_slot 8) (hr : (xM X).sig.returnType = (some .int)) (T : Thr G sa X) (v : VC) (a1 : Int32) (a2 : Int32) : JS G 3 X (QX G X (fun x : (Nat ⊕ Int32) => Sum.elim (fun n => .inl (n, ((v, w) : VA))) (fun r => .inr (some (.int r), ((v, w) : VA))) x)) (f_X5_slot v a1 a2) (v, w) 0 [(0, .ref (G.2.2 0)), (1, .int a1), (2, .int a2)] [] := by
  unfold f_X5_slot
  refine j_iload_n C 0 1 rfl dX5_slot_0 ?_
  refine j_bind (fun x1 h1 => ?_)
  refine j_callS_i (As := [.int a1]) (st := []) C k_X5_isSlot 1 (c_X5_isSlot C.2.2.2.2.2.2.1 (c := v) _ h1) rfl ml_X5_44 st_X5_isSlot dX5_slot_1 (by decide) rfl (Nat.le_of_ble_eq_true rfl) ?_ rfl
  refine j_if_ne C 4 17 dX5_slot_4 (by decide) (fun c4 => ?_) (fun c4 => ?_)
  · exact jx_throw (text := "no such slot") C T 1 7 (by decide) xk_1 xi_1 (by decide) xa_1 xo_1 dX5_slot_7 dX5_slot_10 dX5_slot_11 dX5_slot_13 dX5_slot_16 (Nat.le_of_ble_eq_true rfl) (by decide) rfl
  · refine j_iload_n C 17 2 rfl dX5_slot_17 ?_
    refine j_iconst (v := 0) C 18 dX5_slot_18 rfl ?_
    refine j_bipush (v := 7) C 19 dX5_slot_19 rfl ?_
    refine j_bind (fun x21 h21 => ?_)
    refine j_callS_i (As := [.int a2, .int 0, .int 7]) (st := []) C k_X5_isWithin 21 (c_X5_isWithin C.2.2.2.2.2.2.1 (c := v) _ _ _ h21) rfl ml_X5_55 st_X5_isWithin dX5_slot_21 (by decide) rfl (Nat.le_of_ble_eq_true rfl) ?_ rfl
    refine j_if_ne C 24 37 dX5_slot_24 (by decide) (fun c24 => ?_) (fun c24 => ?_)
    · exact jx_throw (text := "no such number of a slot") C T 2 27 (by decide) xk_2 xi_2 (by decide) xa_2 xo_2 dX5_slot_27 dX5_slot_30 dX5_slot_31 dX5_slot_33 dX5_slot_36 (Nat.le_of_ble_eq_true rfl) (by decide) rfl
    · refine j_aload_n C 37 0 rfl dX5_slot_37 ?_
      refine g_Sp0 C 38 (Or.inl fl_X5_12) dX5_slot_38 ?_
      refine j_iload_n C 41 1 rfl dX5_slot_41 ?_
      refine j_iload_n C 42 2 rfl dX5_slot_42 ?_
      refine j_bind (fun x43 h43 => ?_)
      refine j_vSt_i (k := 0) (As := [.int a1, .int a2]) (st := []) C (by decide) k_X2_slotNumber 43 (c_X2_slotNumber C.2.2.2.2.2.2.1 (c := v) (k := 0) (by decide) _ rfl _ _ h43) rfl rfl ml_X5_219 ii_X2_slotNumber is_X2_slotNumber dX5_slot_43 (by decide) rfl (Nat.le_of_ble_eq_true rfl) ?_ rfl
      exact jx_iret C T 46 hr rfl dX5_slot_46
theorem c_X5_slot {G : GG} {l : Launch} {sa : Nat → Nat} (hG : Gok G) (hl : l.stackTraces = false) {w : VW} (v : VC) (a1 : Int32) (a2 : Int32) {x : (Nat ⊕ Int32)} (hf : f_X5_slot v a1 a2 = some x) : CtX l yX5_slot cX5_slot 3 (some .int) 8 [.ref (G.2.2 0), .int a1, .int a2] G sa (v, w) ((fun x : (Nat ⊕ Int32) => Sum.elim (fun n => .inl (n, ((v, w) : VA))) (fun r => .inr (some (.int r), ((v, w) : VA))) x) x) := by
  refine ctx_of (y := yX5_slot) (as := [.ref (G.2.2 0), .int a1, .int a2]) (nL := 3) (V := (v, w)) (x := x) (fX := (fun x : (Nat ⊕ Int32) => Sum.elim (fun n => .inl (n, ((v, w) : VA))) (fun r => .inr (some (.int r), ((v, w) : VA))) x)) (own := RX5) hG hl (by decide) rfl (Nat.le_of_ble_eq_true rfl) (fun X C hr T => ?_) hf
  exact w_X5_slot C hr T v a1 a2
set_option maxRecDepth 100000 in
set_option maxHeartbeats 4000000 in
theorem wn_X5_slot {G : GG} {X : WX} {w : VW} (C : Cx G 3 X RX5 cX5_slot 8) (hr : (xM X).sig.returnType = (some .int)) (T : True) (v : VC) (a1 : Int32) (a2 : Int32) : JS G 3 X (QN G X (fun x : (Nat ⊕ Int32) => Sum.elim (fun n => .inl (n, ((v, w) : VA))) (fun r => .inr (some (.int r), ((v, w) : VA))) x)) (f_X5_slot v a1 a2) (v, w) 0 [(0, .ref (G.2.2 0)), (1, .int a1), (2, .int a2)] [] := by
  unfold f_X5_slot
  refine j_iload_n C 0 1 rfl dX5_slot_0 ?_
  refine j_bind (fun x1 h1 => ?_)
  refine j_callS_i (As := [.int a1]) (st := []) C k_X5_isSlot 1 (c_X5_isSlot C.2.2.2.2.2.2.1 (c := v) _ h1) rfl ml_X5_44 st_X5_isSlot dX5_slot_1 (by decide) rfl (Nat.le_of_ble_eq_true rfl) ?_ rfl
  refine j_if_ne C 4 17 dX5_slot_4 (by decide) (fun c4 => ?_) (fun c4 => ?_)
  · exact jn_throw rfl
  · refine j_iload_n C 17 2 rfl dX5_slot_17 ?_
    refine j_iconst (v := 0) C 18 dX5_slot_18 rfl ?_
    refine j_bipush (v := 7) C 19 dX5_slot_19 rfl ?_
    refine j_bind (fun x21 h21 => ?_)
    refine j_callS_i (As := [.int a2, .int 0, .int 7]) (st := []) C k_X5_isWithin 21 (c_X5_isWithin C.2.2.2.2.2.2.1 (c := v) _ _ _ h21) rfl ml_X5_55 st_X5_isWithin dX5_slot_21 (by decide) rfl (Nat.le_of_ble_eq_true rfl) ?_ rfl
    refine j_if_ne C 24 37 dX5_slot_24 (by decide) (fun c24 => ?_) (fun c24 => ?_)
    · exact jn_throw rfl
    · refine j_aload_n C 37 0 rfl dX5_slot_37 ?_
      refine g_Sp0 C 38 (Or.inl fl_X5_12) dX5_slot_38 ?_
      refine j_iload_n C 41 1 rfl dX5_slot_41 ?_
      refine j_iload_n C 42 2 rfl dX5_slot_42 ?_
      refine j_bind (fun x43 h43 => ?_)
      refine j_vSt_i (k := 0) (As := [.int a1, .int a2]) (st := []) C (by decide) k_X2_slotNumber 43 (c_X2_slotNumber C.2.2.2.2.2.2.1 (c := v) (k := 0) (by decide) _ rfl _ _ h43) rfl rfl ml_X5_219 ii_X2_slotNumber is_X2_slotNumber dX5_slot_43 (by decide) rfl (Nat.le_of_ble_eq_true rfl) ?_ rfl
      exact jn_iret C 46 hr rfl dX5_slot_46
theorem cn_X5_slot {G : GG} {l : Launch} (hG : Gok G) {w : VW} (v : VC) (a1 : Int32) (a2 : Int32) {x : Int32} (hf : f_X5_slot v a1 a2 = some (.inr x)) : Ct l yX5_slot cX5_slot 3 (some .int) 8 [.ref (G.2.2 0), .int a1, .int a2] G (v, w) (some (.int x)) ((v, w)) :=
  ctn_of (V := (v, w)) (fX := (fun x : (Nat ⊕ Int32) => Sum.elim (fun n => .inl (n, ((v, w) : VA))) (fun r => .inr (some (.int r), ((v, w) : VA))) x)) (own := RX5) hG (plainFor_of_name (by decide)) rfl (Nat.le_of_ble_eq_true rfl) (fun X C hr => wn_X5_slot C hr trivial v a1 a2) hf rfl
set_option maxRecDepth 100000 in
set_option maxHeartbeats 4000000 in
theorem w_X5_where {G : GG} {X : WX} {sa : Nat → Nat} {w : VW} (C : Cx G 3 X RX5 cX5_where 8) (hr : (xM X).sig.returnType = (some .int)) (T : Thr G sa X) (v : VC) (a1 : Int32) (a2 : Int32) : JS G 3 X (QX G X (fun x : (Nat ⊕ Int32) => Sum.elim (fun n => .inl (n, ((v, w) : VA))) (fun r => .inr (some (.int r), ((v, w) : VA))) x)) (f_X5_where v a1 a2) (v, w) 0 [(0, .ref (G.2.2 0)), (1, .int a1), (2, .int a2)] [] := by
  unfold f_X5_where
  refine j_aload_n C 0 0 rfl dX5_where_0 ?_
  refine g_Sp0 C 1 (Or.inl fl_X5_12) dX5_where_1 ?_
  refine j_iload_n C 4 1 rfl dX5_where_4 ?_
  refine j_bind (fun x5 h5 => ?_)
  refine j_vSt_i (k := 0) (As := [.int a1]) (st := []) C (by decide) k_X2_hasBlock 5 (c_X2_hasBlock C.2.2.2.2.2.2.1 (c := v) (k := 0) (by decide) _ rfl _ h5) rfl rfl ml_X5_140 ii_X2_hasBlock is_X2_hasBlock dX5_where_5 (by decide) rfl (Nat.le_of_ble_eq_true rfl) ?_ rfl
  refine j_if_ne C 8 21 dX5_where_8 (by decide) (fun c8 => ?_) (fun c8 => ?_)
  · exact jx_throw (text := "no such block in the map") C T 1 11 (by decide) xk_1 xi_1 (by decide) xa_1 xo_1 dX5_where_11 dX5_where_14 dX5_where_15 dX5_where_17 dX5_where_20 (Nat.le_of_ble_eq_true rfl) (by decide) rfl
  · refine j_iload_n C 21 2 rfl dX5_where_21 ?_
    refine j_iconst (v := 0) C 22 dX5_where_22 rfl ?_
    refine j_bipush (v := 6) C 23 dX5_where_23 rfl ?_
    refine j_bind (fun x25 h25 => ?_)
    refine j_callS_i (As := [.int a2, .int 0, .int 6]) (st := []) C k_X5_isWithin 25 (c_X5_isWithin C.2.2.2.2.2.2.1 (c := v) _ _ _ h25) rfl ml_X5_55 st_X5_isWithin dX5_where_25 (by decide) rfl (Nat.le_of_ble_eq_true rfl) ?_ rfl
    refine j_if_ne C 28 41 dX5_where_28 (by decide) (fun c28 => ?_) (fun c28 => ?_)
    · exact jx_throw (text := "no such number of a block") C T 2 31 (by decide) xk_2 xi_2 (by decide) xa_2 xo_2 dX5_where_31 dX5_where_34 dX5_where_35 dX5_where_37 dX5_where_40 (Nat.le_of_ble_eq_true rfl) (by decide) rfl
    · refine j_aload_n C 41 0 rfl dX5_where_41 ?_
      refine g_Sp0 C 42 (Or.inl fl_X5_12) dX5_where_42 ?_
      refine j_iload_n C 45 1 rfl dX5_where_45 ?_
      refine j_iload_n C 46 2 rfl dX5_where_46 ?_
      refine j_bind (fun x47 h47 => ?_)
      refine j_vSt_i (k := 0) (As := [.int a1, .int a2]) (st := []) C (by decide) k_X2_blockNumber 47 (c_X2_blockNumber C.2.2.2.2.2.2.1 (c := v) (k := 0) (by decide) _ rfl _ _ h47) rfl rfl ml_X5_224 ii_X2_blockNumber is_X2_blockNumber dX5_where_47 (by decide) rfl (Nat.le_of_ble_eq_true rfl) ?_ rfl
      exact jx_iret C T 50 hr rfl dX5_where_50
theorem c_X5_where {G : GG} {l : Launch} {sa : Nat → Nat} (hG : Gok G) (hl : l.stackTraces = false) {w : VW} (v : VC) (a1 : Int32) (a2 : Int32) {x : (Nat ⊕ Int32)} (hf : f_X5_where v a1 a2 = some x) : CtX l yX5_where cX5_where 3 (some .int) 8 [.ref (G.2.2 0), .int a1, .int a2] G sa (v, w) ((fun x : (Nat ⊕ Int32) => Sum.elim (fun n => .inl (n, ((v, w) : VA))) (fun r => .inr (some (.int r), ((v, w) : VA))) x) x) := by
  refine ctx_of (y := yX5_where) (as := [.ref (G.2.2 0), .int a1, .int a2]) (nL := 3) (V := (v, w)) (x := x) (fX := (fun x : (Nat ⊕ Int32) => Sum.elim (fun n => .inl (n, ((v, w) : VA))) (fun r => .inr (some (.int r), ((v, w) : VA))) x)) (own := RX5) hG hl (by decide) rfl (Nat.le_of_ble_eq_true rfl) (fun X C hr T => ?_) hf
  exact w_X5_where C hr T v a1 a2
set_option maxRecDepth 100000 in
set_option maxHeartbeats 4000000 in
theorem wn_X5_where {G : GG} {X : WX} {w : VW} (C : Cx G 3 X RX5 cX5_where 8) (hr : (xM X).sig.returnType = (some .int)) (T : True) (v : VC) (a1 : Int32) (a2 : Int32) : JS G 3 X (QN G X (fun x : (Nat ⊕ Int32) => Sum.elim (fun n => .inl (n, ((v, w) : VA))) (fun r => .inr (some (.int r), ((v, w) : VA))) x)) (f_X5_where v a1 a2) (v, w) 0 [(0, .ref (G.2.2 0)), (1, .int a1), (2, .int a2)] [] := by
  unfold f_X5_where
  refine j_aload_n C 0 0 rfl dX5_where_0 ?_
  refine g_Sp0 C 1 (Or.inl fl_X5_12) dX5_where_1 ?_
  refine j_iload_n C 4 1 rfl dX5_where_4 ?_
  refine j_bind (fun x5 h5 => ?_)
  refine j_vSt_i (k := 0) (As := [.int a1]) (st := []) C (by decide) k_X2_hasBlock 5 (c_X2_hasBlock C.2.2.2.2.2.2.1 (c := v) (k := 0) (by decide) _ rfl _ h5) rfl rfl ml_X5_140 ii_X2_hasBlock is_X2_hasBlock dX5_where_5 (by decide) rfl (Nat.le_of_ble_eq_true rfl) ?_ rfl
  refine j_if_ne C 8 21 dX5_where_8 (by decide) (fun c8 => ?_) (fun c8 => ?_)
  · exact jn_throw rfl
  · refine j_iload_n C 21 2 rfl dX5_where_21 ?_
    refine j_iconst (v := 0) C 22 dX5_where_22 rfl ?_
    refine j_bipush (v := 6) C 23 dX5_where_23 rfl ?_
    refine j_bind (fun x25 h25 => ?_)
    refine j_callS_i (As := [.int a2, .int 0, .int 6]) (st := []) C k_X5_isWithin 25 (c_X5_isWithin C.2.2.2.2.2.2.1 (c := v) _ _ _ h25) rfl ml_X5_55 st_X5_isWithin dX5_where_25 (by decide) rfl (Nat.le_of_ble_eq_true rfl) ?_ rfl
    refine j_if_ne C 28 41 dX5_where_28 (by decide) (fun c28 => ?_) (fun c28 => ?_)
    · exact jn_throw rfl
    · refine j_aload_n C 41 0 rfl dX5_where_41 ?_
      refine g_Sp0 C 42 (Or.inl fl_X5_12) dX5_where_42 ?_
      refine j_iload_n C 45 1 rfl dX5_where_45 ?_
      refine j_iload_n C 46 2 rfl dX5_where_46 ?_
      refine j_bind (fun x47 h47 => ?_)
      refine j_vSt_i (k := 0) (As := [.int a1, .int a2]) (st := []) C (by decide) k_X2_blockNumber 47 (c_X2_blockNumber C.2.2.2.2.2.2.1 (c := v) (k := 0) (by decide) _ rfl _ _ h47) rfl rfl ml_X5_224 ii_X2_blockNumber is_X2_blockNumber dX5_where_47 (by decide) rfl (Nat.le_of_ble_eq_true rfl) ?_ rfl
      exact jn_iret C 50 hr rfl dX5_where_50
theorem cn_X5_where {G : GG} {l : Launch} (hG : Gok G) {w : VW} (v : VC) (a1 : Int32) (a2 : Int32) {x : Int32} (hf : f_X5_where v a1 a2 = some (.inr x)) : Ct l yX5_where cX5_where 3 (some .int) 8 [.ref (G.2.2 0), .int a1, .int a2] G (v, w) (some (.int x)) ((v, w)) :=
  ctn_of (V := (v, w)) (fX := (fun x : (Nat ⊕ Int32) => Sum.elim (fun n => .inl (n, ((v, w) : VA))) (fun r => .inr (some (.int r), ((v, w) : VA))) x)) (own := RX5) hG (plainFor_of_name (by decide)) rfl (Nat.le_of_ble_eq_true rfl) (fun X C hr => wn_X5_where C hr trivial v a1 a2) hf rfl
set_option maxRecDepth 100000 in
set_option maxHeartbeats 4000000 in
theorem w_X5_lies {G : GG} {X : WX} {sa : Nat → Nat} {w : VW} (C : Cx G 3 X RX5 cX5_lies 8) (hr : (xM X).sig.returnType = (some .int)) (T : Thr G sa X) (v : VC) (a1 : Int32) (a2 : Int32) : JS G 3 X (QX G X (fun x : (Nat ⊕ Int32) => Sum.elim (fun n => .inl (n, ((v, w) : VA))) (fun r => .inr (some (.int r), ((v, w) : VA))) x)) (f_X5_lies v a1 a2) (v, w) 0 [(0, .ref (G.2.2 0)), (1, .int a1), (2, .int a2)] [] := by
  unfold f_X5_lies
  refine j_iload_n C 0 1 rfl dX5_lies_0 ?_
  refine j_bind (fun x1 h1 => ?_)
  refine j_callS_i (As := [.int a1]) (st := []) C k_X5_isSlot 1 (c_X5_isSlot C.2.2.2.2.2.2.1 (c := v) _ h1) rfl ml_X5_44 st_X5_isSlot dX5_lies_1 (by decide) rfl (Nat.le_of_ble_eq_true rfl) ?_ rfl
  refine j_if_eq C 4 17 dX5_lies_4 (by decide) (fun c4 => ?_) (fun c4 => ?_)
  · exact jx_throw (text := "no such slot or number") C T 1 17 (by decide) xk_1 xi_1 (by decide) xa_1 xo_1 dX5_lies_17 dX5_lies_20 dX5_lies_21 dX5_lies_23 dX5_lies_26 (Nat.le_of_ble_eq_true rfl) (by decide) rfl
  · refine j_iload_n C 7 2 rfl dX5_lies_7 ?_
    refine j_iconst (v := 0) C 8 dX5_lies_8 rfl ?_
    refine j_bipush (v := 11) C 9 dX5_lies_9 rfl ?_
    refine j_bind (fun x11 h11 => ?_)
    refine j_callS_i (As := [.int a2, .int 0, .int 11]) (st := []) C k_X5_isWithin 11 (c_X5_isWithin C.2.2.2.2.2.2.1 (c := v) _ _ _ h11) rfl ml_X5_55 st_X5_isWithin dX5_lies_11 (by decide) rfl (Nat.le_of_ble_eq_true rfl) ?_ rfl
    refine j_if_ne C 14 27 dX5_lies_14 (by decide) (fun c14 => ?_) (fun c14 => ?_)
    · exact jx_throw (text := "no such slot or number") C T 1 17 (by decide) xk_1 xi_1 (by decide) xa_1 xo_1 dX5_lies_17 dX5_lies_20 dX5_lies_21 dX5_lies_23 dX5_lies_26 (Nat.le_of_ble_eq_true rfl) (by decide) rfl
    · refine j_aload_n C 27 0 rfl dX5_lies_27 ?_
      refine g_Sp0 C 28 (Or.inl fl_X5_12) dX5_lies_28 ?_
      refine g_St1 (k := 0) C (by decide) 31 (Or.inr ⟨_, fl_X5_125⟩) dX5_lies_31 ?_
      refine j_iload_n C 34 1 rfl dX5_lies_34 ?_
      refine j_iload_n C 35 2 rfl dX5_lies_35 ?_
      refine j_bind (fun x36 h36 => ?_)
      refine j_vLy_i (k := 0) (As := [.int a1, .int a2]) (st := []) C (by decide) k_X1_blockAt 36 (c_X1_blockAt C.2.2.2.2.2.2.1 (c := v) (k := 0) (by decide) _ rfl _ _ h36) rfl rfl ml_X5_229 ii_X1_blockAt is_X1_blockAt dX5_lies_36 (by decide) rfl (Nat.le_of_ble_eq_true rfl) ?_ rfl
      exact jx_iret C T 39 hr rfl dX5_lies_39
theorem c_X5_lies {G : GG} {l : Launch} {sa : Nat → Nat} (hG : Gok G) (hl : l.stackTraces = false) {w : VW} (v : VC) (a1 : Int32) (a2 : Int32) {x : (Nat ⊕ Int32)} (hf : f_X5_lies v a1 a2 = some x) : CtX l yX5_lies cX5_lies 3 (some .int) 8 [.ref (G.2.2 0), .int a1, .int a2] G sa (v, w) ((fun x : (Nat ⊕ Int32) => Sum.elim (fun n => .inl (n, ((v, w) : VA))) (fun r => .inr (some (.int r), ((v, w) : VA))) x) x) := by
  refine ctx_of (y := yX5_lies) (as := [.ref (G.2.2 0), .int a1, .int a2]) (nL := 3) (V := (v, w)) (x := x) (fX := (fun x : (Nat ⊕ Int32) => Sum.elim (fun n => .inl (n, ((v, w) : VA))) (fun r => .inr (some (.int r), ((v, w) : VA))) x)) (own := RX5) hG hl (by decide) rfl (Nat.le_of_ble_eq_true rfl) (fun X C hr T => ?_) hf
  exact w_X5_lies C hr T v a1 a2
set_option maxRecDepth 100000 in
set_option maxHeartbeats 4000000 in
theorem wn_X5_lies {G : GG} {X : WX} {w : VW} (C : Cx G 3 X RX5 cX5_lies 8) (hr : (xM X).sig.returnType = (some .int)) (T : True) (v : VC) (a1 : Int32) (a2 : Int32) : JS G 3 X (QN G X (fun x : (Nat ⊕ Int32) => Sum.elim (fun n => .inl (n, ((v, w) : VA))) (fun r => .inr (some (.int r), ((v, w) : VA))) x)) (f_X5_lies v a1 a2) (v, w) 0 [(0, .ref (G.2.2 0)), (1, .int a1), (2, .int a2)] [] := by
  unfold f_X5_lies
  refine j_iload_n C 0 1 rfl dX5_lies_0 ?_
  refine j_bind (fun x1 h1 => ?_)
  refine j_callS_i (As := [.int a1]) (st := []) C k_X5_isSlot 1 (c_X5_isSlot C.2.2.2.2.2.2.1 (c := v) _ h1) rfl ml_X5_44 st_X5_isSlot dX5_lies_1 (by decide) rfl (Nat.le_of_ble_eq_true rfl) ?_ rfl
  refine j_if_eq C 4 17 dX5_lies_4 (by decide) (fun c4 => ?_) (fun c4 => ?_)
  · exact jn_throw rfl
  · refine j_iload_n C 7 2 rfl dX5_lies_7 ?_
    refine j_iconst (v := 0) C 8 dX5_lies_8 rfl ?_
    refine j_bipush (v := 11) C 9 dX5_lies_9 rfl ?_
    refine j_bind (fun x11 h11 => ?_)
    refine j_callS_i (As := [.int a2, .int 0, .int 11]) (st := []) C k_X5_isWithin 11 (c_X5_isWithin C.2.2.2.2.2.2.1 (c := v) _ _ _ h11) rfl ml_X5_55 st_X5_isWithin dX5_lies_11 (by decide) rfl (Nat.le_of_ble_eq_true rfl) ?_ rfl
    refine j_if_ne C 14 27 dX5_lies_14 (by decide) (fun c14 => ?_) (fun c14 => ?_)
    · exact jn_throw rfl
    · refine j_aload_n C 27 0 rfl dX5_lies_27 ?_
      refine g_Sp0 C 28 (Or.inl fl_X5_12) dX5_lies_28 ?_
      refine g_St1 (k := 0) C (by decide) 31 (Or.inr ⟨_, fl_X5_125⟩) dX5_lies_31 ?_
      refine j_iload_n C 34 1 rfl dX5_lies_34 ?_
      refine j_iload_n C 35 2 rfl dX5_lies_35 ?_
      refine j_bind (fun x36 h36 => ?_)
      refine j_vLy_i (k := 0) (As := [.int a1, .int a2]) (st := []) C (by decide) k_X1_blockAt 36 (c_X1_blockAt C.2.2.2.2.2.2.1 (c := v) (k := 0) (by decide) _ rfl _ _ h36) rfl rfl ml_X5_229 ii_X1_blockAt is_X1_blockAt dX5_lies_36 (by decide) rfl (Nat.le_of_ble_eq_true rfl) ?_ rfl
      exact jn_iret C 39 hr rfl dX5_lies_39
theorem cn_X5_lies {G : GG} {l : Launch} (hG : Gok G) {w : VW} (v : VC) (a1 : Int32) (a2 : Int32) {x : Int32} (hf : f_X5_lies v a1 a2 = some (.inr x)) : Ct l yX5_lies cX5_lies 3 (some .int) 8 [.ref (G.2.2 0), .int a1, .int a2] G (v, w) (some (.int x)) ((v, w)) :=
  ctn_of (V := (v, w)) (fX := (fun x : (Nat ⊕ Int32) => Sum.elim (fun n => .inl (n, ((v, w) : VA))) (fun r => .inr (some (.int r), ((v, w) : VA))) x)) (own := RX5) hG (plainFor_of_name (by decide)) rfl (Nat.le_of_ble_eq_true rfl) (fun X C hr => wn_X5_lies C hr trivial v a1 a2) hf rfl
set_option maxRecDepth 100000 in
set_option maxHeartbeats 4000000 in
theorem w_X5_countOf {G : GG} {X : WX} {w : VW} (C : Cx G 2 X RX5 cX5_countOf 5) (hr : (xM X).sig.returnType = (some .int)) (v : VC) (a1 : Int32) : JS G 2 X (QM G X (fun x : Int32 => some (.int x)) (fun x : Int32 => ((v, w) : VA))) (f_X5_countOf v a1) (v, w) 0 [(0, .ref (G.2.2 0)), (1, .int a1)] [] := by
  unfold f_X5_countOf
  refine j_iload_n C 0 1 rfl dX5_countOf_0 ?_
  refine j_case (off := 59) C 1 60 dX5_countOf_1 (by decide) (by decide) (by decide) (fun c1_0 => ?_) (fun c1_0 => ?_)
  · refine j_aload_n C 60 0 rfl dX5_countOf_60 ?_
    refine g_Sp0 C 61 (Or.inl fl_X5_12) dX5_countOf_61 ?_
    refine g_St0 (k := 0) C (by decide) 64 (Or.inr ⟨_, fl_X5_64⟩) dX5_countOf_64 ?_
    refine j_bind (fun x67 h67 => ?_)
    refine j_vSk_i (k := 0) (As := []) (st := []) C (by decide) k_X3_pluggedOnes 67 (c_X3_pluggedOnes C.2.2.2.2.2.2.1 (c := v) (k := 0) (by decide) _ rfl h67) rfl rfl ml_X5_92 ii_X3_pluggedOnes is_X3_pluggedOnes dX5_countOf_67 (by decide) rfl (Nat.le_of_ble_eq_true rfl) ?_ rfl
    exact j_iret C 70 hr rfl rfl dX5_countOf_70
  · refine j_case (off := 70) C 1 71 dX5_countOf_1 (by decide) (by decide) (by decide) (fun c1_1 => ?_) (fun c1_1 => ?_)
    · refine j_aload_n C 71 0 rfl dX5_countOf_71 ?_
      refine g_Sp0 C 72 (Or.inl fl_X5_12) dX5_countOf_72 ?_
      refine g_St0 (k := 0) C (by decide) 75 (Or.inr ⟨_, fl_X5_64⟩) dX5_countOf_75 ?_
      refine j_bind (fun x78 h78 => ?_)
      refine j_vSk_i (k := 0) (As := []) (st := []) C (by decide) k_X3_failedOnes 78 (c_X3_failedOnes C.2.2.2.2.2.2.1 (c := v) (k := 0) (by decide) _ rfl h78) rfl rfl ml_X5_295 ii_X3_failedOnes is_X3_failedOnes dX5_countOf_78 (by decide) rfl (Nat.le_of_ble_eq_true rfl) ?_ rfl
      exact j_iret C 81 hr rfl rfl dX5_countOf_81
    · refine j_case (off := 81) C 1 82 dX5_countOf_1 (by decide) (by decide) (by decide) (fun c1_2 => ?_) (fun c1_2 => ?_)
      · refine j_aload_n C 82 0 rfl dX5_countOf_82 ?_
        refine g_Sp0 C 83 (Or.inl fl_X5_12) dX5_countOf_83 ?_
        refine g_St1 (k := 0) C (by decide) 86 (Or.inr ⟨_, fl_X5_125⟩) dX5_countOf_86 ?_
        refine g_Ly5 (k := 0) (c0 := v) C (by decide) rfl 89 (Or.inr ⟨_, fl_X5_128⟩) dX5_countOf_89 ?_
        exact j_iret C 92 hr rfl rfl dX5_countOf_92
      · refine j_case (off := 92) C 1 93 dX5_countOf_1 (by decide) (by decide) (by decide) (fun c1_3 => ?_) (fun c1_3 => ?_)
        · refine j_aload_n C 93 0 rfl dX5_countOf_93 ?_
          refine g_Sp0 C 94 (Or.inl fl_X5_12) dX5_countOf_94 ?_
          refine g_St1 (k := 0) C (by decide) 97 (Or.inr ⟨_, fl_X5_125⟩) dX5_countOf_97 ?_
          refine g_Ly6 (k := 0) (c0 := v) C (by decide) rfl 100 (Or.inr ⟨_, fl_X5_253⟩) dX5_countOf_100 ?_
          exact j_iret C 103 hr rfl rfl dX5_countOf_103
        · refine j_case (off := 103) C 1 104 dX5_countOf_1 (by decide) (by decide) (by decide) (fun c1_4 => ?_) (fun c1_4 => ?_)
          · refine j_aload_n C 104 0 rfl dX5_countOf_104 ?_
            refine g_Sp0 C 105 (Or.inl fl_X5_12) dX5_countOf_105 ?_
            refine g_St2 (k := 0) C (by decide) 108 (Or.inr ⟨_, fl_X5_85⟩) dX5_countOf_108 ?_
            refine g_Ck1 (k := 0) (c0 := v) C (by decide) rfl 111 (Or.inr ⟨_, fl_X5_164⟩) dX5_countOf_111 ?_
            exact j_iret C 114 hr rfl rfl dX5_countOf_114
          · refine j_case (off := 114) C 1 115 dX5_countOf_1 (by decide) (by decide) (by decide) (fun c1_5 => ?_) (fun c1_5 => ?_)
            · refine j_aload_n C 115 0 rfl dX5_countOf_115 ?_
              refine g_Sp0 C 116 (Or.inl fl_X5_12) dX5_countOf_116 ?_
              refine g_St6 (k := 0) (c0 := v) C (by decide) rfl 119 (Or.inr ⟨_, fl_X5_256⟩) dX5_countOf_119 ?_
              exact j_iret C 122 hr rfl rfl dX5_countOf_122
            · refine j_case (off := 122) C 1 123 dX5_countOf_1 (by decide) (by decide) (by decide) (fun c1_6 => ?_) (fun c1_6 => ?_)
              · refine j_aload_n C 123 0 rfl dX5_countOf_123 ?_
                refine g_Sp0 C 124 (Or.inl fl_X5_12) dX5_countOf_124 ?_
                refine g_St7 (k := 0) (c0 := v) C (by decide) rfl 127 (Or.inr ⟨_, fl_X5_298⟩) dX5_countOf_127 ?_
                exact j_iret C 130 hr rfl rfl dX5_countOf_130
              · refine j_case (off := 130) C 1 131 dX5_countOf_1 (by decide) (by decide) (by decide) (fun c1_7 => ?_) (fun c1_7 => ?_)
                · refine j_aload_n C 131 0 rfl dX5_countOf_131 ?_
                  refine g_Sp0 C 132 (Or.inl fl_X5_12) dX5_countOf_132 ?_
                  refine g_St2 (k := 0) C (by decide) 135 (Or.inr ⟨_, fl_X5_85⟩) dX5_countOf_135 ?_
                  refine g_Ck2 (k := 0) (c0 := v) C (by decide) rfl 138 (Or.inr ⟨_, fl_X5_301⟩) dX5_countOf_138 ?_
                  exact j_iret C 141 hr rfl rfl dX5_countOf_141
                · refine j_case (off := 141) C 1 142 dX5_countOf_1 (by decide) (by decide) (by decide) (fun c1_8 => ?_) (fun c1_8 => ?_)
                  · refine j_aload_n C 142 0 rfl dX5_countOf_142 ?_
                    refine g_Sp0 C 143 (Or.inl fl_X5_12) dX5_countOf_143 ?_
                    refine j_bind (fun x146 h146 => ?_)
                    refine j_vSt_i (k := 0) (As := []) (st := []) C (by decide) k_X2_lostBlocks 146 (c_X2_lostBlocks C.2.2.2.2.2.2.1 (c := v) (k := 0) (by decide) _ rfl h146) rfl rfl ml_X5_304 ii_X2_lostBlocks is_X2_lostBlocks dX5_countOf_146 (by decide) rfl (Nat.le_of_ble_eq_true rfl) ?_ rfl
                    exact j_iret C 149 hr rfl rfl dX5_countOf_149
                  · refine j_case (off := 149) C 1 150 dX5_countOf_1 (by decide) (by decide) (by decide) (fun c1_9 => ?_) (fun c1_9 => ?_)
                    · refine j_aload_n C 150 0 rfl dX5_countOf_150 ?_
                      refine g_Sp0 C 151 (Or.inl fl_X5_12) dX5_countOf_151 ?_
                      refine g_St8 (k := 0) (c0 := v) C (by decide) rfl 154 (Or.inr ⟨_, fl_X5_307⟩) dX5_countOf_154 ?_
                      exact j_iret C 157 hr rfl rfl dX5_countOf_157
                    · refine j_case (off := 157) C 1 158 dX5_countOf_1 (by decide) (by decide) (by decide) (fun c1_10 => ?_) (fun c1_10 => ?_)
                      · refine j_aload_n C 158 0 rfl dX5_countOf_158 ?_
                        refine g_Sp0 C 159 (Or.inl fl_X5_12) dX5_countOf_159 ?_
                        refine j_bind (fun x162 h162 => ?_)
                        refine j_vSt_i (k := 0) (As := []) (st := []) C (by decide) k_X2_sumOfValues 162 (c_X2_sumOfValues C.2.2.2.2.2.2.1 (c := v) (k := 0) (by decide) _ rfl h162) rfl rfl ml_X5_310 ii_X2_sumOfValues is_X2_sumOfValues dX5_countOf_162 (by decide) rfl (Nat.le_of_ble_eq_true rfl) ?_ rfl
                        exact j_iret C 165 hr rfl rfl dX5_countOf_165
                      · refine j_dflt C 1 166 dX5_countOf_1 (by decide) (fun z h1 h2 e => ?_) ?_
                        · rcases (show z = 0 ∨ z = 1 ∨ z = 2 ∨ z = 3 ∨ z = 4 ∨ z = 5 ∨ z = 6 ∨ z = 7 ∨ z = 8 ∨ z = 9 ∨ z = 10 by omega) with rfl | rfl | rfl | rfl | rfl | rfl | rfl | rfl | rfl | rfl | rfl
                          · exact c1_0 (Int32.toInt_inj.mp e)
                          · exact c1_1 (Int32.toInt_inj.mp e)
                          · exact c1_2 (Int32.toInt_inj.mp e)
                          · exact c1_3 (Int32.toInt_inj.mp e)
                          · exact c1_4 (Int32.toInt_inj.mp e)
                          · exact c1_5 (Int32.toInt_inj.mp e)
                          · exact c1_6 (Int32.toInt_inj.mp e)
                          · exact c1_7 (Int32.toInt_inj.mp e)
                          · exact c1_8 (Int32.toInt_inj.mp e)
                          · exact c1_9 (Int32.toInt_inj.mp e)
                          · exact c1_10 (Int32.toInt_inj.mp e)
                        · refine j_aload_n C 166 0 rfl dX5_countOf_166 ?_
                          refine g_Sp4 C 167 (Or.inl fl_X5_212) dX5_countOf_167 ?_
                          exact j_iret C 170 hr rfl rfl dX5_countOf_170
theorem c_X5_countOf {G : GG} {l : Launch} (hG : Gok G) {w : VW} (v : VC) (a1 : Int32) {x : Int32} (hf : f_X5_countOf v a1 = some x) : Ct l yX5_countOf cX5_countOf 2 (some .int) 5 [.ref (G.2.2 0), .int a1] G (v, w) (some (.int x)) (v, w) := by
  refine ct_of (rv := fun x : Int32 => (some (.int x))) (fin := fun x : Int32 => ((v, w) : VA)) (own := RX5) hG (plainFor_of_name (by decide)) rfl (Nat.le_of_ble_eq_true rfl) (fun X C hr _ => ?_) hf
  exact w_X5_countOf C hr v a1
set_option maxRecDepth 100000 in
set_option maxHeartbeats 4000000 in
theorem w_X5_count {G : GG} {X : WX} {sa : Nat → Nat} {w : VW} (C : Cx G 2 X RX5 cX5_count 8) (hr : (xM X).sig.returnType = (some .int)) (T : Thr G sa X) (v : VC) (a1 : Int32) : JS G 2 X (QX G X (fun x : (Nat ⊕ Int32) => Sum.elim (fun n => .inl (n, ((v, w) : VA))) (fun r => .inr (some (.int r), ((v, w) : VA))) x)) (f_X5_count v a1) (v, w) 0 [(0, .ref (G.2.2 0)), (1, .int a1)] [] := by
  unfold f_X5_count
  refine j_iload_n C 0 1 rfl dX5_count_0 ?_
  refine j_iconst (v := 0) C 1 dX5_count_1 rfl ?_
  refine j_bipush (v := 11) C 2 dX5_count_2 rfl ?_
  refine j_bind (fun x4 h4 => ?_)
  refine j_callS_i (As := [.int a1, .int 0, .int 11]) (st := []) C k_X5_isWithin 4 (c_X5_isWithin C.2.2.2.2.2.2.1 (c := v) _ _ _ h4) rfl ml_X5_55 st_X5_isWithin dX5_count_4 (by decide) rfl (Nat.le_of_ble_eq_true rfl) ?_ rfl
  refine j_if_ne C 7 20 dX5_count_7 (by decide) (fun c7 => ?_) (fun c7 => ?_)
  · exact jx_throw (text := "no such count") C T 2 10 (by decide) xk_2 xi_2 (by decide) xa_2 xo_2 dX5_count_10 dX5_count_13 dX5_count_14 dX5_count_16 dX5_count_19 (Nat.le_of_ble_eq_true rfl) (by decide) rfl
  · refine j_aload_n C 20 0 rfl dX5_count_20 ?_
    refine j_iload_n C 21 1 rfl dX5_count_21 ?_
    refine j_bind (fun x22 h22 => ?_)
    refine j_vSp_i (As := [.int a1]) (st := []) C k_X5_countOf 22 (c_X5_countOf C.2.2.2.2.2.2.1 _ _ h22) rfl rfl ml_X5_234 ii_X5_countOf is_X5_countOf dX5_count_22 (by decide) rfl (Nat.le_of_ble_eq_true rfl) ?_ rfl
    exact jx_iret C T 25 hr rfl dX5_count_25
theorem c_X5_count {G : GG} {l : Launch} {sa : Nat → Nat} (hG : Gok G) (hl : l.stackTraces = false) {w : VW} (v : VC) (a1 : Int32) {x : (Nat ⊕ Int32)} (hf : f_X5_count v a1 = some x) : CtX l yX5_count cX5_count 2 (some .int) 8 [.ref (G.2.2 0), .int a1] G sa (v, w) ((fun x : (Nat ⊕ Int32) => Sum.elim (fun n => .inl (n, ((v, w) : VA))) (fun r => .inr (some (.int r), ((v, w) : VA))) x) x) := by
  refine ctx_of (y := yX5_count) (as := [.ref (G.2.2 0), .int a1]) (nL := 2) (V := (v, w)) (x := x) (fX := (fun x : (Nat ⊕ Int32) => Sum.elim (fun n => .inl (n, ((v, w) : VA))) (fun r => .inr (some (.int r), ((v, w) : VA))) x)) (own := RX5) hG hl (by decide) rfl (Nat.le_of_ble_eq_true rfl) (fun X C hr T => ?_) hf
  exact w_X5_count C hr T v a1
set_option maxRecDepth 100000 in
set_option maxHeartbeats 4000000 in
theorem wn_X5_count {G : GG} {X : WX} {w : VW} (C : Cx G 2 X RX5 cX5_count 8) (hr : (xM X).sig.returnType = (some .int)) (T : True) (v : VC) (a1 : Int32) : JS G 2 X (QN G X (fun x : (Nat ⊕ Int32) => Sum.elim (fun n => .inl (n, ((v, w) : VA))) (fun r => .inr (some (.int r), ((v, w) : VA))) x)) (f_X5_count v a1) (v, w) 0 [(0, .ref (G.2.2 0)), (1, .int a1)] [] := by
  unfold f_X5_count
  refine j_iload_n C 0 1 rfl dX5_count_0 ?_
  refine j_iconst (v := 0) C 1 dX5_count_1 rfl ?_
  refine j_bipush (v := 11) C 2 dX5_count_2 rfl ?_
  refine j_bind (fun x4 h4 => ?_)
  refine j_callS_i (As := [.int a1, .int 0, .int 11]) (st := []) C k_X5_isWithin 4 (c_X5_isWithin C.2.2.2.2.2.2.1 (c := v) _ _ _ h4) rfl ml_X5_55 st_X5_isWithin dX5_count_4 (by decide) rfl (Nat.le_of_ble_eq_true rfl) ?_ rfl
  refine j_if_ne C 7 20 dX5_count_7 (by decide) (fun c7 => ?_) (fun c7 => ?_)
  · exact jn_throw rfl
  · refine j_aload_n C 20 0 rfl dX5_count_20 ?_
    refine j_iload_n C 21 1 rfl dX5_count_21 ?_
    refine j_bind (fun x22 h22 => ?_)
    refine j_vSp_i (As := [.int a1]) (st := []) C k_X5_countOf 22 (c_X5_countOf C.2.2.2.2.2.2.1 _ _ h22) rfl rfl ml_X5_234 ii_X5_countOf is_X5_countOf dX5_count_22 (by decide) rfl (Nat.le_of_ble_eq_true rfl) ?_ rfl
    exact jn_iret C 25 hr rfl dX5_count_25
theorem cn_X5_count {G : GG} {l : Launch} (hG : Gok G) {w : VW} (v : VC) (a1 : Int32) {x : Int32} (hf : f_X5_count v a1 = some (.inr x)) : Ct l yX5_count cX5_count 2 (some .int) 8 [.ref (G.2.2 0), .int a1] G (v, w) (some (.int x)) ((v, w)) :=
  ctn_of (V := (v, w)) (fX := (fun x : (Nat ⊕ Int32) => Sum.elim (fun n => .inl (n, ((v, w) : VA))) (fun r => .inr (some (.int r), ((v, w) : VA))) x)) (own := RX5) hG (plainFor_of_name (by decide)) rfl (Nat.le_of_ble_eq_true rfl) (fun X C hr => wn_X5_count C hr trivial v a1) hf rfl
set_option maxRecDepth 100000 in
set_option maxHeartbeats 4000000 in
theorem w_X5_setting {G : GG} {X : WX} {sa : Nat → Nat} {w : VW} (C : Cx G 2 X RX5 cX5_setting 8) (hr : (xM X).sig.returnType = (some .int)) (T : Thr G sa X) (v : VC) (a1 : Int32) : JS G 2 X (QX G X (fun x : (Nat ⊕ Int32) => Sum.elim (fun n => .inl (n, ((v, w) : VA))) (fun r => .inr (some (.int r), ((v, w) : VA))) x)) (f_X5_setting v a1) (v, w) 0 [(0, .ref (G.2.2 0)), (1, .int a1)] [] := by
  unfold f_X5_setting
  refine j_iload_n C 0 1 rfl dX5_setting_0 ?_
  refine j_iconst (v := 0) C 1 dX5_setting_1 rfl ?_
  refine j_iconst (v := 1) C 2 dX5_setting_2 rfl ?_
  refine j_bind (fun x3 h3 => ?_)
  refine j_callS_i (As := [.int a1, .int 0, .int 1]) (st := []) C k_X5_isWithin 3 (c_X5_isWithin C.2.2.2.2.2.2.1 (c := v) _ _ _ h3) rfl ml_X5_55 st_X5_isWithin dX5_setting_3 (by decide) rfl (Nat.le_of_ble_eq_true rfl) ?_ rfl
  refine j_if_ne C 6 19 dX5_setting_6 (by decide) (fun c6 => ?_) (fun c6 => ?_)
  · exact jx_throw (text := "no such setting") C T 1 9 (by decide) xk_1 xi_1 (by decide) xa_1 xo_1 dX5_setting_9 dX5_setting_12 dX5_setting_13 dX5_setting_15 dX5_setting_18 (Nat.le_of_ble_eq_true rfl) (by decide) rfl
  · refine j_aload_n C 19 0 rfl dX5_setting_19 ?_
    refine g_Sp0 C 20 (Or.inl fl_X5_12) dX5_setting_20 ?_
    refine j_iload_n C 23 1 rfl dX5_setting_23 ?_
    refine j_bind (fun x24 h24 => ?_)
    refine j_vSt_i (k := 0) (As := [.int a1]) (st := []) C (by decide) k_X2_settingOf 24 (c_X2_settingOf C.2.2.2.2.2.2.1 (c := v) (k := 0) (by decide) _ rfl _ h24) rfl rfl ml_X5_237 ii_X2_settingOf is_X2_settingOf dX5_setting_24 (by decide) rfl (Nat.le_of_ble_eq_true rfl) ?_ rfl
    exact jx_iret C T 27 hr rfl dX5_setting_27
theorem c_X5_setting {G : GG} {l : Launch} {sa : Nat → Nat} (hG : Gok G) (hl : l.stackTraces = false) {w : VW} (v : VC) (a1 : Int32) {x : (Nat ⊕ Int32)} (hf : f_X5_setting v a1 = some x) : CtX l yX5_setting cX5_setting 2 (some .int) 8 [.ref (G.2.2 0), .int a1] G sa (v, w) ((fun x : (Nat ⊕ Int32) => Sum.elim (fun n => .inl (n, ((v, w) : VA))) (fun r => .inr (some (.int r), ((v, w) : VA))) x) x) := by
  refine ctx_of (y := yX5_setting) (as := [.ref (G.2.2 0), .int a1]) (nL := 2) (V := (v, w)) (x := x) (fX := (fun x : (Nat ⊕ Int32) => Sum.elim (fun n => .inl (n, ((v, w) : VA))) (fun r => .inr (some (.int r), ((v, w) : VA))) x)) (own := RX5) hG hl (by decide) rfl (Nat.le_of_ble_eq_true rfl) (fun X C hr T => ?_) hf
  exact w_X5_setting C hr T v a1
set_option maxRecDepth 100000 in
set_option maxHeartbeats 4000000 in
theorem wn_X5_setting {G : GG} {X : WX} {w : VW} (C : Cx G 2 X RX5 cX5_setting 8) (hr : (xM X).sig.returnType = (some .int)) (T : True) (v : VC) (a1 : Int32) : JS G 2 X (QN G X (fun x : (Nat ⊕ Int32) => Sum.elim (fun n => .inl (n, ((v, w) : VA))) (fun r => .inr (some (.int r), ((v, w) : VA))) x)) (f_X5_setting v a1) (v, w) 0 [(0, .ref (G.2.2 0)), (1, .int a1)] [] := by
  unfold f_X5_setting
  refine j_iload_n C 0 1 rfl dX5_setting_0 ?_
  refine j_iconst (v := 0) C 1 dX5_setting_1 rfl ?_
  refine j_iconst (v := 1) C 2 dX5_setting_2 rfl ?_
  refine j_bind (fun x3 h3 => ?_)
  refine j_callS_i (As := [.int a1, .int 0, .int 1]) (st := []) C k_X5_isWithin 3 (c_X5_isWithin C.2.2.2.2.2.2.1 (c := v) _ _ _ h3) rfl ml_X5_55 st_X5_isWithin dX5_setting_3 (by decide) rfl (Nat.le_of_ble_eq_true rfl) ?_ rfl
  refine j_if_ne C 6 19 dX5_setting_6 (by decide) (fun c6 => ?_) (fun c6 => ?_)
  · exact jn_throw rfl
  · refine j_aload_n C 19 0 rfl dX5_setting_19 ?_
    refine g_Sp0 C 20 (Or.inl fl_X5_12) dX5_setting_20 ?_
    refine j_iload_n C 23 1 rfl dX5_setting_23 ?_
    refine j_bind (fun x24 h24 => ?_)
    refine j_vSt_i (k := 0) (As := [.int a1]) (st := []) C (by decide) k_X2_settingOf 24 (c_X2_settingOf C.2.2.2.2.2.2.1 (c := v) (k := 0) (by decide) _ rfl _ h24) rfl rfl ml_X5_237 ii_X2_settingOf is_X2_settingOf dX5_setting_24 (by decide) rfl (Nat.le_of_ble_eq_true rfl) ?_ rfl
    exact jn_iret C 27 hr rfl dX5_setting_27
theorem cn_X5_setting {G : GG} {l : Launch} (hG : Gok G) {w : VW} (v : VC) (a1 : Int32) {x : Int32} (hf : f_X5_setting v a1 = some (.inr x)) : Ct l yX5_setting cX5_setting 2 (some .int) 8 [.ref (G.2.2 0), .int a1] G (v, w) (some (.int x)) ((v, w)) :=
  ctn_of (V := (v, w)) (fX := (fun x : (Nat ⊕ Int32) => Sum.elim (fun n => .inl (n, ((v, w) : VA))) (fun r => .inr (some (.int r), ((v, w) : VA))) x)) (own := RX5) hG (plainFor_of_name (by decide)) rfl (Nat.le_of_ble_eq_true rfl) (fun X C hr => wn_X5_setting C hr trivial v a1) hf rfl
set_option maxRecDepth 100000 in
set_option maxHeartbeats 4000000 in
theorem w_X5_why {G : GG} {X : WX} {w : VW} (C : Cx G 1 X RX5 cX5_why 4) (hr : (xM X).sig.returnType = (some .int)) (v : VC) : JS G 1 X (QM G X (fun x : Int32 => some (.int x)) (fun x : Int32 => ((v, w) : VA))) (f_X5_why v) (v, w) 0 [(0, .ref (G.2.2 0))] [] := by
  unfold f_X5_why
  refine j_aload_n C 0 0 rfl dX5_why_0 ?_
  refine g_Sp0 C 1 (Or.inl fl_X5_12) dX5_why_1 ?_
  refine g_St0 (k := 0) C (by decide) 4 (Or.inr ⟨_, fl_X5_64⟩) dX5_why_4 ?_
  refine j_aload_n C 7 0 rfl dX5_why_7 ?_
  refine g_Sp0 C 8 (Or.inl fl_X5_12) dX5_why_8 ?_
  refine g_St4 (k := 0) (c0 := v) C (by decide) rfl 11 (Or.inr ⟨_, fl_X5_113⟩) dX5_why_11 ?_
  refine j_bind (fun x14 h14 => ?_)
  refine j_vSk_i (k := 0) (As := [.int (v.2.2.2.2.1 0).1]) (st := []) C (by decide) k_X3_hindrance 14 (c_X3_hindrance C.2.2.2.2.2.2.1 (c := v) (k := 0) (by decide) _ rfl _ h14) rfl rfl ml_X5_117 ii_X3_hindrance is_X3_hindrance dX5_why_14 (by decide) rfl (Nat.le_of_ble_eq_true rfl) ?_ rfl
  exact j_iret C 17 hr rfl rfl dX5_why_17
theorem c_X5_why {G : GG} {l : Launch} (hG : Gok G) {w : VW} (v : VC) {x : Int32} (hf : f_X5_why v = some x) : Ct l yX5_why cX5_why 1 (some .int) 4 [.ref (G.2.2 0)] G (v, w) (some (.int x)) (v, w) := by
  refine ct_of (rv := fun x : Int32 => (some (.int x))) (fin := fun x : Int32 => ((v, w) : VA)) (own := RX5) hG (plainFor_of_name (by decide)) rfl (Nat.le_of_ble_eq_true rfl) (fun X C hr _ => ?_) hf
  exact w_X5_why C hr v
set_option maxRecDepth 100000 in
set_option maxHeartbeats 4000000 in
theorem w_X5_trialRank {G : GG} {X : WX} {w : VW} (C : Cx G 2 X RX5 cX5_trialRank 3) (hr : (xM X).sig.returnType = (some .int)) (v : VC) (a1 : Int32) : JS G 2 X (QM G X (fun x : Int32 => some (.int x)) (fun x : Int32 => ((v, w) : VA))) (f_X5_trialRank v a1) (v, w) 0 [(0, .ref (G.2.2 0)), (1, .int a1)] [] := by
  unfold f_X5_trialRank
  refine j_aload_n C 0 0 rfl dX5_trialRank_0 ?_
  refine g_Sp0 C 1 (Or.inl fl_X5_12) dX5_trialRank_1 ?_
  refine g_St0 (k := 0) C (by decide) 4 (Or.inr ⟨_, fl_X5_64⟩) dX5_trialRank_4 ?_
  refine j_aload_n C 7 0 rfl dX5_trialRank_7 ?_
  refine g_Sp6 C 8 (Or.inl fl_X5_33) dX5_trialRank_8 ?_
  refine j_iload_n C 11 1 rfl dX5_trialRank_11 ?_
  refine j_bind (fun x12 h12 => ?_)
  refine j_vLy_i (k := 8) (As := [.int a1]) (st := [.ref (G.2.2 (22 + 7 * 0))]) C (by decide) k_X1_slotOf 12 (c_X1_slotOf C.2.2.2.2.2.2.1 (c := v) (k := 8) (by decide) _ rfl _ h12) rfl rfl ml_X5_336 ii_X1_slotOf is_X1_slotOf dX5_trialRank_12 (by decide) rfl (Nat.le_of_ble_eq_true rfl) ?_ rfl
  refine j_aload_n C 15 0 rfl dX5_trialRank_15 ?_
  refine g_Sp6 C 16 (Or.inl fl_X5_33) dX5_trialRank_16 ?_
  refine j_iload_n C 19 1 rfl dX5_trialRank_19 ?_
  refine j_bind (fun x20 h20 => ?_)
  refine j_vLy_i (k := 8) (As := [.int a1]) (st := [.int x12, .ref (G.2.2 (22 + 7 * 0))]) C (by decide) k_X1_numberOf 20 (c_X1_numberOf C.2.2.2.2.2.2.1 (c := v) (k := 8) (by decide) _ rfl _ h20) rfl rfl ml_X5_339 ii_X1_numberOf is_X1_numberOf dX5_trialRank_20 (by decide) rfl (Nat.le_of_ble_eq_true rfl) ?_ rfl
  refine j_bind (fun x23 h23 => ?_)
  refine j_vSk_i (k := 0) (As := [.int x12, .int x20]) (st := []) C (by decide) k_X3_rankRow 23 (c_X3_rankRow C.2.2.2.2.2.2.1 (c := v) (k := 0) (by decide) _ rfl _ _ h23) rfl rfl ml_X5_342 ii_X3_rankRow is_X3_rankRow dX5_trialRank_23 (by decide) rfl (Nat.le_of_ble_eq_true rfl) ?_ rfl
  exact j_iret C 26 hr rfl rfl dX5_trialRank_26
theorem c_X5_trialRank {G : GG} {l : Launch} (hG : Gok G) {w : VW} (v : VC) (a1 : Int32) {x : Int32} (hf : f_X5_trialRank v a1 = some x) : Ct l yX5_trialRank cX5_trialRank 2 (some .int) 3 [.ref (G.2.2 0), .int a1] G (v, w) (some (.int x)) (v, w) := by
  refine ct_of (rv := fun x : Int32 => (some (.int x))) (fin := fun x : Int32 => ((v, w) : VA)) (own := RX5) hG (plainFor_of_name (by decide)) rfl (Nat.le_of_ble_eq_true rfl) (fun X C hr _ => ?_) hf
  exact w_X5_trialRank C hr v a1
set_option maxRecDepth 100000 in
set_option maxHeartbeats 4000000 in
theorem w_X5_trialDelay {G : GG} {X : WX} {w : VW} (C : Cx G 2 X RX5 cX5_trialDelay 2) (hr : (xM X).sig.returnType = (some .int)) (v : VC) (a1 : Int32) : JS G 2 X (QM G X (fun x : Int32 => some (.int x)) (fun x : Int32 => ((v, w) : VA))) (f_X5_trialDelay v a1) (v, w) 0 [(0, .ref (G.2.2 0)), (1, .int a1)] [] := by
  unfold f_X5_trialDelay
  refine j_aload_n C 0 0 rfl dX5_trialDelay_0 ?_
  refine g_Sp0 C 1 (Or.inl fl_X5_12) dX5_trialDelay_1 ?_
  refine g_St0 (k := 0) C (by decide) 4 (Or.inr ⟨_, fl_X5_64⟩) dX5_trialDelay_4 ?_
  refine j_aload_n C 7 0 rfl dX5_trialDelay_7 ?_
  refine g_Sp6 C 8 (Or.inl fl_X5_33) dX5_trialDelay_8 ?_
  refine j_iload_n C 11 1 rfl dX5_trialDelay_11 ?_
  refine j_bind (fun x12 h12 => ?_)
  refine j_vLy_i (k := 8) (As := [.int a1]) (st := [.ref (G.2.2 (22 + 7 * 0))]) C (by decide) k_X1_slotOf 12 (c_X1_slotOf C.2.2.2.2.2.2.1 (c := v) (k := 8) (by decide) _ rfl _ h12) rfl rfl ml_X5_336 ii_X1_slotOf is_X1_slotOf dX5_trialDelay_12 (by decide) rfl (Nat.le_of_ble_eq_true rfl) ?_ rfl
  refine j_bind (fun x15 h15 => ?_)
  refine j_vSk_i (k := 0) (As := [.int x12]) (st := []) C (by decide) k_X3_delayIn 15 (c_X3_delayIn C.2.2.2.2.2.2.1 (c := v) (k := 0) (by decide) _ rfl _ h15) rfl rfl ml_X5_345 ii_X3_delayIn is_X3_delayIn dX5_trialDelay_15 (by decide) rfl (Nat.le_of_ble_eq_true rfl) ?_ rfl
  exact j_iret C 18 hr rfl rfl dX5_trialDelay_18
theorem c_X5_trialDelay {G : GG} {l : Launch} (hG : Gok G) {w : VW} (v : VC) (a1 : Int32) {x : Int32} (hf : f_X5_trialDelay v a1 = some x) : Ct l yX5_trialDelay cX5_trialDelay 2 (some .int) 2 [.ref (G.2.2 0), .int a1] G (v, w) (some (.int x)) (v, w) := by
  refine ct_of (rv := fun x : Int32 => (some (.int x))) (fin := fun x : Int32 => ((v, w) : VA)) (own := RX5) hG (plainFor_of_name (by decide)) rfl (Nat.le_of_ble_eq_true rfl) (fun X C hr _ => ?_) hf
  exact w_X5_trialDelay C hr v a1
set_option maxRecDepth 100000 in
set_option maxHeartbeats 4000000 in
theorem wl_X5_sweepTicks_42 {G : GG} {X : WX} {w : VW} (C : Cx G 6 X RX5 cX5_sweepTicks 4) (hr : (xM X).sig.returnType = (some .int)) : ∀ (n : Nat) (v : VC) (s3 : Int32), JS G 6 X (QM G X (fun x : (Int32 × VC) => some (.int x.1)) (fun x : (Int32 × VC) => ((x.2, w) : VA))) (l_X5_sweepTicks_42 n v s3) (v, w) 42 [(0, .ref (G.2.2 0)), (3, .int s3)] [] := by
  intro n
  induction n with
  | zero => intro _ _; exact j_none
  | succ n ih =>
    intro v s3
    unfold l_X5_sweepTicks_42
    refine j_iload_n C 42 1 rfl dX5_sweepTicks_42 ?_
    refine j_aload_n C 43 0 rfl dX5_sweepTicks_43 ?_
    refine g_Sp6 C 44 (Or.inl fl_X5_33) dX5_sweepTicks_44 ?_
    refine g_Ly5 (k := 8) (c0 := v) C (by decide) rfl 47 (Or.inr ⟨_, fl_X5_128⟩) dX5_sweepTicks_47 ?_
    refine j_icmp_ge C 50 131 dX5_sweepTicks_50 (by decide) (fun c50 => ?_) (fun c50 => ?_)
    · refine j_aload_n C 53 0 rfl dX5_sweepTicks_53 ?_
      refine j_iload_n C 54 1 rfl dX5_sweepTicks_54 ?_
      refine j_bind (fun x55 h55 => ?_)
      refine j_vSp_i (As := [.int s3]) (st := []) C k_X5_trialRank 55 (c_X5_trialRank C.2.2.2.2.2.2.1 _ _ h55) rfl rfl ml_X5_320 ii_X5_trialRank is_X5_trialRank dX5_sweepTicks_55 (by decide) rfl (Nat.le_of_ble_eq_true rfl) ?_ rfl
      refine j_istore (L1 := [(4, .int x55), (0, .ref (G.2.2 0)), (3, .int s3)]) C 58 dX5_sweepTicks_58 (by decide) rfl ?_
      refine j_aload_n C 60 1 rfl dX5_sweepTicks_60 ?_
      refine g_Sp6 C 61 (Or.inl fl_X5_33) dX5_sweepTicks_61 ?_
      refine j_iload_n C 64 2 rfl dX5_sweepTicks_64 ?_
      refine j_bind (fun x65 h65 => ?_)
      refine j_vLy_i (k := 8) (As := [.int s3]) (st := []) C (by decide) k_X1_beginsPair 65 (c_X1_beginsPair C.2.2.2.2.2.2.1 (c := v) (k := 8) (by decide) _ rfl _ h65) rfl rfl ml_X5_323 ii_X1_beginsPair is_X1_beginsPair dX5_sweepTicks_65 (by decide) rfl (Nat.le_of_ble_eq_true rfl) ?_ rfl
      refine j_if_eq C 68 108 dX5_sweepTicks_68 (by decide) (fun c68 => ?_) (fun c68 => ?_)
      · refine j_aload_n C 108 1 rfl dX5_sweepTicks_108 ?_
        refine g_Sp7 C 109 (Or.inl fl_X5_40) dX5_sweepTicks_109 ?_
        refine j_iload C 112 0 rfl dX5_sweepTicks_112 ?_
        refine j_aload_n C 114 1 rfl dX5_sweepTicks_114 ?_
        refine j_iload_n C 115 2 rfl dX5_sweepTicks_115 ?_
        refine j_bind (fun x116 h116 => ?_)
        refine j_vSp_i (As := [.int s3]) (st := [.int x55, .ref (G.2.2 (96 + 2 * 8))]) C k_X5_trialDelay 116 (c_X5_trialDelay C.2.2.2.2.2.2.1 _ _ h116) rfl rfl ml_X5_326 ii_X5_trialDelay is_X5_trialDelay dX5_sweepTicks_116 (by decide) rfl (Nat.le_of_ble_eq_true rfl) ?_ rfl
        refine j_bind (fun x119 h119 => ?_)
        refine j_vCk_v (k := 8) (As := [.int x55, .int x116]) (st := []) C (by decide) k_X0_readSingle 119 (c_X0_readSingle C.2.2.2.2.2.2.1 (c := v) (k := 8) (by decide) _ rfl _ _ h119) rfl rfl ml_X5_332 ii_X0_readSingle is_X0_readSingle dX5_sweepTicks_119 (by decide) rfl (Nat.le_of_ble_eq_true rfl) ?_ rfl
        refine j_V (V' := ((sCk v 8 x119), w)) rfl ?_
        refine j_iconst (v := 1) C 122 dX5_sweepTicks_122 rfl ?_
        refine j_istore_n (L1 := [(2, .int 1), (4, .int x55), (0, .ref (G.2.2 0)), (3, .int s3)]) C 123 rfl dX5_sweepTicks_123 (by decide) rfl ?_
        refine j_iload_n C 124 3 rfl dX5_sweepTicks_124 ?_
        refine j_iload_n C 125 0 rfl dX5_sweepTicks_125 ?_
        refine j_iadd C 126 dX5_sweepTicks_126 ?_
        refine j_istore_n (L1 := [(3, .int (s3 + 1)), (2, .int 1), (4, .int x55), (0, .ref (G.2.2 0))]) C 127 rfl dX5_sweepTicks_127 (by decide) rfl ?_
        refine j_goto C 128 42 dX5_sweepTicks_128 (by decide) ?_
        refine j_L (L' := [(0, .ref (G.2.2 0)), (3, .int (s3 + 1))]) [3, 0] rfl ?_
        exact ih (sCk v 8 x119) (s3 + 1)
      · refine j_aload_n C 71 1 rfl dX5_sweepTicks_71 ?_
        refine j_iload_n C 72 2 rfl dX5_sweepTicks_72 ?_
        refine j_iconst (v := 1) C 73 dX5_sweepTicks_73 rfl ?_
        refine j_iadd C 74 dX5_sweepTicks_74 ?_
        refine j_bind (fun x75 h75 => ?_)
        refine j_vSp_i (As := [.int (s3 + 1)]) (st := []) C k_X5_trialRank 75 (c_X5_trialRank C.2.2.2.2.2.2.1 _ _ h75) rfl rfl ml_X5_320 ii_X5_trialRank is_X5_trialRank dX5_sweepTicks_75 (by decide) rfl (Nat.le_of_ble_eq_true rfl) ?_ rfl
        refine j_istore (L1 := [(5, .int x75), (4, .int x55), (0, .ref (G.2.2 0)), (3, .int s3)]) C 78 dX5_sweepTicks_78 (by decide) rfl ?_
        refine j_aload_n C 80 2 rfl dX5_sweepTicks_80 ?_
        refine g_Sp7 C 81 (Or.inl fl_X5_40) dX5_sweepTicks_81 ?_
        refine j_iload C 84 1 rfl dX5_sweepTicks_84 ?_
        refine j_aload_n C 86 2 rfl dX5_sweepTicks_86 ?_
        refine j_iload_n C 87 3 rfl dX5_sweepTicks_87 ?_
        refine j_bind (fun x88 h88 => ?_)
        refine j_vSp_i (As := [.int s3]) (st := [.int x55, .ref (G.2.2 (96 + 2 * 8))]) C k_X5_trialDelay 88 (c_X5_trialDelay C.2.2.2.2.2.2.1 _ _ h88) rfl rfl ml_X5_326 ii_X5_trialDelay is_X5_trialDelay dX5_sweepTicks_88 (by decide) rfl (Nat.le_of_ble_eq_true rfl) ?_ rfl
        refine j_iload C 91 0 rfl dX5_sweepTicks_91 ?_
        refine j_aload_n C 93 2 rfl dX5_sweepTicks_93 ?_
        refine j_iload_n C 94 3 rfl dX5_sweepTicks_94 ?_
        refine j_iconst (v := 1) C 95 dX5_sweepTicks_95 rfl ?_
        refine j_iadd C 96 dX5_sweepTicks_96 ?_
        refine j_bind (fun x97 h97 => ?_)
        refine j_vSp_i (As := [.int (s3 + 1)]) (st := [.int x75, .int x88, .int x55, .ref (G.2.2 (96 + 2 * 8))]) C k_X5_trialDelay 97 (c_X5_trialDelay C.2.2.2.2.2.2.1 _ _ h97) rfl rfl ml_X5_326 ii_X5_trialDelay is_X5_trialDelay dX5_sweepTicks_97 (by decide) rfl (Nat.le_of_ble_eq_true rfl) ?_ rfl
        refine j_bind (fun x100 h100 => ?_)
        refine j_vCk_v (k := 8) (As := [.int x55, .int x88, .int x75, .int x97]) (st := []) C (by decide) k_X0_readPair 100 (c_X0_readPair C.2.2.2.2.2.2.1 (c := v) (k := 8) (by decide) _ rfl _ _ _ _ h100) rfl rfl ml_X5_329 ii_X0_readPair is_X0_readPair dX5_sweepTicks_100 (by decide) rfl (Nat.le_of_ble_eq_true rfl) ?_ rfl
        refine j_V (V' := ((sCk v 8 x100), w)) rfl ?_
        refine j_iconst (v := 2) C 103 dX5_sweepTicks_103 rfl ?_
        refine j_istore_n (L1 := [(2, .int 2), (5, .int x75), (4, .int x55), (0, .ref (G.2.2 0)), (3, .int s3)]) C 104 rfl dX5_sweepTicks_104 (by decide) rfl ?_
        refine j_goto C 105 124 dX5_sweepTicks_105 (by decide) ?_
        refine j_iload_n C 124 4 rfl dX5_sweepTicks_124 ?_
        refine j_iload_n C 125 0 rfl dX5_sweepTicks_125 ?_
        refine j_iadd C 126 dX5_sweepTicks_126 ?_
        refine j_istore_n (L1 := [(3, .int (s3 + 2)), (2, .int 2), (5, .int x75), (4, .int x55), (0, .ref (G.2.2 0))]) C 127 rfl dX5_sweepTicks_127 (by decide) rfl ?_
        refine j_goto C 128 42 dX5_sweepTicks_128 (by decide) ?_
        refine j_L (L' := [(0, .ref (G.2.2 0)), (3, .int (s3 + 2))]) [4, 0] rfl ?_
        exact ih (sCk v 8 x100) (s3 + 2)
    · refine j_aload_n C 131 0 rfl dX5_sweepTicks_131 ?_
      refine g_Sp7 C 132 (Or.inl fl_X5_40) dX5_sweepTicks_132 ?_
      refine g_Ck1 (k := 8) (c0 := v) C (by decide) rfl 135 (Or.inr ⟨_, fl_X5_164⟩) dX5_sweepTicks_135 ?_
      exact j_iret C 138 hr rfl rfl dX5_sweepTicks_138
set_option maxRecDepth 100000 in
set_option maxHeartbeats 4000000 in
theorem w_X5_sweepTicks {G : GG} {X : WX} {w : VW} (C : Cx G 6 X RX5 cX5_sweepTicks 4) (hr : (xM X).sig.returnType = (some .int)) (v : VC) (a1 : Int32) : JS G 6 X (QM G X (fun x : (Int32 × VC) => some (.int x.1)) (fun x : (Int32 × VC) => ((x.2, w) : VA))) (f_X5_sweepTicks v a1) (v, w) 0 [(0, .ref (G.2.2 0)), (1, .int a1)] [] := by
  unfold f_X5_sweepTicks
  refine j_aload_n C 0 0 rfl dX5_sweepTicks_0 ?_
  refine g_Sp0 C 1 (Or.inl fl_X5_12) dX5_sweepTicks_1 ?_
  refine g_St0 (k := 0) C (by decide) 4 (Or.inr ⟨_, fl_X5_64⟩) dX5_sweepTicks_4 ?_
  refine j_iload_n C 7 1 rfl dX5_sweepTicks_7 ?_
  refine j_bind (fun x8 h8 => ?_)
  refine j_vSk_i (k := 0) (As := [.int a1]) (st := []) C (by decide) k_X3_hindrance 8 (c_X3_hindrance C.2.2.2.2.2.2.1 (c := v) (k := 0) (by decide) _ rfl _ h8) rfl rfl ml_X5_117 ii_X3_hindrance is_X3_hindrance dX5_sweepTicks_8 (by decide) rfl (Nat.le_of_ble_eq_true rfl) ?_ rfl
  refine j_if_eq C 11 16 dX5_sweepTicks_11 (by decide) (fun c11 => ?_) (fun c11 => ?_)
  · refine j_aload_n C 16 0 rfl dX5_sweepTicks_16 ?_
    refine g_Sp6 C 17 (Or.inl fl_X5_33) dX5_sweepTicks_17 ?_
    refine j_iload_n C 20 1 rfl dX5_sweepTicks_20 ?_
    refine j_aload_n C 21 0 rfl dX5_sweepTicks_21 ?_
    refine g_Sp0 C 22 (Or.inl fl_X5_12) dX5_sweepTicks_22 ?_
    refine g_St0 (k := 0) C (by decide) 25 (Or.inr ⟨_, fl_X5_64⟩) dX5_sweepTicks_25 ?_
    refine j_bind (fun x28 h28 => ?_)
    refine j_vLy_v (k := 8) (As := [.int a1, .ref (G.2.2 (22 + 7 * 0))]) (st := []) C (by decide) k_X1_lay 28 (c_X1_lay C.2.2.2.2.2.2.1 (c := v) (k := 8) (by decide) _ rfl 0 (by decide) _ rfl _ h28) rfl rfl ml_X5_313 ii_X1_lay is_X1_lay dX5_sweepTicks_28 (by decide) rfl (Nat.le_of_ble_eq_true rfl) ?_ rfl
    refine j_V (V' := ((sLy v 8 x28), w)) rfl ?_
    refine j_aload_n C 31 0 rfl dX5_sweepTicks_31 ?_
    refine g_Sp7 C 32 (Or.inl fl_X5_40) dX5_sweepTicks_32 ?_
    refine j_bind (fun x35 h35 => ?_)
    refine j_vCk_v (k := 8) (As := []) (st := []) C (by decide) k_X0_reset 35 (c_X0_reset C.2.2.2.2.2.2.1 (c := (sLy v 8 x28)) (k := 8) (by decide) _ rfl h35) rfl rfl ml_X5_317 ii_X0_reset is_X0_reset dX5_sweepTicks_35 (by decide) rfl (Nat.le_of_ble_eq_true rfl) ?_ rfl
    refine j_V (V' := ((sCk (sLy v 8 x28) 8 x35), w)) rfl ?_
    refine j_iconst (v := 1) C 38 dX5_sweepTicks_38 rfl ?_
    refine j_istore_n (L1 := [(2, .int 1), (0, .ref (G.2.2 0)), (1, .int a1)]) C 39 rfl dX5_sweepTicks_39 (by decide) rfl ?_
    refine j_iconst (v := 0) C 40 dX5_sweepTicks_40 rfl ?_
    refine j_istore_n (L1 := [(3, .int 0), (2, .int 1), (0, .ref (G.2.2 0)), (1, .int a1)]) C 41 rfl dX5_sweepTicks_41 (by decide) rfl ?_
    refine j_L (L' := [(0, .ref (G.2.2 0)), (3, .int 0)]) [2, 0] rfl ?_
    exact wl_X5_sweepTicks_42 C hr FU (sCk (sLy v 8 x28) 8 x35) 0
  · refine j_iconst (v := (-1)) C 14 dX5_sweepTicks_14 rfl ?_
    exact j_iret C 15 hr rfl rfl dX5_sweepTicks_15
theorem c_X5_sweepTicks {G : GG} {l : Launch} (hG : Gok G) {w : VW} (v : VC) (a1 : Int32) {x : (Int32 × VC)} (hf : f_X5_sweepTicks v a1 = some x) : Ct l yX5_sweepTicks cX5_sweepTicks 6 (some .int) 4 [.ref (G.2.2 0), .int a1] G (v, w) (some (.int x.1)) (x.2, w) := by
  refine ct_of (rv := fun x : (Int32 × VC) => (some (.int x.1))) (fin := fun x : (Int32 × VC) => ((x.2, w) : VA)) (own := RX5) hG (plainFor_of_name (by decide)) rfl (Nat.le_of_ble_eq_true rfl) (fun X C hr _ => ?_) hf
  exact w_X5_sweepTicks C hr v a1
set_option maxRecDepth 100000 in
set_option maxHeartbeats 4000000 in
theorem w_X5_sweep {G : GG} {X : WX} {sa : Nat → Nat} {w : VW} (C : Cx G 2 X RX5 cX5_sweep 8) (hr : (xM X).sig.returnType = (some .int)) (T : Thr G sa X) (v : VC) (a1 : Int32) : JS G 2 X (QX G X (fun x : ((Nat × VC) ⊕ (Int32 × VC)) => Sum.elim (fun n => .inl (n.1, ((n.2, w) : VA))) (fun r => .inr (some (.int r.1), ((r.2, w) : VA))) x)) (f_X5_sweep v a1) (v, w) 0 [(0, .ref (G.2.2 0)), (1, .int a1)] [] := by
  unfold f_X5_sweep
  refine j_iload_n C 0 1 rfl dX5_sweep_0 ?_
  refine j_iconst (v := 0) C 1 dX5_sweep_1 rfl ?_
  refine j_iconst (v := 2) C 2 dX5_sweep_2 rfl ?_
  refine j_bind (fun x3 h3 => ?_)
  refine j_callS_i (As := [.int a1, .int 0, .int 2]) (st := []) C k_X5_isWithin 3 (c_X5_isWithin C.2.2.2.2.2.2.1 (c := v) _ _ _ h3) rfl ml_X5_55 st_X5_isWithin dX5_sweep_3 (by decide) rfl (Nat.le_of_ble_eq_true rfl) ?_ rfl
  refine j_if_ne C 6 19 dX5_sweep_6 (by decide) (fun c6 => ?_) (fun c6 => ?_)
  · exact jx_throw (text := "no such map") C T 2 9 (by decide) xk_2 xi_2 (by decide) xa_2 xo_2 dX5_sweep_9 dX5_sweep_12 dX5_sweep_13 dX5_sweep_15 dX5_sweep_18 (Nat.le_of_ble_eq_true rfl) (by decide) rfl
  · refine j_aload_n C 19 0 rfl dX5_sweep_19 ?_
    refine j_iload_n C 20 1 rfl dX5_sweep_20 ?_
    refine j_bind (fun x21 h21 => ?_)
    refine j_vSp_i (As := [.int a1]) (st := []) C k_X5_sweepTicks 21 (c_X5_sweepTicks C.2.2.2.2.2.2.1 _ _ h21) rfl rfl ml_X5_242 ii_X5_sweepTicks is_X5_sweepTicks dX5_sweep_21 (by decide) rfl (Nat.le_of_ble_eq_true rfl) ?_ rfl
    refine j_V (V' := (x21.2, w)) rfl ?_
    exact jx_iret C T 24 hr rfl dX5_sweep_24
theorem c_X5_sweep {G : GG} {l : Launch} {sa : Nat → Nat} (hG : Gok G) (hl : l.stackTraces = false) {w : VW} (v : VC) (a1 : Int32) {x : ((Nat × VC) ⊕ (Int32 × VC))} (hf : f_X5_sweep v a1 = some x) : CtX l yX5_sweep cX5_sweep 2 (some .int) 8 [.ref (G.2.2 0), .int a1] G sa (v, w) ((fun x : ((Nat × VC) ⊕ (Int32 × VC)) => Sum.elim (fun n => .inl (n.1, ((n.2, w) : VA))) (fun r => .inr (some (.int r.1), ((r.2, w) : VA))) x) x) := by
  refine ctx_of (y := yX5_sweep) (as := [.ref (G.2.2 0), .int a1]) (nL := 2) (V := (v, w)) (x := x) (fX := (fun x : ((Nat × VC) ⊕ (Int32 × VC)) => Sum.elim (fun n => .inl (n.1, ((n.2, w) : VA))) (fun r => .inr (some (.int r.1), ((r.2, w) : VA))) x)) (own := RX5) hG hl (by decide) rfl (Nat.le_of_ble_eq_true rfl) (fun X C hr T => ?_) hf
  exact w_X5_sweep C hr T v a1
set_option maxRecDepth 100000 in
set_option maxHeartbeats 4000000 in
theorem wn_X5_sweep {G : GG} {X : WX} {w : VW} (C : Cx G 2 X RX5 cX5_sweep 8) (hr : (xM X).sig.returnType = (some .int)) (T : True) (v : VC) (a1 : Int32) : JS G 2 X (QN G X (fun x : ((Nat × VC) ⊕ (Int32 × VC)) => Sum.elim (fun n => .inl (n.1, ((n.2, w) : VA))) (fun r => .inr (some (.int r.1), ((r.2, w) : VA))) x)) (f_X5_sweep v a1) (v, w) 0 [(0, .ref (G.2.2 0)), (1, .int a1)] [] := by
  unfold f_X5_sweep
  refine j_iload_n C 0 1 rfl dX5_sweep_0 ?_
  refine j_iconst (v := 0) C 1 dX5_sweep_1 rfl ?_
  refine j_iconst (v := 2) C 2 dX5_sweep_2 rfl ?_
  refine j_bind (fun x3 h3 => ?_)
  refine j_callS_i (As := [.int a1, .int 0, .int 2]) (st := []) C k_X5_isWithin 3 (c_X5_isWithin C.2.2.2.2.2.2.1 (c := v) _ _ _ h3) rfl ml_X5_55 st_X5_isWithin dX5_sweep_3 (by decide) rfl (Nat.le_of_ble_eq_true rfl) ?_ rfl
  refine j_if_ne C 6 19 dX5_sweep_6 (by decide) (fun c6 => ?_) (fun c6 => ?_)
  · exact jn_throw rfl
  · refine j_aload_n C 19 0 rfl dX5_sweep_19 ?_
    refine j_iload_n C 20 1 rfl dX5_sweep_20 ?_
    refine j_bind (fun x21 h21 => ?_)
    refine j_vSp_i (As := [.int a1]) (st := []) C k_X5_sweepTicks 21 (c_X5_sweepTicks C.2.2.2.2.2.2.1 _ _ h21) rfl rfl ml_X5_242 ii_X5_sweepTicks is_X5_sweepTicks dX5_sweep_21 (by decide) rfl (Nat.le_of_ble_eq_true rfl) ?_ rfl
    refine j_V (V' := (x21.2, w)) rfl ?_
    exact jn_iret C 24 hr rfl dX5_sweep_24
theorem cn_X5_sweep {G : GG} {l : Launch} (hG : Gok G) {w : VW} (v : VC) (a1 : Int32) {x : (Int32 × VC)} (hf : f_X5_sweep v a1 = some (.inr x)) : Ct l yX5_sweep cX5_sweep 2 (some .int) 8 [.ref (G.2.2 0), .int a1] G (v, w) (some (.int x.1)) ((x.2, w)) :=
  ctn_of (V := (v, w)) (fX := (fun x : ((Nat × VC) ⊕ (Int32 × VC)) => Sum.elim (fun n => .inl (n.1, ((n.2, w) : VA))) (fun r => .inr (some (.int r.1), ((r.2, w) : VA))) x)) (own := RX5) hG (plainFor_of_name (by decide)) rfl (Nat.le_of_ble_eq_true rfl) (fun X C hr => wn_X5_sweep C hr trivial v a1) hf rfl
set_option maxRecDepth 100000 in
set_option maxHeartbeats 4000000 in
theorem w_X5_blocksIfStarted {G : GG} {X : WX} {w : VW} (C : Cx G 3 X RX5 cX5_blocksIfStarted 4) (hr : (xM X).sig.returnType = (some .int)) (v : VC) (a1 : Int32) (a2 : Int32) : JS G 3 X (QM G X (fun x : (Int32 × VC) => some (.int x.1)) (fun x : (Int32 × VC) => ((x.2, w) : VA))) (f_X5_blocksIfStarted v a1 a2) (v, w) 0 [(0, .ref (G.2.2 0)), (1, .int a1), (2, .int a2)] [] := by
  unfold f_X5_blocksIfStarted
  refine j_aload_n C 0 0 rfl dX5_blocksIfStarted_0 ?_
  refine g_Sp0 C 1 (Or.inl fl_X5_12) dX5_blocksIfStarted_1 ?_
  refine g_St0 (k := 0) C (by decide) 4 (Or.inr ⟨_, fl_X5_64⟩) dX5_blocksIfStarted_4 ?_
  refine j_iload_n C 7 1 rfl dX5_blocksIfStarted_7 ?_
  refine j_bind (fun x8 h8 => ?_)
  refine j_vSk_i (k := 0) (As := [.int a1]) (st := []) C (by decide) k_X3_hindrance 8 (c_X3_hindrance C.2.2.2.2.2.2.1 (c := v) (k := 0) (by decide) _ rfl _ h8) rfl rfl ml_X5_117 ii_X3_hindrance is_X3_hindrance dX5_blocksIfStarted_8 (by decide) rfl (Nat.le_of_ble_eq_true rfl) ?_ rfl
  refine j_if_eq C 11 16 dX5_blocksIfStarted_11 (by decide) (fun c11 => ?_) (fun c11 => ?_)
  · refine j_aload_n C 16 0 rfl dX5_blocksIfStarted_16 ?_
    refine g_Sp6 C 17 (Or.inl fl_X5_33) dX5_blocksIfStarted_17 ?_
    refine j_iload_n C 20 1 rfl dX5_blocksIfStarted_20 ?_
    refine j_aload_n C 21 0 rfl dX5_blocksIfStarted_21 ?_
    refine g_Sp0 C 22 (Or.inl fl_X5_12) dX5_blocksIfStarted_22 ?_
    refine g_St0 (k := 0) C (by decide) 25 (Or.inr ⟨_, fl_X5_64⟩) dX5_blocksIfStarted_25 ?_
    refine j_bind (fun x28 h28 => ?_)
    refine j_vLy_v (k := 8) (As := [.int a1, .ref (G.2.2 (22 + 7 * 0))]) (st := []) C (by decide) k_X1_lay 28 (c_X1_lay C.2.2.2.2.2.2.1 (c := v) (k := 8) (by decide) _ rfl 0 (by decide) _ rfl _ h28) rfl rfl ml_X5_313 ii_X1_lay is_X1_lay dX5_blocksIfStarted_28 (by decide) rfl (Nat.le_of_ble_eq_true rfl) ?_ rfl
    refine j_V (V' := ((sLy v 8 x28), w)) rfl ?_
    refine j_iload_n C 31 2 rfl dX5_blocksIfStarted_31 ?_
    refine j_if_ne C 32 45 dX5_blocksIfStarted_32 (by decide) (fun c32 => ?_) (fun c32 => ?_)
    · refine j_aload_n C 35 0 rfl dX5_blocksIfStarted_35 ?_
      refine g_Sp6 C 36 (Or.inl fl_X5_33) dX5_blocksIfStarted_36 ?_
      refine g_Ly5 (k := 8) (c0 := (sLy v 8 x28)) C (by decide) rfl 39 (Or.inr ⟨_, fl_X5_128⟩) dX5_blocksIfStarted_39 ?_
      refine j_goto C 42 52 dX5_blocksIfStarted_42 (by decide) ?_
      exact j_iret C 52 hr rfl rfl dX5_blocksIfStarted_52
    · refine j_aload_n C 45 0 rfl dX5_blocksIfStarted_45 ?_
      refine g_Sp6 C 46 (Or.inl fl_X5_33) dX5_blocksIfStarted_46 ?_
      refine g_Ly6 (k := 8) (c0 := (sLy v 8 x28)) C (by decide) rfl 49 (Or.inr ⟨_, fl_X5_253⟩) dX5_blocksIfStarted_49 ?_
      exact j_iret C 52 hr rfl rfl dX5_blocksIfStarted_52
  · refine j_iconst (v := 0) C 14 dX5_blocksIfStarted_14 rfl ?_
    exact j_iret C 15 hr rfl rfl dX5_blocksIfStarted_15
theorem c_X5_blocksIfStarted {G : GG} {l : Launch} (hG : Gok G) {w : VW} (v : VC) (a1 : Int32) (a2 : Int32) {x : (Int32 × VC)} (hf : f_X5_blocksIfStarted v a1 a2 = some x) : Ct l yX5_blocksIfStarted cX5_blocksIfStarted 3 (some .int) 4 [.ref (G.2.2 0), .int a1, .int a2] G (v, w) (some (.int x.1)) (x.2, w) := by
  refine ct_of (rv := fun x : (Int32 × VC) => (some (.int x.1))) (fin := fun x : (Int32 × VC) => ((x.2, w) : VA)) (own := RX5) hG (plainFor_of_name (by decide)) rfl (Nat.le_of_ble_eq_true rfl) (fun X C hr _ => ?_) hf
  exact w_X5_blocksIfStarted C hr v a1 a2
set_option maxRecDepth 100000 in
set_option maxHeartbeats 4000000 in
theorem w_X5_ifStarted {G : GG} {X : WX} {sa : Nat → Nat} {w : VW} (C : Cx G 3 X RX5 cX5_ifStarted 8) (hr : (xM X).sig.returnType = (some .int)) (T : Thr G sa X) (v : VC) (a1 : Int32) (a2 : Int32) : JS G 3 X (QX G X (fun x : ((Nat × VC) ⊕ (Int32 × VC)) => Sum.elim (fun n => .inl (n.1, ((n.2, w) : VA))) (fun r => .inr (some (.int r.1), ((r.2, w) : VA))) x)) (f_X5_ifStarted v a1 a2) (v, w) 0 [(0, .ref (G.2.2 0)), (1, .int a1), (2, .int a2)] [] := by
  unfold f_X5_ifStarted
  refine j_iload_n C 0 1 rfl dX5_ifStarted_0 ?_
  refine j_iconst (v := 0) C 1 dX5_ifStarted_1 rfl ?_
  refine j_iconst (v := 2) C 2 dX5_ifStarted_2 rfl ?_
  refine j_bind (fun x3 h3 => ?_)
  refine j_callS_i (As := [.int a1, .int 0, .int 2]) (st := []) C k_X5_isWithin 3 (c_X5_isWithin C.2.2.2.2.2.2.1 (c := v) _ _ _ h3) rfl ml_X5_55 st_X5_isWithin dX5_ifStarted_3 (by decide) rfl (Nat.le_of_ble_eq_true rfl) ?_ rfl
  refine j_if_eq C 6 18 dX5_ifStarted_6 (by decide) (fun c6 => ?_) (fun c6 => ?_)
  · exact jx_throw (text := "no such map or number") C T 2 18 (by decide) xk_2 xi_2 (by decide) xa_2 xo_2 dX5_ifStarted_18 dX5_ifStarted_21 dX5_ifStarted_22 dX5_ifStarted_24 dX5_ifStarted_27 (Nat.le_of_ble_eq_true rfl) (by decide) rfl
  · refine j_iload_n C 9 2 rfl dX5_ifStarted_9 ?_
    refine j_iconst (v := 0) C 10 dX5_ifStarted_10 rfl ?_
    refine j_iconst (v := 1) C 11 dX5_ifStarted_11 rfl ?_
    refine j_bind (fun x12 h12 => ?_)
    refine j_callS_i (As := [.int a2, .int 0, .int 1]) (st := []) C k_X5_isWithin 12 (c_X5_isWithin C.2.2.2.2.2.2.1 (c := v) _ _ _ h12) rfl ml_X5_55 st_X5_isWithin dX5_ifStarted_12 (by decide) rfl (Nat.le_of_ble_eq_true rfl) ?_ rfl
    refine j_if_ne C 15 28 dX5_ifStarted_15 (by decide) (fun c15 => ?_) (fun c15 => ?_)
    · exact jx_throw (text := "no such map or number") C T 2 18 (by decide) xk_2 xi_2 (by decide) xa_2 xo_2 dX5_ifStarted_18 dX5_ifStarted_21 dX5_ifStarted_22 dX5_ifStarted_24 dX5_ifStarted_27 (Nat.le_of_ble_eq_true rfl) (by decide) rfl
    · refine j_aload_n C 28 0 rfl dX5_ifStarted_28 ?_
      refine j_iload_n C 29 1 rfl dX5_ifStarted_29 ?_
      refine j_iload_n C 30 2 rfl dX5_ifStarted_30 ?_
      refine j_bind (fun x31 h31 => ?_)
      refine j_vSp_i (As := [.int a1, .int a2]) (st := []) C k_X5_blocksIfStarted 31 (c_X5_blocksIfStarted C.2.2.2.2.2.2.1 _ _ _ h31) rfl rfl ml_X5_247 ii_X5_blocksIfStarted is_X5_blocksIfStarted dX5_ifStarted_31 (by decide) rfl (Nat.le_of_ble_eq_true rfl) ?_ rfl
      refine j_V (V' := (x31.2, w)) rfl ?_
      exact jx_iret C T 34 hr rfl dX5_ifStarted_34
theorem c_X5_ifStarted {G : GG} {l : Launch} {sa : Nat → Nat} (hG : Gok G) (hl : l.stackTraces = false) {w : VW} (v : VC) (a1 : Int32) (a2 : Int32) {x : ((Nat × VC) ⊕ (Int32 × VC))} (hf : f_X5_ifStarted v a1 a2 = some x) : CtX l yX5_ifStarted cX5_ifStarted 3 (some .int) 8 [.ref (G.2.2 0), .int a1, .int a2] G sa (v, w) ((fun x : ((Nat × VC) ⊕ (Int32 × VC)) => Sum.elim (fun n => .inl (n.1, ((n.2, w) : VA))) (fun r => .inr (some (.int r.1), ((r.2, w) : VA))) x) x) := by
  refine ctx_of (y := yX5_ifStarted) (as := [.ref (G.2.2 0), .int a1, .int a2]) (nL := 3) (V := (v, w)) (x := x) (fX := (fun x : ((Nat × VC) ⊕ (Int32 × VC)) => Sum.elim (fun n => .inl (n.1, ((n.2, w) : VA))) (fun r => .inr (some (.int r.1), ((r.2, w) : VA))) x)) (own := RX5) hG hl (by decide) rfl (Nat.le_of_ble_eq_true rfl) (fun X C hr T => ?_) hf
  exact w_X5_ifStarted C hr T v a1 a2
set_option maxRecDepth 100000 in
set_option maxHeartbeats 4000000 in
theorem wn_X5_ifStarted {G : GG} {X : WX} {w : VW} (C : Cx G 3 X RX5 cX5_ifStarted 8) (hr : (xM X).sig.returnType = (some .int)) (T : True) (v : VC) (a1 : Int32) (a2 : Int32) : JS G 3 X (QN G X (fun x : ((Nat × VC) ⊕ (Int32 × VC)) => Sum.elim (fun n => .inl (n.1, ((n.2, w) : VA))) (fun r => .inr (some (.int r.1), ((r.2, w) : VA))) x)) (f_X5_ifStarted v a1 a2) (v, w) 0 [(0, .ref (G.2.2 0)), (1, .int a1), (2, .int a2)] [] := by
  unfold f_X5_ifStarted
  refine j_iload_n C 0 1 rfl dX5_ifStarted_0 ?_
  refine j_iconst (v := 0) C 1 dX5_ifStarted_1 rfl ?_
  refine j_iconst (v := 2) C 2 dX5_ifStarted_2 rfl ?_
  refine j_bind (fun x3 h3 => ?_)
  refine j_callS_i (As := [.int a1, .int 0, .int 2]) (st := []) C k_X5_isWithin 3 (c_X5_isWithin C.2.2.2.2.2.2.1 (c := v) _ _ _ h3) rfl ml_X5_55 st_X5_isWithin dX5_ifStarted_3 (by decide) rfl (Nat.le_of_ble_eq_true rfl) ?_ rfl
  refine j_if_eq C 6 18 dX5_ifStarted_6 (by decide) (fun c6 => ?_) (fun c6 => ?_)
  · exact jn_throw rfl
  · refine j_iload_n C 9 2 rfl dX5_ifStarted_9 ?_
    refine j_iconst (v := 0) C 10 dX5_ifStarted_10 rfl ?_
    refine j_iconst (v := 1) C 11 dX5_ifStarted_11 rfl ?_
    refine j_bind (fun x12 h12 => ?_)
    refine j_callS_i (As := [.int a2, .int 0, .int 1]) (st := []) C k_X5_isWithin 12 (c_X5_isWithin C.2.2.2.2.2.2.1 (c := v) _ _ _ h12) rfl ml_X5_55 st_X5_isWithin dX5_ifStarted_12 (by decide) rfl (Nat.le_of_ble_eq_true rfl) ?_ rfl
    refine j_if_ne C 15 28 dX5_ifStarted_15 (by decide) (fun c15 => ?_) (fun c15 => ?_)
    · exact jn_throw rfl
    · refine j_aload_n C 28 0 rfl dX5_ifStarted_28 ?_
      refine j_iload_n C 29 1 rfl dX5_ifStarted_29 ?_
      refine j_iload_n C 30 2 rfl dX5_ifStarted_30 ?_
      refine j_bind (fun x31 h31 => ?_)
      refine j_vSp_i (As := [.int a1, .int a2]) (st := []) C k_X5_blocksIfStarted 31 (c_X5_blocksIfStarted C.2.2.2.2.2.2.1 _ _ _ h31) rfl rfl ml_X5_247 ii_X5_blocksIfStarted is_X5_blocksIfStarted dX5_ifStarted_31 (by decide) rfl (Nat.le_of_ble_eq_true rfl) ?_ rfl
      refine j_V (V' := (x31.2, w)) rfl ?_
      exact jn_iret C 34 hr rfl dX5_ifStarted_34
theorem cn_X5_ifStarted {G : GG} {l : Launch} (hG : Gok G) {w : VW} (v : VC) (a1 : Int32) (a2 : Int32) {x : (Int32 × VC)} (hf : f_X5_ifStarted v a1 a2 = some (.inr x)) : Ct l yX5_ifStarted cX5_ifStarted 3 (some .int) 8 [.ref (G.2.2 0), .int a1, .int a2] G (v, w) (some (.int x.1)) ((x.2, w)) :=
  ctn_of (V := (v, w)) (fX := (fun x : ((Nat × VC) ⊕ (Int32 × VC)) => Sum.elim (fun n => .inl (n.1, ((n.2, w) : VA))) (fun r => .inr (some (.int r.1), ((r.2, w) : VA))) x)) (own := RX5) hG (plainFor_of_name (by decide)) rfl (Nat.le_of_ble_eq_true rfl) (fun X C hr => wn_X5_ifStarted C hr trivial v a1 a2) hf rfl
set_option maxRecDepth 100000 in
set_option maxHeartbeats 4000000 in
theorem wl_X5_bestChange_27 {G : GG} {X : WX} {w : VW} (C : Cx G 6 X RX5 cX5_bestChange 4) (hr : (xM X).sig.returnType = (some .int)) (v : VC) (K17 : Int32 → Int32 → Int32 → Option Int32) (hK17 : ∀ (s1 : Int32) (s2 : Int32) (s3 : Int32), JS G 6 X (QM G X (fun x : Int32 => some (.int x)) (fun x : Int32 => ((v, w) : VA))) (K17 s1 s2 s3) (v, w) 17 [(0, .ref (G.2.2 0)), (1, .int s1), (2, .int s2), (3, .int s3)] []) : ∀ (n : Nat) (s1 : Int32) (s2 : Int32) (s3 : Int32) (s4 : Int32), JS G 6 X (QM G X (fun x : Int32 => some (.int x)) (fun x : Int32 => ((v, w) : VA))) (l_X5_bestChange_27 v K17 n s1 s2 s3 s4) (v, w) 27 [(0, .ref (G.2.2 0)), (1, .int s1), (2, .int s2), (3, .int s3), (4, .int s4)] [] := by
  intro n
  induction n with
  | zero => intro _ _ _ _; exact j_none
  | succ n ih =>
    intro s1 s2 s3 s4
    unfold l_X5_bestChange_27
    refine j_iload C 27 4 rfl dX5_bestChange_27 ?_
    refine j_iconst (v := 4) C 29 dX5_bestChange_29 rfl ?_
    refine j_icmp_ge C 30 70 dX5_bestChange_30 (by decide) (fun c30 => ?_) (fun c30 => ?_)
    · refine j_aload_n C 33 0 rfl dX5_bestChange_33 ?_
      refine g_Sp0 C 34 (Or.inl fl_X5_12) dX5_bestChange_34 ?_
      refine g_St0 (k := 0) C (by decide) 37 (Or.inr ⟨_, fl_X5_64⟩) dX5_bestChange_37 ?_
      refine j_iload_n C 40 3 rfl dX5_bestChange_40 ?_
      refine j_iload C 41 4 rfl dX5_bestChange_41 ?_
      refine j_bind (fun x43 h43 => ?_)
      refine j_vSk_i (k := 0) (As := [.int s3, .int s4]) (st := []) C (by decide) k_X3_wideIfChanged 43 (c_X3_wideIfChanged C.2.2.2.2.2.2.1 (c := v) (k := 0) (by decide) _ rfl _ _ h43) rfl rfl ml_X5_250 ii_X3_wideIfChanged is_X3_wideIfChanged dX5_bestChange_43 (by decide) rfl (Nat.le_of_ble_eq_true rfl) ?_ rfl
      refine j_istore (L1 := [(5, .int x43), (0, .ref (G.2.2 0)), (1, .int s1), (2, .int s2), (3, .int s3), (4, .int s4)]) C 46 dX5_bestChange_46 (by decide) rfl ?_
      refine j_iload C 48 0 rfl dX5_bestChange_48 ?_
      refine j_iload_n C 50 3 rfl dX5_bestChange_50 ?_
      refine j_icmp_le C 51 64 dX5_bestChange_51 (by decide) (fun c51 => ?_) (fun c51 => ?_)
      · refine j_iload C 54 0 rfl dX5_bestChange_54 ?_
        refine j_istore_n (L1 := [(2, .int x43), (5, .int x43), (0, .ref (G.2.2 0)), (1, .int s1), (3, .int s3), (4, .int s4)]) C 56 rfl dX5_bestChange_56 (by decide) rfl ?_
        refine j_iconst (v := 4) C 57 dX5_bestChange_57 rfl ?_
        refine j_iload_n C 58 4 rfl dX5_bestChange_58 ?_
        refine j_imul C 59 dX5_bestChange_59 ?_
        refine j_iload C 60 5 rfl dX5_bestChange_60 ?_
        refine j_iadd C 62 dX5_bestChange_62 ?_
        refine j_istore_n (L1 := [(1, .int ((4 * s3) + s4)), (2, .int x43), (5, .int x43), (0, .ref (G.2.2 0)), (3, .int s3), (4, .int s4)]) C 63 rfl dX5_bestChange_63 (by decide) rfl ?_
        refine j_iinc (v := (s4 + 1)) (L1 := [(4, .int (s4 + 1)), (1, .int ((4 * s3) + s4)), (2, .int x43), (5, .int x43), (0, .ref (G.2.2 0)), (3, .int s3)]) C 64 5 rfl dX5_bestChange_64 rfl (by decide) rfl ?_
        refine j_goto C 67 27 dX5_bestChange_67 (by decide) ?_
        refine j_L (L' := [(0, .ref (G.2.2 0)), (1, .int ((4 * s3) + s4)), (2, .int x43), (3, .int s3), (4, .int (s4 + 1))]) [4, 1, 2, 5, 0] rfl ?_
        exact ih ((4 * s3) + s4) x43 s3 (s4 + 1)
      · refine j_iinc (v := (s4 + 1)) (L1 := [(4, .int (s4 + 1)), (5, .int x43), (0, .ref (G.2.2 0)), (1, .int s1), (2, .int s2), (3, .int s3)]) C 64 5 rfl dX5_bestChange_64 rfl (by decide) rfl ?_
        refine j_goto C 67 27 dX5_bestChange_67 (by decide) ?_
        refine j_L (L' := [(0, .ref (G.2.2 0)), (1, .int s1), (2, .int s2), (3, .int s3), (4, .int (s4 + 1))]) [2, 3, 4, 5, 0] rfl ?_
        exact ih s1 s2 s3 (s4 + 1)
    · refine j_iinc (v := (s3 + 1)) (L1 := [(3, .int (s3 + 1)), (0, .ref (G.2.2 0)), (1, .int s1), (2, .int s2), (4, .int s4)]) C 70 3 rfl dX5_bestChange_70 rfl (by decide) rfl ?_
      refine j_goto C 73 17 dX5_bestChange_73 (by decide) ?_
      refine j_L (L' := [(0, .ref (G.2.2 0)), (1, .int s1), (2, .int s2), (3, .int (s3 + 1))]) [1, 2, 3, 0] rfl ?_
      exact hK17 s1 s2 (s3 + 1)
set_option maxRecDepth 100000 in
set_option maxHeartbeats 4000000 in
theorem wl_X5_bestChange_17 {G : GG} {X : WX} {w : VW} (C : Cx G 6 X RX5 cX5_bestChange 4) (hr : (xM X).sig.returnType = (some .int)) (v : VC) : ∀ (n : Nat) (s1 : Int32) (s2 : Int32) (s3 : Int32), JS G 6 X (QM G X (fun x : Int32 => some (.int x)) (fun x : Int32 => ((v, w) : VA))) (l_X5_bestChange_17 v n s1 s2 s3) (v, w) 17 [(0, .ref (G.2.2 0)), (1, .int s1), (2, .int s2), (3, .int s3)] [] := by
  intro n
  induction n with
  | zero => intro _ _ _; exact j_none
  | succ n ih =>
    intro s1 s2 s3
    unfold l_X5_bestChange_17
    refine j_iload_n C 17 3 rfl dX5_bestChange_17 ?_
    refine j_iconst (v := 4) C 18 dX5_bestChange_18 rfl ?_
    refine j_icmp_ge C 19 76 dX5_bestChange_19 (by decide) (fun c19 => ?_) (fun c19 => ?_)
    · refine j_iload_n C 22 3 rfl dX5_bestChange_22 ?_
      refine j_iconst (v := 1) C 23 dX5_bestChange_23 rfl ?_
      refine j_iadd C 24 dX5_bestChange_24 ?_
      refine j_istore (L1 := [(4, .int (s3 + 1)), (0, .ref (G.2.2 0)), (1, .int s1), (2, .int s2), (3, .int s3)]) C 25 dX5_bestChange_25 (by decide) rfl ?_
      refine j_L (L' := [(0, .ref (G.2.2 0)), (1, .int s1), (2, .int s2), (3, .int s3), (4, .int (s3 + 1))]) [1, 2, 3, 4, 0] rfl ?_
      exact wl_X5_bestChange_27 C hr v _ ih FU s1 s2 s3 (s3 + 1)
    · refine j_iload_n C 76 1 rfl dX5_bestChange_76 ?_
      exact j_iret C 77 hr rfl rfl dX5_bestChange_77
set_option maxRecDepth 100000 in
set_option maxHeartbeats 4000000 in
theorem w_X5_bestChange {G : GG} {X : WX} {w : VW} (C : Cx G 6 X RX5 cX5_bestChange 4) (hr : (xM X).sig.returnType = (some .int)) (v : VC) : JS G 6 X (QM G X (fun x : Int32 => some (.int x)) (fun x : Int32 => ((v, w) : VA))) (f_X5_bestChange v) (v, w) 0 [(0, .ref (G.2.2 0))] [] := by
  unfold f_X5_bestChange
  refine j_iconst (v := (-1)) C 0 dX5_bestChange_0 rfl ?_
  refine j_istore_n (L1 := [(1, .int (-1)), (0, .ref (G.2.2 0))]) C 1 rfl dX5_bestChange_1 (by decide) rfl ?_
  refine j_aload_n C 2 1 rfl dX5_bestChange_2 ?_
  refine g_Sp0 C 3 (Or.inl fl_X5_12) dX5_bestChange_3 ?_
  refine g_St0 (k := 0) C (by decide) 6 (Or.inr ⟨_, fl_X5_64⟩) dX5_bestChange_6 ?_
  refine j_iconst (v := 0) C 9 dX5_bestChange_9 rfl ?_
  refine j_iconst (v := 0) C 10 dX5_bestChange_10 rfl ?_
  refine j_bind (fun x11 h11 => ?_)
  refine j_vSk_i (k := 0) (As := [.int 0, .int 0]) (st := []) C (by decide) k_X3_wideIfChanged 11 (c_X3_wideIfChanged C.2.2.2.2.2.2.1 (c := v) (k := 0) (by decide) _ rfl _ _ h11) rfl rfl ml_X5_250 ii_X3_wideIfChanged is_X3_wideIfChanged dX5_bestChange_11 (by decide) rfl (Nat.le_of_ble_eq_true rfl) ?_ rfl
  refine j_istore_n (L1 := [(2, .int x11), (1, .int (-1)), (0, .ref (G.2.2 0))]) C 14 rfl dX5_bestChange_14 (by decide) rfl ?_
  refine j_iconst (v := 0) C 15 dX5_bestChange_15 rfl ?_
  refine j_istore_n (L1 := [(3, .int 0), (2, .int x11), (1, .int (-1)), (0, .ref (G.2.2 0))]) C 16 rfl dX5_bestChange_16 (by decide) rfl ?_
  refine j_L (L' := [(0, .ref (G.2.2 0)), (1, .int (-1)), (2, .int x11), (3, .int 0)]) [3, 2, 1, 0] rfl ?_
  exact wl_X5_bestChange_17 C hr v FU (-1) x11 0
theorem c_X5_bestChange {G : GG} {l : Launch} (hG : Gok G) {w : VW} (v : VC) {x : Int32} (hf : f_X5_bestChange v = some x) : Ct l yX5_bestChange cX5_bestChange 6 (some .int) 4 [.ref (G.2.2 0)] G (v, w) (some (.int x)) (v, w) := by
  refine ct_of (rv := fun x : Int32 => (some (.int x))) (fin := fun x : Int32 => ((v, w) : VA)) (own := RX5) hG (plainFor_of_name (by decide)) rfl (Nat.le_of_ble_eq_true rfl) (fun X C hr _ => ?_) hf
  exact w_X5_bestChange C hr v
set_option maxRecDepth 100000 in
set_option maxHeartbeats 4000000 in
theorem w_X5_wideShare {G : GG} {X : WX} {w : VW} (C : Cx G 2 X RX5 cX5_wideShare 0) (hr : (xM X).sig.returnType = (some .double)) (v : VC) : JS G 2 X (QM G X (fun x : UInt64 => some (.double x)) (fun x : UInt64 => ((v, w) : VA))) (f_X5_wideShare v) (v, w) 0 [(0, .ref (G.2.2 0))] [] := by
  unfold f_X5_wideShare
  refine j_aload_n C 0 0 rfl dX5_wideShare_0 ?_
  refine g_Sp0 C 1 (Or.inl fl_X5_12) dX5_wideShare_1 ?_
  refine g_St1 (k := 0) C (by decide) 4 (Or.inr ⟨_, fl_X5_125⟩) dX5_wideShare_4 ?_
  refine g_Ly5 (k := 0) (c0 := v) C (by decide) rfl 7 (Or.inr ⟨_, fl_X5_128⟩) dX5_wideShare_7 ?_
  refine j_istore_n (L1 := [(1, .int (v.2.1 0).2.2.2.2.2.1), (0, .ref (G.2.2 0))]) C 10 rfl dX5_wideShare_10 (by decide) rfl ?_
  refine j_iload_n C 11 0 rfl dX5_wideShare_11 ?_
  refine j_if_ne C 12 19 dX5_wideShare_12 (by decide) (fun c12 => ?_) (fun c12 => ?_)
  · refine j_dconst0 C 15 dX5_wideShare_15 ?_
    refine j_goto C 16 33 dX5_wideShare_16 (by decide) ?_
    exact j_dret C 33 hr rfl rfl dX5_wideShare_33
  · refine j_aload_n C 19 1 rfl dX5_wideShare_19 ?_
    refine g_Sp0 C 20 (Or.inl fl_X5_12) dX5_wideShare_20 ?_
    refine g_St1 (k := 0) C (by decide) 23 (Or.inr ⟨_, fl_X5_125⟩) dX5_wideShare_23 ?_
    refine g_Ly6 (k := 0) (c0 := v) C (by decide) rfl 26 (Or.inr ⟨_, fl_X5_253⟩) dX5_wideShare_26 ?_
    refine j_i2d C 29 dX5_wideShare_29 ?_
    refine j_iload_n C 30 0 rfl dX5_wideShare_30 ?_
    refine j_i2d C 31 dX5_wideShare_31 ?_
    refine j_bind (fun x32 h32 => ?_)
    refine j_ddiv C 32 h32 dX5_wideShare_32 ?_
    exact j_dret C 33 hr rfl rfl dX5_wideShare_33
theorem c_X5_wideShare {G : GG} {l : Launch} (hG : Gok G) {w : VW} (v : VC) {x : UInt64} (hf : f_X5_wideShare v = some x) : Ct l yX5_wideShare cX5_wideShare 2 (some .double) 0 [.ref (G.2.2 0)] G (v, w) (some (.double x)) (v, w) := by
  refine ct_of (rv := fun x : UInt64 => (some (.double x))) (fin := fun x : UInt64 => ((v, w) : VA)) (own := RX5) hG (plainFor_of_name (by decide)) rfl (Nat.le_of_ble_eq_true rfl) (fun X C hr _ => ?_) hf
  exact w_X5_wideShare C hr v
set_option maxRecDepth 100000 in
set_option maxHeartbeats 4000000 in
theorem w_X5_meanTicks {G : GG} {X : WX} {w : VW} (C : Cx G 2 X RX5 cX5_meanTicks 0) (hr : (xM X).sig.returnType = (some .float)) (v : VC) : JS G 2 X (QM G X (fun x : UInt32 => some (.float x)) (fun x : UInt32 => ((v, w) : VA))) (f_X5_meanTicks v) (v, w) 0 [(0, .ref (G.2.2 0))] [] := by
  unfold f_X5_meanTicks
  refine j_aload_n C 0 0 rfl dX5_meanTicks_0 ?_
  refine g_Sp0 C 1 (Or.inl fl_X5_12) dX5_meanTicks_1 ?_
  refine g_St6 (k := 0) (c0 := v) C (by decide) rfl 4 (Or.inr ⟨_, fl_X5_256⟩) dX5_meanTicks_4 ?_
  refine j_istore_n (L1 := [(1, .int (v.2.2.2.2.1 0).2.2.1), (0, .ref (G.2.2 0))]) C 7 rfl dX5_meanTicks_7 (by decide) rfl ?_
  refine j_iload_n C 8 0 rfl dX5_meanTicks_8 ?_
  refine j_if_ne C 9 16 dX5_meanTicks_9 (by decide) (fun c9 => ?_) (fun c9 => ?_)
  · refine j_fconst0 C 12 dX5_meanTicks_12 ?_
    refine j_goto C 13 30 dX5_meanTicks_13 (by decide) ?_
    exact j_fret C 30 hr rfl rfl dX5_meanTicks_30
  · refine j_aload_n C 16 1 rfl dX5_meanTicks_16 ?_
    refine g_Sp0 C 17 (Or.inl fl_X5_12) dX5_meanTicks_17 ?_
    refine g_St2 (k := 0) C (by decide) 20 (Or.inr ⟨_, fl_X5_85⟩) dX5_meanTicks_20 ?_
    refine g_Ck1 (k := 0) (c0 := v) C (by decide) rfl 23 (Or.inr ⟨_, fl_X5_164⟩) dX5_meanTicks_23 ?_
    refine j_i2f C 26 dX5_meanTicks_26 ?_
    refine j_iload_n C 27 0 rfl dX5_meanTicks_27 ?_
    refine j_i2f C 28 dX5_meanTicks_28 ?_
    refine j_bind (fun x29 h29 => ?_)
    refine j_fdiv C 29 h29 dX5_meanTicks_29 ?_
    exact j_fret C 30 hr rfl rfl dX5_meanTicks_30
theorem c_X5_meanTicks {G : GG} {l : Launch} (hG : Gok G) {w : VW} (v : VC) {x : UInt32} (hf : f_X5_meanTicks v = some x) : Ct l yX5_meanTicks cX5_meanTicks 2 (some .float) 0 [.ref (G.2.2 0)] G (v, w) (some (.float x)) (v, w) := by
  refine ct_of (rv := fun x : UInt32 => (some (.float x))) (fin := fun x : UInt32 => ((v, w) : VA)) (own := RX5) hG (plainFor_of_name (by decide)) rfl (Nat.le_of_ble_eq_true rfl) (fun X C hr _ => ?_) hf
  exact w_X5_meanTicks C hr v
