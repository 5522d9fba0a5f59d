set_option maxRecDepth 100000 in
set_option maxHeartbeats 4000000 in
theorem w_X5_isSlot {G : GG} {X : WX} {c : VC} {w : VW} (C : Cx G 1 X RX5 cX5_isSlot 0) (hr : (xM X).sig.returnType = (some .boolean)) (a0 : Int32) : JS G 1 X (QM G X (fun x : Int32 => some (.int x)) (fun x : Int32 => ((c, w) : VA))) (f_X5_isSlot a0) (c, w) 0 [(0, .int a0)] [] := by
  unfold f_X5_isSlot
  refine j_iload_n C 0 0 rfl dX5_isSlot_0 ?_
  refine j_if_lt C 1 13 dX5_isSlot_1 (by decide) (fun c1 => ?_) (fun c1 => ?_)
  · refine j_iconst (v := 0) C 13 dX5_isSlot_13 rfl ?_
    exact j_zret C 14 hr rfl rfl rfl dX5_isSlot_14
  · refine j_iload_n C 4 0 rfl dX5_isSlot_4 ?_
    refine j_iconst (v := 4) C 5 dX5_isSlot_5 rfl ?_
    refine j_icmp_ge C 6 13 dX5_isSlot_6 (by decide) (fun c6 => ?_) (fun c6 => ?_)
    · refine j_iconst (v := 1) C 9 dX5_isSlot_9 rfl ?_
      refine j_goto C 10 14 dX5_isSlot_10 (by decide) ?_
      exact j_zret C 14 hr rfl rfl rfl dX5_isSlot_14
    · refine j_iconst (v := 0) C 13 dX5_isSlot_13 rfl ?_
      exact j_zret C 14 hr rfl rfl rfl dX5_isSlot_14
theorem c_X5_isSlot {G : GG} {l : Launch} (hG : Gok G) {c : VC} {w : VW} (a0 : Int32) {x : Int32} (hf : f_X5_isSlot a0 = some x) : Ct l yX5_isSlot cX5_isSlot 1 (some .boolean) 0 [.int a0] G (c, w) (some (.int x)) (c, w) := by
  refine ct_of (rv := fun x : Int32 => (some (.int x))) (fin := fun x : Int32 => ((c, w) : VA)) (own := RX5) hG (plainFor_of_name (by decide)) rfl (Nat.le_of_ble_eq_true rfl) (fun X C hr _ => ?_) hf
  exact w_X5_isSlot C hr a0
set_option maxRecDepth 100000 in
set_option maxHeartbeats 4000000 in
theorem w_X5_isWithin {G : GG} {X : WX} {c : VC} {w : VW} (C : Cx G 3 X RX5 cX5_isWithin 0) (hr : (xM X).sig.returnType = (some .boolean)) (a0 : Int32) (a1 : Int32) (a2 : Int32) : JS G 3 X (QM G X (fun x : Int32 => some (.int x)) (fun x : Int32 => ((c, w) : VA))) (f_X5_isWithin a0 a1 a2) (c, w) 0 [(0, .int a0), (1, .int a1), (2, .int a2)] [] := by
  unfold f_X5_isWithin
  refine j_iload_n C 0 0 rfl dX5_isWithin_0 ?_
  refine j_iload_n C 1 1 rfl dX5_isWithin_1 ?_
  refine j_icmp_lt C 2 14 dX5_isWithin_2 (by decide) (fun c2 => ?_) (fun c2 => ?_)
  · refine j_iconst (v := 0) C 14 dX5_isWithin_14 rfl ?_
    exact j_zret C 15 hr rfl rfl rfl dX5_isWithin_15
  · refine j_iload_n C 5 0 rfl dX5_isWithin_5 ?_
    refine j_iload_n C 6 2 rfl dX5_isWithin_6 ?_
    refine j_icmp_gt C 7 14 dX5_isWithin_7 (by decide) (fun c7 => ?_) (fun c7 => ?_)
    · refine j_iconst (v := 0) C 14 dX5_isWithin_14 rfl ?_
      exact j_zret C 15 hr rfl rfl rfl dX5_isWithin_15
    · refine j_iconst (v := 1) C 10 dX5_isWithin_10 rfl ?_
      refine j_goto C 11 15 dX5_isWithin_11 (by decide) ?_
      exact j_zret C 15 hr rfl rfl rfl dX5_isWithin_15
theorem c_X5_isWithin {G : GG} {l : Launch} (hG : Gok G) {c : VC} {w : VW} (a0 : Int32) (a1 : Int32) (a2 : Int32) {x : Int32} (hf : f_X5_isWithin a0 a1 a2 = some x) : Ct l yX5_isWithin cX5_isWithin 3 (some .boolean) 0 [.int a0, .int a1, .int a2] G (c, w) (some (.int x)) (c, w) := by
  refine ct_of (rv := fun x : Int32 => (some (.int x))) (fin := fun x : Int32 => ((c, w) : VA)) (own := RX5) hG (plainFor_of_name (by decide)) rfl (Nat.le_of_ble_eq_true rfl) (fun X C hr _ => ?_) hf
  exact w_X5_isWithin C hr a0 a1 a2
set_option maxRecDepth 100000 in
set_option maxHeartbeats 4000000 in
theorem w_X5_entry {G : GG} {X : WX} {c : VC} {w : VW} (C : Cx G 2 X RX5 cX5_entry 0) (hr : (xM X).sig.returnType = (some .int)) (n0 : Nat) (f0 : Nat → Int32) (q0 : Nat) (hq0 : q0 < nG G) (hc0 : cellA G.2.1 G.2.2 (c, w) q0 = cI (G.2.1 0) n0 f0) (a1 : Int32) : JS G 2 X (QM G X (fun x : Int32 => some (.int x)) (fun x : Int32 => ((c, w) : VA))) (f_X5_entry n0 f0 a1) (c, w) 0 [(0, .ref (G.2.2 q0)), (1, .int a1)] [] := by
  unfold f_X5_entry
  refine j_iload_n C 0 1 rfl dX5_entry_0 ?_
  refine j_if_lt C 1 16 dX5_entry_1 (by decide) (fun c1 => ?_) (fun c1 => ?_)
  · refine j_iconst (v := 0) C 16 dX5_entry_16 rfl ?_
    exact j_iret C 17 hr rfl rfl dX5_entry_17
  · refine j_iload_n C 4 1 rfl dX5_entry_4 ?_
    refine j_aload_n C 5 0 rfl dX5_entry_5 ?_
    refine j_alen C 6 q0 hq0 rfl hc0 rfl dX5_entry_6 ?_
    refine j_icmp_ge C 7 16 dX5_entry_7 (by decide) (fun c7 => ?_) (fun c7 => ?_)
    · refine j_aload_n C 10 0 rfl dX5_entry_10 ?_
      refine j_iload_n C 11 1 rfl dX5_entry_11 ?_
      refine j_bind (fun x12 h12 => ?_)
      refine j_iald C 12 q0 hq0 rfl hc0 h12 dX5_entry_12 ?_
      refine j_goto C 13 17 dX5_entry_13 (by decide) ?_
      exact j_iret C 17 hr rfl rfl dX5_entry_17
    · refine j_iconst (v := 0) C 16 dX5_entry_16 rfl ?_
      exact j_iret C 17 hr rfl rfl dX5_entry_17
theorem c_X5_entry {G : GG} {l : Launch} (hG : Gok G) {c : VC} {w : VW} (n0 : Nat) (f0 : Nat → Int32) (q0 : Nat) (hq0 : q0 < nG G) (hc0 : cellA G.2.1 G.2.2 (c, w) q0 = cI (G.2.1 0) n0 f0) (a1 : Int32) {x : Int32} (hf : f_X5_entry n0 f0 a1 = some x) : Ct l yX5_entry cX5_entry 2 (some .int) 0 [.ref (G.2.2 q0), .int a1] G (c, w) (some (.int x)) (c, w) := by
  refine ct_of (rv := fun x : Int32 => (some (.int x))) (fin := fun x : Int32 => ((c, w) : VA)) (own := RX5) hG (plainFor_of_name (by decide)) rfl (Nat.le_of_ble_eq_true rfl) (fun X C hr _ => ?_) hf
  exact w_X5_entry C hr n0 f0 q0 hq0 hc0 a1
