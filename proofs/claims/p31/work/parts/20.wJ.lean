set_option maxRecDepth 100000 in
set_option maxHeartbeats 4000000 in
theorem w_J9_min_7cf53 {G : GG} {X : WX} {c : VC} {w : VW} (C : Cx G 2 X RJ9 cJ9_min_7cf53 0) (hr : (xM X).sig.returnType = (some .int)) (a0 : Int32) (a1 : Int32) : JS G 2 X (QM G X (fun x : Int32 => some (.int x)) (fun x : Int32 => ((c, w) : VA))) (f_J9_min_7cf53 a0 a1) (c, w) 0 [(0, .int a0), (1, .int a1)] [] := by
  unfold f_J9_min_7cf53
  refine j_iload_n C 0 0 rfl dJ9_min_7cf53_0 ?_
  refine j_iload_n C 1 1 rfl dJ9_min_7cf53_1 ?_
  refine j_icmp_gt C 2 9 dJ9_min_7cf53_2 (by decide) (fun c2 => ?_) (fun c2 => ?_)
  · refine j_iload_n C 9 1 rfl dJ9_min_7cf53_9 ?_
    exact j_iret C 10 hr rfl rfl dJ9_min_7cf53_10
  · refine j_iload_n C 5 0 rfl dJ9_min_7cf53_5 ?_
    refine j_goto C 6 10 dJ9_min_7cf53_6 (by decide) ?_
    exact j_iret C 10 hr rfl rfl dJ9_min_7cf53_10
theorem c_J9_min_7cf53 {G : GG} {l : Launch} (hG : Gok G) {c : VC} {w : VW} (a0 : Int32) (a1 : Int32) {x : Int32} (hf : f_J9_min_7cf53 a0 a1 = some x) : Ct l yJ9_min_7cf53 cJ9_min_7cf53 2 (some .int) 0 [.int a0, .int a1] G (c, w) (some (.int x)) (c, w) := by
  refine ct_of (rv := fun x : Int32 => (some (.int x))) (fin := fun x : Int32 => ((c, w) : VA)) (own := RJ9) hG (by decide +kernel) rfl (Nat.le_of_ble_eq_true rfl) (fun X C hr _ => ?_) hf
  exact w_J9_min_7cf53 C hr a0 a1
