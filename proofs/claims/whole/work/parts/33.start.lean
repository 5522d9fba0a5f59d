theorem kic_X5 : Cond.code yX5_init cX5_init 2 none ∈ gw := gwm (i := 103) (by decide +kernel) (by decide +kernel)
theorem kii_X5 : Cond.initialized RX5 ∈ gw := gwm (i := 80) (by decide +kernel) (by decide +kernel)
theorem kin_X5 : Cond.instanceMethod yX5_init ∈ gw := gwm (i := 102) (by decide +kernel) (by decide +kernel)
theorem kI_X5 : KYI yX5_init cX5_init 2 := ⟨kic_X5, kii_X5, by decide, by decide +kernel, rfl, kin_X5⟩
theorem in_X5 : Cond.instantiable RX5 8 ∈ gw := gwm (i := 100) (by decide +kernel) (by decide +kernel)
theorem cl_L_8 : Cond.classLink RL 8 RX5 ∈ gw := gwm (i := 99) (by decide +kernel) (by decide +kernel)
theorem mi_L_79 : Cond.methodLink RL 79 yX5_init ∈ gw := gwm (i := 101) (by decide +kernel) (by decide +kernel)
theorem kic_X6 : Cond.code yX6_init cX6_init 1 none ∈ gw := gwm (i := 1023) (by decide +kernel) (by decide +kernel)
theorem kii_X6 : Cond.initialized RX6 ∈ gw := gwm (i := 86) (by decide +kernel) (by decide +kernel)
theorem kin_X6 : Cond.instanceMethod yX6_init ∈ gw := gwm (i := 1022) (by decide +kernel) (by decide +kernel)
theorem kI_X6 : KYI yX6_init cX6_init 1 := ⟨kic_X6, kii_X6, by decide, by decide +kernel, rfl, kin_X6⟩
theorem in_X6 : Cond.instantiable RX6 11 ∈ gw := gwm (i := 1020) (by decide +kernel) (by decide +kernel)
theorem cl_L_80 : Cond.classLink RL 80 RX6 ∈ gw := gwm (i := 1019) (by decide +kernel) (by decide +kernel)
theorem mi_L_82 : Cond.methodLink RL 82 yX6_init ∈ gw := gwm (i := 1021) (by decide +kernel) (by decide +kernel)

theorem xupn_eq : ∀ (n : Nat) (X : WX), xupn n X = (xp X, xl X, xe X, xR X, xs X, xm X, xa X, xb X, xM X, xc X, xk X + n, xz X + 6 * n)
  | 0, X => rfl
  | n + 1, X => by
    rw [xupn_s, xupn_eq n (xup X)]
    show (xp X, xl X, xe X, xR X, xs X, xm X, xa X, xb X, xM X, xc X, xk X + 1 + n, xz X + 6 + 6 * n) = _
    rw [show xk X + 1 + n = xk X + (n + 1) by omega, show xz X + 6 + 6 * n = xz X + 6 * (n + 1) by omega]
def VC0 : VC := (fun _ => (fun _ => 0, fun _ => 0, fun _ => 0, fun _ => 0, fun _ => 0, fun _ => 0), fun _ => (-1, fun _ => 0, 0, 0, 0, 0, 0), fun _ => (fun _ => 0, 0, 0), fun _ _ => 0, fun _ => (0, 1, 0, 0, 0), (fun _ => 0, 0, fun _ => 0, fun _ => 0, 0, 0, 0), (0, 0, fun i => 2 + i))
def VM0 : VM := (0, z0, fun _ => 0, fun _ => 0, 0, fun _ => 0, 0, fun _ => 0, 0, 0, 0)
def VA0 : VA := (VC0, (VM0, fun _ => 0))
theorem exB_1 : exN 1 = "java/lang/IndexOutOfBoundsException" := rfl
theorem arrV_congr (cA : ClassId) (n : Nat) {f g : Nat → Value} (h : ∀ i, i < n → f i = g i) : arrV cA n f = arrV cA n g := by
  unfold arrV
  congr 1
  apply Array.ext
  · simp
  · intro i h1 h2
    simp only [Array.getElem_ofFn]
    exact h i (by simpa using h1)
theorem va_Pconv {D : va_G} {cl : List vw_C} {w w' : va_W} {H : Heap} (h : va_P D cl w H) (he : ∀ (k : Nat) (q : Nat × va_E), w'[k]? = some q → w[k]? = some q ∨ ∃ (cA : ClassId) (n : Nat) (f g : Nat → Option Nat), w[k]? = some (q.1, .inl (cA, n, .inr (.inr (.inr (.inr f))))) ∧ q.2 = .inl (cA, n, .inr (.inr (.inr (.inr g)))) ∧ ∀ i, i < n → f i = g i) : va_P D cl w' H := by
  intro k q hq
  rcases he k q hq with h1 | ⟨cA, n, f, g, h1, h2, h3⟩
  · exact h k q h1
  · have h4 := h k _ h1
    obtain ⟨a, e⟩ := q
    dsimp only at h2
    subst h2
    show H[a]? = some (vp_cell cA (n, .inr (.inr (.inr (.inr g)))))
    have h5 : H[a]? = some (vp_cell cA (n, .inr (.inr (.inr (.inr f))))) := h4
    rw [h5, vp_cell_q, vp_cell_q, arrV_congr cA n (fun i hi => by rw [h3 i hi])]
theorem va_Dconv {A : Nat → Prop} {w w' : va_W} (h : va_D A w) (he : ∀ (k : Nat) (q : Nat × va_E), w'[k]? = some q → ∃ e, w[k]? = some (q.1, e)) : va_D A w' :=
  ⟨fun i j p q hi hj e => by
    obtain ⟨e1, h1⟩ := he i p hi
    obtain ⟨e2, h2⟩ := he j q hj
    exact h.1 i j _ _ h1 h2 e,
   fun k q hk => by
    obtain ⟨e1, h1⟩ := he k q hk
    exact h.2 k (q.1, e1) h1⟩
/-- the addresses of the law's world, out of its parts -/
def adL (f g : Nat → Nat) (o : Nat) : Nat → Nat := fun i => if i < 114 then f i else if i < 120 then g (i - 114) else o
def svF (f : Nat → Nat) : Nat → Option Nat := va_up (va_up (va_up (va_up (va_up (va_up (fun _ => none) 0 (some (f 10))) 1 (some (f 12))) 2 (some (f 14))) 3 (some (f 16))) 4 (some (f 18))) 5 (some (f 20))
theorem svF_eq (f : Nat → Nat) (i : Nat) (h : i < 6) : svF f i = some (f (6 + 2 * (2 + i))) := by
  rcases (show i = 0 ∨ i = 1 ∨ i = 2 ∨ i = 3 ∨ i = 4 ∨ i = 5 by omega) with rfl | rfl | rfl | rfl | rfl | rfl <;> rfl
set_option maxRecDepth 200000 in
set_option maxHeartbeats 8000000 in
theorem world_eq (D : va_G) (cy : Nat → ClassId) (f g : Nat → Nat) (o : Nat) : (wX5 cy f ++ wX6 cy g) ++ [(o, .inl (cy 3, 1, .inr (.inl (fun _ => 0))))] = (wld (D, cy, adL f g o) VA0).set 1 (f 1, .inl (cy 2, 6, .inr (.inr (.inr (.inr (svF f)))))) := rfl
theorem world_P {D : va_G} {cy : Nat → ClassId} {f g : Nat → Nat} {o : Nat} {H : Heap} (h : va_P D vwCl ((wX5 cy f ++ wX6 cy g) ++ [(o, .inl (cy 3, 1, .inr (.inl (fun _ => 0))))]) H) : va_P D vwCl (wld (D, cy, adL f g o) VA0) H := by
  rw [world_eq D] at h
  refine va_Pconv h (fun k q hk => ?_)
  rw [List.getElem?_set]
  by_cases e : 1 = k
  · right
    subst e
    rw [wld_at _ _ (by omega)] at hk
    cases hk
    rw [if_pos rfl, if_pos (by rw [wld_len]; omega)]
    exact ⟨cy 2, 6, svF f, _, rfl, rfl, fun i hi => by
      rw [svF_eq f i hi]
      show _ = some (adL f g o (6 + 2 * (2 + i)))
      unfold adL
      rw [if_pos (by omega)]⟩
  · left
    rw [if_neg e]
    exact hk
theorem world_D {D : va_G} {cy : Nat → ClassId} {f g : Nat → Nat} {o : Nat} {A : Nat → Prop} (h : va_D A ((wX5 cy f ++ wX6 cy g) ++ [(o, .inl (cy 3, 1, .inr (.inl (fun _ => 0))))])) : va_D A (wld (D, cy, adL f g o) VA0) := by
  rw [world_eq D] at h
  refine va_Dconv h (fun k q hk => ?_)
  rw [List.getElem?_set]
  by_cases e : 1 = k
  · subst e
    rw [wld_at _ _ (by omega)] at hk
    cases hk
    rw [if_pos rfl, if_pos (by rw [wld_len]; omega)]
    exact ⟨_, rfl⟩
  · rw [if_neg e]
    exact ⟨q.2, hk⟩
theorem u_knG {s : State} {args : Array Value} {C : String} {T : u_T} {N : Nat} (hts : ∀ w ∈ gw, w.before args s = true) (hin : ∀ w ∈ u_ws C T N, w ∈ gw) (hi : Cond.instantiable C N ∈ gw) : ∃ (cC : ClassId) (iS : Nat → Nat), u_Kn s C T N cC iS := u_known hts hin (hts _ hi)
theorem arr_known {s : State} {args : Array Value} {ty : FieldType} (hno : ∀ C, ty ≠ .object C) (h : (Cond.arrayClass ty).before args s = true) : ∃ cA, ArrOfT s cA ty ∧ va_RA s cA ty := by
  obtain ⟨c, k, comp, h1, h2, h3⟩ := Cond.arrayClass_spec h
  refine ⟨c, fun n z => ⟨fun k h => (by cases h), k, h2, comp, h3⟩, ?_⟩
  cases ty with
  | object C => exact absurd rfl (hno C)
  | _ => exact h1
theorem arr_knownQ {s : State} (h : va_AO RX2 s) : ∃ cA, ArrOfT s cA (.object RX2) ∧ va_RA s cA (.object RX2) := by
  obtain ⟨comp, c, k, h1, h2, h3, h4, h5⟩ := Cond.arrayOver_spec h
  exact ⟨c, fun n z => ⟨fun k h => (by cases h), k, h3, comp, h4⟩, k, comp, h3, h4, h1, h5⟩
set_option maxRecDepth 100000 in
theorem str_in : ∀ q ∈ strL, Cond.stringRef RX5 q.1 q.2 ∈ lw_tbl := by decide +kernel
set_option maxRecDepth 100000 in
theorem str_ex : ∀ q ∈ strL, Cond.exactly (.string RX5 q.1) "java/lang/String" ∈ flatC (Cond.and given_1 narrow_1) := by decide +kernel
theorem gw_tbl {w : Cond} (h : w ∈ gw) : w ∈ lw_tbl := (List.mem_filter.mp h).1
theorem nest_tbl {w : Cond} (h : w ∈ nestW) : w ∈ tables_1 := (List.mem_filter.mp h).1

theorem law_K {s : State} {args : Array Value} (hts : ∀ w ∈ lw_tbl, w.before args s = true) : ∃ G : GG, WI G s := by
  have hg : ∀ w ∈ gw, w.before args s = true := fun w h => hts w (gw_tbl h)
  obtain ⟨c0, i0, k0⟩ := u_knG (C := RX0) (T := TX0) (N := 3) hg iw0 in_X0
  obtain ⟨c1, i1, k1⟩ := u_knG (C := RX1) (T := TX1) (N := 7) hg iw1 in_X1
  obtain ⟨c2, i2, k2⟩ := u_knG (C := RX2) (T := TX2) (N := 9) hg iw2 in_X2
  obtain ⟨c3, i3, k3⟩ := u_knG (C := RX3) (T := TX3) (N := 6) hg iw3 in_X3
  obtain ⟨c4, i4, k4⟩ := u_knG (C := RX4) (T := TX4) (N := 7) hg iw4 in_X4
  obtain ⟨c5, i5, k5⟩ := u_knG (C := RX5) (T := TX5) (N := 8) hg iw5 in_X5
  obtain ⟨c6, i6, k6⟩ := u_knG (C := RX6) (T := TX6) (N := 11) hg iw6 in_X6
  have hao : va_AO RX2 s := va_AO.of (hts _ (List.mem_of_getElem? (i := 224) (by decide +kernel)))
  obtain ⟨a0, e0⟩ := arr_known (ty := .int) (fun _ h => by cases h) (hg _ ac_int)
  obtain ⟨a1, e1⟩ := arr_known (ty := .boolean) (fun _ h => by cases h) (hg _ ac_boolean)
  obtain ⟨a2, e2⟩ := arr_knownQ hao
  obtain ⟨a3, e3⟩ := arr_known (ty := .long) (fun _ h => by cases h) (hg _ ac_long)
  refine ⟨((fun i => match i with | 0 => c0 | 1 => c1 | 2 => c2 | 3 => c3 | 4 => c4 | 5 => c5 | _ => c6, fun i => match i with | 0 => i0 | 1 => i1 | 2 => i2 | 3 => i3 | 4 => i4 | 5 => i5 | _ => i6), fun i => match i with | 0 => a0 | 1 => a1 | 2 => a2 | _ => a3, fun _ => 0), ⟨⟨?_, ?_⟩, ?_⟩, hao⟩
  · intro c q hc
    match c, hc with
    | 0, hc => cases hc; exact k0
    | 1, hc => cases hc; exact k1
    | 2, hc => cases hc; exact k2
    | 3, hc => cases hc; exact k3
    | 4, hc => cases hc; exact k4
    | 5, hc => cases hc; exact k5
    | 6, hc => cases hc; exact k6
    | n + 7, hc => simp [vwCl] at hc
  · intro c q hc
    match c, hc with
    | 0, hc => cases hc; exact e0
    | 1, hc => cases hc; exact e1
    | 2, hc => cases hc; exact e2
    | 3, hc => cases hc; exact e3
    | n + 4, hc => simp [tysG] at hc
  · intro w hw
    exact va_Nw.of (nestW_tab hw) (hts w (List.mem_append_right _ (nest_tbl hw)))

theorem law_X {s : State} {b : Nat} {G : GG} (hts : ∀ w ∈ lw_tbl, w.before #[.ref b] s = true) (hN : (Cond.and given_1 narrow_1).before #[.ref b] s = true) (hA : ∀ q : Nat, q < s.heap.size → ¬ AA G s.heap.size q) : ∃ sa, XK G sa s.heap.size s s.heap := by
  have hs := flat_of_before _ hN
  refine ⟨fun k => Classical.epsilon (fun a => (Term.string RX5 k).eval #[] s none [] s = some (.ref a)), ?_, ?_, ?_, ?_⟩
  · exact vx_Zqof (args := #[.ref b]) (hts _ (List.mem_of_getElem? (i := 658) (by decide +kernel))) (hts _ (List.mem_of_getElem? (i := 87) (by decide +kernel))) (hs (.isRef (.static Bundle.tN "UNASSIGNED_STACK" Bundle.steD)) (by decide +kernel)) hA
  · exact vx_Zqof (args := #[.ref b]) (hts _ (List.mem_of_getElem? (i := 660) (by decide +kernel))) (hts _ (List.mem_of_getElem? (i := 87) (by decide +kernel))) (hs (.isRef (.static Bundle.tN "SUPPRESSED_SENTINEL" Bundle.listD)) (by decide +kernel)) hA
  · intro q hq
    refine vk_R.of (hts _ (str_in q hq)) ?_
    have h1 := hs _ (str_ex q hq)
    obtain ⟨a, c, cell, k, h2, -⟩ := Cond.exactly_spec h1
    exact Classical.epsilon_spec (p := fun a => (Term.string RX5 q.1).eval #[] s none [] s = some (.ref a)) ⟨a, h2⟩
  · intro a b' ha hb h1 h2 hne
    rcases (show a = 1 ∨ a = 2 ∨ a = 3 by omega) with rfl | rfl | rfl <;> rcases (show b' = 1 ∨ b' = 2 ∨ b' = 3 by omega) with rfl | rfl | rfl <;> first | exact absurd rfl hne | skip
    · exact va_Nc.of (hs (.not (.castable (exN 1) (exN 2))) (by decide +kernel))
    · exact va_Nc.of (hs (.not (.castable (exN 1) (exN 3))) (by decide +kernel))
    · exact va_Nc.of (hs (.not (.castable (exN 2) (exN 1))) (by decide +kernel))
    · exact va_Nc.of (hs (.not (.castable (exN 2) (exN 3))) (by decide +kernel))
    · exact va_Nc.of (hs (.not (.castable (exN 3) (exN 1))) (by decide +kernel))
    · exact va_Nc.of (hs (.not (.castable (exN 3) (exN 2))) (by decide +kernel))

set_option maxRecDepth 100000 in
set_option maxHeartbeats 8000000 in
theorem law_start {p : Program} {e : Env} {s : State} {m : MethodId} {below : List Frame} {meth : Method} {c : Code} {l : Launch} {b Ln : Nat} {sc : Nat → Int32} (Q : State → Prop) (hx : p.tables.exec = Jvm.exec) (hc : c.code = cL_law) (hml : c.maxLocals = 9) (hown : s.vm.findClass RL = some m.cls) (hts : ∀ w ∈ lw_tbl, w.before #[Value.ref b] s = true) (hSc : va_X b Ln sc s s.heap) (hbl : b < s.heap.size) (hlocks : meth.locks = false) (hN : (Cond.and given_1 narrow_1).before #[Value.ref b] s = true) (hl : l.stackTraces = false)
    (hend : ∀ (H : Heap) (ls : Array Slot), W p l e room_1 s m #[Value.ref b] below meth c H [] 601024 7293034 Q (F0 m 1502 ls [.int 1])) (n : Nat) (hn : n ≤ 600000) (hg : g_law Ln sc n 0 VA0 = some ()) : W p l e room_1 s m #[Value.ref b] below meth c s.heap [] 0 0 Q (entryFrame m ([Value.ref b] : List Value).toArray 9) := by
  obtain ⟨G, hWI⟩ := law_K hts
  have hl0 := lv_entry ([.ref b]) (n := 9) (Nat.le_of_ble_eq_true rfl)
  rw [lg_entry_eq]
  generalize (lg_sl ([.ref b]) ++ List.replicate (9 - (lg_sl ([.ref b])).length) Slot.unset).toArray = ls at hl0 ⊢
  have C : CxI G 9 (p, l, e, room_1, s, m, #[Value.ref b], below, meth, c, 121, 1971) RL cL_law 12 := ⟨hx, hc, hml, hown, fun w h => hts w (gw_tbl h), hWI, hlocks, Nat.le_of_ble_eq_true rfl, Nat.le_of_ble_eq_true rfl⟩
  have hA : ∀ q : Nat, s.heap.size ≤ q → (fun q => s.heap.size ≤ q) q := fun q h => h
  have K : JC G (fun q => s.heap.size ≤ q) 9 (p, l, e, room_1, s, m, #[Value.ref b], below, meth, c, 121, 1971) Q [] 0 0 0 [(0, .ref b)] [] := by
    refine jc_new (CN := RX5) (T := TX5) (N := 8) (ci := 5) (fs := [.null, .null, .int 0, .null, .int 0, .null, .null, .null]) (k' := 1) (z' := 8) C hA tyX5 0 iw5 tyX5_ok cl_L_8 in_X5 kii_X5 rfl (fun j hj => by rcases (show j = 0 ∨ j = 1 ∨ j = 2 ∨ j = 3 ∨ j = 4 ∨ j = 5 ∨ j = 6 ∨ j = 7 by omega) with rfl | rfl | rfl | rfl | rfl | rfl | rfl | rfl <;> rfl) rfl rfl (Nat.le_of_ble_eq_true rfl) (Nat.le_of_ble_eq_true rfl) dL_law_0 (fun q0 => ?_)
    refine jc_dup C 3 dL_law_3 rfl ?_
    refine jc_init (st := [.ref q0]) (wr := []) (k' := 114) (z' := 1035) C hA kI_X5 4 (ci_X5 _ G q0) mi_L_79 dL_law_4 (by decide) (Nat.le_of_ble_eq_true rfl) rfl rfl (Nat.le_of_ble_eq_true rfl) (Nat.le_of_ble_eq_true rfl) (fun w hw => ?_)
    obtain ⟨f, hf, rfl⟩ := hw
    subst hf
    refine jc_astore_n (L1 := [(1, .ref (f 0)), (0, .ref b)]) C 7 rfl dL_law_7 (by decide) rfl ?_
    refine jc_new (CN := RX6) (T := TX6) (N := 11) (ci := 6) (fs := [.int 0, .null, .null, .null, .int 0, .null, .int 0, .null, .int 0, .int 0, .int 0]) (k' := 115) (z' := 1046) C hA tyX6 8 iw6 tyX6_ok cl_L_80 in_X6 kii_X6 rfl (fun j hj => by rcases (show j = 0 ∨ j = 1 ∨ j = 2 ∨ j = 3 ∨ j = 4 ∨ j = 5 ∨ j = 6 ∨ j = 7 ∨ j = 8 ∨ j = 9 ∨ j = 10 by omega) with rfl | rfl | rfl | rfl | rfl | rfl | rfl | rfl | rfl | rfl | rfl <;> rfl) rfl rfl (Nat.le_of_ble_eq_true rfl) (Nat.le_of_ble_eq_true rfl) dL_law_8 (fun q1 => ?_)
    refine jc_dup C 11 dL_law_11 rfl ?_
    refine jc_init (st := [.ref q1]) (wr := [] ++ wX5 G.2.1 f) (k' := 120) (z' := 1970) C hA kI_X6 12 (ci_X6 _ G q1) mi_L_82 dL_law_12 (by decide) (Nat.le_of_ble_eq_true rfl) rfl rfl (Nat.le_of_ble_eq_true rfl) (Nat.le_of_ble_eq_true rfl) (fun w hw => ?_)
    obtain ⟨g, hf, rfl⟩ := hw
    subst hf
    refine jc_astore_n (L1 := [(2, .ref (g 0)), (1, .ref (f 0)), (0, .ref b)]) C 15 rfl dL_law_15 (by decide) rfl ?_
    refine jc_iconst (v := 1) C 16 dL_law_16 rfl ?_
    refine jc_newa (a0 := (1, .inr (.inl (fun _ => 0)))) (k' := 121) (z' := 1971) C hA 3 17 ac_long rfl rfl (fun _ => by rw [vp_cell_l]; rfl) (by decide) (by decide) (by decide) rfl rfl (Nat.le_of_ble_eq_true rfl) (Nat.le_of_ble_eq_true rfl) dL_law_17 (fun o => ?_)
    refine jc_astore_n (L1 := [(3, .ref o), (2, .ref (g 0)), (1, .ref (f 0)), (0, .ref b)]) C 19 rfl dL_law_19 (by decide) rfl ?_
    refine jc_iconst (v := 0) C 20 dL_law_20 rfl ?_
    refine jc_istore (L1 := [(4, .int 0), (3, .ref o), (2, .ref (g 0)), (1, .ref (f 0)), (0, .ref b)]) C 21 dL_law_21 (by decide) rfl ?_
    refine jc_ws (ws' := (wX5 G.2.1 f ++ wX6 G.2.1 g) ++ [(o, .inl (G.2.1 3, 1, .inr (.inl (fun _ => 0))))]) rfl ?_
    intro H locs ls hP hD hS hl1
    have hP1 := world_P hP
    have hD1 := world_D (D := G.1) hD
    have hok : Gok (G.1, G.2.1, adL f g o) := fun i j hi hj e => hD1.1 i j _ _ (wld_at (G.1, G.2.1, adL f g o) VA0 hi) (wld_at (G.1, G.2.1, adL f g o) VA0 hj) e
    have hge : ∀ i, i < 121 → s.heap.size ≤ adL f g o i := fun i hi => hD1.2 i _ (wld_at (G.1, G.2.1, adL f g o) VA0 hi)
    have hno : ∀ q : Nat, q < s.heap.size → ¬ AA (G.1, G.2.1, adL f g o) s.heap.size q := by
      intro q hq h
      rcases h with ⟨i, hi, he⟩ | h
      · have h3 : s.heap.size ≤ adL f g o i := hge i hi
        have h4 : q = adL f g o i := he
        omega
      · omega
    obtain ⟨sa, hXK⟩ := law_X hts hN hno
    have hWK : WK (G.1, G.2.1, adL f g o) s := ⟨hWI.1.1, hWI.1.2⟩
    have C2 : Cx (G.1, G.2.1, adL f g o) 9 (p, l, e, room_1, s, m, #[Value.ref b], below, meth, c, 121, 1971) RL cL_law 12 := ⟨hx, hc, hml, hown, fun w h => hts w (gw_tbl h), hWK, hok, hlocks, Nat.le_of_ble_eq_true rfl, Nat.le_of_ble_eq_true rfl, Nat.le_of_ble_eq_true rfl, Nat.le_of_ble_eq_true rfl⟩
    have hS2 : va_S (AA (G.1, G.2.1, adL f g o) s.heap.size) s.heap H locs := ⟨hS.1, fun q h1 h2 => hS.2.1 q h1 (fun z => h2 (Or.inr z)), fun q hq => Or.inr (hS.2.2 q hq)⟩
    refine wl_law (Q := fun _ => Q) n (p, l, e, room_1, s, m, #[Value.ref b], below, meth, c, 121, 1971) C2 hXK ⟨hSc, hbl, hno b hbl⟩ (by show 121 + n ≤ 601024; omega) (by show 1971 + 6 * n ≤ 7293034; omega) hl (fun j V i hj => ?_) 0 VA0 () hg H locs ls hP1 hS2 hl1
    intro x0 _ H2 locs2 ls2 _ hS3 _
    rw [xupn_eq] at hS3 ⊢
    refine va_forget (fun q hq => ?_) (W.widen ?_ ?_ (hend H2 ls2))
    · rcases hS3.2.2 q hq with ⟨i, hi, he⟩ | h
      · have h3 : s.heap.size ≤ adL f g o i := hge i hi
        have h4 : q.base = adL f g o i := he
        show s.heap.size ≤ q.base
        rw [h4]
        exact h3
      · exact h
    · show 121 + j ≤ 601024
      omega
    · show 1971 + 6 * j ≤ 7293034
      omega
  exact K s.heap [] ls (fun k q h => (by cases h)) ⟨fun i j p q h => (by cases h), fun k q h => (by cases h)⟩ va_S.rf hl0
