theorem kic_X5 : Cond.code yX5_init cX5_init 2 none ∈ gw := gwm (i := 37) (by decide +kernel) (by decide +kernel)
theorem kii_X5 : Cond.initialized RX5 ∈ gw := gwm (i := 18) (by decide +kernel) (by decide +kernel)
theorem kin_X5 : Cond.instanceMethod yX5_init ∈ gw := gwm (i := 36) (by decide +kernel) (by decide +kernel)
theorem kI_X5 : KYI yX5_init cX5_init 2 := ⟨kic_X5, kii_X5, by decide, by decide +kernel, rfl, kin_X5⟩
theorem in_X5 : Cond.instantiable RX5 8 ∈ gw := gwm (i := 34) (by decide +kernel) (by decide +kernel)
theorem cl_L_10 : Cond.classLink RL 10 RX5 ∈ gw := gwm (i := 33) (by decide +kernel) (by decide +kernel)
theorem mi_L_157 : Cond.methodLink RL 157 yX5_init ∈ gw := gwm (i := 35) (by decide +kernel) (by decide +kernel)

def VC0 : VC := (fun _ => (fun _ => 0, fun _ => 0, fun _ => 0, fun _ => 0, fun _ => 0, fun _ => 0), fun _ => (-1, fun _ => 0, 0, 0, 0, 0, 0), fun _ => (fun _ => 0, 0, 0), fun _ _ => 0, fun _ => (0, 1, 0, 0, 0), (fun _ => 0, 0, fun _ => 0, fun _ => 0, 0, 0, 0), (0, 0, fun i => 2 + i))
def VW0 : VRw := (z0, z0, z0, z0, z0)
def VA0 : VA := (VC0, sRw (fun _ => (0, z0)) 0 VW0)
theorem exB_1 : exN 1 = "java/lang/IndexOutOfBoundsException" := rfl
theorem arrV_congr (cA : ClassId) (n : Nat) {f g : Nat → Value} (h : ∀ i, i < n → f i = g i) : arrV cA n f = arrV cA n g := by
  unfold arrV
  congr 1
  apply Array.ext
  · simp
  · intro i h1 h2
    simp only [Array.getElem_ofFn]
    exact h i (by simpa using h1)
theorem va_Pconv {D : va_G} {cl : List vw_C} {w w' : va_W} {H : Heap} (h : va_P D cl w H) (he : ∀ (k : Nat) (q : Nat × va_E), w'[k]? = some q → w[k]? = some q ∨ ∃ (cA : ClassId) (n : Nat) (f g : Nat → Option Nat), w[k]? = some (q.1, .inl (cA, n, .inr (.inr (.inr (.inr f))))) ∧ q.2 = .inl (cA, n, .inr (.inr (.inr (.inr g)))) ∧ ∀ i, i < n → f i = g i) : va_P D cl w' H := by
  intro k q hq
  rcases he k q hq with h1 | ⟨cA, n, f, g, h1, h2, h3⟩
  · exact h k q h1
  · have h4 := h k _ h1
    obtain ⟨a, e⟩ := q
    dsimp only at h2
    subst h2
    show H[a]? = some (vp_cell cA (n, .inr (.inr (.inr (.inr g)))))
    have h5 : H[a]? = some (vp_cell cA (n, .inr (.inr (.inr (.inr f))))) := h4
    rw [h5, vp_cell_q, vp_cell_q, arrV_congr cA n (fun i hi => by rw [h3 i hi])]
theorem va_Dconv {A : Nat → Prop} {w w' : va_W} (h : va_D A w) (he : ∀ (k : Nat) (q : Nat × va_E), w'[k]? = some q → ∃ e, w[k]? = some (q.1, e)) : va_D A w' :=
  ⟨fun i j p q hi hj e => by
    obtain ⟨e1, h1⟩ := he i p hi
    obtain ⟨e2, h2⟩ := he j q hj
    exact h.1 i j _ _ h1 h2 e,
   fun k q hk => by
    obtain ⟨e1, h1⟩ := he k q hk
    exact h.2 k (q.1, e1) h1⟩
/-- the addresses of the law's world, out of its parts -/
def adL (f : Nat → Nat) (q0 q1 q2 q3 q4 : Nat) : Nat → Nat := fun i => if i < 114 then f i else if i = 114 then q0 else if i = 115 then q1 else if i = 116 then q2 else if i = 117 then q3 else if i = 118 then q4 else 119
def svF (f : Nat → Nat) : Nat → Option Nat := va_up (va_up (va_up (va_up (va_up (va_up (fun _ => none) 0 (some (f 10))) 1 (some (f 12))) 2 (some (f 14))) 3 (some (f 16))) 4 (some (f 18))) 5 (some (f 20))
theorem svF_eq (f : Nat → Nat) (i : Nat) (h : i < 6) : svF f i = some (f (6 + 2 * (2 + i))) := by
  rcases (show i = 0 ∨ i = 1 ∨ i = 2 ∨ i = 3 ∨ i = 4 ∨ i = 5 by omega) with rfl | rfl | rfl | rfl | rfl | rfl <;> rfl
set_option maxRecDepth 200000 in
set_option maxHeartbeats 8000000 in
theorem world_eq (D : va_G) (cy : Nat → ClassId) (f : Nat → Nat) (q0 q1 q2 q3 q4 : Nat) : (((((wX5 cy f ++ [(q0, cI (cy 0) 10 z0)]) ++ [(q1, cI (cy 0) 32 z0)]) ++ [(q2, cI (cy 0) 48 z0)]) ++ [(q3, cI (cy 0) 48 z0)]) ++ [(q4, cI (cy 0) 48 z0)]) = (wld (D, cy, adL f q0 q1 q2 q3 q4) VA0).set 1 (f 1, .inl (cy 2, 6, .inr (.inr (.inr (.inr (svF f)))))) := rfl
theorem world_P {D : va_G} {cy : Nat → ClassId} {f : Nat → Nat} {q0 q1 q2 q3 q4 : Nat} {H : Heap} (h : va_P D vwCl ((((((wX5 cy f ++ [(q0, cI (cy 0) 10 z0)]) ++ [(q1, cI (cy 0) 32 z0)]) ++ [(q2, cI (cy 0) 48 z0)]) ++ [(q3, cI (cy 0) 48 z0)]) ++ [(q4, cI (cy 0) 48 z0)])) H) : va_P D vwCl (wld (D, cy, adL f q0 q1 q2 q3 q4) VA0) H := by
  rw [world_eq D] at h
  refine va_Pconv h (fun k q hk => ?_)
  rw [List.getElem?_set]
  by_cases e : 1 = k
  · right
    subst e
    rw [wld_at _ _ (show 1 < 119 by omega)] at hk
    cases hk
    rw [if_pos rfl, if_pos (by rw [wld_len]; show 1 < 119; omega)]
    exact ⟨cy 2, 6, svF f, _, rfl, rfl, fun i hi => by
      rw [svF_eq f i hi]
      show _ = some (adL f q0 q1 q2 q3 q4 (6 + 2 * min (2 + i) 7))
      unfold adL
      rw [Nat.min_eq_left (by omega), if_pos (by omega)]⟩
  · left
    rw [if_neg e]
    exact hk
theorem world_D {D : va_G} {cy : Nat → ClassId} {f : Nat → Nat} {q0 q1 q2 q3 q4 : Nat} {A : Nat → Prop} (h : va_D A ((((((wX5 cy f ++ [(q0, cI (cy 0) 10 z0)]) ++ [(q1, cI (cy 0) 32 z0)]) ++ [(q2, cI (cy 0) 48 z0)]) ++ [(q3, cI (cy 0) 48 z0)]) ++ [(q4, cI (cy 0) 48 z0)]))) : va_D A (wld (D, cy, adL f q0 q1 q2 q3 q4) VA0) := by
  rw [world_eq D] at h
  refine va_Dconv h (fun k q hk => ?_)
  rw [List.getElem?_set]
  by_cases e : 1 = k
  · subst e
    rw [wld_at _ _ (show 1 < 119 by omega)] at hk
    cases hk
    rw [if_pos rfl, if_pos (by rw [wld_len]; show 1 < 119; omega)]
    exact ⟨_, rfl⟩
  · rw [if_neg e]
    exact ⟨q.2, hk⟩
theorem u_knG {s : State} {args : Array Value} {C : String} {T : u_T} {N : Nat} (hts : ∀ w ∈ gw, w.before args s = true) (hin : ∀ w ∈ u_ws C T N, w ∈ gw) (hi : Cond.instantiable C N ∈ gw) : ∃ (cC : ClassId) (iS : Nat → Nat), u_Kn s C T N cC iS := u_known hts hin (hts _ hi)
theorem arr_known {s : State} {args : Array Value} {ty : FieldType} (hno : ∀ C, ty ≠ .object C) (h : (Cond.arrayClass ty).before args s = true) : ∃ cA, ArrOfT s cA ty ∧ va_RA s cA ty := by
  obtain ⟨c, k, comp, h1, h2, h3⟩ := Cond.arrayClass_spec h
  refine ⟨c, fun n z => ⟨fun k h => (by cases h), k, h2, comp, h3⟩, ?_⟩
  cases ty with
  | object C => exact absurd rfl (hno C)
  | _ => exact h1
theorem arr_knownQ {s : State} (h : va_AO RX2 s) : ∃ cA, ArrOfT s cA (.object RX2) ∧ va_RA s cA (.object RX2) := by
  obtain ⟨comp, c, k, h1, h2, h3, h4, h5⟩ := Cond.arrayOver_spec h
  exact ⟨c, fun n z => ⟨fun k h => (by cases h), k, h3, comp, h4⟩, k, comp, h3, h4, h1, h5⟩
set_option maxRecDepth 100000 in
theorem str_in : ∀ q ∈ strL, Cond.stringRef RX5 q.1 q.2 ∈ lw_tbl := by decide +kernel
set_option maxRecDepth 100000 in
theorem str_ex : ∀ q ∈ strL, Cond.exactly (.string RX5 q.1) "java/lang/String" ∈ flatC (Cond.and given_1 narrow_1) := by decide +kernel
theorem gw_tbl {w : Cond} (h : w ∈ gw) : w ∈ lw_tbl := (List.mem_filter.mp h).1
theorem nest_tbl {w : Cond} (h : w ∈ nestW) : w ∈ tables_1 := (List.mem_filter.mp h).1

theorem law_K {s : State} {args : Array Value} (hts : ∀ w ∈ lw_tbl, w.before args s = true) : ∃ G : GG, WI G s := by
  have hg : ∀ w ∈ gw, w.before args s = true := fun w h => hts w (gw_tbl h)
  obtain ⟨c0, i0, k0⟩ := u_knG (C := RX0) (T := TX0) (N := 3) hg iw0 in_X0
  obtain ⟨c1, i1, k1⟩ := u_knG (C := RX1) (T := TX1) (N := 7) hg iw1 in_X1
  obtain ⟨c2, i2, k2⟩ := u_knG (C := RX2) (T := TX2) (N := 9) hg iw2 in_X2
  obtain ⟨c3, i3, k3⟩ := u_knG (C := RX3) (T := TX3) (N := 6) hg iw3 in_X3
  obtain ⟨c4, i4, k4⟩ := u_knG (C := RX4) (T := TX4) (N := 7) hg iw4 in_X4
  obtain ⟨c5, i5, k5⟩ := u_knG (C := RX5) (T := TX5) (N := 8) hg iw5 in_X5
  have hao : va_AO RX2 s := va_AO.of (hts _ (List.mem_of_getElem? (i := 158) (by decide +kernel)))
  obtain ⟨a0, e0⟩ := arr_known (ty := .int) (fun _ h => by cases h) (hg _ ac_int)
  obtain ⟨a1, e1⟩ := arr_known (ty := .boolean) (fun _ h => by cases h) (hg _ ac_boolean)
  obtain ⟨a2, e2⟩ := arr_knownQ hao
  refine ⟨((fun i => match i with | 0 => c0 | 1 => c1 | 2 => c2 | 3 => c3 | 4 => c4 | _ => c5, fun i => match i with | 0 => i0 | 1 => i1 | 2 => i2 | 3 => i3 | 4 => i4 | _ => i5), fun i => match i with | 0 => a0 | 1 => a1 | _ => a2, fun _ => 0), ⟨⟨?_, ?_⟩, ?_⟩, hao⟩
  · intro c q hc
    match c, hc with
    | 0, hc => cases hc; exact k0
    | 1, hc => cases hc; exact k1
    | 2, hc => cases hc; exact k2
    | 3, hc => cases hc; exact k3
    | 4, hc => cases hc; exact k4
    | 5, hc => cases hc; exact k5
    | n + 6, hc => simp [vwCl] at hc
  · intro c q hc
    match c, hc with
    | 0, hc => cases hc; exact e0
    | 1, hc => cases hc; exact e1
    | 2, hc => cases hc; exact e2
    | n + 3, hc => simp [tysG] at hc
  · intro w hw
    exact va_Nw.of (nestW_tab hw) (hts w (List.mem_append_right _ (nest_tbl hw)))

theorem law_X {s : State} {b : Nat} {G : GG} (hts : ∀ w ∈ lw_tbl, w.before #[.ref b] s = true) (hN : (Cond.and given_1 narrow_1).before #[.ref b] s = true) (hA : ∀ q : Nat, q < s.heap.size → ¬ AA G s.heap.size q) : ∃ sa, XK G sa s.heap.size s s.heap := by
  have hs := flat_of_before _ hN
  refine ⟨fun k => Classical.epsilon (fun a => (Term.string RX5 k).eval #[] s none [] s = some (.ref a)), ?_, ?_, ?_, ?_⟩
  · exact vx_Zqof (args := #[.ref b]) (hts _ (List.mem_of_getElem? (i := 254) (by decide +kernel))) (hts _ (List.mem_of_getElem? (i := 24) (by decide +kernel))) (hs (.isRef (.static Bundle.tN "UNASSIGNED_STACK" Bundle.steD)) (by decide +kernel)) hA
  · exact vx_Zqof (args := #[.ref b]) (hts _ (List.mem_of_getElem? (i := 256) (by decide +kernel))) (hts _ (List.mem_of_getElem? (i := 24) (by decide +kernel))) (hs (.isRef (.static Bundle.tN "SUPPRESSED_SENTINEL" Bundle.listD)) (by decide +kernel)) hA
  · intro q hq
    refine vk_R.of (hts _ (str_in q hq)) ?_
    have h1 := hs _ (str_ex q hq)
    obtain ⟨a, c, cell, k, h2, -⟩ := Cond.exactly_spec h1
    exact Classical.epsilon_spec (p := fun a => (Term.string RX5 q.1).eval #[] s none [] s = some (.ref a)) ⟨a, h2⟩
  · intro a b' ha hb h1 h2 hne
    rcases (show a = 1 ∨ a = 2 ∨ a = 3 by omega) with rfl | rfl | rfl <;> rcases (show b' = 1 ∨ b' = 2 ∨ b' = 3 by omega) with rfl | rfl | rfl <;> first | exact absurd rfl hne | skip
    · exact va_Nc.of (hs (.not (.castable (exN 1) (exN 2))) (by decide +kernel))
    · exact va_Nc.of (hs (.not (.castable (exN 1) (exN 3))) (by decide +kernel))
    · exact va_Nc.of (hs (.not (.castable (exN 2) (exN 1))) (by decide +kernel))
    · exact va_Nc.of (hs (.not (.castable (exN 2) (exN 3))) (by decide +kernel))
    · exact va_Nc.of (hs (.not (.castable (exN 3) (exN 1))) (by decide +kernel))
    · exact va_Nc.of (hs (.not (.castable (exN 3) (exN 2))) (by decide +kernel))

theorem jc_L {G : GG} {A : Nat → Prop} {nL : Nat} {X : WX} {Q : State → Prop} {ws : va_W} {k z : Nat} {L : List (Nat × Value)} {st : List Value} {L' : List (Nat × Value)} {pc : Nat} (ks : List Nat) (hl : lv_pick L ks = L') (kk : JC G A nL X Q ws k z pc L' st) : JC G A nL X Q ws k z pc L st := fun H locs ls hP hD hS h => kk H locs ls hP hD hS (lv_sub h ks hl)

def g_law (Ln : Nat) (sc : Nat → Int32) : Nat → (VC × VRw) → Int32 → Option Unit
  | 0, _, _ => none
  | n + 1, v, i => if i < 56 then f_L_law_b Ln sc (fun v i => g_law Ln sc n v i) v i else some ()
def g_start (Ln : Nat) (sc : Nat → Int32) : Option Unit := f_L_law_a Ln sc (fun v i => g_law Ln sc 57 v i) (VC0, VW0)
abbrev L7 (G : GG) (b : Nat) (i : Int32) : List (Nat × Value) := [(0, .ref b), (1, .ref (G.2.2 0)), (2, .ref (G.2.2 (114 + 0))), (3, .ref (G.2.2 (114 + (1 + 0)))), (4, .ref (G.2.2 (114 + (2 + 0)))), (5, .ref (G.2.2 (114 + (3 + 0)))), (6, .ref (G.2.2 (114 + (4 + 0)))), (7, .int i)]
set_option maxRecDepth 100000 in
set_option maxHeartbeats 4000000 in
theorem wl_law {G : GG} {sa : Nat → Nat} {Q : Unit → State → Prop} {w : VW} {b Ln : Nat} {sc : Nat → Int32} : ∀ (n : Nat) (X : WX) (_ : Cx G 11 X RL cL_law 12) (_ : (xM X).sig.returnType = (some .boolean)) (_ : XK G sa (xs X).heap.size (xs X) (xs X).heap) (_ : (xl X).stackTraces = false) (_ : Scr G X b Ln sc) (_ : G.2.2 1000 = 119) (_ : xk X + 14 * n ≤ (xR X).cells) (_ : xz X + 238 * n ≤ (xR X).slots)
    (hend : ∀ (k y : Nat) (V : VA) (i : Int32), k ≤ xk X + 14 * n → y ≤ xz X + 238 * n → JS G 11 (xset X k y) Q (some ()) V 310 (L7 G b i) [.int 1]) (v : (VC × VRw)) (i : Int32), JS G 11 X Q (g_law Ln sc n v i) (v.1, sRw w 0 v.2) 145 (L7 G b i) [] := by
  intro n
  induction n with
  | zero => intro X C hr hX hl hS0 hN9 h1 h2 hend v i; exact j_none
  | succ n ih =>
    intro X C hr hX hl hS0 hN9 h1 h2 hend v i
    unfold g_law
    refine j_iload C 145 7 rfl dL_law_145 ?_
    refine j_bipush (v := 56) C 147 dL_law_147 rfl ?_
    refine j_icmp_ge C 149 309 dL_law_149 (by decide) (fun _ => ?_) (fun _ => ?_)
    · have T : TB G sa (xk X + 14) (xz X + 238) X 14 238 := ⟨hX, hl, by omega, by omega, Nat.le_refl _, Nat.le_refl _⟩
      have C1 := C.set (k := xk X + 14) (z := xz X + 238) (by omega) (by omega)
      exact w_L_law_b C hr T b Ln sc hS0 hN9 (fun v i => g_law Ln sc n v i) (fun v i => ih (xset X (xk X + 14) (xz X + 238)) C1 hr hX hl hS0 hN9 (by show xk X + 14 + 14 * n ≤ (xR X).cells; omega) (by show xz X + 238 + 238 * n ≤ (xR X).slots; omega) (fun k y V j hk hy => hend k y V j (by have : k ≤ xk X + 14 + 14 * n := hk; omega) (by have : y ≤ xz X + 238 + 238 * n := hy; omega)) v i) v i
    · refine j_iconst (v := 1) C 309 dL_law_309 rfl ?_
      exact hend (xk X) (xz X) _ i (by omega) (by omega)
set_option maxRecDepth 100000 in
set_option maxHeartbeats 8000000 in
theorem law_start {p : Program} {e : Env} {s : State} {m : MethodId} {below : List Frame} {meth : Method} {c : Code} {l : Launch} {b Ln : Nat} {sc : Nat → Int32} (Q : State → Prop) (hx : p.tables.exec = Jvm.exec) (hc : c.code = cL_law) (hr : meth.sig.returnType = some .boolean) (hml : c.maxLocals = 11) (hown : s.vm.findClass RL = some m.cls) (hts : ∀ w ∈ lw_tbl, w.before #[Value.ref b] s = true) (hSc : va_X b Ln sc s s.heap) (hbl : b < s.heap.size) (hlocks : meth.locks = false) (hN : (Cond.and given_1 narrow_1).before #[Value.ref b] s = true) (hl : l.stackTraces = false)
    (hend : ∀ (H : Heap) (ls : Array Slot), W p l e room_1 s m #[Value.ref b] below meth c H [] 627853 7218065 Q (F0 m 310 ls [.int 1])) (hg : g_start Ln sc = some ()) : W p l e room_1 s m #[Value.ref b] below meth c s.heap [] 0 0 Q (entryFrame m ([Value.ref b] : List Value).toArray 11) := by
  obtain ⟨G, hWI⟩ := law_K hts
  have hl0 := lv_entry ([.ref b]) (n := 11) (Nat.le_of_ble_eq_true rfl)
  rw [lg_entry_eq]
  generalize (lg_sl ([.ref b]) ++ List.replicate (11 - (lg_sl ([.ref b])).length) Slot.unset).toArray = ls at hl0 ⊢
  have C : CxI G 11 (p, l, e, room_1, s, m, #[Value.ref b], below, meth, c, 119, 1221) RL cL_law 12 := ⟨hx, hc, hml, hown, fun w h => hts w (gw_tbl h), hWI, hlocks, Nat.le_of_ble_eq_true rfl, Nat.le_of_ble_eq_true rfl⟩
  have hA : ∀ q : Nat, s.heap.size ≤ q → (fun q => s.heap.size ≤ q) q := fun q h => h
  have K : JC G (fun q => s.heap.size ≤ q) 11 (p, l, e, room_1, s, m, #[Value.ref b], below, meth, c, 119, 1221) Q [] 0 0 0 [(0, .ref b)] [] := by
    refine jc_new (CN := RX5) (T := TX5) (N := 8) (ci := 5) (fs := [.null, .null, .int 0, .null, .int 0, .null, .null, .null]) (k' := 1) (z' := 8) C hA tyX5 0 iw5 tyX5_ok cl_L_10 in_X5 kii_X5 rfl (fun j hj => by rcases (show j = 0 ∨ j = 1 ∨ j = 2 ∨ j = 3 ∨ j = 4 ∨ j = 5 ∨ j = 6 ∨ j = 7 by omega) with rfl | rfl | rfl | rfl | rfl | rfl | rfl | rfl <;> rfl) rfl rfl (Nat.le_of_ble_eq_true rfl) (Nat.le_of_ble_eq_true rfl) dL_law_0 (fun q5 => ?_)
    refine jc_dup C 3 dL_law_3 rfl ?_
    refine jc_init (st := [.ref q5]) (wr := []) (k' := 114) (z' := 1035) C hA kI_X5 4 (ci_X5 _ G q5) mi_L_157 dL_law_4 (by decide) (Nat.le_of_ble_eq_true rfl) rfl rfl (Nat.le_of_ble_eq_true rfl) (Nat.le_of_ble_eq_true rfl) (fun w hw => ?_)
    obtain ⟨f, hf, rfl⟩ := hw
    subst hf
    refine jc_astore_n (L1 := [(1, .ref (f 0)), (0, .ref b)]) C 7 rfl dL_law_7 (by decide) rfl ?_
    refine jc_bipush (v := 10) C 8 dL_law_8 rfl ?_
    refine jc_newa (a0 := (10, .inl z0)) (k' := 115) (z' := 1045) C hA 0 10 ac_int rfl rfl (fun _ => by rw [vp_cell_i]; rfl) (by decide) (by decide) (by decide) rfl rfl (Nat.le_of_ble_eq_true rfl) (Nat.le_of_ble_eq_true rfl) dL_law_10 (fun q0 => ?_)
    refine jc_astore_n (L1 := [(2, .ref q0), (1, .ref (f 0)), (0, .ref b)]) C 12 rfl dL_law_12 (by decide) rfl ?_
    refine jc_bipush (v := 32) C 13 dL_law_13 rfl ?_
    refine jc_newa (a0 := (32, .inl z0)) (k' := 116) (z' := 1077) C hA 0 15 ac_int rfl rfl (fun _ => by rw [vp_cell_i]; rfl) (by decide) (by decide) (by decide) rfl rfl (Nat.le_of_ble_eq_true rfl) (Nat.le_of_ble_eq_true rfl) dL_law_15 (fun q1 => ?_)
    refine jc_astore_n (L1 := [(3, .ref q1), (2, .ref q0), (1, .ref (f 0)), (0, .ref b)]) C 17 rfl dL_law_17 (by decide) rfl ?_
    refine jc_bipush (v := 48) C 18 dL_law_18 rfl ?_
    refine jc_newa (a0 := (48, .inl z0)) (k' := 117) (z' := 1125) C hA 0 20 ac_int rfl rfl (fun _ => by rw [vp_cell_i]; rfl) (by decide) (by decide) (by decide) rfl rfl (Nat.le_of_ble_eq_true rfl) (Nat.le_of_ble_eq_true rfl) dL_law_20 (fun q2 => ?_)
    refine jc_astore (L1 := [(4, .ref q2), (3, .ref q1), (2, .ref q0), (1, .ref (f 0)), (0, .ref b)]) C 22 dL_law_22 (by decide) rfl ?_
    refine jc_bipush (v := 48) C 24 dL_law_24 rfl ?_
    refine jc_newa (a0 := (48, .inl z0)) (k' := 118) (z' := 1173) C hA 0 26 ac_int rfl rfl (fun _ => by rw [vp_cell_i]; rfl) (by decide) (by decide) (by decide) rfl rfl (Nat.le_of_ble_eq_true rfl) (Nat.le_of_ble_eq_true rfl) dL_law_26 (fun q3 => ?_)
    refine jc_astore (L1 := [(5, .ref q3), (4, .ref q2), (3, .ref q1), (2, .ref q0), (1, .ref (f 0)), (0, .ref b)]) C 28 dL_law_28 (by decide) rfl ?_
    refine jc_bipush (v := 48) C 30 dL_law_30 rfl ?_
    refine jc_newa (a0 := (48, .inl z0)) (k' := 119) (z' := 1221) C hA 0 32 ac_int rfl rfl (fun _ => by rw [vp_cell_i]; rfl) (by decide) (by decide) (by decide) rfl rfl (Nat.le_of_ble_eq_true rfl) (Nat.le_of_ble_eq_true rfl) dL_law_32 (fun q4 => ?_)
    refine jc_astore (L1 := [(6, .ref q4), (5, .ref q3), (4, .ref q2), (3, .ref q1), (2, .ref q0), (1, .ref (f 0)), (0, .ref b)]) C 34 dL_law_34 (by decide) rfl ?_
    refine jc_L (L' := [(0, .ref b), (1, .ref (f 0)), (2, .ref q0), (3, .ref q1), (4, .ref q2), (5, .ref q3), (6, .ref q4)]) [6, 5, 4, 3, 2, 1, 0] rfl ?_
    refine jc_ws (ws' := (((((wX5 G.2.1 f ++ [(q0, cI (G.2.1 0) 10 z0)]) ++ [(q1, cI (G.2.1 0) 32 z0)]) ++ [(q2, cI (G.2.1 0) 48 z0)]) ++ [(q3, cI (G.2.1 0) 48 z0)]) ++ [(q4, cI (G.2.1 0) 48 z0)])) rfl ?_
    intro H locs ls hP hD hS hl1
    have hP1 := world_P hP
    have hD1 := world_D (D := G.1) hD
    have hok : Gok (G.1, G.2.1, adL f q0 q1 q2 q3 q4) := ⟨Nat.le_refl 119, fun i j hi hj e => hD1.1 i j _ _ (wld_at (G.1, G.2.1, adL f q0 q1 q2 q3 q4) VA0 hi) (wld_at (G.1, G.2.1, adL f q0 q1 q2 q3 q4) VA0 hj) e⟩
    have hge : ∀ i, i < 119 → s.heap.size ≤ adL f q0 q1 q2 q3 q4 i := fun i hi => hD1.2 i _ (wld_at (G.1, G.2.1, adL f q0 q1 q2 q3 q4) VA0 hi)
    have hno : ∀ q : Nat, q < s.heap.size → ¬ AA (G.1, G.2.1, adL f q0 q1 q2 q3 q4) s.heap.size q := by
      intro q hq h
      rcases h with ⟨i, hi, he⟩ | h
      · have h3 : s.heap.size ≤ adL f q0 q1 q2 q3 q4 i := hge i hi
        have h4 : q = adL f q0 q1 q2 q3 q4 i := he
        omega
      · omega
    obtain ⟨sa, hXK⟩ := law_X hts hN hno
    have hWK : WK (G.1, G.2.1, adL f q0 q1 q2 q3 q4) s := ⟨hWI.1.1, hWI.1.2⟩
    have C2 : Cx (G.1, G.2.1, adL f q0 q1 q2 q3 q4) 11 (p, l, e, room_1, s, m, #[Value.ref b], below, meth, c, 119, 1221) RL cL_law 12 := ⟨hx, hc, hml, hown, fun w h => hts w (gw_tbl h), hWK, hok, hlocks, Nat.le_of_ble_eq_true rfl, Nat.le_of_ble_eq_true rfl, Nat.le_of_ble_eq_true rfl, Nat.le_of_ble_eq_true rfl⟩
    have hS2 : va_S (AA (G.1, G.2.1, adL f q0 q1 q2 q3 q4) s.heap.size) s.heap H locs := ⟨hS.1, fun q h1 h2 => hS.2.1 q h1 (fun z => h2 (Or.inr z)), fun q hq => Or.inr (hS.2.2 q hq)⟩
    have T : TB (G.1, G.2.1, adL f q0 q1 q2 q3 q4) sa 1000 3000 (p, l, e, room_1, s, m, #[Value.ref b], below, meth, c, 119, 1221) 12 226 := ⟨hXK, hl, Nat.le_of_ble_eq_true rfl, Nat.le_of_ble_eq_true rfl, Nat.le_of_ble_eq_true rfl, Nat.le_of_ble_eq_true rfl⟩
    have C3 := C2.set (k := 1000) (z := 3000) (Nat.le_of_ble_eq_true rfl) (Nat.le_of_ble_eq_true rfl)
    have hS0 : Scr (G.1, G.2.1, adL f q0 q1 q2 q3 q4) (p, l, e, room_1, s, m, #[Value.ref b], below, meth, c, 119, 1221) b Ln sc := ⟨hSc, hbl, hno b hbl⟩
    refine w_L_law_a (Q := fun _ => Q) (w := (fun _ => (0, z0))) C2 hr T b Ln sc hS0 rfl (fun v i => g_law Ln sc 57 v i) (fun v i => wl_law 57 (xset (p, l, e, room_1, s, m, #[Value.ref b], below, meth, c, 119, 1221) 1000 3000) C3 hr hXK hl hS0 rfl (Nat.le_of_ble_eq_true rfl) (Nat.le_of_ble_eq_true rfl) (fun k y V j hk hy => ?_) v i) (VC0, VW0) () hg H locs ls hP1 hS2 hl1
    intro x0 _ H2 locs2 ls2 _ hS3 _
    refine va_forget (fun q hq => ?_) (W.widen ?_ ?_ (hend H2 ls2))
    · rcases hS3.2.2 q hq with ⟨i, hi, he⟩ | h
      · have h3 : s.heap.size ≤ adL f q0 q1 q2 q3 q4 i := hge i hi
        have h4 : q.base = adL f q0 q1 q2 q3 q4 i := he
        show s.heap.size ≤ q.base
        rw [h4]
        exact h3
      · exact h
    · have hk2 : k ≤ 1000 + 14 * 57 := hk
      show k ≤ 627853
      omega
    · have hy2 : y ≤ 3000 + 238 * 57 := hy
      show y ≤ 7218065
      omega
  exact K s.heap [] ls (fun k q h => (by cases h)) ⟨fun i j p q h => (by cases h), fun k q h => (by cases h)⟩ va_S.rf hl0
